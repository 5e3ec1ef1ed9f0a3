/-! The reference (X12): bases -/
def xchB (B : Nat → Bool) (a b x : Nat) : Bool := !(sdf a b).testBit x || anyB (fun y => (sdf b a).testBit y && B (sdf a (2 ^ x) ||| 2 ^ y)) 10
def BrkP (B : Nat → Bool) (a b x : Nat) : Prop := a < 1024 ∧ b < 1024 ∧ B a = true ∧ B b = true ∧ x < 10 ∧ xchB B a b x = false ∧ (∀ y, y < x → xchB B a b y = true) ∧ ∀ a' b', a' < 1024 → b' < 1024 → B a' = true → B b' = true → (a' < a ∨ (a' = a ∧ b' < b)) → ∀ y, y < 10 → xchB B a' b' y = true
def xchO (B : Nat → Bool) : Prop := ∀ a b, a < 1024 → b < 1024 → B a = true → B b = true → ∀ y, y < 10 → xchB B a b y = true
def evnP (w : Nat → Nat) (c : Nat) : Prop := 0 < c ∧ ∀ k, k < c → bc (w k) = bc (w 0)
abbrev brkA (x y z : Int) : Ob := aI .int 3 (fun j => if j = 0 then x else if j = 1 then y else z)
def basB (w : Nat → Nat) (c s : Nat) : Bool := anyB (fun k => w k == s) c
def freB (w : Nat → Nat) (c s : Nat) : Bool := anyB (fun t => basB w c t && (s &&& t == s)) 1024
def basM (w : Nat → Nat) (c e : Nat) : Nat → Nat := filN (freB w c) e (fun _ => 0) (2 ^ e)
section C9e
variable {l : Launch} {D : va_G} {S0 : State} {DR : (Nat → Nat) → Nat → Nat → Option (Nat → Nat) → Prop}
set_option maxRecDepth 100000 in
theorem c_X12_breaks (hW : WOK l D S0) (d : Nat) {h : AH} {a la row brk al wk us kp pt lb : Nat} {th c : Int} {g : Nat → Int} (k1 : h a = some (la, oMod th c row brk al wk us kp pt)) (kb : h brk = some (lb, aI .int 3 g)) (hl : la ≠ lb) (x y z : Int) : MA l D S0 yX12_breaks cX12_breaks 4 none d [.ref a, I x, I y, I z] h 0 0 (fun r h' => r = none ∧ h' = hset h brk (lb, brkA x y z)) (fun _ _ => False) := by
  refine MA.start hW (by decide) [.val (.ref a), .val (I x), .val (I y), .val (I z)] rfl ?_
  rintro X rfl rfl rfl hX
  refine wa_aload_n hX (i := 0) dX12_breaks_0 rfl rfl ?_
  refine wa_get hX 3 (by assumption) (by rfl) (by decide +kernel) dX12_breaks_1 ?_
  refine wi_iconst hX dX12_breaks_4 ?_
  refine wa_iload_n hX (i := 1) dX12_breaks_5 rfl rfl ?_
  refine wi_iastore hX kb (by omega) (by omega) (by omega) dX12_breaks_6 ?_
  have k2 := hset_lab (x := (lb, aI .int 3 (up g (0 : Int).toNat x))) kb k1 hl
  have b2 : hset h brk (lb, aI .int 3 (up g (0 : Int).toNat x)) brk = some (lb, aI .int 3 (up g (0 : Int).toNat x)) := hset_eq
  refine wa_aload_n hX (i := 0) dX12_breaks_7 rfl rfl ?_
  refine wa_get hX 3 (by assumption) (by rfl) (by decide +kernel) dX12_breaks_8 ?_
  refine wi_iconst hX dX12_breaks_11 ?_
  refine wa_iload_n hX (i := 2) dX12_breaks_12 rfl rfl ?_
  refine wi_iastore hX b2 (by omega) (by omega) (by omega) dX12_breaks_13 ?_
  rw [hset_hset]
  have k3 := hset_lab (x := (lb, aI .int 3 (up (up g (0 : Int).toNat x) (1 : Int).toNat y))) kb k1 hl
  have b3 : hset h brk (lb, aI .int 3 (up (up g (0 : Int).toNat x) (1 : Int).toNat y)) brk = some (lb, aI .int 3 (up (up g (0 : Int).toNat x) (1 : Int).toNat y)) := hset_eq
  refine wa_aload_n hX (i := 0) dX12_breaks_14 rfl rfl ?_
  refine wa_get hX 3 (by assumption) (by rfl) (by decide +kernel) dX12_breaks_15 ?_
  refine wi_iconst hX dX12_breaks_18 ?_
  refine wa_iload_n hX (i := 3) dX12_breaks_19 rfl rfl ?_
  refine wi_iastore hX b3 (by omega) (by omega) (by omega) dX12_breaks_20 ?_
  rw [hset_hset]
  have b4 : hset h brk (lb, aI .int 3 (up (up (up g (0 : Int).toNat x) (1 : Int).toNat y) (2 : Int).toNat z)) brk = some (lb, aI .int 3 (up (up (up g (0 : Int).toNat x) (1 : Int).toNat y) (2 : Int).toNat z)) := hset_eq
  refine WA.ext9 (fun j => if j = 0 then x else if j = 1 then y else z) b4 (fun j hj => ?_) ?_
  · rcases (by omega : j = 0 ∨ j = 1 ∨ j = 2) with rfl | rfl | rfl <;> rfl
  rw [hset_hset]
  refine wa_vret hX dX12_breaks_21 ?_
  exact ⟨rfl, rfl⟩
set_option maxRecDepth 100000 in
theorem c_X12_areExchanged (hW : WOK l D S0) (d : Nat) {h : AH} {me la row brk al wk us kp pt lb q lq a b : Nat} {th c : Int} {g : Nat → Int} {B : Nat → Bool} (k1 : h me = some (la, oMod th c row brk al wk us kp pt)) (kb : h brk = some (lb, aI .int 3 g)) (hl : la ≠ lb) (hq : h q = some (lq, aI .boolean 1024 (fun j => ((b2n (B j) : Nat) : Int)))) (ha : a < 1024) (hb : b < 1024) : MA l D S0 yX12_areExchanged cX12_areExchanged 7 (some .boolean) (d + 1) [.ref me, .ref q, I (a : Int), I (b : Int)] h 0 0 (fun r h' => ((∀ y, y < 10 → xchB B a b y = true) ∧ r = some (I 1) ∧ h' = h) ∨ ∃ x, x < 10 ∧ (∀ y, y < x → xchB B a b y = true) ∧ xchB B a b x = false ∧ r = some (I 0) ∧ h' = hset h brk (lb, brkA (a : Int) (b : Int) (x : Int))) (fun _ _ => False) := by
  refine MA.start hW (by decide) [.val (.ref me), .val (.ref q), .val (I (a : Int)), .val (I (b : Int)), .unset, .unset, .unset] rfl ?_
  rintro X rfl rfl rfl hX
  refine wi_iconst hX dX12_areExchanged_0 ?_
  refine wa_istore hX dX12_areExchanged_1 (by first | rfl | assumption) ?_
  dsimp only [List.set]
  refine WA.loop (σ := Nat × Slot × Slot) (fun z => 10 - z.1) (fun z => z.1 ≤ 10 ∧ (∀ y, y < z.1 → xchB B a b y = true) ∧ okS [z.2.1] 0 = true ∧ okS [z.2.2] 0 = true) (fun _ => h) (fun z => [.val (.ref me), .val (.ref q), .val (I (a : Int)), .val (I (b : Int)), .val (I (z.1 : Nat)), z.2.1, z.2.2]) ?_ (0, .unset, .unset) ⟨Nat.zero_le _, fun y hy => absurd hy (Nat.not_lt_zero y), rfl, rfl⟩
  rintro ⟨x, u5, u6⟩ ⟨hx, hF, hu5, hu6⟩ ih
  dsimp only at hx hF hu5 hu6 ⊢
  have hst : xchB B a b x = (!(sdf a b).testBit x || anyB (fun y => (sdf b a).testBit y && B (sdf a (2 ^ x) ||| 2 ^ y)) 10) := rfl
  have hs1 : sdf a b < 2 ^ 10 := sdf_lt ha
  have hs2 : sdf b a < 2 ^ 10 := sdf_lt hb
  have t102 : ∀ u5 u6 : Slot, okS [u5] 0 = true → okS [u6] 0 = true → x < 10 → xchB B a b x = true → WA X h 0 0 102 [.val (.ref me), .val (.ref q), .val (I (a : Int)), .val (I (b : Int)), .val (I (x : Nat)), u5, u6] [] := by
    intro u5 u6 hu5 hu6 hx9 hxt
    refine wi_iinc hX dX12_areExchanged_102 rfl ?_
    dsimp only [List.set]
    refine wa_goto hX (tgt := 3) dX12_areExchanged_105 (by decide) ?_
    refine ih (x + 1, u5, u6) ⟨by show x + 1 ≤ 10; omega, fun y hy => ?_, hu5, hu6⟩ (by show 10 - (x + 1) < 10 - x; omega)
    have hy2 : y < x + 1 := hy
    by_cases g : y = x
    · subst g; exact hxt
    · exact hF y (by omega)
  refine wa_iload hX dX12_areExchanged_3 rfl ?_
  refine wi_bipush hX dX12_areExchanged_5 (by decide) ?_
  refine wi_icmp_ge hX (tgt := 108) dX12_areExchanged_7 (by decide) (by omega) (by omega) (fun c7 => ?_) (fun c7 => ?_)
  · skip
    refine wi_iconst hX dX12_areExchanged_108 ?_
    refine wa_zret hX dX12_areExchanged_109 (by rfl) ?_
    exact Or.inl ⟨fun y hy => hF y (by omega), rfl, rfl⟩
  · skip
    refine wa_iload_n hX (i := 2) dX12_areExchanged_10 rfl rfl ?_
    refine wa_iload_n hX (i := 3) dX12_areExchanged_11 rfl rfl ?_
    refine wi_iconst hX dX12_areExchanged_12 ?_
    refine wa_ixor hX dX12_areExchanged_13 ?_
    refine wn_andn hX dX12_areExchanged_14 (by rfl) (by rfl) ?_
    refine wa_iload hX dX12_areExchanged_15 rfl ?_
    refine wn_ishr hX dX12_areExchanged_17 (by rfl) (by rfl) (by omega) (by omega) ?_
    refine wi_iconst hX dX12_areExchanged_18 ?_
    refine wn_iand hX dX12_areExchanged_19 (by rfl) (by rfl) ?_
    rw [bit1]
    refine wi_iconst hX dX12_areExchanged_20 ?_
    refine wi_icmp_ne hX (tgt := 102) dX12_areExchanged_21 (by decide) (by first | exact b2n_inR _ | decide +kernel) (by first | exact b2n_inR _ | decide +kernel) (fun c21 => ?_) (fun c21 => ?_)
    · skip
      refine t102 u5 u6 hu5 hu6 (by omega) ?_
      have q1 : (sdf a b).testBit x = false := by
        cases hbb : (sdf a b).testBit x
        · rfl
        · rw [hbb] at c21; exact absurd rfl c21
      rw [hst, q1]
      rfl
    · skip
      refine wi_iconst hX dX12_areExchanged_24 ?_
      refine wa_istore hX dX12_areExchanged_25 (by first | rfl | assumption) ?_
      dsimp only [List.set]
      refine wi_iconst hX dX12_areExchanged_27 ?_
      refine wa_istore hX dX12_areExchanged_28 (by first | rfl | assumption) ?_
      dsimp only [List.set]
      have q0 : (sdf a b).testBit x = true := b2n_1 c21
      rw [q0, Bool.not_true, Bool.false_or] at hst
      refine WA.loop (σ := Nat) (fun y => 10 - y) (fun y => y ≤ 10) (fun _ => h) (fun y => [.val (.ref me), .val (.ref q), .val (I (a : Int)), .val (I (b : Int)), .val (I (x : Nat)), .val (I ((b2n (anyB (fun y => (sdf b a).testBit y && B (sdf a (2 ^ x) ||| 2 ^ y)) y) : Nat) : Int)), .val (I (y : Nat))]) ?_ 0 (Nat.zero_le _)
      intro y hy ih2
      have hsy : anyB (fun y => (sdf b a).testBit y && B (sdf a (2 ^ x) ||| 2 ^ y)) (y + 1) = (anyB (fun y => (sdf b a).testBit y && B (sdf a (2 ^ x) ||| 2 ^ y)) y || ((sdf b a).testBit y && B (sdf a (2 ^ x) ||| 2 ^ y))) := rfl
      have t79 : ∀ v : Bool, y < 10 → v = anyB (fun y => (sdf b a).testBit y && B (sdf a (2 ^ x) ||| 2 ^ y)) (y + 1) → WA X h 0 0 79 [.val (.ref me), .val (.ref q), .val (I (a : Int)), .val (I (b : Int)), .val (I (x : Nat)), .val (I ((b2n (anyB (fun y => (sdf b a).testBit y && B (sdf a (2 ^ x) ||| 2 ^ y)) y) : Nat) : Int)), .val (I (y : Nat))] [I ((b2n v : Nat) : Int)] := by
        intro v hy9 hv
        subst hv
        refine wa_istore hX dX12_areExchanged_79 (by first | rfl | assumption) ?_
        dsimp only [List.set]
        refine wi_iinc hX dX12_areExchanged_81 rfl ?_
        dsimp only [List.set]
        refine wa_goto hX (tgt := 30) dX12_areExchanged_84 (by decide) ?_
        exact ih2 (y + 1) (by omega) (by omega)
      refine wa_iload hX dX12_areExchanged_30 rfl ?_
      refine wi_bipush hX dX12_areExchanged_32 (by decide) ?_
      refine wi_icmp_ge hX (tgt := 87) dX12_areExchanged_34 (by decide) (by omega) (by omega) (fun c34 => ?_) (fun c34 => ?_)
      · skip
        refine wa_iload hX dX12_areExchanged_87 rfl ?_
        have hye : y = 10 := by omega
        rw [hye]
        refine wi_if_ne hX (tgt := 102) dX12_areExchanged_89 (by decide) (by exact b2n_inR _) (fun c89 => ?_) (fun c89 => ?_)
        · skip
          exact t102 _ _ rfl rfl (by omega) (by rw [hst]; exact b2n_t c89)
        · skip
          refine wa_aload_n hX (i := 0) dX12_areExchanged_92 rfl rfl ?_
          refine wa_iload_n hX (i := 2) dX12_areExchanged_93 rfl rfl ?_
          refine wa_iload_n hX (i := 3) dX12_areExchanged_94 rfl rfl ?_
          refine wa_iload hX dX12_areExchanged_95 rfl ?_
          refine wa_callV hX (c_X12_breaks hW d k1 kb hl (a : Int) (b : Int) (x : Int)) (by assumption) (by rfl) (by rfl) (by omega) (nA := 3) (by rfl) (by decide +kernel) rfl (by exact Nat.le_of_ble_eq_true rfl) dX12_areExchanged_97 (fun r97 h97 p97 => ?_) (fun _ _ q => q.elim)
          obtain ⟨rfl, hh97⟩ := p97
          dsimp only [Option.toList, List.cons_append, List.nil_append]
          refine wi_iconst hX dX12_areExchanged_100 ?_
          refine wa_zret hX dX12_areExchanged_101 (by rfl) ?_
          exact Or.inr ⟨x, by omega, hF, by rw [hst]; exact b2n_f c89, rfl, hh97⟩
      · skip
        refine wa_iload hX dX12_areExchanged_37 rfl ?_
        refine wi_if_ne hX (tgt := 74) dX12_areExchanged_39 (by decide) (by exact b2n_inR _) (fun c39 => ?_) (fun c39 => ?_)
        · skip
          refine wi_iconst hX dX12_areExchanged_74 ?_
          refine wa_goto hX (tgt := 79) dX12_areExchanged_75 (by decide) ?_
          first
            | (have q1 := b2n_t c39
               exact WA.eq rfl rfl rfl (t79 true (by omega) (by rw [hsy, q1]; rfl)))
            | (have q1 := b2n_f c39
               have q2 : (sdf b a).testBit y = true := b2n_1 c53
               have q3 := b2n_t c71
               exact WA.eq rfl rfl rfl (t79 true (by omega) (by rw [hsy, q1, q2, q3]; rfl)))
            | (have q1 := b2n_f c39
               have q2 : (sdf b a).testBit y = true := b2n_1 c53
               have q3 := b2n_f c71
               exact WA.eq rfl rfl rfl (t79 false (by omega) (by rw [hsy, q1, q2, q3]; rfl)))
            | (have q1 := b2n_f c39
               have q2 : (sdf b a).testBit y = false := by
                 cases hbb : (sdf b a).testBit y
                 · rfl
                 · rw [hbb] at c53; exact absurd rfl c53
               exact WA.eq rfl rfl rfl (t79 false (by omega) (by rw [hsy, q1, q2]; rfl)))
        · skip
          refine wa_iload_n hX (i := 3) dX12_areExchanged_42 rfl rfl ?_
          refine wa_iload_n hX (i := 2) dX12_areExchanged_43 rfl rfl ?_
          refine wi_iconst hX dX12_areExchanged_44 ?_
          refine wa_ixor hX dX12_areExchanged_45 ?_
          refine wn_andn hX dX12_areExchanged_46 (by rfl) (by rfl) ?_
          refine wa_iload hX dX12_areExchanged_47 rfl ?_
          refine wn_ishr hX dX12_areExchanged_49 (by rfl) (by rfl) (by omega) (by omega) ?_
          refine wi_iconst hX dX12_areExchanged_50 ?_
          refine wn_iand hX dX12_areExchanged_51 (by rfl) (by rfl) ?_
          rw [bit1]
          refine wi_iconst hX dX12_areExchanged_52 ?_
          refine wi_icmp_ne hX (tgt := 78) dX12_areExchanged_53 (by decide) (by first | exact b2n_inR _ | decide +kernel) (by first | exact b2n_inR _ | decide +kernel) (fun c53 => ?_) (fun c53 => ?_)
          · skip
            refine wi_iconst hX dX12_areExchanged_78 ?_
            first
              | (have q1 := b2n_t c39
                 exact WA.eq rfl rfl rfl (t79 true (by omega) (by rw [hsy, q1]; rfl)))
              | (have q1 := b2n_f c39
                 have q2 : (sdf b a).testBit y = true := b2n_1 c53
                 have q3 := b2n_t c71
                 exact WA.eq rfl rfl rfl (t79 true (by omega) (by rw [hsy, q1, q2, q3]; rfl)))
              | (have q1 := b2n_f c39
                 have q2 : (sdf b a).testBit y = true := b2n_1 c53
                 have q3 := b2n_f c71
                 exact WA.eq rfl rfl rfl (t79 false (by omega) (by rw [hsy, q1, q2, q3]; rfl)))
              | (have q1 := b2n_f c39
                 have q2 : (sdf b a).testBit y = false := by
                   cases hbb : (sdf b a).testBit y
                   · rfl
                   · rw [hbb] at c53; exact absurd rfl c53
                 exact WA.eq rfl rfl rfl (t79 false (by omega) (by rw [hsy, q1, q2]; rfl)))
          · skip
            refine wa_aload_n hX (i := 1) dX12_areExchanged_56 rfl rfl ?_
            refine wa_iload_n hX (i := 2) dX12_areExchanged_57 rfl rfl ?_
            refine wi_iconst hX dX12_areExchanged_58 ?_
            refine wa_iload hX dX12_areExchanged_59 rfl ?_
            refine wn_shl1 hX dX12_areExchanged_61 (by rfl) (by omega) ?_
            refine wi_iconst hX dX12_areExchanged_62 ?_
            refine wa_ixor hX dX12_areExchanged_63 ?_
            refine wn_andn hX dX12_areExchanged_64 (by rfl) (by rfl) ?_
            refine wi_iconst hX dX12_areExchanged_65 ?_
            refine wa_iload hX dX12_areExchanged_66 rfl ?_
            refine wn_shl1 hX dX12_areExchanged_68 (by rfl) (by omega) ?_
            refine wn_ior hX dX12_areExchanged_69 (by rfl) (by rfl) ?_
            have hbx : 2 ^ x < 2 ^ 10 := bit_lt (by omega)
            have hby : 2 ^ y < 2 ^ 10 := bit_lt (by omega)
            have hor : sdf a (2 ^ x) ||| 2 ^ y < 2 ^ 10 := or_lt (sdf_lt ha) hby
            refine wi_zaload hX hq (by omega) (by omega) (by omega) dX12_areExchanged_70 ?_
            rw [Int.toNat_natCast]
            refine wi_if_eq hX (tgt := 78) dX12_areExchanged_71 (by decide) (by exact b2n_inR _) (fun c71 => ?_) (fun c71 => ?_)
            · skip
              refine wi_iconst hX dX12_areExchanged_78 ?_
              first
                | (have q1 := b2n_t c39
                   exact WA.eq rfl rfl rfl (t79 true (by omega) (by rw [hsy, q1]; rfl)))
                | (have q1 := b2n_f c39
                   have q2 : (sdf b a).testBit y = true := b2n_1 c53
                   have q3 := b2n_t c71
                   exact WA.eq rfl rfl rfl (t79 true (by omega) (by rw [hsy, q1, q2, q3]; rfl)))
                | (have q1 := b2n_f c39
                   have q2 : (sdf b a).testBit y = true := b2n_1 c53
                   have q3 := b2n_f c71
                   exact WA.eq rfl rfl rfl (t79 false (by omega) (by rw [hsy, q1, q2, q3]; rfl)))
                | (have q1 := b2n_f c39
                   have q2 : (sdf b a).testBit y = false := by
                     cases hbb : (sdf b a).testBit y
                     · rfl
                     · rw [hbb] at c53; exact absurd rfl c53
                   exact WA.eq rfl rfl rfl (t79 false (by omega) (by rw [hsy, q1, q2]; rfl)))
            · skip
              refine wi_iconst hX dX12_areExchanged_74 ?_
              refine wa_goto hX (tgt := 79) dX12_areExchanged_75 (by decide) ?_
              first
                | (have q1 := b2n_t c39
                   exact WA.eq rfl rfl rfl (t79 true (by omega) (by rw [hsy, q1]; rfl)))
                | (have q1 := b2n_f c39
                   have q2 : (sdf b a).testBit y = true := b2n_1 c53
                   have q3 := b2n_t c71
                   exact WA.eq rfl rfl rfl (t79 true (by omega) (by rw [hsy, q1, q2, q3]; rfl)))
                | (have q1 := b2n_f c39
                   have q2 : (sdf b a).testBit y = true := b2n_1 c53
                   have q3 := b2n_f c71
                   exact WA.eq rfl rfl rfl (t79 false (by omega) (by rw [hsy, q1, q2, q3]; rfl)))
                | (have q1 := b2n_f c39
                   have q2 : (sdf b a).testBit y = false := by
                     cases hbb : (sdf b a).testBit y
                     · rfl
                     · rw [hbb] at c53; exact absurd rfl c53
                   exact WA.eq rfl rfl rfl (t79 false (by omega) (by rw [hsy, q1, q2]; rfl)))
set_option maxHeartbeats 1000000 in
set_option maxRecDepth 100000 in
theorem c_X12_areBases (hW : WOK l D S0) (d : Nat) {h : AH} {me la row brk al wk us kp pt lb q lq c lr : Nat} {th : Int} {g : Nat → Int} {B : Nat → Bool} {w : Nat → Nat} (k1 : h me = some (la, oMod th (c : Int) row brk al wk us kp pt)) (kr : h row = some (lr, aI .int 60 (fun j => ((w j : Nat) : Int)))) (hc : c ≤ 60) (hw : ∀ j, w j < 1024) (kb : h brk = some (lb, aI .int 3 g)) (hl : la ≠ lb) (hq : h q = some (lq, aI .boolean 1024 (fun j => ((b2n (B j) : Nat) : Int)))) : MA l D S0 yX12_areBases cX12_areBases 6 (some .boolean) (d + 2) [.ref me, .ref q] h 0 0 (fun r h' => (evnP w c ∧ xchO B ∧ r = some (I 1) ∧ h' = h) ∨ (¬ evnP w c ∧ r = some (I 0) ∧ h' = h) ∨ (evnP w c ∧ ∃ a b x : Nat, BrkP B a b x ∧ r = some (I 0) ∧ h' = hset h brk (lb, brkA (a : Int) (b : Int) (x : Int)))) (fun _ _ => False) := by
  refine MA.start hW (by decide) [.val (.ref me), .val (.ref q), .unset, .unset, .unset, .unset] rfl ?_
  rintro X rfl rfl rfl hX
  have hw0 := hw 0
  have hb0 := bc_le (w 0)
  have t154 : ∀ (h2 : AH) (v : Bool) (x : Int) (u4 u5 : Slot), ((evnP w c ∧ xchO B ∧ v = true ∧ h2 = h) ∨ (¬ evnP w c ∧ v = false ∧ h2 = h) ∨ (evnP w c ∧ ∃ a b x : Nat, BrkP B a b x ∧ v = false ∧ h2 = hset h brk (lb, brkA (a : Int) (b : Int) (x : Int)))) → WA X h2 0 0 154 [.val (.ref me), .val (.ref q), .val (I x), .val (I ((b2n v : Nat) : Int)), u4, u5] [] := by
    intro h2 v x u4 u5 hv
    refine wa_iload_n hX (i := 3) dX12_areBases_154 rfl rfl ?_
    refine wa_zret hX dX12_areBases_155 (narZ v) ?_
    rcases hv with ⟨a1, a2, rfl, rfl⟩ | ⟨a1, rfl, rfl⟩ | ⟨a1, a, b, x, a2, rfl, rfl⟩
    · exact Or.inl ⟨a1, a2, rfl, rfl⟩
    · exact Or.inr (Or.inl ⟨a1, rfl, rfl⟩)
    · exact Or.inr (Or.inr ⟨a1, a, b, x, a2, rfl, rfl⟩)
  have t18 : WA X h 0 0 18 [.val (.ref me), .val (.ref q), .val (I (-1)), .val (I ((b2n (decide (0 < c)) : Nat) : Int)), .val (I (((0 : Nat)) : Int)), .unset] [] := by
    refine WA.eq rfl (by simp only [allB, Bool.and_true]; rfl) rfl (WA.loop (σ := Nat) (fun k => c - k) (fun k => k ≤ c) (fun _ => h) (fun k => [.val (.ref me), .val (.ref q), .val (I (if k = 0 then -1 else ((bc (w 0) : Nat) : Int))), .val (I ((b2n (decide (0 < c) && allB (fun k => decide (bc (w k) = bc (w 0))) k) : Nat) : Int)), .val (I (k : Nat)), .unset]) ?_ 0 (Nat.zero_le _))
    intro k hk ih
    have hwk := hw k
    have hbk := bc_le (w k)
    have hst : allB (fun k => decide (bc (w k) = bc (w 0))) (k + 1) = (allB (fun k => decide (bc (w k) = bc (w 0))) k && decide (bc (w k) = bc (w 0))) := rfl
    have t58 : ∀ v : Bool, k < c → v = (decide (0 < c) && allB (fun k => decide (bc (w k) = bc (w 0))) (k + 1)) → WA X h 0 0 58 [.val (.ref me), .val (.ref q), .val (I (if k = 0 then -1 else ((bc (w 0) : Nat) : Int))), .val (I ((b2n (decide (0 < c) && allB (fun k => decide (bc (w k) = bc (w 0))) k) : Nat) : Int)), .val (I (k : Nat)), .unset] [I ((b2n v : Nat) : Int)] := by
      intro v hkc hv
      subst hv
      refine wa_istore_n hX (i := 3) dX12_areBases_58 rfl (by first | rfl | assumption) ?_
      dsimp only [List.set]
      refine wa_aload_n hX (i := 0) dX12_areBases_59 rfl rfl ?_
      refine wa_get hX 2 (by assumption) (by rfl) (by decide +kernel) dX12_areBases_60 ?_
      refine wi_iconst hX dX12_areBases_63 ?_
      refine wi_iaload hX (by assumption) (by omega) (by omega) (by omega) dX12_areBases_64 ?_
      rw [show w (Int.toNat 0) = w 0 from rfl]
      refine wa_callS hX (c_J6_bitCount hW d (s := w 0) (by omega)) (by rfl) (by omega) (nA := 1) (by rfl) (by decide +kernel) rfl (by exact Nat.le_of_ble_eq_true rfl) dX12_areBases_65 (fun r65 h65 p65 => ?_) (fun _ _ q => q.elim)
      obtain ⟨rfl, qq65⟩ := p65; subst h65
      dsimp only [Option.toList, List.cons_append, List.nil_append]
      refine wa_istore_n hX (i := 2) dX12_areBases_68 rfl (by first | rfl | assumption) ?_
      dsimp only [List.set]
      refine wi_iinc hX dX12_areBases_69 rfl ?_
      dsimp only [List.set]
      refine wa_goto hX (tgt := 18) dX12_areBases_72 (by decide) ?_
      refine WA.eq rfl ?_ rfl (ih (k + 1) (by omega) (by omega))
      rw [if_neg (Nat.succ_ne_zero k)]
      rfl
    refine wa_iload hX dX12_areBases_18 rfl ?_
    refine wa_aload_n hX (i := 0) dX12_areBases_20 rfl rfl ?_
    refine wa_get hX 1 (by assumption) (by rfl) (by decide +kernel) dX12_areBases_21 ?_
    refine wi_icmp_ge hX (tgt := 75) dX12_areBases_24 (by decide) (by omega) (by omega) (fun c24 => ?_) (fun c24 => ?_)
    · skip
      refine wi_iconst hX dX12_areBases_75 ?_
      refine wa_istore hX dX12_areBases_76 (by first | rfl | assumption) ?_
      dsimp only [List.set]
      have hkc : k = c := by omega
      have hev : (decide (0 < c) && allB (fun k => decide (bc (w k) = bc (w 0))) k) = true ↔ evnP w c := by
        rw [hkc, Bool.and_eq_true, decide_eq_true_eq, allB_iff]
        exact ⟨fun z => ⟨z.1, fun k hk => of_decide_eq_true (z.2 k hk)⟩, fun z => ⟨z.1, fun k hk => decide_eq_true (z.2 k hk)⟩⟩
      generalize (decide (0 < c) && allB (fun k => decide (bc (w k) = bc (w 0))) k) = v0 at hev ⊢
      cases v0
      · have hn : ¬ evnP w c := fun z => by have := hev.mpr z; cases this
        refine wa_iload hX dX12_areBases_78 rfl ?_
        refine wi_sipush hX dX12_areBases_80 (by decide) ?_
        refine wi_icmp_ge hX (tgt := 154) dX12_areBases_83 (by decide) (by omega) (by omega) (fun c83 => ?_) (fun c83 => ?_)
        · skip
          exact t154 h false _ _ _ (Or.inr (Or.inl ⟨hn, rfl, rfl⟩))
        · skip
          refine wa_iload_n hX (i := 3) dX12_areBases_86 rfl rfl ?_
          refine wi_if_eq hX (tgt := 154) dX12_areBases_87 (by decide) (by exact b2n_inR _) (fun c87 => ?_) (fun c87 => ?_)
          · skip
            exact t154 h false _ _ _ (Or.inr (Or.inl ⟨hn, rfl, rfl⟩))
          · skip
            exact absurd rfl (show ¬ (b2n false : Nat) = 0 by intro _; exact c87 rfl)
      · have he : evnP w c := hev.mp rfl
        have hk0 : k ≠ 0 := by have := he.1; omega
        rw [if_neg hk0]
        refine WA.loop (σ := Nat × Slot) (fun z => 1024 - z.1) (fun z => z.1 ≤ 1024 ∧ (∀ a b, a < z.1 → b < 1024 → B a = true → B b = true → ∀ y, y < 10 → xchB B a b y = true) ∧ okS [z.2] 0 = true) (fun _ => h) (fun z => [.val (.ref me), .val (.ref q), .val (I ((bc (w 0) : Nat) : Int)), .val (I ((b2n true : Nat) : Int)), .val (I (z.1 : Nat)), z.2]) ?_ (0, .unset) ⟨Nat.zero_le _, fun a b ha => absurd ha (Nat.not_lt_zero a), rfl⟩
        rintro ⟨a, u5⟩ ⟨ha, hN, hu5⟩ ih2
        dsimp only at ha hN hu5 ⊢
        have t148 : ∀ u5 : Slot, okS [u5] 0 = true → a < 1024 → (∀ b, b < 1024 → B a = true → B b = true → ∀ y, y < 10 → xchB B a b y = true) → WA X h 0 0 148 [.val (.ref me), .val (.ref q), .val (I ((bc (w 0) : Nat) : Int)), .val (I ((b2n true : Nat) : Int)), .val (I (a : Nat)), u5] [] := by
          intro u5 hu5 ha9 hN2
          refine wi_iinc hX dX12_areBases_148 rfl ?_
          dsimp only [List.set]
          refine wa_goto hX (tgt := 78) dX12_areBases_151 (by decide) ?_
          refine ih2 (a + 1, u5) ⟨by show a + 1 ≤ 1024; omega, fun a' b' ha' hb' => ?_, hu5⟩ (by show 1024 - (a + 1) < 1024 - a; omega)
          have ha2 : a' < a + 1 := ha'
          by_cases g : a' = a
          · subst g; exact hN2 b' hb'
          · exact hN a' b' (by omega) hb'
        have t98 : a < 1024 → WA X h 0 0 98 [.val (.ref me), .val (.ref q), .val (I ((bc (w 0) : Nat) : Int)), .val (I ((b2n true : Nat) : Int)), .val (I (a : Nat)), .val (I (((0 : Nat)) : Int))] [] := by
          intro ha9
          refine WA.loop (σ := Nat) (fun z => 1024 - z) (fun z => z ≤ 1024 ∧ (∀ b, b < z → B a = true → B b = true → ∀ y, y < 10 → xchB B a b y = true)) (fun _ => h) (fun z => [.val (.ref me), .val (.ref q), .val (I ((bc (w 0) : Nat) : Int)), .val (I ((b2n true : Nat) : Int)), .val (I (a : Nat)), .val (I (z : Nat))]) ?_ 0 ⟨Nat.zero_le _, fun b hb => absurd hb (Nat.not_lt_zero b)⟩
          rintro b ⟨hb, hN2⟩ ih3
          have t141 : b < 1024 → (B a = true → B b = true → ∀ y, y < 10 → xchB B a b y = true) → WA X h 0 0 141 [.val (.ref me), .val (.ref q), .val (I ((bc (w 0) : Nat) : Int)), .val (I ((b2n true : Nat) : Int)), .val (I (a : Nat)), .val (I (b : Nat))] [I ((b2n true : Nat) : Int)] := by
            intro hb9 hN3
            refine wa_istore_n hX (i := 3) dX12_areBases_141 rfl (by first | rfl | assumption) ?_
            dsimp only [List.set]
            refine wi_iinc hX dX12_areBases_142 rfl ?_
            dsimp only [List.set]
            refine wa_goto hX (tgt := 98) dX12_areBases_145 (by decide) ?_
            refine ih3 (b + 1) ⟨by omega, fun b' hb' => ?_⟩ (by omega)
            by_cases g : b' = b
            · subst g; exact hN3
            · exact hN2 b' (by omega)
          refine wa_iload hX dX12_areBases_98 rfl ?_
          refine wi_sipush hX dX12_areBases_100 (by decide) ?_
          refine wi_icmp_ge hX (tgt := 148) dX12_areBases_103 (by decide) (by omega) (by omega) (fun c103 => ?_) (fun c103 => ?_)
          · skip
            first
              | exact absurd (show (b2n true : Nat) = 0 by omega) (by decide)
              | (have q1 := b2n_f c114
                 exact t148 _ rfl ha9 (fun b' hb' z => by rw [q1] at z; cases z))
              | exact t148 _ rfl ha9 (fun b' hb' => hN2 b' (by omega))
          · skip
            refine wa_iload_n hX (i := 3) dX12_areBases_106 rfl rfl ?_
            refine wi_if_eq hX (tgt := 148) dX12_areBases_107 (by decide) (by exact b2n_inR _) (fun c107 => ?_) (fun c107 => ?_)
            · skip
              first
                | exact absurd (show (b2n true : Nat) = 0 by omega) (by decide)
                | (have q1 := b2n_f c114
                   exact t148 _ rfl ha9 (fun b' hb' z => by rw [q1] at z; cases z))
                | exact t148 _ rfl ha9 (fun b' hb' => hN2 b' (by omega))
            · skip
              refine wa_aload_n hX (i := 1) dX12_areBases_110 rfl rfl ?_
              refine wa_iload hX dX12_areBases_111 rfl ?_
              refine wi_zaload hX hq (by omega) (by omega) (by omega) dX12_areBases_113 ?_
              rw [Int.toNat_natCast]
              refine wi_if_eq hX (tgt := 148) dX12_areBases_114 (by decide) (by exact b2n_inR _) (fun c114 => ?_) (fun c114 => ?_)
              · skip
                first
                  | exact absurd (show (b2n true : Nat) = 0 by omega) (by decide)
                  | (have q1 := b2n_f c114
                     exact t148 _ rfl ha9 (fun b' hb' z => by rw [q1] at z; cases z))
                  | exact t148 _ rfl ha9 (fun b' hb' => hN2 b' (by omega))
              · skip
                refine wa_aload_n hX (i := 1) dX12_areBases_117 rfl rfl ?_
                refine wa_iload hX dX12_areBases_118 rfl ?_
                refine wi_zaload hX hq (by omega) (by omega) (by omega) dX12_areBases_120 ?_
                rw [Int.toNat_natCast]
                refine wi_if_eq hX (tgt := 136) dX12_areBases_121 (by decide) (by exact b2n_inR _) (fun c121 => ?_) (fun c121 => ?_)
                · skip
                  refine wi_iconst hX dX12_areBases_136 ?_
                  refine wa_goto hX (tgt := 141) dX12_areBases_137 (by decide) ?_
                  first
                    | (have q3 := b2n_t c133
                       rcases hv with ⟨_, v1, v2⟩ | ⟨v1, _⟩
                       · rw [v2]
                         exact WA.eq rfl rfl rfl (t141 (by omega) (fun _ _ => v1))
                       · rw [v1] at q3; cases q3)
                    | (have q3 := b2n_f c133
                       rcases hv with ⟨v1, _⟩ | ⟨_, x, v1, v2, v3, v4⟩
                       · rw [v1] at q3; cases q3
                       · have hbr : BrkP B a b x := ⟨by omega, by omega, q1, q2, v1, v3, v2, fun a' b' ha' hb' h1 h2 h3 => by
                           rcases h3 with h3 | ⟨rfl, h3⟩
                           · exact hN a' b' h3 hb' h1 h2
                           · exact hN2 b' h3 h1 h2⟩
                         have t98b : WA X h130 0 0 141 [.val (.ref me), .val (.ref q), .val (I ((bc (w 0) : Nat) : Int)), .val (I ((b2n true : Nat) : Int)), .val (I (a : Nat)), .val (I (b : Nat))] [I 0] := by
                           have hv9 : (evnP w c ∧ xchO B ∧ false = true ∧ h130 = h) ∨ (¬ evnP w c ∧ false = false ∧ h130 = h) ∨ (evnP w c ∧ ∃ a b x : Nat, BrkP B a b x ∧ false = false ∧ h130 = hset h brk (lb, brkA (a : Int) (b : Int) (x : Int))) := Or.inr (Or.inr ⟨he, a, b, x, hbr, rfl, v4⟩)
                           refine wa_istore_n hX (i := 3) dX12_areBases_141 rfl (by first | rfl | assumption) ?_
                           dsimp only [List.set]
                           refine wi_iinc hX dX12_areBases_142 rfl ?_
                           dsimp only [List.set]
                           refine wa_goto hX (tgt := 98) dX12_areBases_145 (by decide) ?_
                           have tb : ∀ y : Nat, y ≤ 1024 → WA X h130 0 0 148 [.val (.ref me), .val (.ref q), .val (I ((bc (w 0) : Nat) : Int)), .val (I ((b2n false : Nat) : Int)), .val (I (a : Nat)), .val (I (y : Nat))] [] := by
                             intro y hy9
                             refine wi_iinc hX dX12_areBases_148 rfl ?_
                             dsimp only [List.set]
                             refine wa_goto hX (tgt := 78) dX12_areBases_151 (by decide) ?_
                             have hb8 : b2n false = 0 := rfl
                             refine wa_iload hX dX12_areBases_78 rfl ?_
                             refine wi_sipush hX dX12_areBases_80 (by decide) ?_
                             refine wi_icmp_ge hX (tgt := 154) dX12_areBases_83 (by decide) (by omega) (by omega) (fun c83 => ?_) (fun c83 => ?_)
                             · skip
                               exact t154 h130 false _ _ _ hv9
                             · skip
                               refine wa_iload_n hX (i := 3) dX12_areBases_86 rfl rfl ?_
                               refine wi_if_eq hX (tgt := 154) dX12_areBases_87 (by decide) (by omega) (fun c87 => ?_) (fun c87 => ?_)
                               · skip
                                 exact t154 h130 false _ _ _ hv9
                               · skip
                                 exact absurd rfl c87
                           have hb8 : b2n false = 0 := rfl
                           refine wa_iload hX dX12_areBases_98 rfl ?_
                           refine wi_sipush hX dX12_areBases_100 (by decide) ?_
                           refine wi_icmp_ge hX (tgt := 148) dX12_areBases_103 (by decide) (by omega) (by omega) (fun c103 => ?_) (fun c103 => ?_)
                           · skip
                             exact tb (b + 1) (by omega)
                           · skip
                             refine wa_iload_n hX (i := 3) dX12_areBases_106 rfl rfl ?_
                             refine wi_if_eq hX (tgt := 148) dX12_areBases_107 (by decide) (by omega) (fun c107 => ?_) (fun c107 => ?_)
                             · skip
                               exact tb (b + 1) (by omega)
                             · skip
                               exact absurd rfl c107
                         exact t98b)
                    | (have q3 := b2n_f c121
                       exact WA.eq rfl rfl rfl (t141 (by omega) (fun _ z => by rw [q3] at z; cases z)))
                · skip
                  refine wa_aload_n hX (i := 0) dX12_areBases_124 rfl rfl ?_
                  refine wa_aload_n hX (i := 1) dX12_areBases_125 rfl rfl ?_
                  refine wa_iload hX dX12_areBases_126 rfl ?_
                  refine wa_iload hX dX12_areBases_128 rfl ?_
                  refine wa_callV hX (c_X12_areExchanged hW d (a := a) (b := b) k1 kb hl hq (by omega) (by omega)) (by assumption) (by rfl) (by rfl) (by omega) (nA := 3) (by rfl) (by decide +kernel) rfl (by exact Nat.le_of_ble_eq_true rfl) dX12_areBases_130 (fun r130 h130 p130 => ?_) (fun _ _ q => q.elim)
                  have q1 := b2n_t c114
                  have q2 := b2n_t c121
                  obtain ⟨v, rfl, hv⟩ : ∃ v : Bool, r130 = some (I ((b2n v : Nat) : Int)) ∧ ((v = true ∧ (∀ y, y < 10 → xchB B a b y = true) ∧ h130 = h) ∨ (v = false ∧ ∃ x, x < 10 ∧ (∀ y, y < x → xchB B a b y = true) ∧ xchB B a b x = false ∧ h130 = hset h brk (lb, brkA (a : Int) (b : Int) (x : Int)))) := by
                    rcases p130 with ⟨z1, z2, z3⟩ | ⟨x, z1, z2, z3, z4, z5⟩
                    · exact ⟨true, z2, Or.inl ⟨rfl, z1, z3⟩⟩
                    · exact ⟨false, z4, Or.inr ⟨rfl, x, z1, z2, z3, z5⟩⟩
                  dsimp only [Option.toList, List.cons_append, List.nil_append]
                  refine wi_if_eq hX (tgt := 140) dX12_areBases_133 (by decide) (by exact b2n_inR _) (fun c133 => ?_) (fun c133 => ?_)
                  · skip
                    refine wi_iconst hX dX12_areBases_140 ?_
                    first
                      | (have q3 := b2n_t c133
                         rcases hv with ⟨_, v1, v2⟩ | ⟨v1, _⟩
                         · rw [v2]
                           exact WA.eq rfl rfl rfl (t141 (by omega) (fun _ _ => v1))
                         · rw [v1] at q3; cases q3)
                      | (have q3 := b2n_f c133
                         rcases hv with ⟨v1, _⟩ | ⟨_, x, v1, v2, v3, v4⟩
                         · rw [v1] at q3; cases q3
                         · have hbr : BrkP B a b x := ⟨by omega, by omega, q1, q2, v1, v3, v2, fun a' b' ha' hb' h1 h2 h3 => by
                             rcases h3 with h3 | ⟨rfl, h3⟩
                             · exact hN a' b' h3 hb' h1 h2
                             · exact hN2 b' h3 h1 h2⟩
                           have t98b : WA X h130 0 0 141 [.val (.ref me), .val (.ref q), .val (I ((bc (w 0) : Nat) : Int)), .val (I ((b2n true : Nat) : Int)), .val (I (a : Nat)), .val (I (b : Nat))] [I 0] := by
                             have hv9 : (evnP w c ∧ xchO B ∧ false = true ∧ h130 = h) ∨ (¬ evnP w c ∧ false = false ∧ h130 = h) ∨ (evnP w c ∧ ∃ a b x : Nat, BrkP B a b x ∧ false = false ∧ h130 = hset h brk (lb, brkA (a : Int) (b : Int) (x : Int))) := Or.inr (Or.inr ⟨he, a, b, x, hbr, rfl, v4⟩)
                             refine wa_istore_n hX (i := 3) dX12_areBases_141 rfl (by first | rfl | assumption) ?_
                             dsimp only [List.set]
                             refine wi_iinc hX dX12_areBases_142 rfl ?_
                             dsimp only [List.set]
                             refine wa_goto hX (tgt := 98) dX12_areBases_145 (by decide) ?_
                             have tb : ∀ y : Nat, y ≤ 1024 → WA X h130 0 0 148 [.val (.ref me), .val (.ref q), .val (I ((bc (w 0) : Nat) : Int)), .val (I ((b2n false : Nat) : Int)), .val (I (a : Nat)), .val (I (y : Nat))] [] := by
                               intro y hy9
                               refine wi_iinc hX dX12_areBases_148 rfl ?_
                               dsimp only [List.set]
                               refine wa_goto hX (tgt := 78) dX12_areBases_151 (by decide) ?_
                               have hb8 : b2n false = 0 := rfl
                               refine wa_iload hX dX12_areBases_78 rfl ?_
                               refine wi_sipush hX dX12_areBases_80 (by decide) ?_
                               refine wi_icmp_ge hX (tgt := 154) dX12_areBases_83 (by decide) (by omega) (by omega) (fun c83 => ?_) (fun c83 => ?_)
                               · skip
                                 exact t154 h130 false _ _ _ hv9
                               · skip
                                 refine wa_iload_n hX (i := 3) dX12_areBases_86 rfl rfl ?_
                                 refine wi_if_eq hX (tgt := 154) dX12_areBases_87 (by decide) (by omega) (fun c87 => ?_) (fun c87 => ?_)
                                 · skip
                                   exact t154 h130 false _ _ _ hv9
                                 · skip
                                   exact absurd rfl c87
                             have hb8 : b2n false = 0 := rfl
                             refine wa_iload hX dX12_areBases_98 rfl ?_
                             refine wi_sipush hX dX12_areBases_100 (by decide) ?_
                             refine wi_icmp_ge hX (tgt := 148) dX12_areBases_103 (by decide) (by omega) (by omega) (fun c103 => ?_) (fun c103 => ?_)
                             · skip
                               exact tb (b + 1) (by omega)
                             · skip
                               refine wa_iload_n hX (i := 3) dX12_areBases_106 rfl rfl ?_
                               refine wi_if_eq hX (tgt := 148) dX12_areBases_107 (by decide) (by omega) (fun c107 => ?_) (fun c107 => ?_)
                               · skip
                                 exact tb (b + 1) (by omega)
                               · skip
                                 exact absurd rfl c107
                           exact t98b)
                      | (have q3 := b2n_f c121
                         exact WA.eq rfl rfl rfl (t141 (by omega) (fun _ z => by rw [q3] at z; cases z)))
                  · skip
                    refine wi_iconst hX dX12_areBases_136 ?_
                    refine wa_goto hX (tgt := 141) dX12_areBases_137 (by decide) ?_
                    first
                      | (have q3 := b2n_t c133
                         rcases hv with ⟨_, v1, v2⟩ | ⟨v1, _⟩
                         · rw [v2]
                           exact WA.eq rfl rfl rfl (t141 (by omega) (fun _ _ => v1))
                         · rw [v1] at q3; cases q3)
                      | (have q3 := b2n_f c133
                         rcases hv with ⟨v1, _⟩ | ⟨_, x, v1, v2, v3, v4⟩
                         · rw [v1] at q3; cases q3
                         · have hbr : BrkP B a b x := ⟨by omega, by omega, q1, q2, v1, v3, v2, fun a' b' ha' hb' h1 h2 h3 => by
                             rcases h3 with h3 | ⟨rfl, h3⟩
                             · exact hN a' b' h3 hb' h1 h2
                             · exact hN2 b' h3 h1 h2⟩
                           have t98b : WA X h130 0 0 141 [.val (.ref me), .val (.ref q), .val (I ((bc (w 0) : Nat) : Int)), .val (I ((b2n true : Nat) : Int)), .val (I (a : Nat)), .val (I (b : Nat))] [I 0] := by
                             have hv9 : (evnP w c ∧ xchO B ∧ false = true ∧ h130 = h) ∨ (¬ evnP w c ∧ false = false ∧ h130 = h) ∨ (evnP w c ∧ ∃ a b x : Nat, BrkP B a b x ∧ false = false ∧ h130 = hset h brk (lb, brkA (a : Int) (b : Int) (x : Int))) := Or.inr (Or.inr ⟨he, a, b, x, hbr, rfl, v4⟩)
                             refine wa_istore_n hX (i := 3) dX12_areBases_141 rfl (by first | rfl | assumption) ?_
                             dsimp only [List.set]
                             refine wi_iinc hX dX12_areBases_142 rfl ?_
                             dsimp only [List.set]
                             refine wa_goto hX (tgt := 98) dX12_areBases_145 (by decide) ?_
                             have tb : ∀ y : Nat, y ≤ 1024 → WA X h130 0 0 148 [.val (.ref me), .val (.ref q), .val (I ((bc (w 0) : Nat) : Int)), .val (I ((b2n false : Nat) : Int)), .val (I (a : Nat)), .val (I (y : Nat))] [] := by
                               intro y hy9
                               refine wi_iinc hX dX12_areBases_148 rfl ?_
                               dsimp only [List.set]
                               refine wa_goto hX (tgt := 78) dX12_areBases_151 (by decide) ?_
                               have hb8 : b2n false = 0 := rfl
                               refine wa_iload hX dX12_areBases_78 rfl ?_
                               refine wi_sipush hX dX12_areBases_80 (by decide) ?_
                               refine wi_icmp_ge hX (tgt := 154) dX12_areBases_83 (by decide) (by omega) (by omega) (fun c83 => ?_) (fun c83 => ?_)
                               · skip
                                 exact t154 h130 false _ _ _ hv9
                               · skip
                                 refine wa_iload_n hX (i := 3) dX12_areBases_86 rfl rfl ?_
                                 refine wi_if_eq hX (tgt := 154) dX12_areBases_87 (by decide) (by omega) (fun c87 => ?_) (fun c87 => ?_)
                                 · skip
                                   exact t154 h130 false _ _ _ hv9
                                 · skip
                                   exact absurd rfl c87
                             have hb8 : b2n false = 0 := rfl
                             refine wa_iload hX dX12_areBases_98 rfl ?_
                             refine wi_sipush hX dX12_areBases_100 (by decide) ?_
                             refine wi_icmp_ge hX (tgt := 148) dX12_areBases_103 (by decide) (by omega) (by omega) (fun c103 => ?_) (fun c103 => ?_)
                             · skip
                               exact tb (b + 1) (by omega)
                             · skip
                               refine wa_iload_n hX (i := 3) dX12_areBases_106 rfl rfl ?_
                               refine wi_if_eq hX (tgt := 148) dX12_areBases_107 (by decide) (by omega) (fun c107 => ?_) (fun c107 => ?_)
                               · skip
                                 exact tb (b + 1) (by omega)
                               · skip
                                 exact absurd rfl c107
                           exact t98b)
                      | (have q3 := b2n_f c121
                         exact WA.eq rfl rfl rfl (t141 (by omega) (fun _ z => by rw [q3] at z; cases z)))
        refine wa_iload hX dX12_areBases_78 rfl ?_
        refine wi_sipush hX dX12_areBases_80 (by decide) ?_
        refine wi_icmp_ge hX (tgt := 154) dX12_areBases_83 (by decide) (by omega) (by omega) (fun c83 => ?_) (fun c83 => ?_)
        · skip
          first
            | exact absurd (show (b2n true : Nat) = 0 by omega) (by decide)
            | exact t154 h true _ _ _ (Or.inl ⟨he, fun a' b' ha' hb' => hN a' b' (by omega) hb', rfl, rfl⟩)
            | (exfalso; omega)
        · skip
          refine wa_iload_n hX (i := 3) dX12_areBases_86 rfl rfl ?_
          refine wi_if_eq hX (tgt := 154) dX12_areBases_87 (by decide) (by exact b2n_inR _) (fun c87 => ?_) (fun c87 => ?_)
          · skip
            first
              | exact absurd (show (b2n true : Nat) = 0 by omega) (by decide)
              | exact t154 h true _ _ _ (Or.inl ⟨he, fun a' b' ha' hb' => hN a' b' (by omega) hb', rfl, rfl⟩)
              | (exfalso; omega)
          · skip
            refine wa_iload_n hX (i := 2) dX12_areBases_90 rfl rfl ?_
            refine wi_iconst hX dX12_areBases_91 ?_
            refine wi_icmp_eq hX (tgt := 154) dX12_areBases_92 (by decide) (by omega) (by omega) (fun c92 => ?_) (fun c92 => ?_)
            · skip
              first
                | exact absurd (show (b2n true : Nat) = 0 by omega) (by decide)
                | exact t154 h true _ _ _ (Or.inl ⟨he, fun a' b' ha' hb' => hN a' b' (by omega) hb', rfl, rfl⟩)
                | (exfalso; omega)
            · skip
              refine wi_iconst hX dX12_areBases_95 ?_
              refine wa_istore hX dX12_areBases_96 (by first | rfl | assumption) ?_
              dsimp only [List.set]
              exact t98 (by omega)
    · skip
      refine wa_iload_n hX (i := 3) dX12_areBases_27 rfl rfl ?_
      refine wi_if_eq hX (tgt := 57) dX12_areBases_28 (by decide) (by exact b2n_inR _) (fun c28 => ?_) (fun c28 => ?_)
      · skip
        refine wi_iconst hX dX12_areBases_57 ?_
        first
          | (have q1 := b2n_f c28
             exact WA.eq rfl rfl rfl (t58 false (by omega) (by rw [hst, ← Bool.and_assoc, q1]; rfl)))
          | (have q1 := b2n_t c28
             exact WA.eq rfl rfl rfl (t58 true (by omega) (by rw [hst, ← Bool.and_assoc, q1, decide_eq_true (show bc (w k) = bc (w 0) by omega)]; rfl)))
          | (have q1 := b2n_t c28
             exact WA.eq rfl rfl rfl (t58 false (by omega) (by rw [hst, ← Bool.and_assoc, q1, decide_eq_false (show ¬ bc (w k) = bc (w 0) by omega)]; rfl)))
      · skip
        refine wa_aload_n hX (i := 0) dX12_areBases_31 rfl rfl ?_
        refine wa_get hX 2 (by assumption) (by rfl) (by decide +kernel) dX12_areBases_32 ?_
        refine wa_iload hX dX12_areBases_35 rfl ?_
        refine wi_iaload hX (by assumption) (by omega) (by omega) (by omega) dX12_areBases_37 ?_
        rw [Int.toNat_natCast]
        refine wa_callS hX (c_J6_bitCount hW d (s := w k) (by omega)) (by rfl) (by omega) (nA := 1) (by rfl) (by decide +kernel) rfl (by exact Nat.le_of_ble_eq_true rfl) dX12_areBases_38 (fun r38 h38 p38 => ?_) (fun _ _ q => q.elim)
        obtain ⟨rfl, qq38⟩ := p38; subst h38
        dsimp only [Option.toList, List.cons_append, List.nil_append]
        refine wa_aload_n hX (i := 0) dX12_areBases_41 rfl rfl ?_
        refine wa_get hX 2 (by assumption) (by rfl) (by decide +kernel) dX12_areBases_42 ?_
        refine wi_iconst hX dX12_areBases_45 ?_
        refine wi_iaload hX (by assumption) (by omega) (by omega) (by omega) dX12_areBases_46 ?_
        rw [show w (Int.toNat 0) = w 0 from rfl]
        refine wa_callS hX (c_J6_bitCount hW d (s := w 0) (by omega)) (by rfl) (by omega) (nA := 1) (by rfl) (by decide +kernel) rfl (by exact Nat.le_of_ble_eq_true rfl) dX12_areBases_47 (fun r47 h47 p47 => ?_) (fun _ _ q => q.elim)
        obtain ⟨rfl, qq47⟩ := p47; subst h47
        dsimp only [Option.toList, List.cons_append, List.nil_append]
        refine wi_icmp_ne hX (tgt := 57) dX12_areBases_50 (by decide) (by omega) (by omega) (fun c50 => ?_) (fun c50 => ?_)
        · skip
          refine wi_iconst hX dX12_areBases_57 ?_
          first
            | (have q1 := b2n_f c28
               exact WA.eq rfl rfl rfl (t58 false (by omega) (by rw [hst, ← Bool.and_assoc, q1]; rfl)))
            | (have q1 := b2n_t c28
               exact WA.eq rfl rfl rfl (t58 true (by omega) (by rw [hst, ← Bool.and_assoc, q1, decide_eq_true (show bc (w k) = bc (w 0) by omega)]; rfl)))
            | (have q1 := b2n_t c28
               exact WA.eq rfl rfl rfl (t58 false (by omega) (by rw [hst, ← Bool.and_assoc, q1, decide_eq_false (show ¬ bc (w k) = bc (w 0) by omega)]; rfl)))
        · skip
          refine wi_iconst hX dX12_areBases_53 ?_
          refine wa_goto hX (tgt := 58) dX12_areBases_54 (by decide) ?_
          first
            | (have q1 := b2n_f c28
               exact WA.eq rfl rfl rfl (t58 false (by omega) (by rw [hst, ← Bool.and_assoc, q1]; rfl)))
            | (have q1 := b2n_t c28
               exact WA.eq rfl rfl rfl (t58 true (by omega) (by rw [hst, ← Bool.and_assoc, q1, decide_eq_true (show bc (w k) = bc (w 0) by omega)]; rfl)))
            | (have q1 := b2n_t c28
               exact WA.eq rfl rfl rfl (t58 false (by omega) (by rw [hst, ← Bool.and_assoc, q1, decide_eq_false (show ¬ bc (w k) = bc (w 0) by omega)]; rfl)))
  refine wi_iconst hX dX12_areBases_0 ?_
  refine wa_istore_n hX (i := 2) dX12_areBases_1 rfl (by first | rfl | assumption) ?_
  dsimp only [List.set]
  refine wa_aload_n hX (i := 0) dX12_areBases_2 rfl rfl ?_
  refine wa_get hX 1 (by assumption) (by rfl) (by decide +kernel) dX12_areBases_3 ?_
  refine wi_if_le hX (tgt := 13) dX12_areBases_6 (by decide) (by omega) (fun c6 => ?_) (fun c6 => ?_)
  · skip
    refine wi_iconst hX dX12_areBases_13 ?_
    refine WA.eq (pc2 := 14) (st2 := [I ((b2n (decide (0 < c)) : Nat) : Int)]) rfl rfl (by
      first
        | (rw [decide_eq_true (show 0 < c by omega)]; rfl)
        | (rw [decide_eq_false (show ¬ 0 < c by omega)]; rfl)) ?_
    refine wa_istore_n hX (i := 3) dX12_areBases_14 rfl (by first | rfl | assumption) ?_
    dsimp only [List.set]
    refine wi_iconst hX dX12_areBases_15 ?_
    refine wa_istore hX dX12_areBases_16 (by first | rfl | assumption) ?_
    dsimp only [List.set]
    exact t18
  · skip
    refine wi_iconst hX dX12_areBases_9 ?_
    refine wa_goto hX (tgt := 14) dX12_areBases_10 (by decide) ?_
    refine WA.eq (pc2 := 14) (st2 := [I ((b2n (decide (0 < c)) : Nat) : Int)]) rfl rfl (by
      first
        | (rw [decide_eq_true (show 0 < c by omega)]; rfl)
        | (rw [decide_eq_false (show ¬ 0 < c by omega)]; rfl)) ?_
    refine wa_istore_n hX (i := 3) dX12_areBases_14 rfl (by first | rfl | assumption) ?_
    dsimp only [List.set]
    refine wi_iconst hX dX12_areBases_15 ?_
    refine wa_istore hX dX12_areBases_16 (by first | rfl | assumption) ?_
    dsimp only [List.set]
    exact t18
end C9e
