/-! The reference (X12): counts and bounds of one matroid; small number methods -/
def ndN (rk : Nat → Nat) (s : Nat) : Nat := (bc s + rk s - 1) / rk s
def cvM (rk : Nat → Nat) : Nat → Nat
  | 0 => 0
  | n + 1 => if n = 0 then 0 else max (cvM rk n) (ndN rk n)
def alwN (rk : Nat → Nat) (e s : Nat) : Nat := if rk s = rk (2 ^ e - 1) then 2147483647 else (e - bc s) / (rk (2 ^ e - 1) - rk s)
def pkM (rk : Nat → Nat) (e : Nat) : Nat → Nat
  | 0 => 2147483647
  | n + 1 => min (pkM rk e n) (alwN rk e n)
def sprN (el s : Nat) (b : Bool) : Nat := (sdf s (s &&& (2 ^ el - 1))) <<< 1 ||| (s &&& (2 ^ el - 1)) ||| (if b = true then 2 ^ el else 0)
theorem ndN_le (rk : Nat → Nat) (s : Nat) (h : rk s ≤ 10) : ndN rk s ≤ 20 := by
  have := bc_le s
  unfold ndN
  exact Nat.le_trans (Nat.div_le_self _ _) (by omega)
theorem cvM_le {rk : Nat → Nat} : ∀ n, (∀ s, s < n → rk s ≤ 10) → cvM rk n ≤ 20 := by
  intro n
  induction n with
  | zero => intro _; exact Nat.zero_le _
  | succ n ih =>
    intro h
    unfold cvM
    split
    · exact Nat.zero_le _
    · have := ih (fun s hs => h s (by omega))
      have := ndN_le rk n (h n (by omega))
      omega
theorem alwN_le (rk : Nat → Nat) (e s : Nat) (he : e ≤ 10) : alwN rk e s ≤ 2147483647 := by
  unfold alwN
  split
  · exact Nat.le_refl _
  · exact Nat.le_trans (Nat.div_le_self _ _) (by omega)
theorem pkM_le {rk : Nat → Nat} {e : Nat} : ∀ n, pkM rk e n ≤ 2147483647 := by
  intro n
  induction n with
  | zero => exact Nat.le_refl _
  | succ n ih => unfold pkM; omega
section C82
variable {l : Launch} {D : va_G} {S0 : State}
set_option maxRecDepth 100000 in
theorem c_X12_many (hW : WOK l D S0) (d : Nat) {h : AH} {a la rq lq e : Nat} {m2 m3 : Value} {l2 l3 : Int} {rk : Nat → Nat} {G : Nat → Int} (h1 : h a = some (la, oRef e rq m2 m3 l2 l3)) (h2 : h rq = some (lq, aI .int 1024 G)) (hG : ∀ s, s < 2 ^ e → G s = ((rk s : Nat) : Int)) (he : e ≤ 10) (hrk : ∀ s, s < 2 ^ e → rk s ≤ 10) {ch : Int} (hc : inR ch) : MA l D S0 yX12_many cX12_many 4 (some .int) (d + 4) [.ref a, I ch] h 0 0 (fun r h' => r = some (I (cnt (isB rk e ch) (2 ^ e) : Nat)) ∧ h' = h) (fun _ _ => False) := by
  have hp := p2_le he
  have hp0 := p2_pos e
  refine MA.start hW (by decide) [.val (.ref a), .val (I ch), .unset, .unset] rfl ?_
  rintro X rfl rfl rfl hX
  refine wi_iconst hX dX12_many_0 ?_
  refine wa_istore_n hX (i := 2) dX12_many_1 rfl rfl ?_
  dsimp only [List.set]
  refine wi_iconst hX dX12_many_2 ?_
  refine wa_istore_n hX (i := 3) dX12_many_3 rfl rfl ?_
  dsimp only [List.set]
  refine WA.loop (σ := Nat) (fun z => 2 ^ e - z) (fun z => z ≤ 2 ^ e) (fun _ => h) (fun z => [.val (.ref a), .val (I ch), .val (I (cnt (isB rk e ch) z : Nat)), .val (I (z : Nat))]) ?_ 0 (Nat.zero_le _)
  intro z hz ih
  have hcl := cnt_le (isB rk e ch) z
  have t27 : ∀ t : Nat, z < 2 ^ e → cnt (isB rk e ch) (z + 1) = cnt (isB rk e ch) z + t → WA X h 0 0 27 [.val (.ref a), .val (I ch), .val (I (cnt (isB rk e ch) z : Nat)), .val (I (z : Nat))] [I (t : Int), I (cnt (isB rk e ch) z : Nat)] := by
    intro t hzl ht
    refine wi_iadd hX dX12_many_27 ?_
    refine wa_istore_n hX (i := 2) dX12_many_28 rfl rfl ?_
    dsimp only [List.set]
    refine wi_iinc hX dX12_many_29 rfl ?_
    dsimp only [List.set]
    refine wa_goto hX (tgt := 4) dX12_many_32 (by decide) ?_
    exact WA.eq rfl (by rw [ht]; rfl) rfl (ih (z + 1) (by omega) (by omega))
  refine wa_iload_n hX (i := 3) dX12_many_4 rfl rfl ?_
  refine wa_aload_n hX (i := 0) dX12_many_5 rfl rfl ?_
  refine wa_callV hX (c_X11_full hW d h1 he) (by assumption) (by rfl) (by rfl) (by omega) (nA := 0) (by rfl) (by decide +kernel) rfl (by exact Nat.le_of_ble_eq_true rfl) dX12_many_6 (fun r6 h6 p6 => ?_) (fun _ _ q => q.elim)
  obtain ⟨rfl, qq6⟩ := p6; subst h6
  dsimp only [Option.toList, List.cons_append, List.nil_append]
  refine wi_icmp_gt hX (tgt := 35) dX12_many_9 (by decide) (by omega) (by omega) (fun c9 => ?_) (fun c9 => ?_)
  · skip
    refine wa_iload_n hX (i := 2) dX12_many_35 rfl rfl ?_
    refine wa_iret hX dX12_many_36 ?_
    exact ⟨by rw [show z = 2 ^ e by omega], rfl⟩
  · skip
    refine wa_iload_n hX (i := 2) dX12_many_12 rfl rfl ?_
    refine wa_aload_n hX (i := 0) dX12_many_13 rfl rfl ?_
    refine wa_iload_n hX (i := 1) dX12_many_14 rfl rfl ?_
    refine wa_iload_n hX (i := 3) dX12_many_15 rfl rfl ?_
    refine wa_callV hX (c_X11_is hW d h1 h2 hG he hrk (s := z) (by omega) hc) (by assumption) (by rfl) (by rfl) (by omega) (nA := 2) (by rfl) (by decide +kernel) rfl (by exact Nat.le_of_ble_eq_true rfl) dX12_many_16 (fun r16 h16 p16 => ?_) (fun _ _ q => q.elim)
    obtain ⟨rfl, qq16⟩ := p16; subst h16
    dsimp only [Option.toList, List.cons_append, List.nil_append]
    refine wi_if_eq hX (tgt := 26) dX12_many_19 (by decide) (by exact b2n_inR _) (fun c19 => ?_) (fun c19 => ?_)
    · skip
      refine wi_iconst hX dX12_many_26 ?_
      first
        | (have q := b2n_t c19
           exact t27 1 (by omega) (cnt_y q))
        | (have q := b2n_f c19
           exact t27 0 (by omega) (by rw [cnt_n (by rw [q]; exact Bool.false_ne_true), Nat.add_zero]))
    · skip
      refine wi_iconst hX dX12_many_22 ?_
      refine wa_goto hX (tgt := 27) dX12_many_23 (by decide) ?_
      first
        | (have q := b2n_t c19
           exact t27 1 (by omega) (cnt_y q))
        | (have q := b2n_f c19
           exact t27 0 (by omega) (by rw [cnt_n (by rw [q]; exact Bool.false_ne_true), Nat.add_zero]))
set_option maxRecDepth 100000 in
theorem c_X12_hasLoop (hW : WOK l D S0) (d : Nat) {h : AH} {a la rq lq e : Nat} {m2 m3 : Value} {l2 l3 : Int} {rk : Nat → Nat} {G : Nat → Int} (h1 : h a = some (la, oRef e rq m2 m3 l2 l3)) (h2 : h rq = some (lq, aI .int 1024 G)) (hG : ∀ s, s < 2 ^ e → G s = ((rk s : Nat) : Int)) (he : e ≤ 10) (hrk : ∀ s, s < 2 ^ e → rk s ≤ 10) : MA l D S0 yX12_hasLoop cX12_hasLoop 3 (some .boolean) d [.ref a] h 0 0 (fun r h' => r = some (I ((b2n (loopB rk e) : Nat) : Int)) ∧ h' = h) (fun _ _ => False) := by
  have hp := p2_le he
  have hp0 := p2_pos e
  refine MA.start hW (by decide) [.val (.ref a), .unset, .unset] rfl ?_
  rintro X rfl rfl rfl hX
  refine wi_iconst hX dX12_hasLoop_0 ?_
  refine wa_istore_n hX (i := 1) dX12_hasLoop_1 rfl rfl ?_
  dsimp only [List.set]
  refine wi_iconst hX dX12_hasLoop_2 ?_
  refine wa_istore_n hX (i := 2) dX12_hasLoop_3 rfl rfl ?_
  dsimp only [List.set]
  refine WA.loop (σ := Nat) (fun z => e - z) (fun z => z ≤ e) (fun _ => h) (fun z => [.val (.ref a), .val (I ((b2n (loopB rk z) : Nat) : Int)), .val (I (z : Nat))]) ?_ 0 (Nat.zero_le _)
  intro z hz ih
  have hst : loopB rk (z + 1) = (loopB rk z || rk (2 ^ z) == 0) := rfl
  have hb : z < e → 2 ^ z < 2 ^ e := fun q => bit_lt q
  have hpz := p2_pos z
  have t32 : ∀ b : Bool, z < e → b = loopB rk (z + 1) → WA X h 0 0 32 [.val (.ref a), .val (I ((b2n (loopB rk z) : Nat) : Int)), .val (I (z : Nat))] [I ((b2n b : Nat) : Int)] := by
    intro b hzl hbb
    rw [hbb]
    refine wa_istore_n hX (i := 1) dX12_hasLoop_32 rfl rfl ?_
    dsimp only [List.set]
    refine wi_iinc hX dX12_hasLoop_33 rfl ?_
    dsimp only [List.set]
    refine wa_goto hX (tgt := 4) dX12_hasLoop_36 (by decide) ?_
    exact ih (z + 1) (by omega) (by omega)
  refine wa_iload_n hX (i := 2) dX12_hasLoop_4 rfl rfl ?_
  refine wa_aload_n hX (i := 0) dX12_hasLoop_5 rfl rfl ?_
  refine wa_get hX 0 (by assumption) (by rfl) (by decide +kernel) dX12_hasLoop_6 ?_
  refine wi_icmp_ge hX (tgt := 39) dX12_hasLoop_9 (by decide) (by omega) (by omega) (fun c9 => ?_) (fun c9 => ?_)
  · skip
    refine wa_iload_n hX (i := 1) dX12_hasLoop_39 rfl rfl ?_
    refine wa_zret hX dX12_hasLoop_40 (by cases loopB rk z <;> rfl) ?_
    exact ⟨by rw [show z = e by omega], rfl⟩
  · skip
    refine wa_iload_n hX (i := 1) dX12_hasLoop_12 rfl rfl ?_
    refine wi_if_ne hX (tgt := 27) dX12_hasLoop_13 (by decide) (by exact b2n_inR _) (fun c13 => ?_) (fun c13 => ?_)
    · skip
      refine wi_iconst hX dX12_hasLoop_27 ?_
      refine wa_goto hX (tgt := 32) dX12_hasLoop_28 (by decide) ?_
      first
        | (have q := b2n_t c13
           exact t32 true (by omega) (by rw [hst, q]; rfl))
        | (have q := b2n_f c13
           exact t32 true (by omega) (by rw [hst, q, show (rk (2 ^ z) == 0) = true from beq_iff_eq.mpr (by omega)]; rfl))
        | (have q := b2n_f c13
           exact t32 false (by omega) (by rw [hst, q, show (rk (2 ^ z) == 0) = false from beq_eq_false_iff_ne.mpr (by omega)]; rfl))
    · skip
      refine wa_aload_n hX (i := 0) dX12_hasLoop_16 rfl rfl ?_
      refine wa_get hX 1 (by assumption) (by rfl) (by decide +kernel) dX12_hasLoop_17 ?_
      refine wi_iconst hX dX12_hasLoop_20 ?_
      refine wa_iload_n hX (i := 2) dX12_hasLoop_21 rfl rfl ?_
      refine wn_shl1 hX dX12_hasLoop_22 (by rfl) (by omega) ?_
      have hbz := hb (by omega)
      refine wi_iaload hX (by assumption) (by omega) (by omega) (by omega) dX12_hasLoop_23 ?_
      rw [Int.toNat_natCast, hG _ hbz]
      have hrz := hrk _ hbz
      refine wi_if_ne hX (tgt := 31) dX12_hasLoop_24 (by decide) (by omega) (fun c24 => ?_) (fun c24 => ?_)
      · skip
        refine wi_iconst hX dX12_hasLoop_31 ?_
        first
          | (have q := b2n_t c13
             exact t32 true (by omega) (by rw [hst, q]; rfl))
          | (have q := b2n_f c13
             exact t32 true (by omega) (by rw [hst, q, show (rk (2 ^ z) == 0) = true from beq_iff_eq.mpr (by omega)]; rfl))
          | (have q := b2n_f c13
             exact t32 false (by omega) (by rw [hst, q, show (rk (2 ^ z) == 0) = false from beq_eq_false_iff_ne.mpr (by omega)]; rfl))
      · skip
        refine wi_iconst hX dX12_hasLoop_27 ?_
        refine wa_goto hX (tgt := 32) dX12_hasLoop_28 (by decide) ?_
        first
          | (have q := b2n_t c13
             exact t32 true (by omega) (by rw [hst, q]; rfl))
          | (have q := b2n_f c13
             exact t32 true (by omega) (by rw [hst, q, show (rk (2 ^ z) == 0) = true from beq_iff_eq.mpr (by omega)]; rfl))
          | (have q := b2n_f c13
             exact t32 false (by omega) (by rw [hst, q, show (rk (2 ^ z) == 0) = false from beq_eq_false_iff_ne.mpr (by omega)]; rfl))
set_option maxRecDepth 100000 in
theorem c_X12_needs (hW : WOK l D S0) (d : Nat) {h : AH} {a la rq lq e : Nat} {m2 m3 : Value} {l2 l3 : Int} {rk : Nat → Nat} {G : Nat → Int} (h1 : h a = some (la, oRef e rq m2 m3 l2 l3)) (h2 : h rq = some (lq, aI .int 1024 G)) (hG : ∀ s, s < 2 ^ e → G s = ((rk s : Nat) : Int)) (he : e ≤ 10) (hrk : ∀ s, s < 2 ^ e → rk s ≤ 10) {s : Nat} (hs : s < 2 ^ e) (hz : rk s ≠ 0) : MA l D S0 yX12_needs cX12_needs 2 (some .int) (d + 1) [.ref a, I (s : Int)] h 0 0 (fun r h' => r = some (I (ndN rk s : Nat)) ∧ h' = h) (fun _ _ => False) := by
  have hp := p2_le he
  have hp0 := p2_pos e
  have hr := hrk s hs
  have hb := bc_le s
  refine MA.start hW (by decide) [.val (.ref a), .val (I (s : Int))] rfl ?_
  rintro X rfl rfl rfl hX
  refine wa_iload_n hX (i := 1) dX12_needs_0 rfl rfl ?_
  refine wa_callS hX (c_J6_bitCount hW d (s := s) (by omega)) (by rfl) (by omega) (nA := 1) (by rfl) (by decide +kernel) rfl (by exact Nat.le_of_ble_eq_true rfl) dX12_needs_1 (fun r1 h1 p1 => ?_) (fun _ _ q => q.elim)
  obtain ⟨rfl, qq1⟩ := p1; subst h1
  dsimp only [Option.toList, List.cons_append, List.nil_append]
  refine wa_aload_n hX (i := 0) dX12_needs_4 rfl rfl ?_
  refine wa_get hX 1 (by assumption) (by rfl) (by decide +kernel) dX12_needs_5 ?_
  refine wa_iload_n hX (i := 1) dX12_needs_8 rfl rfl ?_
  refine wi_iaload hX (by assumption) (by omega) (by omega) (by omega) dX12_needs_9 ?_
  rw [Int.toNat_natCast, hG s hs]
  refine wi_iadd hX dX12_needs_10 ?_
  refine wi_iconst hX dX12_needs_11 ?_
  refine wi_isub hX dX12_needs_12 ?_
  refine wa_aload_n hX (i := 0) dX12_needs_13 rfl rfl ?_
  refine wa_get hX 1 (by assumption) (by rfl) (by decide +kernel) dX12_needs_14 ?_
  refine wa_iload_n hX (i := 1) dX12_needs_17 rfl rfl ?_
  refine wi_iaload hX (by assumption) (by omega) (by omega) (by omega) dX12_needs_18 ?_
  rw [Int.toNat_natCast, hG s hs, show ((bc s : Nat) : Int) + ((rk s : Nat) : Int) - 1 = ((bc s + rk s - 1 : Nat) : Int) by omega]
  refine wn_idiv hX (a := bc s + rk s - 1) (b := rk s) dX12_needs_19 rfl rfl (by omega) (by omega) (by omega) ?_
  refine wa_iret hX dX12_needs_20 ?_
  exact ⟨rfl, rfl⟩
set_option maxRecDepth 100000 in
theorem c_X12_coverOf (hW : WOK l D S0) (d : Nat) {h : AH} {a la rq lq e : Nat} {m2 m3 : Value} {l2 l3 : Int} {rk : Nat → Nat} {G : Nat → Int} (h1 : h a = some (la, oRef e rq m2 m3 l2 l3)) (h2 : h rq = some (lq, aI .int 1024 G)) (hG : ∀ s, s < 2 ^ e → G s = ((rk s : Nat) : Int)) (he : e ≤ 10) (hrk : ∀ s, s < 2 ^ e → rk s ≤ 10) (hz : ∀ s, 0 < s → s < 2 ^ e → rk s ≠ 0) : MA l D S0 yX12_coverOf cX12_coverOf 3 (some .int) (d + 2) [.ref a] h 0 0 (fun r h' => r = some (I (cvM rk (2 ^ e) : Nat)) ∧ h' = h) (fun _ _ => False) := by
  have hp := p2_le he
  have hp0 := p2_pos e
  refine MA.start hW (by decide) [.val (.ref a), .unset, .unset] rfl ?_
  rintro X rfl rfl rfl hX
  refine wi_iconst hX dX12_coverOf_0 ?_
  refine wa_istore_n hX (i := 1) dX12_coverOf_1 rfl rfl ?_
  dsimp only [List.set]
  refine wi_iconst hX dX12_coverOf_2 ?_
  refine wa_istore_n hX (i := 2) dX12_coverOf_3 rfl rfl ?_
  dsimp only [List.set]
  refine WA.loop (σ := Nat) (fun z => 2 ^ e - z) (fun z => 1 ≤ z ∧ z ≤ 2 ^ e) (fun _ => h) (fun z => [.val (.ref a), .val (I (cvM rk z : Nat)), .val (I (z : Nat))]) ?_ 1 ⟨Nat.le_refl 1, hp0⟩
  intro z hz9 ih
  have hst : cvM rk (z + 1) = max (cvM rk z) (ndN rk z) := if_neg (by omega)
  have hcv := cvM_le (rk := rk) z (fun s hs => hrk s (by omega))
  refine wa_iload_n hX (i := 2) dX12_coverOf_4 rfl rfl ?_
  refine wa_aload_n hX (i := 0) dX12_coverOf_5 rfl rfl ?_
  refine wa_callV hX (c_X11_full hW d h1 he) (by assumption) (by rfl) (by rfl) (by omega) (nA := 0) (by rfl) (by decide +kernel) rfl (by exact Nat.le_of_ble_eq_true rfl) dX12_coverOf_6 (fun r6 h6 p6 => ?_) (fun _ _ q => q.elim)
  obtain ⟨rfl, qq6⟩ := p6; subst h6
  dsimp only [Option.toList, List.cons_append, List.nil_append]
  refine wi_icmp_gt hX (tgt := 28) dX12_coverOf_9 (by decide) (by omega) (by omega) (fun c9 => ?_) (fun c9 => ?_)
  · skip
    refine wa_iload_n hX (i := 1) dX12_coverOf_28 rfl rfl ?_
    refine wa_iret hX dX12_coverOf_29 ?_
    exact ⟨by rw [show z = 2 ^ e by omega], rfl⟩
  · skip
    refine wa_iload_n hX (i := 1) dX12_coverOf_12 rfl rfl ?_
    refine wa_aload_n hX (i := 0) dX12_coverOf_13 rfl rfl ?_
    refine wa_iload_n hX (i := 2) dX12_coverOf_14 rfl rfl ?_
    have hnd := ndN_le rk z (hrk z (by omega))
    refine wa_callS hX (c_X12_needs hW d h1 h2 hG he hrk (s := z) (by omega) (hz z (by omega) (by omega))) (by rfl) (by omega) (nA := 2) (by rfl) (by decide +kernel) rfl (by exact Nat.le_of_ble_eq_true rfl) dX12_coverOf_15 (fun r15 h15 p15 => ?_) (fun _ _ q => q.elim)
    obtain ⟨rfl, qq15⟩ := p15; subst h15
    dsimp only [Option.toList, List.cons_append, List.nil_append]
    refine wi_max hX (by decide +kernel) rfl (by exact Nat.le_of_ble_eq_true rfl) (by omega) (by omega) dX12_coverOf_18 ?_
    refine wa_istore_n hX (i := 1) dX12_coverOf_21 rfl rfl ?_
    dsimp only [List.set]
    refine wi_iinc hX dX12_coverOf_22 rfl ?_
    dsimp only [List.set]
    refine wa_goto hX (tgt := 4) dX12_coverOf_25 (by decide) ?_
    refine WA.eq rfl ?_ rfl (ih (z + 1) ⟨by omega, by omega⟩ (by omega))
    rw [hst, show max ((cvM rk z : Nat) : Int) ((ndN rk z : Nat) : Int) = ((max (cvM rk z) (ndN rk z) : Nat) : Int) by omega]
    rfl
set_option maxRecDepth 100000 in
theorem c_X12_allows (hW : WOK l D S0) (d : Nat) {h : AH} {a la rq lq e : Nat} {m2 m3 : Value} {l2 l3 : Int} {rk : Nat → Nat} {G : Nat → Int} (h1 : h a = some (la, oRef e rq m2 m3 l2 l3)) (h2 : h rq = some (lq, aI .int 1024 G)) (hG : ∀ s, s < 2 ^ e → G s = ((rk s : Nat) : Int)) (he : e ≤ 10) (hrk : ∀ s, s < 2 ^ e → rk s ≤ 10) {s : Nat} (hs : s < 2 ^ e) (hmo : rk s ≤ rk (2 ^ e - 1)) : MA l D S0 yX12_allows cX12_allows 3 (some .int) (d + 2) [.ref a, I (s : Int)] h 0 0 (fun r h' => r = some (I (alwN rk e s : Nat)) ∧ h' = h) (fun _ _ => False) := by
  have hp := p2_le he
  have hp0 := p2_pos e
  have hr := hrk s hs
  have hr2 := hrk (2 ^ e - 1) (by omega)
  have hb := bc_le2 e (by omega) s hs
  refine MA.start hW (by decide) [.val (.ref a), .val (I (s : Int)), .unset] rfl ?_
  rintro X rfl rfl rfl hX
  refine wa_aload_n hX (i := 0) dX12_allows_0 rfl rfl ?_
  refine wa_callV hX (c_X11_rank hW d h1 h2 hG he hrk) (by assumption) (by rfl) (by rfl) (by omega) (nA := 0) (by rfl) (by decide +kernel) rfl (by exact Nat.le_of_ble_eq_true rfl) dX12_allows_1 (fun r1 h1 p1 => ?_) (fun _ _ q => q.elim)
  obtain ⟨rfl, qq1⟩ := p1; subst h1
  dsimp only [Option.toList, List.cons_append, List.nil_append]
  refine wa_aload_n hX (i := 0) dX12_allows_4 rfl rfl ?_
  refine wa_get hX 1 (by assumption) (by rfl) (by decide +kernel) dX12_allows_5 ?_
  refine wa_iload_n hX (i := 1) dX12_allows_8 rfl rfl ?_
  refine wi_iaload hX (by assumption) (by omega) (by omega) (by omega) dX12_allows_9 ?_
  rw [Int.toNat_natCast, hG s hs]
  refine wi_isub hX dX12_allows_10 ?_
  refine wa_istore_n hX (i := 2) dX12_allows_11 rfl rfl ?_
  dsimp only [List.set]
  refine wa_iload_n hX (i := 2) dX12_allows_12 rfl rfl ?_
  refine wi_if_ne hX (tgt := 21) dX12_allows_13 (by decide) (by omega) (fun c13 => ?_) (fun c13 => ?_)
  · skip
    refine wa_aload_n hX (i := 0) dX12_allows_21 rfl rfl ?_
    refine wa_get hX 0 (by assumption) (by rfl) (by decide +kernel) dX12_allows_22 ?_
    refine wa_iload_n hX (i := 1) dX12_allows_25 rfl rfl ?_
    refine wa_callS hX (c_J6_bitCount hW d (s := s) (by omega)) (by rfl) (by omega) (nA := 1) (by rfl) (by decide +kernel) rfl (by exact Nat.le_of_ble_eq_true rfl) dX12_allows_26 (fun r26 h26 p26 => ?_) (fun _ _ q => q.elim)
    obtain ⟨rfl, qq26⟩ := p26; subst h26
    dsimp only [Option.toList, List.cons_append, List.nil_append]
    refine wi_isub hX dX12_allows_29 ?_
    refine wa_iload_n hX (i := 2) dX12_allows_30 rfl rfl ?_
    rw [show ((e : Nat) : Int) - ((bc s : Nat) : Int) = ((e - bc s : Nat) : Int) by omega, show ((rk (2 ^ e - 1) : Nat) : Int) - ((rk s : Nat) : Int) = ((rk (2 ^ e - 1) - rk s : Nat) : Int) by omega]
    refine wn_idiv hX (a := e - bc s) (b := rk (2 ^ e - 1) - rk s) dX12_allows_31 rfl rfl (by omega) (by omega) (by omega) ?_
    refine wa_iret hX dX12_allows_32 ?_
    refine ⟨?_, rfl⟩
    unfold alwN
    first
      | (rw [if_pos (by omega)]; rfl)
      | (rw [if_neg (by omega)])
  · skip
    refine wa_ldc hX (2147483647) (by decide +kernel) dX12_allows_16 ?_
    refine wa_goto hX (tgt := 32) dX12_allows_18 (by decide) ?_
    refine wa_iret hX dX12_allows_32 ?_
    refine ⟨?_, rfl⟩
    unfold alwN
    first
      | (rw [if_pos (by omega)]; rfl)
      | (rw [if_neg (by omega)])
set_option maxRecDepth 100000 in
theorem c_X12_packingOf (hW : WOK l D S0) (d : Nat) {h : AH} {a la rq lq e : Nat} {m2 m3 : Value} {l2 l3 : Int} {rk : Nat → Nat} {G : Nat → Int} (h1 : h a = some (la, oRef e rq m2 m3 l2 l3)) (h2 : h rq = some (lq, aI .int 1024 G)) (hG : ∀ s, s < 2 ^ e → G s = ((rk s : Nat) : Int)) (he : e ≤ 10) (hrk : ∀ s, s < 2 ^ e → rk s ≤ 10) (hmo : ∀ s, s < 2 ^ e → rk s ≤ rk (2 ^ e - 1)) : MA l D S0 yX12_packingOf cX12_packingOf 3 (some .int) (d + 3) [.ref a] h 0 0 (fun r h' => r = some (I (pkM rk e (2 ^ e) : Nat)) ∧ h' = h) (fun _ _ => False) := by
  have hp := p2_le he
  have hp0 := p2_pos e
  refine MA.start hW (by decide) [.val (.ref a), .unset, .unset] rfl ?_
  rintro X rfl rfl rfl hX
  refine wa_ldc hX (2147483647) (by decide +kernel) dX12_packingOf_0 ?_
  refine wa_istore_n hX (i := 1) dX12_packingOf_2 rfl rfl ?_
  dsimp only [List.set]
  refine wi_iconst hX dX12_packingOf_3 ?_
  refine wa_istore_n hX (i := 2) dX12_packingOf_4 rfl rfl ?_
  dsimp only [List.set]
  refine WA.loop (σ := Nat) (fun z => 2 ^ e - z) (fun z => z ≤ 2 ^ e) (fun _ => h) (fun z => [.val (.ref a), .val (I (pkM rk e z : Nat)), .val (I (z : Nat))]) ?_ 0 (Nat.zero_le _)
  intro z hz ih
  have hst : pkM rk e (z + 1) = min (pkM rk e z) (alwN rk e z) := rfl
  have hpk := pkM_le (rk := rk) (e := e) z
  have hal := alwN_le rk e z he
  refine wa_iload_n hX (i := 2) dX12_packingOf_5 rfl rfl ?_
  refine wa_aload_n hX (i := 0) dX12_packingOf_6 rfl rfl ?_
  refine wa_callV hX (c_X11_full hW d h1 he) (by assumption) (by rfl) (by rfl) (by omega) (nA := 0) (by rfl) (by decide +kernel) rfl (by exact Nat.le_of_ble_eq_true rfl) dX12_packingOf_7 (fun r7 h7 p7 => ?_) (fun _ _ q => q.elim)
  obtain ⟨rfl, qq7⟩ := p7; subst h7
  dsimp only [Option.toList, List.cons_append, List.nil_append]
  refine wi_icmp_gt hX (tgt := 29) dX12_packingOf_10 (by decide) (by omega) (by omega) (fun c10 => ?_) (fun c10 => ?_)
  · skip
    refine wa_iload_n hX (i := 1) dX12_packingOf_29 rfl rfl ?_
    refine wa_iret hX dX12_packingOf_30 ?_
    exact ⟨by rw [show z = 2 ^ e by omega], rfl⟩
  · skip
    refine wa_iload_n hX (i := 1) dX12_packingOf_13 rfl rfl ?_
    refine wa_aload_n hX (i := 0) dX12_packingOf_14 rfl rfl ?_
    refine wa_iload_n hX (i := 2) dX12_packingOf_15 rfl rfl ?_
    refine wa_callS hX (c_X12_allows hW d h1 h2 hG he hrk (s := z) (by omega) (hmo z (by omega))) (by rfl) (by omega) (nA := 2) (by rfl) (by decide +kernel) rfl (by exact Nat.le_of_ble_eq_true rfl) dX12_packingOf_16 (fun r16 h16 p16 => ?_) (fun _ _ q => q.elim)
    obtain ⟨rfl, qq16⟩ := p16; subst h16
    dsimp only [Option.toList, List.cons_append, List.nil_append]
    refine wi_min hX (by decide +kernel) rfl (by exact Nat.le_of_ble_eq_true rfl) (by omega) (by omega) dX12_packingOf_19 ?_
    refine wa_istore_n hX (i := 1) dX12_packingOf_22 rfl rfl ?_
    dsimp only [List.set]
    refine wi_iinc hX dX12_packingOf_23 rfl ?_
    dsimp only [List.set]
    refine wa_goto hX (tgt := 5) dX12_packingOf_26 (by decide) ?_
    refine WA.eq rfl ?_ rfl (ih (z + 1) (by omega) (by omega))
    rw [hst, show min ((pkM rk e z : Nat) : Int) ((alwN rk e z : Nat) : Int) = ((min (pkM rk e z) (alwN rk e z) : Nat) : Int) by omega]
    rfl
set_option maxRecDepth 100000 in
theorem c_X12_spread (hW : WOK l D S0) (d : Nat) {h : AH} {s el : Nat} {b : Bool} (hs : s < 1024) (hl : el < 11) : MA l D S0 yX12_spread cX12_spread 4 (some .int) d [I (s : Int), I (el : Int), I ((b2n b : Nat) : Int)] h 0 0 (fun r h' => r = some (I (sprN el s b : Nat)) ∧ h' = h) (fun _ _ => False) := by
  have hp := p2_pos el
  refine MA.start hW (by decide) [.val (I (s : Int)), .val (I (el : Int)), .val (I ((b2n b : Nat) : Int)), .unset] rfl ?_
  rintro X rfl rfl rfl hX
  refine wa_iload_n hX (i := 0) dX12_spread_0 rfl rfl ?_
  refine wi_iconst hX dX12_spread_1 ?_
  refine wa_iload_n hX (i := 1) dX12_spread_2 rfl rfl ?_
  refine wn_shl1 hX dX12_spread_3 (by rfl) (by omega) ?_
  refine wi_iconst hX dX12_spread_4 ?_
  refine wi_isub hX dX12_spread_5 ?_
  rw [show (((2 ^ el : Nat) : Int) - 1) = ((2 ^ el - 1 : Nat) : Int) by omega]
  refine wn_iand hX dX12_spread_6 (by rfl) (by rfl) ?_
  refine wa_istore_n hX (i := 3) dX12_spread_7 rfl rfl ?_
  dsimp only [List.set]
  refine wa_iload_n hX (i := 0) dX12_spread_8 rfl rfl ?_
  refine wa_iload_n hX (i := 3) dX12_spread_9 rfl rfl ?_
  refine wi_iconst hX dX12_spread_10 ?_
  refine wa_ixor hX dX12_spread_11 ?_
  refine wn_andn hX dX12_spread_12 (by rfl) (by rfl) ?_
  refine wi_iconst hX dX12_spread_13 ?_
  refine wn_ishl hX (b := 1) dX12_spread_14 (by rfl) (by rfl) (by omega) ?_
  refine wa_iload_n hX (i := 3) dX12_spread_15 rfl rfl ?_
  refine wn_ior hX dX12_spread_16 (by rfl) (by rfl) ?_
  refine wa_iload_n hX (i := 2) dX12_spread_17 rfl rfl ?_
  refine wi_if_eq hX (tgt := 27) dX12_spread_18 (by decide) (by exact b2n_inR _) (fun c18 => ?_) (fun c18 => ?_)
  · skip
    refine wi_iconst hX dX12_spread_27 ?_
    refine wn_ior hX dX12_spread_28 (by rfl) (by rfl) ?_
    refine wa_iret hX dX12_spread_29 ?_
    refine ⟨?_, rfl⟩
    unfold sprN
    first
      | (have q := b2n_t c18; rw [if_pos q])
      | (have q := b2n_f c18; rw [if_neg (by rw [q]; exact Bool.false_ne_true)] <;> rfl)
      | (have q := b2n_f c18; rw [if_neg (by rw [q]; exact Bool.false_ne_true)])
  · skip
    refine wi_iconst hX dX12_spread_21 ?_
    refine wa_iload_n hX (i := 1) dX12_spread_22 rfl rfl ?_
    refine wn_shl1 hX dX12_spread_23 (by rfl) (by omega) ?_
    refine wa_goto hX (tgt := 28) dX12_spread_24 (by decide) ?_
    refine wn_ior hX dX12_spread_28 (by rfl) (by rfl) ?_
    refine wa_iret hX dX12_spread_29 ?_
    refine ⟨?_, rfl⟩
    unfold sprN
    first
      | (have q := b2n_t c18; rw [if_pos q])
      | (have q := b2n_f c18; rw [if_neg (by rw [q]; exact Bool.false_ne_true)] <;> rfl)
      | (have q := b2n_f c18; rw [if_neg (by rw [q]; exact Bool.false_ne_true)])
set_option maxRecDepth 100000 in
theorem c_X12_inverse (hW : WOK l D S0) (d : Nat) {h : AH} {z f t0 : Nat} (hz : z < 10) (hf : 2 ≤ f) (hf5 : f ≤ 5) (ht : 1 ≤ t0 ∧ t0 < f ∧ z * t0 % f = 1) : MA l D S0 yX12_inverse cX12_inverse 3 (some .int) d [I (z : Int), I (f : Int)] h 0 0 (fun r h' => h' = h ∧ ∃ t : Nat, r = some (I (t : Int)) ∧ 1 ≤ t ∧ t < f ∧ z * t % f = 1 ∧ ∀ u, 1 ≤ u → u < t → z * u % f ≠ 1) (fun _ _ => False) := by
  refine MA.start hW (by decide) [.val (I (z : Int)), .val (I (f : Int)), .unset] rfl ?_
  rintro X rfl rfl rfl hX
  refine wi_iconst hX dX12_inverse_0 ?_
  refine wa_istore_n hX (i := 2) dX12_inverse_1 rfl rfl ?_
  dsimp only [List.set]
  refine WA.loop (σ := Nat) (fun t => t0 - t) (fun t => 1 ≤ t ∧ t ≤ t0 ∧ ∀ u, 1 ≤ u → u < t → z * u % f ≠ 1) (fun _ => h) (fun t => [.val (I (z : Int)), .val (I (f : Int)), .val (I (t : Nat))]) ?_ 1 ⟨Nat.le_refl 1, ht.1, fun u h1 h2 => by omega⟩
  rintro t ⟨h1, h2, h3⟩ ih
  have hzt : z * t ≤ 10 * 5 := Nat.mul_le_mul (by omega) (by omega)
  have hmod := Nat.mod_lt (z * t) (show 0 < f by omega)
  refine wa_iload_n hX (i := 0) dX12_inverse_2 rfl rfl ?_
  refine wa_iload_n hX (i := 2) dX12_inverse_3 rfl rfl ?_
  refine wi_imul hX dX12_inverse_4 ?_
  rw [show ((z : Nat) : Int) * ((t : Nat) : Int) = ((z * t : Nat) : Int) from (Int.natCast_mul z t).symm]
  refine wa_iload_n hX (i := 1) dX12_inverse_5 rfl rfl ?_
  refine wn_irem hX (a := z * t) (b := f) dX12_inverse_6 rfl rfl (by omega) (by omega) (by omega) ?_
  refine wi_iconst hX dX12_inverse_7 ?_
  refine wi_icmp_eq hX (tgt := 17) dX12_inverse_8 (by decide) (by omega) (by omega) (fun c8 => ?_) (fun c8 => ?_)
  · skip
    refine wa_iload_n hX (i := 2) dX12_inverse_17 rfl rfl ?_
    refine wa_iret hX dX12_inverse_18 ?_
    exact ⟨rfl, t, rfl, h1, by omega, by omega, h3⟩
  · skip
    refine wi_iinc hX dX12_inverse_11 rfl ?_
    dsimp only [List.set]
    refine wa_goto hX (tgt := 2) dX12_inverse_14 (by decide) ?_
    have hne : z * t % f ≠ 1 := by omega
    have hlt : t < t0 := by
      apply Classical.byContradiction
      intro q
      have : t = t0 := by omega
      rw [this] at hne
      exact hne ht.2.2
    exact ih (t + 1) ⟨by omega, hlt, fun u q1 q2 => by
      by_cases q : u = t
      · subst q; exact hne
      · exact h3 u q1 (by omega)⟩ (by omega)
end C82
