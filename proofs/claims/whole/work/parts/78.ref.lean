/-! The reference's matroid (X11) -/
abbrev oRef (e rq : Nat) (m2 m3 : Value) (l2 l3 : Int) : Ob := oF 12 [I e, .ref rq, m2, m3, I l2, I l3]
def frB (rk : Nat → Nat) (s : Nat) : Bool := rk s == bc s
def bsB (rk : Nat → Nat) (e s : Nat) : Bool := frB rk s && rk s == rk (2 ^ e - 1)
def cirM (rk : Nat → Nat) (s : Nat) : Nat → Bool
  | 0 => !frB rk s
  | k + 1 => cirM rk s k && (!s.testBit k || frB rk (sdf s (2 ^ k)))
def fltB (rk : Nat → Nat) (e s : Nat) : Bool := cloN rk e s == s
def hypB (rk : Nat → Nat) (e s : Nat) : Bool := fltB rk e s && decide (((rk s : Nat) : Int) = ((rk (2 ^ e - 1) : Nat) : Int) - 1)
def isB (rk : Nat → Nat) (e : Nat) (c : Int) (s : Nat) : Bool := if c = 105 then frB rk s else if c = 98 then bsB rk e s else if c = 99 then cirM rk s e else if c = 102 then fltB rk e s else hypB rk e s
def filB (g : Nat → Nat) (s b0 : Nat) : Nat → Nat
  | 0 => b0
  | k + 1 => if s.testBit k = true then max (filB g s b0 k) (g (sdf s (2 ^ k))) else filB g s b0 k
def filN (fr : Nat → Bool) (e : Nat) (G0 : Nat → Nat) : Nat → (Nat → Nat)
  | 0 => G0
  | n + 1 => up (filN fr e G0 n) n (filB (filN fr e G0 n) n (if fr n = true then bc n else 0) e)
theorem bit1 (s k : Nat) : (s >>> k) &&& 1 = b2n (s.testBit k) := by
  rw [Nat.and_one_is_mod, Nat.shiftRight_eq_div_pow, ← Nat.toNat_testBit]
  cases s.testBit k <;> rfl
theorem b2n_1 {b : Bool} (h : ((b2n b : Nat) : Int) = 1) : b = true := by
  cases b
  · exact absurd h (by decide)
  · rfl
theorem clo_lt {rk : Nat → Nat} {e s n : Nat} (hs : s < 2 ^ e) (hn : n ≤ e) : s ||| orB (fun el => rk (s ||| 2 ^ el) == rk s) n < 2 ^ e := or_lt hs (orB_lt _ e n hn)
theorem filB_le {g : Nat → Nat} {s b0 : Nat} (hb : b0 ≤ 10) (hg : ∀ j, g j ≤ 10) : ∀ k, filB g s b0 k ≤ 10 := by
  intro k
  induction k with
  | zero => exact hb
  | succ k ih =>
    unfold filB
    split
    · have := hg (sdf s (2 ^ k)); omega
    · exact ih
theorem filN_le {fr : Nat → Bool} {e : Nat} {G0 : Nat → Nat} (h0 : ∀ j, G0 j ≤ 10) : ∀ n j, filN fr e G0 n j ≤ 10 := by
  intro n
  induction n with
  | zero => exact h0
  | succ n ih =>
    intro j
    show up (filN fr e G0 n) n _ j ≤ 10
    rw [up_is]
    split
    · exact filB_le (by split; exact bc_le n; exact Nat.zero_le _) ih e
    · exact ih j
section C78
variable {l : Launch} {D : va_G} {S0 : State}
set_option maxRecDepth 100000 in
theorem c_X11_init (hW : WOK l D S0) (d : Nat) {h : AH} {a la : Nat} (lq : Nat) (h1 : h a = some (la, oF 12 [I 0, .null, .null, .null, I 0, I 0])) (hl : lq ≠ la) : MA l D S0 yX11_init cX11_init 1 none d [.ref a] h 1 1024 (fun r h' => r = none ∧ (∃ q, h' a = some (la, oRef 0 q .null .null 0 0) ∧ h' q = some (lq, aI .int 1024 z0)) ∧ Fr (fun x => x = la) h h') (fun _ _ => False) := by
  have fr : Fr (fun x => x = la) h h := Fr.rf
  refine MA.start hW (by decide) [.val (.ref a)] rfl ?_
  rintro X rfl rfl rfl hX
  refine wa_aload_n hX (i := 0) dX11_init_0 rfl rfl ?_
  refine wa_obj hX (by decide +kernel) rfl (by exact Nat.le_of_ble_eq_true rfl) dX11_init_1 ?_
  refine wa_aload_n hX (i := 0) dX11_init_4 rfl rfl ?_
  refine wi_sipush hX dX11_init_5 (by decide) ?_
  refine wa_newa hX 1024 lq .int (.inl (fun j => Int32.ofInt ((fun _ => 0 : Nat → Int) j))) rfl (by omega) (by omega) (fun cA => by rfl) (by decide +kernel) dX11_init_8 (fun q qn => ?_)
  refine WA.hnew qn (fun hh1 hN hK => ?_)
  replace fr := Fr.mk9 fr hK
  replace h1 := hK _ _ _ h1
  have Hq := hN
  clear hN hK
  refine wa_putF hX 1 h1 (Nat.le_of_ble_eq_true rfl) (by decide +kernel) (by rfl) rfl (by rfl) (by rfl) (by rfl) dX11_init_10 ?_
  refine WA.hgen h1 (fun hh2 hN hK => ?_)
  replace fr := Fr.put fr h1 hK (by first | decide | omega | simp)
  replace Hq := (hK _ (lab_ne h1 Hq (by first | decide | omega))).trans Hq
  replace h1 := hN
  clear hN hK
  refine wa_vret hX dX11_init_13 ?_
  exact ⟨rfl, ⟨q, h1, Hq⟩, fr⟩
set_option maxRecDepth 100000 in
theorem c_X11_full (hW : WOK l D S0) (d : Nat) {h : AH} {a la rq e : Nat} {m2 m3 : Value} {l2 l3 : Int} (h1 : h a = some (la, oRef e rq m2 m3 l2 l3)) (he : e ≤ 10) : MA l D S0 yX11_full cX11_full 1 (some .int) d [.ref a] h 0 0 (fun r h' => r = some (I ((2 ^ e - 1 : Nat) : Int)) ∧ h' = h) (fun _ _ => False) := by
  have hp := p2_le he
  have hp0 := p2_pos e
  refine MA.start hW (by decide) [.val (.ref a)] rfl ?_
  rintro X rfl rfl rfl hX
  refine wi_iconst hX dX11_full_0 ?_
  refine wa_aload_n hX (i := 0) dX11_full_1 rfl rfl ?_
  refine wa_get hX 0 (by assumption) (by rfl) (by decide +kernel) dX11_full_2 ?_
  refine wn_shl1 hX dX11_full_5 (by rfl) (by omega) ?_
  refine wi_iconst hX dX11_full_6 ?_
  refine wi_isub hX dX11_full_7 ?_
  refine wa_iret hX dX11_full_8 ?_
  exact ⟨by rw [show (((2 ^ e : Nat) : Int) - 1) = ((2 ^ e - 1 : Nat) : Int) by omega], rfl⟩
set_option maxRecDepth 100000 in
theorem c_X11_rank (hW : WOK l D S0) (d : Nat) {h : AH} {a la rq lq e : Nat} {m2 m3 : Value} {l2 l3 : Int} {rk : Nat → Nat} {G : Nat → Int} (h1 : h a = some (la, oRef e rq m2 m3 l2 l3)) (h2 : h rq = some (lq, aI .int 1024 G)) (hG : ∀ s, s < 2 ^ e → G s = ((rk s : Nat) : Int)) (he : e ≤ 10) (hrk : ∀ s, s < 2 ^ e → rk s ≤ 10) : MA l D S0 yX11_rank cX11_rank 1 (some .int) (d + 1) [.ref a] h 0 0 (fun r h' => r = some (I (rk (2 ^ e - 1) : Nat)) ∧ h' = h) (fun _ _ => False) := by
  have hp := p2_le he
  have hp0 := p2_pos e
  refine MA.start hW (by decide) [.val (.ref a)] rfl ?_
  rintro X rfl rfl rfl hX
  refine wa_aload_n hX (i := 0) dX11_rank_0 rfl rfl ?_
  refine wa_get hX 1 (by assumption) (by rfl) (by decide +kernel) dX11_rank_1 ?_
  refine wa_aload_n hX (i := 0) dX11_rank_4 rfl rfl ?_
  refine wa_callV hX (c_X11_full hW d h1 he) (by assumption) (by rfl) (by rfl) (by omega) (nA := 0) (by rfl) (by decide +kernel) rfl (by exact Nat.le_of_ble_eq_true rfl) dX11_rank_5 (fun r5 h5 p5 => ?_) (fun _ _ q => q.elim)
  obtain ⟨rfl, qq5⟩ := p5; subst h5
  dsimp only [Option.toList, List.cons_append, List.nil_append]
  refine wi_iaload hX (by assumption) (by omega) (by omega) (by omega) dX11_rank_8 ?_
  refine wa_iret hX dX11_rank_9 ?_
  exact ⟨by rw [Int.toNat_natCast, hG _ (by omega)], rfl⟩
set_option maxRecDepth 100000 in
theorem c_X11_isFree (hW : WOK l D S0) (d : Nat) {h : AH} {a la rq lq e : Nat} {m2 m3 : Value} {l2 l3 : Int} {rk : Nat → Nat} {G : Nat → Int} (h1 : h a = some (la, oRef e rq m2 m3 l2 l3)) (h2 : h rq = some (lq, aI .int 1024 G)) (hG : ∀ s, s < 2 ^ e → G s = ((rk s : Nat) : Int)) (he : e ≤ 10) (hrk : ∀ s, s < 2 ^ e → rk s ≤ 10) {s : Nat} (hs : s < 2 ^ e) : MA l D S0 yX11_isFree cX11_isFree 2 (some .boolean) (d + 1) [.ref a, I (s : Int)] h 0 0 (fun r h' => r = some (I ((b2n (frB rk s) : Nat) : Int)) ∧ h' = h) (fun _ _ => False) := by
  have hp := p2_le he
  have hp0 := p2_pos e
  have hr := hrk s hs
  have hb := bc_le s
  refine MA.start hW (by decide) [.val (.ref a), .val (I (s : Int))] rfl ?_
  rintro X rfl rfl rfl hX
  refine wa_aload_n hX (i := 0) dX11_isFree_0 rfl rfl ?_
  refine wa_get hX 1 (by assumption) (by rfl) (by decide +kernel) dX11_isFree_1 ?_
  refine wa_iload_n hX (i := 1) dX11_isFree_4 rfl rfl ?_
  refine wi_iaload hX (by assumption) (by omega) (by omega) (by omega) dX11_isFree_5 ?_
  rw [Int.toNat_natCast, hG s hs]
  refine wa_iload_n hX (i := 1) dX11_isFree_6 rfl rfl ?_
  refine wa_callS hX (c_J6_bitCount hW d (s := s) (by omega)) (by rfl) (by omega) (nA := 1) (by rfl) (by decide +kernel) rfl (by exact Nat.le_of_ble_eq_true rfl) dX11_isFree_7 (fun r7 h7 p7 => ?_) (fun _ _ q => q.elim)
  obtain ⟨rfl, qq7⟩ := p7; subst h7
  dsimp only [Option.toList, List.cons_append, List.nil_append]
  refine wi_icmp_ne hX (tgt := 17) dX11_isFree_10 (by decide) (by omega) (by omega) (fun c10 => ?_) (fun c10 => ?_)
  · skip
    refine wi_iconst hX dX11_isFree_17 ?_
    refine wa_zret hX dX11_isFree_18 (by rfl) ?_
    refine ⟨?_, rfl⟩
    unfold frB
    first
      | (rw [show (rk s == bc s) = true from beq_iff_eq.mpr (by omega)]; rfl)
      | (rw [show (rk s == bc s) = false from beq_eq_false_iff_ne.mpr (by omega)]; rfl)
  · skip
    refine wi_iconst hX dX11_isFree_13 ?_
    refine wa_goto hX (tgt := 18) dX11_isFree_14 (by decide) ?_
    refine wa_zret hX dX11_isFree_18 (by rfl) ?_
    refine ⟨?_, rfl⟩
    unfold frB
    first
      | (rw [show (rk s == bc s) = true from beq_iff_eq.mpr (by omega)]; rfl)
      | (rw [show (rk s == bc s) = false from beq_eq_false_iff_ne.mpr (by omega)]; rfl)
set_option maxRecDepth 100000 in
theorem c_X11_isBasis (hW : WOK l D S0) (d : Nat) {h : AH} {a la rq lq e : Nat} {m2 m3 : Value} {l2 l3 : Int} {rk : Nat → Nat} {G : Nat → Int} (h1 : h a = some (la, oRef e rq m2 m3 l2 l3)) (h2 : h rq = some (lq, aI .int 1024 G)) (hG : ∀ s, s < 2 ^ e → G s = ((rk s : Nat) : Int)) (he : e ≤ 10) (hrk : ∀ s, s < 2 ^ e → rk s ≤ 10) {s : Nat} (hs : s < 2 ^ e) : MA l D S0 yX11_isBasis cX11_isBasis 2 (some .boolean) (d + 2) [.ref a, I (s : Int)] h 0 0 (fun r h' => r = some (I ((b2n (bsB rk e s) : Nat) : Int)) ∧ h' = h) (fun _ _ => False) := by
  have hp := p2_le he
  have hp0 := p2_pos e
  have hr := hrk s hs
  have hr2 := hrk (2 ^ e - 1) (by omega)
  refine MA.start hW (by decide) [.val (.ref a), .val (I (s : Int))] rfl ?_
  rintro X rfl rfl rfl hX
  refine wa_aload_n hX (i := 0) dX11_isBasis_0 rfl rfl ?_
  refine wa_iload_n hX (i := 1) dX11_isBasis_1 rfl rfl ?_
  refine wa_callV hX (c_X11_isFree hW d h1 h2 hG he hrk hs) (by assumption) (by rfl) (by rfl) (by omega) (nA := 1) (by rfl) (by decide +kernel) rfl (by exact Nat.le_of_ble_eq_true rfl) dX11_isBasis_2 (fun r2 h2 p2 => ?_) (fun _ _ q => q.elim)
  obtain ⟨rfl, qq2⟩ := p2; subst h2
  dsimp only [Option.toList, List.cons_append, List.nil_append]
  refine wi_if_eq hX (tgt := 25) dX11_isBasis_5 (by decide) (by exact b2n_inR _) (fun c5 => ?_) (fun c5 => ?_)
  · skip
    refine wi_iconst hX dX11_isBasis_25 ?_
    refine wa_zret hX dX11_isBasis_26 (by rfl) ?_
    refine ⟨?_, rfl⟩
    unfold bsB
    first
      | (have q := b2n_f c5; rw [q]; rfl)
      | (have q := b2n_t c5
         rw [q, show (rk s == rk (2 ^ e - 1)) = true from beq_iff_eq.mpr (by omega)]; rfl)
      | (have q := b2n_t c5
         rw [q, show (rk s == rk (2 ^ e - 1)) = false from beq_eq_false_iff_ne.mpr (by omega)]; rfl)
  · skip
    refine wa_aload_n hX (i := 0) dX11_isBasis_8 rfl rfl ?_
    refine wa_get hX 1 (by assumption) (by rfl) (by decide +kernel) dX11_isBasis_9 ?_
    refine wa_iload_n hX (i := 1) dX11_isBasis_12 rfl rfl ?_
    refine wi_iaload hX (by assumption) (by omega) (by omega) (by omega) dX11_isBasis_13 ?_
    rw [Int.toNat_natCast, hG s hs]
    refine wa_aload_n hX (i := 0) dX11_isBasis_14 rfl rfl ?_
    refine wa_callV hX (c_X11_rank hW d h1 h2 hG he hrk) (by assumption) (by rfl) (by rfl) (by omega) (nA := 0) (by rfl) (by decide +kernel) rfl (by exact Nat.le_of_ble_eq_true rfl) dX11_isBasis_15 (fun r15 h15 p15 => ?_) (fun _ _ q => q.elim)
    obtain ⟨rfl, qq15⟩ := p15; subst h15
    dsimp only [Option.toList, List.cons_append, List.nil_append]
    refine wi_icmp_ne hX (tgt := 25) dX11_isBasis_18 (by decide) (by omega) (by omega) (fun c18 => ?_) (fun c18 => ?_)
    · skip
      refine wi_iconst hX dX11_isBasis_25 ?_
      refine wa_zret hX dX11_isBasis_26 (by rfl) ?_
      refine ⟨?_, rfl⟩
      unfold bsB
      first
        | (have q := b2n_f c5; rw [q]; rfl)
        | (have q := b2n_t c5
           rw [q, show (rk s == rk (2 ^ e - 1)) = true from beq_iff_eq.mpr (by omega)]; rfl)
        | (have q := b2n_t c5
           rw [q, show (rk s == rk (2 ^ e - 1)) = false from beq_eq_false_iff_ne.mpr (by omega)]; rfl)
    · skip
      refine wi_iconst hX dX11_isBasis_21 ?_
      refine wa_goto hX (tgt := 26) dX11_isBasis_22 (by decide) ?_
      refine wa_zret hX dX11_isBasis_26 (by rfl) ?_
      refine ⟨?_, rfl⟩
      unfold bsB
      first
        | (have q := b2n_f c5; rw [q]; rfl)
        | (have q := b2n_t c5
           rw [q, show (rk s == rk (2 ^ e - 1)) = true from beq_iff_eq.mpr (by omega)]; rfl)
        | (have q := b2n_t c5
           rw [q, show (rk s == rk (2 ^ e - 1)) = false from beq_eq_false_iff_ne.mpr (by omega)]; rfl)
set_option maxRecDepth 100000 in
theorem c_X11_closure (hW : WOK l D S0) (d : Nat) {h : AH} {a la rq lq e : Nat} {m2 m3 : Value} {l2 l3 : Int} {rk : Nat → Nat} {G : Nat → Int} (h1 : h a = some (la, oRef e rq m2 m3 l2 l3)) (h2 : h rq = some (lq, aI .int 1024 G)) (hG : ∀ s, s < 2 ^ e → G s = ((rk s : Nat) : Int)) (he : e ≤ 10) (hrk : ∀ s, s < 2 ^ e → rk s ≤ 10) {s : Nat} (hs : s < 2 ^ e) : MA l D S0 yX11_closure cX11_closure 4 (some .int) d [.ref a, I (s : Int)] h 0 0 (fun r h' => r = some (I (cloN rk e s : Nat)) ∧ h' = h) (fun _ _ => False) := by
  have hp := p2_le he
  have hp0 := p2_pos e
  have hr := hrk s hs
  refine MA.start hW (by decide) [.val (.ref a), .val (I (s : Int)), .unset, .unset] rfl ?_
  rintro X rfl rfl rfl hX
  refine wa_iload_n hX (i := 1) dX11_closure_0 rfl rfl ?_
  refine wa_istore_n hX (i := 2) dX11_closure_1 rfl rfl ?_
  dsimp only [List.set]
  refine wi_iconst hX dX11_closure_2 ?_
  refine wa_istore_n hX (i := 3) dX11_closure_3 rfl rfl ?_
  dsimp only [List.set]
  refine WA.eq rfl (by simp [orB]) rfl (WA.loop (σ := Nat) (fun j => e - j) (fun j => j ≤ e) (fun _ => h) (fun j => [.val (.ref a), .val (I (s : Int)), .val (I (s ||| orB (fun el => rk (s ||| 2 ^ el) == rk s) j : Nat)), .val (I (j : Nat))]) ?_ 0 (Nat.zero_le _))
  intro j hj ih
  have hcl := clo_lt (rk := rk) (n := j) hs hj
  have hub : j < e → s ||| 2 ^ j < 2 ^ e := fun q => or_lt hs (bit_lt q)
  have t39 : ∀ z : Nat, j < e → (s ||| orB (fun el => rk (s ||| 2 ^ el) == rk s) j) ||| z = s ||| orB (fun el => rk (s ||| 2 ^ el) == rk s) (j + 1) → WA X h 0 0 39 [.val (.ref a), .val (I (s : Int)), .val (I (s ||| orB (fun el => rk (s ||| 2 ^ el) == rk s) j : Nat)), .val (I (j : Nat))] [I (z : Int), I (s ||| orB (fun el => rk (s ||| 2 ^ el) == rk s) j : Nat)] := by
    intro z hje hz
    refine wn_ior hX dX11_closure_39 (by rfl) (by rfl) ?_
    refine wa_istore_n hX (i := 2) dX11_closure_40 rfl rfl ?_
    dsimp only [List.set]
    refine wi_iinc hX dX11_closure_41 rfl ?_
    dsimp only [List.set]
    refine wa_goto hX (tgt := 4) dX11_closure_44 (by decide) ?_
    exact WA.eq rfl (by rw [hz]; rfl) rfl (ih (j + 1) (by omega) (by omega))
  refine wa_iload_n hX (i := 3) dX11_closure_4 rfl rfl ?_
  refine wa_aload_n hX (i := 0) dX11_closure_5 rfl rfl ?_
  refine wa_get hX 0 (by assumption) (by rfl) (by decide +kernel) dX11_closure_6 ?_
  refine wi_icmp_ge hX (tgt := 47) dX11_closure_9 (by decide) (by omega) (by omega) (fun c9 => ?_) (fun c9 => ?_)
  · skip
    refine wa_iload_n hX (i := 2) dX11_closure_47 rfl rfl ?_
    refine wa_iret hX dX11_closure_48 ?_
    exact ⟨by rw [show j = e by omega]; rfl, rfl⟩
  · skip
    refine wa_iload_n hX (i := 2) dX11_closure_12 rfl rfl ?_
    refine wa_aload_n hX (i := 0) dX11_closure_13 rfl rfl ?_
    refine wa_get hX 1 (by assumption) (by rfl) (by decide +kernel) dX11_closure_14 ?_
    refine wa_iload_n hX (i := 1) dX11_closure_17 rfl rfl ?_
    refine wi_iconst hX dX11_closure_18 ?_
    refine wa_iload_n hX (i := 3) dX11_closure_19 rfl rfl ?_
    refine wn_shl1 hX dX11_closure_20 (by rfl) (by omega) ?_
    refine wn_ior hX dX11_closure_21 (by rfl) (by rfl) ?_
    have hu := hub (by omega)
    refine wi_iaload hX (by assumption) (by omega) (by omega) (by omega) dX11_closure_22 ?_
    rw [Int.toNat_natCast, hG _ hu]
    refine wa_aload_n hX (i := 0) dX11_closure_23 rfl rfl ?_
    refine wa_get hX 1 (by assumption) (by rfl) (by decide +kernel) dX11_closure_24 ?_
    refine wa_iload_n hX (i := 1) dX11_closure_27 rfl rfl ?_
    refine wi_iaload hX (by assumption) (by omega) (by omega) (by omega) dX11_closure_28 ?_
    rw [Int.toNat_natCast, hG s hs]
    have hr1 := hrk _ hu
    refine wi_icmp_ne hX (tgt := 38) dX11_closure_29 (by decide) (by omega) (by omega) (fun c29 => ?_) (fun c29 => ?_)
    · skip
      refine wi_iconst hX dX11_closure_38 ?_
      first
        | exact t39 (2 ^ j) (by omega) (by rw [show orB (fun el => rk (s ||| 2 ^ el) == rk s) (j + 1) = orB (fun el => rk (s ||| 2 ^ el) == rk s) j ||| 2 ^ j from orB_y (beq_iff_eq.mpr (by omega)), Nat.or_assoc])
        | exact t39 0 (by omega) (by rw [show orB (fun el => rk (s ||| 2 ^ el) == rk s) (j + 1) = orB (fun el => rk (s ||| 2 ^ el) == rk s) j from orB_n (by rw [beq_iff_eq]; have := hub (by omega); have := hrk _ this; omega), Nat.or_zero])
    · skip
      refine wi_iconst hX dX11_closure_32 ?_
      refine wa_iload_n hX (i := 3) dX11_closure_33 rfl rfl ?_
      refine wn_shl1 hX dX11_closure_34 (by rfl) (by omega) ?_
      refine wa_goto hX (tgt := 39) dX11_closure_35 (by decide) ?_
      first
        | exact t39 (2 ^ j) (by omega) (by rw [show orB (fun el => rk (s ||| 2 ^ el) == rk s) (j + 1) = orB (fun el => rk (s ||| 2 ^ el) == rk s) j ||| 2 ^ j from orB_y (beq_iff_eq.mpr (by omega)), Nat.or_assoc])
        | exact t39 0 (by omega) (by rw [show orB (fun el => rk (s ||| 2 ^ el) == rk s) (j + 1) = orB (fun el => rk (s ||| 2 ^ el) == rk s) j from orB_n (by rw [beq_iff_eq]; have := hub (by omega); have := hrk _ this; omega), Nat.or_zero])
set_option maxRecDepth 100000 in
theorem c_X11_isFlat (hW : WOK l D S0) (d : Nat) {h : AH} {a la rq lq e : Nat} {m2 m3 : Value} {l2 l3 : Int} {rk : Nat → Nat} {G : Nat → Int} (h1 : h a = some (la, oRef e rq m2 m3 l2 l3)) (h2 : h rq = some (lq, aI .int 1024 G)) (hG : ∀ s, s < 2 ^ e → G s = ((rk s : Nat) : Int)) (he : e ≤ 10) (hrk : ∀ s, s < 2 ^ e → rk s ≤ 10) {s : Nat} (hs : s < 2 ^ e) : MA l D S0 yX11_isFlat cX11_isFlat 2 (some .boolean) (d + 1) [.ref a, I (s : Int)] h 0 0 (fun r h' => r = some (I ((b2n (fltB rk e s) : Nat) : Int)) ∧ h' = h) (fun _ _ => False) := by
  have hp := p2_le he
  have hp0 := p2_pos e
  have hcl : cloN rk e s < 2 ^ e := clo_lt hs (Nat.le_refl e)
  refine MA.start hW (by decide) [.val (.ref a), .val (I (s : Int))] rfl ?_
  rintro X rfl rfl rfl hX
  refine wa_aload_n hX (i := 0) dX11_isFlat_0 rfl rfl ?_
  refine wa_iload_n hX (i := 1) dX11_isFlat_1 rfl rfl ?_
  refine wa_callV hX (c_X11_closure hW d h1 h2 hG he hrk hs) (by assumption) (by rfl) (by rfl) (by omega) (nA := 1) (by rfl) (by decide +kernel) rfl (by exact Nat.le_of_ble_eq_true rfl) dX11_isFlat_2 (fun r2 h2 p2 => ?_) (fun _ _ q => q.elim)
  obtain ⟨rfl, qq2⟩ := p2; subst h2
  dsimp only [Option.toList, List.cons_append, List.nil_append]
  refine wa_iload_n hX (i := 1) dX11_isFlat_5 rfl rfl ?_
  refine wi_icmp_ne hX (tgt := 13) dX11_isFlat_6 (by decide) (by omega) (by omega) (fun c6 => ?_) (fun c6 => ?_)
  · skip
    refine wi_iconst hX dX11_isFlat_13 ?_
    refine wa_zret hX dX11_isFlat_14 (by rfl) ?_
    refine ⟨?_, rfl⟩
    unfold fltB
    first
      | (rw [show (cloN rk e s == s) = true from beq_iff_eq.mpr (by omega)]; rfl)
      | (rw [show (cloN rk e s == s) = false from beq_eq_false_iff_ne.mpr (by omega)]; rfl)
  · skip
    refine wi_iconst hX dX11_isFlat_9 ?_
    refine wa_goto hX (tgt := 14) dX11_isFlat_10 (by decide) ?_
    refine wa_zret hX dX11_isFlat_14 (by rfl) ?_
    refine ⟨?_, rfl⟩
    unfold fltB
    first
      | (rw [show (cloN rk e s == s) = true from beq_iff_eq.mpr (by omega)]; rfl)
      | (rw [show (cloN rk e s == s) = false from beq_eq_false_iff_ne.mpr (by omega)]; rfl)
set_option maxRecDepth 100000 in
theorem c_X11_isHyperplane (hW : WOK l D S0) (d : Nat) {h : AH} {a la rq lq e : Nat} {m2 m3 : Value} {l2 l3 : Int} {rk : Nat → Nat} {G : Nat → Int} (h1 : h a = some (la, oRef e rq m2 m3 l2 l3)) (h2 : h rq = some (lq, aI .int 1024 G)) (hG : ∀ s, s < 2 ^ e → G s = ((rk s : Nat) : Int)) (he : e ≤ 10) (hrk : ∀ s, s < 2 ^ e → rk s ≤ 10) {s : Nat} (hs : s < 2 ^ e) : MA l D S0 yX11_isHyperplane cX11_isHyperplane 2 (some .boolean) (d + 2) [.ref a, I (s : Int)] h 0 0 (fun r h' => r = some (I ((b2n (hypB rk e s) : Nat) : Int)) ∧ h' = h) (fun _ _ => False) := by
  have hp := p2_le he
  have hp0 := p2_pos e
  have hr := hrk s hs
  have hr2 := hrk (2 ^ e - 1) (by omega)
  refine MA.start hW (by decide) [.val (.ref a), .val (I (s : Int))] rfl ?_
  rintro X rfl rfl rfl hX
  refine wa_aload_n hX (i := 0) dX11_isHyperplane_0 rfl rfl ?_
  refine wa_iload_n hX (i := 1) dX11_isHyperplane_1 rfl rfl ?_
  refine wa_callV hX (c_X11_isFlat hW d h1 h2 hG he hrk hs) (by assumption) (by rfl) (by rfl) (by omega) (nA := 1) (by rfl) (by decide +kernel) rfl (by exact Nat.le_of_ble_eq_true rfl) dX11_isHyperplane_2 (fun r2 h2 p2 => ?_) (fun _ _ q => q.elim)
  obtain ⟨rfl, qq2⟩ := p2; subst h2
  dsimp only [Option.toList, List.cons_append, List.nil_append]
  refine wi_if_eq hX (tgt := 27) dX11_isHyperplane_5 (by decide) (by exact b2n_inR _) (fun c5 => ?_) (fun c5 => ?_)
  · skip
    refine wi_iconst hX dX11_isHyperplane_27 ?_
    refine wa_zret hX dX11_isHyperplane_28 (by rfl) ?_
    refine ⟨?_, rfl⟩
    unfold hypB
    first
      | (have q := b2n_f c5; rw [q]; rfl)
      | (have q := b2n_t c5
         rw [q, decide_eq_true (by omega)]; rfl)
      | (have q := b2n_t c5
         rw [q, decide_eq_false (by omega)]; rfl)
  · skip
    refine wa_aload_n hX (i := 0) dX11_isHyperplane_8 rfl rfl ?_
    refine wa_get hX 1 (by assumption) (by rfl) (by decide +kernel) dX11_isHyperplane_9 ?_
    refine wa_iload_n hX (i := 1) dX11_isHyperplane_12 rfl rfl ?_
    refine wi_iaload hX (by assumption) (by omega) (by omega) (by omega) dX11_isHyperplane_13 ?_
    rw [Int.toNat_natCast, hG s hs]
    refine wa_aload_n hX (i := 0) dX11_isHyperplane_14 rfl rfl ?_
    refine wa_callV hX (c_X11_rank hW d h1 h2 hG he hrk) (by assumption) (by rfl) (by rfl) (by omega) (nA := 0) (by rfl) (by decide +kernel) rfl (by exact Nat.le_of_ble_eq_true rfl) dX11_isHyperplane_15 (fun r15 h15 p15 => ?_) (fun _ _ q => q.elim)
    obtain ⟨rfl, qq15⟩ := p15; subst h15
    dsimp only [Option.toList, List.cons_append, List.nil_append]
    refine wi_iconst hX dX11_isHyperplane_18 ?_
    refine wi_isub hX dX11_isHyperplane_19 ?_
    refine wi_icmp_ne hX (tgt := 27) dX11_isHyperplane_20 (by decide) (by omega) (by omega) (fun c20 => ?_) (fun c20 => ?_)
    · skip
      refine wi_iconst hX dX11_isHyperplane_27 ?_
      refine wa_zret hX dX11_isHyperplane_28 (by rfl) ?_
      refine ⟨?_, rfl⟩
      unfold hypB
      first
        | (have q := b2n_f c5; rw [q]; rfl)
        | (have q := b2n_t c5
           rw [q, decide_eq_true (by omega)]; rfl)
        | (have q := b2n_t c5
           rw [q, decide_eq_false (by omega)]; rfl)
    · skip
      refine wi_iconst hX dX11_isHyperplane_23 ?_
      refine wa_goto hX (tgt := 28) dX11_isHyperplane_24 (by decide) ?_
      refine wa_zret hX dX11_isHyperplane_28 (by rfl) ?_
      refine ⟨?_, rfl⟩
      unfold hypB
      first
        | (have q := b2n_f c5; rw [q]; rfl)
        | (have q := b2n_t c5
           rw [q, decide_eq_true (by omega)]; rfl)
        | (have q := b2n_t c5
           rw [q, decide_eq_false (by omega)]; rfl)
set_option maxRecDepth 100000 in
theorem c_X11_isCircuit (hW : WOK l D S0) (d : Nat) {h : AH} {a la rq lq e : Nat} {m2 m3 : Value} {l2 l3 : Int} {rk : Nat → Nat} {G : Nat → Int} (h1 : h a = some (la, oRef e rq m2 m3 l2 l3)) (h2 : h rq = some (lq, aI .int 1024 G)) (hG : ∀ s, s < 2 ^ e → G s = ((rk s : Nat) : Int)) (he : e ≤ 10) (hrk : ∀ s, s < 2 ^ e → rk s ≤ 10) {s : Nat} (hs : s < 2 ^ e) : MA l D S0 yX11_isCircuit cX11_isCircuit 4 (some .boolean) (d + 2) [.ref a, I (s : Int)] h 0 0 (fun r h' => r = some (I ((b2n (cirM rk s e) : Nat) : Int)) ∧ h' = h) (fun _ _ => False) := by
  have hp := p2_le he
  have hp0 := p2_pos e
  refine MA.start hW (by decide) [.val (.ref a), .val (I (s : Int)), .unset, .unset] rfl ?_
  rintro X rfl rfl rfl hX
  have t13 : WA X h 0 0 13 [.val (.ref a), .val (I (s : Int)), .unset, .unset] [I ((b2n (cirM rk s 0) : Nat) : Int)] := by
    refine wa_istore_n hX (i := 2) dX11_isCircuit_13 rfl (by first | rfl | assumption) ?_
    dsimp only [List.set]
    refine wi_iconst hX dX11_isCircuit_14 ?_
    refine wa_istore_n hX (i := 3) dX11_isCircuit_15 rfl (by first | rfl | assumption) ?_
    dsimp only [List.set]
    refine WA.loop (σ := Nat) (fun z => e - z) (fun z => z ≤ e) (fun _ => h) (fun z => [.val (.ref a), .val (I (s : Int)), .val (I ((b2n (cirM rk s z) : Nat) : Int)), .val (I (z : Nat))]) ?_ 0 (Nat.zero_le _)
    intro z hz ih
    have hst : cirM rk s (z + 1) = (cirM rk s z && (!s.testBit z || frB rk (sdf s (2 ^ z)))) := rfl
    have t55 : z < e → WA X h 0 0 55 [.val (.ref a), .val (I (s : Int)), .val (I ((b2n (cirM rk s z) : Nat) : Int)), .val (I (z : Nat))] [I ((b2n (cirM rk s (z + 1)) : Nat) : Int)] := by
      intro hze
      refine wa_istore_n hX (i := 2) dX11_isCircuit_55 rfl (by first | rfl | assumption) ?_
      dsimp only [List.set]
      refine wi_iinc hX dX11_isCircuit_56 rfl ?_
      dsimp only [List.set]
      refine wa_goto hX (tgt := 16) dX11_isCircuit_59 (by decide) ?_
      exact ih (z + 1) (by omega) (by omega)
    refine wa_iload_n hX (i := 3) dX11_isCircuit_16 rfl rfl ?_
    refine wa_aload_n hX (i := 0) dX11_isCircuit_17 rfl rfl ?_
    refine wa_get hX 0 (by assumption) (by rfl) (by decide +kernel) dX11_isCircuit_18 ?_
    refine wi_icmp_ge hX (tgt := 62) dX11_isCircuit_21 (by decide) (by omega) (by omega) (fun c21 => ?_) (fun c21 => ?_)
    · skip
      refine wa_iload_n hX (i := 2) dX11_isCircuit_62 rfl rfl ?_
      refine wa_zret hX dX11_isCircuit_63 (by cases cirM rk s z <;> rfl) ?_
      exact ⟨by rw [show z = e by omega], rfl⟩
    · skip
      refine wa_iload_n hX (i := 2) dX11_isCircuit_24 rfl rfl ?_
      refine wi_if_eq hX (tgt := 54) dX11_isCircuit_25 (by decide) (by exact b2n_inR _) (fun c25 => ?_) (fun c25 => ?_)
      · skip
        refine wi_iconst hX dX11_isCircuit_54 ?_
        refine WA.eq rfl rfl ?_ (t55 (by omega))
        rw [hst]
        first
          | (have q1 := b2n_f c25; rw [q1]; rfl)
          | (have q1 := b2n_t c25; have q2 := b2n_f c33; rw [q1, q2]; rfl)
          | (have q1 := b2n_t c25; have q2 := b2n_t c33; have q3 := b2n_f c47; rw [q1, q2, q3]; rfl)
          | (have q1 := b2n_t c25; have q2 := b2n_t c33; have q3 := b2n_t c47; rw [q1, q2, q3]; rfl)
      · skip
        refine wa_iload_n hX (i := 1) dX11_isCircuit_28 rfl rfl ?_
        refine wa_iload_n hX (i := 3) dX11_isCircuit_29 rfl rfl ?_
        refine wn_ishr hX dX11_isCircuit_30 (by rfl) (by rfl) (by omega) (by omega) ?_
        refine wi_iconst hX dX11_isCircuit_31 ?_
        refine wn_iand hX dX11_isCircuit_32 (by rfl) (by rfl) ?_
        rw [bit1]
        refine wi_if_eq hX (tgt := 50) dX11_isCircuit_33 (by decide) (by exact b2n_inR _) (fun c33 => ?_) (fun c33 => ?_)
        · skip
          refine wi_iconst hX dX11_isCircuit_50 ?_
          refine wa_goto hX (tgt := 55) dX11_isCircuit_51 (by decide) ?_
          refine WA.eq rfl rfl ?_ (t55 (by omega))
          rw [hst]
          first
            | (have q1 := b2n_f c25; rw [q1]; rfl)
            | (have q1 := b2n_t c25; have q2 := b2n_f c33; rw [q1, q2]; rfl)
            | (have q1 := b2n_t c25; have q2 := b2n_t c33; have q3 := b2n_f c47; rw [q1, q2, q3]; rfl)
            | (have q1 := b2n_t c25; have q2 := b2n_t c33; have q3 := b2n_t c47; rw [q1, q2, q3]; rfl)
        · skip
          refine wa_aload_n hX (i := 0) dX11_isCircuit_36 rfl rfl ?_
          refine wa_iload_n hX (i := 1) dX11_isCircuit_37 rfl rfl ?_
          refine wi_iconst hX dX11_isCircuit_38 ?_
          refine wa_iload_n hX (i := 3) dX11_isCircuit_39 rfl rfl ?_
          refine wn_shl1 hX dX11_isCircuit_40 (by rfl) (by omega) ?_
          refine wi_iconst hX dX11_isCircuit_41 ?_
          refine wa_ixor hX dX11_isCircuit_42 ?_
          refine wn_andn hX dX11_isCircuit_43 (by rfl) (by rfl) ?_
          refine wa_callV hX (c_X11_isFree hW d h1 h2 hG he hrk (s := sdf s (2 ^ z)) (sdf_lt hs)) (by assumption) (by rfl) (by rfl) (by omega) (nA := 1) (by rfl) (by decide +kernel) rfl (by exact Nat.le_of_ble_eq_true rfl) dX11_isCircuit_44 (fun r44 h44 p44 => ?_) (fun _ _ q => q.elim)
          obtain ⟨rfl, qq44⟩ := p44; subst h44
          dsimp only [Option.toList, List.cons_append, List.nil_append]
          refine wi_if_eq hX (tgt := 54) dX11_isCircuit_47 (by decide) (by exact b2n_inR _) (fun c47 => ?_) (fun c47 => ?_)
          · skip
            refine wi_iconst hX dX11_isCircuit_54 ?_
            refine WA.eq rfl rfl ?_ (t55 (by omega))
            rw [hst]
            first
              | (have q1 := b2n_f c25; rw [q1]; rfl)
              | (have q1 := b2n_t c25; have q2 := b2n_f c33; rw [q1, q2]; rfl)
              | (have q1 := b2n_t c25; have q2 := b2n_t c33; have q3 := b2n_f c47; rw [q1, q2, q3]; rfl)
              | (have q1 := b2n_t c25; have q2 := b2n_t c33; have q3 := b2n_t c47; rw [q1, q2, q3]; rfl)
          · skip
            refine wi_iconst hX dX11_isCircuit_50 ?_
            refine wa_goto hX (tgt := 55) dX11_isCircuit_51 (by decide) ?_
            refine WA.eq rfl rfl ?_ (t55 (by omega))
            rw [hst]
            first
              | (have q1 := b2n_f c25; rw [q1]; rfl)
              | (have q1 := b2n_t c25; have q2 := b2n_f c33; rw [q1, q2]; rfl)
              | (have q1 := b2n_t c25; have q2 := b2n_t c33; have q3 := b2n_f c47; rw [q1, q2, q3]; rfl)
              | (have q1 := b2n_t c25; have q2 := b2n_t c33; have q3 := b2n_t c47; rw [q1, q2, q3]; rfl)
  refine wa_aload_n hX (i := 0) dX11_isCircuit_0 rfl rfl ?_
  refine wa_iload_n hX (i := 1) dX11_isCircuit_1 rfl rfl ?_
  refine wa_callV hX (c_X11_isFree hW d h1 h2 hG he hrk hs) (by assumption) (by rfl) (by rfl) (by omega) (nA := 1) (by rfl) (by decide +kernel) rfl (by exact Nat.le_of_ble_eq_true rfl) dX11_isCircuit_2 (fun r2 h2 p2 => ?_) (fun _ _ q => q.elim)
  obtain ⟨rfl, qq2⟩ := p2; subst h2
  dsimp only [Option.toList, List.cons_append, List.nil_append]
  refine wi_if_ne hX (tgt := 12) dX11_isCircuit_5 (by decide) (by exact b2n_inR _) (fun c5 => ?_) (fun c5 => ?_)
  · skip
    refine wi_iconst hX dX11_isCircuit_12 ?_
    refine WA.eq rfl rfl ?_ t13
    show _ = [I ((b2n (!frB rk s) : Nat) : Int)]
    first
      | (have q := b2n_t c5; rw [q]; rfl)
      | (have q := b2n_f c5; rw [q]; rfl)
  · skip
    refine wi_iconst hX dX11_isCircuit_8 ?_
    refine wa_goto hX (tgt := 13) dX11_isCircuit_9 (by decide) ?_
    refine WA.eq rfl rfl ?_ t13
    show _ = [I ((b2n (!frB rk s) : Nat) : Int)]
    first
      | (have q := b2n_t c5; rw [q]; rfl)
      | (have q := b2n_f c5; rw [q]; rfl)
set_option maxRecDepth 100000 in
theorem c_X11_is (hW : WOK l D S0) (d : Nat) {h : AH} {a la rq lq e : Nat} {m2 m3 : Value} {l2 l3 : Int} {rk : Nat → Nat} {G : Nat → Int} (h1 : h a = some (la, oRef e rq m2 m3 l2 l3)) (h2 : h rq = some (lq, aI .int 1024 G)) (hG : ∀ s, s < 2 ^ e → G s = ((rk s : Nat) : Int)) (he : e ≤ 10) (hrk : ∀ s, s < 2 ^ e → rk s ≤ 10) {s : Nat} (hs : s < 2 ^ e) {ch : Int} (hc : inR ch) : MA l D S0 yX11_is cX11_is 3 (some .boolean) (d + 3) [.ref a, I ch, I (s : Int)] h 0 0 (fun r h' => r = some (I ((b2n (isB rk e ch s) : Nat) : Int)) ∧ h' = h) (fun _ _ => False) := by
  have hp := p2_le he
  have hp0 := p2_pos e
  refine MA.start hW (by decide) [.val (.ref a), .val (I ch), .val (I (s : Int))] rfl ?_
  rintro X rfl rfl rfl hX
  have t61 : ∀ b : Bool, b = isB rk e ch s → WA X h 0 0 61 [.val (.ref a), .val (I ch), .val (I (s : Int))] [I ((b2n b : Nat) : Int)] := by
    intro b hb
    refine wa_zret hX dX11_is_61 (by cases b <;> rfl) ?_
    exact ⟨by rw [hb], rfl⟩
  unfold isB at t61
  refine wa_iload_n hX (i := 1) dX11_is_0 rfl rfl ?_
  refine wi_bipush hX dX11_is_1 (by decide) ?_
  refine wi_icmp_ne hX (tgt := 14) dX11_is_3 (by decide) (by omega) (by omega) (fun c3 => ?_) (fun c3 => ?_)
  · skip
    refine wa_iload_n hX (i := 1) dX11_is_14 rfl rfl ?_
    refine wi_bipush hX dX11_is_15 (by decide) ?_
    refine wi_icmp_ne hX (tgt := 28) dX11_is_17 (by decide) (by omega) (by omega) (fun c17 => ?_) (fun c17 => ?_)
    · skip
      refine wa_iload_n hX (i := 1) dX11_is_28 rfl rfl ?_
      refine wi_bipush hX dX11_is_29 (by decide) ?_
      refine wi_icmp_ne hX (tgt := 42) dX11_is_31 (by decide) (by omega) (by omega) (fun c31 => ?_) (fun c31 => ?_)
      · skip
        refine wa_iload_n hX (i := 1) dX11_is_42 rfl rfl ?_
        refine wi_bipush hX dX11_is_43 (by decide) ?_
        refine wi_icmp_ne hX (tgt := 56) dX11_is_45 (by decide) (by omega) (by omega) (fun c45 => ?_) (fun c45 => ?_)
        · skip
          refine wa_aload_n hX (i := 0) dX11_is_56 rfl rfl ?_
          refine wa_iload_n hX (i := 2) dX11_is_57 rfl rfl ?_
          refine wa_callV hX (c_X11_isHyperplane hW d h1 h2 hG he hrk hs) (by assumption) (by rfl) (by rfl) (by omega) (nA := 1) (by rfl) (by decide +kernel) rfl (by exact Nat.le_of_ble_eq_true rfl) dX11_is_58 (fun r58 h58 p58 => ?_) (fun _ _ q => q.elim)
          obtain ⟨rfl, qq58⟩ := p58; subst h58
          dsimp only [Option.toList, List.cons_append, List.nil_append]
          refine t61 _ ?_
          first
            | (rw [if_pos (by omega)])
            | (rw [if_neg (by omega), if_pos (by omega)])
            | (rw [if_neg (by omega), if_neg (by omega), if_pos (by omega)])
            | (rw [if_neg (by omega), if_neg (by omega), if_neg (by omega), if_pos (by omega)])
            | (rw [if_neg (by omega), if_neg (by omega), if_neg (by omega), if_neg (by omega)])
        · skip
          refine wa_aload_n hX (i := 0) dX11_is_48 rfl rfl ?_
          refine wa_iload_n hX (i := 2) dX11_is_49 rfl rfl ?_
          refine wa_callV hX (c_X11_isFlat hW (d + 1) h1 h2 hG he hrk hs) (by assumption) (by rfl) (by rfl) (by omega) (nA := 1) (by rfl) (by decide +kernel) rfl (by exact Nat.le_of_ble_eq_true rfl) dX11_is_50 (fun r50 h50 p50 => ?_) (fun _ _ q => q.elim)
          obtain ⟨rfl, qq50⟩ := p50; subst h50
          dsimp only [Option.toList, List.cons_append, List.nil_append]
          refine wa_goto hX (tgt := 61) dX11_is_53 (by decide) ?_
          refine t61 _ ?_
          first
            | (rw [if_pos (by omega)])
            | (rw [if_neg (by omega), if_pos (by omega)])
            | (rw [if_neg (by omega), if_neg (by omega), if_pos (by omega)])
            | (rw [if_neg (by omega), if_neg (by omega), if_neg (by omega), if_pos (by omega)])
            | (rw [if_neg (by omega), if_neg (by omega), if_neg (by omega), if_neg (by omega)])
      · skip
        refine wa_aload_n hX (i := 0) dX11_is_34 rfl rfl ?_
        refine wa_iload_n hX (i := 2) dX11_is_35 rfl rfl ?_
        refine wa_callV hX (c_X11_isCircuit hW d h1 h2 hG he hrk hs) (by assumption) (by rfl) (by rfl) (by omega) (nA := 1) (by rfl) (by decide +kernel) rfl (by exact Nat.le_of_ble_eq_true rfl) dX11_is_36 (fun r36 h36 p36 => ?_) (fun _ _ q => q.elim)
        obtain ⟨rfl, qq36⟩ := p36; subst h36
        dsimp only [Option.toList, List.cons_append, List.nil_append]
        refine wa_goto hX (tgt := 61) dX11_is_39 (by decide) ?_
        refine t61 _ ?_
        first
          | (rw [if_pos (by omega)])
          | (rw [if_neg (by omega), if_pos (by omega)])
          | (rw [if_neg (by omega), if_neg (by omega), if_pos (by omega)])
          | (rw [if_neg (by omega), if_neg (by omega), if_neg (by omega), if_pos (by omega)])
          | (rw [if_neg (by omega), if_neg (by omega), if_neg (by omega), if_neg (by omega)])
    · skip
      refine wa_aload_n hX (i := 0) dX11_is_20 rfl rfl ?_
      refine wa_iload_n hX (i := 2) dX11_is_21 rfl rfl ?_
      refine wa_callV hX (c_X11_isBasis hW d h1 h2 hG he hrk hs) (by assumption) (by rfl) (by rfl) (by omega) (nA := 1) (by rfl) (by decide +kernel) rfl (by exact Nat.le_of_ble_eq_true rfl) dX11_is_22 (fun r22 h22 p22 => ?_) (fun _ _ q => q.elim)
      obtain ⟨rfl, qq22⟩ := p22; subst h22
      dsimp only [Option.toList, List.cons_append, List.nil_append]
      refine wa_goto hX (tgt := 61) dX11_is_25 (by decide) ?_
      refine t61 _ ?_
      first
        | (rw [if_pos (by omega)])
        | (rw [if_neg (by omega), if_pos (by omega)])
        | (rw [if_neg (by omega), if_neg (by omega), if_pos (by omega)])
        | (rw [if_neg (by omega), if_neg (by omega), if_neg (by omega), if_pos (by omega)])
        | (rw [if_neg (by omega), if_neg (by omega), if_neg (by omega), if_neg (by omega)])
  · skip
    refine wa_aload_n hX (i := 0) dX11_is_6 rfl rfl ?_
    refine wa_iload_n hX (i := 2) dX11_is_7 rfl rfl ?_
    refine wa_callV hX (c_X11_isFree hW (d + 1) h1 h2 hG he hrk hs) (by assumption) (by rfl) (by rfl) (by omega) (nA := 1) (by rfl) (by decide +kernel) rfl (by exact Nat.le_of_ble_eq_true rfl) dX11_is_8 (fun r8 h8 p8 => ?_) (fun _ _ q => q.elim)
    obtain ⟨rfl, qq8⟩ := p8; subst h8
    dsimp only [Option.toList, List.cons_append, List.nil_append]
    refine wa_goto hX (tgt := 61) dX11_is_11 (by decide) ?_
    refine t61 _ ?_
    first
      | (rw [if_pos (by omega)])
      | (rw [if_neg (by omega), if_pos (by omega)])
      | (rw [if_neg (by omega), if_neg (by omega), if_pos (by omega)])
      | (rw [if_neg (by omega), if_neg (by omega), if_neg (by omega), if_pos (by omega)])
      | (rw [if_neg (by omega), if_neg (by omega), if_neg (by omega), if_neg (by omega)])
set_option maxHeartbeats 1000000 in
set_option maxRecDepth 100000 in
theorem c_X11_fill (hW : WOK l D S0) (d : Nat) {h : AH} {a la rq lq q lb e : Nat} {m2 m3 : Value} {l2 l3 : Int} {G0 : Nat → Nat} {fr : Nat → Bool} (h1 : h a = some (la, oRef e rq m2 m3 l2 l3)) (h2 : h rq = some (lq, aV 1024 G0)) (h3 : h q = some (lb, aI .boolean 1024 (fun j => ((b2n (fr j) : Nat) : Int)))) (hl : lb ≠ lq) (he : e ≤ 10) (h0 : ∀ j, G0 j ≤ 10) : MA l D S0 yX11_fill cX11_fill 5 none (d + 1) [.ref a, .ref q] h 0 0 (fun r h' => r = none ∧ h' = hset h rq (lq, aV 1024 (filN fr e G0 (2 ^ e)))) (fun _ _ => False) := by
  have hp := p2_le he
  have hp0 := p2_pos e
  have har := ne_oa h1 h2
  have hqr : q ≠ rq := lab_ne h2 h3 hl
  refine MA.start hW (by decide) [.val (.ref a), .val (.ref q), .unset, .unset, .unset] rfl ?_
  rintro X rfl rfl rfl hX
  refine wi_iconst hX dX11_fill_0 ?_
  refine wa_istore_n hX (i := 2) dX11_fill_1 rfl (by first | rfl | assumption) ?_
  dsimp only [List.set]
  refine WA.heap (hset_self h2).symm ?_
  refine WA.loop (σ := Nat × Slot × Slot) (fun z => 2 ^ e - z.1) (fun z => z.1 ≤ 2 ^ e ∧ okS [z.2.1] 0 = true ∧ okS [z.2.2] 0 = true) (fun z => hset h rq (lq, aV 1024 (filN fr e G0 z.1))) (fun z => [.val (.ref a), .val (.ref q), .val (I (z.1 : Nat)), z.2.1, z.2.2]) ?_ (0, .unset, .unset) ⟨Nat.zero_le _, rfl, rfl⟩
  rintro ⟨n, u3, u4⟩ ⟨hn, hu3, hu4⟩ ih
  dsimp only at hn hu3 hu4 ⊢
  have hst : filN fr e G0 (n + 1) = up (filN fr e G0 n) n (filB (filN fr e G0 n) n (if fr n = true then bc n else 0) e) := rfl
  have hle := filN_le (fr := fr) (e := e) h0 n
  generalize hF : filN fr e G0 n = F at hst hle ⊢
  have w1 : hset h rq (lq, aV 1024 F) a = some (la, oRef e rq m2 m3 l2 l3) := (hset_ne har).trans h1
  have w2 : hset h rq (lq, aV 1024 F) rq = some (lq, aV 1024 F) := hset_eq
  have w3 : hset h rq (lq, aV 1024 F) q = some (lb, aI .boolean 1024 (fun j => ((b2n (fr j) : Nat) : Int))) := (hset_ne hqr).trans h3
  have hbc := bc_le n
  have t24 : n < 2 ^ e → ∀ b0 : Nat, b0 = (if fr n = true then bc n else 0) → WA X (hset h rq (lq, aV 1024 F)) 0 0 24 [.val (.ref a), .val (.ref q), .val (I (n : Nat)), u3, u4] [I (b0 : Int)] := by
    intro hn9 b0 hb0
    have hb10 : b0 ≤ 10 := by rw [hb0]; split <;> omega
    rw [← hb0] at hst
    refine wa_istore_n hX (i := 3) dX11_fill_24 rfl (by first | rfl | assumption) ?_
    dsimp only [List.set]
    refine wi_iconst hX dX11_fill_25 ?_
    refine wa_istore hX dX11_fill_26 (by first | rfl | assumption) ?_
    dsimp only [List.set]
    refine WA.loop (σ := Nat) (fun k => e - k) (fun k => k ≤ e) (fun _ => hset h rq (lq, aV 1024 F)) (fun k => [.val (.ref a), .val (.ref q), .val (I (n : Nat)), .val (I (filB F n b0 k : Nat)), .val (I (k : Nat))]) ?_ 0 (Nat.zero_le _)
    intro k hk ih2
    have hfk := filB_le (g := F) (s := n) hb10 hle k
    have hsk := hle (sdf n (2 ^ k))
    have hst2 : filB F n b0 (k + 1) = (if n.testBit k = true then max (filB F n b0 k) (F (sdf n (2 ^ k))) else filB F n b0 k) := rfl
    have hsd : sdf n (2 ^ k) < 1024 := sdf_lt (by omega)
    have t68 : ∀ z : Nat, k < e → z = filB F n b0 (k + 1) → WA X (hset h rq (lq, aV 1024 F)) 0 0 68 [.val (.ref a), .val (.ref q), .val (I (n : Nat)), .val (I (filB F n b0 k : Nat)), .val (I (k : Nat))] [I (z : Int)] := by
      intro z hke hz
      rw [hz]
      refine wa_istore_n hX (i := 3) dX11_fill_68 rfl (by first | rfl | assumption) ?_
      dsimp only [List.set]
      refine wi_iinc hX dX11_fill_69 rfl ?_
      dsimp only [List.set]
      refine wa_goto hX (tgt := 28) dX11_fill_72 (by decide) ?_
      exact ih2 (k + 1) (by omega) (by omega)
    refine wa_iload hX dX11_fill_28 rfl ?_
    refine wa_aload_n hX (i := 0) dX11_fill_30 rfl rfl ?_
    refine wa_get hX 0 (by assumption) (by rfl) (by decide +kernel) dX11_fill_31 ?_
    refine wi_icmp_ge hX (tgt := 75) dX11_fill_34 (by decide) (by omega) (by omega) (fun c34 => ?_) (fun c34 => ?_)
    · skip
      have hke : k = e := by omega
      rw [hke]
      refine wa_aload_n hX (i := 0) dX11_fill_75 rfl rfl ?_
      refine wa_get hX 1 (by assumption) (by rfl) (by decide +kernel) dX11_fill_76 ?_
      refine wa_iload_n hX (i := 2) dX11_fill_79 rfl rfl ?_
      refine wa_iload_n hX (i := 3) dX11_fill_80 rfl rfl ?_
      refine wi_iastore hX w2 (by omega) (by omega) (by omega) dX11_fill_81 ?_
      refine WA.ext9 (fun j => ((filN fr e G0 (n + 1) j : Nat) : Int)) hset_eq (fun j hj => by rw [hst]; exact up_cast) ?_
      rw [hset_hset, hset_hset]
      refine wi_iinc hX dX11_fill_82 rfl ?_
      dsimp only [List.set]
      refine wa_goto hX (tgt := 2) dX11_fill_85 (by decide) ?_
      exact ih (n + 1, _, _) ⟨by omega, rfl, rfl⟩ (by show 2 ^ e - (n + 1) < 2 ^ e - n; omega)
    · skip
      refine wa_iload_n hX (i := 2) dX11_fill_37 rfl rfl ?_
      refine wa_iload hX dX11_fill_38 rfl ?_
      refine wn_ishr hX dX11_fill_40 (by rfl) (by rfl) (by omega) (by omega) ?_
      refine wi_iconst hX dX11_fill_41 ?_
      refine wn_iand hX dX11_fill_42 (by rfl) (by rfl) ?_
      rw [bit1]
      have hbr := b2n_inR (n.testBit k)
      refine wi_iconst hX dX11_fill_43 ?_
      refine wi_icmp_ne hX (tgt := 67) dX11_fill_44 (by decide) (by omega) (by omega) (fun c44 => ?_) (fun c44 => ?_)
      · skip
        refine wa_iload_n hX (i := 3) dX11_fill_67 rfl rfl ?_
        first
          | exact t68 (filB F n b0 k) (by omega) (by rw [hst2, if_neg (fun z => c44 (by rw [z]; rfl))])
          | (have qq : n.testBit k = true := b2n_1 c44
             exact WA.eq rfl rfl (by rw [show max ((filB F n b0 k : Nat) : Int) ((F (sdf n (2 ^ k)) : Nat) : Int) = ((max (filB F n b0 k) (F (sdf n (2 ^ k))) : Nat) : Int) by omega]) (t68 _ (by omega) (by rw [hst2, if_pos qq])))
      · skip
        refine wa_iload_n hX (i := 3) dX11_fill_47 rfl rfl ?_
        refine wa_aload_n hX (i := 0) dX11_fill_48 rfl rfl ?_
        refine wa_get hX 1 (by assumption) (by rfl) (by decide +kernel) dX11_fill_49 ?_
        refine wa_iload_n hX (i := 2) dX11_fill_52 rfl rfl ?_
        refine wi_iconst hX dX11_fill_53 ?_
        refine wa_iload hX dX11_fill_54 rfl ?_
        refine wn_shl1 hX dX11_fill_56 (by rfl) (by omega) ?_
        refine wi_iconst hX dX11_fill_57 ?_
        refine wa_ixor hX dX11_fill_58 ?_
        refine wn_andn hX dX11_fill_59 (by rfl) (by rfl) ?_
        refine wi_iaload hX (by assumption) (by first | omega | exact inR_nat (and_ltl (by omega)) | exact inR_nat (and_ltr (by omega))) (by first | omega | exact inR_nat (and_ltl (by omega)) | exact inR_nat (and_ltr (by omega))) (by first | omega | exact inR_nat (and_ltl (by omega)) | exact inR_nat (and_ltr (by omega))) dX11_fill_60 ?_
        rw [Int.toNat_natCast]
        refine wi_max hX (by decide +kernel) rfl (by exact Nat.le_of_ble_eq_true rfl) (by omega) (by omega) dX11_fill_61 ?_
        refine wa_goto hX (tgt := 68) dX11_fill_64 (by decide) ?_
        first
          | exact t68 (filB F n b0 k) (by omega) (by rw [hst2, if_neg (fun z => c44 (by rw [z]; rfl))])
          | (have qq : n.testBit k = true := b2n_1 c44
             exact WA.eq rfl rfl (by rw [show max ((filB F n b0 k : Nat) : Int) ((F (sdf n (2 ^ k)) : Nat) : Int) = ((max (filB F n b0 k) (F (sdf n (2 ^ k))) : Nat) : Int) by omega]) (t68 _ (by omega) (by rw [hst2, if_pos qq])))
  refine wa_iload_n hX (i := 2) dX11_fill_2 rfl rfl ?_
  refine wa_aload_n hX (i := 0) dX11_fill_3 rfl rfl ?_
  refine wa_callV hX (c_X11_full hW d w1 he) (by assumption) (by rfl) (by rfl) (by omega) (nA := 0) (by rfl) (by decide +kernel) rfl (by exact Nat.le_of_ble_eq_true rfl) dX11_fill_4 (fun r4 h4 p4 => ?_) (fun _ _ q => q.elim)
  obtain ⟨rfl, qq4⟩ := p4; subst h4
  dsimp only [Option.toList, List.cons_append, List.nil_append]
  refine wi_icmp_gt hX (tgt := 88) dX11_fill_7 (by decide) (by omega) (by omega) (fun c7 => ?_) (fun c7 => ?_)
  · skip
    refine wa_vret hX dX11_fill_88 ?_
    rw [← hF, show n = 2 ^ e by omega]
    exact ⟨rfl, rfl⟩
  · skip
    refine wa_aload_n hX (i := 1) dX11_fill_10 rfl rfl ?_
    refine wa_iload_n hX (i := 2) dX11_fill_11 rfl rfl ?_
    refine wi_zaload hX (by assumption) (by omega) (by omega) (by omega) dX11_fill_12 ?_
    rw [Int.toNat_natCast]
    refine wi_if_eq hX (tgt := 23) dX11_fill_13 (by decide) (by exact b2n_inR _) (fun c13 => ?_) (fun c13 => ?_)
    · skip
      refine wi_iconst hX dX11_fill_23 ?_
      first
        | (have q1 := b2n_f c13
           exact t24 (by omega) 0 (by rw [if_neg (by rw [q1]; exact Bool.false_ne_true)]))
        | (have q1 := b2n_t c13
           exact t24 (by omega) (bc n) (by rw [if_pos q1]))
    · skip
      refine wa_iload_n hX (i := 2) dX11_fill_16 rfl rfl ?_
      refine wa_callS hX (c_J6_bitCount hW d (s := n) (by omega)) (by rfl) (by omega) (nA := 1) (by rfl) (by decide +kernel) rfl (by exact Nat.le_of_ble_eq_true rfl) dX11_fill_17 (fun r17 h17 p17 => ?_) (fun _ _ q => q.elim)
      obtain ⟨rfl, qq17⟩ := p17; subst h17
      dsimp only [Option.toList, List.cons_append, List.nil_append]
      refine wa_goto hX (tgt := 24) dX11_fill_20 (by decide) ?_
      first
        | (have q1 := b2n_f c13
           exact t24 (by omega) 0 (by rw [if_neg (by rw [q1]; exact Bool.false_ne_true)]))
        | (have q1 := b2n_t c13
           exact t24 (by omega) (bc n) (by rw [if_pos q1]))
end C78
