/-! The reference (X12): most -/
def mstN (r1 r2 : Nat → Nat) : Nat → Nat
  | 0 => 0
  | z + 1 => if (frB r1 z && frB r2 z) = true then max (mstN r1 r2 z) (bc z) else mstN r1 r2 z
theorem mstN_le {r1 r2 : Nat → Nat} : ∀ z, mstN r1 r2 z ≤ 10 := by
  intro z
  induction z with
  | zero => exact Nat.zero_le _
  | succ z ih =>
    have := bc_le z
    unfold mstN
    split <;> omega
section C88
variable {l : Launch} {D : va_G} {S0 : State}
set_option maxHeartbeats 1000000 in
set_option maxRecDepth 100000 in
theorem c_X12_most (hW : WOK l D S0) (d : Nat) {h : AH} {a la row brk al wk us kp pt lal ed le N m : Nat} {th c mc : Int} {P : Nat → Nat} (h1 : h a = some (la, oMod th c row brk al wk us kp pt)) (h2 : h al = some (lal, oAL mc ed (m : Int))) (e3 : h ed = some (le, aR (.object "java/lang/Object") N (fun j => if j < m then some (P j) else none))) (hN1 : m ≤ N) (hN2 : N ≤ 100) {e i j lp rq lq lp' rq' lq' : Nat} {m2 m3 m2' m3' : Value} {l2 l3 l2' l3' : Int} {r1 r2 : Nat → Nat} {G G' : Nat → Int} (hi : i < m) (hj : j < m) (g1 : h (P i) = some (lp, oRef e rq m2 m3 l2 l3)) (g2 : h rq = some (lq, aI .int 1024 G)) (g3 : ∀ s, s < 2 ^ e → G s = ((r1 s : Nat) : Int)) (k1 : h (P j) = some (lp', oRef e rq' m2' m3' l2' l3')) (k2 : h rq' = some (lq', aI .int 1024 G')) (k3 : ∀ s, s < 2 ^ e → G' s = ((r2 s : Nat) : Int)) (he : e ≤ 10) (hr1 : ∀ s, s < 2 ^ e → r1 s ≤ 10) (hr2 : ∀ s, s < 2 ^ e → r2 s ≤ 10) : MA l D S0 yX12_most cX12_most 6 (some .int) (d + 3) [.ref a, I (i : Int), I (j : Int)] h 0 0 (fun r h' => r = some (I (mstN r1 r2 (2 ^ e) : Nat)) ∧ h' = h) (fun _ _ => False) := by
  have hp := p2_le he
  have hp0 := p2_pos e
  refine MA.start hW (by decide) [.val (.ref a), .val (I (i : Int)), .val (I (j : Int)), .unset, .unset, .unset] rfl ?_
  rintro X rfl rfl rfl hX
  refine wa_aload_n hX (i := 0) dX12_most_0 rfl rfl ?_
  refine wa_get hX 4 (by assumption) (by rfl) (by decide +kernel) dX12_most_1 ?_
  refine wa_iload_n hX (i := 1) dX12_most_4 rfl rfl ?_
  refine wa_callV hX (c_AL_get hW d h2 e3 (i := i) (q := P i) hi hN1 (by omega) (if_pos hi)) (by assumption) (by rfl) (by rfl) (by omega) (nA := 1) (by rfl) (by decide +kernel) rfl (by exact Nat.le_of_ble_eq_true rfl) dX12_most_5 (fun r5 h5 p5 => ?_) (fun _ _ q => q.elim)
  obtain ⟨rfl, qq5⟩ := p5; subst h5
  dsimp only [Option.toList, List.cons_append, List.nil_append]
  refine wa_ccast hX g1 (by rfl) (by decide +kernel) dX12_most_8 ?_
  refine wa_astore_n hX (i := 3) dX12_most_11 rfl rfl ?_
  dsimp only [List.set]
  refine wi_iconst hX dX12_most_12 ?_
  refine wa_istore hX dX12_most_13 rfl ?_
  dsimp only [List.set]
  refine wi_iconst hX dX12_most_15 ?_
  refine wa_istore hX dX12_most_16 rfl ?_
  dsimp only [List.set]
  refine WA.loop (σ := Nat) (fun z => 2 ^ e - z) (fun z => z ≤ 2 ^ e) (fun _ => h) (fun z => [.val (.ref a), .val (I (i : Int)), .val (I (j : Int)), .val (.ref (P i)), .val (I (mstN r1 r2 z : Nat)), .val (I (z : Nat))]) ?_ 0 (Nat.zero_le _)
  intro z hz ih
  have hst : mstN r1 r2 (z + 1) = if (frB r1 z && frB r2 z) = true then max (mstN r1 r2 z) (bc z) else mstN r1 r2 z := rfl
  have hms := mstN_le (r1 := r1) (r2 := r2) z
  have hbz := bc_le z
  have t70 : z < 2 ^ e → WA X h 0 0 70 [.val (.ref a), .val (I (i : Int)), .val (I (j : Int)), .val (.ref (P i)), .val (I (mstN r1 r2 z : Nat)), .val (I (z : Nat))] [I ((mstN r1 r2 (z + 1) : Nat) : Int)] := by
    intro hzl
    refine wa_istore hX dX12_most_70 rfl ?_
    dsimp only [List.set]
    refine wi_iinc hX dX12_most_72 rfl ?_
    dsimp only [List.set]
    refine wa_goto hX (tgt := 18) dX12_most_75 (by decide) ?_
    exact ih (z + 1) (by omega) (by omega)
  refine wa_iload hX dX12_most_18 rfl ?_
  refine wa_aload_n hX (i := 3) dX12_most_20 rfl rfl ?_
  refine wa_callV hX (c_X11_full hW d g1 he) (by assumption) (by rfl) (by rfl) (by omega) (nA := 0) (by rfl) (by decide +kernel) rfl (by exact Nat.le_of_ble_eq_true rfl) dX12_most_21 (fun r21 h21 p21 => ?_) (fun _ _ q => q.elim)
  obtain ⟨rfl, qq21⟩ := p21; subst h21
  dsimp only [Option.toList, List.cons_append, List.nil_append]
  refine wi_icmp_gt hX (tgt := 78) dX12_most_24 (by decide) (by omega) (by omega) (fun c24 => ?_) (fun c24 => ?_)
  · skip
    refine wa_iload hX dX12_most_78 rfl ?_
    refine wa_iret hX dX12_most_80 ?_
    exact ⟨by rw [show z = 2 ^ e by omega], rfl⟩
  · skip
    refine wa_aload_n hX (i := 3) dX12_most_27 rfl rfl ?_
    refine wa_iload hX dX12_most_28 rfl ?_
    refine wa_callV hX (c_X11_isFree hW d g1 g2 g3 he hr1 (s := z) (by omega)) (by assumption) (by rfl) (by rfl) (by omega) (nA := 1) (by rfl) (by decide +kernel) rfl (by exact Nat.le_of_ble_eq_true rfl) dX12_most_30 (fun r30 h30 p30 => ?_) (fun _ _ q => q.elim)
    obtain ⟨rfl, qq30⟩ := p30; subst h30
    dsimp only [Option.toList, List.cons_append, List.nil_append]
    refine wi_if_eq hX (tgt := 68) dX12_most_33 (by decide) (by exact b2n_inR _) (fun c33 => ?_) (fun c33 => ?_)
    · skip
      refine wa_iload hX dX12_most_68 rfl ?_
      refine WA.eq rfl rfl ?_ (t70 (by omega))
      rw [hst]
      first
        | (have q1 := b2n_f c33; rw [q1]; rfl)
        | (have q1 := b2n_t c33; have q2 := b2n_f c52; rw [q1, q2]; rfl)
        | (have q1 := b2n_t c33
           have q2 := b2n_t c52
           rw [q1, q2, show max ((mstN r1 r2 z : Nat) : Int) ((bc z : Nat) : Int) = ((max (mstN r1 r2 z) (bc z) : Nat) : Int) by omega]; rfl)
    · skip
      refine wa_aload_n hX (i := 0) dX12_most_36 rfl rfl ?_
      refine wa_get hX 4 (by assumption) (by rfl) (by decide +kernel) dX12_most_37 ?_
      refine wa_iload_n hX (i := 2) dX12_most_40 rfl rfl ?_
      refine wa_callV hX (c_AL_get hW d h2 e3 (i := j) (q := P j) hj hN1 (by omega) (if_pos hj)) (by assumption) (by rfl) (by rfl) (by omega) (nA := 1) (by rfl) (by decide +kernel) rfl (by exact Nat.le_of_ble_eq_true rfl) dX12_most_41 (fun r41 h41 p41 => ?_) (fun _ _ q => q.elim)
      obtain ⟨rfl, qq41⟩ := p41; subst h41
      dsimp only [Option.toList, List.cons_append, List.nil_append]
      refine wa_ccast hX k1 (by rfl) (by decide +kernel) dX12_most_44 ?_
      refine wa_iload hX dX12_most_47 rfl ?_
      refine wa_callV hX (c_X11_isFree hW d k1 k2 k3 he hr2 (s := z) (by omega)) (by assumption) (by rfl) (by rfl) (by omega) (nA := 1) (by rfl) (by decide +kernel) rfl (by exact Nat.le_of_ble_eq_true rfl) dX12_most_49 (fun r49 h49 p49 => ?_) (fun _ _ q => q.elim)
      obtain ⟨rfl, qq49⟩ := p49; subst h49
      dsimp only [Option.toList, List.cons_append, List.nil_append]
      refine wi_if_eq hX (tgt := 68) dX12_most_52 (by decide) (by exact b2n_inR _) (fun c52 => ?_) (fun c52 => ?_)
      · skip
        refine wa_iload hX dX12_most_68 rfl ?_
        refine WA.eq rfl rfl ?_ (t70 (by omega))
        rw [hst]
        first
          | (have q1 := b2n_f c33; rw [q1]; rfl)
          | (have q1 := b2n_t c33; have q2 := b2n_f c52; rw [q1, q2]; rfl)
          | (have q1 := b2n_t c33
             have q2 := b2n_t c52
             rw [q1, q2, show max ((mstN r1 r2 z : Nat) : Int) ((bc z : Nat) : Int) = ((max (mstN r1 r2 z) (bc z) : Nat) : Int) by omega]; rfl)
      · skip
        refine wa_iload hX dX12_most_55 rfl ?_
        refine wa_iload hX dX12_most_57 rfl ?_
        refine wa_callS hX (c_J6_bitCount hW d (s := z) (by omega)) (by rfl) (by omega) (nA := 1) (by rfl) (by decide +kernel) rfl (by exact Nat.le_of_ble_eq_true rfl) dX12_most_59 (fun r59 h59 p59 => ?_) (fun _ _ q => q.elim)
        obtain ⟨rfl, qq59⟩ := p59; subst h59
        dsimp only [Option.toList, List.cons_append, List.nil_append]
        refine wi_max hX (by decide +kernel) rfl (by exact Nat.le_of_ble_eq_true rfl) (by omega) (by omega) dX12_most_62 ?_
        refine wa_goto hX (tgt := 70) dX12_most_65 (by decide) ?_
        refine WA.eq rfl rfl ?_ (t70 (by omega))
        rw [hst]
        first
          | (have q1 := b2n_f c33; rw [q1]; rfl)
          | (have q1 := b2n_t c33; have q2 := b2n_f c52; rw [q1, q2]; rfl)
          | (have q1 := b2n_t c33
             have q2 := b2n_t c52
             rw [q1, q2, show max ((mstN r1 r2 z : Nat) : Int) ((bc z : Nat) : Int) = ((max (mstN r1 r2 z) (bc z) : Nat) : Int) by omega]; rfl)
end C88
