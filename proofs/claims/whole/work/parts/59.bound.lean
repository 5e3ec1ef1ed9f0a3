/-! Circuitfold$Drawing (X2): setBoundSigns -/
def isE (J : Nat → Nat) (bs el row : Nat) : Bool := !bs.testBit el && (J el).testBit row
def sbP (J K : Nat → Nat) (bs : Nat) (s : Nat × Nat × (Nat → Nat)) (p : Nat) : Nat × Nat × (Nat → Nat) := if (isE J bs (p / 10) (p % 10) && !(K (p / 10)).testBit (p % 10)) = true then (if (walkN K (p % 10) 10 (2 ^ (p / 10)) (2 ^ (p / 10)) s.2.2).1 < s.1 then ((walkN K (p % 10) 10 (2 ^ (p / 10)) (2 ^ (p / 10)) s.2.2).1, p + 1, (walkN K (p % 10) 10 (2 ^ (p / 10)) (2 ^ (p / 10)) s.2.2).2) else (s.1, s.2.1, (walkN K (p % 10) 10 (2 ^ (p / 10)) (2 ^ (p / 10)) s.2.2).2)) else s
/-- the shortest ring so far: its length, its pair + 1 (0: none), the ways kept -/
def sbI (J K : Nat → Nat) (bs : Nat) (B : Nat → Nat) : Nat → Nat × Nat × (Nat → Nat)
  | 0 => (99, 0, B)
  | p + 1 => sbP J K bs (sbI J K bs B p) p
abbrev SbT : Type := Bool × (Nat → Nat) × (Nat → Nat) × (Nat → Nat)
def sbC (sf : Nat → Nat) (e bs : Nat) (s : SbT) (u : Nat × Nat × (Nat → Nat)) : SbT := if u.2.1 = 0 then (true, s.2.1, u.2.2, s.2.2.2) else (false, lrn s.2.1 ((u.2.1 - 1) / 10) ((u.2.1 - 1) % 10), (walkN s.2.1 ((u.2.1 - 1) % 10) 10 (2 ^ ((u.2.1 - 1) / 10)) (2 ^ ((u.2.1 - 1) / 10)) u.2.2).2, if sgnN sf (walkN s.2.1 ((u.2.1 - 1) % 10) 10 (2 ^ ((u.2.1 - 1) / 10)) (2 ^ ((u.2.1 - 1) / 10)) u.2.2).2 s.2.2.2 e bs ((u.2.1 - 1) / 10) ((u.2.1 - 1) % 10) then lrn s.2.2.2 ((u.2.1 - 1) / 10) ((u.2.1 - 1) % 10) else s.2.2.2)
/-- after so many rounds: whether it stopped; known, before, minus -/
def sbO (sf J : Nat → Nat) (e bs : Nat) (s : SbT) : Nat → SbT
  | 0 => s
  | r + 1 => if (sbO sf J e bs s r).1 = true then sbO sf J e bs s r else sbC sf e bs (sbO sf J e bs s r) (sbI J (sbO sf J e bs s r).2.1 bs (sbO sf J e bs s r).2.2.1 100)
def sbE (q : Nat) : Int := if q = 0 then -1 else (((q - 1) / 10 : Nat) : Int)
def sbR (q : Nat) : Int := if q = 0 then -1 else (((q - 1) % 10 : Nat) : Int)
theorem sbI_lt {J K : Nat → Nat} {bs : Nat} {B : Nat → Nat} (hB : ∀ j, B j < 10) : ∀ n, (sbI J K bs B n).1 ≤ 99 ∧ (sbI J K bs B n).2.1 ≤ n ∧ ∀ j, (sbI J K bs B n).2.2 j < 10 := by
  intro n
  induction n with
  | zero => exact ⟨Nat.le_refl 99, Nat.le_refl 0, hB⟩
  | succ n ih =>
    obtain ⟨h1, h2, h3⟩ := ih
    show (sbP J K bs (sbI J K bs B n) n).1 ≤ 99 ∧ (sbP J K bs (sbI J K bs B n) n).2.1 ≤ n + 1 ∧ ∀ j, (sbP J K bs (sbI J K bs B n) n).2.2 j < 10
    have h4 := walkB_lt (K := K) (to := n % 10) 10 (2 ^ (n / 10)) (2 ^ (n / 10)) _ h3
    have h5 := walkN_le (K := K) (to := n % 10) 10 (2 ^ (n / 10)) (2 ^ (n / 10)) (sbI J K bs B n).2.2
    unfold sbP
    split
    · split
      · exact ⟨h5, Nat.le_refl _, h4⟩
      · exact ⟨h1, by dsimp only; omega, h4⟩
    · exact ⟨h1, by omega, h3⟩
theorem lrn_lt9 {N : Nat → Nat} {x y : Nat} {b : Bool} (hx : x < 10) (hy : y < 10) (h : ∀ j, N j < 1024) : ∀ j, (if b = true then lrn N x y else N) j < 1024 := by
  split
  · exact lrn_lt hx hy h
  · exact h
theorem sbO_lt {sf J : Nat → Nat} {e bs : Nat} {s : SbT} (h1 : ∀ j, s.2.1 j < 1024) (h2 : ∀ j, s.2.2.1 j < 10) (h3 : ∀ j, s.2.2.2 j < 1024) : ∀ r, (∀ j, (sbO sf J e bs s r).2.1 j < 1024) ∧ (∀ j, (sbO sf J e bs s r).2.2.1 j < 10) ∧ ∀ j, (sbO sf J e bs s r).2.2.2 j < 1024 := by
  intro r
  induction r with
  | zero => exact ⟨h1, h2, h3⟩
  | succ r ih =>
    obtain ⟨q1, q2, q3⟩ := ih
    have hS : sbO sf J e bs s (r + 1) = (if (sbO sf J e bs s r).1 = true then sbO sf J e bs s r else sbC sf e bs (sbO sf J e bs s r) (sbI J (sbO sf J e bs s r).2.1 bs (sbO sf J e bs s r).2.2.1 100)) := rfl
    rw [hS]
    generalize sbO sf J e bs s r = t at q1 q2 q3 ⊢
    obtain ⟨p1, p2, p3⟩ := sbI_lt (J := J) (K := t.2.1) (bs := bs) q2 100
    generalize sbI J t.2.1 bs t.2.2.1 100 = u at p1 p2 p3 ⊢
    split
    · exact ⟨q1, q2, q3⟩
    · unfold sbC
      split
      · exact ⟨q1, p3, q3⟩
      · have hx : (u.2.1 - 1) / 10 < 10 := by omega
        have hy : (u.2.1 - 1) % 10 < 10 := by omega
        generalize (u.2.1 - 1) / 10 = x at hx ⊢
        generalize (u.2.1 - 1) % 10 = y at hy ⊢
        have w1 := lrn_lt hx hy q1
        have w2 := walkB_lt (K := t.2.1) (to := y) 10 (2 ^ x) (2 ^ x) u.2.2 p3
        have w3 := lrn_lt9 (b := sgnN sf (walkN t.2.1 y 10 (2 ^ x) (2 ^ x) u.2.2).2 t.2.2.2 e bs x y) hx hy q3
        clear q1 q2 q3 p1 p2 p3
        dsimp only
        refine ⟨?_, ?_, ?_⟩
        · intro j; exact w1 j
        · intro j; exact w2 j
        · intro j; exact w3 j
theorem sbO_stay {sf J : Nat → Nat} {e bs : Nat} {s : SbT} {r : Nat} (h : (sbO sf J e bs s r).1 = true) : ∀ m, sbO sf J e bs s (r + m) = sbO sf J e bs s r := by
  intro m
  induction m with
  | zero => rfl
  | succ m ih =>
    have hS : sbO sf J e bs s (r + (m + 1)) = (if (sbO sf J e bs s (r + m)).1 = true then sbO sf J e bs s (r + m) else sbC sf e bs (sbO sf J e bs s (r + m)) (sbI J (sbO sf J e bs s (r + m)).2.1 bs (sbO sf J e bs s (r + m)).2.2.1 100)) := rfl
    rw [hS, ih, if_pos h]
theorem sbE_in {q : Nat} (h : q ≤ 100) : inR (sbE q) ∧ inR (sbR q) := by
  unfold sbE sbR
  split
  · exact ⟨by omega, by omega⟩
  · exact ⟨by omega, by omega⟩
section C59
variable {l : Launch} {D : va_G} {S0 : State}
set_option maxHeartbeats 4000000 in
set_option maxRecDepth 100000 in
theorem c_X2_setBoundSigns (hW : WOK l D S0) (d : Nat) {h : AH} {a la mt lm jq kq bq nq cq lj lk lb ln lt bs full rq hq tq e : Nat} {tr sym : Int} {v2 v3 : Value} {sf J K0 B0 N0 : Nat → Nat} (h9 : h a = some (la, oDra mt (bs : Int) jq kq bq nq cq tr)) (hj : h jq = some (lj, aV 10 J)) (hk : h kq = some (lk, aV 10 K0)) (hb : h bq = some (lb, aV 10 B0)) (hn : h nq = some (ln, aV 10 N0)) (hm : h mt = some (lm, oMat e full rq hq tq sym v2 v3)) (ht : h tq = some (lt, aB e sf)) (l1 : lj ≠ lk) (l2 : lj ≠ lb) (l3 : lk ≠ lb) (l4 : lk ≠ ln) (l5 : lb ≠ ln) (l6 : lt ≠ lb) (l7 : lj ≠ ln) (l8 : lt ≠ lk) (l9 : lt ≠ ln) (he : e ≤ 10) (hbs : bs < 1024) (hJ : ∀ j, j < 10 → J j < 1024) (hK0 : ∀ j, K0 j < 1024) (hB0 : ∀ j, B0 j < 10) (hN0 : ∀ j, N0 j < 1024) (hsf : ∀ j, j < 2 ^ e → sf j < 32) : MA l D S0 yX2_setBoundSigns cX2_setBoundSigns 9 none (d + 3) [.ref a] h 0 0 (fun r h' => r = none ∧ h' = hset (hset (hset h kq (lk, aV 10 (sbO sf J e bs (false, K0, B0, N0) 100).2.1)) bq (lb, aV 10 (sbO sf J e bs (false, K0, B0, N0) 100).2.2.1)) nq (ln, aV 10 (sbO sf J e bs (false, K0, B0, N0) 100).2.2.2)) (fun _ _ => False) := by
  have hak := ne_oa h9 hk
  have hab := ne_oa h9 hb
  have han := ne_oa h9 hn
  have hmk := ne_oa hm hk
  have hmb := ne_oa hm hb
  have hmn := ne_oa hm hn
  have hjk : jq ≠ kq := lab_ne hk hj l1
  have hjb : jq ≠ bq := lab_ne hb hj l2
  have hjn : jq ≠ nq := lab_ne hn hj l7
  have hkb : kq ≠ bq := lab_ne hb hk l3
  have hkn : kq ≠ nq := lab_ne hn hk l4
  have hbn : bq ≠ nq := lab_ne hn hb l5
  have htk : tq ≠ kq := lab_ne hk ht l8
  have htb : tq ≠ bq := lab_ne hb ht l6
  have htn : tq ≠ nq := lab_ne hn ht l9
  obtain ⟨Z, hZ⟩ : ∃ Z : (Nat → Nat) → (Nat → Nat) → (Nat → Nat) → AH, ∀ K B N, Z K B N = hset (hset (hset h kq (lk, aV 10 K)) bq (lb, aV 10 B)) nq (ln, aV 10 N) := ⟨_, fun _ _ _ => rfl⟩
  have z0 : h = Z K0 B0 N0 := by rw [hZ, hset_self hk, hset_self hb, hset_self hn]
  have zA : ∀ K B N, Z K B N a = some (la, oDra mt (bs : Int) jq kq bq nq cq tr) := fun K B N => by rw [hZ, hset_ne han, hset_ne hab, hset_ne hak]; exact h9
  have zJ : ∀ K B N, Z K B N jq = some (lj, aV 10 J) := fun K B N => by rw [hZ, hset_ne hjn, hset_ne hjb, hset_ne hjk]; exact hj
  have zM : ∀ K B N, Z K B N mt = some (lm, oMat e full rq hq tq sym v2 v3) := fun K B N => by rw [hZ, hset_ne hmn, hset_ne hmb, hset_ne hmk]; exact hm
  have zT : ∀ K B N, Z K B N tq = some (lt, aB e sf) := fun K B N => by rw [hZ, hset_ne htn, hset_ne htb, hset_ne htk]; exact ht
  have zK : ∀ K B N, Z K B N kq = some (lk, aV 10 K) := fun K B N => by rw [hZ, hset_ne hkn, hset_ne hkb]; exact hset_eq
  have zB : ∀ K B N, Z K B N bq = some (lb, aV 10 B) := fun K B N => by rw [hZ, hset_ne hbn]; exact hset_eq
  have zN : ∀ K B N, Z K B N nq = some (ln, aV 10 N) := fun K B N => by rw [hZ]; exact hset_eq
  have sB : ∀ K B N B', hset (Z K B N) bq (lb, aV 10 B') = Z K B' N := fun K B N B' => by rw [hZ, hZ, hset_comm hbn.symm, hset_hset]
  have sK : ∀ K B N K', hset (Z K B N) kq (lk, aV 10 K') = Z K' B N := fun K B N K' => by rw [hZ, hZ, hset_comm hkn.symm, hset_comm hkb.symm, hset_hset]
  have sN : ∀ K B N N', hset (Z K B N) nq (ln, aV 10 N') = Z K B N' := fun K B N N' => by rw [hZ, hZ, hset_hset]
  rw [← hZ]
  refine MA.start hW (by decide) [.val (.ref a), .unset, .unset, .unset, .unset, .unset, .unset, .unset, .unset] rfl ?_
  rintro X rfl rfl rfl hX
  refine wi_iconst hX dX2_setBoundSigns_0 ?_
  refine wa_istore_n hX (i := 1) dX2_setBoundSigns_1 rfl (by first | rfl | assumption) ?_
  dsimp only [List.set]
  refine WA.heap z0 ?_
  refine WA.loop (σ := Nat × Slot × Slot × Slot × Slot × Slot × Slot × Slot) (fun z => 100 - z.1) (fun z => z.1 ≤ 100 ∧ (sbO sf J e bs (false, K0, B0, N0) z.1).1 = false ∧ okS [z.2.1] 0 = true ∧ okS [z.2.2.1] 0 = true ∧ okS [z.2.2.2.1] 0 = true ∧ okS [z.2.2.2.2.1] 0 = true ∧ okS [z.2.2.2.2.2.1] 0 = true ∧ okS [z.2.2.2.2.2.2.1] 0 = true ∧ okS [z.2.2.2.2.2.2.2] 0 = true) (fun z => Z (sbO sf J e bs (false, K0, B0, N0) z.1).2.1 (sbO sf J e bs (false, K0, B0, N0) z.1).2.2.1 (sbO sf J e bs (false, K0, B0, N0) z.1).2.2.2) (fun z => [.val (.ref a), .val (I (z.1 : Nat)), z.2.1, z.2.2.1, z.2.2.2.1, z.2.2.2.2.1, z.2.2.2.2.2.1, z.2.2.2.2.2.2.1, z.2.2.2.2.2.2.2]) ?_ (0, .unset, .unset, .unset, .unset, .unset, .unset, .unset) ⟨Nat.zero_le _, rfl, rfl, rfl, rfl, rfl, rfl, rfl, rfl⟩
  rintro ⟨i, u2, u3, u4, u5, u6, u7, u8⟩ ⟨hi, hgo, hu2, hu3, hu4, hu5, hu6, hu7, hu8⟩ ih
  dsimp only at hi hgo hu2 hu3 hu4 hu5 hu6 hu7 hu8 ⊢
  have hst : sbO sf J e bs (false, K0, B0, N0) (i + 1) = (if (sbO sf J e bs (false, K0, B0, N0) i).1 = true then sbO sf J e bs (false, K0, B0, N0) i else sbC sf e bs (sbO sf J e bs (false, K0, B0, N0) i) (sbI J (sbO sf J e bs (false, K0, B0, N0) i).2.1 bs (sbO sf J e bs (false, K0, B0, N0) i).2.2.1 100)) := rfl
  rw [if_neg (by rw [hgo]; decide)] at hst
  obtain ⟨qK, qB, qN⟩ := sbO_lt (sf := sf) (J := J) (e := e) (bs := bs) (s := (false, K0, B0, N0)) hK0 hB0 hN0 i
  generalize hS : sbO sf J e bs (false, K0, B0, N0) i = s at hst hgo qK qB qN ⊢
  obtain ⟨go, K, B, N⟩ := s
  dsimp only at hst hgo qK qB qN ⊢
  refine wa_iload_n hX (i := 1) dX2_setBoundSigns_2 rfl rfl ?_
  refine wi_bipush hX dX2_setBoundSigns_3 (by decide) ?_
  refine wi_icmp_ge hX (tgt := 118) dX2_setBoundSigns_5 (by decide) (by omega) (by omega) (fun c5 => ?_) (fun c5 => ?_)
  · skip
    refine wa_vret hX dX2_setBoundSigns_118 ?_
    have hi1 : i = 100 := by omega
    subst hi1
    rw [hS]
    exact ⟨rfl, rfl⟩
  · skip
    refine wi_bipush hX dX2_setBoundSigns_8 (by decide) ?_
    refine wa_istore_n hX (i := 2) dX2_setBoundSigns_10 rfl (by first | rfl | assumption) ?_
    dsimp only [List.set]
    refine wi_iconst hX dX2_setBoundSigns_11 ?_
    refine wa_istore_n hX (i := 3) dX2_setBoundSigns_12 rfl (by first | rfl | assumption) ?_
    dsimp only [List.set]
    refine wi_iconst hX dX2_setBoundSigns_13 ?_
    refine wa_istore hX dX2_setBoundSigns_14 (by first | rfl | assumption) ?_
    dsimp only [List.set]
    refine wi_iconst hX dX2_setBoundSigns_16 ?_
    refine wa_istore hX dX2_setBoundSigns_17 (by first | rfl | assumption) ?_
    dsimp only [List.set]
    refine WA.loop (σ := Nat × Slot × Slot × Slot) (fun z => 100 - z.1) (fun z => z.1 ≤ 100 ∧ okS [z.2.1] 0 = true ∧ okS [z.2.2.1] 0 = true ∧ okS [z.2.2.2] 0 = true) (fun z => Z K (sbI J K bs B z.1).2.2 N) (fun z => [.val (.ref a), .val (I (i : Nat)), .val (I ((sbI J K bs B z.1).1 : Nat)), .val (I (sbE (sbI J K bs B z.1).2.1)), .val (I (sbR (sbI J K bs B z.1).2.1)), .val (I (z.1 : Nat)), z.2.1, z.2.2.1, z.2.2.2]) ?_ (0, u6, u7, u8) ⟨Nat.zero_le _, hu6, hu7, hu8⟩
    rintro ⟨p, w6, w7, w8⟩ ⟨hp, hw6, hw7, hw8⟩ ih2
    dsimp only at hp hw6 hw7 hw8 ⊢
    have hst2 : sbI J K bs B (p + 1) = sbP J K bs (sbI J K bs B p) p := rfl
    obtain ⟨p1, p2, p3⟩ := sbI_lt (J := J) (K := K) (bs := bs) qB p
    generalize hI : sbI J K bs B p = t at hst2 p1 p2 p3 ⊢
    obtain ⟨sh, q, B'⟩ := t
    dsimp only at hst2 p1 p2 p3 ⊢
    have kA := zA K B' N
    have kJ := zJ K B' N
    have kK := zK K B' N
    have kB := zB K B' N
    obtain ⟨i1, i2⟩ := sbE_in (show q ≤ 100 by omega)
    unfold sbP at hst2
    dsimp only at hst2
    have t94 : ∀ (u : Nat × Nat × (Nat → Nat)) (s6 s7 s8 : Slot), sbI J K bs B (p + 1) = u → okS [s6] 0 = true → okS [s7] 0 = true → okS [s8] 0 = true → p < 100 → WA X (Z K u.2.2 N) 0 0 94 [.val (.ref a), .val (I (i : Nat)), .val (I (u.1 : Nat)), .val (I (sbE u.2.1)), .val (I (sbR u.2.1)), .val (I (p : Nat)), s6, s7, s8] [] := by
      intro u s6 s7 s8 hu h6 h7 h8 hp9
      refine wi_iinc hX dX2_setBoundSigns_94 rfl ?_
      dsimp only [List.set]
      refine wa_goto hX (tgt := 19) dX2_setBoundSigns_97 (by decide) ?_
      refine WA.heap ?_ (WA.eq rfl ?_ rfl (ih2 (p + 1, s6, s7, s8) ⟨by show p + 1 ≤ 100; omega, h6, h7, h8⟩ (by show 100 - (p + 1) < 100 - p; omega)))
      · dsimp only; rw [hu]
      · dsimp only; rw [hu]; rfl
    refine wa_iload hX dX2_setBoundSigns_19 rfl ?_
    refine wi_bipush hX dX2_setBoundSigns_21 (by decide) ?_
    refine wi_icmp_ge hX (tgt := 100) dX2_setBoundSigns_23 (by decide) (by omega) (by omega) (fun c23 => ?_) (fun c23 => ?_)
    · skip
      have hp1 : p = 100 := by omega
      subst hp1
      rw [hI] at hst
      unfold sbC at hst
      dsimp only at hst
      clear ih2 hst2
      refine wa_iload_n hX (i := 3) dX2_setBoundSigns_100 rfl rfl ?_
      refine wi_if_ge hX (tgt := 105) dX2_setBoundSigns_101 (by decide) (by exact i1) (fun c101 => ?_) (fun c101 => ?_)
      · skip
        have hq : q ≠ 0 := by
          intro hq
          unfold sbE at c101
          rw [if_pos hq] at c101
          omega
        rw [if_neg hq] at hst
        have e1 : sbE q = (((q - 1) / 10 : Nat) : Int) := if_neg hq
        have e2 : sbR q = (((q - 1) % 10 : Nat) : Int) := if_neg hq
        rw [e1, e2]
        have kN := zN K B' N
        have kM := zM K B' N
        have kT := zT K B' N
        refine wa_aload_n hX (i := 0) dX2_setBoundSigns_105 rfl rfl ?_
        refine wa_iload_n hX (i := 3) dX2_setBoundSigns_106 rfl rfl ?_
        refine wa_iload hX dX2_setBoundSigns_107 rfl ?_
        refine wa_callV hX (c_X2_closeRing hW d kA kK kB kN kM kT l3 l4 l5 l6 he hbs (fun j _ => qK j) qN p3 (el := (q - 1) / 10) (row := (q - 1) % 10) (by omega) (by omega) hsf) (by assumption) (by rfl) (by rfl) (by omega) (nA := 2) (by rfl) (by decide +kernel) rfl (by exact Nat.le_of_ble_eq_true rfl) dX2_setBoundSigns_109 (fun r109 h109 p109 => ?_) (fun _ _ q => q.elim)
        obtain ⟨rfl, rfl⟩ := p109
        rw [sB, sK, sN]
        dsimp only [Option.toList, List.cons_append, List.nil_append]
        refine wi_iinc hX dX2_setBoundSigns_112 rfl ?_
        dsimp only [List.set]
        refine wa_goto hX (tgt := 2) dX2_setBoundSigns_115 (by decide) ?_
        refine WA.heap ?_ (WA.eq rfl ?_ rfl (ih (i + 1, .val (I (sh : Nat)), .val (I (((q - 1) / 10 : Nat) : Int)), .val (I (((q - 1) % 10 : Nat) : Int)), .val (I ((100 : Nat) : Int)), w6, w7, w8) ⟨by show i + 1 ≤ 100; omega, by show (sbO sf J e bs (false, K0, B0, N0) (i + 1)).1 = false; rw [hst], rfl, rfl, rfl, rfl, hw6, hw7, hw8⟩ (by show 100 - (i + 1) < 100 - i; omega)))
        · dsimp only; rw [hst]
        · rfl
      · skip
        refine wa_vret hX dX2_setBoundSigns_104 ?_
        have hq : q = 0 := by
          apply Classical.byContradiction
          intro hq
          unfold sbE at c101
          rw [if_neg hq] at c101
          omega
        rw [if_pos hq] at hst
        have hs9 := sbO_stay (sf := sf) (J := J) (e := e) (bs := bs) (s := (false, K0, B0, N0)) (r := i + 1) (by rw [hst]) (100 - (i + 1))
        rw [show i + 1 + (100 - (i + 1)) = 100 by omega] at hs9
        rw [hs9, hst]
        exact ⟨rfl, rfl⟩
    · skip
      refine wa_iload hX dX2_setBoundSigns_26 rfl ?_
      refine wi_bipush hX dX2_setBoundSigns_28 (by decide) ?_
      refine wn_idiv hX (a := p) (b := 10) dX2_setBoundSigns_30 rfl rfl (by omega) (by omega) (by omega) ?_
      refine wa_istore hX dX2_setBoundSigns_31 (by first | rfl | assumption) ?_
      dsimp only [List.set]
      refine wa_iload hX dX2_setBoundSigns_33 rfl ?_
      refine wi_bipush hX dX2_setBoundSigns_35 (by decide) ?_
      refine wn_irem hX (a := p) (b := 10) dX2_setBoundSigns_37 rfl rfl (by omega) (by omega) (by omega) ?_
      refine wa_istore hX dX2_setBoundSigns_38 (by first | rfl | assumption) ?_
      dsimp only [List.set]
      refine wa_aload_n hX (i := 0) dX2_setBoundSigns_40 rfl rfl ?_
      refine wa_iload hX dX2_setBoundSigns_41 rfl ?_
      refine wa_iload hX dX2_setBoundSigns_43 rfl ?_
      refine wa_callV hX (c_X2_isEntry hW d kA kJ hbs hJ (el := p / 10) (row := p % 10) (by omega) (by omega)) (by assumption) (by rfl) (by rfl) (by omega) (nA := 2) (by rfl) (by decide +kernel) rfl (by exact Nat.le_of_ble_eq_true rfl) dX2_setBoundSigns_45 (fun r45 h45 p45 => ?_) (fun _ _ q => q.elim)
      obtain ⟨rfl, qq45⟩ := p45; subst h45
      dsimp only [Option.toList, List.cons_append, List.nil_append]
      refine wi_if_eq hX (tgt := 94) dX2_setBoundSigns_48 (by decide) (by exact b2n_inR _) (fun c48 => ?_) (fun c48 => ?_)
      · skip
        first
          | (have w1 := b2n_f c48
             rw [if_neg (by unfold isE; rw [w1]; simp)] at hst2
             refine t94 _ _ _ _ hst2 ?_ ?_ ?_ (by omega) <;> first | rfl | assumption)
          | (rw [if_neg (by omega)] at hst2
             refine t94 _ _ _ _ hst2 ?_ ?_ ?_ (by omega) <;> first | rfl | assumption)
          | (rw [if_pos (by omega)] at hst2
             refine t94 _ _ _ _ hst2 ?_ ?_ ?_ (by omega) <;> first | rfl | assumption)
          | (have w1 := b2n_t c65
             rw [if_neg (by rw [w1]; simp)] at hst2
             refine t94 _ _ _ _ hst2 ?_ ?_ ?_ (by omega) <;> first | rfl | assumption)
      · skip
        refine wa_aload_n hX (i := 0) dX2_setBoundSigns_51 rfl rfl ?_
        refine wa_get hX 3 (by assumption) (by rfl) (by decide +kernel) dX2_setBoundSigns_52 ?_
        refine wa_iload hX dX2_setBoundSigns_55 rfl ?_
        refine wa_callS hX (c_X2_at hW d kK (by decide) (i := ((p / 10 : Nat) : Int)) (by omega)) (by rfl) (by omega) (nA := 2) (by rfl) (by decide +kernel) rfl (by exact Nat.le_of_ble_eq_true rfl) dX2_setBoundSigns_57 (fun r57 h57 p57 => ?_) (fun _ _ q => q.elim)
        obtain ⟨rfl, qq57⟩ := p57; subst h57
        rw [atv_in (by omega)]
        dsimp only [Option.toList, List.cons_append, List.nil_append]
        refine wa_iload hX dX2_setBoundSigns_60 rfl ?_
        refine wa_callS hX (c_X2_has hW d (s := K (p / 10)) (el := p % 10) (by have := qK (p / 10); omega) (by omega)) (by rfl) (by omega) (nA := 2) (by rfl) (by decide +kernel) rfl (by exact Nat.le_of_ble_eq_true rfl) dX2_setBoundSigns_62 (fun r62 h62 p62 => ?_) (fun _ _ q => q.elim)
        obtain ⟨rfl, qq62⟩ := p62; subst h62
        dsimp only [Option.toList, List.cons_append, List.nil_append]
        refine wi_if_ne hX (tgt := 94) dX2_setBoundSigns_65 (by decide) (by exact b2n_inR _) (fun c65 => ?_) (fun c65 => ?_)
        · skip
          first
            | (have w1 := b2n_f c48
               rw [if_neg (by unfold isE; rw [w1]; simp)] at hst2
               refine t94 _ _ _ _ hst2 ?_ ?_ ?_ (by omega) <;> first | rfl | assumption)
            | (rw [if_neg (by omega)] at hst2
               refine t94 _ _ _ _ hst2 ?_ ?_ ?_ (by omega) <;> first | rfl | assumption)
            | (rw [if_pos (by omega)] at hst2
               refine t94 _ _ _ _ hst2 ?_ ?_ ?_ (by omega) <;> first | rfl | assumption)
            | (have w1 := b2n_t c65
               rw [if_neg (by rw [w1]; simp)] at hst2
               refine t94 _ _ _ _ hst2 ?_ ?_ ?_ (by omega) <;> first | rfl | assumption)
        · skip
          refine wa_aload_n hX (i := 0) dX2_setBoundSigns_68 rfl rfl ?_
          refine wa_iload hX dX2_setBoundSigns_69 rfl ?_
          refine wa_iload hX dX2_setBoundSigns_71 rfl ?_
          refine wa_callV hX (c_X2_walk hW d kA kK kB l3 (fun j _ => qK j) (from0 := p / 10) (to := p % 10) (by omega) (by omega)) (by assumption) (by rfl) (by rfl) (by omega) (nA := 2) (by rfl) (by decide +kernel) rfl (by exact Nat.le_of_ble_eq_true rfl) dX2_setBoundSigns_73 (fun r73 h73 p73 => ?_) (fun _ _ q => q.elim)
          obtain ⟨rfl, rfl⟩ := p73
          have hwl := walkN_le (K := K) (to := p % 10) 10 (2 ^ (p / 10)) (2 ^ (p / 10)) B'
          rw [sB]
          have w1 := b2n_t c48
          have w2 := b2n_f c65
          rw [if_pos (by unfold isE; rw [w1, w2]; rfl)] at hst2
          dsimp only [Option.toList, List.cons_append, List.nil_append]
          refine wa_istore hX dX2_setBoundSigns_76 (by first | rfl | assumption) ?_
          dsimp only [List.set]
          refine wa_iload hX dX2_setBoundSigns_78 rfl ?_
          refine wa_iload_n hX (i := 2) dX2_setBoundSigns_80 rfl rfl ?_
          refine wi_icmp_ge hX (tgt := 94) dX2_setBoundSigns_81 (by decide) (by omega) (by omega) (fun c81 => ?_) (fun c81 => ?_)
          · skip
            first
              | (have w1 := b2n_f c48
                 rw [if_neg (by unfold isE; rw [w1]; simp)] at hst2
                 refine t94 _ _ _ _ hst2 ?_ ?_ ?_ (by omega) <;> first | rfl | assumption)
              | (rw [if_neg (by omega)] at hst2
                 refine t94 _ _ _ _ hst2 ?_ ?_ ?_ (by omega) <;> first | rfl | assumption)
              | (rw [if_pos (by omega)] at hst2
                 refine t94 _ _ _ _ hst2 ?_ ?_ ?_ (by omega) <;> first | rfl | assumption)
              | (have w1 := b2n_t c65
                 rw [if_neg (by rw [w1]; simp)] at hst2
                 refine t94 _ _ _ _ hst2 ?_ ?_ ?_ (by omega) <;> first | rfl | assumption)
          · skip
            refine wa_iload hX dX2_setBoundSigns_84 rfl ?_
            refine wa_istore_n hX (i := 2) dX2_setBoundSigns_86 rfl (by first | rfl | assumption) ?_
            dsimp only [List.set]
            refine wa_iload hX dX2_setBoundSigns_87 rfl ?_
            refine wa_istore_n hX (i := 3) dX2_setBoundSigns_89 rfl (by first | rfl | assumption) ?_
            dsimp only [List.set]
            refine wa_iload hX dX2_setBoundSigns_90 rfl ?_
            refine wa_istore hX dX2_setBoundSigns_92 (by first | rfl | assumption) ?_
            dsimp only [List.set]
            first
              | (have w1 := b2n_f c48
                 rw [if_neg (by unfold isE; rw [w1]; simp)] at hst2
                 refine t94 _ _ _ _ hst2 ?_ ?_ ?_ (by omega) <;> first | rfl | assumption)
              | (rw [if_neg (by omega)] at hst2
                 refine t94 _ _ _ _ hst2 ?_ ?_ ?_ (by omega) <;> first | rfl | assumption)
              | (rw [if_pos (by omega)] at hst2
                 refine t94 _ _ _ _ hst2 ?_ ?_ ?_ (by omega) <;> first | rfl | assumption)
              | (have w1 := b2n_t c65
                 rw [if_neg (by rw [w1]; simp)] at hst2
                 refine t94 _ _ _ _ hst2 ?_ ?_ ?_ (by omega) <;> first | rfl | assumption)
end C59
