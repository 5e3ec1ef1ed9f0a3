/-! The reference (X12): drawing, canBeDrawn, entry -/
def DRp (rk : Nat → Nat) (e f : Nat) (o : Option (Nat → Nat)) : Prop := ∃ b, bsL rk e b ∧ ((o = none ∧ ∀ wy : Nat → Nat, ¬ ExtW rk e f b 0 wy) ∨ ∃ (g wy : Nat → Nat), o = some g ∧ ExtW rk e f b 0 wy ∧ (∀ wy2 : Nat → Nat, ExtW rk e f b 0 wy2 → LexLe e wy wy2) ∧ ∀ c, c < e → ∀ r, r < rk (2 ^ e - 1) → g (rk (2 ^ e - 1) * c + r) = mW f (rk (2 ^ e - 1)) b wy e c r)
theorem DrC.put {DR : (Nat → Nat) → Nat → Nat → Option (Nat → Nat) → Prop} {h : AH} {e f p : Nat} {rk : Nat → Nat} {v : Value} {lk : Int} {ob ob' : Ob} (q : DrC DR h e rk f v lk) (hp : h p = some (130, ob)) : DrC DR (hset h p (130, ob')) e rk f v lk := by
  rcases q with z | ⟨z1, z2 | ⟨q, g, z2, z3, z4⟩⟩
  · exact Or.inl z
  · exact Or.inr ⟨z1, Or.inl z2⟩
  · exact Or.inr ⟨z1, Or.inr ⟨q, g, z2, hset_lab hp z3 (by decide), z4⟩⟩
theorem RMat.put {DR : (Nat → Nat) → Nat → Nat → Option (Nat → Nat) → Prop} {h : AH} {e p p' : Nat} {rk : Nat → Nat} {ob ob' : Ob} (q : RMat DR h p' e rk) (hp : h p = some (130, ob)) (hne : p' ≠ p) : RMat DR (hset h p (130, ob')) p' e rk := by
  obtain ⟨rq, m2, m3, l2, l3, G, z1, z2, z3, z4, z5⟩ := q
  exact ⟨rq, m2, m3, l2, l3, G, (hset_ne hne).trans z1, hset_lab hp z2 (by decide), z3, z4.put hp, z5.put hp⟩
theorem DRp_some {rk : Nat → Nat} {e f b : Nat} {wy wy' : Nat → Nat} {G5 : Nat → Int} (hb : bsL rk e b) (hG : GoW rk e f b 0 wy true wy') (hR : RelD e f (rk (2 ^ e - 1)) b G5 wy' e) (hx : ∀ x, rk (2 ^ e - 1) * e ≤ x → G5 x = 0) : (∀ x, G5 x = (((G5 x).toNat : Nat) : Int)) ∧ DRp rk e f (some (fun x => (G5 x).toNat)) := by
  rcases hG with ⟨_, z1, z2, z3⟩ | ⟨z, _⟩
  · refine ⟨fun x => ?_, b, hb, Or.inr ⟨_, wy', rfl, z2, fun wy2 h2 => z3 wy2 (fun j hj => absurd hj (Nat.not_lt_zero j)) h2, fun c hc r hr => ?_⟩⟩
    · by_cases g : rk (2 ^ e - 1) * e ≤ x
      · rw [hx x g]; rfl
      · have hr0 : 0 < rk (2 ^ e - 1) := by
          apply Nat.pos_of_ne_zero
          intro q
          rw [q, Nat.zero_mul] at g
          exact g (Nat.zero_le _)
        have q := hR (x / rk (2 ^ e - 1)) (Nat.div_lt_of_lt_mul (by omega)) (x % rk (2 ^ e - 1)) (Nat.mod_lt _ hr0)
        rw [Nat.div_add_mod] at q
        rw [q]
        rfl
    · show (G5 _).toNat = _
      rw [hR c hc r hr]
      rfl
  · cases z
theorem DRp_none {rk : Nat → Nat} {e f b : Nat} {wy wy' : Nat → Nat} (hb : bsL rk e b) (hG : GoW rk e f b 0 wy false wy') : DRp rk e f none := by
  rcases hG with ⟨z, _⟩ | ⟨_, z⟩
  · cases z
  · exact ⟨b, hb, Or.inl ⟨rfl, fun wy2 h2 => z wy2 (fun j hj => absurd hj (Nat.not_lt_zero j)) h2⟩⟩
section C9l
variable {l : Launch} {D : va_G} {S0 : State}
set_option maxHeartbeats 2000000 in
set_option maxRecDepth 100000 in
theorem c_X12_drawing (hW : WOK l D S0) (d : Nat) {h : AH} {me row brk al wk us kp pt rq f m i : Nat} {th c0 : Int} {m2 m3 : Value} {l2 l3 : Int} {G : Nat → Int} {P E : Nat → Nat} {R : Nat → Nat → Nat} {rmc rms : Nat} (k1 : h me = some (120, oMod th c0 row brk al wk us kp pt)) (hwu : (∃ WK : Nat → Int, h wk = some (125, aI .int 100 WK)) ∧ (∃ US : Nat → Bool, h us = some (126, aI .boolean 10 (fun j => ((b2n (US j) : Nat) : Int))))) (kI : ∀ i j, i < m → j < m → P i = P j → i = j) (kMat : ∀ j, j < m → RMat DRp h (P j) (E j) (R j)) (hi : i < m) (g1 : h (P i) = some (130, oRef (E i) rq m2 m3 l2 l3)) (g2 : h rq = some (131, aI .int 1024 G)) (g3 : ∀ s, s < 2 ^ E i → G s = ((R i s : Nat) : Int)) (g4 : DrC DRp h (E i) (R i) 2 m2 l2) (g5 : DrC DRp h (E i) (R i) 3 m3 l3) (hM : Mtr (E i) (R i)) (hf : f = 2 ∨ f = 3) (hroom : ((f = 2 ∧ l2 = 0) ∨ (f = 3 ∧ l3 = 0)) → 1 ≤ rmc ∧ 100 ≤ rms) : MA l D S0 yX12_drawing cX12_drawing 5 (some (.array .int)) (d + 14) [.ref me, .ref (P i), I (f : Int)] h rmc rms (fun r h' => ∃ vv : Value, r = some vv ∧ ((vv = Value.null ∧ DRp (R i) (E i) f none) ∨ ∃ (qd : Nat) (g : Nat → Nat), vv = Value.ref qd ∧ h' qd = some (132, aV 100 g) ∧ DRp (R i) (E i) f (some g)) ∧ Fr (fun x => x = 125 ∨ x = 126 ∨ x = 130 ∨ x = 135) h h' ∧ ((∃ WK : Nat → Int, h' wk = some (125, aI .int 100 WK)) ∧ (∃ US : Nat → Bool, h' us = some (126, aI .boolean 10 (fun j => ((b2n (US j) : Nat) : Int))))) ∧ ∀ j, j < m → RMat DRp h' (P j) (E j) (R j)) (fun _ _ => False) := by
  have he := hM.1
  have hp := p2_le he
  have hp0 := p2_pos (E i)
  have hl2 : l2 = 0 ∨ l2 = 1 := g4.imp (fun z => z.1) (fun z => z.1)
  have hl3 : l3 = 0 ∨ l3 = 1 := g5.imp (fun z => z.1) (fun z => z.1)
  refine MA.start hW (by decide) [.val (.ref me), .val (.ref (P i)), .val (I (f : Int)), .unset, .unset] rfl ?_
  rintro X rfl rfl rfl hX
  have t64 : ∀ (hB : AH) (q0 : Nat) (vv : Value), (vv = .null ∨ ∃ q : Nat, vv = .ref q) → Fr (fun x => x = 125 ∨ x = 126 ∨ x = 135) h hB → ((∃ WK : Nat → Int, hB wk = some (125, aI .int 100 WK)) ∧ (∃ US : Nat → Bool, hB us = some (126, aI .boolean 10 (fun j => ((b2n (US j) : Nat) : Int))))) → ((vv = Value.null ∧ DRp (R i) (E i) f none) ∨ ∃ (qd : Nat) (g : Nat → Nat), vv = Value.ref qd ∧ hB qd = some (132, aV 100 g) ∧ DRp (R i) (E i) f (some g)) → WA X hB 0 0 64 [.val (.ref me), .val (.ref (P i)), .val (I (f : Int)), .val (.ref q0), .unset] [vv] := by
    intro hB q0 vv hvv fB wuB hv
    have g1hB := fB _ _ _ g1 (by decide)
    have qB := fB _ _ _ g2 (by decide)
    have kMatB : ∀ j, j < m → RMat DRp hB (P j) (E j) (R j) := fun j hj => (kMat j hj).fr fB (fun x hx => by omega)
    obtain ⟨d2B, d3B⟩ : DrC DRp hB (E i) (R i) 2 m2 l2 ∧ DrC DRp hB (E i) (R i) 3 m3 l3 := ⟨g4.fr fB (by omega), g5.fr fB (by omega)⟩
    rcases hvv with rfl | ⟨q9, rfl⟩
    · skip
      have t66 : WA X hB 0 0 66 [.val (.ref me), .val (.ref (P i)), .val (I (f : Int)), .val (.ref q0), .val Value.null] [] := by
        refine wa_iload_n hX (i := 2) dX12_drawing_66 rfl rfl ?_
        refine wi_iconst hX dX12_drawing_67 ?_
        refine wi_icmp_ne hX (tgt := 85) dX12_drawing_68 (by decide) (by omega) (by omega) (fun c68 => ?_) (fun c68 => ?_)
        · skip
          refine wa_aload_n hX (i := 1) dX12_drawing_85 rfl rfl ?_
          refine wi_iconst hX dX12_drawing_86 ?_
          refine wa_put hX 5 g1hB (Nat.le_of_ble_eq_true rfl) (by decide +kernel) (by rfl) (by rfl) (by rfl) dX12_drawing_87 ?_
          refine WA.heap (h2 := hset hB (P i) (130, oRef (E i) rq m2 m3 l2 1)) rfl ?_
          refine WA.hgq (fun hC hhhC => ?_)
          have g1hC : hC (P i) = some (130, oRef (E i) rq m2 m3 l2 1) := by rw [hhhC]; exact hset_eq
          refine wa_aload_n hX (i := 1) dX12_drawing_90 rfl rfl ?_
          refine wa_aloadN hX dX12_drawing_91 rfl ?_
          refine wa_put hX 3 g1hC (Nat.le_of_ble_eq_true rfl) (by decide +kernel) (by rfl) (by rfl) (by rfl) dX12_drawing_93 ?_
          refine WA.heap (h2 := hset hC (P i) (130, oRef (E i) rq m2 Value.null l2 1)) rfl ?_
          refine WA.hgq (fun hD hhhD => ?_)
          have g1hD : hD (P i) = some (130, oRef (E i) rq m2 Value.null l2 1) := by rw [hhhD]; exact hset_eq
          rw [hhhC, hset_hset] at hhhD
          replace hhD := hhhD
          clear hhhD hhhC
          have fD : Fr (fun x => x = 130) hB hD := by rw [hhD]; exact Fr.hset Fr.rf g1hB rfl
          have qD := fD _ _ _ qB (by decide)
          have hD2 : DrC DRp hD (E i) (R i) 2 m2 l2 := by rw [hhD]; exact d2B.put g1hB
          have hres : ((Value.null = Value.null ∧ DRp (R i) (E i) f none) ∨ ∃ (qd : Nat) (g : Nat → Nat), Value.null = Value.ref qd ∧ hD qd = some (132, aV 100 g) ∧ DRp (R i) (E i) f (some g)) := hv.imp id (fun ⟨qd, g, z1, z2, z3⟩ => ⟨qd, g, z1, fD _ _ _ z2 (by decide), z3⟩)
          have hf : f = 3 := by omega
          have hdv : DrC DRp hD (E i) (R i) 3 Value.null 1 := Or.inr ⟨rfl, by rw [hf] at hres; exact hres⟩
          have hmm : ∀ j, j < m → RMat DRp hD (P j) (E j) (R j) := fun j hj => by
            by_cases gij : j = i
            · subst gij
              exact ⟨rq, m2, Value.null, l2, 1, G, g1hD, qD, g3, hD2, hdv⟩
            · rw [hhD]
              exact (kMatB j hj).put g1hB (fun z => gij (kI j i hj hi z))
          have wuD : (∃ WK : Nat → Int, hD wk = some (125, aI .int 100 WK)) ∧ (∃ US : Nat → Bool, hD us = some (126, aI .boolean 10 (fun j => ((b2n (US j) : Nat) : Int)))) := ⟨wuB.1.imp (fun _ z => fD _ _ _ z (by decide)), wuB.2.imp (fun _ z => fD _ _ _ z (by decide))⟩
          refine wa_aloadN hX dX12_drawing_96 rfl ?_
          have hend : (∃ v9 : Value, some Value.null = some v9 ∧ ((v9 = Value.null ∧ DRp (R i) (E i) f none) ∨ ∃ (qd : Nat) (g : Nat → Nat), v9 = Value.ref qd ∧ hD qd = some (132, aV 100 g) ∧ DRp (R i) (E i) f (some g)) ∧ Fr (fun x => x = 125 ∨ x = 126 ∨ x = 130 ∨ x = 135) h hD ∧ ((∃ WK : Nat → Int, hD wk = some (125, aI .int 100 WK)) ∧ (∃ US : Nat → Bool, hD us = some (126, aI .boolean 10 (fun j => ((b2n (US j) : Nat) : Int))))) ∧ ∀ j, j < m → RMat DRp hD (P j) (E j) (R j)) := ⟨_, rfl, hres, (fB.mono (fun x hx => by omega)).trans (fD.mono (fun x hx => by omega)), wuD, hmm⟩
          clear hres hdv hmm wuD
          exact wa_aretN hX dX12_drawing_98 (Or.inr ⟨_, rfl⟩) hend
        · skip
          refine wa_aload_n hX (i := 1) dX12_drawing_71 rfl rfl ?_
          refine wi_iconst hX dX12_drawing_72 ?_
          refine wa_put hX 4 g1hB (Nat.le_of_ble_eq_true rfl) (by decide +kernel) (by rfl) (by rfl) (by rfl) dX12_drawing_73 ?_
          refine WA.heap (h2 := hset hB (P i) (130, oRef (E i) rq m2 m3 1 l3)) rfl ?_
          refine WA.hgq (fun hC hhhC => ?_)
          have g1hC : hC (P i) = some (130, oRef (E i) rq m2 m3 1 l3) := by rw [hhhC]; exact hset_eq
          refine wa_aload_n hX (i := 1) dX12_drawing_76 rfl rfl ?_
          refine wa_aloadN hX dX12_drawing_77 rfl ?_
          refine wa_put hX 2 g1hC (Nat.le_of_ble_eq_true rfl) (by decide +kernel) (by rfl) (by rfl) (by rfl) dX12_drawing_79 ?_
          refine WA.heap (h2 := hset hC (P i) (130, oRef (E i) rq Value.null m3 1 l3)) rfl ?_
          refine WA.hgq (fun hD hhhD => ?_)
          have g1hD : hD (P i) = some (130, oRef (E i) rq Value.null m3 1 l3) := by rw [hhhD]; exact hset_eq
          rw [hhhC, hset_hset] at hhhD
          replace hhD := hhhD
          clear hhhD hhhC
          have fD : Fr (fun x => x = 130) hB hD := by rw [hhD]; exact Fr.hset Fr.rf g1hB rfl
          have qD := fD _ _ _ qB (by decide)
          have hD3 : DrC DRp hD (E i) (R i) 3 m3 l3 := by rw [hhD]; exact d3B.put g1hB
          have hres : ((Value.null = Value.null ∧ DRp (R i) (E i) f none) ∨ ∃ (qd : Nat) (g : Nat → Nat), Value.null = Value.ref qd ∧ hD qd = some (132, aV 100 g) ∧ DRp (R i) (E i) f (some g)) := hv.imp id (fun ⟨qd, g, z1, z2, z3⟩ => ⟨qd, g, z1, fD _ _ _ z2 (by decide), z3⟩)
          have hf : f = 2 := by omega
          have hdv : DrC DRp hD (E i) (R i) 2 Value.null 1 := Or.inr ⟨rfl, by rw [hf] at hres; exact hres⟩
          have hmm : ∀ j, j < m → RMat DRp hD (P j) (E j) (R j) := fun j hj => by
            by_cases gij : j = i
            · subst gij
              exact ⟨rq, Value.null, m3, 1, l3, G, g1hD, qD, g3, hdv, hD3⟩
            · rw [hhD]
              exact (kMatB j hj).put g1hB (fun z => gij (kI j i hj hi z))
          have wuD : (∃ WK : Nat → Int, hD wk = some (125, aI .int 100 WK)) ∧ (∃ US : Nat → Bool, hD us = some (126, aI .boolean 10 (fun j => ((b2n (US j) : Nat) : Int)))) := ⟨wuB.1.imp (fun _ z => fD _ _ _ z (by decide)), wuB.2.imp (fun _ z => fD _ _ _ z (by decide))⟩
          refine wa_goto hX (tgt := 96) dX12_drawing_82 (by decide) ?_
          refine wa_aloadN hX dX12_drawing_96 rfl ?_
          have hend : (∃ v9 : Value, some Value.null = some v9 ∧ ((v9 = Value.null ∧ DRp (R i) (E i) f none) ∨ ∃ (qd : Nat) (g : Nat → Nat), v9 = Value.ref qd ∧ hD qd = some (132, aV 100 g) ∧ DRp (R i) (E i) f (some g)) ∧ Fr (fun x => x = 125 ∨ x = 126 ∨ x = 130 ∨ x = 135) h hD ∧ ((∃ WK : Nat → Int, hD wk = some (125, aI .int 100 WK)) ∧ (∃ US : Nat → Bool, hD us = some (126, aI .boolean 10 (fun j => ((b2n (US j) : Nat) : Int))))) ∧ ∀ j, j < m → RMat DRp hD (P j) (E j) (R j)) := ⟨_, rfl, hres, (fB.mono (fun x hx => by omega)).trans (fD.mono (fun x hx => by omega)), wuD, hmm⟩
          clear hres hdv hmm wuD
          exact wa_aretN hX dX12_drawing_98 (Or.inr ⟨_, rfl⟩) hend
      exact wa_astoreN hX dX12_drawing_64 rfl t66
    · skip
      have t66 : WA X hB 0 0 66 [.val (.ref me), .val (.ref (P i)), .val (I (f : Int)), .val (.ref q0), .val (Value.ref q9)] [] := by
        refine wa_iload_n hX (i := 2) dX12_drawing_66 rfl rfl ?_
        refine wi_iconst hX dX12_drawing_67 ?_
        refine wi_icmp_ne hX (tgt := 85) dX12_drawing_68 (by decide) (by omega) (by omega) (fun c68 => ?_) (fun c68 => ?_)
        · skip
          refine wa_aload_n hX (i := 1) dX12_drawing_85 rfl rfl ?_
          refine wi_iconst hX dX12_drawing_86 ?_
          refine wa_put hX 5 g1hB (Nat.le_of_ble_eq_true rfl) (by decide +kernel) (by rfl) (by rfl) (by rfl) dX12_drawing_87 ?_
          refine WA.heap (h2 := hset hB (P i) (130, oRef (E i) rq m2 m3 l2 1)) rfl ?_
          refine WA.hgq (fun hC hhhC => ?_)
          have g1hC : hC (P i) = some (130, oRef (E i) rq m2 m3 l2 1) := by rw [hhhC]; exact hset_eq
          refine wa_aload_n hX (i := 1) dX12_drawing_90 rfl rfl ?_
          refine wa_aload hX dX12_drawing_91 rfl ?_
          refine wa_put hX 3 g1hC (Nat.le_of_ble_eq_true rfl) (by decide +kernel) (by rfl) (by rfl) (by rfl) dX12_drawing_93 ?_
          refine WA.heap (h2 := hset hC (P i) (130, oRef (E i) rq m2 (Value.ref q9) l2 1)) rfl ?_
          refine WA.hgq (fun hD hhhD => ?_)
          have g1hD : hD (P i) = some (130, oRef (E i) rq m2 (Value.ref q9) l2 1) := by rw [hhhD]; exact hset_eq
          rw [hhhC, hset_hset] at hhhD
          replace hhD := hhhD
          clear hhhD hhhC
          have fD : Fr (fun x => x = 130) hB hD := by rw [hhD]; exact Fr.hset Fr.rf g1hB rfl
          have qD := fD _ _ _ qB (by decide)
          have hD2 : DrC DRp hD (E i) (R i) 2 m2 l2 := by rw [hhD]; exact d2B.put g1hB
          have hres : (((Value.ref q9) = Value.null ∧ DRp (R i) (E i) f none) ∨ ∃ (qd : Nat) (g : Nat → Nat), (Value.ref q9) = Value.ref qd ∧ hD qd = some (132, aV 100 g) ∧ DRp (R i) (E i) f (some g)) := hv.imp id (fun ⟨qd, g, z1, z2, z3⟩ => ⟨qd, g, z1, fD _ _ _ z2 (by decide), z3⟩)
          have hf : f = 3 := by omega
          have hdv : DrC DRp hD (E i) (R i) 3 (Value.ref q9) 1 := Or.inr ⟨rfl, by rw [hf] at hres; exact hres⟩
          have hmm : ∀ j, j < m → RMat DRp hD (P j) (E j) (R j) := fun j hj => by
            by_cases gij : j = i
            · subst gij
              exact ⟨rq, m2, (Value.ref q9), l2, 1, G, g1hD, qD, g3, hD2, hdv⟩
            · rw [hhD]
              exact (kMatB j hj).put g1hB (fun z => gij (kI j i hj hi z))
          have wuD : (∃ WK : Nat → Int, hD wk = some (125, aI .int 100 WK)) ∧ (∃ US : Nat → Bool, hD us = some (126, aI .boolean 10 (fun j => ((b2n (US j) : Nat) : Int)))) := ⟨wuB.1.imp (fun _ z => fD _ _ _ z (by decide)), wuB.2.imp (fun _ z => fD _ _ _ z (by decide))⟩
          refine wa_aload hX dX12_drawing_96 rfl ?_
          have hend : (∃ v9 : Value, some (Value.ref q9) = some v9 ∧ ((v9 = Value.null ∧ DRp (R i) (E i) f none) ∨ ∃ (qd : Nat) (g : Nat → Nat), v9 = Value.ref qd ∧ hD qd = some (132, aV 100 g) ∧ DRp (R i) (E i) f (some g)) ∧ Fr (fun x => x = 125 ∨ x = 126 ∨ x = 130 ∨ x = 135) h hD ∧ ((∃ WK : Nat → Int, hD wk = some (125, aI .int 100 WK)) ∧ (∃ US : Nat → Bool, hD us = some (126, aI .boolean 10 (fun j => ((b2n (US j) : Nat) : Int))))) ∧ ∀ j, j < m → RMat DRp hD (P j) (E j) (R j)) := ⟨_, rfl, hres, (fB.mono (fun x hx => by omega)).trans (fD.mono (fun x hx => by omega)), wuD, hmm⟩
          clear hres hdv hmm wuD
          exact wa_aretR hX dX12_drawing_98 (Or.inr ⟨_, rfl⟩) hend
        · skip
          refine wa_aload_n hX (i := 1) dX12_drawing_71 rfl rfl ?_
          refine wi_iconst hX dX12_drawing_72 ?_
          refine wa_put hX 4 g1hB (Nat.le_of_ble_eq_true rfl) (by decide +kernel) (by rfl) (by rfl) (by rfl) dX12_drawing_73 ?_
          refine WA.heap (h2 := hset hB (P i) (130, oRef (E i) rq m2 m3 1 l3)) rfl ?_
          refine WA.hgq (fun hC hhhC => ?_)
          have g1hC : hC (P i) = some (130, oRef (E i) rq m2 m3 1 l3) := by rw [hhhC]; exact hset_eq
          refine wa_aload_n hX (i := 1) dX12_drawing_76 rfl rfl ?_
          refine wa_aload hX dX12_drawing_77 rfl ?_
          refine wa_put hX 2 g1hC (Nat.le_of_ble_eq_true rfl) (by decide +kernel) (by rfl) (by rfl) (by rfl) dX12_drawing_79 ?_
          refine WA.heap (h2 := hset hC (P i) (130, oRef (E i) rq (Value.ref q9) m3 1 l3)) rfl ?_
          refine WA.hgq (fun hD hhhD => ?_)
          have g1hD : hD (P i) = some (130, oRef (E i) rq (Value.ref q9) m3 1 l3) := by rw [hhhD]; exact hset_eq
          rw [hhhC, hset_hset] at hhhD
          replace hhD := hhhD
          clear hhhD hhhC
          have fD : Fr (fun x => x = 130) hB hD := by rw [hhD]; exact Fr.hset Fr.rf g1hB rfl
          have qD := fD _ _ _ qB (by decide)
          have hD3 : DrC DRp hD (E i) (R i) 3 m3 l3 := by rw [hhD]; exact d3B.put g1hB
          have hres : (((Value.ref q9) = Value.null ∧ DRp (R i) (E i) f none) ∨ ∃ (qd : Nat) (g : Nat → Nat), (Value.ref q9) = Value.ref qd ∧ hD qd = some (132, aV 100 g) ∧ DRp (R i) (E i) f (some g)) := hv.imp id (fun ⟨qd, g, z1, z2, z3⟩ => ⟨qd, g, z1, fD _ _ _ z2 (by decide), z3⟩)
          have hf : f = 2 := by omega
          have hdv : DrC DRp hD (E i) (R i) 2 (Value.ref q9) 1 := Or.inr ⟨rfl, by rw [hf] at hres; exact hres⟩
          have hmm : ∀ j, j < m → RMat DRp hD (P j) (E j) (R j) := fun j hj => by
            by_cases gij : j = i
            · subst gij
              exact ⟨rq, (Value.ref q9), m3, 1, l3, G, g1hD, qD, g3, hdv, hD3⟩
            · rw [hhD]
              exact (kMatB j hj).put g1hB (fun z => gij (kI j i hj hi z))
          have wuD : (∃ WK : Nat → Int, hD wk = some (125, aI .int 100 WK)) ∧ (∃ US : Nat → Bool, hD us = some (126, aI .boolean 10 (fun j => ((b2n (US j) : Nat) : Int)))) := ⟨wuB.1.imp (fun _ z => fD _ _ _ z (by decide)), wuB.2.imp (fun _ z => fD _ _ _ z (by decide))⟩
          refine wa_goto hX (tgt := 96) dX12_drawing_82 (by decide) ?_
          refine wa_aload hX dX12_drawing_96 rfl ?_
          have hend : (∃ v9 : Value, some (Value.ref q9) = some v9 ∧ ((v9 = Value.null ∧ DRp (R i) (E i) f none) ∨ ∃ (qd : Nat) (g : Nat → Nat), v9 = Value.ref qd ∧ hD qd = some (132, aV 100 g) ∧ DRp (R i) (E i) f (some g)) ∧ Fr (fun x => x = 125 ∨ x = 126 ∨ x = 130 ∨ x = 135) h hD ∧ ((∃ WK : Nat → Int, hD wk = some (125, aI .int 100 WK)) ∧ (∃ US : Nat → Bool, hD us = some (126, aI .boolean 10 (fun j => ((b2n (US j) : Nat) : Int))))) ∧ ∀ j, j < m → RMat DRp hD (P j) (E j) (R j)) := ⟨_, rfl, hres, (fB.mono (fun x hx => by omega)).trans (fD.mono (fun x hx => by omega)), wuD, hmm⟩
          clear hres hdv hmm wuD
          exact wa_aretR hX dX12_drawing_98 (Or.inr ⟨_, rfl⟩) hend
      exact wa_astore hX dX12_drawing_64 rfl t66
  have t39 : ((f = 2 ∧ l2 = 0) ∨ (f = 3 ∧ l3 = 0)) → WA X h rmc rms 39 [.val (.ref me), .val (.ref (P i)), .val (I (f : Int)), .unset, .unset] [] := by
    intro hnl
    obtain ⟨hr1, hr2⟩ := hroom hnl
    refine wi_bipush hX dX12_drawing_39 (by decide) ?_
    refine WA.room (k2 := 0 + 1) (sl2 := 0 + 100) (by omega) (by omega) ?_
    refine wa_newa hX 100 135 .int (.inl (fun j => Int32.ofInt ((fun _ => 0 : Nat → Int) j))) rfl (by rfl) (by omega) (fun cA => by rfl) (by decide +kernel) dX12_drawing_41 (fun q qn => ?_)
    refine WA.hgq (fun hA hhA => ?_)
    have fA : Fr (fun _ => False) h hA := by rw [hhA]; exact fun b lb ob z _ => hset_new qn z
    have qA : hA q = some (135, aI .int 100 (fun _ => 0)) := by rw [hhA]; exact hset_eq
    clear hhA
    have k1A := fA _ _ _ k1 id
    have g1A := fA _ _ _ g1 id
    have g2A := fA _ _ _ g2 id
    have wuA : (∃ WK : Nat → Int, hA wk = some (125, aI .int 100 WK)) ∧ (∃ US : Nat → Bool, hA us = some (126, aI .boolean 10 (fun j => ((b2n (US j) : Nat) : Int)))) := ⟨hwu.1.imp (fun _ z => fA _ _ _ z id), hwu.2.imp (fun _ z => fA _ _ _ z id)⟩
    refine wa_astore_n hX (i := 3) dX12_drawing_43 rfl rfl ?_
    dsimp only [List.set]
    refine wa_aload_n hX (i := 0) dX12_drawing_44 rfl rfl ?_
    refine wa_aload_n hX (i := 1) dX12_drawing_45 rfl rfl ?_
    refine wa_aload_n hX (i := 3) dX12_drawing_46 rfl rfl ?_
    refine wa_aload_n hX (i := 1) dX12_drawing_47 rfl rfl ?_
    refine wa_callS hX (c_X12_firstBasis hW d g1A g2A g3 hM) (by rfl) (by omega) (nA := 1) (by rfl) (by decide +kernel) rfl (by exact Nat.le_of_ble_eq_true rfl) dX12_drawing_48 (fun r48 h48 p48 => ?_) (fun _ _ q => q.elim)
    obtain ⟨⟨b, rfl, hb⟩, hq48⟩ := p48
    subst h48
    dsimp only [Option.toList, List.cons_append, List.nil_append]
    refine wi_iconst hX dX12_drawing_51 ?_
    refine wa_iload_n hX (i := 2) dX12_drawing_52 rfl rfl ?_
    refine wa_callV hX (c_X12_draws hW (rk := R i) (e := E i) (f := f) (bs := b) g3 hM (by decide) hf hb.1 (E i) d 0 hA (fun _ => 0) (fun _ => 0) (by omega) k1A wuA g1A g2A qA (fun c hc r hr => by unfold mW; rw [if_neg (Nat.not_lt_zero c)]; rfl)) (by assumption) (by rfl) (by rfl) (by omega) (nA := 5) (by rfl) (by decide +kernel) rfl (by exact Nat.le_of_ble_eq_true rfl) dX12_drawing_53 (fun r53 h53 p53 => ?_) (fun _ _ q => q.elim)
    obtain ⟨v, G5, wy', rfl, ⟨f5, wu5, ke5, kx5⟩, hT, hFa, hGo⟩ := p53
    dsimp only [Option.toList, List.cons_append, List.nil_append]
    refine wi_if_eq hX (tgt := 63) dX12_drawing_56 (by decide) (by exact b2n_inR _) (fun c56 => ?_) (fun c56 => ?_)
    · skip
      refine wa_null hX dX12_drawing_63 ?_
      first
        | (have q9 := b2n_f c56
           rw [q9] at hGo
           exact t64 h53 _ .null (Or.inl rfl) ((fA.mono (fun x hx => hx.elim)).trans f5) wu5 (Or.inl ⟨rfl, DRp_none hb hGo⟩))
        | (have q9 := b2n_t c56
           rw [q9] at hGo
           obtain ⟨z1, z2⟩ := DRp_some hb hGo (hT q9) kx5
           refine WA.ext9 (fun x => (((G5 x).toNat : Nat) : Int)) ke5 (fun j hj => z1 j) ?_
           refine WA.heap (h2 := hset h53 q (135, aV 100 (fun x => (G5 x).toNat))) rfl ?_
           refine WA.lab 132 hset_eq ?_
           rw [hset_hset]
           refine WA.hgq (fun hB hhB => ?_)
           have fB : Fr (fun x => x = 135) h53 hB := by rw [hhB]; exact Fr.hset Fr.rf ke5 rfl
           have qB : hB q = some (132, aV 100 (fun x => (G5 x).toNat)) := by rw [hhB]; exact hset_eq
           clear hhB
           exact t64 hB _ (.ref q) (Or.inr ⟨q, rfl⟩) (((fA.mono (fun x hx => hx.elim)).trans f5).trans (fB.mono (fun x hx => by omega))) ⟨wu5.1.imp (fun _ z => fB _ _ _ z (by decide)), wu5.2.imp (fun _ z => fB _ _ _ z (by decide))⟩ (Or.inr ⟨q, _, rfl, qB, z2⟩))
    · skip
      refine wa_aload_n hX (i := 3) dX12_drawing_59 rfl rfl ?_
      refine wa_goto hX (tgt := 64) dX12_drawing_60 (by decide) ?_
      first
        | (have q9 := b2n_f c56
           rw [q9] at hGo
           exact t64 h53 _ .null (Or.inl rfl) ((fA.mono (fun x hx => hx.elim)).trans f5) wu5 (Or.inl ⟨rfl, DRp_none hb hGo⟩))
        | (have q9 := b2n_t c56
           rw [q9] at hGo
           obtain ⟨z1, z2⟩ := DRp_some hb hGo (hT q9) kx5
           refine WA.ext9 (fun x => (((G5 x).toNat : Nat) : Int)) ke5 (fun j hj => z1 j) ?_
           refine WA.heap (h2 := hset h53 q (135, aV 100 (fun x => (G5 x).toNat))) rfl ?_
           refine WA.lab 132 hset_eq ?_
           rw [hset_hset]
           refine WA.hgq (fun hB hhB => ?_)
           have fB : Fr (fun x => x = 135) h53 hB := by rw [hhB]; exact Fr.hset Fr.rf ke5 rfl
           have qB : hB q = some (132, aV 100 (fun x => (G5 x).toNat)) := by rw [hhB]; exact hset_eq
           clear hhB
           exact t64 hB _ (.ref q) (Or.inr ⟨q, rfl⟩) (((fA.mono (fun x hx => hx.elim)).trans f5).trans (fB.mono (fun x hx => by omega))) ⟨wu5.1.imp (fun _ z => fB _ _ _ z (by decide)), wu5.2.imp (fun _ z => fB _ _ _ z (by decide))⟩ (Or.inr ⟨q, _, rfl, qB, z2⟩))
  have t38 : ∀ (vv : Value), ((vv = Value.null ∧ DRp (R i) (E i) f none) ∨ ∃ (qd : Nat) (g : Nat → Nat), vv = Value.ref qd ∧ h qd = some (132, aV 100 g) ∧ DRp (R i) (E i) f (some g)) → WA X h rmc rms 38 [.val (.ref me), .val (.ref (P i)), .val (I (f : Int)), .unset, .unset] [vv] := by
    intro vv hv
    have hend : (∃ v9 : Value, some vv = some v9 ∧ ((v9 = Value.null ∧ DRp (R i) (E i) f none) ∨ ∃ (qd : Nat) (g : Nat → Nat), v9 = Value.ref qd ∧ h qd = some (132, aV 100 g) ∧ DRp (R i) (E i) f (some g)) ∧ Fr (fun x => x = 125 ∨ x = 126 ∨ x = 130 ∨ x = 135) h h ∧ ((∃ WK : Nat → Int, h wk = some (125, aI .int 100 WK)) ∧ (∃ US : Nat → Bool, h us = some (126, aI .boolean 10 (fun j => ((b2n (US j) : Nat) : Int))))) ∧ ∀ j, j < m → RMat DRp h (P j) (E j) (R j)) := ⟨vv, rfl, hv, Fr.rf, hwu, kMat⟩
    rcases hv with ⟨rfl, _⟩ | ⟨q9, g9, rfl, _⟩
    · exact wa_aretN hX dX12_drawing_38 (Or.inr ⟨_, rfl⟩) hend
    · exact wa_aretR hX dX12_drawing_38 (Or.inr ⟨_, rfl⟩) hend
  refine wa_iload_n hX (i := 2) dX12_drawing_0 rfl rfl ?_
  refine wi_iconst hX dX12_drawing_1 ?_
  refine wi_icmp_ne hX (tgt := 15) dX12_drawing_2 (by decide) (by omega) (by omega) (fun c2 => ?_) (fun c2 => ?_)
  · skip
    refine wa_aload_n hX (i := 1) dX12_drawing_15 rfl rfl ?_
    refine wa_get hX 5 (by assumption) (by rfl) (by decide +kernel) dX12_drawing_16 ?_
    refine wi_if_eq hX (tgt := 39) dX12_drawing_19 (by decide) (by rcases hl3 with rfl | rfl <;> decide) (fun c19 => ?_) (fun c19 => ?_)
    · skip
      exact t39 (by omega)
    · skip
      refine wa_iload_n hX (i := 2) dX12_drawing_22 rfl rfl ?_
      refine wi_iconst hX dX12_drawing_23 ?_
      refine wi_icmp_ne hX (tgt := 34) dX12_drawing_24 (by decide) (by omega) (by omega) (fun c24 => ?_) (fun c24 => ?_)
      · skip
        refine wa_aload_n hX (i := 1) dX12_drawing_34 rfl rfl ?_
        refine wa_get hX 3 (by assumption) (by rfl) (by decide +kernel) dX12_drawing_35 ?_
        first
          | (have hf2 : f = 2 := by omega
             have hl : l2 = 1 := by omega
             exact t38 m2 (by rw [hf2]; rcases g4 with ⟨z, _⟩ | ⟨_, z⟩; (· exfalso; omega); exact z))
          | (have hf3 : f = 3 := by omega
             have hl : l3 = 1 := by omega
             exact t38 m3 (by rw [hf3]; rcases g5 with ⟨z, _⟩ | ⟨_, z⟩; (· exfalso; omega); exact z))
          | (exfalso; omega)
      · skip
        refine wa_aload_n hX (i := 1) dX12_drawing_27 rfl rfl ?_
        refine wa_get hX 2 (by assumption) (by rfl) (by decide +kernel) dX12_drawing_28 ?_
        refine wa_goto hX (tgt := 38) dX12_drawing_31 (by decide) ?_
        first
          | (have hf2 : f = 2 := by omega
             have hl : l2 = 1 := by omega
             exact t38 m2 (by rw [hf2]; rcases g4 with ⟨z, _⟩ | ⟨_, z⟩; (· exfalso; omega); exact z))
          | (have hf3 : f = 3 := by omega
             have hl : l3 = 1 := by omega
             exact t38 m3 (by rw [hf3]; rcases g5 with ⟨z, _⟩ | ⟨_, z⟩; (· exfalso; omega); exact z))
          | (exfalso; omega)
  · skip
    refine wa_aload_n hX (i := 1) dX12_drawing_5 rfl rfl ?_
    refine wa_get hX 4 (by assumption) (by rfl) (by decide +kernel) dX12_drawing_6 ?_
    refine wi_if_eq hX (tgt := 39) dX12_drawing_9 (by decide) (by rcases hl2 with rfl | rfl <;> decide) (fun c9 => ?_) (fun c9 => ?_)
    · skip
      exact t39 (by omega)
    · skip
      refine wa_goto hX (tgt := 22) dX12_drawing_12 (by decide) ?_
      refine wa_iload_n hX (i := 2) dX12_drawing_22 rfl rfl ?_
      refine wi_iconst hX dX12_drawing_23 ?_
      refine wi_icmp_ne hX (tgt := 34) dX12_drawing_24 (by decide) (by omega) (by omega) (fun c24 => ?_) (fun c24 => ?_)
      · skip
        refine wa_aload_n hX (i := 1) dX12_drawing_34 rfl rfl ?_
        refine wa_get hX 3 (by assumption) (by rfl) (by decide +kernel) dX12_drawing_35 ?_
        first
          | (have hf2 : f = 2 := by omega
             have hl : l2 = 1 := by omega
             exact t38 m2 (by rw [hf2]; rcases g4 with ⟨z, _⟩ | ⟨_, z⟩; (· exfalso; omega); exact z))
          | (have hf3 : f = 3 := by omega
             have hl : l3 = 1 := by omega
             exact t38 m3 (by rw [hf3]; rcases g5 with ⟨z, _⟩ | ⟨_, z⟩; (· exfalso; omega); exact z))
          | (exfalso; omega)
      · skip
        refine wa_aload_n hX (i := 1) dX12_drawing_27 rfl rfl ?_
        refine wa_get hX 2 (by assumption) (by rfl) (by decide +kernel) dX12_drawing_28 ?_
        refine wa_goto hX (tgt := 38) dX12_drawing_31 (by decide) ?_
        first
          | (have hf2 : f = 2 := by omega
             have hl : l2 = 1 := by omega
             exact t38 m2 (by rw [hf2]; rcases g4 with ⟨z, _⟩ | ⟨_, z⟩; (· exfalso; omega); exact z))
          | (have hf3 : f = 3 := by omega
             have hl : l3 = 1 := by omega
             exact t38 m3 (by rw [hf3]; rcases g5 with ⟨z, _⟩ | ⟨_, z⟩; (· exfalso; omega); exact z))
          | (exfalso; omega)
end C9l
