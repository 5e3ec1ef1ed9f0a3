/-! The mathematics: meeting: both sides' ranks are the same -/
section Aa
variable {e : Nat}
theorem plM_lrg {pl : Nat → Nat} (he : e ≤ 10) (p : Nat) : Lrg (parM (rkT (fun s => b2n (plM pl e p s)) e (2 ^ e)) (r1w (pl p))) e (rkT (fun s => b2n (plM pl e (p + 1) s)) e (2 ^ e)) := fun s hs => by
  have hL := LrgT (p := plM pl e p) he
  have hL1 := LrgT (p := plM pl e (p + 1)) he
  have hr : ∀ s, s < 2 ^ e → (plM pl e p s = true ↔ rkT (fun s => b2n (plM pl e p s)) e (2 ^ e) s = bc s) := fun s hs => hL.iff he (plM_0 p) hs
  obtain ⟨⟨q, q1, q2, q3⟩, hm⟩ := hL1 s hs
  have hqe : ∀ q, sbs q s → q < 2 ^ e := fun q h => Nat.lt_of_le_of_lt (sbs_le h) hs
  refine ⟨⟨q, q1, ?_, q3⟩, fun q z1 z2 => hm q z1 (by rw [plM_par he hr (hqe q z1)]; exact z2)⟩
  rcases q2 with z | z
  · rw [plM_par he hr (hqe q q1)] at z; exact Or.inl z
  · exact Or.inr z
theorem sdf_sub {s t u : Nat} (he : e ≤ 10) (hs : s < 2 ^ e) (h1 : sbs t s) (h2 : sbs u t) : bc (sdf s u) = bc (sdf t u) + bc (sdf s t) := by
  have a1 := bc_dif2 he hs h1
  have a2 := bc_dif2 he (Nat.lt_of_le_of_lt (sbs_le h1) hs) h2
  have a3 := bc_dif2 he hs (sbs_tr h2 h1)
  omega
theorem r1w_mono {w u t : Nat} (h : sbs u t) : r1w w u ≤ r1w w t := by
  unfold r1w
  by_cases g : t &&& w = 0
  · rw [if_pos g, if_pos]
    · exact Nat.le_refl _
    · apply Nat.eq_of_testBit_eq
      intro i
      rw [Nat.testBit_and, Nat.zero_testBit]
      cases hb : u.testBit i
      · rfl
      · have b : (t &&& w).testBit i = false := by rw [g, Nat.zero_testBit]
        rw [Nat.testBit_and, h i hb] at b
        exact b
  · rw [if_neg g]; split <;> omega
theorem cnt_w {w : Nat → Nat} {p t : Nat} : cnt (fun k => w k &&& t != 0) (p + 1) = cnt (fun k => w k &&& t != 0) p + r1w (w p) t := by
  show cnt (fun k => w k &&& t != 0) p + (if (w p &&& t != 0) = true then 1 else 0) = _
  unfold r1w
  rw [Nat.and_comm t]
  by_cases g : w p &&& t = 0
  · rw [g]; rfl
  · rw [if_neg g, if_pos (bne_iff_ne.mpr g)]
theorem plM_val {w : Nat → Nat} (he : e ≤ 10) : ∀ p s, s < 2 ^ e → (∀ t, sbs t s → rkT (fun s => b2n (plM w e p s)) e (2 ^ e) s ≤ cnt (fun k => w k &&& t != 0) p + bc (sdf s t)) ∧ ∃ t, sbs t s ∧ rkT (fun s => b2n (plM w e p s)) e (2 ^ e) s = cnt (fun k => w k &&& t != 0) p + bc (sdf s t) := by
  intro p
  induction p with
  | zero =>
    intro s hs
    have b0 : bc 0 = 0 := rfl
    have r0 : rkT (fun s => b2n (plM w e 0 s)) e (2 ^ e) s = 0 := by
      obtain ⟨⟨q, q1, q2, q3⟩, -⟩ := LrgT (p := plM w e 0) he s hs
      have hq : q = 0 := by
        rcases q2 with z | z
        · exact beq_iff_eq.mp z
        · exact z
      subst hq
      omega
    rw [r0]
    refine ⟨fun t ht => Nat.zero_le _, s, sbs_refl s, ?_⟩
    rw [show sdf s s = 0 from sdf_zero (Nat.and_self s)]
    rfl
  | succ p ih =>
    intro s hs
    obtain ⟨u1, t, t1, t2⟩ := uni_val (plM_mtr he p) (Mtr.one he (w p)) (plM_lrg he p) hs
    have up : ∀ t, sbs t s → rkT (fun s => b2n (plM w e (p + 1) s)) e (2 ^ e) s ≤ cnt (fun k => w k &&& t != 0) (p + 1) + bc (sdf s t) := fun t ht => by
      have a := u1 t ht
      have b := (ih t (Nat.lt_of_le_of_lt (sbs_le ht) hs)).1 t (sbs_refl t)
      rw [show sdf t t = 0 from sdf_zero (Nat.and_self t), show bc 0 = 0 from rfl] at b
      rw [cnt_w]
      omega
    refine ⟨up, ?_⟩
    obtain ⟨-, u, v1, v2⟩ := ih t (Nat.lt_of_le_of_lt (sbs_le t1) hs)
    have a := up u (sbs_tr v1 t1)
    have b := sdf_sub he hs t1 v1
    have c := r1w_mono (w := w p) v1
    refine ⟨u, sbs_tr v1 t1, ?_⟩
    rw [cnt_w] at a ⊢
    omega
theorem meeting_same {w : Nat → Nat} {c s : Nat} (he : e ≤ 10) (hs : s < 2 ^ e) : rkT (fun s => b2n (plM w e c s)) e (2 ^ e) s = mtM w c s := by
  obtain ⟨up, t, t1, t2⟩ := plM_val (w := w) he c s hs
  have hm : ∀ q, sbs q s → mtV w c s q = cnt (fun k => w k &&& q != 0) c + bc (sdf s q) := fun q hq => by
    have a := bc_dif2 he hs hq
    unfold mtV
    omega
  refine mtM_eq ((LrgT he).le he hs) (fun q q1 q2 => ?_) ?_
  · rw [hm q (sbs_and.mpr q1)]
    exact up q (sbs_and.mpr q1)
  · by_cases g : t = 0
    · left
      subst g
      have z : cnt (fun k => w k &&& 0 != 0) c = 0 := cnt_none (fun j hj => by rw [Nat.and_zero]; rfl)
      rw [z, show sdf s 0 = s by unfold sdf; rw [Nat.and_zero, Nat.xor_zero]] at t2
      omega
    · exact Or.inr ⟨t, sbs_and.mp t1, by omega, by rw [hm t t1]; exact t2⟩
end Aa
