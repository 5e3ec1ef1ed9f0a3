/-! The law: what makers ask for; boolean and long answers; frames between the calls -/
section Bh
variable {m c : Nat} {w : Nat → Nat} {E : Nat → Nat} {R : Nat → Nat → Nat}
theorem mN_uniformC : ∀ r e : Nat, r ≤ e → e ≤ 10 → Mtr e (fun s => min r (bc s)) := fun _ _ _ he => Mtr.uni he
theorem mN_uniformR : ∀ e k : Nat, e ≤ 10 → k ≤ e → Mtr e (fun s => min k (bc s)) := fun _ _ he _ => Mtr.uni he
theorem mN_graphC : ∀ k, c = 2 * k → k ≤ 10 → (∀ j, j < c → w j < 10) → Mtr k (rkE 2 10 (colG w k)) := fun _ _ hk _ => graph_mtr hk
theorem mN_graphR : c % 2 = 0 → c ≤ 20 → (∀ k, k < c → w k ≤ 9) → Mtr (c / 2) (fun s => graM w (c / 2) s) := fun _ h2 h3 => (graph_mtr (w := w) (show c / 2 ≤ 10 by omega)).congr (fun s hs => graph_same (by omega) (fun j hj => Nat.lt_succ_of_le (h3 j (by omega))) hs)
theorem mN_columnsC : ∀ f y0 : Nat, (f = 2 ∨ f = 3 ∨ f = 5) → 1 ≤ y0 → y0 ≤ 6 → (c % y0 = 0 ∧ c ≤ y0 * 10 ∧ ∀ j, j < c → w j < f) → Mtr (c / y0) (rkE f y0 (colC w y0 (c / y0))) := fun f y hf hy _ h => by
  have e := Nat.div_add_mod c y
  rw [h.1, Nat.add_zero, Nat.mul_comm] at e
  exact columns_mtr ((col_ok h.1 hy).mp h.2.1) hf (fun j hj => h.2.2 j (by omega))
theorem mN_columnsR : ∀ f rws : Nat, (f = 2 ∨ f = 3 ∨ f = 5) → 1 ≤ rws → rws ≤ 6 → c % rws = 0 → c / rws ≤ 10 → (∀ k, k < c → w k < f) → Mtr (c / rws) (fun s => colM w f rws (c / rws) s) := fun f y hf hy _ h1 h2 h3 => by
  have e := Nat.div_add_mod c y
  rw [h1, Nat.add_zero, Nat.mul_comm] at e
  exact (columns_mtr h2 hf (fun j hj => h3 j (by omega))).congr (fun s hs => columns_same h2 hf (fun j hj => h3 j (by omega)) hs)
theorem mN_meetingC : ∀ e, e ≤ 10 → (c ≤ 10 ∧ ∀ j, j < c → w j < 2 ^ e) → Mtr e (rkT (fun s => b2n (plM w e c s)) e (2 ^ e)) := fun e he _ => plM_mtr he c
theorem mN_meetingR : ∀ e : Nat, e ≤ 10 → c ≤ 10 → (∀ k, k < c → w k < 2 ^ e) → Mtr e (fun s => mtM w c s) := fun e he _ _ => (plM_mtr (pl := w) he c).congr (fun s hs => meeting_same he hs)
theorem mN_basesC : ∀ e, e ≤ 10 → (∀ j, j < c → w j < 2 ^ e) → oneN (mkB w c) e → noBrk w c e → Mtr e (rkT (fun s => b2n (inB w c s)) e (2 ^ e)) := fun e he hw h1 h2 => basT_mtr he hw h1 h2
theorem mN_basesR : ∀ e : Nat, e ≤ 10 → (∀ k, k < c → w k < 2 ^ e) → evnP w c → xchO (basB w c) → Mtr e (basM w c e) := fun e he hw h1 h2 => (basT_mtr he hw ((evn_one hw).mp h1) ((noBrk_iff he hw).mpr h2)).congr (fun s hs => bases_same he (fun j hj => Nat.lt_of_lt_of_le (hw j hj) (p2_le he)) hs)
theorem mN_dualC (hM : ∀ j, j < m → Mtr (E j) (R j)) : ∀ i, i < m → Mtr (E i) (dualR (R i) (E i)) := fun i hi => (hM i hi).dualM
theorem mN_deleteC (hM : ∀ j, j < m → Mtr (E j) (R j)) : ∀ i k, i < m → k < E i → Mtr (E i - 1) (partR (R i) k (0)) := fun i k hi hk => (hM i hi).part hk (Or.inl rfl)
theorem mN_deleteR (hM : ∀ j, j < m → Mtr (E j) (R j)) : ∀ i k, i < m → k < E i → Mtr (E i - 1) (fun s => witR (R i) k false s) := fun i k hi hk => ((hM i hi).part hk (Or.inl rfl)).congr (fun s _ => (wit_f (hM i hi).2.1).symm)
theorem mN_contractC (hM : ∀ j, j < m → Mtr (E j) (R j)) : ∀ i k, i < m → k < E i → Mtr (E i - 1) (partR (R i) k (2 ^ k)) := fun i k hi hk => (hM i hi).part hk (Or.inr rfl)
theorem mN_contractR (hM : ∀ j, j < m → Mtr (E j) (R j)) : ∀ i k, i < m → k < E i → Mtr (E i - 1) (fun s => witR (R i) k true s) := fun i k hi hk => ((hM i hi).part hk (Or.inr rfl)).congr (fun s _ => wit_t.symm)
theorem mN_sumC (hM : ∀ j, j < m → Mtr (E j) (R j)) : ∀ i j, i < m → j < m → E i + E j ≤ 10 → Mtr (E i + E j) (sumR (R i) (R j) (E i)) := fun i j hi hj he => (hM i hi).sum (hM j hj) he
theorem mN_unionC (hM : ∀ j, j < m → Mtr (E j) (R j)) : ∀ i j, i < m → j < m → E i = E j → Mtr (E i) (rkT (fun s => b2n (parted (sortN (R i) (E i)) (sortN (R j) (E i)) s)) (E i) (2 ^ E i)) := fun i j hi hj he => uniT_mtr (hM i hi) (by rw [he]; exact hM j hj)
theorem mN_unionR (hM : ∀ j, j < m → Mtr (E j) (R j)) : ∀ i j : Nat, i < m → j < m → E i = E j → Mtr (E i) (uniM (R i) (R j) (E i)) := fun i j hi hj he => uniM_mtr (hM i hi) (by rw [he]; exact hM j hj)
theorem mN_truncateC (hM : ∀ j, j < m → Mtr (E j) (R j)) : ∀ i, i < m → R i (2 ^ E i - 1) ≠ 0 → Mtr (E i) (fun s => min (R i s) (R i (2 ^ E i - 1) - 1)) := fun i hi _ => (hM i hi).trunc _
theorem mN_relaxC (hM : ∀ j, j < m → Mtr (E j) (R j)) : ∀ i t : Nat, i < m → t < 2 ^ E i → (sortN (R i) (E i) t &&& 4 != 0) = true → (sortN (R i) (E i) t &&& 16 != 0) = true → Mtr (E i) (fun s => if s = t then R i (2 ^ E i - 1) else R i s) := fun i t hi ht h1 h2 => (hM i hi).relaxR ht h1 h2
theorem mN_relaxR (hM : ∀ j, j < m → Mtr (E j) (R j)) : ∀ i t : Nat, i < m → t < 2 ^ E i → cirM (R i) t (E i) = true → hypB (R i) (E i) t = true → Mtr (E i) (fun s => if s = t then R i (2 ^ E i - 1) else R i s) := fun i t hi ht h1 h2 => (hM i hi).relaxR ht (((hM i hi).srtC ht).trans h1) (((hM i hi).hyp ht).trans h2)
theorem mN_extendC (hM : ∀ j, j < m → Mtr (E j) (R j)) : ∀ i t : Nat, i < m → t < 2 ^ E i → E i ≤ 9 → Mtr (E i + 1) (extR (R i) (E i) t) := fun i t hi ht he => (hM i hi).ext (by omega) ht
theorem mN_extendR (hM : ∀ j, j < m → Mtr (E j) (R j)) : ∀ i t : Nat, i < m → t < 2 ^ E i → E i ≤ 9 → Mtr (E i + 1) (fun s => extM (R i) (E i) t s) := fun i t hi ht he => ((hM i hi).ext (by omega) ht).congr (fun s hs => (hM i hi).extE ht hs)
theorem mN_commonB (hM : ∀ j, j < m → Mtr (E j) (R j)) : ∀ i j, i < m → j < m → E i = E j → ∃ t, t < 2 ^ E i ∧ (fun u => R i u + R j (sdf (2 ^ E i - 1) u) = mstN (R i) (R j) (2 ^ E i)) t := fun i j hi hj he => mst_bound (hM i hi) (by rw [he]; exact hM j hj)
theorem mN_sound (hM : ∀ j, j < m → Mtr (E j) (R j)) : ∀ j, j < m → sndP (R j) (E j) := fun j hj => (hM j hj).snd
end Bh
section Bh2
variable {h h1 h2 hh : AH} {out : Nat} {g0 g1 : Nat → Int64} {P1 : Option Value → AH → Prop} {PX : String → AH → Prop} {r : Option Value} {e1 e2 : String}
theorem wrB1 (ho : h out = some (200, aL 1 g0)) (fP : ∀ r h', P1 r h' → Fr HF h h') (fX : ∀ E h', PX E h' → Fr HF h h') (p : (∃ (b : Bool) (h1 : AH), P1 (some (I ((b2n b : Nat) : Int))) h1 ∧ r = some (I 0) ∧ hh = hset h1 out (200, aL 1 (up g0 0 (if b = true then (1 : Int64) else 0)))) ∨ (PX e1 hh ∧ r = some (I 1))) : WrO h out P1 PX [e1] r hh := by
  rcases p with ⟨b, h1, p, rfl, rfl⟩ | ⟨p, rfl⟩
  · rw [b2n_out]; exact wr_val fP _ p
  · exact wr_exc ho fX _ 1 (by omega) rfl p
theorem wrB2 (ho : h out = some (200, aL 1 g0)) (fP : ∀ r h', P1 r h' → Fr HF h h') (fX : ∀ E h', PX E h' → Fr HF h h') (p : (∃ (b : Bool) (h1 : AH), P1 (some (I ((b2n b : Nat) : Int))) h1 ∧ r = some (I 0) ∧ hh = hset h1 out (200, aL 1 (up g0 0 (if b = true then (1 : Int64) else 0)))) ∨ (PX e1 hh ∧ r = some (I 1)) ∨ (PX e2 hh ∧ r = some (I 2))) : WrO h out P1 PX [e1, e2] r hh := by
  rcases p with ⟨b, h1, p, rfl, rfl⟩ | ⟨p, rfl⟩ | ⟨p, rfl⟩
  · rw [b2n_out]; exact wr_val fP _ p
  · exact wr_exc ho fX _ 1 (by omega) rfl p
  · exact wr_exc ho fX _ 2 (by omega) rfl p
/-- a wrapper whose answer is long -/
theorem wrL2 (ho : h out = some (200, aL 1 g0)) (fP : ∀ r h', P1 r h' → Fr HF h h') (fX : ∀ E h', PX E h' → Fr HF h h') (p : (∃ (z : Int64) (h1 : AH), P1 (some (.long z)) h1 ∧ r = some (I 0) ∧ hh = hset h1 out (200, aL 1 (up g0 0 z))) ∨ (PX e1 hh ∧ r = some (I 1)) ∨ (PX e2 hh ∧ r = some (I 2))) : ∃ (kk : Nat) (h1 : AH) (g : Nat → Int64), r = some (I (kk : Int)) ∧ hh = hset h1 out (200, aL 1 g) ∧ Fr HF h h1 ∧ ((kk = 0 ∧ ∃ z : Int64, P1 (some (.long z)) h1 ∧ g 0 = z) ∨ ∃ e, [e1, e2][kk - 1]? = some e ∧ 1 ≤ kk ∧ PX e h1) := by
  rcases p with ⟨z, h1, p, rfl, rfl⟩ | ⟨p, rfl⟩ | ⟨p, rfl⟩
  · exact ⟨0, h1, _, rfl, rfl, fP _ _ p, Or.inl ⟨rfl, z, p, up_s⟩⟩
  · exact ⟨1, hh, g0, rfl, (hset_self (fX _ _ p _ _ _ ho HF200)).symm, fX _ _ p, Or.inr ⟨_, rfl, by omega, p⟩⟩
  · exact ⟨2, hh, g0, rfl, (hset_self (fX _ _ p _ _ _ ho HF200)).symm, fX _ _ p, Or.inr ⟨_, rfl, by omega, p⟩⟩
theorem lw_mid {S0 : State} {mo th c m : Nat} {w : Nat → Nat} {E : Nat → Nat} {R : Nat → Nat → Nat} {b0 b1 b2 : Int} {Q : Prop} (fr : Fr HF h h1) (ho : h out = some (200, aL 1 g0)) (hR : RI (zA S0) DRp h mo th c w m E R b0 b1 b2) (hs : Q) : RI (zA S0) DRp (hset h1 out (200, aL 1 g1)) mo th c w m E R b0 b1 b2 ∧ Q := by
  have ho1 := fr _ _ _ ho HF200
  have frO := fr_withOut (g := g1) fr ho1
  refine ⟨hR.fr frO (fun y hy z => ?_), hs⟩
  rcases hy with hy | hy
  · have := hy.2; omega
  · omega
theorem lw_after {a l : Nat} {o : Ob} (fr : Fr HF h h1) (ho : h out = some (200, aL 1 g0)) (frR : Fr (fun x => 120 ≤ x ∧ x ≤ 139) (hset h1 out (200, aL 1 g1)) h2) (hq : h a = some (l, o)) (hl : l = 201 ∨ l = 202) : h2 a = some (l, o) := by
  have ho1 := fr _ _ _ ho HF200
  have frO := fr_withOut (g := g1) fr ho1
  refine frR _ _ _ (frO _ _ _ hq (fun z => ?_)) (fun z => by omega)
  rcases z with z | z
  · have := z.2; omega
  · omega
theorem lw_outs (frR : Fr (fun x => 120 ≤ x ∧ x ≤ 139) (hset h1 out (200, aL 1 g1)) h2) : h2 out = some (200, aL 1 g1) := frR _ _ _ (by unfold hset; rw [if_pos rfl]) (fun z => by omega)
theorem lw_house {x : Nat} {w : Nat → Nat} {c m : Nat} {E : Nat → Nat} {R : Nat → Nat → Nat} {br bf bs be : Int} {D2 D3 : Nat → Bool} {so : Nat} (fr : Fr HF h h1) (ho : h out = some (200, aL 1 g0)) (frR : Fr (fun x => 120 ≤ x ∧ x ≤ 139) (hset h1 out (200, aL 1 g1)) h2) (hI : HI h1 x w c m E R br bf bs be D2 D3 so) : HI h2 x w c m E R br bf bs be D2 D3 so := by
  have ho1 := fr _ _ _ ho HF200
  have frO := fr_withOut (g := g1) (S := fun _ => False) Fr.rf ho1
  have i1 := hI.fr frO (fun y hy => by
    rcases hy with hy | hy
    · exact hy.elim
    · omega)
  exact i1.fr frR (fun y hy => by omega)
/-- how a case goes on -/
def LwK (X : Cx) (k sl sc n : Nat) (f : Nat → Int) (x mo out oD i0 pc ps : Nat) : Prop := ∀ (h' : AH) (th' : Nat) (g' : Nat → Int64) (G' : Nat → UInt64) (pc' ps' : Nat) (v6 v7 v8 : Slot), LST (cxS X) h' sc n f x mo out oD th' g' G' pc' ps' → pc' ≤ pc → ps' ≤ ps → oc1 v6 → jk7 v7 v8 → WA X h' (k + pc') (sl + ps') 3053 (lwL sc x mo out oD ((i0 : Nat) : Int) v6 v7 v8) []
end Bh2
