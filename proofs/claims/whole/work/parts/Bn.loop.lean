/-! The law: one call of the script; the loop over it -/
section Bn
theorem and63 (x : Int32) : ∃ v : Nat, v < 64 ∧ x &&& Int32.ofInt 63 = Int32.ofInt ((v : Nat) : Int) := by
  refine ⟨x.toBitVec.toNat % 64, Nat.mod_lt _ (by decide), ?_⟩
  apply Int32.toBitVec_inj.mp
  apply BitVec.eq_of_toNat_eq
  rw [Int32.toBitVec_and, BitVec.toNat_and]
  have e1 : (Int32.ofInt 63).toBitVec.toNat = 2 ^ 6 - 1 := by decide
  have e2 : (Int32.ofInt ((x.toBitVec.toNat % 64 : Nat) : Int)).toBitVec.toNat = x.toBitVec.toNat % 64 := by
    rw [Int32.toBitVec_ofInt, BitVec.ofInt_natCast, BitVec.toNat_ofNat]
    omega
  rw [e1, e2, Nat.and_two_pow_sub_one_eq_mod]
theorem lw_lt (k : Nat) (h : k < 45) : k = 0 ∨ k = 1 ∨ k = 2 ∨ k = 3 ∨ k = 4 ∨ k = 5 ∨ k = 6 ∨ k = 7 ∨ k = 8 ∨ k = 9 ∨ k = 10 ∨ k = 11 ∨ k = 12 ∨ k = 13 ∨ k = 14 ∨ k = 15 ∨ k = 16 ∨ k = 17 ∨ k = 18 ∨ k = 19 ∨ k = 20 ∨ k = 21 ∨ k = 22 ∨ k = 23 ∨ k = 24 ∨ k = 25 ∨ k = 26 ∨ k = 27 ∨ k = 28 ∨ k = 29 ∨ k = 30 ∨ k = 31 ∨ k = 32 ∨ k = 33 ∨ k = 34 ∨ k = 35 ∨ k = 36 ∨ k = 37 ∨ k = 38 ∨ k = 39 ∨ k = 40 ∨ k = 41 ∨ k = 42 ∨ k = 43 ∨ k = 44 := by omega
set_option maxHeartbeats 4000000 in
set_option maxRecDepth 100000 in
/-- one call of the script, whichever it is -/
theorem lw_call {X : Cx} {d : Nat} {post : Option Value → AH → Prop} {px : String → AH → Prop} {h : AH} {k sl sc x mo out oD i0 n v : Nat} {u6 u7 u8 : Slot} {f : Nat → Int} {th pc ps : Nat} {g : Nat → Int64} {G : Nat → UInt64} (hW : WOK (cxL X) (cxD X) (cxS X)) (hX : Ok X yL_law.cls cL_law 9 (some .boolean) yL_law.name (d + 20) post px) (hS : LST (cxS X) h sc n f x mo out oD th g G pc ps) (hf : ∀ j, inR (f j)) (hn : n ≤ 2560) (hb : i0 + 4 < n) (j6 : oc1 u6) (j7 : jk7 u7 u8) (hv : v < 64) (K : LwK X k sl sc n f x mo out oD i0 pc ps) : WA X h (k + 65 + pc) (sl + 7400 + ps) 44 (lwL sc x mo out oD ((i0 : Nat) : Int) u6 u7 u8) [I ((v : Nat) : Int)] := by
  by_cases hz : v < 45
  · rcases lw_lt v hz with rfl | rfl | rfl | rfl | rfl | rfl | rfl | rfl | rfl | rfl | rfl | rfl | rfl | rfl | rfl | rfl | rfl | rfl | rfl | rfl | rfl | rfl | rfl | rfl | rfl | rfl | rfl | rfl | rfl | rfl | rfl | rfl | rfl | rfl | rfl | rfl | rfl | rfl | rfl | rfl | rfl | rfl | rfl | rfl | rfl
    · exact wa_tableIn hX dL_law_44 (inR_nat (by decide)) (by decide) (by decide) (off := 196) (tgt := 240) rfl (by decide) (w_type hW hX hS hf hn hb j6 j7 K)
    · exact wa_tableIn hX dL_law_44 (inR_nat (by decide)) (by decide) (by decide) (off := 252) (tgt := 296) rfl (by decide) (w_erase hW hX hS hf hn hb j6 j7 K)
    · exact wa_tableIn hX dL_law_44 (inR_nat (by decide)) (by decide) (by decide) (off := 265) (tgt := 309) rfl (by decide) (w_uniform hW hX hS hf hn hb j6 j7 K)
    · exact wa_tableIn hX dL_law_44 (inR_nat (by decide)) (by decide) (by decide) (off := 333) (tgt := 377) rfl (by decide) (w_graph hW hX hS hf hn hb j6 j7 K)
    · exact wa_tableIn hX dL_law_44 (inR_nat (by decide)) (by decide) (by decide) (off := 377) (tgt := 421) rfl (by decide) (w_columns hW hX hS hf hn hb j6 j7 K)
    · exact wa_tableIn hX dL_law_44 (inR_nat (by decide)) (by decide) (by decide) (off := 445) (tgt := 489) rfl (by decide) (w_meeting hW hX hS hf hn hb j6 j7 K)
    · exact wa_tableIn hX dL_law_44 (inR_nat (by decide)) (by decide) (by decide) (off := 501) (tgt := 545) rfl (by decide) (w_bases hW hX hS hf hn hb j6 j7 K)
    · exact wa_tableIn hX dL_law_44 (inR_nat (by decide)) (by decide) (by decide) (off := 557) (tgt := 601) rfl (by decide) (w_broken hW hX hS hf hn hb j6 j7 K)
    · exact wa_tableIn hX dL_law_44 (inR_nat (by decide)) (by decide) (by decide) (off := 615) (tgt := 659) rfl (by decide) (w_dual hW hX hS hf hn hb j6 j7 K)
    · exact wa_tableIn hX dL_law_44 (inR_nat (by decide)) (by decide) (by decide) (off := 671) (tgt := 715) rfl (by decide) (w_delete hW hX hS hf hn hb j6 j7 K)
    · exact wa_tableIn hX dL_law_44 (inR_nat (by decide)) (by decide) (by decide) (off := 739) (tgt := 783) rfl (by decide) (w_contract hW hX hS hf hn hb j6 j7 K)
    · exact wa_tableIn hX dL_law_44 (inR_nat (by decide)) (by decide) (by decide) (off := 807) (tgt := 851) rfl (by decide) (w_sum hW hX hS hf hn hb j6 j7 K)
    · exact wa_tableIn hX dL_law_44 (inR_nat (by decide)) (by decide) (by decide) (off := 875) (tgt := 919) rfl (by decide) (w_union hW hX hS hf hn hb j6 j7 K)
    · exact wa_tableIn hX dL_law_44 (inR_nat (by decide)) (by decide) (by decide) (off := 943) (tgt := 987) rfl (by decide) (w_truncate hW hX hS hf hn hb j6 j7 K)
    · exact wa_tableIn hX dL_law_44 (inR_nat (by decide)) (by decide) (by decide) (off := 999) (tgt := 1043) rfl (by decide) (w_relax hW hX hS hf hn hb j6 j7 K)
    · exact wa_tableIn hX dL_law_44 (inR_nat (by decide)) (by decide) (by decide) (off := 1067) (tgt := 1111) rfl (by decide) (w_extend hW hX hS hf hn hb j6 j7 K)
    · exact wa_tableIn hX dL_law_44 (inR_nat (by decide)) (by decide) (by decide) (off := 1135) (tgt := 1179) rfl (by decide) (w_size hW hX hS hf hn hb j6 j7 K)
    · exact wa_tableIn hX dL_law_44 (inR_nat (by decide)) (by decide) (by decide) (off := 1191) (tgt := 1235) rfl (by decide) (w_rank hW hX hS hf hn hb j6 j7 K)
    · exact wa_tableIn hX dL_law_44 (inR_nat (by decide)) (by decide) (by decide) (off := 1259) (tgt := 1303) rfl (by decide) (w_closure hW hX hS hf hn hb j6 j7 K)
    · exact wa_tableIn hX dL_law_44 (inR_nat (by decide)) (by decide) (by decide) (off := 1327) (tgt := 1371) rfl (by decide) (w_count hW hX hS hf hn hb j6 j7 K)
    · exact wa_tableIn hX dL_law_44 (inR_nat (by decide)) (by decide) (by decide) (off := 1397) (tgt := 1441) rfl (by decide) (w_setAt hW hX hS hf hn hb j6 j7 K)
    · exact wa_tableIn hX dL_law_44 (inR_nat (by decide)) (by decide) (by decide) (off := 1479) (tgt := 1523) rfl (by decide) (w_circuitWith hW hX hS hf hn hb j6 j7 K)
    · exact wa_tableIn hX dL_law_44 (inR_nat (by decide)) (by decide) (by decide) (off := 1559) (tgt := 1603) rfl (by decide) (w_component hW hX hS hf hn hb j6 j7 K)
    · exact wa_tableIn hX dL_law_44 (inR_nat (by decide)) (by decide) (by decide) (off := 1627) (tgt := 1671) rfl (by decide) (w_areAlike hW hX hS hf hn hb j6 j7 K)
    · exact wa_tableIn hX dL_law_44 (inR_nat (by decide)) (by decide) (by decide) (off := 1702) (tgt := 1746) rfl (by decide) (w_image hW hX hS hf hn hb j6 j7 K)
    · exact wa_tableIn hX dL_law_44 (inR_nat (by decide)) (by decide) (by decide) (off := 1782) (tgt := 1826) rfl (by decide) (w_symmetries hW hX hS hf hn hb j6 j7 K)
    · exact wa_tableIn hX dL_law_44 (inR_nat (by decide)) (by decide) (by decide) (off := 1838) (tgt := 1882) rfl (by decide) (w_minorBy hW hX hS hf hn hb j6 j7 K)
    · exact wa_tableIn hX dL_law_44 (inR_nat (by decide)) (by decide) (by decide) (off := 1906) (tgt := 1950) rfl (by decide) (w_minorWithout hW hX hS hf hn hb j6 j7 K)
    · exact wa_tableIn hX dL_law_44 (inR_nat (by decide)) (by decide) (by decide) (off := 1974) (tgt := 2018) rfl (by decide) (w_canBeDrawn hW hX hS hf hn hb j6 j7 K)
    · exact wa_tableIn hX dL_law_44 (inR_nat (by decide)) (by decide) (by decide) (off := 2049) (tgt := 2093) rfl (by decide) (w_entry hW hX hS hf hn hb j6 j7 K)
    · exact wa_tableIn hX dL_law_44 (inR_nat (by decide)) (by decide) (by decide) (off := 2141) (tgt := 2185) rfl (by decide) (w_greedy hW hX hS hf hn hb j6 j7 K)
    · exact wa_tableIn hX dL_law_44 (inR_nat (by decide)) (by decide) (by decide) (off := 2197) (tgt := 2241) rfl (by decide) (w_common hW hX hS hf hn hb j6 j7 K)
    · exact wa_tableIn hX dL_law_44 (inR_nat (by decide)) (by decide) (by decide) (off := 2265) (tgt := 2309) rfl (by decide) (w_commonSet hW hX hS hf hn hb j6 j7 K)
    · exact wa_tableIn hX dL_law_44 (inR_nat (by decide)) (by decide) (by decide) (off := 2333) (tgt := 2377) rfl (by decide) (w_commonBound hW hX hS hf hn hb j6 j7 K)
    · exact wa_tableIn hX dL_law_44 (inR_nat (by decide)) (by decide) (by decide) (off := 2401) (tgt := 2445) rfl (by decide) (w_cover hW hX hS hf hn hb j6 j7 K)
    · exact wa_tableIn hX dL_law_44 (inR_nat (by decide)) (by decide) (by decide) (off := 2457) (tgt := 2501) rfl (by decide) (w_coverBound hW hX hS hf hn hb j6 j7 K)
    · exact wa_tableIn hX dL_law_44 (inR_nat (by decide)) (by decide) (by decide) (off := 2513) (tgt := 2557) rfl (by decide) (w_packing hW hX hS hf hn hb j6 j7 K)
    · exact wa_tableIn hX dL_law_44 (inR_nat (by decide)) (by decide) (by decide) (off := 2569) (tgt := 2613) rfl (by decide) (w_packingBound hW hX hS hf hn hb j6 j7 K)
    · exact wa_tableIn hX dL_law_44 (inR_nat (by decide)) (by decide) (by decide) (off := 2625) (tgt := 2669) rfl (by decide) (w_coefficient hW hX hS hf hn hb j6 j7 K)
    · exact wa_tableIn hX dL_law_44 (inR_nat (by decide)) (by decide) (by decide) (off := 2705) (tgt := 2749) rfl (by decide) (w_value hW hX hS hf hn hb j6 j7 K)
    · exact wa_tableIn hX dL_law_44 (inR_nat (by decide)) (by decide) (by decide) (off := 2784) (tgt := 2828) rfl (by decide) (w_other hW hX hS hf hn hb j6 j7 K)
    · exact wa_tableIn hX dL_law_44 (inR_nat (by decide)) (by decide) (by decide) (off := 2852) (tgt := 2896) rfl (by decide) (w_matroids hW hX hS hf hn hb j6 j7 K)
    · exact wa_tableIn hX dL_law_44 (inR_nat (by decide)) (by decide) (by decide) (off := 2865) (tgt := 2909) rfl (by decide) (w_binaryShare hW hX hS hf hn hb j6 j7 K)
    · exact wa_tableIn hX dL_law_44 (inR_nat (by decide)) (by decide) (by decide) (off := 2931) (tgt := 2975) rfl (by decide) (w_meanBases hW hX hS hf hn hb j6 j7 K)
    · exact wa_tableIn hX dL_law_44 (inR_nat (by decide)) (by decide) (by decide) (off := 2996) (tgt := 3040) rfl (by decide) (w_isSound hW hX hS hf hn hb j6 j7 K)
  · refine wa_tableOut hX (tgt := 3053) dL_law_44 (inR_nat (by omega)) (Or.inr (by omega)) (by decide) ?_
    refine WA.room (k2 := k + pc) (sl2 := sl + ps) (by omega) (by omega) ?_
    exact K h th g G pc ps u6 u7 u8 hS (Nat.le_refl _) (Nat.le_refl _) j6 j7
set_option maxHeartbeats 1000000 in
set_option maxRecDepth 100000 in
/-- the loop, N calls at most to go -/
theorem lw_loop {X : Cx} {d : Nat} {post : Option Value → AH → Prop} {px : String → AH → Prop} {sc x mo out oD n : Nat} {f : Nat → Int} (hW : WOK (cxL X) (cxD X) (cxS X)) (hX : Ok X yL_law.cls cL_law 9 (some .boolean) yL_law.name (d + 20) post px) (hf : ∀ j, inR (f j)) (hn : n ≤ 2560) (hq : ∀ h', post (some (I 1)) h') : ∀ (N : Nat) (h : AH) (k sl i0 th : Nat) (g : Nat → Int64) (G : Nat → UInt64) (pc ps : Nat) (u6 u7 u8 : Slot), n < i0 + 5 + 5 * N → i0 ≤ 2560 → LST (cxS X) h sc n f x mo out oD th g G pc ps → oc1 u6 → jk7 u7 u8 → WA X h (k + 65 * N + pc) (sl + 7400 * N + ps) 28 (lwL sc x mo out oD ((i0 : Nat) : Int) u6 u7 u8) [] := by
  intro N
  induction N with
  | zero =>
    intro h k sl i0 th g G pc ps u6 u7 u8 hlt hi0 hS j6 j7
    have hsc := hS.2.2.2
    refine wa_iload hX dL_law_28 rfl ?_
    refine wa_aload_n hX (i := 0) dL_law_30 rfl rfl ?_
    refine wa_lenT hX hsc dL_law_31 ?_
    refine wi_iconst hX dL_law_32 ?_
    refine wi_isub hX dL_law_33 ?_
    refine wi_icmp_gt hX (tgt := 3059) dL_law_34 (by decide) (inR_nat (by omega)) ⟨by omega, by omega⟩ (fun _ => ?_) (fun z => by omega)
    refine wi_iconst hX dL_law_3059 ?_
    exact wa_zret hX dL_law_3060 (by rfl) (hq h)
  | succ N ih =>
    intro h k sl i0 th g G pc ps u6 u7 u8 hlt hi0 hS j6 j7
    have hsc := hS.2.2.2
    refine wa_iload hX dL_law_28 rfl ?_
    refine wa_aload_n hX (i := 0) dL_law_30 rfl rfl ?_
    refine wa_lenT hX hsc dL_law_31 ?_
    refine wi_iconst hX dL_law_32 ?_
    refine wi_isub hX dL_law_33 ?_
    refine wi_icmp_gt hX (tgt := 3059) dL_law_34 (by decide) (inR_nat (by omega)) ⟨by omega, by omega⟩ (fun _ => ?_) (fun hz => ?_)
    · refine wi_iconst hX dL_law_3059 ?_
      exact wa_zret hX dL_law_3060 (by rfl) (hq h)
    · have hb : i0 + 4 < n := by omega
      refine wa_aload_n hX (i := 0) dL_law_37 rfl rfl ?_
      refine wa_iload hX dL_law_38 rfl ?_
      refine wa_ialdT hX (i := ((i0 : Nat) : Int)) hsc (inR_nat (by omega)) (by omega) (by omega) dL_law_40 ?_
      refine wi_bipush hX dL_law_41 (by decide) ?_
      refine wa_iand hX dL_law_43 ?_
      obtain ⟨v, hv, ev⟩ := and63 (Int32.ofInt (f (((i0 : Nat) : Int)).toNat))
      rw [ev]
      refine WA.room (k2 := (k + 65 * N) + 65 + pc) (sl2 := (sl + 7400 * N) + 7400 + ps) (by omega) (by omega) ?_
      refine lw_call hW hX hS hf hn hb j6 j7 hv (fun h' th' g' G' pc' ps' v6 v7 v8 hS' hp1 hp2 k6 k7 => ?_)
      refine wi_iinc hX dL_law_3053 rfl ?_
      dsimp only [List.set]
      refine wa_goto hX (tgt := 28) dL_law_3056 (by decide) ?_
      rw [show ((i0 : Nat) : Int) + 5 = ((i0 + 5 : Nat) : Int) by omega]
      exact ih h' k sl (i0 + 5) th' g' G' pc' ps' v6 v7 v8 (by omega) (by omega) hS' k6 k7
end Bn
