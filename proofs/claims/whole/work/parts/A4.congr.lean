/-! The mathematics: only the ranks of the sets count -/
section A4
variable {e f : Nat} {rk rk2 : Nat → Nat}
theorem bsB_congr (h : ∀ s, s < 2 ^ e → rk s = rk2 s) {s : Nat} (hs : s < 2 ^ e) : bsB rk e s = bsB rk2 e s := by
  have hp := p2_pos e
  unfold bsB frB
  rw [h s hs, h (2 ^ e - 1) (by omega)]
theorem bsL_congr (h : ∀ s, s < 2 ^ e → rk s = rk2 s) {b : Nat} (q : bsL rk e b) : bsL rk2 e b := by
  obtain ⟨q1, q2, q3⟩ := q
  exact ⟨q1, by rw [← bsB_congr h q1]; exact q2, fun s hs => by rw [← bsB_congr h (by omega)]; exact q3 s hs⟩
theorem ExtW_congr (h : ∀ s, s < 2 ^ e → rk s = rk2 s) {b co : Nat} {wy : Nat → Nat} (q : ExtW rk e f b co wy) : ExtW rk2 e f b co wy := by
  have hp := p2_pos e
  intro k h1 h2
  obtain ⟨q1, q2⟩ := q k h1 h2
  rw [h (2 ^ e - 1) (by omega)] at q1 q2
  refine ⟨q1, fun s s1 s2 s3 => ?_⟩
  have hle : 2 ^ (k + 1) ≤ 2 ^ e := Nat.pow_le_pow_right (by decide) (by omega)
  have hs : s < 2 ^ e := by omega
  have q3 := q2 s s1 s2 (by
    unfold frB at s3 ⊢
    rw [h _ (sdf_lt hs)]
    exact s3)
  rw [h s hs] at q3
  exact q3
theorem DRp_congr (h : ∀ s, s < 2 ^ e → rk s = rk2 s) {o : Option (Nat → Nat)} (q : DRp rk e f o) : DRp rk2 e f o := by
  have hp := p2_pos e
  have h' : ∀ s, s < 2 ^ e → rk2 s = rk s := fun s hs => (h s hs).symm
  obtain ⟨b, hb, q⟩ := q
  refine ⟨b, bsL_congr h hb, ?_⟩
  rcases q with ⟨z1, z2⟩ | ⟨g, wy, z1, z2, z3, z4⟩
  · exact Or.inl ⟨z1, fun wy z => z2 wy (ExtW_congr h' z)⟩
  · refine Or.inr ⟨g, wy, z1, ExtW_congr h z2, fun wy2 z => z3 wy2 (ExtW_congr h' z), ?_⟩
    rw [← h (2 ^ e - 1) (by omega)]
    exact z4
theorem DrC_congr {H : AH} (h : ∀ s, s < 2 ^ e → rk s = rk2 s) {v : Value} {lk : Int} (q : DrC DRp H e rk f v lk) : DrC DRp H e rk2 f v lk := by
  rcases q with z | ⟨z, z2 | ⟨q, g, z2, z3, z4⟩⟩
  · exact Or.inl z
  · exact Or.inr ⟨z, Or.inl ⟨z2.1, DRp_congr h z2.2⟩⟩
  · exact Or.inr ⟨z, Or.inr ⟨q, g, z2, z3, DRp_congr h z4⟩⟩
theorem RI_congr {Z : Nat → Prop} {H : AH} {a th c m : Nat} {w : Nat → Nat} {E : Nat → Nat} {R R2 : Nat → Nat → Nat} {b0 b1 b2 : Int} (h : ∀ j, j < m → ∀ s, s < 2 ^ E j → R j s = R2 j s) (q : RI Z DRp H a th c w m E R b0 b1 b2) : RI Z DRp H a th c w m E R2 b0 b1 b2 := by
  obtain ⟨row, brk, al, wk, us, kp, pt, k1, ⟨h1, h2, h3, h4⟩, z1, z2, z3, z4, z5, z6, ed, N, P, z7, z8, z9, z10⟩ := q
  refine ⟨row, brk, al, wk, us, kp, pt, k1, ⟨h1, h2, h3, fun j hj => (h4 j hj).congr (h j hj)⟩, z1, z2, z3, z4, z5, z6, ed, N, P, z7, z8, z9, fun j hj => ?_⟩
  obtain ⟨rq, m2, m3, l2, l3, G, y1, y2, y3, y4, y5⟩ := z10 j hj
  exact ⟨rq, m2, m3, l2, l3, G, y1, y2, fun s hs => by rw [← h j hj s hs]; exact y3 s hs, DrC_congr (h j hj) y4, DrC_congr (h j hj) y5⟩
end A4
