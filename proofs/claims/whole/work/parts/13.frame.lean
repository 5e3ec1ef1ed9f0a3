/-! FRAMES, loops, and the heap under a new name. Own text. -/
/-- all cells whose label isn't in S are as they were -/
def Fr (S : Nat → Prop) (h h' : AH) : Prop := ∀ (a l : Nat) (o : Ob), h a = some (l, o) → ¬ S l → h' a = some (l, o)
theorem Fr.rf {S : Nat → Prop} {h : AH} : Fr S h h := fun _ _ _ q _ => q
theorem Fr.trans {S : Nat → Prop} {h h1 h2 : AH} (f : Fr S h h1) (g : Fr S h1 h2) : Fr S h h2 := fun a l o q n => g a l o (f a l o q n) n
theorem Fr.mono {S S' : Nat → Prop} {h h1 : AH} (f : Fr S h h1) (hs : ∀ l, S l → S' l) : Fr S' h h1 := fun a l o q n => f a l o q (fun z => n (hs l z))
theorem Fr.put {S : Nat → Prop} {h0 h h' : AH} {a l : Nat} {o : Ob} (f : Fr S h0 h) (ha : h a = some (l, o)) (hK : ∀ b : Nat, b ≠ a → h' b = h b) (hs : S l) : Fr S h0 h' := fun b lb ob q n => by
  have h1 := f b lb ob q n
  refine (hK b (fun e => ?_)).trans h1
  subst e
  rw [h1] at ha
  cases ha
  exact n hs
theorem Fr.mk9 {S : Nat → Prop} {h0 h h' : AH} (f : Fr S h0 h) (hK : ∀ (b lb : Nat) (ob : Ob), h b = some (lb, ob) → h' b = some (lb, ob)) : Fr S h0 h' := fun b lb ob q n => hK b lb ob (f b lb ob q n)
theorem hset_hset {h : AH} {a : Nat} {x y : Nat × Ob} : hset (hset h a x) a y = hset h a y := by
  funext b
  by_cases e : b = a
  · subst e; rw [hset_eq, hset_eq]
  · rw [hset_ne e, hset_ne e, hset_ne e]
theorem hset_self {h : AH} {a : Nat} {x : Nat × Ob} (e : h a = some x) : hset h a x = h := by
  funext b
  by_cases q : b = a
  · subst q; rw [hset_eq, e]
  · rw [hset_ne q]
theorem hset_is {h h' : AH} {a : Nat} {x : Nat × Ob} (e : h' a = some x) (hK : ∀ b : Nat, b ≠ a → h' b = h b) : h' = hset h a x := by
  funext b
  by_cases q : b = a
  · subst q; rw [hset_eq, e]
  · rw [hset_ne q, hK b q]
section LY4
variable {X : Cx} {own : String} {cc : ByteArray} {nL : Nat} {ret : Option FieldType} {nm : String} {d : Nat} {post : Option Value → AH → Prop} {px : String → AH → Prop} {h : AH} {k sl pc : Nat} {ls : List Slot} {st : List Value}
theorem WA.hgen {a l0 : Nat} {o0 : Ob} {x : Nat × Ob} (_ : h a = some (l0, o0)) (w : ∀ h' : AH, h' a = some x → (∀ b : Nat, b ≠ a → h' b = h b) → WA X h' k sl pc ls st) : WA X (hset h a x) k sl pc ls st :=
  w _ hset_eq (fun b e => hset_ne e)
theorem WA.hnew {a : Nat} {x : Nat × Ob} (hn : h a = none) (w : ∀ h' : AH, h' a = some x → (∀ (b lb : Nat) (ob : Ob), h b = some (lb, ob) → h' b = some (lb, ob)) → WA X h' k sl pc ls st) : WA X (hset h a x) k sl pc ls st :=
  w _ hset_eq (fun _ _ _ q => hset_new hn q)
/-- a loop: by a measure that falls -/
theorem WA.loop {σ : Type} (μ : σ → Nat) (Inv : σ → Prop) (hh : σ → AH) (lo : σ → List Slot) (step : ∀ s, Inv s → (∀ s', Inv s' → μ s' < μ s → WA X (hh s') k sl pc (lo s') st) → WA X (hh s) k sl pc (lo s) st) (s : σ) (h0 : Inv s) : WA X (hh s) k sl pc (lo s) st := by
  have key : ∀ (n : Nat) (s : σ), μ s < n → Inv s → WA X (hh s) k sl pc (lo s) st := by
    intro n
    induction n with
    | zero => intro s h; exact absurd h (Nat.not_lt_zero _)
    | succ n ih => intro s h hi; exact step s hi (fun s' hi' hm => ih s' (by omega) hi')
  exact key _ s (Nat.lt_succ_self _) h0
end LY4
