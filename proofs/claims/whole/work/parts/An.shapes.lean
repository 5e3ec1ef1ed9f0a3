/-! The mathematics: counting by shapes, and by sets, is the same -/
section An
variable {e : Nat} {rk : Nat → Nat}
theorem sumI_app (a : Nat → Int) (m : Nat) : ∀ n, sumI a (m + n) = sumI a m + sumI (fun i => a (m + i)) n := by
  intro n
  induction n with
  | zero => exact (Int.add_zero _).symm
  | succ n ih =>
    show sumI a (m + n) + a (m + n) = sumI a m + (sumI (fun i => a (m + i)) n + a (m + n))
    rw [ih, Int.add_assoc]
theorem sumI_drop {a : Nat → Int} {m n : Nat} (hm : m ≤ n) (h : ∀ i, i < m → a i = 0) : sumI a n = sumI (fun i => a (m + i)) (n - m) := by
  have q := sumI_app a m (n - m)
  rw [show m + (n - m) = n by omega, sumI_zero m h, Int.zero_add] at q
  exact q
theorem sumI_grid (a : Nat → Int) (b : Nat) : ∀ n, sumI a (n * b) = sumI (fun t => sumI (fun u => a (t * b + u)) b) n := by
  intro n
  induction n with
  | zero => rw [Nat.zero_mul]; rfl
  | succ n ih =>
    rw [Nat.add_mul, Nat.one_mul, sumI_app, ih]; rfl
theorem sumI_key {key : Nat → Nat} {F : Nat → Int} {K : Nat} : ∀ N, (∀ s, s < N → key s < K) → sumI (fun s => F (key s)) N = sumI (fun j => ((cnt (fun s => decide (key s = j)) N : Nat) : Int) * F j) K := by
  intro N
  induction N with
  | zero => intro _; exact (sumI_zero K (fun j _ => Int.zero_mul _)).symm
  | succ N ih =>
    intro h
    show sumI (fun s => F (key s)) N + F (key N) = _
    have e1 : sumI (fun j => ((cnt (fun s => decide (key s = j)) (N + 1) : Nat) : Int) * F j) K = sumI (fun j => ((cnt (fun s => decide (key s = j)) N : Nat) : Int) * F j) K + sumI (fun j => (if key N = j then 1 else 0) * F j) K := by
      rw [← sumI_add]
      refine sI_congr K (fun j _ => ?_)
      show ((cnt (fun s => decide (key s = j)) N + (if decide (key N = j) = true then 1 else 0) : Nat) : Int) * F j = _
      by_cases g : key N = j
      · rw [if_pos (decide_eq_true g), if_pos g, Int.natCast_add, Int.add_mul]; rfl
      · rw [if_neg (by rw [decide_eq_false g]; exact Bool.false_ne_true), if_neg g, Nat.add_zero, Int.zero_mul, Int.add_zero]
    rw [e1, ih (fun s hs => h s (by omega)), sumI_one (a := fun j => (if key N = j then (1 : Int) else 0) * F j) (h N (by omega)) (fun j _ hj => by
      show (if key N = j then (1 : Int) else 0) * F j = 0
      rw [if_neg (fun z => hj z.symm), Int.zero_mul])]
    show _ + F (key N) = _ + (if key N = key N then (1 : Int) else 0) * F (key N)
    rw [if_pos rfl, Int.one_mul]
/-- sums over the sets, by their lack and their excess -/
theorem sum_shapes (hM : Mtr e rk) (F : Nat → Nat → Int) : sumI (fun s => F (rk (2 ^ e - 1) - rk s) (bc s - rk s)) (2 ^ e) = sumI (fun t => sumI (fun u => ((shpN rk e (t * 11 + u) : Nat) : Int) * F t u) 11) 11 := by
  have hp := p2_pos e
  have dm : ∀ t u, u < 11 → (t * 11 + u) / 11 = t ∧ (t * 11 + u) % 11 = u := fun t u hu => by omega
  have k1 : ∀ s, s < 2 ^ e → rk (2 ^ e - 1) - rk s < 11 ∧ bc s - rk s < 11 := fun s hs => by
    have := hM.le10 (show 2 ^ e - 1 < 2 ^ e by omega)
    have := bc_le s
    omega
  have q := sumI_key (key := fun s => (rk (2 ^ e - 1) - rk s) * 11 + (bc s - rk s)) (F := fun j => F (j / 11) (j % 11)) (K := 11 * 11) (2 ^ e) (fun s hs => by
    have := k1 s hs
    show (rk (2 ^ e - 1) - rk s) * 11 + (bc s - rk s) < 11 * 11
    omega)
  rw [sumI_grid] at q
  rw [sI_congr (b := fun s => F (((rk (2 ^ e - 1) - rk s) * 11 + (bc s - rk s)) / 11) (((rk (2 ^ e - 1) - rk s) * 11 + (bc s - rk s)) % 11)) (2 ^ e) (fun s hs => by
    obtain ⟨d1, d2⟩ := dm (rk (2 ^ e - 1) - rk s) (bc s - rk s) (k1 s hs).2
    rw [d1, d2]), q]
  exact sI_congr 11 (fun t ht => sI_congr 11 (fun u hu => by
    obtain ⟨d1, d2⟩ := dm t u hu
    show _ * F ((t * 11 + u) / 11) ((t * 11 + u) % 11) = _
    rw [d1, d2]; rfl))
theorem valM_sum {x y : Int} : ∀ n, valM rk e x y n = sumI (fun s => ipow (x - 1) (rk (2 ^ e - 1) - rk s) * ipow (y - 1) (bc s - rk s)) n := by
  intro n
  induction n with
  | zero => rfl
  | succ n ih =>
    show valM rk e x y n + _ = sumI _ n + _
    rw [ih]
theorem value_same (hM : Mtr e rk) (x y : Int) : valN (shpN rk e) x y = valM rk e x y (2 ^ e) := by
  rw [valM_sum, sum_shapes hM (fun t u => ipow (x - 1) t * ipow (y - 1) u)]
  rfl
theorem inp_pp : ∀ t, t < 11 → ∀ x, x < 11 → inpN t x = if t < x then 0 else ppN t x := by decide +kernel
theorem cofM_sum {x y : Nat} : ∀ n, cofM rk e x y n = sumI (fun s => inpN (rk (2 ^ e - 1) - rk s) x * inpN (bc s - rk s) y) n := by
  intro n
  induction n with
  | zero => rfl
  | succ n ih =>
    show cofM rk e x y n + _ = sumI _ n + _
    rw [ih]
theorem coefficient_same (hM : Mtr e rk) {x y : Nat} (hx : x ≤ 10) (hy : y ≤ 10) : coefN (shpN rk e) x y = cofM rk e x y (2 ^ e) := by
  rw [cofM_sum, sum_shapes hM (fun t u => inpN t x * inpN u y)]
  have zx : ∀ t, t < x → inpN t x = 0 := fun t ht => by rw [inp_pp t (by omega) x (by omega), if_pos ht]
  have zy : ∀ t, t < y → inpN t y = 0 := fun t ht => by rw [inp_pp t (by omega) y (by omega), if_pos ht]
  rw [sumI_drop (m := x) (by omega) (fun t ht => sumI_zero 11 (fun u _ => by rw [zx t ht, Int.zero_mul, Int.mul_zero]))]
  unfold coefN
  refine sI_congr _ (fun t ht => ?_)
  refine Eq.trans ?_ (sumI_drop (m := y) (by omega) (fun u hu => by rw [zy u hu, Int.mul_zero, Int.mul_zero])).symm
  refine sI_congr _ (fun u hu => ?_)
  rw [inp_pp (x + t) (by omega) x (by omega), if_neg (by omega), inp_pp (y + u) (by omega) y (by omega), if_neg (by omega), Int.mul_assoc]
theorem othM_sum {t : Nat} : ∀ n, othM rk e t n = sumI (fun s => if rk (2 ^ e - 1) - rk s = t then (if bc s % 2 = 0 then 1 else -1) else 0) n := by
  intro n
  induction n with
  | zero => rfl
  | succ n ih =>
    show othM rk e t n + _ = sumI _ n + _
    rw [ih]
theorem tmd2 (a : Int) : a.tmod 2 = 0 ↔ a % 2 = 0 := by
  rw [← Int.dvd_iff_emod_eq_zero, ← Int.dvd_iff_tmod_eq_zero]
theorem other_same (hM : Mtr e rk) {t : Nat} (ht : t ≤ 10) : othN (shpN rk e) (rk (2 ^ e - 1)) t = othM rk e t (2 ^ e) := by
  have hp := p2_pos e
  have g := sum_shapes hM (fun t' (u : Nat) => if t' = t then (if ((rk (2 ^ e - 1) : Int) - t + u) % 2 = 0 then 1 else -1) else 0)
  rw [othM_sum]
  rw [sI_congr (b := fun s => (fun t' (u : Nat) => if t' = t then (if ((rk (2 ^ e - 1) : Int) - t + u) % 2 = 0 then (1 : Int) else -1) else 0) (rk (2 ^ e - 1) - rk s) (bc s - rk s)) (2 ^ e) (fun s hs => by
    show (if rk (2 ^ e - 1) - rk s = t then (if bc s % 2 = 0 then (1 : Int) else -1) else 0) = (if rk (2 ^ e - 1) - rk s = t then (if ((rk (2 ^ e - 1) : Int) - t + ((bc s - rk s : Nat) : Int)) % 2 = 0 then 1 else -1) else 0)
    by_cases z : rk (2 ^ e - 1) - rk s = t
    · rw [if_pos z, if_pos z]
      have l1 := hM.le_bc hs
      have l2 := hM.le_all hs
      by_cases y : bc s % 2 = 0
      · rw [if_pos y, if_pos (by omega)]
      · rw [if_neg y, if_neg (by omega)]
    · rw [if_neg z, if_neg z]), g]
  rw [sumI_one (k := t) (by omega) (fun t' _ h => sumI_zero 11 (fun u _ => by
    show _ * (if t' = t then _ else (0 : Int)) = 0
    rw [if_neg h, Int.mul_zero]))]
  unfold othN
  refine sI_congr 11 (fun u _ => ?_)
  show _ = ((shpN rk e (t * 11 + u) : Nat) : Int) * (if t = t then (if ((rk (2 ^ e - 1) : Int) - t + u) % 2 = 0 then 1 else -1) else 0)
  rw [if_pos rfl]
  by_cases z : ((rk (2 ^ e - 1) : Int) - t + u) % 2 = 0
  · rw [if_pos ((tmd2 _).mpr z), if_pos z, Int.mul_one]
  · rw [if_neg (fun y => z ((tmd2 _).mp y)), if_neg z]; omega
theorem sumI_bool {p : Nat → Bool} : ∀ n, sumI (fun s => if p s = true then 1 else 0) n = ((cnt p n : Nat) : Int) := by
  intro n
  induction n with
  | zero => rfl
  | succ n ih =>
    show sumI _ n + (if p n = true then 1 else 0) = ((cnt p n + (if p n = true then 1 else 0) : Nat) : Int)
    rw [ih]
    split <;> rfl
theorem ipow_0 (n : Nat) : ipow 0 n = if n = 0 then 1 else 0 := by
  cases n with
  | zero => rfl
  | succ n => show ipow 0 n * 0 = _; rw [Int.mul_zero, if_neg (by omega)]
theorem ipow_1 : ∀ n, ipow 1 n = 1 := by
  intro n
  induction n with
  | zero => rfl
  | succ n ih => show ipow 1 n * 1 = 1; rw [ih]; rfl
theorem sumI_ones : ∀ n, sumI (fun _ => 1) n = (n : Int) := by
  intro n
  induction n with
  | zero => rfl
  | succ n ih => show sumI _ n + 1 = _; rw [ih]; rfl
theorem val_22 (hM : Mtr e rk) : valN (shpN rk e) 2 2 = ((2 ^ e : Nat) : Int) := by
  rw [value_same hM, valM_sum, ← sumI_ones (2 ^ e)]
  exact sI_congr _ (fun s _ => by rw [show (2 : Int) - 1 = 1 from rfl, ipow_1, ipow_1]; rfl)
theorem val_21 (hM : Mtr e rk) : valN (shpN rk e) 2 1 = ((cnt (fun s => sortN rk e s &&& 1 != 0) (2 ^ e) : Nat) : Int) := by
  rw [value_same hM, valM_sum, ← sumI_bool]
  refine sI_congr _ (fun s hs => ?_)
  have l1 := hM.le_bc hs
  rw [show (2 : Int) - 1 = 1 from rfl, show (1 : Int) - 1 = 0 from rfl, ipow_1, ipow_0, Int.one_mul]
  by_cases z : (sortN rk e s &&& 1 != 0) = true
  · rw [if_pos z, if_pos (by have := srt_ind.mp z; omega)]
  · rw [if_neg z, if_neg (fun y => z (srt_ind.mpr (by omega)))]
theorem val_11 (hM : Mtr e rk) : valN (shpN rk e) 1 1 = ((cnt (fun s => sortN rk e s &&& 2 != 0) (2 ^ e) : Nat) : Int) := by
  rw [value_same hM, valM_sum, ← sumI_bool]
  refine sI_congr _ (fun s hs => ?_)
  have l1 := hM.le_bc hs
  have l2 := hM.le_all hs
  rw [show (1 : Int) - 1 = 0 from rfl, ipow_0, ipow_0]
  by_cases z : (sortN rk e s &&& 2 != 0) = true
  · have := srt_bas.mp z
    rw [if_pos z, if_pos (by omega), if_pos (by omega)]; rfl
  · rw [if_neg z]
    by_cases y : rk (2 ^ e - 1) - rk s = 0
    · rw [if_neg (show ¬ bc s - rk s = 0 from fun x => z (srt_bas.mpr (by omega))), Int.mul_zero]
    · rw [if_neg y, Int.zero_mul]
end An
