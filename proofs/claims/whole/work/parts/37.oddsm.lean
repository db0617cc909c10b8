/-! ODDS: the numbers -/
def sumN (f : Nat → Nat) : Nat → Nat
  | 0 => 0
  | n + 1 => sumN f n + f n
theorem sumN_cong {f g : Nat → Nat} : ∀ {n : Nat}, (∀ k, k < n → f k = g k) → sumN f n = sumN g n
  | 0, _ => rfl
  | n + 1, h => by unfold sumN; rw [sumN_cong (fun k hk => h k (by omega)), h n (by omega)]
theorem sumN_split (f : Nat → Nat) (m : Nat) : ∀ n, sumN f (m + n) = sumN f m + sumN (fun k => f (m + k)) n
  | 0 => rfl
  | n + 1 => by
    show sumN f (m + n) + f (m + n) = _
    rw [sumN_split f m n]
    show _ = sumN f m + (sumN (fun k => f (m + k)) n + f (m + n))
    omega
theorem sumN_mul (c : Nat) (f : Nat → Nat) : ∀ n, sumN (fun k => c * f k) n = c * sumN f n
  | 0 => rfl
  | n + 1 => by unfold sumN; rw [sumN_mul c f n, Nat.mul_add]
theorem sumN_add (f g : Nat → Nat) : ∀ n, sumN (fun k => f k + g k) n = sumN f n + sumN g n
  | 0 => rfl
  | n + 1 => by unfold sumN; rw [sumN_add f g n]; omega
theorem sumN_le {f g : Nat → Nat} (h : ∀ k, f k ≤ g k) : ∀ n, sumN f n ≤ sumN g n
  | 0 => Nat.le_refl _
  | n + 1 => by have := sumN_le h n; have := h n; unfold sumN; omega
/-- the weight of a set of sleepers: of all, of those who should play -/
def wt8 (p S : Nat) : Nat → Nat
  | 0 => 1
  | n + 1 => wt8 p S n * (if S.testBit n then p else 10 - p)
def wt9 (p D S : Nat) : Nat → Nat
  | 0 => 1
  | n + 1 => wt9 p D S n * (if D.testBit n then (if S.testBit n then p else 10 - p) else 1)
theorem tb_lo {n S i : Nat} (hi : i < n) : (2 ^ n + S).testBit i = S.testBit i := Nat.testBit_two_pow_add_gt hi S
theorem tb_hi {n S : Nat} (h : S < 2 ^ n) : (2 ^ n + S).testBit n = true := by
  rw [Nat.testBit_two_pow_add_eq, Nat.testBit_lt_two_pow h]; rfl
theorem wt8_hi (p : Nat) {N S : Nat} : ∀ {n : Nat}, n ≤ N → wt8 p (2 ^ N + S) n = wt8 p S n
  | 0, _ => rfl
  | n + 1, h => by unfold wt8; rw [wt8_hi p (by omega), tb_lo (by omega)]
theorem wt9_hi (p D : Nat) {N S : Nat} : ∀ {n : Nat}, n ≤ N → wt9 p D (2 ^ N + S) n = wt9 p D S n
  | 0, _ => rfl
  | n + 1, h => by unfold wt9; rw [wt9_hi p D (by omega), tb_lo (by omega)]
/-- S has none but members of D -/
def inD (D S : Nat) : Bool := decide (nd S D = 0)
theorem inD_bit {D S : Nat} : inD D S = true ↔ ∀ i, S.testBit i = true → D.testBit i = true := by
  unfold inD
  rw [decide_eq_true_eq]
  constructor
  · intro h i hi
    have : (nd S D).testBit i = false := by rw [h, Nat.zero_testBit]
    rw [nd_bit, hi] at this
    simpa using this
  · intro h
    apply Nat.eq_of_testBit_eq
    intro i
    rw [nd_bit, Nat.zero_testBit]
    cases e : S.testBit i
    · rfl
    · rw [h i e]; rfl
theorem inD_hi {D n S : Nat} (h : S < 2 ^ n) : inD D (2 ^ n + S) = (D.testBit n && inD D S) := by
  have key : ∀ i, (2 ^ n + S).testBit i = (decide (i = n) || S.testBit i) := by
    intro i
    by_cases e : i = n
    · rw [e, tb_hi h]; simp
    · rcases Nat.lt_or_ge i n with q | q
      · rw [tb_lo q]; simp [e]
      · have hlt : 2 ^ n + S < 2 ^ i := by
          have : 2 ^ (n + 1) ≤ 2 ^ i := Nat.pow_le_pow_right (by decide) (by omega)
          rw [Nat.pow_succ] at this
          omega
        rw [Nat.testBit_lt_two_pow hlt, Nat.testBit_lt_two_pow (by omega)]; simp [e]
  rw [Bool.eq_iff_iff, Bool.and_eq_true, inD_bit, inD_bit]
  constructor
  · intro q
    exact ⟨q n (by rw [key]; simp), fun i hi => q i (by rw [key, hi]; simp)⟩
  · rintro ⟨q1, q2⟩ i hi
    rw [key] at hi
    by_cases e : i = n
    · rw [e]; exact q1
    · exact q2 i (by simpa [e] using hi)
def U8 (p : Nat) (g : Nat → Nat) (n : Nat) : Nat := sumN (fun S => wt8 p S n * g S) (2 ^ n)
def U9 (p D : Nat) (g : Nat → Nat) (n : Nat) : Nat := sumN (fun S => if inD D S then wt9 p D S n * g S else 0) (2 ^ n)
theorem U8_s (p : Nat) (g : Nat → Nat) (n : Nat) : U8 p g (n + 1) = (10 - p) * U8 p g n + p * U8 p (fun S => g (2 ^ n + S)) n := by
  unfold U8
  rw [Nat.pow_succ, Nat.mul_two, sumN_split, ← sumN_mul, ← sumN_mul]
  congr 1
  · refine sumN_cong fun S hS => ?_
    show wt8 p S n * (if S.testBit n then p else 10 - p) * g S = _
    rw [if_neg (by rw [Nat.testBit_lt_two_pow hS]; decide)]
    rw [Nat.mul_comm (wt8 p S n), Nat.mul_assoc]
  · refine sumN_cong fun S hS => ?_
    show wt8 p (2 ^ n + S) n * (if (2 ^ n + S).testBit n then p else 10 - p) * g (2 ^ n + S) = _
    rw [if_pos (tb_hi hS), wt8_hi p (Nat.le_refl _)]
    rw [Nat.mul_comm (wt8 p S n), Nat.mul_assoc]
theorem U9_s (p D : Nat) (g : Nat → Nat) (n : Nat) : U9 p D g (n + 1) = if D.testBit n then (10 - p) * U9 p D g n + p * U9 p D (fun S => g (2 ^ n + S)) n else U9 p D g n := by
  unfold U9
  rw [Nat.pow_succ, Nat.mul_two, sumN_split]
  by_cases hD : D.testBit n = true
  · rw [if_pos hD, ← sumN_mul, ← sumN_mul]
    congr 1
    · refine sumN_cong fun S hS => ?_
      by_cases hi : inD D S = true
      · rw [if_pos hi, if_pos hi]
        show wt9 p D S n * (if D.testBit n then (if S.testBit n then p else 10 - p) else 1) * g S = _
        rw [if_pos hD, if_neg (by rw [Nat.testBit_lt_two_pow hS]; decide), Nat.mul_comm (wt9 p D S n), Nat.mul_assoc]
      · rw [if_neg hi, if_neg hi, Nat.mul_zero]
    · refine sumN_cong fun S hS => ?_
      rw [inD_hi hS, hD, Bool.true_and]
      by_cases hi : inD D S = true
      · rw [if_pos hi, if_pos hi]
        show wt9 p D (2 ^ n + S) n * (if D.testBit n then (if (2 ^ n + S).testBit n then p else 10 - p) else 1) * g (2 ^ n + S) = _
        rw [if_pos hD, if_pos (tb_hi hS), wt9_hi p D (Nat.le_refl _), Nat.mul_comm (wt9 p D S n), Nat.mul_assoc]
      · rw [if_neg hi, if_neg hi, Nat.mul_zero]
  · rw [if_neg hD]
    have z : sumN (fun k => if inD D (2 ^ n + k) = true then wt9 p D (2 ^ n + k) (n + 1) * g (2 ^ n + k) else 0) (2 ^ n) = 0 := by
      have : ∀ m, m ≤ 2 ^ n → sumN (fun k => if inD D (2 ^ n + k) = true then wt9 p D (2 ^ n + k) (n + 1) * g (2 ^ n + k) else 0) m = 0 := by
        intro m
        induction m with
        | zero => intro _; rfl
        | succ m ih =>
          intro hm
          unfold sumN
          rw [ih (by omega), if_neg]
          rw [inD_hi (by omega)]
          simp [hD]
      exact this _ (Nat.le_refl _)
    rw [z, Nat.add_zero]
    refine sumN_cong fun S hS => ?_
    by_cases hi : inD D S = true
    · rw [if_pos hi, if_pos hi]
      show wt9 p D S n * (if D.testBit n then (if S.testBit n then p else 10 - p) else 1) * g S = _
      rw [if_neg hD, Nat.mul_one]
    · rw [if_neg hi, if_neg hi]
/-- who should not play changes nothing -/
def gInv (D n : Nat) (g : Nat → Nat) : Prop := ∀ m S, m < n → D.testBit m = false → S < 2 ^ n → S.testBit m = false → g (S + 2 ^ m) = g S
theorem U89 (p D : Nat) (hp : p ≤ 10) : ∀ (n : Nat) (g : Nat → Nat), gInv D n g → U8 p g n = 10 ^ cnt (fun m => !D.testBit m) n * U9 p D g n
  | 0, g, _ => by
    have : inD D 0 = true := inD_bit.mpr (fun i hi => by rw [Nat.zero_testBit] at hi; cases hi)
    show 0 + 1 * g 0 = 1 * (0 + if inD D 0 = true then 1 * g 0 else 0)
    rw [if_pos this]; omega
  | n + 1, g, hg => by
    have h1 : gInv D n g := fun m S hm hD hS hb => hg m S (by omega) hD (by rw [Nat.pow_succ]; omega) hb
    have h2 : gInv D n (fun S => g (2 ^ n + S)) := fun m S hm hD hS hb => by
      have := hg m (2 ^ n + S) (by omega) hD (by rw [Nat.pow_succ]; omega) (by rw [tb_lo hm]; exact hb)
      show g (2 ^ n + (S + 2 ^ m)) = g (2 ^ n + S)
      rw [← Nat.add_assoc]; exact this
    rw [U8_s, U9_s, U89 p D hp n g h1, U89 p D hp n _ h2]
    rw [show cnt (fun m => !D.testBit m) (n + 1) = cnt (fun m => !D.testBit m) n + if (!D.testBit n) = true then 1 else 0 from rfl]
    by_cases hD : D.testBit n = true
    · rw [if_pos hD, if_neg (by simp [hD]), Nat.add_zero, Nat.mul_add, ← Nat.mul_assoc, ← Nat.mul_assoc, ← Nat.mul_assoc, ← Nat.mul_assoc, Nat.mul_comm (10 - p), Nat.mul_comm p]
    · rw [if_neg hD, if_pos (by simp [hD])]
      have e : U9 p D (fun S => g (2 ^ n + S)) n = U9 p D g n := by
        unfold U9
        refine sumN_cong fun S hS => ?_
        have := hg n S (by omega) (by simpa using hD) (by rw [Nat.pow_succ]; omega) (Nat.testBit_lt_two_pow hS)
        show (if inD D S = true then wt9 p D S n * g (2 ^ n + S) else 0) = _
        rw [Nat.add_comm (2 ^ n) S, this]
      rw [e, ← Nat.add_mul, show 10 - p + p = 10 by omega, Nat.pow_succ, Nat.mul_comm _ 10, Nat.mul_assoc]
theorem U8_one (p : Nat) (hp : p ≤ 10) : ∀ n, U8 p (fun _ => 1) n = 10 ^ n
  | 0 => rfl
  | n + 1 => by rw [U8_s, U8_one p hp n, ← Nat.add_mul, show 10 - p + p = 10 by omega, Nat.pow_succ, Nat.mul_comm]
