/-! numbers and sets of bits -/
def jI (z : Int) : Int32 := Int32.ofInt z
theorem nI_jI (n : Nat) : nI n = jI (n : Int) := rfl
theorem jI_add (a b : Int) : jI a + jI b = jI (a + b) := (Int32.ofInt_add a b).symm
theorem jI_sub (a b : Int) : jI a - jI b = jI (a - b) := (Int32.ofInt_sub a b).symm
theorem jI_mul (a b : Int) : jI a * jI b = jI (a * b) := (Int32.ofInt_mul a b).symm
theorem jI_neg (a : Int) : -jI a = jI (-a) := (Int32.ofInt_neg a).symm
theorem jI_toInt {z : Int} (h1 : -2147483648 ≤ z) (h2 : z < 2147483648) : (jI z).toInt = z := Int32.toInt_ofInt_of_le h1 h2
theorem jI_of (a : Int32) : a = jI a.toInt := (Int32.ofInt_toInt a).symm
theorem jI_lt {a b : Int} (h1 : -2147483648 ≤ a) (h2 : a < 2147483648) (h3 : -2147483648 ≤ b) (h4 : b < 2147483648) : (jI a < jI b) = (a < b) := by
  rw [Int32.lt_iff_toInt_lt, jI_toInt h1 h2, jI_toInt h3 h4]
theorem jI_le {a b : Int} (h1 : -2147483648 ≤ a) (h2 : a < 2147483648) (h3 : -2147483648 ≤ b) (h4 : b < 2147483648) : (jI a ≤ jI b) = (a ≤ b) := by
  rw [Int32.le_iff_toInt_le, jI_toInt h1 h2, jI_toInt h3 h4]
theorem jI_eq {a b : Int} (h1 : -2147483648 ≤ a) (h2 : a < 2147483648) (h3 : -2147483648 ≤ b) (h4 : b < 2147483648) : (jI a = jI b) = (a = b) := by
  rw [← Int32.toInt_inj, jI_toInt h1 h2, jI_toInt h3 h4]
theorem nI_bv (n : Nat) : (nI n).toBitVec = BitVec.ofNat 32 n := rfl
theorem nI_and (a b : Nat) : nI a &&& nI b = nI (a &&& b) := by
  apply Int32.toBitVec_inj.mp
  rw [Int32.toBitVec_and, nI_bv, nI_bv, nI_bv, BitVec.ofNat_and]
theorem nI_or (a b : Nat) : nI a ||| nI b = nI (a ||| b) := by
  apply Int32.toBitVec_inj.mp
  rw [Int32.toBitVec_or, nI_bv, nI_bv, nI_bv, BitVec.ofNat_or]
def nd (a b : Nat) : Nat := a ^^^ (a &&& b)
theorem nd_bit (a b i : Nat) : (nd a b).testBit i = (a.testBit i && !b.testBit i) := by
  unfold nd
  rw [Nat.testBit_xor, Nat.testBit_and]
  cases a.testBit i <;> cases b.testBit i <;> rfl
theorem nI_nd (a b : Nat) : nI a &&& (nI b ^^^ (-1)) = nI (nd a b) := by
  apply Int32.toBitVec_inj.mp
  rw [Int32.toBitVec_and, Int32.toBitVec_xor, nI_bv, nI_bv, nI_bv, nd, BitVec.ofNat_xor, BitVec.ofNat_and]
  have : (-1 : Int32).toBitVec = BitVec.allOnes 32 := by decide
  rw [this]
  apply BitVec.eq_of_getLsbD_eq
  intro i hi
  simp only [BitVec.getLsbD_and, BitVec.getLsbD_xor, BitVec.getLsbD_allOnes, hi, decide_true]
  cases (BitVec.ofNat 32 a).getLsbD i <;> cases (BitVec.ofNat 32 b).getLsbD i <;> rfl
theorem nI_ndo (a b d : Nat) : nI a &&& ((nI b ^^^ (-1)) ||| nI d) = nI (nd a b ||| (a &&& d)) := by
  have : nI a &&& ((nI b ^^^ (-1)) ||| nI d) = (nI a &&& (nI b ^^^ (-1))) ||| (nI a &&& nI d) := by
    apply Int32.toBitVec_inj.mp
    simp only [Int32.toBitVec_and, Int32.toBitVec_or]
    apply BitVec.eq_of_getLsbD_eq
    intro i hi
    simp only [BitVec.getLsbD_and, BitVec.getLsbD_or]
    cases (nI a).toBitVec.getLsbD i <;> simp
  rw [this, nI_nd, nI_and, nI_or]
theorem sh_k : ∀ k, k < 32 → ((nI k &&& 31).toBitVec.smod 32).toNat = k := by decide +kernel
theorem nI_shr {n k : Nat} (h : n < 2 ^ 31) (hk : k < 32) : nI n >>> (nI k &&& 31) = nI (n / 2 ^ k) := pk_shrN h _ k (sh_k k hk)
theorem nI_shl {n k : Nat} (hk : k < 32) (h : n * 2 ^ k < 2 ^ 32) : nI n <<< (nI k &&& 31) = nI (n * 2 ^ k) := pk_shlN _ k (sh_k k hk) h
def jbt (n k : Nat) : Nat := if n.testBit k then 1 else 0
theorem jbt_eq (n k : Nat) : n / 2 ^ k % 2 = jbt n k := by
  unfold jbt
  rw [Nat.testBit_eq_decide_div_mod_eq]
  have := Nat.mod_two_eq_zero_or_one (n / 2 ^ k)
  rcases this with h | h <;> simp [h]
theorem jbt_le (n k : Nat) : jbt n k ≤ 1 := by unfold jbt; split <;> omega
theorem nI_bit {n k : Nat} (h : n < 2 ^ 31) (hk : k < 32) : nI n >>> (nI k &&& 31) &&& nI 1 = nI (jbt n k) := by
  rw [nI_shr h hk, nI_and, show n / 2 ^ k &&& 1 = n / 2 ^ k % 2 by simpa using Nat.and_two_pow_sub_one_eq_mod (n / 2 ^ k) 1, jbt_eq]
theorem jbt_1 (n k : Nat) : (jbt n k = 1) = (n.testBit k = true) := by
  unfold jbt; cases n.testBit k <;> simp
theorem jbt_0 (n k : Nat) : (jbt n k = 0) = (n.testBit k = false) := by
  unfold jbt; cases n.testBit k <;> simp
theorem nI_all {n : Nat} (h : n ≤ 12) : nI 1 <<< (nI n &&& 31) - nI 1 = nI (2 ^ n - 1) := by
  have h2 : 2 ^ n ≤ 2 ^ 12 := Nat.pow_le_pow_right (by decide) h
  rw [nI_shl (by omega) (by omega), Nat.one_mul, jsub_nI (Nat.one_le_two_pow)]
/-- a set by its members below n -/
def bset (p : Nat → Bool) : Nat → Nat
  | 0 => 0
  | n + 1 => bset p n + if p n then 2 ^ n else 0
theorem bset_lt (p : Nat → Bool) : ∀ n, bset p n < 2 ^ n
  | 0 => by simp [bset]
  | n + 1 => by
    have := bset_lt p n
    unfold bset
    rw [Nat.pow_succ]
    split <;> omega
theorem bset_bit (p : Nat → Bool) : ∀ n i, (bset p n).testBit i = (decide (i < n) && p i)
  | 0, i => by simp [bset]
  | n + 1, i => by
    have hl := bset_lt p n
    have ih := bset_bit p n i
    unfold bset
    by_cases hp : p n = true
    · rw [if_pos hp, Nat.add_comm]
      by_cases hi : i = n
      · subst hi
        rw [Nat.testBit_two_pow_add_eq, ih]
        simp [hp]
      · rcases Nat.lt_or_ge i n with h | h
        · rw [Nat.testBit_two_pow_add_gt h, ih]
          simp [h, Nat.lt_succ_of_lt h]
        · rw [Nat.testBit_lt_two_pow]
          · simp; omega
          · have : 2 ^ (n + 1) ≤ 2 ^ i := Nat.pow_le_pow_right (by decide) (by omega)
            rw [Nat.pow_succ] at this
            omega
    · rw [if_neg hp, Nat.add_zero, ih]
      by_cases hi : i = n
      · subst hi; simp [hp]
      · rw [show decide (i < n + 1) = decide (i < n) by rw [decide_eq_decide]; omega]
theorem bits_eq {a b n : Nat} (ha : a < 2 ^ n) (hb : b < 2 ^ n) (h : ∀ i, i < n → a.testBit i = b.testBit i) : a = b := by
  apply Nat.eq_of_testBit_eq
  intro i
  rcases Nat.lt_or_ge i n with q | q
  · exact h i q
  · rw [Nat.testBit_lt_two_pow (Nat.lt_of_lt_of_le ha (Nat.pow_le_pow_right (by decide) q)), Nat.testBit_lt_two_pow (Nat.lt_of_lt_of_le hb (Nat.pow_le_pow_right (by decide) q))]
theorem all_bit (n i : Nat) : (2 ^ n - 1).testBit i = decide (i < n) := Nat.testBit_two_pow_sub_one n i
/-- how many below n -/
def cnt (p : Nat → Bool) : Nat → Nat
  | 0 => 0
  | n + 1 => cnt p n + if p n then 1 else 0
theorem cnt_le (p : Nat → Bool) : ∀ n, cnt p n ≤ n
  | 0 => Nat.le_refl _
  | n + 1 => by have := cnt_le p n; unfold cnt; split <;> omega
theorem cnt_cong {p q : Nat → Bool} : ∀ {n : Nat}, (∀ k, k < n → p k = q k) → cnt p n = cnt q n
  | 0, _ => rfl
  | n + 1, h => by unfold cnt; rw [cnt_cong (fun k hk => h k (by omega)), h n (by omega)]
theorem jp_onesL_eq {a : Nat} (ha : a < 2 ^ 31) : ∀ k, k ≤ 12 → jp_onesL (nI a) k = nI (cnt (fun i => a.testBit i) k)
  | 0, _ => rfl
  | k + 1, h => by
    unfold jp_onesL cnt
    rw [jp_onesL_eq ha k (by omega), nI_bit ha (by omega), ja_nI]
    rfl
theorem jp_ones_eq {a : Nat} (ha : a < 2 ^ 31) : jp_ones (nI a) = nI (cnt (fun i => a.testBit i) 12) := jp_onesL_eq ha 12 (Nat.le_refl _)
