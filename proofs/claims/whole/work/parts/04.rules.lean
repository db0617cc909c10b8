/-! The machine's instructions as transformers of predicates, and a rule for each. -/
abbrev jm_K : Type := jm_S → Prop
def jm_nth : List (Option jm_V) → Nat → Option jm_V
  | [], _ => none
  | a :: _, 0 => a
  | _ :: l, n + 1 => jm_nth l n
def jm_put : List (Option jm_V) → Nat → jm_V → List (Option jm_V)
  | [], _, _ => []
  | _ :: l, 0, v => some v :: l
  | a :: l, n + 1, v => a :: jm_put l n v
theorem jm_nth_get : ∀ (l : List (Option jm_V)) (i : Nat) (v : jm_V), jm_nth l i = some v → l[i]? = some (some v)
  | [], _, _, h => by simp [jm_nth] at h
  | a :: _, 0, v, h => by simp only [jm_nth] at h; rw [List.getElem?_cons_zero, h]
  | _ :: l, n + 1, v, h => by simp only [jm_nth] at h; rw [List.getElem?_cons_succ]; exact jm_nth_get l n v h
theorem jm_put_get : ∀ (l : List (Option jm_V)) (i : Nat) (v : jm_V) (j : Nat) (w : jm_V), (jm_put l i v)[j]? = some (some w) → (j = i ∧ w = v) ∨ (j ≠ i ∧ l[j]? = some (some w))
  | [], _, _, j, w, h => by simp [jm_put] at h
  | a :: l, 0, v, j, w, h => by
    cases j with
    | zero => rw [jm_put, List.getElem?_cons_zero] at h; cases h; exact Or.inl ⟨rfl, rfl⟩
    | succ j => rw [jm_put, List.getElem?_cons_succ] at h; exact Or.inr ⟨Nat.succ_ne_zero j, by rw [List.getElem?_cons_succ]; exact h⟩
  | a :: l, n + 1, v, j, w, h => by
    cases j with
    | zero => rw [jm_put, List.getElem?_cons_zero] at h; exact Or.inr ⟨fun e => (by cases e), by rw [List.getElem?_cons_zero]; exact h⟩
    | succ j =>
      rw [jm_put, List.getElem?_cons_succ] at h
      rcases jm_put_get l n v j w h with ⟨h1, h2⟩ | ⟨h1, h2⟩
      · exact Or.inl ⟨by rw [h1], h2⟩
      · exact Or.inr ⟨fun e => h1 (Nat.succ.inj e), by rw [List.getElem?_cons_succ]; exact h2⟩
-- transformers
def jm_ic (v : Int32) (K : jm_K) : jm_K
  | (ls, st, μ) => K (ls, .inl v :: st, μ)
def jm_lc (v : Int64) (K : jm_K) : jm_K
  | (ls, st, μ) => K (ls, .inr (.inl v) :: st, μ)
def jm_il2 (K : jm_K) (ls : List (Option jm_V)) (st : List jm_V) (μ : jm_M) : Option jm_V → Prop
  | some (.inl v) => K (ls, .inl v :: st, μ)
  | _ => False
def jm_il (i : Nat) (K : jm_K) : jm_K
  | (ls, st, μ) => jm_il2 K ls st μ (jm_nth ls i)
def jm_al2 (K : jm_K) (ls : List (Option jm_V)) (st : List jm_V) (μ : jm_M) : Option jm_V → Prop
  | some (.inr (.inr r)) => K (ls, .inr (.inr r) :: st, μ)
  | _ => False
def jm_al (i : Nat) (K : jm_K) : jm_K
  | (ls, st, μ) => jm_al2 K ls st μ (jm_nth ls i)
def jm_is (i : Nat) (K : jm_K) : jm_K
  | (ls, .inl v :: st, μ) => K (jm_put ls i (.inl v), st, μ)
  | _ => False
def jm_as (i : Nat) (K : jm_K) : jm_K
  | (ls, .inr (.inr r) :: st, μ) => K (jm_put ls i (.inr (.inr r)), st, μ)
  | _ => False
def jm_inc2 (K : jm_K) (i : Nat) (n : Int32) (ls : List (Option jm_V)) (st : List jm_V) (μ : jm_M) : Option jm_V → Prop
  | some (.inl v) => K (jm_put ls i (.inl (v + n)), st, μ)
  | _ => False
def jm_inc (i : Nat) (n : Int32) (K : jm_K) : jm_K
  | (ls, st, μ) => jm_inc2 K i n ls st μ (jm_nth ls i)
def jm_bin (f : Int32 → Int32 → Int32) (K : jm_K) : jm_K
  | (ls, .inl y :: .inl x :: st, μ) => K (ls, .inl (f x y) :: st, μ)
  | _ => False
def jm_neg (K : jm_K) : jm_K
  | (ls, .inl x :: st, μ) => K (ls, .inl (-x) :: st, μ)
  | _ => False
def jm_div (K : jm_K) : jm_K
  | (ls, .inl y :: .inl x :: st, μ) => ¬ y = 0 ∧ K (ls, .inl (x / y) :: st, μ)
  | _ => False
def jm_rem (K : jm_K) : jm_K
  | (ls, .inl y :: .inl x :: st, μ) => ¬ y = 0 ∧ K (ls, .inl (x - x / y * y) :: st, μ)
  | _ => False
def jm_ladd (K : jm_K) : jm_K
  | (ls, .inr (.inl y) :: .inr (.inl x) :: st, μ) => K (ls, .inr (.inl (x + y)) :: st, μ)
  | _ => False
def jm_i2c (K : jm_K) : jm_K
  | (ls, .inl x :: st, μ) => K (ls, .inl ((x.toUInt32 % 65536).toInt32) :: st, μ)
  | _ => False
def jm_dup (K : jm_K) : jm_K
  | (ls, .inl x :: st, μ) => K (ls, .inl x :: .inl x :: st, μ)
  | (ls, .inr (.inr x) :: st, μ) => K (ls, .inr (.inr x) :: .inr (.inr x) :: st, μ)
  | _ => False
def jm_dup2 (K : jm_K) : jm_K
  | (ls, .inl x :: .inr (.inr r) :: st, μ) => K (ls, .inl x :: .inr (.inr r) :: .inl x :: .inr (.inr r) :: st, μ)
  | _ => False
def jm_pop (K : jm_K) : jm_K
  | (ls, .inl _ :: st, μ) => K (ls, st, μ)
  | _ => False
/-- fields: of kind k, n cells of it, slot i -/
def jm_gI (k n i : Nat) (K : jm_K) : jm_K
  | (ls, .inr (.inr (a, j)) :: st, μ) => a = k ∧ j < n ∧ K (ls, .inl (μ.1 k j i) :: st, μ)
  | _ => False
def jm_gL (k n : Nat) (K : jm_K) : jm_K
  | (ls, .inr (.inr (a, j)) :: st, μ) => a = k ∧ j < n ∧ K (ls, .inr (.inl (μ.2 k)) :: st, μ)
  | _ => False
def jm_gR (k n k' : Nat) (K : jm_K) : jm_K
  | (ls, .inr (.inr (a, j)) :: st, μ) => a = k ∧ j < n ∧ K (ls, .inr (.inr (k', j)) :: st, μ)
  | _ => False
def jm_gC (k n k' j' : Nat) (K : jm_K) : jm_K
  | (ls, .inr (.inr (a, j)) :: st, μ) => a = k ∧ j < n ∧ K (ls, .inr (.inr (k', j')) :: st, μ)
  | _ => False
def jm_pI (k n i : Nat) (K : jm_K) : jm_K
  | (ls, .inl v :: .inr (.inr (a, j)) :: st, μ) => a = k ∧ j < n ∧ K (ls, st, jm_w1 μ k j i v)
  | _ => False
def jm_pZ (k n i : Nat) (K : jm_K) : jm_K
  | (ls, .inl v :: .inr (.inr (a, j)) :: st, μ) => a = k ∧ j < n ∧ (v = 0 ∨ v = 1) ∧ K (ls, st, jm_w1 μ k j i v)
  | _ => False
def jm_pL (k n : Nat) (K : jm_K) : jm_K
  | (ls, .inr (.inl v) :: .inr (.inr (a, j)) :: st, μ) => a = k ∧ j < n ∧ K (ls, st, jm_wl μ k v)
  | _ => False
def jm_gA (K : jm_K) : jm_K
  | (ls, st, μ) => K (ls, .inr (.inr (0, 0)) :: st, μ)
/-- an array of type t -/
def jm_aty (k : Nat) : Nat := match jm_kd k with
  | .inl a => a.1
  | _ => 9
abbrev jm_ar (t k j : Nat) : Prop := jm_aty k = t ∧ j < jm_cnt k
def jm_ald (t : Nat) (K : jm_K) : jm_K
  | (ls, .inl i :: .inr (.inr (k, j)) :: st, μ) => jm_ar t k j ∧ vp_in i (jm_len k) ∧ K (ls, .inl (μ.1 k j i.toNatClampNeg) :: st, μ)
  | _ => False
def jm_ast (t : Nat) (K : jm_K) : jm_K
  | (ls, .inl v :: .inl i :: .inr (.inr (k, j)) :: st, μ) => jm_ar t k j ∧ k ≠ 0 ∧ vp_in i (jm_len k) ∧ K (ls, st, jm_w1 μ k j i.toNatClampNeg (if t = 1 then vp_nar .char v else if t = 2 then vp_nar .boolean v else v))
  | _ => False
def jm_ra (k i : Nat) : Nat × Nat := match jm_kd k with
  | .inl (_, _, k', b) => (k', b + i)
  | _ => (0, 0)
def jm_aal (K : jm_K) : jm_K
  | (ls, .inl i :: .inr (.inr (k, j)) :: st, μ) => jm_ar 3 k j ∧ vp_in i (jm_len k) ∧ K (ls, .inr (.inr (jm_ra k i.toNatClampNeg)) :: st, μ)
  | _ => False
def jm_alen (K : jm_K) : jm_K
  | (ls, .inr (.inr (k, j)) :: st, μ) => jm_ar 0 k j ∧ K (ls, .inl (Int32.ofNat (jm_len k)) :: st, μ)
  | _ => False
def jm_sm : List jm_V → Nat
  | [] => 0
  | .inl _ :: l => 1 + jm_sm l
  | .inr (.inl _) :: l => 2 + jm_sm l
  | .inr (.inr _) :: l => 1 + jm_sm l
/-- all five of an array -/
def jm_cp (K : jm_K) : jm_K
  | (ls, .inl n :: .inl d :: .inr (.inr (k, j)) :: .inl s :: .inr (.inr (k0, j0)) :: st, μ) => n = 5 ∧ d = 0 ∧ s = 0 ∧ jm_ar 0 k j ∧ jm_ar 0 k0 j0 ∧ k ≠ 0 ∧ k0 ≠ 0 ∧ jm_len k = 5 ∧ jm_len k0 = 5 ∧ jm_sm st ≤ 8 ∧ K (ls, st, jm_wa μ k j (va_cpy (μ.1 k0 j0) (μ.1 k j) 0 0 5))
  | _ => False
/-- calls: C is the callee's contract -/
abbrev jm_Cc : Type := List jm_V → jm_M → (Option jm_V → jm_M → Prop) → Prop
def jm_c1 (C : jm_Cc) (K : jm_K) : jm_K
  | (ls, a :: st, μ) => jm_sm st ≤ 8 ∧ C [a] μ (fun r ν => K (ls, r.toList ++ st, ν))
  | _ => False
def jm_c2 (C : jm_Cc) (K : jm_K) : jm_K
  | (ls, b :: a :: st, μ) => jm_sm st ≤ 8 ∧ C [a, b] μ (fun r ν => K (ls, r.toList ++ st, ν))
  | _ => False
def jm_c3 (C : jm_Cc) (K : jm_K) : jm_K
  | (ls, c :: b :: a :: st, μ) => jm_sm st ≤ 8 ∧ C [a, b, c] μ (fun r ν => K (ls, r.toList ++ st, ν))
  | _ => False
def jm_v1 (k n : Nat) (C : jm_Cc) (K : jm_K) : jm_K
  | (ls, .inr (.inr (a, j)) :: st, μ) => a = k ∧ j < n ∧ jm_sm st ≤ 8 ∧ C [.inr (.inr (k, j))] μ (fun r ν => K (ls, r.toList ++ st, ν))
  | _ => False
def jm_v2 (k n : Nat) (C : jm_Cc) (K : jm_K) : jm_K
  | (ls, b :: .inr (.inr (a, j)) :: st, μ) => a = k ∧ j < n ∧ jm_sm st ≤ 8 ∧ C [.inr (.inr (k, j)), b] μ (fun r ν => K (ls, r.toList ++ st, ν))
  | _ => False
def jm_v3 (k n : Nat) (C : jm_Cc) (K : jm_K) : jm_K
  | (ls, c :: b :: .inr (.inr (a, j)) :: st, μ) => a = k ∧ j < n ∧ jm_sm st ≤ 8 ∧ C [.inr (.inr (k, j)), b, c] μ (fun r ν => K (ls, r.toList ++ st, ν))
  | _ => False
def jm_v4 (k n : Nat) (C : jm_Cc) (K : jm_K) : jm_K
  | (ls, d :: c :: b :: .inr (.inr (a, j)) :: st, μ) => a = k ∧ j < n ∧ jm_sm st ≤ 8 ∧ C [.inr (.inr (k, j)), b, c, d] μ (fun r ν => K (ls, r.toList ++ st, ν))
  | _ => False
def jm_v5 (k n : Nat) (C : jm_Cc) (K : jm_K) : jm_K
  | (ls, e :: d :: c :: b :: .inr (.inr (a, j)) :: st, μ) => a = k ∧ j < n ∧ jm_sm st ≤ 8 ∧ C [.inr (.inr (k, j)), b, c, d, e] μ (fun r ν => K (ls, r.toList ++ st, ν))
  | _ => False
-- ends of blocks
def jm_if (f : Int32 → Prop) (K1 K2 : jm_K) : jm_K
  | (ls, .inl x :: st, μ) => (f x → K1 (ls, st, μ)) ∧ (¬ f x → K2 (ls, st, μ))
  | _ => False
def jm_cmp (f : Int32 → Int32 → Prop) (K1 K2 : jm_K) : jm_K
  | (ls, .inl y :: .inl x :: st, μ) => (f x y → K1 (ls, st, μ)) ∧ (¬ f x y → K2 (ls, st, μ))
  | _ => False
def jm_ri (Q : Option jm_V → jm_M → Prop) : jm_K
  | (_, [.inl v], μ) => Q (some (.inl v)) μ
  | _ => False
def jm_rz (Q : Option jm_V → jm_M → Prop) : jm_K
  | (_, [.inl v], μ) => (v = 0 ∨ v = 1) ∧ Q (some (.inl v)) μ
  | _ => False
def jm_rl (Q : Option jm_V → jm_M → Prop) : jm_K
  | (_, [.inr (.inl v)], μ) => Q (some (.inr (.inl v))) μ
  | _ => False
def jm_rv (Q : Option jm_V → jm_M → Prop) : jm_K
  | (_, [], μ) => Q none μ
  | _ => False
/-- a table of places from a number on -/
def jm_swk (K : Nat → jm_K) (z : jm_S) (x : Int32) : Int → List Nat → Prop
  | _, [] => True
  | n, t :: ts => (x.toInt = n → K t z) ∧ jm_swk K z x (n + 1) ts
def jm_tsw (lo : Int) (ts : List Nat) (d : Nat) (K : Nat → jm_K) : jm_K
  | (ls, .inl x :: st, μ) => jm_swk K (ls, st, μ) x lo ts ∧ (x.toInt < lo ∨ lo + ts.length ≤ x.toInt → K d (ls, st, μ))
  | _ => False
def jm_lkk (K : Nat → jm_K) (z : jm_S) (x : Int32) (d : Nat) : List (Int × Nat) → Prop
  | [] => K d z
  | (n, t) :: ts => (x.toInt = n → K t z) ∧ (¬ x.toInt = n → jm_lkk K z x d ts)
def jm_lsw (ts : List (Int × Nat)) (d : Nat) (K : Nat → jm_K) : jm_K
  | (ls, .inl x :: st, μ) => jm_lkk K (ls, st, μ) x d ts
  | _ => False
