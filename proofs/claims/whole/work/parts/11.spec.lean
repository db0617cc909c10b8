/-! what is told, what stands now: numbers and sets; rows on memory -/
theorem jm_w1_wa (μ : jm_M) (k j i : Nat) (f : Nat → Int32) (v : Int32) : jm_w1 (jm_wa μ k j f) k j i v = jm_wa μ k j (upd f i v) := by
  unfold jm_w1
  rw [jm_wa_same]
  refine Prod.ext ?_ rfl
  funext k' j'
  show (if k' = k ∧ j' = j then _ else if k' = k ∧ j' = j then f else μ.1 k' j') = if k' = k ∧ j' = j then _ else μ.1 k' j'
  by_cases h : k' = k ∧ j' = j
  · rw [if_pos h, if_pos h]
  · rw [if_neg h, if_neg h, if_neg h]
theorem jm_w1_wn {k k' : Nat} (h : k ≠ k') (μ : jm_M) (j i j' : Nat) (f : Nat → Int32) (v : Int32) : jm_w1 (jm_wa μ k' j' f) k j i v = jm_wa (jm_w1 μ k j i v) k' j' f := by
  refine Prod.ext ?_ rfl
  funext a b
  show (if a = k ∧ b = j then upd ((if k = k' ∧ j = j' then f else μ.1 k j)) i v else if a = k' ∧ b = j' then f else μ.1 a b) = if a = k' ∧ b = j' then f else if a = k ∧ b = j then upd (μ.1 k j) i v else μ.1 a b
  rw [if_neg (show ¬ (k = k' ∧ j = j') from fun q => h q.1)]
  by_cases h1 : a = k ∧ b = j
  · rw [if_pos h1, if_neg (show ¬ (a = k' ∧ b = j') from fun q => h (h1.1.symm.trans q.1)), if_pos h1]
  · rw [if_neg h1]
    by_cases h2 : a = k' ∧ b = j'
    · rw [if_pos h2, if_pos h2]
    · rw [if_neg h2, if_neg h2, if_neg h1]
theorem jm_wa_wa (μ : jm_M) (k j : Nat) (f g : Nat → Int32) : jm_wa (jm_wa μ k j f) k j g = jm_wa μ k j g := by
  refine Prod.ext ?_ rfl
  funext a b
  show (if a = k ∧ b = j then g else if a = k ∧ b = j then f else μ.1 a b) = if a = k ∧ b = j then g else μ.1 a b
  by_cases h : a = k ∧ b = j
  · rw [if_pos h, if_pos h]
  · rw [if_neg h, if_neg h, if_neg h]
theorem jm_wa_id (μ : jm_M) (k j : Nat) : jm_wa μ k j (μ.1 k j) = μ := by
  refine Prod.ext ?_ rfl
  funext a b
  show (if a = k ∧ b = j then μ.1 k j else μ.1 a b) = μ.1 a b
  by_cases h : a = k ∧ b = j
  · rw [if_pos h, h.1, h.2]
  · rw [if_neg h]
theorem upd_at (f : Nat → Int32) (i : Nat) (v : Int32) : upd f i v i = v := if_pos rfl
theorem upd_ne {f : Nat → Int32} {i j : Nat} {v : Int32} (h : j ≠ i) : upd f i v j = f j := if_neg h
abbrev jT : Type := Nat × Nat × Nat × Nat × Nat × (Nat → Nat) × (Nat → Nat) × (Nat → Nat) × (Nat → Nat)
/-- PARTS, PLAYERS, BARS, PURSE, FINE; LOUD, notes, LUNG, NEEDS -/
def cP (c : jT) : Nat := c.1
def cM (c : jT) : Nat := c.2.1
def cB (c : jT) : Nat := c.2.2.1
def cU (c : jT) : Nat := c.2.2.2.1
def cF (c : jT) : Nat := c.2.2.2.2.1
def cL (c : jT) : Nat → Nat := c.2.2.2.2.2.1
def cN (c : jT) : Nat → Nat := c.2.2.2.2.2.2.1
def cG (c : jT) : Nat → Nat := c.2.2.2.2.2.2.2.1
def cD (c : jT) : Nat → Nat := c.2.2.2.2.2.2.2.2
def cW (c : jT) : Prop := cP c ≤ 5 ∧ cM c ≤ 5 ∧ 1 ≤ cB c ∧ cB c ≤ 12 ∧ 1 ≤ cU c ∧ cU c ≤ 60 ∧ cF c ≤ 30 ∧ (∀ p, cL c p ≤ 9) ∧ (∀ p, cN c p < 2 ^ cB c) ∧ (∀ m, 1 ≤ cG c m ∧ cG c m ≤ 12) ∧ ∀ m, cD c m ≤ 99
/-- the class's Told number j, the model's -/
def TC (c : jT) (j : Nat) (μ : jm_M) : Prop := μ.1 8 j 0 = nI (cB c) ∧ μ.1 8 j 1 = nI (cU c) ∧ μ.1 8 j 2 = nI (cF c) ∧ μ.1 8 j 3 = nI (cP c) ∧ μ.1 8 j 4 = nI (cM c) ∧ (∀ p, p < cP c → μ.1 25 j p = nI (cL c p)) ∧ (∀ p, p < cP c → μ.1 26 j p = nI (cN c p)) ∧ (∀ m, m < cM c → μ.1 27 j m = nI (cG c m)) ∧ ∀ m, m < cM c → μ.1 28 j m = nI (cD c m)
def TM (c : jT) (μ : jm_M) : Prop := μ.1 34 0 2 = nI (cB c) ∧ μ.1 34 0 3 = nI (cU c) ∧ μ.1 34 0 4 = nI (cF c) ∧ μ.1 34 0 0 = nI (cP c) ∧ μ.1 34 0 1 = nI (cM c) ∧ (∀ p, p < cP c → μ.1 35 0 p = nI (cL c p)) ∧ (∀ p, p < cP c → μ.1 36 0 p = nI (cN c p)) ∧ (∀ m, m < cM c → μ.1 37 0 m = nI (cG c m)) ∧ ∀ m, m < cM c → μ.1 38 0 m = nI (cD c m)
/-- DUTY, by the first p PARTS -/
def sDu (c : jT) (w : Nat → Nat) (m : Nat) : Nat → Nat
  | 0 => 0
  | p + 1 => sDu c w m p ||| (if w p = m + 1 then cN c p else 0)
def sD (c : jT) (w : Nat → Nat) (m : Nat) : Nat := sDu c w m (cP c)
theorem sDu_lt {c : jT} (h : cW c) (w : Nat → Nat) (m : Nat) : ∀ p, sDu c w m p < 2 ^ cB c
  | 0 => Nat.two_pow_pos _
  | p + 1 => by
    unfold sDu
    refine Nat.or_lt_two_pow (sDu_lt h w m p) ?_
    split
    · exact h.2.2.2.2.2.2.2.2.1 p
    · exact Nat.two_pow_pos _
theorem sD_lt {c : jT} (h : cW c) (w : Nat → Nat) (m : Nat) : sD c w m < 2 ^ cB c := sDu_lt h w m _
theorem p12 {n : Nat} (h : n ≤ 12) : 2 ^ n ≤ 4096 := by
  have : 2 ^ n ≤ 2 ^ 12 := Nat.pow_le_pow_right (by decide) h
  omega
/-- RESTS, of duties d and sleeps z; how many of the first n -/
def rB (d z : Nat → Nat) (b m : Nat) : Bool := !(d m).testBit b || (z m).testBit b
def rC (d z : Nat → Nat) (n b : Nat) : Nat := cnt (rB d z b) n
theorem nd_rB (d z : Nat → Nat) (b m : Nat) : (nd (d m) (z m)).testBit b = !rB d z b m := by
  rw [nd_bit]; unfold rB
  cases (d m).testBit b <;> cases (z m).testBit b <;> rfl
theorem nd_le (a b : Nat) {n : Nat} (h : a < 2 ^ n) : nd a b < 2 ^ n := Nat.xor_lt_two_pow h (Nat.lt_of_le_of_lt Nat.and_le_left h)
section JS
variable {x : jm_X} {μ : jm_M} {Q : Option jm_V → jm_M → Prop}
theorem fill_loop {k j : Nat} {v : Int32} (hk : k ≠ 0) (ha : jm_ar 0 k j) (hL : jm_len k < 1000) : ∀ (n i : Nat) (f : Nat → Int32), i + n = jm_len k → (∀ a, a < i → f a = v) → (∀ f, (∀ a, a < jm_len k → f a = v) → Q none (jm_wa μ k j f)) → jm_W x mJ7_fill_53178 Q 5 ([some (.inr (.inr (k, j))), some (.inl v), some (.inl (nI i)), some (.inl (nI (jm_len k)))], [], jm_wa μ k j f)
  | 0, i, f, hi, hf, h => by
    refine sJ7_fill_53178_5 _ ?_
    simp (disch := omega) only [bJ7_fill_53178_5, jm_ic, jm_lc, jm_il, jm_il2, jm_al, jm_al2, jm_is, jm_as, jm_inc, jm_inc2, jm_bin, jm_neg, jm_div, jm_rem, jm_ladd, jm_i2c, jm_dup, jm_dup2, jm_pop, jm_gI, jm_gL, jm_gR, jm_gC, jm_pI, jm_pZ, jm_pL, jm_gA, jm_ald, jm_ast, jm_aal, jm_alen, jm_cp, jm_c1, jm_c2, jm_c3, jm_v1, jm_v2, jm_v3, jm_v4, jm_v5, jm_if, jm_cmp, jm_ri, jm_rz, jm_rl, jm_rv, jm_tsw, jm_swk, jm_lsw, jm_lkk, jm_nth, jm_put, jm_sm, jm_p1, jm_p2, jm_p3, jm_m1, jm_m2, jm_ar, List.map_cons, List.map_nil, List.cons_append, List.nil_append, List.replicate_succ, List.replicate_zero, List.length_cons, List.length_nil, Option.toList_some, Option.toList_none, and_true, true_and, false_and, and_false, eq_self, true_or, or_true, if_true, if_false, Nat.lt_irrefl, Nat.reduceLT, Nat.reduceLeDiff, Nat.reduceEqDiff, Nat.reduceAdd, Nat.reduceSub, Int.reduceAdd, Int.zero_add, Nat.zero_lt_one, Nat.zero_add, Nat.le_refl, Nat.zero_le, ne_eq, not_false_eq_true, jb_0, jb_1, jb_01, jb_em, jz_0, jz_1, ji_nI, jt_nI, ja_nI, jm_nI, jlt_nI, jle_nI, jeq_nI, jeq0, jeq1, false_or, or_false, jlt0, jge0, jgt0, jle0, not_true_eq_false, false_implies, implies_true, true_implies, Classical.not_not, jm_rw1, jm_rwa, jm_rwl1, jm_rwl2, jm_rw1l, jm_rwal, jm_w1_wa, jm_w1_wn, jm_wa_wa, ja_0, jn_0, jl_len0, ja_11, jn_11, jl_len11, ja_12, jn_12, jl_len12, ja_13, jn_13, jl_len13, ja_14, jn_14, jl_len14, ja_15, jn_15, jl_len15, jra_15, ja_16, jn_16, jl_len16, ja_17, jn_17, jl_len17, ja_18, jn_18, jl_len18, ja_19, jn_19, jl_len19, ja_20, jn_20, jl_len20, ja_21, jn_21, jl_len21, ja_22, jn_22, jl_len22, ja_23, jn_23, jl_len23, ja_24, jn_24, jl_len24, ja_25, jn_25, jl_len25, ja_26, jn_26, jl_len26, ja_27, jn_27, jl_len27, ja_28, jn_28, jl_len28, ja_29, jn_29, jl_len29, jra_29, ja_30, jn_30, jl_len30, ja_31, jn_31, jl_len31, ja_32, jn_32, jl_len32, ja_33, jn_33, jl_len33, ja_34, jn_34, jl_len34, ja_35, jn_35, jl_len35, ja_36, jn_36, jl_len36, ja_37, jn_37, jl_len37, ja_38, jn_38, jl_len38, ja_39, jn_39, jl_len39, ja_40, jn_40, jl_len40, ja_41, jn_41, jl_len41, ja_42, jn_42, jl_len42, ja_43, jn_43, jl_len43, ja_44, jn_44, jl_len44, ja_45, jn_45, jl_len45, ja_46, jn_46, jl_len46, ja_47, jn_47, jl_len47]
    refine ⟨fun _ => h f (fun a q => hf a (by omega)), fun q => by omega⟩
  | n + 1, i, f, hi, hf, h => by
    refine sJ7_fill_53178_5 _ ?_
    simp (disch := omega) only [bJ7_fill_53178_5, jm_ic, jm_lc, jm_il, jm_il2, jm_al, jm_al2, jm_is, jm_as, jm_inc, jm_inc2, jm_bin, jm_neg, jm_div, jm_rem, jm_ladd, jm_i2c, jm_dup, jm_dup2, jm_pop, jm_gI, jm_gL, jm_gR, jm_gC, jm_pI, jm_pZ, jm_pL, jm_gA, jm_ald, jm_ast, jm_aal, jm_alen, jm_cp, jm_c1, jm_c2, jm_c3, jm_v1, jm_v2, jm_v3, jm_v4, jm_v5, jm_if, jm_cmp, jm_ri, jm_rz, jm_rl, jm_rv, jm_tsw, jm_swk, jm_lsw, jm_lkk, jm_nth, jm_put, jm_sm, jm_p1, jm_p2, jm_p3, jm_m1, jm_m2, jm_ar, List.map_cons, List.map_nil, List.cons_append, List.nil_append, List.replicate_succ, List.replicate_zero, List.length_cons, List.length_nil, Option.toList_some, Option.toList_none, and_true, true_and, false_and, and_false, eq_self, true_or, or_true, if_true, if_false, Nat.lt_irrefl, Nat.reduceLT, Nat.reduceLeDiff, Nat.reduceEqDiff, Nat.reduceAdd, Nat.reduceSub, Int.reduceAdd, Int.zero_add, Nat.zero_lt_one, Nat.zero_add, Nat.le_refl, Nat.zero_le, ne_eq, not_false_eq_true, jb_0, jb_1, jb_01, jb_em, jz_0, jz_1, ji_nI, jt_nI, ja_nI, jm_nI, jlt_nI, jle_nI, jeq_nI, jeq0, jeq1, false_or, or_false, jlt0, jge0, jgt0, jle0, not_true_eq_false, false_implies, implies_true, true_implies, Classical.not_not, jm_rw1, jm_rwa, jm_rwl1, jm_rwl2, jm_rw1l, jm_rwal, jm_w1_wa, jm_w1_wn, jm_wa_wa, ja_0, jn_0, jl_len0, ja_11, jn_11, jl_len11, ja_12, jn_12, jl_len12, ja_13, jn_13, jl_len13, ja_14, jn_14, jl_len14, ja_15, jn_15, jl_len15, jra_15, ja_16, jn_16, jl_len16, ja_17, jn_17, jl_len17, ja_18, jn_18, jl_len18, ja_19, jn_19, jl_len19, ja_20, jn_20, jl_len20, ja_21, jn_21, jl_len21, ja_22, jn_22, jl_len22, ja_23, jn_23, jl_len23, ja_24, jn_24, jl_len24, ja_25, jn_25, jl_len25, ja_26, jn_26, jl_len26, ja_27, jn_27, jl_len27, ja_28, jn_28, jl_len28, ja_29, jn_29, jl_len29, jra_29, ja_30, jn_30, jl_len30, ja_31, jn_31, jl_len31, ja_32, jn_32, jl_len32, ja_33, jn_33, jl_len33, ja_34, jn_34, jl_len34, ja_35, jn_35, jl_len35, ja_36, jn_36, jl_len36, ja_37, jn_37, jl_len37, ja_38, jn_38, jl_len38, ja_39, jn_39, jl_len39, ja_40, jn_40, jl_len40, ja_41, jn_41, jl_len41, ja_42, jn_42, jl_len42, ja_43, jn_43, jl_len43, ja_44, jn_44, jl_len44, ja_45, jn_45, jl_len45, ja_46, jn_46, jl_len46, ja_47, jn_47, jl_len47]
    refine ⟨fun q => by omega, fun _ => ⟨⟨ha.1, ha.2⟩, hk, ?_⟩⟩
    refine fill_loop hk ha hL n (i + 1) (upd f i v) (by omega) (fun a q => ?_) h
    by_cases e : a = i
    · rw [e, upd_at]
    · rw [upd_ne e]; exact hf a (by omega)
theorem c_fill {k j : Nat} {v : Int32} (hk : k ≠ 0) (ha : jm_ar 0 k j) (hL : jm_len k < 1000) (h : ∀ f, (∀ a, a < jm_len k → f a = v) → Q none (jm_wa μ k j f)) : jm_C x mJ7_fill_53178 [.inr (.inr (k, j)), .inl v] μ Q := by
  refine jm_C_of2 (n := 2) (by decide +kernel) (Nat.le_of_ble_eq_true rfl) rfl rfl ?_
  refine sJ7_fill_53178_0 _ ?_
  simp (disch := omega) only [bJ7_fill_53178_0, jm_ic, jm_lc, jm_il, jm_il2, jm_al, jm_al2, jm_is, jm_as, jm_inc, jm_inc2, jm_bin, jm_neg, jm_div, jm_rem, jm_ladd, jm_i2c, jm_dup, jm_dup2, jm_pop, jm_gI, jm_gL, jm_gR, jm_gC, jm_pI, jm_pZ, jm_pL, jm_gA, jm_ald, jm_ast, jm_aal, jm_alen, jm_cp, jm_c1, jm_c2, jm_c3, jm_v1, jm_v2, jm_v3, jm_v4, jm_v5, jm_if, jm_cmp, jm_ri, jm_rz, jm_rl, jm_rv, jm_tsw, jm_swk, jm_lsw, jm_lkk, jm_nth, jm_put, jm_sm, jm_p1, jm_p2, jm_p3, jm_m1, jm_m2, jm_ar, List.map_cons, List.map_nil, List.cons_append, List.nil_append, List.replicate_succ, List.replicate_zero, List.length_cons, List.length_nil, Option.toList_some, Option.toList_none, and_true, true_and, false_and, and_false, eq_self, true_or, or_true, if_true, if_false, Nat.lt_irrefl, Nat.reduceLT, Nat.reduceLeDiff, Nat.reduceEqDiff, Nat.reduceAdd, Nat.reduceSub, Int.reduceAdd, Int.zero_add, Nat.zero_lt_one, Nat.zero_add, Nat.le_refl, Nat.zero_le, ne_eq, not_false_eq_true, jb_0, jb_1, jb_01, jb_em, jz_0, jz_1, ji_nI, jt_nI, ja_nI, jm_nI, jlt_nI, jle_nI, jeq_nI, jeq0, jeq1, false_or, or_false, jlt0, jge0, jgt0, jle0, not_true_eq_false, false_implies, implies_true, true_implies, Classical.not_not, jm_rw1, jm_rwa, jm_rwl1, jm_rwl2, jm_rw1l, jm_rwal, jm_w1_wa, jm_w1_wn, jm_wa_wa, ja_0, jn_0, jl_len0, ja_11, jn_11, jl_len11, ja_12, jn_12, jl_len12, ja_13, jn_13, jl_len13, ja_14, jn_14, jl_len14, ja_15, jn_15, jl_len15, jra_15, ja_16, jn_16, jl_len16, ja_17, jn_17, jl_len17, ja_18, jn_18, jl_len18, ja_19, jn_19, jl_len19, ja_20, jn_20, jl_len20, ja_21, jn_21, jl_len21, ja_22, jn_22, jl_len22, ja_23, jn_23, jl_len23, ja_24, jn_24, jl_len24, ja_25, jn_25, jl_len25, ja_26, jn_26, jl_len26, ja_27, jn_27, jl_len27, ja_28, jn_28, jl_len28, ja_29, jn_29, jl_len29, jra_29, ja_30, jn_30, jl_len30, ja_31, jn_31, jl_len31, ja_32, jn_32, jl_len32, ja_33, jn_33, jl_len33, ja_34, jn_34, jl_len34, ja_35, jn_35, jl_len35, ja_36, jn_36, jl_len36, ja_37, jn_37, jl_len37, ja_38, jn_38, jl_len38, ja_39, jn_39, jl_len39, ja_40, jn_40, jl_len40, ja_41, jn_41, jl_len41, ja_42, jn_42, jl_len42, ja_43, jn_43, jl_len43, ja_44, jn_44, jl_len44, ja_45, jn_45, jl_len45, ja_46, jn_46, jl_len46, ja_47, jn_47, jl_len47]
  refine ⟨⟨ha.1, ha.2⟩, ?_⟩
  have := fill_loop (x := x) (μ := μ) hk ha hL (jm_len k) 0 (μ.1 k j) (by omega) (fun a q => by omega) h
  rw [jm_wa_id] at this
  exact this
end JS
