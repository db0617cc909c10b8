/-! the text: TOKENS -/
def skp (P : Nat → Bool) : Nat → Nat → Nat
  | 0, p => p
  | k + 1, p => if P p then skp P k (p + 1) else p
theorem skp_le (P : Nat → Bool) : ∀ k p, p ≤ skp P k p ∧ skp P k p ≤ p + k
  | 0, p => ⟨Nat.le_refl _, Nat.le_refl _⟩
  | k + 1, p => by
    have := skp_le P k (p + 1)
    unfold skp
    split <;> omega
def isD (t : Nat → Nat) (i : Nat) : Bool := decide (48 ≤ t i ∧ t i ≤ 57)
def vC (t : Nat → Nat) (s : Nat) : Nat → Nat
  | 0 => 0
  | k + 1 => if 10 * vC t s k + t (s + k) - 48 < 100 then 10 * vC t s k + t (s + k) - 48 else 100
def vM (t : Nat → Nat) (s : Nat) : Nat → Nat
  | 0 => 0
  | k + 1 => if 99 < vM t s k then vM t s k else 10 * vM t s k + t (s + k) - 48
theorem vC_le (t : Nat → Nat) (s : Nat) : ∀ k, vC t s k ≤ 100
  | 0 => Nat.zero_le _
  | k + 1 => by unfold vC; split <;> omega
theorem vM_vC (t : Nat → Nat) (s : Nat) : ∀ k, (∀ i, i < k → isD t (s + i) = true) → (99 < vM t s k ↔ 99 < vC t s k) ∧ (vC t s k ≤ 99 → vM t s k = vC t s k) ∧ vM t s k ≤ 999
  | 0, _ => by unfold vM vC; omega
  | k + 1, h => by
    obtain ⟨h1, h2, h3⟩ := vM_vC t s k (fun i hi => h i (by omega))
    have hd : 48 ≤ t (s + k) ∧ t (s + k) ≤ 57 := by simpa [isD] using h k (by omega)
    have hc := vC_le t s k
    unfold vM vC
    by_cases hv : 99 < vM t s k
    · rw [if_pos hv]
      have := h1.mp hv
      rw [if_neg (by omega)]
      omega
    · rw [if_neg hv]
      have := h2 (by omega)
      split <;> omega
theorem skp_all (P : Nat → Bool) : ∀ k p i, p + i < skp P k p → P (p + i) = true
  | 0, p, i, h => by unfold skp at h; omega
  | k + 1, p, i, h => by
    unfold skp at h
    by_cases hp : P p = true
    · rw [if_pos hp] at h
      cases i with
      | zero => exact hp
      | succ i =>
        have := skp_all P k (p + 1) i (by omega)
        rw [show p + 1 + i = p + (i + 1) by omega] at this
        exact this
    · rw [if_neg hp] at h
      omega
def tS (n : Nat) (t : Nat → Nat) (p : Nat) : Nat := skp (fun i => decide (t i = 32)) (n - p) p
def tE (n : Nat) (t : Nat → Nat) (s : Nat) : Nat := skp (isD t) (n - s) s
/-- a number that is no TOKEN -/
def tW (n : Nat) (t : Nat → Nat) (s : Nat) : Prop := 99 < vC t s (tE n t s - s) ∨ (t s = 48 ∧ 1 < tE n t s - s)
/-- the kind of the TOKEN (a letter itself; 256 a number, 257 the end, 258 no TOKEN), its number, the place behind it -/
def tk (n : Nat) (t : Nat → Nat) (p : Nat) : Nat := if n ≤ tS n t p then 257 else if isD t (tS n t p) = true then (if 99 < vC t (tS n t p) (tE n t (tS n t p) - tS n t p) ∨ (t (tS n t p) = 48 ∧ 1 < tE n t (tS n t p) - tS n t p) then 258 else 256) else t (tS n t p)
def tv (n : Nat) (t : Nat → Nat) (p : Nat) : Nat := vC t (tS n t p) (tE n t (tS n t p) - tS n t p)
def tn (n : Nat) (t : Nat → Nat) (p : Nat) : Nat := if n ≤ tS n t p then tS n t p else if isD t (tS n t p) = true then tE n t (tS n t p) else tS n t p + 1
theorem tS_le {n : Nat} (t : Nat → Nat) {p : Nat} (h : p ≤ n) : p ≤ tS n t p ∧ tS n t p ≤ n := by
  have := skp_le (fun i => decide (t i = 32)) (n - p) p
  unfold tS
  omega
theorem tE_le {n : Nat} (t : Nat → Nat) {s : Nat} (h : s ≤ n) : s ≤ tE n t s ∧ tE n t s ≤ n := by
  have := skp_le (isD t) (n - s) s
  unfold tE
  omega
theorem tE_d {n : Nat} {t : Nat → Nat} {s : Nat} (h : s < n) (hd : isD t s = true) : s + 1 ≤ tE n t s := by
  unfold tE
  obtain ⟨k, hk⟩ : ∃ k, n - s = k + 1 := ⟨n - s - 1, by omega⟩
  rw [hk, skp, if_pos hd]
  exact (skp_le (isD t) k (s + 1)).1
theorem tE_n {n : Nat} {t : Nat → Nat} {s : Nat} (hd : ¬ (s < n ∧ isD t s = true)) : tE n t s = s := by
  unfold tE
  cases hk : n - s with
  | zero => rfl
  | succ k => rw [skp, if_neg (fun q => hd ⟨by omega, q⟩)]
theorem tn_le {n : Nat} (t : Nat → Nat) {p : Nat} (h : p ≤ n) : p ≤ tn n t p ∧ tn n t p ≤ n ∧ (tk n t p ≠ 257 → p + 1 ≤ tn n t p) := by
  have h1 := tS_le t h
  have h2 := tE_le t h1.2
  unfold tn tk
  by_cases hn : n ≤ tS n t p
  · rw [if_pos hn, if_pos hn]; omega
  · rw [if_neg hn, if_neg hn]
    by_cases hd : isD t (tS n t p) = true
    · have := tE_d (by omega : tS n t p < n) hd
      rw [if_pos hd]; omega
    · rw [if_neg hd]; omega
theorem tk_le {n : Nat} {t : Nat → Nat} (ht : ∀ i, t i ≤ 255) (p : Nat) : tk n t p ≤ 258 := by
  have := ht (tS n t p)
  unfold tk
  split
  · omega
  · split
    · split <;> omega
    · omega
theorem tv_le (n : Nat) (t : Nat → Nat) (p : Nat) : tv n t p ≤ 100 := vC_le _ _ _
section JRN
variable {x : jm_X} {μ : jm_M} {Q : Option jm_V → jm_M → Prop} {n : Nat} {t : Nat → Nat}
theorem next_119 {s e : Nat} (hn : n ≤ 200) (ht : ∀ i, t i ≤ 255) (hX : ∀ i, i < n → μ.1 16 0 i = nI (t i)) (f : Nat → Int32) (f1 : f 1 = nI n) (f2 : f 2 = nI e) (f3 : f 3 = nI s) (f5 : f 5 = nI (vC t s (e - s))) (hs : s ≤ n) (he : e = tE n t s)
    (q : ∀ f', f' 1 = nI n → f' 2 = nI (if n ≤ s then s else if isD t s = true then tE n t s else s + 1) → f' 3 = nI s → f' 4 = nI (if n ≤ s then 257 else if isD t s = true then (if 99 < vC t s (tE n t s - s) ∨ (t s = 48 ∧ 1 < tE n t s - s) then 258 else 256) else t s) → f' 5 = nI (vC t s (tE n t s - s)) → f' 6 = f 6 → f' 7 = f 7 → Q none (jm_wa μ 4 0 f')) : jm_W x mX3_next Q 119 ([some (.inr (.inr (4, 0))), none], [], jm_wa μ 4 0 f) := by
  have hb := tE_le t hs
  have hts := ht s
  have hvc := vC_le t s (e - s)
  rw [← he] at q hb
  by_cases hn' : n ≤ s
  · have e1 : e = s := by omega
    subst e1
    refine sX3_next_119 _ ?_
    simp (disch := omega) only [bX3_next_119, f1, f2, f3, jm_ic, jm_lc, jm_il, jm_il2, jm_al, jm_al2, jm_is, jm_as, jm_inc, jm_inc2, jm_bin, jm_neg, jm_div, jm_rem, jm_ladd, jm_i2c, jm_dup, jm_dup2, jm_pop, jm_gI, jm_gL, jm_gR, jm_gC, jm_pI, jm_pZ, jm_pL, jm_gA, jm_ald, jm_ast, jm_aal, jm_alen, jm_cp, jm_c1, jm_c2, jm_c3, jm_v1, jm_v2, jm_v3, jm_v4, jm_v5, jm_if, jm_cmp, jm_ri, jm_rz, jm_rl, jm_rv, jm_tsw, jm_swk, jm_lsw, jm_lkk, jm_nth, jm_put, jm_sm, jm_p1, jm_p2, jm_p3, jm_m1, jm_m2, jm_ar, List.map_cons, List.map_nil, List.cons_append, List.nil_append, List.replicate_succ, List.replicate_zero, List.length_cons, List.length_nil, Option.toList_some, Option.toList_none, and_true, true_and, false_and, and_false, eq_self, true_or, or_true, if_true, if_false, Nat.lt_irrefl, Nat.reduceLT, Nat.reduceLeDiff, Nat.reduceEqDiff, Nat.reduceAdd, Nat.reduceSub, Int.reduceAdd, Int.zero_add, Nat.zero_lt_one, Nat.zero_add, Nat.le_refl, Nat.zero_le, ne_eq, not_false_eq_true, jb_0, jb_1, jb_01, jb_em, jz_0, jz_1, ji_nI, jt_nI, ja_nI, jm_nI, jlt_nI, jle_nI, jeq_nI, jeq0, jeq1, false_or, or_false, jlt0, jge0, jgt0, jle0, not_true_eq_false, false_implies, implies_true, true_implies, Classical.not_not, jm_rw1, jm_rwa, jm_rwl1, jm_rwl2, jm_rw1l, jm_rwal, jm_w1_wa, jm_w1_wn, jm_wa_wa, ja_0, jn_0, jl_len0, ja_11, jn_11, jl_len11, ja_12, jn_12, jl_len12, ja_13, jn_13, jl_len13, ja_14, jn_14, jl_len14, ja_15, jn_15, jl_len15, jra_15, ja_16, jn_16, jl_len16, ja_17, jn_17, jl_len17, ja_18, jn_18, jl_len18, ja_19, jn_19, jl_len19, ja_20, jn_20, jl_len20, ja_21, jn_21, jl_len21, ja_22, jn_22, jl_len22, ja_23, jn_23, jl_len23, ja_24, jn_24, jl_len24, ja_25, jn_25, jl_len25, ja_26, jn_26, jl_len26, ja_27, jn_27, jl_len27, ja_28, jn_28, jl_len28, ja_29, jn_29, jl_len29, jra_29, ja_30, jn_30, jl_len30, ja_31, jn_31, jl_len31, ja_32, jn_32, jl_len32, ja_33, jn_33, jl_len33, ja_34, jn_34, jl_len34, ja_35, jn_35, jl_len35, ja_36, jn_36, jl_len36, ja_37, jn_37, jl_len37, ja_38, jn_38, jl_len38, ja_39, jn_39, jl_len39, ja_40, jn_40, jl_len40, ja_41, jn_41, jl_len41, ja_42, jn_42, jl_len42, ja_43, jn_43, jl_len43, ja_44, jn_44, jl_len44, ja_45, jn_45, jl_len45, ja_46, jn_46, jl_len46, ja_47, jn_47, jl_len47]
    refine ⟨fun _ => ?_, fun q1 => by omega⟩
    refine q _ f1 ?_ f3 ?_ f5 rfl rfl
    · rw [if_pos hn']; exact f2
    · rw [if_pos hn']; rfl
  · simp only [if_neg hn'] at q
    by_cases hd : isD t s = true
    · simp only [if_pos hd] at q
      have h1 := tE_d (by omega : s < n) hd
      rw [← he] at h1
      have hXs := hX s (by omega)
      refine sX3_next_119 _ ?_
      simp (disch := omega) only [bX3_next_119, f1, f2, f3, hXs, jsub_nI, jm_ic, jm_lc, jm_il, jm_il2, jm_al, jm_al2, jm_is, jm_as, jm_inc, jm_inc2, jm_bin, jm_neg, jm_div, jm_rem, jm_ladd, jm_i2c, jm_dup, jm_dup2, jm_pop, jm_gI, jm_gL, jm_gR, jm_gC, jm_pI, jm_pZ, jm_pL, jm_gA, jm_ald, jm_ast, jm_aal, jm_alen, jm_cp, jm_c1, jm_c2, jm_c3, jm_v1, jm_v2, jm_v3, jm_v4, jm_v5, jm_if, jm_cmp, jm_ri, jm_rz, jm_rl, jm_rv, jm_tsw, jm_swk, jm_lsw, jm_lkk, jm_nth, jm_put, jm_sm, jm_p1, jm_p2, jm_p3, jm_m1, jm_m2, jm_ar, List.map_cons, List.map_nil, List.cons_append, List.nil_append, List.replicate_succ, List.replicate_zero, List.length_cons, List.length_nil, Option.toList_some, Option.toList_none, and_true, true_and, false_and, and_false, eq_self, true_or, or_true, if_true, if_false, Nat.lt_irrefl, Nat.reduceLT, Nat.reduceLeDiff, Nat.reduceEqDiff, Nat.reduceAdd, Nat.reduceSub, Int.reduceAdd, Int.zero_add, Nat.zero_lt_one, Nat.zero_add, Nat.le_refl, Nat.zero_le, ne_eq, not_false_eq_true, jb_0, jb_1, jb_01, jb_em, jz_0, jz_1, ji_nI, jt_nI, ja_nI, jm_nI, jlt_nI, jle_nI, jeq_nI, jeq0, jeq1, false_or, or_false, jlt0, jge0, jgt0, jle0, not_true_eq_false, false_implies, implies_true, true_implies, Classical.not_not, jm_rw1, jm_rwa, jm_rwl1, jm_rwl2, jm_rw1l, jm_rwal, jm_w1_wa, jm_w1_wn, jm_wa_wa, ja_0, jn_0, jl_len0, ja_11, jn_11, jl_len11, ja_12, jn_12, jl_len12, ja_13, jn_13, jl_len13, ja_14, jn_14, jl_len14, ja_15, jn_15, jl_len15, jra_15, ja_16, jn_16, jl_len16, ja_17, jn_17, jl_len17, ja_18, jn_18, jl_len18, ja_19, jn_19, jl_len19, ja_20, jn_20, jl_len20, ja_21, jn_21, jl_len21, ja_22, jn_22, jl_len22, ja_23, jn_23, jl_len23, ja_24, jn_24, jl_len24, ja_25, jn_25, jl_len25, ja_26, jn_26, jl_len26, ja_27, jn_27, jl_len27, ja_28, jn_28, jl_len28, ja_29, jn_29, jl_len29, jra_29, ja_30, jn_30, jl_len30, ja_31, jn_31, jl_len31, ja_32, jn_32, jl_len32, ja_33, jn_33, jl_len33, ja_34, jn_34, jl_len34, ja_35, jn_35, jl_len35, ja_36, jn_36, jl_len36, ja_37, jn_37, jl_len37, ja_38, jn_38, jl_len38, ja_39, jn_39, jl_len39, ja_40, jn_40, jl_len40, ja_41, jn_41, jl_len41, ja_42, jn_42, jl_len42, ja_43, jn_43, jl_len43, ja_44, jn_44, jl_len44, ja_45, jn_45, jl_len45, ja_46, jn_46, jl_len46, ja_47, jn_47, jl_len47]
      refine ⟨fun q1 => by omega, fun _ => ⟨fun q1 => ⟨fun q2 => ?_, fun q2 => ?_⟩, fun q1 => ?_⟩⟩
      · refine sX3_next_161 _ ?_
        simp (disch := omega) only [bX3_next_161, jm_ic, jm_lc, jm_il, jm_il2, jm_al, jm_al2, jm_is, jm_as, jm_inc, jm_inc2, jm_bin, jm_neg, jm_div, jm_rem, jm_ladd, jm_i2c, jm_dup, jm_dup2, jm_pop, jm_gI, jm_gL, jm_gR, jm_gC, jm_pI, jm_pZ, jm_pL, jm_gA, jm_ald, jm_ast, jm_aal, jm_alen, jm_cp, jm_c1, jm_c2, jm_c3, jm_v1, jm_v2, jm_v3, jm_v4, jm_v5, jm_if, jm_cmp, jm_ri, jm_rz, jm_rl, jm_rv, jm_tsw, jm_swk, jm_lsw, jm_lkk, jm_nth, jm_put, jm_sm, jm_p1, jm_p2, jm_p3, jm_m1, jm_m2, jm_ar, List.map_cons, List.map_nil, List.cons_append, List.nil_append, List.replicate_succ, List.replicate_zero, List.length_cons, List.length_nil, Option.toList_some, Option.toList_none, and_true, true_and, false_and, and_false, eq_self, true_or, or_true, if_true, if_false, Nat.lt_irrefl, Nat.reduceLT, Nat.reduceLeDiff, Nat.reduceEqDiff, Nat.reduceAdd, Nat.reduceSub, Int.reduceAdd, Int.zero_add, Nat.zero_lt_one, Nat.zero_add, Nat.le_refl, Nat.zero_le, ne_eq, not_false_eq_true, jb_0, jb_1, jb_01, jb_em, jz_0, jz_1, ji_nI, jt_nI, ja_nI, jm_nI, jlt_nI, jle_nI, jeq_nI, jeq0, jeq1, false_or, or_false, jlt0, jge0, jgt0, jle0, not_true_eq_false, false_implies, implies_true, true_implies, Classical.not_not, jm_rw1, jm_rwa, jm_rwl1, jm_rwl2, jm_rw1l, jm_rwal, jm_w1_wa, jm_w1_wn, jm_wa_wa, ja_0, jn_0, jl_len0, ja_11, jn_11, jl_len11, ja_12, jn_12, jl_len12, ja_13, jn_13, jl_len13, ja_14, jn_14, jl_len14, ja_15, jn_15, jl_len15, jra_15, ja_16, jn_16, jl_len16, ja_17, jn_17, jl_len17, ja_18, jn_18, jl_len18, ja_19, jn_19, jl_len19, ja_20, jn_20, jl_len20, ja_21, jn_21, jl_len21, ja_22, jn_22, jl_len22, ja_23, jn_23, jl_len23, ja_24, jn_24, jl_len24, ja_25, jn_25, jl_len25, ja_26, jn_26, jl_len26, ja_27, jn_27, jl_len27, ja_28, jn_28, jl_len28, ja_29, jn_29, jl_len29, jra_29, ja_30, jn_30, jl_len30, ja_31, jn_31, jl_len31, ja_32, jn_32, jl_len32, ja_33, jn_33, jl_len33, ja_34, jn_34, jl_len34, ja_35, jn_35, jl_len35, ja_36, jn_36, jl_len36, ja_37, jn_37, jl_len37, ja_38, jn_38, jl_len38, ja_39, jn_39, jl_len39, ja_40, jn_40, jl_len40, ja_41, jn_41, jl_len41, ja_42, jn_42, jl_len42, ja_43, jn_43, jl_len43, ja_44, jn_44, jl_len44, ja_45, jn_45, jl_len45, ja_46, jn_46, jl_len46, ja_47, jn_47, jl_len47]
        refine sX3_next_162 _ ?_
        simp (disch := omega) only [bX3_next_162, f5, jm_ic, jm_lc, jm_il, jm_il2, jm_al, jm_al2, jm_is, jm_as, jm_inc, jm_inc2, jm_bin, jm_neg, jm_div, jm_rem, jm_ladd, jm_i2c, jm_dup, jm_dup2, jm_pop, jm_gI, jm_gL, jm_gR, jm_gC, jm_pI, jm_pZ, jm_pL, jm_gA, jm_ald, jm_ast, jm_aal, jm_alen, jm_cp, jm_c1, jm_c2, jm_c3, jm_v1, jm_v2, jm_v3, jm_v4, jm_v5, jm_if, jm_cmp, jm_ri, jm_rz, jm_rl, jm_rv, jm_tsw, jm_swk, jm_lsw, jm_lkk, jm_nth, jm_put, jm_sm, jm_p1, jm_p2, jm_p3, jm_m1, jm_m2, jm_ar, List.map_cons, List.map_nil, List.cons_append, List.nil_append, List.replicate_succ, List.replicate_zero, List.length_cons, List.length_nil, Option.toList_some, Option.toList_none, and_true, true_and, false_and, and_false, eq_self, true_or, or_true, if_true, if_false, Nat.lt_irrefl, Nat.reduceLT, Nat.reduceLeDiff, Nat.reduceEqDiff, Nat.reduceAdd, Nat.reduceSub, Int.reduceAdd, Int.zero_add, Nat.zero_lt_one, Nat.zero_add, Nat.le_refl, Nat.zero_le, ne_eq, not_false_eq_true, jb_0, jb_1, jb_01, jb_em, jz_0, jz_1, ji_nI, jt_nI, ja_nI, jm_nI, jlt_nI, jle_nI, jeq_nI, jeq0, jeq1, false_or, or_false, jlt0, jge0, jgt0, jle0, not_true_eq_false, false_implies, implies_true, true_implies, Classical.not_not, jm_rw1, jm_rwa, jm_rwl1, jm_rwl2, jm_rw1l, jm_rwal, jm_w1_wa, jm_w1_wn, jm_wa_wa, ja_0, jn_0, jl_len0, ja_11, jn_11, jl_len11, ja_12, jn_12, jl_len12, ja_13, jn_13, jl_len13, ja_14, jn_14, jl_len14, ja_15, jn_15, jl_len15, jra_15, ja_16, jn_16, jl_len16, ja_17, jn_17, jl_len17, ja_18, jn_18, jl_len18, ja_19, jn_19, jl_len19, ja_20, jn_20, jl_len20, ja_21, jn_21, jl_len21, ja_22, jn_22, jl_len22, ja_23, jn_23, jl_len23, ja_24, jn_24, jl_len24, ja_25, jn_25, jl_len25, ja_26, jn_26, jl_len26, ja_27, jn_27, jl_len27, ja_28, jn_28, jl_len28, ja_29, jn_29, jl_len29, jra_29, ja_30, jn_30, jl_len30, ja_31, jn_31, jl_len31, ja_32, jn_32, jl_len32, ja_33, jn_33, jl_len33, ja_34, jn_34, jl_len34, ja_35, jn_35, jl_len35, ja_36, jn_36, jl_len36, ja_37, jn_37, jl_len37, ja_38, jn_38, jl_len38, ja_39, jn_39, jl_len39, ja_40, jn_40, jl_len40, ja_41, jn_41, jl_len41, ja_42, jn_42, jl_len42, ja_43, jn_43, jl_len43, ja_44, jn_44, jl_len44, ja_45, jn_45, jl_len45, ja_46, jn_46, jl_len46, ja_47, jn_47, jl_len47]
        refine ⟨fun q3 => ?_, fun q3 => ?_⟩
        · exact q _ f1 f2 f3 (by rw [if_pos (.inl q3)]; rfl) f5 rfl rfl
        · exact q _ f1 f2 f3 (by rw [if_neg (by omega)]; rfl) f5 rfl rfl
      · refine sX3_next_162 _ ?_
        simp (disch := omega) only [bX3_next_162, f5, jm_ic, jm_lc, jm_il, jm_il2, jm_al, jm_al2, jm_is, jm_as, jm_inc, jm_inc2, jm_bin, jm_neg, jm_div, jm_rem, jm_ladd, jm_i2c, jm_dup, jm_dup2, jm_pop, jm_gI, jm_gL, jm_gR, jm_gC, jm_pI, jm_pZ, jm_pL, jm_gA, jm_ald, jm_ast, jm_aal, jm_alen, jm_cp, jm_c1, jm_c2, jm_c3, jm_v1, jm_v2, jm_v3, jm_v4, jm_v5, jm_if, jm_cmp, jm_ri, jm_rz, jm_rl, jm_rv, jm_tsw, jm_swk, jm_lsw, jm_lkk, jm_nth, jm_put, jm_sm, jm_p1, jm_p2, jm_p3, jm_m1, jm_m2, jm_ar, List.map_cons, List.map_nil, List.cons_append, List.nil_append, List.replicate_succ, List.replicate_zero, List.length_cons, List.length_nil, Option.toList_some, Option.toList_none, and_true, true_and, false_and, and_false, eq_self, true_or, or_true, if_true, if_false, Nat.lt_irrefl, Nat.reduceLT, Nat.reduceLeDiff, Nat.reduceEqDiff, Nat.reduceAdd, Nat.reduceSub, Int.reduceAdd, Int.zero_add, Nat.zero_lt_one, Nat.zero_add, Nat.le_refl, Nat.zero_le, ne_eq, not_false_eq_true, jb_0, jb_1, jb_01, jb_em, jz_0, jz_1, ji_nI, jt_nI, ja_nI, jm_nI, jlt_nI, jle_nI, jeq_nI, jeq0, jeq1, false_or, or_false, jlt0, jge0, jgt0, jle0, not_true_eq_false, false_implies, implies_true, true_implies, Classical.not_not, jm_rw1, jm_rwa, jm_rwl1, jm_rwl2, jm_rw1l, jm_rwal, jm_w1_wa, jm_w1_wn, jm_wa_wa, ja_0, jn_0, jl_len0, ja_11, jn_11, jl_len11, ja_12, jn_12, jl_len12, ja_13, jn_13, jl_len13, ja_14, jn_14, jl_len14, ja_15, jn_15, jl_len15, jra_15, ja_16, jn_16, jl_len16, ja_17, jn_17, jl_len17, ja_18, jn_18, jl_len18, ja_19, jn_19, jl_len19, ja_20, jn_20, jl_len20, ja_21, jn_21, jl_len21, ja_22, jn_22, jl_len22, ja_23, jn_23, jl_len23, ja_24, jn_24, jl_len24, ja_25, jn_25, jl_len25, ja_26, jn_26, jl_len26, ja_27, jn_27, jl_len27, ja_28, jn_28, jl_len28, ja_29, jn_29, jl_len29, jra_29, ja_30, jn_30, jl_len30, ja_31, jn_31, jl_len31, ja_32, jn_32, jl_len32, ja_33, jn_33, jl_len33, ja_34, jn_34, jl_len34, ja_35, jn_35, jl_len35, ja_36, jn_36, jl_len36, ja_37, jn_37, jl_len37, ja_38, jn_38, jl_len38, ja_39, jn_39, jl_len39, ja_40, jn_40, jl_len40, ja_41, jn_41, jl_len41, ja_42, jn_42, jl_len42, ja_43, jn_43, jl_len43, ja_44, jn_44, jl_len44, ja_45, jn_45, jl_len45, ja_46, jn_46, jl_len46, ja_47, jn_47, jl_len47]
        refine ⟨fun q3 => ?_, fun q3 => ?_⟩
        · exact q _ f1 f2 f3 (by rw [if_pos (.inl q3)]; rfl) f5 rfl rfl
        · exact q _ f1 f2 f3 (by rw [if_pos (.inr ⟨q1, by omega⟩)]; rfl) f5 rfl rfl
      · refine sX3_next_161 _ ?_
        simp (disch := omega) only [bX3_next_161, jm_ic, jm_lc, jm_il, jm_il2, jm_al, jm_al2, jm_is, jm_as, jm_inc, jm_inc2, jm_bin, jm_neg, jm_div, jm_rem, jm_ladd, jm_i2c, jm_dup, jm_dup2, jm_pop, jm_gI, jm_gL, jm_gR, jm_gC, jm_pI, jm_pZ, jm_pL, jm_gA, jm_ald, jm_ast, jm_aal, jm_alen, jm_cp, jm_c1, jm_c2, jm_c3, jm_v1, jm_v2, jm_v3, jm_v4, jm_v5, jm_if, jm_cmp, jm_ri, jm_rz, jm_rl, jm_rv, jm_tsw, jm_swk, jm_lsw, jm_lkk, jm_nth, jm_put, jm_sm, jm_p1, jm_p2, jm_p3, jm_m1, jm_m2, jm_ar, List.map_cons, List.map_nil, List.cons_append, List.nil_append, List.replicate_succ, List.replicate_zero, List.length_cons, List.length_nil, Option.toList_some, Option.toList_none, and_true, true_and, false_and, and_false, eq_self, true_or, or_true, if_true, if_false, Nat.lt_irrefl, Nat.reduceLT, Nat.reduceLeDiff, Nat.reduceEqDiff, Nat.reduceAdd, Nat.reduceSub, Int.reduceAdd, Int.zero_add, Nat.zero_lt_one, Nat.zero_add, Nat.le_refl, Nat.zero_le, ne_eq, not_false_eq_true, jb_0, jb_1, jb_01, jb_em, jz_0, jz_1, ji_nI, jt_nI, ja_nI, jm_nI, jlt_nI, jle_nI, jeq_nI, jeq0, jeq1, false_or, or_false, jlt0, jge0, jgt0, jle0, not_true_eq_false, false_implies, implies_true, true_implies, Classical.not_not, jm_rw1, jm_rwa, jm_rwl1, jm_rwl2, jm_rw1l, jm_rwal, jm_w1_wa, jm_w1_wn, jm_wa_wa, ja_0, jn_0, jl_len0, ja_11, jn_11, jl_len11, ja_12, jn_12, jl_len12, ja_13, jn_13, jl_len13, ja_14, jn_14, jl_len14, ja_15, jn_15, jl_len15, jra_15, ja_16, jn_16, jl_len16, ja_17, jn_17, jl_len17, ja_18, jn_18, jl_len18, ja_19, jn_19, jl_len19, ja_20, jn_20, jl_len20, ja_21, jn_21, jl_len21, ja_22, jn_22, jl_len22, ja_23, jn_23, jl_len23, ja_24, jn_24, jl_len24, ja_25, jn_25, jl_len25, ja_26, jn_26, jl_len26, ja_27, jn_27, jl_len27, ja_28, jn_28, jl_len28, ja_29, jn_29, jl_len29, jra_29, ja_30, jn_30, jl_len30, ja_31, jn_31, jl_len31, ja_32, jn_32, jl_len32, ja_33, jn_33, jl_len33, ja_34, jn_34, jl_len34, ja_35, jn_35, jl_len35, ja_36, jn_36, jl_len36, ja_37, jn_37, jl_len37, ja_38, jn_38, jl_len38, ja_39, jn_39, jl_len39, ja_40, jn_40, jl_len40, ja_41, jn_41, jl_len41, ja_42, jn_42, jl_len42, ja_43, jn_43, jl_len43, ja_44, jn_44, jl_len44, ja_45, jn_45, jl_len45, ja_46, jn_46, jl_len46, ja_47, jn_47, jl_len47]
        refine sX3_next_162 _ ?_
        simp (disch := omega) only [bX3_next_162, f5, jm_ic, jm_lc, jm_il, jm_il2, jm_al, jm_al2, jm_is, jm_as, jm_inc, jm_inc2, jm_bin, jm_neg, jm_div, jm_rem, jm_ladd, jm_i2c, jm_dup, jm_dup2, jm_pop, jm_gI, jm_gL, jm_gR, jm_gC, jm_pI, jm_pZ, jm_pL, jm_gA, jm_ald, jm_ast, jm_aal, jm_alen, jm_cp, jm_c1, jm_c2, jm_c3, jm_v1, jm_v2, jm_v3, jm_v4, jm_v5, jm_if, jm_cmp, jm_ri, jm_rz, jm_rl, jm_rv, jm_tsw, jm_swk, jm_lsw, jm_lkk, jm_nth, jm_put, jm_sm, jm_p1, jm_p2, jm_p3, jm_m1, jm_m2, jm_ar, List.map_cons, List.map_nil, List.cons_append, List.nil_append, List.replicate_succ, List.replicate_zero, List.length_cons, List.length_nil, Option.toList_some, Option.toList_none, and_true, true_and, false_and, and_false, eq_self, true_or, or_true, if_true, if_false, Nat.lt_irrefl, Nat.reduceLT, Nat.reduceLeDiff, Nat.reduceEqDiff, Nat.reduceAdd, Nat.reduceSub, Int.reduceAdd, Int.zero_add, Nat.zero_lt_one, Nat.zero_add, Nat.le_refl, Nat.zero_le, ne_eq, not_false_eq_true, jb_0, jb_1, jb_01, jb_em, jz_0, jz_1, ji_nI, jt_nI, ja_nI, jm_nI, jlt_nI, jle_nI, jeq_nI, jeq0, jeq1, false_or, or_false, jlt0, jge0, jgt0, jle0, not_true_eq_false, false_implies, implies_true, true_implies, Classical.not_not, jm_rw1, jm_rwa, jm_rwl1, jm_rwl2, jm_rw1l, jm_rwal, jm_w1_wa, jm_w1_wn, jm_wa_wa, ja_0, jn_0, jl_len0, ja_11, jn_11, jl_len11, ja_12, jn_12, jl_len12, ja_13, jn_13, jl_len13, ja_14, jn_14, jl_len14, ja_15, jn_15, jl_len15, jra_15, ja_16, jn_16, jl_len16, ja_17, jn_17, jl_len17, ja_18, jn_18, jl_len18, ja_19, jn_19, jl_len19, ja_20, jn_20, jl_len20, ja_21, jn_21, jl_len21, ja_22, jn_22, jl_len22, ja_23, jn_23, jl_len23, ja_24, jn_24, jl_len24, ja_25, jn_25, jl_len25, ja_26, jn_26, jl_len26, ja_27, jn_27, jl_len27, ja_28, jn_28, jl_len28, ja_29, jn_29, jl_len29, jra_29, ja_30, jn_30, jl_len30, ja_31, jn_31, jl_len31, ja_32, jn_32, jl_len32, ja_33, jn_33, jl_len33, ja_34, jn_34, jl_len34, ja_35, jn_35, jl_len35, ja_36, jn_36, jl_len36, ja_37, jn_37, jl_len37, ja_38, jn_38, jl_len38, ja_39, jn_39, jl_len39, ja_40, jn_40, jl_len40, ja_41, jn_41, jl_len41, ja_42, jn_42, jl_len42, ja_43, jn_43, jl_len43, ja_44, jn_44, jl_len44, ja_45, jn_45, jl_len45, ja_46, jn_46, jl_len46, ja_47, jn_47, jl_len47]
        refine ⟨fun q3 => ?_, fun q3 => ?_⟩
        · exact q _ f1 f2 f3 (by rw [if_pos (.inl q3)]; rfl) f5 rfl rfl
        · exact q _ f1 f2 f3 (by rw [if_neg (by omega)]; rfl) f5 rfl rfl
    · simp only [if_neg hd] at q
      have e1 : e = s := by rw [he, tE_n (fun h => hd h.2)]
      subst e1
      have hXs := hX e (by omega)
      refine sX3_next_119 _ ?_
      simp (disch := omega) only [bX3_next_119, f1, f2, f3, hXs, jm_ic, jm_lc, jm_il, jm_il2, jm_al, jm_al2, jm_is, jm_as, jm_inc, jm_inc2, jm_bin, jm_neg, jm_div, jm_rem, jm_ladd, jm_i2c, jm_dup, jm_dup2, jm_pop, jm_gI, jm_gL, jm_gR, jm_gC, jm_pI, jm_pZ, jm_pL, jm_gA, jm_ald, jm_ast, jm_aal, jm_alen, jm_cp, jm_c1, jm_c2, jm_c3, jm_v1, jm_v2, jm_v3, jm_v4, jm_v5, jm_if, jm_cmp, jm_ri, jm_rz, jm_rl, jm_rv, jm_tsw, jm_swk, jm_lsw, jm_lkk, jm_nth, jm_put, jm_sm, jm_p1, jm_p2, jm_p3, jm_m1, jm_m2, jm_ar, List.map_cons, List.map_nil, List.cons_append, List.nil_append, List.replicate_succ, List.replicate_zero, List.length_cons, List.length_nil, Option.toList_some, Option.toList_none, and_true, true_and, false_and, and_false, eq_self, true_or, or_true, if_true, if_false, Nat.lt_irrefl, Nat.reduceLT, Nat.reduceLeDiff, Nat.reduceEqDiff, Nat.reduceAdd, Nat.reduceSub, Int.reduceAdd, Int.zero_add, Nat.zero_lt_one, Nat.zero_add, Nat.le_refl, Nat.zero_le, ne_eq, not_false_eq_true, jb_0, jb_1, jb_01, jb_em, jz_0, jz_1, ji_nI, jt_nI, ja_nI, jm_nI, jlt_nI, jle_nI, jeq_nI, jeq0, jeq1, false_or, or_false, jlt0, jge0, jgt0, jle0, not_true_eq_false, false_implies, implies_true, true_implies, Classical.not_not, jm_rw1, jm_rwa, jm_rwl1, jm_rwl2, jm_rw1l, jm_rwal, jm_w1_wa, jm_w1_wn, jm_wa_wa, ja_0, jn_0, jl_len0, ja_11, jn_11, jl_len11, ja_12, jn_12, jl_len12, ja_13, jn_13, jl_len13, ja_14, jn_14, jl_len14, ja_15, jn_15, jl_len15, jra_15, ja_16, jn_16, jl_len16, ja_17, jn_17, jl_len17, ja_18, jn_18, jl_len18, ja_19, jn_19, jl_len19, ja_20, jn_20, jl_len20, ja_21, jn_21, jl_len21, ja_22, jn_22, jl_len22, ja_23, jn_23, jl_len23, ja_24, jn_24, jl_len24, ja_25, jn_25, jl_len25, ja_26, jn_26, jl_len26, ja_27, jn_27, jl_len27, ja_28, jn_28, jl_len28, ja_29, jn_29, jl_len29, jra_29, ja_30, jn_30, jl_len30, ja_31, jn_31, jl_len31, ja_32, jn_32, jl_len32, ja_33, jn_33, jl_len33, ja_34, jn_34, jl_len34, ja_35, jn_35, jl_len35, ja_36, jn_36, jl_len36, ja_37, jn_37, jl_len37, ja_38, jn_38, jl_len38, ja_39, jn_39, jl_len39, ja_40, jn_40, jl_len40, ja_41, jn_41, jl_len41, ja_42, jn_42, jl_len42, ja_43, jn_43, jl_len43, ja_44, jn_44, jl_len44, ja_45, jn_45, jl_len45, ja_46, jn_46, jl_len46, ja_47, jn_47, jl_len47]
      refine ⟨fun q1 => by omega, fun _ => ?_⟩
      exact q _ f1 (by show f 2 + nI 1 = _; rw [f2, ja_nI]) f3 rfl f5 rfl rfl
theorem next_51 {s : Nat} (hn : n ≤ 200) (ht : ∀ i, t i ≤ 255) (hX : ∀ i, i < n → μ.1 16 0 i = nI (t i)) : ∀ (j k : Nat) (f : Nat → Int32), s + k + j = n → f 1 = nI n → f 2 = nI (s + k) → f 3 = nI s → f 5 = nI (vC t s k) → (∀ f', f' 1 = nI n → f' 2 = nI (skp (isD t) j (s + k)) → f' 3 = nI s → f' 5 = nI (vC t s (skp (isD t) j (s + k) - s)) → f' 6 = f 6 → f' 7 = f 7 → jm_W x mX3_next Q 119 ([some (.inr (.inr (4, 0))), none], [], jm_wa μ 4 0 f')) → jm_W x mX3_next Q 51 ([some (.inr (.inr (4, 0))), none], [], jm_wa μ 4 0 f) := by
  intro j
  induction j with
  | zero =>
    intro k f hk f1 f2 f3 f5 q
    refine sX3_next_51 _ ?_
    simp (disch := omega) only [bX3_next_51, f1, f2, jm_ic, jm_lc, jm_il, jm_il2, jm_al, jm_al2, jm_is, jm_as, jm_inc, jm_inc2, jm_bin, jm_neg, jm_div, jm_rem, jm_ladd, jm_i2c, jm_dup, jm_dup2, jm_pop, jm_gI, jm_gL, jm_gR, jm_gC, jm_pI, jm_pZ, jm_pL, jm_gA, jm_ald, jm_ast, jm_aal, jm_alen, jm_cp, jm_c1, jm_c2, jm_c3, jm_v1, jm_v2, jm_v3, jm_v4, jm_v5, jm_if, jm_cmp, jm_ri, jm_rz, jm_rl, jm_rv, jm_tsw, jm_swk, jm_lsw, jm_lkk, jm_nth, jm_put, jm_sm, jm_p1, jm_p2, jm_p3, jm_m1, jm_m2, jm_ar, List.map_cons, List.map_nil, List.cons_append, List.nil_append, List.replicate_succ, List.replicate_zero, List.length_cons, List.length_nil, Option.toList_some, Option.toList_none, and_true, true_and, false_and, and_false, eq_self, true_or, or_true, if_true, if_false, Nat.lt_irrefl, Nat.reduceLT, Nat.reduceLeDiff, Nat.reduceEqDiff, Nat.reduceAdd, Nat.reduceSub, Int.reduceAdd, Int.zero_add, Nat.zero_lt_one, Nat.zero_add, Nat.le_refl, Nat.zero_le, ne_eq, not_false_eq_true, jb_0, jb_1, jb_01, jb_em, jz_0, jz_1, ji_nI, jt_nI, ja_nI, jm_nI, jlt_nI, jle_nI, jeq_nI, jeq0, jeq1, false_or, or_false, jlt0, jge0, jgt0, jle0, not_true_eq_false, false_implies, implies_true, true_implies, Classical.not_not, jm_rw1, jm_rwa, jm_rwl1, jm_rwl2, jm_rw1l, jm_rwal, jm_w1_wa, jm_w1_wn, jm_wa_wa, ja_0, jn_0, jl_len0, ja_11, jn_11, jl_len11, ja_12, jn_12, jl_len12, ja_13, jn_13, jl_len13, ja_14, jn_14, jl_len14, ja_15, jn_15, jl_len15, jra_15, ja_16, jn_16, jl_len16, ja_17, jn_17, jl_len17, ja_18, jn_18, jl_len18, ja_19, jn_19, jl_len19, ja_20, jn_20, jl_len20, ja_21, jn_21, jl_len21, ja_22, jn_22, jl_len22, ja_23, jn_23, jl_len23, ja_24, jn_24, jl_len24, ja_25, jn_25, jl_len25, ja_26, jn_26, jl_len26, ja_27, jn_27, jl_len27, ja_28, jn_28, jl_len28, ja_29, jn_29, jl_len29, jra_29, ja_30, jn_30, jl_len30, ja_31, jn_31, jl_len31, ja_32, jn_32, jl_len32, ja_33, jn_33, jl_len33, ja_34, jn_34, jl_len34, ja_35, jn_35, jl_len35, ja_36, jn_36, jl_len36, ja_37, jn_37, jl_len37, ja_38, jn_38, jl_len38, ja_39, jn_39, jl_len39, ja_40, jn_40, jl_len40, ja_41, jn_41, jl_len41, ja_42, jn_42, jl_len42, ja_43, jn_43, jl_len43, ja_44, jn_44, jl_len44, ja_45, jn_45, jl_len45, ja_46, jn_46, jl_len46, ja_47, jn_47, jl_len47]
    refine ⟨fun _ => ?_, fun q => by omega⟩
    exact q f f1 f2 f3 (by rw [skp, show s + k - s = k by omega]; exact f5) rfl rfl
  | succ j ih =>
    intro k f hk f1 f2 f3 f5 q
    have hXs := hX (s + k) (by omega)
    have hts := ht (s + k)
    have hvc := vC_le t s k
    rw [skp] at q
    by_cases hd : isD t (s + k) = true
    · have hd' : 48 ≤ t (s + k) ∧ t (s + k) ≤ 57 := by simpa [isD] using hd
      rw [if_pos hd] at q
      obtain ⟨d1, d2⟩ := hd'
      refine sX3_next_51 _ ?_
      simp (disch := omega) only [bX3_next_51, f1, f2, f5, hXs, jp_dig, d1, d2, jsub_nI, jp_min, jm_ic, jm_lc, jm_il, jm_il2, jm_al, jm_al2, jm_is, jm_as, jm_inc, jm_inc2, jm_bin, jm_neg, jm_div, jm_rem, jm_ladd, jm_i2c, jm_dup, jm_dup2, jm_pop, jm_gI, jm_gL, jm_gR, jm_gC, jm_pI, jm_pZ, jm_pL, jm_gA, jm_ald, jm_ast, jm_aal, jm_alen, jm_cp, jm_c1, jm_c2, jm_c3, jm_v1, jm_v2, jm_v3, jm_v4, jm_v5, jm_if, jm_cmp, jm_ri, jm_rz, jm_rl, jm_rv, jm_tsw, jm_swk, jm_lsw, jm_lkk, jm_nth, jm_put, jm_sm, jm_p1, jm_p2, jm_p3, jm_m1, jm_m2, jm_ar, List.map_cons, List.map_nil, List.cons_append, List.nil_append, List.replicate_succ, List.replicate_zero, List.length_cons, List.length_nil, Option.toList_some, Option.toList_none, and_true, true_and, false_and, and_false, eq_self, true_or, or_true, if_true, if_false, Nat.lt_irrefl, Nat.reduceLT, Nat.reduceLeDiff, Nat.reduceEqDiff, Nat.reduceAdd, Nat.reduceSub, Int.reduceAdd, Int.zero_add, Nat.zero_lt_one, Nat.zero_add, Nat.le_refl, Nat.zero_le, ne_eq, not_false_eq_true, jb_0, jb_1, jb_01, jb_em, jz_0, jz_1, ji_nI, jt_nI, ja_nI, jm_nI, jlt_nI, jle_nI, jeq_nI, jeq0, jeq1, false_or, or_false, jlt0, jge0, jgt0, jle0, not_true_eq_false, false_implies, implies_true, true_implies, Classical.not_not, jm_rw1, jm_rwa, jm_rwl1, jm_rwl2, jm_rw1l, jm_rwal, jm_w1_wa, jm_w1_wn, jm_wa_wa, ja_0, jn_0, jl_len0, ja_11, jn_11, jl_len11, ja_12, jn_12, jl_len12, ja_13, jn_13, jl_len13, ja_14, jn_14, jl_len14, ja_15, jn_15, jl_len15, jra_15, ja_16, jn_16, jl_len16, ja_17, jn_17, jl_len17, ja_18, jn_18, jl_len18, ja_19, jn_19, jl_len19, ja_20, jn_20, jl_len20, ja_21, jn_21, jl_len21, ja_22, jn_22, jl_len22, ja_23, jn_23, jl_len23, ja_24, jn_24, jl_len24, ja_25, jn_25, jl_len25, ja_26, jn_26, jl_len26, ja_27, jn_27, jl_len27, ja_28, jn_28, jl_len28, ja_29, jn_29, jl_len29, jra_29, ja_30, jn_30, jl_len30, ja_31, jn_31, jl_len31, ja_32, jn_32, jl_len32, ja_33, jn_33, jl_len33, ja_34, jn_34, jl_len34, ja_35, jn_35, jl_len35, ja_36, jn_36, jl_len36, ja_37, jn_37, jl_len37, ja_38, jn_38, jl_len38, ja_39, jn_39, jl_len39, ja_40, jn_40, jl_len40, ja_41, jn_41, jl_len41, ja_42, jn_42, jl_len42, ja_43, jn_43, jl_len43, ja_44, jn_44, jl_len44, ja_45, jn_45, jl_len45, ja_46, jn_46, jl_len46, ja_47, jn_47, jl_len47]
      refine ⟨fun q => by omega, fun _ => ?_⟩
      refine ih (k + 1) _ (by omega) f1 (by show f 2 + nI 1 = _; rw [f2, ja_nI]; rfl) f3 ?_ q
      show (if 10 * vC t s k + t (s + k) - 48 < 100 then nI (10 * vC t s k + t (s + k) - 48) else nI 100) = nI (vC t s (k + 1))
      rw [vC]
      split <;> rfl
    · have hd' : ¬ (48 ≤ t (s + k) ∧ t (s + k) ≤ 57) := by simpa [isD] using hd
      rw [if_neg hd] at q
      refine sX3_next_51 _ ?_
      simp (disch := omega) only [bX3_next_51, f1, f2, hXs, jp_dig, hd', jm_ic, jm_lc, jm_il, jm_il2, jm_al, jm_al2, jm_is, jm_as, jm_inc, jm_inc2, jm_bin, jm_neg, jm_div, jm_rem, jm_ladd, jm_i2c, jm_dup, jm_dup2, jm_pop, jm_gI, jm_gL, jm_gR, jm_gC, jm_pI, jm_pZ, jm_pL, jm_gA, jm_ald, jm_ast, jm_aal, jm_alen, jm_cp, jm_c1, jm_c2, jm_c3, jm_v1, jm_v2, jm_v3, jm_v4, jm_v5, jm_if, jm_cmp, jm_ri, jm_rz, jm_rl, jm_rv, jm_tsw, jm_swk, jm_lsw, jm_lkk, jm_nth, jm_put, jm_sm, jm_p1, jm_p2, jm_p3, jm_m1, jm_m2, jm_ar, List.map_cons, List.map_nil, List.cons_append, List.nil_append, List.replicate_succ, List.replicate_zero, List.length_cons, List.length_nil, Option.toList_some, Option.toList_none, and_true, true_and, false_and, and_false, eq_self, true_or, or_true, if_true, if_false, Nat.lt_irrefl, Nat.reduceLT, Nat.reduceLeDiff, Nat.reduceEqDiff, Nat.reduceAdd, Nat.reduceSub, Int.reduceAdd, Int.zero_add, Nat.zero_lt_one, Nat.zero_add, Nat.le_refl, Nat.zero_le, ne_eq, not_false_eq_true, jb_0, jb_1, jb_01, jb_em, jz_0, jz_1, ji_nI, jt_nI, ja_nI, jm_nI, jlt_nI, jle_nI, jeq_nI, jeq0, jeq1, false_or, or_false, jlt0, jge0, jgt0, jle0, not_true_eq_false, false_implies, implies_true, true_implies, Classical.not_not, jm_rw1, jm_rwa, jm_rwl1, jm_rwl2, jm_rw1l, jm_rwal, jm_w1_wa, jm_w1_wn, jm_wa_wa, ja_0, jn_0, jl_len0, ja_11, jn_11, jl_len11, ja_12, jn_12, jl_len12, ja_13, jn_13, jl_len13, ja_14, jn_14, jl_len14, ja_15, jn_15, jl_len15, jra_15, ja_16, jn_16, jl_len16, ja_17, jn_17, jl_len17, ja_18, jn_18, jl_len18, ja_19, jn_19, jl_len19, ja_20, jn_20, jl_len20, ja_21, jn_21, jl_len21, ja_22, jn_22, jl_len22, ja_23, jn_23, jl_len23, ja_24, jn_24, jl_len24, ja_25, jn_25, jl_len25, ja_26, jn_26, jl_len26, ja_27, jn_27, jl_len27, ja_28, jn_28, jl_len28, ja_29, jn_29, jl_len29, jra_29, ja_30, jn_30, jl_len30, ja_31, jn_31, jl_len31, ja_32, jn_32, jl_len32, ja_33, jn_33, jl_len33, ja_34, jn_34, jl_len34, ja_35, jn_35, jl_len35, ja_36, jn_36, jl_len36, ja_37, jn_37, jl_len37, ja_38, jn_38, jl_len38, ja_39, jn_39, jl_len39, ja_40, jn_40, jl_len40, ja_41, jn_41, jl_len41, ja_42, jn_42, jl_len42, ja_43, jn_43, jl_len43, ja_44, jn_44, jl_len44, ja_45, jn_45, jl_len45, ja_46, jn_46, jl_len46, ja_47, jn_47, jl_len47]
      refine ⟨fun q => by omega, fun _ => ?_⟩
      exact q f f1 f2 f3 (by rw [show s + k - s = k by omega]; exact f5) rfl rfl
theorem next_0 (hn : n ≤ 200) (ht : ∀ i, t i ≤ 255) (hX : ∀ i, i < n → μ.1 16 0 i = nI (t i)) : ∀ (k p : Nat) (f : Nat → Int32), p + k = n → f 1 = nI n → f 2 = nI p → (∀ f', f' 1 = nI n → f' 2 = nI (skp (fun i => decide (t i = 32)) k p) → f' 3 = nI (skp (fun i => decide (t i = 32)) k p) → f' 5 = nI 0 → f' 6 = f 6 → f' 7 = f 7 → jm_W x mX3_next Q 51 ([some (.inr (.inr (4, 0))), none], [], jm_wa μ 4 0 f')) → jm_W x mX3_next Q 0 ([some (.inr (.inr (4, 0))), none], [], jm_wa μ 4 0 f) := by
  intro k
  induction k with
  | zero =>
    intro p f hk f1 f2 q
    refine sX3_next_0 _ ?_
    simp (disch := omega) only [bX3_next_0, f1, f2, jm_ic, jm_lc, jm_il, jm_il2, jm_al, jm_al2, jm_is, jm_as, jm_inc, jm_inc2, jm_bin, jm_neg, jm_div, jm_rem, jm_ladd, jm_i2c, jm_dup, jm_dup2, jm_pop, jm_gI, jm_gL, jm_gR, jm_gC, jm_pI, jm_pZ, jm_pL, jm_gA, jm_ald, jm_ast, jm_aal, jm_alen, jm_cp, jm_c1, jm_c2, jm_c3, jm_v1, jm_v2, jm_v3, jm_v4, jm_v5, jm_if, jm_cmp, jm_ri, jm_rz, jm_rl, jm_rv, jm_tsw, jm_swk, jm_lsw, jm_lkk, jm_nth, jm_put, jm_sm, jm_p1, jm_p2, jm_p3, jm_m1, jm_m2, jm_ar, List.map_cons, List.map_nil, List.cons_append, List.nil_append, List.replicate_succ, List.replicate_zero, List.length_cons, List.length_nil, Option.toList_some, Option.toList_none, and_true, true_and, false_and, and_false, eq_self, true_or, or_true, if_true, if_false, Nat.lt_irrefl, Nat.reduceLT, Nat.reduceLeDiff, Nat.reduceEqDiff, Nat.reduceAdd, Nat.reduceSub, Int.reduceAdd, Int.zero_add, Nat.zero_lt_one, Nat.zero_add, Nat.le_refl, Nat.zero_le, ne_eq, not_false_eq_true, jb_0, jb_1, jb_01, jb_em, jz_0, jz_1, ji_nI, jt_nI, ja_nI, jm_nI, jlt_nI, jle_nI, jeq_nI, jeq0, jeq1, false_or, or_false, jlt0, jge0, jgt0, jle0, not_true_eq_false, false_implies, implies_true, true_implies, Classical.not_not, jm_rw1, jm_rwa, jm_rwl1, jm_rwl2, jm_rw1l, jm_rwal, jm_w1_wa, jm_w1_wn, jm_wa_wa, ja_0, jn_0, jl_len0, ja_11, jn_11, jl_len11, ja_12, jn_12, jl_len12, ja_13, jn_13, jl_len13, ja_14, jn_14, jl_len14, ja_15, jn_15, jl_len15, jra_15, ja_16, jn_16, jl_len16, ja_17, jn_17, jl_len17, ja_18, jn_18, jl_len18, ja_19, jn_19, jl_len19, ja_20, jn_20, jl_len20, ja_21, jn_21, jl_len21, ja_22, jn_22, jl_len22, ja_23, jn_23, jl_len23, ja_24, jn_24, jl_len24, ja_25, jn_25, jl_len25, ja_26, jn_26, jl_len26, ja_27, jn_27, jl_len27, ja_28, jn_28, jl_len28, ja_29, jn_29, jl_len29, jra_29, ja_30, jn_30, jl_len30, ja_31, jn_31, jl_len31, ja_32, jn_32, jl_len32, ja_33, jn_33, jl_len33, ja_34, jn_34, jl_len34, ja_35, jn_35, jl_len35, ja_36, jn_36, jl_len36, ja_37, jn_37, jl_len37, ja_38, jn_38, jl_len38, ja_39, jn_39, jl_len39, ja_40, jn_40, jl_len40, ja_41, jn_41, jl_len41, ja_42, jn_42, jl_len42, ja_43, jn_43, jl_len43, ja_44, jn_44, jl_len44, ja_45, jn_45, jl_len45, ja_46, jn_46, jl_len46, ja_47, jn_47, jl_len47]
    refine ⟨fun _ => ?_, fun q => by omega⟩
    exact q _ f1 f2 rfl rfl rfl rfl
  | succ k ih =>
    intro p f hk f1 f2 q
    have hXs := hX p (by omega)
    have hts := ht p
    rw [skp] at q
    refine sX3_next_0 _ ?_
    simp (disch := omega) only [bX3_next_0, f1, f2, hXs, jm_ic, jm_lc, jm_il, jm_il2, jm_al, jm_al2, jm_is, jm_as, jm_inc, jm_inc2, jm_bin, jm_neg, jm_div, jm_rem, jm_ladd, jm_i2c, jm_dup, jm_dup2, jm_pop, jm_gI, jm_gL, jm_gR, jm_gC, jm_pI, jm_pZ, jm_pL, jm_gA, jm_ald, jm_ast, jm_aal, jm_alen, jm_cp, jm_c1, jm_c2, jm_c3, jm_v1, jm_v2, jm_v3, jm_v4, jm_v5, jm_if, jm_cmp, jm_ri, jm_rz, jm_rl, jm_rv, jm_tsw, jm_swk, jm_lsw, jm_lkk, jm_nth, jm_put, jm_sm, jm_p1, jm_p2, jm_p3, jm_m1, jm_m2, jm_ar, List.map_cons, List.map_nil, List.cons_append, List.nil_append, List.replicate_succ, List.replicate_zero, List.length_cons, List.length_nil, Option.toList_some, Option.toList_none, and_true, true_and, false_and, and_false, eq_self, true_or, or_true, if_true, if_false, Nat.lt_irrefl, Nat.reduceLT, Nat.reduceLeDiff, Nat.reduceEqDiff, Nat.reduceAdd, Nat.reduceSub, Int.reduceAdd, Int.zero_add, Nat.zero_lt_one, Nat.zero_add, Nat.le_refl, Nat.zero_le, ne_eq, not_false_eq_true, jb_0, jb_1, jb_01, jb_em, jz_0, jz_1, ji_nI, jt_nI, ja_nI, jm_nI, jlt_nI, jle_nI, jeq_nI, jeq0, jeq1, false_or, or_false, jlt0, jge0, jgt0, jle0, not_true_eq_false, false_implies, implies_true, true_implies, Classical.not_not, jm_rw1, jm_rwa, jm_rwl1, jm_rwl2, jm_rw1l, jm_rwal, jm_w1_wa, jm_w1_wn, jm_wa_wa, ja_0, jn_0, jl_len0, ja_11, jn_11, jl_len11, ja_12, jn_12, jl_len12, ja_13, jn_13, jl_len13, ja_14, jn_14, jl_len14, ja_15, jn_15, jl_len15, jra_15, ja_16, jn_16, jl_len16, ja_17, jn_17, jl_len17, ja_18, jn_18, jl_len18, ja_19, jn_19, jl_len19, ja_20, jn_20, jl_len20, ja_21, jn_21, jl_len21, ja_22, jn_22, jl_len22, ja_23, jn_23, jl_len23, ja_24, jn_24, jl_len24, ja_25, jn_25, jl_len25, ja_26, jn_26, jl_len26, ja_27, jn_27, jl_len27, ja_28, jn_28, jl_len28, ja_29, jn_29, jl_len29, jra_29, ja_30, jn_30, jl_len30, ja_31, jn_31, jl_len31, ja_32, jn_32, jl_len32, ja_33, jn_33, jl_len33, ja_34, jn_34, jl_len34, ja_35, jn_35, jl_len35, ja_36, jn_36, jl_len36, ja_37, jn_37, jl_len37, ja_38, jn_38, jl_len38, ja_39, jn_39, jl_len39, ja_40, jn_40, jl_len40, ja_41, jn_41, jl_len41, ja_42, jn_42, jl_len42, ja_43, jn_43, jl_len43, ja_44, jn_44, jl_len44, ja_45, jn_45, jl_len45, ja_46, jn_46, jl_len46, ja_47, jn_47, jl_len47]
    refine ⟨fun q => by omega, fun _ => ⟨fun q1 => ?_, fun q1 => ?_⟩⟩
    · rw [if_pos (by simpa using q1)] at q
      exact ih (p + 1) _ (by omega) f1 rfl q
    · rw [if_neg (by simpa using q1)] at q
      exact q _ f1 f2 rfl rfl rfl rfl
theorem c_next {p : Nat} (hn : n ≤ 200) (ht : ∀ i, t i ≤ 255) (hX : ∀ i, i < n → μ.1 16 0 i = nI (t i)) (f : Nat → Int32) (f1 : f 1 = nI n) (f2 : f 2 = nI p) (hp : p ≤ n) (q : ∀ f', f' 1 = nI n → f' 2 = nI (tn n t p) → f' 3 = nI (tS n t p) → f' 4 = nI (tk n t p) → f' 5 = nI (tv n t p) → f' 6 = f 6 → f' 7 = f 7 → Q none (jm_wa μ 4 0 f')) : jm_C x mX3_next [.inr (.inr (4, 0))] (jm_wa μ 4 0 f) Q := by
  have hs := tS_le t hp
  refine jm_C_of2 (n := 1) (by decide +kernel) (Nat.le_of_ble_eq_true rfl) rfl rfl ?_
  refine next_0 hn ht hX (n - p) p f (by omega) f1 f2 (fun f' a1 a2 a3 a5 a6 a7 => ?_)
  refine next_51 (s := tS n t p) hn ht hX (n - tS n t p) 0 f' (by omega) a1 (by rw [a2]; rfl) a3 (by rw [a5]; rfl) (fun f'' b1 b2 b3 b5 b6 b7 => ?_)
  refine next_119 (s := tS n t p) (e := tE n t (tS n t p)) hn ht hX f'' b1 b2 b3 b5 hs.2 rfl (fun g g1 g2 g3 g4 g5 g6 g7 => ?_)
  exact q g g1 g2 g3 g4 g5 (by rw [g6, b6, a6]) (by rw [g7, b7, a7])
end JRN
