/-! what stands NOW, as the class and the model hold it; the model's rows -/
abbrev jS : Type := (Nat → Nat) × (Nat → Nat) × (Nat → Int) × Nat
/-- whose (0: nobody's), ASLEEP, SAVED, EVENINGS -/
def sW (σ : jS) : Nat → Nat := σ.1
def sZ (σ : jS) : Nat → Nat := σ.2.1
def sV (σ : jS) : Nat → Int := σ.2.2.1
def sN (σ : jS) : Nat := σ.2.2.2
def sWf (c : jT) (σ : jS) : Prop := (∀ p, sW σ p ≤ cM c) ∧ (∀ p, cP c ≤ p → sW σ p = 0) ∧ (∀ m, sZ σ m < 2 ^ cB c) ∧ (∀ m, cM c ≤ m → sZ σ m = 0) ∧ ∀ m, -9999 ≤ sV σ m ∧ sV σ m ≤ 9999
def srow (σ : jS) (i : Nat) : Int32 := if i < 5 then nI (sW σ i) else if i < 10 then nI (sZ σ (i - 5)) else if i < 15 then jI (sV σ (i - 10)) else nI (sN σ)
def RS (σ : jS) (k o : Nat) (μ : jm_M) : Prop := ∀ i, i < 16 → μ.1 k 0 (o + i) = srow σ i
theorem srow_w {σ : jS} {p : Nat} (h : p < 5) : srow σ p = nI (sW σ p) := by unfold srow; rw [if_pos h]
theorem srow_z {σ : jS} {m : Nat} (h : m < 5) : srow σ (5 + m) = nI (sZ σ m) := by unfold srow; rw [if_neg (by omega), if_pos (by omega), show 5 + m - 5 = m by omega]
theorem srow_v {σ : jS} {m : Nat} (h : m < 5) : srow σ (10 + m) = jI (sV σ m) := by unfold srow; rw [if_neg (by omega), if_neg (by omega), if_pos (by omega), show 10 + m - 10 = m by omega]
theorem srow_n {σ : jS} : srow σ 15 = nI (sN σ) := rfl
theorem RS_RW {c : jT} (hc : cW c) {σ : jS} {k : Nat} {μ : jm_M} (h : RS σ k 0 μ) : RW c (sW σ) (sZ σ) k 0 μ := by
  have := hc.1
  have := hc.2.1
  refine ⟨fun p hp => ?_, fun m hm => ?_⟩
  · have := h p (by omega)
    rw [Nat.zero_add] at this
    rw [this, srow_w (by omega)]
  · have := h (5 + m) (by omega)
    rw [Nat.zero_add] at this
    rw [this, srow_z (by omega)]
def SC (σ : jS) (j : Nat) (μ : jm_M) : Prop := (∀ p, p < 5 → μ.1 22 j p = jow (sW σ p)) ∧ (∀ m, m < 5 → μ.1 23 j m = nI (sZ σ m)) ∧ (∀ m, m < 5 → μ.1 24 j m = jI (sV σ m)) ∧ μ.1 7 j 3 = nI (sN σ)
/-- the model's acts that may be UNDONE: un of them, the i-th latest is uf i -/
def MU (un : Nat) (uf : Nat → jS) (μ : jm_M) : Prop := un ≤ 10 ∧ μ.1 10 0 20 = nI un ∧ ∀ i, i < un → RS (uf i) 43 (16 * (un - 1 - i)) μ
def upush (σ : jS) (uf : Nat → jS) : Nat → jS
  | 0 => σ
  | i + 1 => uf i
def uadd (un : Nat) : Nat := if un = 10 then 10 else un + 1
section JR
variable {x : jm_X} {μ : jm_M} {Q : Option jm_V → jm_M → Prop} {c : jT}
theorem asNow_loop (h : ∀ f, (∀ a, a < 16 → f a = μ.1 39 0 a) → Q none (jm_wa μ 40 0 f)) : ∀ (n a : Nat) (f : Nat → Int32), a + n = 16 → (∀ b, b < a → f b = μ.1 39 0 b) → jm_W x mX9_asNow Q 2 ([some (.inr (.inr (10, 0))), some (.inl (nI a))], [], jm_wa μ 40 0 f) := by
  intro n
  induction n with
  | zero =>
    intro a f ha hf
    refine sX9_asNow_2 _ ?_
    simp (disch := omega) only [bX9_asNow_2, jm_ic, jm_lc, jm_il, jm_il2, jm_al, jm_al2, jm_is, jm_as, jm_inc, jm_inc2, jm_bin, jm_neg, jm_div, jm_rem, jm_ladd, jm_i2c, jm_dup, jm_dup2, jm_pop, jm_gI, jm_gL, jm_gR, jm_gC, jm_pI, jm_pZ, jm_pL, jm_gA, jm_ald, jm_ast, jm_aal, jm_alen, jm_cp, jm_c1, jm_c2, jm_c3, jm_v1, jm_v2, jm_v3, jm_v4, jm_v5, jm_if, jm_cmp, jm_ri, jm_rz, jm_rl, jm_rv, jm_tsw, jm_swk, jm_lsw, jm_lkk, jm_nth, jm_put, jm_sm, jm_p1, jm_p2, jm_p3, jm_m1, jm_m2, jm_ar, List.map_cons, List.map_nil, List.cons_append, List.nil_append, List.replicate_succ, List.replicate_zero, List.length_cons, List.length_nil, Option.toList_some, Option.toList_none, and_true, true_and, false_and, and_false, eq_self, true_or, or_true, if_true, if_false, Nat.lt_irrefl, Nat.reduceLT, Nat.reduceLeDiff, Nat.reduceEqDiff, Nat.reduceAdd, Nat.reduceSub, Int.reduceAdd, Int.zero_add, Nat.zero_lt_one, Nat.zero_add, Nat.le_refl, Nat.zero_le, ne_eq, not_false_eq_true, jb_0, jb_1, jb_01, jb_em, jz_0, jz_1, ji_nI, jt_nI, ja_nI, jm_nI, jlt_nI, jle_nI, jeq_nI, jeq0, jeq1, false_or, or_false, jlt0, jge0, jgt0, jle0, not_true_eq_false, false_implies, implies_true, true_implies, Classical.not_not, jm_rw1, jm_rwa, jm_rwl1, jm_rwl2, jm_rw1l, jm_rwal, jm_w1_wa, jm_w1_wn, jm_wa_wa, ja_0, jn_0, jl_len0, ja_11, jn_11, jl_len11, ja_12, jn_12, jl_len12, ja_13, jn_13, jl_len13, ja_14, jn_14, jl_len14, ja_15, jn_15, jl_len15, jra_15, ja_16, jn_16, jl_len16, ja_17, jn_17, jl_len17, ja_18, jn_18, jl_len18, ja_19, jn_19, jl_len19, ja_20, jn_20, jl_len20, ja_21, jn_21, jl_len21, ja_22, jn_22, jl_len22, ja_23, jn_23, jl_len23, ja_24, jn_24, jl_len24, ja_25, jn_25, jl_len25, ja_26, jn_26, jl_len26, ja_27, jn_27, jl_len27, ja_28, jn_28, jl_len28, ja_29, jn_29, jl_len29, jra_29, ja_30, jn_30, jl_len30, ja_31, jn_31, jl_len31, ja_32, jn_32, jl_len32, ja_33, jn_33, jl_len33, ja_34, jn_34, jl_len34, ja_35, jn_35, jl_len35, ja_36, jn_36, jl_len36, ja_37, jn_37, jl_len37, ja_38, jn_38, jl_len38, ja_39, jn_39, jl_len39, ja_40, jn_40, jl_len40, ja_41, jn_41, jl_len41, ja_42, jn_42, jl_len42, ja_43, jn_43, jl_len43, ja_44, jn_44, jl_len44, ja_45, jn_45, jl_len45, ja_46, jn_46, jl_len46, ja_47, jn_47, jl_len47]
    refine ⟨fun _ => h f (fun b q => hf b (by omega)), fun q => by omega⟩
  | succ n ih =>
    intro a f ha hf
    refine sX9_asNow_2 _ ?_
    simp (disch := omega) only [bX9_asNow_2, jm_ic, jm_lc, jm_il, jm_il2, jm_al, jm_al2, jm_is, jm_as, jm_inc, jm_inc2, jm_bin, jm_neg, jm_div, jm_rem, jm_ladd, jm_i2c, jm_dup, jm_dup2, jm_pop, jm_gI, jm_gL, jm_gR, jm_gC, jm_pI, jm_pZ, jm_pL, jm_gA, jm_ald, jm_ast, jm_aal, jm_alen, jm_cp, jm_c1, jm_c2, jm_c3, jm_v1, jm_v2, jm_v3, jm_v4, jm_v5, jm_if, jm_cmp, jm_ri, jm_rz, jm_rl, jm_rv, jm_tsw, jm_swk, jm_lsw, jm_lkk, jm_nth, jm_put, jm_sm, jm_p1, jm_p2, jm_p3, jm_m1, jm_m2, jm_ar, List.map_cons, List.map_nil, List.cons_append, List.nil_append, List.replicate_succ, List.replicate_zero, List.length_cons, List.length_nil, Option.toList_some, Option.toList_none, and_true, true_and, false_and, and_false, eq_self, true_or, or_true, if_true, if_false, Nat.lt_irrefl, Nat.reduceLT, Nat.reduceLeDiff, Nat.reduceEqDiff, Nat.reduceAdd, Nat.reduceSub, Int.reduceAdd, Int.zero_add, Nat.zero_lt_one, Nat.zero_add, Nat.le_refl, Nat.zero_le, ne_eq, not_false_eq_true, jb_0, jb_1, jb_01, jb_em, jz_0, jz_1, ji_nI, jt_nI, ja_nI, jm_nI, jlt_nI, jle_nI, jeq_nI, jeq0, jeq1, false_or, or_false, jlt0, jge0, jgt0, jle0, not_true_eq_false, false_implies, implies_true, true_implies, Classical.not_not, jm_rw1, jm_rwa, jm_rwl1, jm_rwl2, jm_rw1l, jm_rwal, jm_w1_wa, jm_w1_wn, jm_wa_wa, ja_0, jn_0, jl_len0, ja_11, jn_11, jl_len11, ja_12, jn_12, jl_len12, ja_13, jn_13, jl_len13, ja_14, jn_14, jl_len14, ja_15, jn_15, jl_len15, jra_15, ja_16, jn_16, jl_len16, ja_17, jn_17, jl_len17, ja_18, jn_18, jl_len18, ja_19, jn_19, jl_len19, ja_20, jn_20, jl_len20, ja_21, jn_21, jl_len21, ja_22, jn_22, jl_len22, ja_23, jn_23, jl_len23, ja_24, jn_24, jl_len24, ja_25, jn_25, jl_len25, ja_26, jn_26, jl_len26, ja_27, jn_27, jl_len27, ja_28, jn_28, jl_len28, ja_29, jn_29, jl_len29, jra_29, ja_30, jn_30, jl_len30, ja_31, jn_31, jl_len31, ja_32, jn_32, jl_len32, ja_33, jn_33, jl_len33, ja_34, jn_34, jl_len34, ja_35, jn_35, jl_len35, ja_36, jn_36, jl_len36, ja_37, jn_37, jl_len37, ja_38, jn_38, jl_len38, ja_39, jn_39, jl_len39, ja_40, jn_40, jl_len40, ja_41, jn_41, jl_len41, ja_42, jn_42, jl_len42, ja_43, jn_43, jl_len43, ja_44, jn_44, jl_len44, ja_45, jn_45, jl_len45, ja_46, jn_46, jl_len46, ja_47, jn_47, jl_len47]
    refine ⟨fun q => by omega, fun _ => ih (a + 1) _ (by omega) (fun b q => ?_)⟩
    by_cases e : b = a
    · rw [e, upd_at]
    · rw [upd_ne e]; exact hf b (by omega)
theorem c_asNow (h : ∀ f, (∀ a, a < 16 → f a = μ.1 39 0 a) → Q none (jm_wa μ 40 0 f)) : jm_C x mX9_asNow [.inr (.inr (10, 0))] μ Q := by
  refine jm_C_of2 (n := 1) (by decide +kernel) (Nat.le_of_ble_eq_true rfl) rfl rfl ?_
  refine sX9_asNow_0 _ ?_
  simp (disch := omega) only [bX9_asNow_0, jm_ic, jm_lc, jm_il, jm_il2, jm_al, jm_al2, jm_is, jm_as, jm_inc, jm_inc2, jm_bin, jm_neg, jm_div, jm_rem, jm_ladd, jm_i2c, jm_dup, jm_dup2, jm_pop, jm_gI, jm_gL, jm_gR, jm_gC, jm_pI, jm_pZ, jm_pL, jm_gA, jm_ald, jm_ast, jm_aal, jm_alen, jm_cp, jm_c1, jm_c2, jm_c3, jm_v1, jm_v2, jm_v3, jm_v4, jm_v5, jm_if, jm_cmp, jm_ri, jm_rz, jm_rl, jm_rv, jm_tsw, jm_swk, jm_lsw, jm_lkk, jm_nth, jm_put, jm_sm, jm_p1, jm_p2, jm_p3, jm_m1, jm_m2, jm_ar, List.map_cons, List.map_nil, List.cons_append, List.nil_append, List.replicate_succ, List.replicate_zero, List.length_cons, List.length_nil, Option.toList_some, Option.toList_none, and_true, true_and, false_and, and_false, eq_self, true_or, or_true, if_true, if_false, Nat.lt_irrefl, Nat.reduceLT, Nat.reduceLeDiff, Nat.reduceEqDiff, Nat.reduceAdd, Nat.reduceSub, Int.reduceAdd, Int.zero_add, Nat.zero_lt_one, Nat.zero_add, Nat.le_refl, Nat.zero_le, ne_eq, not_false_eq_true, jb_0, jb_1, jb_01, jb_em, jz_0, jz_1, ji_nI, jt_nI, ja_nI, jm_nI, jlt_nI, jle_nI, jeq_nI, jeq0, jeq1, false_or, or_false, jlt0, jge0, jgt0, jle0, not_true_eq_false, false_implies, implies_true, true_implies, Classical.not_not, jm_rw1, jm_rwa, jm_rwl1, jm_rwl2, jm_rw1l, jm_rwal, jm_w1_wa, jm_w1_wn, jm_wa_wa, ja_0, jn_0, jl_len0, ja_11, jn_11, jl_len11, ja_12, jn_12, jl_len12, ja_13, jn_13, jl_len13, ja_14, jn_14, jl_len14, ja_15, jn_15, jl_len15, jra_15, ja_16, jn_16, jl_len16, ja_17, jn_17, jl_len17, ja_18, jn_18, jl_len18, ja_19, jn_19, jl_len19, ja_20, jn_20, jl_len20, ja_21, jn_21, jl_len21, ja_22, jn_22, jl_len22, ja_23, jn_23, jl_len23, ja_24, jn_24, jl_len24, ja_25, jn_25, jl_len25, ja_26, jn_26, jl_len26, ja_27, jn_27, jl_len27, ja_28, jn_28, jl_len28, ja_29, jn_29, jl_len29, jra_29, ja_30, jn_30, jl_len30, ja_31, jn_31, jl_len31, ja_32, jn_32, jl_len32, ja_33, jn_33, jl_len33, ja_34, jn_34, jl_len34, ja_35, jn_35, jl_len35, ja_36, jn_36, jl_len36, ja_37, jn_37, jl_len37, ja_38, jn_38, jl_len38, ja_39, jn_39, jl_len39, ja_40, jn_40, jl_len40, ja_41, jn_41, jl_len41, ja_42, jn_42, jl_len42, ja_43, jn_43, jl_len43, ja_44, jn_44, jl_len44, ja_45, jn_45, jl_len45, ja_46, jn_46, jl_len46, ja_47, jn_47, jl_len47]
  have := asNow_loop (x := x) h 16 0 (μ.1 40 0) (by omega) (fun b q => by omega)
  rw [jm_wa_id] at this
  exact this
theorem kA_loop2 {t : Nat} (ht : t < 10) (h20 : μ.1 10 0 20 = nI t) (g : Nat → Int32) (h : ∀ f, (∀ a, a < 16 → f (16 * t + a) = μ.1 39 0 a) → (∀ a, a < 16 * t → f a = g a) → Q none (jm_wa (jm_w1 μ 10 0 20 (nI (t + 1))) 43 0 f)) : ∀ (n a : Nat) (f : Nat → Int32), a + n = 16 → (∀ b, b < a → f (16 * t + b) = μ.1 39 0 b) → (∀ a, a < 16 * t → f a = g a) → jm_W x mX9_keepsAct Q 47 ([some (.inr (.inr (10, 0))), some (.inl (nI a))], [], jm_wa μ 43 0 f) := by
  intro n
  induction n with
  | zero =>
    intro a f ha hf hg
    refine sX9_keepsAct_47 _ ?_
    simp (disch := omega) only [bX9_keepsAct_47, h20, jm_ic, jm_lc, jm_il, jm_il2, jm_al, jm_al2, jm_is, jm_as, jm_inc, jm_inc2, jm_bin, jm_neg, jm_div, jm_rem, jm_ladd, jm_i2c, jm_dup, jm_dup2, jm_pop, jm_gI, jm_gL, jm_gR, jm_gC, jm_pI, jm_pZ, jm_pL, jm_gA, jm_ald, jm_ast, jm_aal, jm_alen, jm_cp, jm_c1, jm_c2, jm_c3, jm_v1, jm_v2, jm_v3, jm_v4, jm_v5, jm_if, jm_cmp, jm_ri, jm_rz, jm_rl, jm_rv, jm_tsw, jm_swk, jm_lsw, jm_lkk, jm_nth, jm_put, jm_sm, jm_p1, jm_p2, jm_p3, jm_m1, jm_m2, jm_ar, List.map_cons, List.map_nil, List.cons_append, List.nil_append, List.replicate_succ, List.replicate_zero, List.length_cons, List.length_nil, Option.toList_some, Option.toList_none, and_true, true_and, false_and, and_false, eq_self, true_or, or_true, if_true, if_false, Nat.lt_irrefl, Nat.reduceLT, Nat.reduceLeDiff, Nat.reduceEqDiff, Nat.reduceAdd, Nat.reduceSub, Int.reduceAdd, Int.zero_add, Nat.zero_lt_one, Nat.zero_add, Nat.le_refl, Nat.zero_le, ne_eq, not_false_eq_true, jb_0, jb_1, jb_01, jb_em, jz_0, jz_1, ji_nI, jt_nI, ja_nI, jm_nI, jlt_nI, jle_nI, jeq_nI, jeq0, jeq1, false_or, or_false, jlt0, jge0, jgt0, jle0, not_true_eq_false, false_implies, implies_true, true_implies, Classical.not_not, jm_rw1, jm_rwa, jm_rwl1, jm_rwl2, jm_rw1l, jm_rwal, jm_w1_wa, jm_w1_wn, jm_wa_wa, ja_0, jn_0, jl_len0, ja_11, jn_11, jl_len11, ja_12, jn_12, jl_len12, ja_13, jn_13, jl_len13, ja_14, jn_14, jl_len14, ja_15, jn_15, jl_len15, jra_15, ja_16, jn_16, jl_len16, ja_17, jn_17, jl_len17, ja_18, jn_18, jl_len18, ja_19, jn_19, jl_len19, ja_20, jn_20, jl_len20, ja_21, jn_21, jl_len21, ja_22, jn_22, jl_len22, ja_23, jn_23, jl_len23, ja_24, jn_24, jl_len24, ja_25, jn_25, jl_len25, ja_26, jn_26, jl_len26, ja_27, jn_27, jl_len27, ja_28, jn_28, jl_len28, ja_29, jn_29, jl_len29, jra_29, ja_30, jn_30, jl_len30, ja_31, jn_31, jl_len31, ja_32, jn_32, jl_len32, ja_33, jn_33, jl_len33, ja_34, jn_34, jl_len34, ja_35, jn_35, jl_len35, ja_36, jn_36, jl_len36, ja_37, jn_37, jl_len37, ja_38, jn_38, jl_len38, ja_39, jn_39, jl_len39, ja_40, jn_40, jl_len40, ja_41, jn_41, jl_len41, ja_42, jn_42, jl_len42, ja_43, jn_43, jl_len43, ja_44, jn_44, jl_len44, ja_45, jn_45, jl_len45, ja_46, jn_46, jl_len46, ja_47, jn_47, jl_len47]
    refine ⟨fun _ => h f (fun b q => hf b (by omega)) hg, fun q => by omega⟩
  | succ n ih =>
    intro a f ha hf hg
    refine sX9_keepsAct_47 _ ?_
    simp (disch := omega) only [bX9_keepsAct_47, h20, jm_ic, jm_lc, jm_il, jm_il2, jm_al, jm_al2, jm_is, jm_as, jm_inc, jm_inc2, jm_bin, jm_neg, jm_div, jm_rem, jm_ladd, jm_i2c, jm_dup, jm_dup2, jm_pop, jm_gI, jm_gL, jm_gR, jm_gC, jm_pI, jm_pZ, jm_pL, jm_gA, jm_ald, jm_ast, jm_aal, jm_alen, jm_cp, jm_c1, jm_c2, jm_c3, jm_v1, jm_v2, jm_v3, jm_v4, jm_v5, jm_if, jm_cmp, jm_ri, jm_rz, jm_rl, jm_rv, jm_tsw, jm_swk, jm_lsw, jm_lkk, jm_nth, jm_put, jm_sm, jm_p1, jm_p2, jm_p3, jm_m1, jm_m2, jm_ar, List.map_cons, List.map_nil, List.cons_append, List.nil_append, List.replicate_succ, List.replicate_zero, List.length_cons, List.length_nil, Option.toList_some, Option.toList_none, and_true, true_and, false_and, and_false, eq_self, true_or, or_true, if_true, if_false, Nat.lt_irrefl, Nat.reduceLT, Nat.reduceLeDiff, Nat.reduceEqDiff, Nat.reduceAdd, Nat.reduceSub, Int.reduceAdd, Int.zero_add, Nat.zero_lt_one, Nat.zero_add, Nat.le_refl, Nat.zero_le, ne_eq, not_false_eq_true, jb_0, jb_1, jb_01, jb_em, jz_0, jz_1, ji_nI, jt_nI, ja_nI, jm_nI, jlt_nI, jle_nI, jeq_nI, jeq0, jeq1, false_or, or_false, jlt0, jge0, jgt0, jle0, not_true_eq_false, false_implies, implies_true, true_implies, Classical.not_not, jm_rw1, jm_rwa, jm_rwl1, jm_rwl2, jm_rw1l, jm_rwal, jm_w1_wa, jm_w1_wn, jm_wa_wa, ja_0, jn_0, jl_len0, ja_11, jn_11, jl_len11, ja_12, jn_12, jl_len12, ja_13, jn_13, jl_len13, ja_14, jn_14, jl_len14, ja_15, jn_15, jl_len15, jra_15, ja_16, jn_16, jl_len16, ja_17, jn_17, jl_len17, ja_18, jn_18, jl_len18, ja_19, jn_19, jl_len19, ja_20, jn_20, jl_len20, ja_21, jn_21, jl_len21, ja_22, jn_22, jl_len22, ja_23, jn_23, jl_len23, ja_24, jn_24, jl_len24, ja_25, jn_25, jl_len25, ja_26, jn_26, jl_len26, ja_27, jn_27, jl_len27, ja_28, jn_28, jl_len28, ja_29, jn_29, jl_len29, jra_29, ja_30, jn_30, jl_len30, ja_31, jn_31, jl_len31, ja_32, jn_32, jl_len32, ja_33, jn_33, jl_len33, ja_34, jn_34, jl_len34, ja_35, jn_35, jl_len35, ja_36, jn_36, jl_len36, ja_37, jn_37, jl_len37, ja_38, jn_38, jl_len38, ja_39, jn_39, jl_len39, ja_40, jn_40, jl_len40, ja_41, jn_41, jl_len41, ja_42, jn_42, jl_len42, ja_43, jn_43, jl_len43, ja_44, jn_44, jl_len44, ja_45, jn_45, jl_len45, ja_46, jn_46, jl_len46, ja_47, jn_47, jl_len47]
    refine ⟨fun q => by omega, fun _ => ih (a + 1) _ (by omega) (fun b q => ?_) (fun b q => ?_)⟩
    · by_cases e : b = a
      · rw [e, upd_at]
      · rw [upd_ne (by omega)]; exact hf b (by omega)
    · rw [upd_ne (by omega)]; exact hg b q
theorem kA_loop1 (h : ∀ f, (∀ a, a < 144 → f a = μ.1 43 0 (a + 16)) → jm_W x mX9_keepsAct Q 47 ([some (.inr (.inr (10, 0))), some (.inl (nI 0))], [], jm_wa (jm_w1 μ 10 0 20 (nI 9)) 43 0 f)) : ∀ (n a : Nat) (f : Nat → Int32), a + n = 144 → (∀ b, b < a → f b = μ.1 43 0 (b + 16)) → (∀ b, a ≤ b → f b = μ.1 43 0 b) → jm_W x mX9_keepsAct Q 11 ([some (.inr (.inr (10, 0))), some (.inl (nI a))], [], jm_wa μ 43 0 f) := by
  intro n
  induction n with
  | zero =>
    intro a f ha hf hg
    refine sX9_keepsAct_11 _ ?_
    simp (disch := omega) only [bX9_keepsAct_11, jm_ic, jm_lc, jm_il, jm_il2, jm_al, jm_al2, jm_is, jm_as, jm_inc, jm_inc2, jm_bin, jm_neg, jm_div, jm_rem, jm_ladd, jm_i2c, jm_dup, jm_dup2, jm_pop, jm_gI, jm_gL, jm_gR, jm_gC, jm_pI, jm_pZ, jm_pL, jm_gA, jm_ald, jm_ast, jm_aal, jm_alen, jm_cp, jm_c1, jm_c2, jm_c3, jm_v1, jm_v2, jm_v3, jm_v4, jm_v5, jm_if, jm_cmp, jm_ri, jm_rz, jm_rl, jm_rv, jm_tsw, jm_swk, jm_lsw, jm_lkk, jm_nth, jm_put, jm_sm, jm_p1, jm_p2, jm_p3, jm_m1, jm_m2, jm_ar, List.map_cons, List.map_nil, List.cons_append, List.nil_append, List.replicate_succ, List.replicate_zero, List.length_cons, List.length_nil, Option.toList_some, Option.toList_none, and_true, true_and, false_and, and_false, eq_self, true_or, or_true, if_true, if_false, Nat.lt_irrefl, Nat.reduceLT, Nat.reduceLeDiff, Nat.reduceEqDiff, Nat.reduceAdd, Nat.reduceSub, Int.reduceAdd, Int.zero_add, Nat.zero_lt_one, Nat.zero_add, Nat.le_refl, Nat.zero_le, ne_eq, not_false_eq_true, jb_0, jb_1, jb_01, jb_em, jz_0, jz_1, ji_nI, jt_nI, ja_nI, jm_nI, jlt_nI, jle_nI, jeq_nI, jeq0, jeq1, false_or, or_false, jlt0, jge0, jgt0, jle0, not_true_eq_false, false_implies, implies_true, true_implies, Classical.not_not, jm_rw1, jm_rwa, jm_rwl1, jm_rwl2, jm_rw1l, jm_rwal, jm_w1_wa, jm_w1_wn, jm_wa_wa, ja_0, jn_0, jl_len0, ja_11, jn_11, jl_len11, ja_12, jn_12, jl_len12, ja_13, jn_13, jl_len13, ja_14, jn_14, jl_len14, ja_15, jn_15, jl_len15, jra_15, ja_16, jn_16, jl_len16, ja_17, jn_17, jl_len17, ja_18, jn_18, jl_len18, ja_19, jn_19, jl_len19, ja_20, jn_20, jl_len20, ja_21, jn_21, jl_len21, ja_22, jn_22, jl_len22, ja_23, jn_23, jl_len23, ja_24, jn_24, jl_len24, ja_25, jn_25, jl_len25, ja_26, jn_26, jl_len26, ja_27, jn_27, jl_len27, ja_28, jn_28, jl_len28, ja_29, jn_29, jl_len29, jra_29, ja_30, jn_30, jl_len30, ja_31, jn_31, jl_len31, ja_32, jn_32, jl_len32, ja_33, jn_33, jl_len33, ja_34, jn_34, jl_len34, ja_35, jn_35, jl_len35, ja_36, jn_36, jl_len36, ja_37, jn_37, jl_len37, ja_38, jn_38, jl_len38, ja_39, jn_39, jl_len39, ja_40, jn_40, jl_len40, ja_41, jn_41, jl_len41, ja_42, jn_42, jl_len42, ja_43, jn_43, jl_len43, ja_44, jn_44, jl_len44, ja_45, jn_45, jl_len45, ja_46, jn_46, jl_len46, ja_47, jn_47, jl_len47]
    refine ⟨fun _ => h f (fun b q => hf b (by omega)), fun q => by omega⟩
  | succ n ih =>
    intro a f ha hf hg
    refine sX9_keepsAct_11 _ ?_
    simp (disch := omega) only [bX9_keepsAct_11, jm_ic, jm_lc, jm_il, jm_il2, jm_al, jm_al2, jm_is, jm_as, jm_inc, jm_inc2, jm_bin, jm_neg, jm_div, jm_rem, jm_ladd, jm_i2c, jm_dup, jm_dup2, jm_pop, jm_gI, jm_gL, jm_gR, jm_gC, jm_pI, jm_pZ, jm_pL, jm_gA, jm_ald, jm_ast, jm_aal, jm_alen, jm_cp, jm_c1, jm_c2, jm_c3, jm_v1, jm_v2, jm_v3, jm_v4, jm_v5, jm_if, jm_cmp, jm_ri, jm_rz, jm_rl, jm_rv, jm_tsw, jm_swk, jm_lsw, jm_lkk, jm_nth, jm_put, jm_sm, jm_p1, jm_p2, jm_p3, jm_m1, jm_m2, jm_ar, List.map_cons, List.map_nil, List.cons_append, List.nil_append, List.replicate_succ, List.replicate_zero, List.length_cons, List.length_nil, Option.toList_some, Option.toList_none, and_true, true_and, false_and, and_false, eq_self, true_or, or_true, if_true, if_false, Nat.lt_irrefl, Nat.reduceLT, Nat.reduceLeDiff, Nat.reduceEqDiff, Nat.reduceAdd, Nat.reduceSub, Int.reduceAdd, Int.zero_add, Nat.zero_lt_one, Nat.zero_add, Nat.le_refl, Nat.zero_le, ne_eq, not_false_eq_true, jb_0, jb_1, jb_01, jb_em, jz_0, jz_1, ji_nI, jt_nI, ja_nI, jm_nI, jlt_nI, jle_nI, jeq_nI, jeq0, jeq1, false_or, or_false, jlt0, jge0, jgt0, jle0, not_true_eq_false, false_implies, implies_true, true_implies, Classical.not_not, jm_rw1, jm_rwa, jm_rwl1, jm_rwl2, jm_rw1l, jm_rwal, jm_w1_wa, jm_w1_wn, jm_wa_wa, ja_0, jn_0, jl_len0, ja_11, jn_11, jl_len11, ja_12, jn_12, jl_len12, ja_13, jn_13, jl_len13, ja_14, jn_14, jl_len14, ja_15, jn_15, jl_len15, jra_15, ja_16, jn_16, jl_len16, ja_17, jn_17, jl_len17, ja_18, jn_18, jl_len18, ja_19, jn_19, jl_len19, ja_20, jn_20, jl_len20, ja_21, jn_21, jl_len21, ja_22, jn_22, jl_len22, ja_23, jn_23, jl_len23, ja_24, jn_24, jl_len24, ja_25, jn_25, jl_len25, ja_26, jn_26, jl_len26, ja_27, jn_27, jl_len27, ja_28, jn_28, jl_len28, ja_29, jn_29, jl_len29, jra_29, ja_30, jn_30, jl_len30, ja_31, jn_31, jl_len31, ja_32, jn_32, jl_len32, ja_33, jn_33, jl_len33, ja_34, jn_34, jl_len34, ja_35, jn_35, jl_len35, ja_36, jn_36, jl_len36, ja_37, jn_37, jl_len37, ja_38, jn_38, jl_len38, ja_39, jn_39, jl_len39, ja_40, jn_40, jl_len40, ja_41, jn_41, jl_len41, ja_42, jn_42, jl_len42, ja_43, jn_43, jl_len43, ja_44, jn_44, jl_len44, ja_45, jn_45, jl_len45, ja_46, jn_46, jl_len46, ja_47, jn_47, jl_len47]
    refine ⟨fun q => by omega, fun _ => ih (a + 1) _ (by omega) (fun b q => ?_) (fun b q => ?_)⟩
    · by_cases e : b = a
      · rw [e, upd_at]; exact hg _ (by omega)
      · rw [upd_ne e]; exact hf b (by omega)
    · rw [upd_ne (by omega)]; exact hg b (by omega)
theorem c_keepsAct {σ : jS} {un : Nat} {uf : Nat → jS} (hU : MU un uf μ) (hR : RS σ 39 0 μ) (h : ∀ f v, MU (uadd un) (upush σ uf) (jm_wa (jm_w1 μ 10 0 20 v) 43 0 f) → Q none (jm_wa (jm_w1 μ 10 0 20 v) 43 0 f)) : jm_C x mX9_keepsAct [.inr (.inr (10, 0))] μ Q := by
  obtain ⟨u1, u2, u3⟩ := hU
  have hrow : ∀ a, a < 16 → μ.1 39 0 a = srow σ a := fun a ha => by have := hR a ha; rwa [Nat.zero_add] at this
  refine jm_C_of2 (n := 1) (by decide +kernel) (Nat.le_of_ble_eq_true rfl) rfl rfl ?_
  refine sX9_keepsAct_0 _ ?_
  simp (disch := omega) only [bX9_keepsAct_0, u2, jm_ic, jm_lc, jm_il, jm_il2, jm_al, jm_al2, jm_is, jm_as, jm_inc, jm_inc2, jm_bin, jm_neg, jm_div, jm_rem, jm_ladd, jm_i2c, jm_dup, jm_dup2, jm_pop, jm_gI, jm_gL, jm_gR, jm_gC, jm_pI, jm_pZ, jm_pL, jm_gA, jm_ald, jm_ast, jm_aal, jm_alen, jm_cp, jm_c1, jm_c2, jm_c3, jm_v1, jm_v2, jm_v3, jm_v4, jm_v5, jm_if, jm_cmp, jm_ri, jm_rz, jm_rl, jm_rv, jm_tsw, jm_swk, jm_lsw, jm_lkk, jm_nth, jm_put, jm_sm, jm_p1, jm_p2, jm_p3, jm_m1, jm_m2, jm_ar, List.map_cons, List.map_nil, List.cons_append, List.nil_append, List.replicate_succ, List.replicate_zero, List.length_cons, List.length_nil, Option.toList_some, Option.toList_none, and_true, true_and, false_and, and_false, eq_self, true_or, or_true, if_true, if_false, Nat.lt_irrefl, Nat.reduceLT, Nat.reduceLeDiff, Nat.reduceEqDiff, Nat.reduceAdd, Nat.reduceSub, Int.reduceAdd, Int.zero_add, Nat.zero_lt_one, Nat.zero_add, Nat.le_refl, Nat.zero_le, ne_eq, not_false_eq_true, jb_0, jb_1, jb_01, jb_em, jz_0, jz_1, ji_nI, jt_nI, ja_nI, jm_nI, jlt_nI, jle_nI, jeq_nI, jeq0, jeq1, false_or, or_false, jlt0, jge0, jgt0, jle0, not_true_eq_false, false_implies, implies_true, true_implies, Classical.not_not, jm_rw1, jm_rwa, jm_rwl1, jm_rwl2, jm_rw1l, jm_rwal, jm_w1_wa, jm_w1_wn, jm_wa_wa, ja_0, jn_0, jl_len0, ja_11, jn_11, jl_len11, ja_12, jn_12, jl_len12, ja_13, jn_13, jl_len13, ja_14, jn_14, jl_len14, ja_15, jn_15, jl_len15, jra_15, ja_16, jn_16, jl_len16, ja_17, jn_17, jl_len17, ja_18, jn_18, jl_len18, ja_19, jn_19, jl_len19, ja_20, jn_20, jl_len20, ja_21, jn_21, jl_len21, ja_22, jn_22, jl_len22, ja_23, jn_23, jl_len23, ja_24, jn_24, jl_len24, ja_25, jn_25, jl_len25, ja_26, jn_26, jl_len26, ja_27, jn_27, jl_len27, ja_28, jn_28, jl_len28, ja_29, jn_29, jl_len29, jra_29, ja_30, jn_30, jl_len30, ja_31, jn_31, jl_len31, ja_32, jn_32, jl_len32, ja_33, jn_33, jl_len33, ja_34, jn_34, jl_len34, ja_35, jn_35, jl_len35, ja_36, jn_36, jl_len36, ja_37, jn_37, jl_len37, ja_38, jn_38, jl_len38, ja_39, jn_39, jl_len39, ja_40, jn_40, jl_len40, ja_41, jn_41, jl_len41, ja_42, jn_42, jl_len42, ja_43, jn_43, jl_len43, ja_44, jn_44, jl_len44, ja_45, jn_45, jl_len45, ja_46, jn_46, jl_len46, ja_47, jn_47, jl_len47]
  refine ⟨fun q => ?_, fun q => ?_⟩
  · have := kA_loop1 (x := x) (Q := Q) (μ := μ) (fun f hf => ?_) 144 0 (μ.1 43 0) (by omega) (fun b q => by omega) (fun b _ => rfl)
    · rw [jm_wa_id] at this
      exact this
    · have := kA_loop2 (x := x) (Q := Q) (μ := jm_w1 μ 10 0 20 (nI 9)) (t := 9) (by omega) rfl (fun a => μ.1 43 0 (a + 16)) (fun g hg hg2 => ?_) 16 0 f (by omega) (fun b q => by omega) (fun a q => hf a (by omega))
      · exact this
      · have e : jm_w1 (jm_w1 μ 10 0 20 (nI 9)) 10 0 20 (nI 10) = jm_w1 μ 10 0 20 (nI 10) := by
          unfold jm_w1
          rw [jm_wa_wa, jm_wa_same]
          congr 1
          funext i
          unfold upd
          split <;> rfl
        rw [e]
        refine h g _ ⟨by unfold uadd; rw [if_pos q]; decide, by unfold uadd; rw [if_pos q]; rfl, fun i hi => ?_⟩
        have hu : uadd un = 10 := by unfold uadd; rw [if_pos q]
        rw [hu] at hi ⊢
        intro a ha
        show g (16 * (10 - 1 - i) + a) = _
        cases i with
        | zero => rw [show 16 * (10 - 1 - 0) + a = 16 * 9 + a by omega, hg a ha]; exact hrow a ha
        | succ i =>
          rw [hg2 _ (by omega)]
          have := u3 i (by omega) a ha
          rw [q] at this
          show μ.1 43 0 _ = _
          rw [show 16 * (10 - 1 - (i + 1)) + a + 16 = 16 * (10 - 1 - i) + a by omega]
          exact this
  · have hu : uadd un = un + 1 := by unfold uadd; rw [if_neg q]
    have := kA_loop2 (x := x) (Q := Q) (μ := μ) (t := un) (by omega) u2 (μ.1 43 0) (fun g hg hg2 => ?_) 16 0 (μ.1 43 0) (by omega) (fun b q => by omega) (fun a q => rfl)
    · rw [jm_wa_id] at this
      exact this
    · refine h g _ ⟨by omega, by rw [hu]; rfl, fun i hi => ?_⟩
      rw [hu] at hi ⊢
      intro a ha
      show g (16 * (un + 1 - 1 - i) + a) = _
      cases i with
      | zero => rw [show 16 * (un + 1 - 1 - 0) + a = 16 * un + a by omega, hg a ha]; exact hrow a ha
      | succ i =>
        rw [hg2 _ (by omega)]
        have := u3 i (by omega) a ha
        rw [show 16 * (un + 1 - 1 - (i + 1)) + a = 16 * (un - 1 - i) + a by omega]
        exact this
end JR
