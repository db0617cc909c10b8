/-! step: share, the odometer -/
theorem dv_y {b i : Nat} (hb : 0 < b) (h : b ∣ i + 1) : (i + 1) / b = i / b + 1 := by
  obtain ⟨k, hk⟩ := h
  have hk0 : 0 < k := by
    rcases Nat.eq_zero_or_pos k with h0 | h0
    · rw [h0, Nat.mul_zero] at hk; omega
    · exact h0
  obtain ⟨j, rfl⟩ : ∃ j, k = j + 1 := ⟨k - 1, by omega⟩
  have h1 : i / b = j := by
    refine Nat.div_eq_of_lt_le ?_ ?_
    · rw [Nat.mul_comm]; rw [Nat.mul_succ] at hk; omega
    · rw [Nat.mul_comm]; omega
  rw [hk, Nat.mul_div_cancel_left _ hb, h1]
theorem dv_n {b i : Nat} (hb : 0 < b) (h : ¬ b ∣ i + 1) : (i + 1) / b = i / b := by
  refine Nat.div_eq_of_lt_le ?_ ?_
  · have := Nat.div_mul_le_self i b; omega
  · have h1 := Nat.div_add_mod i b
    have h2 := Nat.mod_lt i hb
    have h3 : i + 1 ≠ b * (i / b + 1) := fun q => h ⟨_, q⟩
    have h4 : i + 1 ≤ b * (i / b + 1) := by rw [Nat.mul_succ]; omega
    rw [Nat.mul_comm (i / b + 1) b]
    omega
theorem od_stop {M P i p q : Nat} (hM : 0 < M) (hp : p < P) (h : M ^ (P - 1 - p) ∣ i + 1) (hd : wayD M P i p + 1 < M) (hq : q < p) : wayD M P (i + 1) q = wayD M P i q := by
  unfold wayD at hd ⊢
  rw [dv_n (Nat.pow_pos hM)]
  intro hq'
  have h1 : M ^ (P - 1 - p) * M ∣ i + 1 := Nat.dvd_trans (by rw [← Nat.pow_succ]; exact Nat.pow_dvd_pow M (by omega)) hq'
  obtain ⟨k, hk⟩ := h1
  have h2 := dv_y (Nat.pow_pos hM) h
  rw [hk, Nat.mul_assoc, Nat.mul_div_cancel_left _ (Nat.pow_pos hM)] at h2
  have h3 := Nat.div_add_mod (i / M ^ (P - 1 - p)) M
  have h4 : M * k = M * (i / M ^ (P - 1 - p) / M) + (i / M ^ (P - 1 - p) % M + 1) := by omega
  have h5 : (M * k) % M = 0 := Nat.mul_mod_right M k
  rw [h4, Nat.mul_add_mod, Nat.mod_eq_of_lt hd] at h5
  omega
theorem od_at {M P i p : Nat} (hM : 0 < M) (h : M ^ (P - 1 - p) ∣ i + 1) : wayD M P (i + 1) p = if wayD M P i p + 1 < M then wayD M P i p + 1 else 0 := by
  unfold wayD
  rw [dv_y (Nat.pow_pos hM) h]
  have h3 := Nat.mod_lt (i / M ^ (P - 1 - p)) hM
  rw [Nat.add_mod]
  split
  · rename_i q
    by_cases h1 : M = 1
    · omega
    · rw [Nat.mod_eq_of_lt (a := 1) (by omega), Nat.mod_eq_of_lt q]
  · rename_i q
    by_cases h1 : M = 1
    · rw [h1]; omega
    · rw [Nat.mod_eq_of_lt (a := 1) (by omega), show i / M ^ (P - 1 - p) % M + 1 = M by omega, Nat.mod_self]
theorem od_on {M P i p : Nat} (hM : 0 < M) (hp : p + 1 < P) (h : M ^ (P - 1 - (p + 1)) ∣ i + 1) (hd : ¬ wayD M P i (p + 1) + 1 < M) : M ^ (P - 1 - p) ∣ i + 1 := by
  have h1 := od_at hM h
  rw [if_neg hd] at h1
  unfold wayD at h1
  obtain ⟨k, hk⟩ := h
  rw [hk, Nat.mul_div_cancel_left _ (Nat.pow_pos hM)] at h1
  obtain ⟨j, hj⟩ := Nat.dvd_of_mod_eq_zero h1
  rw [hk, hj, show P - 1 - p = P - 1 - (p + 1) + 1 by omega, Nat.pow_succ]
  exact ⟨j, by rw [Nat.mul_assoc]⟩
section JSJ
variable {x : jm_X} {c : jT} {μ : jm_M} {Q : Option jm_V → jm_M → Prop}
theorem hm_loop (hc : cW c) (hT : TC c 0 μ) (hM0 : 0 < cM c) (q : Q (some (.inl (nI (shA c)))) μ) : ∀ (n k : Nat), k + n = cP c → jm_W x mX4_howManyWays Q 16 ([some (.inr (.inr (5, 0))), some (.inl (nI (cM c ^ k))), some (.inl (nI k))], [], μ) := by
  have c1 := hc.1
  have c2 := hc.2.1
  have eP := hT.2.2.2.1
  have eM := hT.2.2.2.2.1
  intro n
  induction n with
  | zero =>
    intro k hk
    refine sX4_howManyWays_16 _ ?_
    simp (disch := omega) only [bX4_howManyWays_16, eP, jm_ic, jm_lc, jm_il, jm_il2, jm_al, jm_al2, jm_is, jm_as, jm_inc, jm_inc2, jm_bin, jm_neg, jm_div, jm_rem, jm_ladd, jm_i2c, jm_dup, jm_dup2, jm_pop, jm_gI, jm_gL, jm_gR, jm_gC, jm_pI, jm_pZ, jm_pL, jm_gA, jm_ald, jm_ast, jm_aal, jm_alen, jm_cp, jm_c1, jm_c2, jm_c3, jm_v1, jm_v2, jm_v3, jm_v4, jm_v5, jm_if, jm_cmp, jm_ri, jm_rz, jm_rl, jm_rv, jm_tsw, jm_swk, jm_lsw, jm_lkk, jm_nth, jm_put, jm_sm, jm_p1, jm_p2, jm_p3, jm_m1, jm_m2, jm_ar, List.map_cons, List.map_nil, List.cons_append, List.nil_append, List.replicate_succ, List.replicate_zero, List.length_cons, List.length_nil, Option.toList_some, Option.toList_none, and_true, true_and, false_and, and_false, eq_self, true_or, or_true, if_true, if_false, Nat.lt_irrefl, Nat.reduceLT, Nat.reduceLeDiff, Nat.reduceEqDiff, Nat.reduceAdd, Nat.reduceSub, Int.reduceAdd, Int.zero_add, Nat.zero_lt_one, Nat.zero_add, Nat.le_refl, Nat.zero_le, ne_eq, not_false_eq_true, jb_0, jb_1, jb_01, jb_em, jz_0, jz_1, ji_nI, jt_nI, ja_nI, jm_nI, jlt_nI, jle_nI, jeq_nI, jeq0, jeq1, false_or, or_false, jlt0, jge0, jgt0, jle0, not_true_eq_false, false_implies, implies_true, true_implies, Classical.not_not, jm_rw1, jm_rwa, jm_rwl1, jm_rwl2, jm_rw1l, jm_rwal, jm_w1_wa, jm_w1_wn, jm_wa_wa, ja_0, jn_0, jl_len0, ja_11, jn_11, jl_len11, ja_12, jn_12, jl_len12, ja_13, jn_13, jl_len13, ja_14, jn_14, jl_len14, ja_15, jn_15, jl_len15, jra_15, ja_16, jn_16, jl_len16, ja_17, jn_17, jl_len17, ja_18, jn_18, jl_len18, ja_19, jn_19, jl_len19, ja_20, jn_20, jl_len20, ja_21, jn_21, jl_len21, ja_22, jn_22, jl_len22, ja_23, jn_23, jl_len23, ja_24, jn_24, jl_len24, ja_25, jn_25, jl_len25, ja_26, jn_26, jl_len26, ja_27, jn_27, jl_len27, ja_28, jn_28, jl_len28, ja_29, jn_29, jl_len29, jra_29, ja_30, jn_30, jl_len30, ja_31, jn_31, jl_len31, ja_32, jn_32, jl_len32, ja_33, jn_33, jl_len33, ja_34, jn_34, jl_len34, ja_35, jn_35, jl_len35, ja_36, jn_36, jl_len36, ja_37, jn_37, jl_len37, ja_38, jn_38, jl_len38, ja_39, jn_39, jl_len39, ja_40, jn_40, jl_len40, ja_41, jn_41, jl_len41, ja_42, jn_42, jl_len42, ja_43, jn_43, jl_len43, ja_44, jn_44, jl_len44, ja_45, jn_45, jl_len45, ja_46, jn_46, jl_len46, ja_47, jn_47, jl_len47]
    refine ⟨fun _ => ?_, fun q => by omega⟩
    unfold shA at q
    rw [if_neg (by omega)] at q
    rw [show k = cP c by omega]; exact q
  | succ n ih =>
    intro k hk
    have := ih (k + 1) (by omega)
    rw [Nat.pow_succ] at this
    refine sX4_howManyWays_16 _ ?_
    simp (disch := omega) only [bX4_howManyWays_16, eP, eM, jm_ic, jm_lc, jm_il, jm_il2, jm_al, jm_al2, jm_is, jm_as, jm_inc, jm_inc2, jm_bin, jm_neg, jm_div, jm_rem, jm_ladd, jm_i2c, jm_dup, jm_dup2, jm_pop, jm_gI, jm_gL, jm_gR, jm_gC, jm_pI, jm_pZ, jm_pL, jm_gA, jm_ald, jm_ast, jm_aal, jm_alen, jm_cp, jm_c1, jm_c2, jm_c3, jm_v1, jm_v2, jm_v3, jm_v4, jm_v5, jm_if, jm_cmp, jm_ri, jm_rz, jm_rl, jm_rv, jm_tsw, jm_swk, jm_lsw, jm_lkk, jm_nth, jm_put, jm_sm, jm_p1, jm_p2, jm_p3, jm_m1, jm_m2, jm_ar, List.map_cons, List.map_nil, List.cons_append, List.nil_append, List.replicate_succ, List.replicate_zero, List.length_cons, List.length_nil, Option.toList_some, Option.toList_none, and_true, true_and, false_and, and_false, eq_self, true_or, or_true, if_true, if_false, Nat.lt_irrefl, Nat.reduceLT, Nat.reduceLeDiff, Nat.reduceEqDiff, Nat.reduceAdd, Nat.reduceSub, Int.reduceAdd, Int.zero_add, Nat.zero_lt_one, Nat.zero_add, Nat.le_refl, Nat.zero_le, ne_eq, not_false_eq_true, jb_0, jb_1, jb_01, jb_em, jz_0, jz_1, ji_nI, jt_nI, ja_nI, jm_nI, jlt_nI, jle_nI, jeq_nI, jeq0, jeq1, false_or, or_false, jlt0, jge0, jgt0, jle0, not_true_eq_false, false_implies, implies_true, true_implies, Classical.not_not, jm_rw1, jm_rwa, jm_rwl1, jm_rwl2, jm_rw1l, jm_rwal, jm_w1_wa, jm_w1_wn, jm_wa_wa, ja_0, jn_0, jl_len0, ja_11, jn_11, jl_len11, ja_12, jn_12, jl_len12, ja_13, jn_13, jl_len13, ja_14, jn_14, jl_len14, ja_15, jn_15, jl_len15, jra_15, ja_16, jn_16, jl_len16, ja_17, jn_17, jl_len17, ja_18, jn_18, jl_len18, ja_19, jn_19, jl_len19, ja_20, jn_20, jl_len20, ja_21, jn_21, jl_len21, ja_22, jn_22, jl_len22, ja_23, jn_23, jl_len23, ja_24, jn_24, jl_len24, ja_25, jn_25, jl_len25, ja_26, jn_26, jl_len26, ja_27, jn_27, jl_len27, ja_28, jn_28, jl_len28, ja_29, jn_29, jl_len29, jra_29, ja_30, jn_30, jl_len30, ja_31, jn_31, jl_len31, ja_32, jn_32, jl_len32, ja_33, jn_33, jl_len33, ja_34, jn_34, jl_len34, ja_35, jn_35, jl_len35, ja_36, jn_36, jl_len36, ja_37, jn_37, jl_len37, ja_38, jn_38, jl_len38, ja_39, jn_39, jl_len39, ja_40, jn_40, jl_len40, ja_41, jn_41, jl_len41, ja_42, jn_42, jl_len42, ja_43, jn_43, jl_len43, ja_44, jn_44, jl_len44, ja_45, jn_45, jl_len45, ja_46, jn_46, jl_len46, ja_47, jn_47, jl_len47]
    exact ⟨fun q => by omega, fun _ => this⟩
theorem c_howMany (hc : cW c) (hT : TC c 0 μ) (q : Q (some (.inl (nI (shA c)))) μ) : jm_C x mX4_howManyWays [.inr (.inr (5, 0))] μ Q := by
  have c2 := hc.2.1
  have eM := hT.2.2.2.2.1
  rcases Nat.eq_zero_or_pos (cM c) with h0 | h0
  · unfold shA at q
    rw [if_pos h0] at q
    refine jm_C_of2 (n := 2) (by decide +kernel) (Nat.le_of_ble_eq_true rfl) rfl rfl ?_
    refine sX4_howManyWays_0 _ ?_
    simp (disch := omega) only [bX4_howManyWays_0, eM, h0, jm_ic, jm_lc, jm_il, jm_il2, jm_al, jm_al2, jm_is, jm_as, jm_inc, jm_inc2, jm_bin, jm_neg, jm_div, jm_rem, jm_ladd, jm_i2c, jm_dup, jm_dup2, jm_pop, jm_gI, jm_gL, jm_gR, jm_gC, jm_pI, jm_pZ, jm_pL, jm_gA, jm_ald, jm_ast, jm_aal, jm_alen, jm_cp, jm_c1, jm_c2, jm_c3, jm_v1, jm_v2, jm_v3, jm_v4, jm_v5, jm_if, jm_cmp, jm_ri, jm_rz, jm_rl, jm_rv, jm_tsw, jm_swk, jm_lsw, jm_lkk, jm_nth, jm_put, jm_sm, jm_p1, jm_p2, jm_p3, jm_m1, jm_m2, jm_ar, List.map_cons, List.map_nil, List.cons_append, List.nil_append, List.replicate_succ, List.replicate_zero, List.length_cons, List.length_nil, Option.toList_some, Option.toList_none, and_true, true_and, false_and, and_false, eq_self, true_or, or_true, if_true, if_false, Nat.lt_irrefl, Nat.reduceLT, Nat.reduceLeDiff, Nat.reduceEqDiff, Nat.reduceAdd, Nat.reduceSub, Int.reduceAdd, Int.zero_add, Nat.zero_lt_one, Nat.zero_add, Nat.le_refl, Nat.zero_le, ne_eq, not_false_eq_true, jb_0, jb_1, jb_01, jb_em, jz_0, jz_1, ji_nI, jt_nI, ja_nI, jm_nI, jlt_nI, jle_nI, jeq_nI, jeq0, jeq1, false_or, or_false, jlt0, jge0, jgt0, jle0, not_true_eq_false, false_implies, implies_true, true_implies, Classical.not_not, jm_rw1, jm_rwa, jm_rwl1, jm_rwl2, jm_rw1l, jm_rwal, jm_w1_wa, jm_w1_wn, jm_wa_wa, ja_0, jn_0, jl_len0, ja_11, jn_11, jl_len11, ja_12, jn_12, jl_len12, ja_13, jn_13, jl_len13, ja_14, jn_14, jl_len14, ja_15, jn_15, jl_len15, jra_15, ja_16, jn_16, jl_len16, ja_17, jn_17, jl_len17, ja_18, jn_18, jl_len18, ja_19, jn_19, jl_len19, ja_20, jn_20, jl_len20, ja_21, jn_21, jl_len21, ja_22, jn_22, jl_len22, ja_23, jn_23, jl_len23, ja_24, jn_24, jl_len24, ja_25, jn_25, jl_len25, ja_26, jn_26, jl_len26, ja_27, jn_27, jl_len27, ja_28, jn_28, jl_len28, ja_29, jn_29, jl_len29, jra_29, ja_30, jn_30, jl_len30, ja_31, jn_31, jl_len31, ja_32, jn_32, jl_len32, ja_33, jn_33, jl_len33, ja_34, jn_34, jl_len34, ja_35, jn_35, jl_len35, ja_36, jn_36, jl_len36, ja_37, jn_37, jl_len37, ja_38, jn_38, jl_len38, ja_39, jn_39, jl_len39, ja_40, jn_40, jl_len40, ja_41, jn_41, jl_len41, ja_42, jn_42, jl_len42, ja_43, jn_43, jl_len43, ja_44, jn_44, jl_len44, ja_45, jn_45, jl_len45, ja_46, jn_46, jl_len46, ja_47, jn_47, jl_len47]
    exact q
  · have := hm_loop (x := x) hc hT h0 q (cP c) 0 (by omega)
    rw [Nat.pow_zero] at this
    refine jm_C_of2 (n := 2) (by decide +kernel) (Nat.le_of_ble_eq_true rfl) rfl rfl ?_
    refine sX4_howManyWays_0 _ ?_
    simp (disch := omega) only [bX4_howManyWays_0, eM, jm_ic, jm_lc, jm_il, jm_il2, jm_al, jm_al2, jm_is, jm_as, jm_inc, jm_inc2, jm_bin, jm_neg, jm_div, jm_rem, jm_ladd, jm_i2c, jm_dup, jm_dup2, jm_pop, jm_gI, jm_gL, jm_gR, jm_gC, jm_pI, jm_pZ, jm_pL, jm_gA, jm_ald, jm_ast, jm_aal, jm_alen, jm_cp, jm_c1, jm_c2, jm_c3, jm_v1, jm_v2, jm_v3, jm_v4, jm_v5, jm_if, jm_cmp, jm_ri, jm_rz, jm_rl, jm_rv, jm_tsw, jm_swk, jm_lsw, jm_lkk, jm_nth, jm_put, jm_sm, jm_p1, jm_p2, jm_p3, jm_m1, jm_m2, jm_ar, List.map_cons, List.map_nil, List.cons_append, List.nil_append, List.replicate_succ, List.replicate_zero, List.length_cons, List.length_nil, Option.toList_some, Option.toList_none, and_true, true_and, false_and, and_false, eq_self, true_or, or_true, if_true, if_false, Nat.lt_irrefl, Nat.reduceLT, Nat.reduceLeDiff, Nat.reduceEqDiff, Nat.reduceAdd, Nat.reduceSub, Int.reduceAdd, Int.zero_add, Nat.zero_lt_one, Nat.zero_add, Nat.le_refl, Nat.zero_le, ne_eq, not_false_eq_true, jb_0, jb_1, jb_01, jb_em, jz_0, jz_1, ji_nI, jt_nI, ja_nI, jm_nI, jlt_nI, jle_nI, jeq_nI, jeq0, jeq1, false_or, or_false, jlt0, jge0, jgt0, jle0, not_true_eq_false, false_implies, implies_true, true_implies, Classical.not_not, jm_rw1, jm_rwa, jm_rwl1, jm_rwl2, jm_rw1l, jm_rwal, jm_w1_wa, jm_w1_wn, jm_wa_wa, ja_0, jn_0, jl_len0, ja_11, jn_11, jl_len11, ja_12, jn_12, jl_len12, ja_13, jn_13, jl_len13, ja_14, jn_14, jl_len14, ja_15, jn_15, jl_len15, jra_15, ja_16, jn_16, jl_len16, ja_17, jn_17, jl_len17, ja_18, jn_18, jl_len18, ja_19, jn_19, jl_len19, ja_20, jn_20, jl_len20, ja_21, jn_21, jl_len21, ja_22, jn_22, jl_len22, ja_23, jn_23, jl_len23, ja_24, jn_24, jl_len24, ja_25, jn_25, jl_len25, ja_26, jn_26, jl_len26, ja_27, jn_27, jl_len27, ja_28, jn_28, jl_len28, ja_29, jn_29, jl_len29, jra_29, ja_30, jn_30, jl_len30, ja_31, jn_31, jl_len31, ja_32, jn_32, jl_len32, ja_33, jn_33, jl_len33, ja_34, jn_34, jl_len34, ja_35, jn_35, jl_len35, ja_36, jn_36, jl_len36, ja_37, jn_37, jl_len37, ja_38, jn_38, jl_len38, ja_39, jn_39, jl_len39, ja_40, jn_40, jl_len40, ja_41, jn_41, jl_len41, ja_42, jn_42, jl_len42, ja_43, jn_43, jl_len43, ja_44, jn_44, jl_len44, ja_45, jn_45, jl_len45, ja_46, jn_46, jl_len46, ja_47, jn_47, jl_len47]
    exact ⟨fun q => by omega, fun _ => this⟩
theorem turn_loop {i : Nat} (hc : cW c) (hT : TC c 0 μ) (hM0 : 0 < cM c) (q : ∀ f, (∀ p, p < cP c → f p = nI (wayD (cM c) (cP c) (i + 1) p)) → Q none (jm_wa μ 17 0 f)) : ∀ (n : Nat) (f : Nat → Int32), n < cP c → cM c ^ (cP c - 1 - n) ∣ i + 1 → (∀ p, p ≤ n → f p = nI (wayD (cM c) (cP c) i p)) → (∀ p, n < p → p < cP c → f p = nI (wayD (cM c) (cP c) (i + 1) p)) → jm_W x mX4_turnToNextWay Q 10 ([some (.inr (.inr (5, 0))), some (.inl (nI n))], [], jm_wa μ 17 0 f) := by
  have c1 := hc.1
  have c2 := hc.2.1
  have eM := hT.2.2.2.2.1
  intro n
  induction n with
  | zero =>
    intro f hn hd h1 h2
    have hl := wayD_lt (P := cP c) (i := i) (p := 0) hM0
    have ha := od_at (P := cP c) (p := 0) hM0 hd
    have hf := h1 0 (by omega)
    refine sX4_turnToNextWay_10 _ ?_
    simp (disch := omega) only [bX4_turnToNextWay_10, hf, eM, upd_at, jm_ic, jm_lc, jm_il, jm_il2, jm_al, jm_al2, jm_is, jm_as, jm_inc, jm_inc2, jm_bin, jm_neg, jm_div, jm_rem, jm_ladd, jm_i2c, jm_dup, jm_dup2, jm_pop, jm_gI, jm_gL, jm_gR, jm_gC, jm_pI, jm_pZ, jm_pL, jm_gA, jm_ald, jm_ast, jm_aal, jm_alen, jm_cp, jm_c1, jm_c2, jm_c3, jm_v1, jm_v2, jm_v3, jm_v4, jm_v5, jm_if, jm_cmp, jm_ri, jm_rz, jm_rl, jm_rv, jm_tsw, jm_swk, jm_lsw, jm_lkk, jm_nth, jm_put, jm_sm, jm_p1, jm_p2, jm_p3, jm_m1, jm_m2, jm_ar, List.map_cons, List.map_nil, List.cons_append, List.nil_append, List.replicate_succ, List.replicate_zero, List.length_cons, List.length_nil, Option.toList_some, Option.toList_none, and_true, true_and, false_and, and_false, eq_self, true_or, or_true, if_true, if_false, Nat.lt_irrefl, Nat.reduceLT, Nat.reduceLeDiff, Nat.reduceEqDiff, Nat.reduceAdd, Nat.reduceSub, Int.reduceAdd, Int.zero_add, Nat.zero_lt_one, Nat.zero_add, Nat.le_refl, Nat.zero_le, ne_eq, not_false_eq_true, jb_0, jb_1, jb_01, jb_em, jz_0, jz_1, ji_nI, jt_nI, ja_nI, jm_nI, jlt_nI, jle_nI, jeq_nI, jeq0, jeq1, false_or, or_false, jlt0, jge0, jgt0, jle0, not_true_eq_false, false_implies, implies_true, true_implies, Classical.not_not, jm_rw1, jm_rwa, jm_rwl1, jm_rwl2, jm_rw1l, jm_rwal, jm_w1_wa, jm_w1_wn, jm_wa_wa, ja_0, jn_0, jl_len0, ja_11, jn_11, jl_len11, ja_12, jn_12, jl_len12, ja_13, jn_13, jl_len13, ja_14, jn_14, jl_len14, ja_15, jn_15, jl_len15, jra_15, ja_16, jn_16, jl_len16, ja_17, jn_17, jl_len17, ja_18, jn_18, jl_len18, ja_19, jn_19, jl_len19, ja_20, jn_20, jl_len20, ja_21, jn_21, jl_len21, ja_22, jn_22, jl_len22, ja_23, jn_23, jl_len23, ja_24, jn_24, jl_len24, ja_25, jn_25, jl_len25, ja_26, jn_26, jl_len26, ja_27, jn_27, jl_len27, ja_28, jn_28, jl_len28, ja_29, jn_29, jl_len29, jra_29, ja_30, jn_30, jl_len30, ja_31, jn_31, jl_len31, ja_32, jn_32, jl_len32, ja_33, jn_33, jl_len33, ja_34, jn_34, jl_len34, ja_35, jn_35, jl_len35, ja_36, jn_36, jl_len36, ja_37, jn_37, jl_len37, ja_38, jn_38, jl_len38, ja_39, jn_39, jl_len39, ja_40, jn_40, jl_len40, ja_41, jn_41, jl_len41, ja_42, jn_42, jl_len42, ja_43, jn_43, jl_len43, ja_44, jn_44, jl_len44, ja_45, jn_45, jl_len45, ja_46, jn_46, jl_len46, ja_47, jn_47, jl_len47]
    refine ⟨fun q1 => ?_, fun q1 => ?_⟩
    · rw [if_neg (by omega)] at ha
      have := q (upd (upd f 0 (nI (wayD (cM c) (cP c) i 0 + 1))) 0 (nI 0)) (fun p hp => by
        by_cases e : p = 0
        · rw [e, upd_at, ha]
        · rw [upd_ne e, upd_ne e]; exact h2 p (by omega) hp)
      rw [show nI 0 + (-1) = (-1 : Int32) from by decide]
      refine sX4_turnToNextWay_10 _ ?_
      simp (disch := omega) only [bX4_turnToNextWay_10, jneg1, jm_ic, jm_lc, jm_il, jm_il2, jm_al, jm_al2, jm_is, jm_as, jm_inc, jm_inc2, jm_bin, jm_neg, jm_div, jm_rem, jm_ladd, jm_i2c, jm_dup, jm_dup2, jm_pop, jm_gI, jm_gL, jm_gR, jm_gC, jm_pI, jm_pZ, jm_pL, jm_gA, jm_ald, jm_ast, jm_aal, jm_alen, jm_cp, jm_c1, jm_c2, jm_c3, jm_v1, jm_v2, jm_v3, jm_v4, jm_v5, jm_if, jm_cmp, jm_ri, jm_rz, jm_rl, jm_rv, jm_tsw, jm_swk, jm_lsw, jm_lkk, jm_nth, jm_put, jm_sm, jm_p1, jm_p2, jm_p3, jm_m1, jm_m2, jm_ar, List.map_cons, List.map_nil, List.cons_append, List.nil_append, List.replicate_succ, List.replicate_zero, List.length_cons, List.length_nil, Option.toList_some, Option.toList_none, and_true, true_and, false_and, and_false, eq_self, true_or, or_true, if_true, if_false, Nat.lt_irrefl, Nat.reduceLT, Nat.reduceLeDiff, Nat.reduceEqDiff, Nat.reduceAdd, Nat.reduceSub, Int.reduceAdd, Int.zero_add, Nat.zero_lt_one, Nat.zero_add, Nat.le_refl, Nat.zero_le, ne_eq, not_false_eq_true, jb_0, jb_1, jb_01, jb_em, jz_0, jz_1, ji_nI, jt_nI, ja_nI, jm_nI, jlt_nI, jle_nI, jeq_nI, jeq0, jeq1, false_or, or_false, jlt0, jge0, jgt0, jle0, not_true_eq_false, false_implies, implies_true, true_implies, Classical.not_not, jm_rw1, jm_rwa, jm_rwl1, jm_rwl2, jm_rw1l, jm_rwal, jm_w1_wa, jm_w1_wn, jm_wa_wa, ja_0, jn_0, jl_len0, ja_11, jn_11, jl_len11, ja_12, jn_12, jl_len12, ja_13, jn_13, jl_len13, ja_14, jn_14, jl_len14, ja_15, jn_15, jl_len15, jra_15, ja_16, jn_16, jl_len16, ja_17, jn_17, jl_len17, ja_18, jn_18, jl_len18, ja_19, jn_19, jl_len19, ja_20, jn_20, jl_len20, ja_21, jn_21, jl_len21, ja_22, jn_22, jl_len22, ja_23, jn_23, jl_len23, ja_24, jn_24, jl_len24, ja_25, jn_25, jl_len25, ja_26, jn_26, jl_len26, ja_27, jn_27, jl_len27, ja_28, jn_28, jl_len28, ja_29, jn_29, jl_len29, jra_29, ja_30, jn_30, jl_len30, ja_31, jn_31, jl_len31, ja_32, jn_32, jl_len32, ja_33, jn_33, jl_len33, ja_34, jn_34, jl_len34, ja_35, jn_35, jl_len35, ja_36, jn_36, jl_len36, ja_37, jn_37, jl_len37, ja_38, jn_38, jl_len38, ja_39, jn_39, jl_len39, ja_40, jn_40, jl_len40, ja_41, jn_41, jl_len41, ja_42, jn_42, jl_len42, ja_43, jn_43, jl_len43, ja_44, jn_44, jl_len44, ja_45, jn_45, jl_len45, ja_46, jn_46, jl_len46, ja_47, jn_47, jl_len47]
      exact this
    · rw [if_pos (by omega)] at ha
      exact q _ (fun p hp => by
        by_cases e : p = 0
        · rw [e, upd_at, ha]
        · rw [upd_ne e]; exact h2 p (by omega) hp)
  | succ n ih =>
    intro f hn hd h1 h2
    have hl := wayD_lt (P := cP c) (i := i) (p := n + 1) hM0
    have ha := od_at (P := cP c) (p := n + 1) hM0 hd
    have hf := h1 (n + 1) (by omega)
    refine sX4_turnToNextWay_10 _ ?_
    simp (disch := omega) only [bX4_turnToNextWay_10, hf, eM, jdec, Nat.add_sub_cancel, upd_at, jm_ic, jm_lc, jm_il, jm_il2, jm_al, jm_al2, jm_is, jm_as, jm_inc, jm_inc2, jm_bin, jm_neg, jm_div, jm_rem, jm_ladd, jm_i2c, jm_dup, jm_dup2, jm_pop, jm_gI, jm_gL, jm_gR, jm_gC, jm_pI, jm_pZ, jm_pL, jm_gA, jm_ald, jm_ast, jm_aal, jm_alen, jm_cp, jm_c1, jm_c2, jm_c3, jm_v1, jm_v2, jm_v3, jm_v4, jm_v5, jm_if, jm_cmp, jm_ri, jm_rz, jm_rl, jm_rv, jm_tsw, jm_swk, jm_lsw, jm_lkk, jm_nth, jm_put, jm_sm, jm_p1, jm_p2, jm_p3, jm_m1, jm_m2, jm_ar, List.map_cons, List.map_nil, List.cons_append, List.nil_append, List.replicate_succ, List.replicate_zero, List.length_cons, List.length_nil, Option.toList_some, Option.toList_none, and_true, true_and, false_and, and_false, eq_self, true_or, or_true, if_true, if_false, Nat.lt_irrefl, Nat.reduceLT, Nat.reduceLeDiff, Nat.reduceEqDiff, Nat.reduceAdd, Nat.reduceSub, Int.reduceAdd, Int.zero_add, Nat.zero_lt_one, Nat.zero_add, Nat.le_refl, Nat.zero_le, ne_eq, not_false_eq_true, jb_0, jb_1, jb_01, jb_em, jz_0, jz_1, ji_nI, jt_nI, ja_nI, jm_nI, jlt_nI, jle_nI, jeq_nI, jeq0, jeq1, false_or, or_false, jlt0, jge0, jgt0, jle0, not_true_eq_false, false_implies, implies_true, true_implies, Classical.not_not, jm_rw1, jm_rwa, jm_rwl1, jm_rwl2, jm_rw1l, jm_rwal, jm_w1_wa, jm_w1_wn, jm_wa_wa, ja_0, jn_0, jl_len0, ja_11, jn_11, jl_len11, ja_12, jn_12, jl_len12, ja_13, jn_13, jl_len13, ja_14, jn_14, jl_len14, ja_15, jn_15, jl_len15, jra_15, ja_16, jn_16, jl_len16, ja_17, jn_17, jl_len17, ja_18, jn_18, jl_len18, ja_19, jn_19, jl_len19, ja_20, jn_20, jl_len20, ja_21, jn_21, jl_len21, ja_22, jn_22, jl_len22, ja_23, jn_23, jl_len23, ja_24, jn_24, jl_len24, ja_25, jn_25, jl_len25, ja_26, jn_26, jl_len26, ja_27, jn_27, jl_len27, ja_28, jn_28, jl_len28, ja_29, jn_29, jl_len29, jra_29, ja_30, jn_30, jl_len30, ja_31, jn_31, jl_len31, ja_32, jn_32, jl_len32, ja_33, jn_33, jl_len33, ja_34, jn_34, jl_len34, ja_35, jn_35, jl_len35, ja_36, jn_36, jl_len36, ja_37, jn_37, jl_len37, ja_38, jn_38, jl_len38, ja_39, jn_39, jl_len39, ja_40, jn_40, jl_len40, ja_41, jn_41, jl_len41, ja_42, jn_42, jl_len42, ja_43, jn_43, jl_len43, ja_44, jn_44, jl_len44, ja_45, jn_45, jl_len45, ja_46, jn_46, jl_len46, ja_47, jn_47, jl_len47]
    refine ⟨fun q1 => ?_, fun q1 => ?_⟩
    · rw [if_neg (by omega)] at ha
      refine ih _ (by omega) (od_on hM0 hn hd (by omega)) (fun p hp => ?_) (fun p h3 h4 => ?_)
      · rw [upd_ne (by omega), upd_ne (by omega)]; exact h1 p (by omega)
      · by_cases e : p = n + 1
        · rw [e, upd_at, ha]
        · rw [upd_ne e, upd_ne e]; exact h2 p (by omega) h4
    · rw [if_pos (by omega)] at ha
      refine q _ (fun p hp => ?_)
      by_cases e : p = n + 1
      · rw [e, upd_at, ha]
      · rw [upd_ne e]
        by_cases e2 : p < n + 1
        · rw [h1 p (by omega), od_stop hM0 hn hd (by omega) e2]
        · exact h2 p (by omega) hp
theorem c_turn {i : Nat} (hc : cW c) (hT : TC c 0 μ) (hM0 : 0 < cM c) (hv : ∀ p, p < cP c → μ.1 17 0 p = nI (wayD (cM c) (cP c) i p)) (q : ∀ f, (∀ p, p < cP c → f p = nI (wayD (cM c) (cP c) (i + 1) p)) → Q none (jm_wa μ 17 0 f)) : jm_C x mX4_turnToNextWay [.inr (.inr (5, 0))] μ Q := by
  have c1 := hc.1
  have eP := hT.2.2.2.1
  rcases Nat.eq_zero_or_pos (cP c) with h0 | h0
  · have := q (μ.1 17 0) (fun p hp => by omega)
    rw [jm_wa_id] at this
    refine jm_C_of2 (n := 1) (by decide +kernel) (Nat.le_of_ble_eq_true rfl) rfl rfl ?_
    refine sX4_turnToNextWay_0 _ ?_
    simp (disch := omega) only [bX4_turnToNextWay_0, eP, h0, jneg3, jm_ic, jm_lc, jm_il, jm_il2, jm_al, jm_al2, jm_is, jm_as, jm_inc, jm_inc2, jm_bin, jm_neg, jm_div, jm_rem, jm_ladd, jm_i2c, jm_dup, jm_dup2, jm_pop, jm_gI, jm_gL, jm_gR, jm_gC, jm_pI, jm_pZ, jm_pL, jm_gA, jm_ald, jm_ast, jm_aal, jm_alen, jm_cp, jm_c1, jm_c2, jm_c3, jm_v1, jm_v2, jm_v3, jm_v4, jm_v5, jm_if, jm_cmp, jm_ri, jm_rz, jm_rl, jm_rv, jm_tsw, jm_swk, jm_lsw, jm_lkk, jm_nth, jm_put, jm_sm, jm_p1, jm_p2, jm_p3, jm_m1, jm_m2, jm_ar, List.map_cons, List.map_nil, List.cons_append, List.nil_append, List.replicate_succ, List.replicate_zero, List.length_cons, List.length_nil, Option.toList_some, Option.toList_none, and_true, true_and, false_and, and_false, eq_self, true_or, or_true, if_true, if_false, Nat.lt_irrefl, Nat.reduceLT, Nat.reduceLeDiff, Nat.reduceEqDiff, Nat.reduceAdd, Nat.reduceSub, Int.reduceAdd, Int.zero_add, Nat.zero_lt_one, Nat.zero_add, Nat.le_refl, Nat.zero_le, ne_eq, not_false_eq_true, jb_0, jb_1, jb_01, jb_em, jz_0, jz_1, ji_nI, jt_nI, ja_nI, jm_nI, jlt_nI, jle_nI, jeq_nI, jeq0, jeq1, false_or, or_false, jlt0, jge0, jgt0, jle0, not_true_eq_false, false_implies, implies_true, true_implies, Classical.not_not, jm_rw1, jm_rwa, jm_rwl1, jm_rwl2, jm_rw1l, jm_rwal, jm_w1_wa, jm_w1_wn, jm_wa_wa, ja_0, jn_0, jl_len0, ja_11, jn_11, jl_len11, ja_12, jn_12, jl_len12, ja_13, jn_13, jl_len13, ja_14, jn_14, jl_len14, ja_15, jn_15, jl_len15, jra_15, ja_16, jn_16, jl_len16, ja_17, jn_17, jl_len17, ja_18, jn_18, jl_len18, ja_19, jn_19, jl_len19, ja_20, jn_20, jl_len20, ja_21, jn_21, jl_len21, ja_22, jn_22, jl_len22, ja_23, jn_23, jl_len23, ja_24, jn_24, jl_len24, ja_25, jn_25, jl_len25, ja_26, jn_26, jl_len26, ja_27, jn_27, jl_len27, ja_28, jn_28, jl_len28, ja_29, jn_29, jl_len29, jra_29, ja_30, jn_30, jl_len30, ja_31, jn_31, jl_len31, ja_32, jn_32, jl_len32, ja_33, jn_33, jl_len33, ja_34, jn_34, jl_len34, ja_35, jn_35, jl_len35, ja_36, jn_36, jl_len36, ja_37, jn_37, jl_len37, ja_38, jn_38, jl_len38, ja_39, jn_39, jl_len39, ja_40, jn_40, jl_len40, ja_41, jn_41, jl_len41, ja_42, jn_42, jl_len42, ja_43, jn_43, jl_len43, ja_44, jn_44, jl_len44, ja_45, jn_45, jl_len45, ja_46, jn_46, jl_len46, ja_47, jn_47, jl_len47]
    refine sX4_turnToNextWay_10 _ ?_
    simp (disch := omega) only [bX4_turnToNextWay_10, jneg1, jm_ic, jm_lc, jm_il, jm_il2, jm_al, jm_al2, jm_is, jm_as, jm_inc, jm_inc2, jm_bin, jm_neg, jm_div, jm_rem, jm_ladd, jm_i2c, jm_dup, jm_dup2, jm_pop, jm_gI, jm_gL, jm_gR, jm_gC, jm_pI, jm_pZ, jm_pL, jm_gA, jm_ald, jm_ast, jm_aal, jm_alen, jm_cp, jm_c1, jm_c2, jm_c3, jm_v1, jm_v2, jm_v3, jm_v4, jm_v5, jm_if, jm_cmp, jm_ri, jm_rz, jm_rl, jm_rv, jm_tsw, jm_swk, jm_lsw, jm_lkk, jm_nth, jm_put, jm_sm, jm_p1, jm_p2, jm_p3, jm_m1, jm_m2, jm_ar, List.map_cons, List.map_nil, List.cons_append, List.nil_append, List.replicate_succ, List.replicate_zero, List.length_cons, List.length_nil, Option.toList_some, Option.toList_none, and_true, true_and, false_and, and_false, eq_self, true_or, or_true, if_true, if_false, Nat.lt_irrefl, Nat.reduceLT, Nat.reduceLeDiff, Nat.reduceEqDiff, Nat.reduceAdd, Nat.reduceSub, Int.reduceAdd, Int.zero_add, Nat.zero_lt_one, Nat.zero_add, Nat.le_refl, Nat.zero_le, ne_eq, not_false_eq_true, jb_0, jb_1, jb_01, jb_em, jz_0, jz_1, ji_nI, jt_nI, ja_nI, jm_nI, jlt_nI, jle_nI, jeq_nI, jeq0, jeq1, false_or, or_false, jlt0, jge0, jgt0, jle0, not_true_eq_false, false_implies, implies_true, true_implies, Classical.not_not, jm_rw1, jm_rwa, jm_rwl1, jm_rwl2, jm_rw1l, jm_rwal, jm_w1_wa, jm_w1_wn, jm_wa_wa, ja_0, jn_0, jl_len0, ja_11, jn_11, jl_len11, ja_12, jn_12, jl_len12, ja_13, jn_13, jl_len13, ja_14, jn_14, jl_len14, ja_15, jn_15, jl_len15, jra_15, ja_16, jn_16, jl_len16, ja_17, jn_17, jl_len17, ja_18, jn_18, jl_len18, ja_19, jn_19, jl_len19, ja_20, jn_20, jl_len20, ja_21, jn_21, jl_len21, ja_22, jn_22, jl_len22, ja_23, jn_23, jl_len23, ja_24, jn_24, jl_len24, ja_25, jn_25, jl_len25, ja_26, jn_26, jl_len26, ja_27, jn_27, jl_len27, ja_28, jn_28, jl_len28, ja_29, jn_29, jl_len29, jra_29, ja_30, jn_30, jl_len30, ja_31, jn_31, jl_len31, ja_32, jn_32, jl_len32, ja_33, jn_33, jl_len33, ja_34, jn_34, jl_len34, ja_35, jn_35, jl_len35, ja_36, jn_36, jl_len36, ja_37, jn_37, jl_len37, ja_38, jn_38, jl_len38, ja_39, jn_39, jl_len39, ja_40, jn_40, jl_len40, ja_41, jn_41, jl_len41, ja_42, jn_42, jl_len42, ja_43, jn_43, jl_len43, ja_44, jn_44, jl_len44, ja_45, jn_45, jl_len45, ja_46, jn_46, jl_len46, ja_47, jn_47, jl_len47]
    exact this
  · have := turn_loop (x := x) (i := i) hc hT hM0 q (cP c - 1) (μ.1 17 0) (by omega) (by rw [Nat.sub_self, Nat.pow_zero]; exact Nat.one_dvd _) (fun p hp => hv p (by omega)) (fun p h1 h2 => by omega)
    rw [jm_wa_id] at this
    refine jm_C_of2 (n := 1) (by decide +kernel) (Nat.le_of_ble_eq_true rfl) rfl rfl ?_
    refine sX4_turnToNextWay_0 _ ?_
    simp (disch := omega) only [bX4_turnToNextWay_0, eP, jsub_nI, jm_ic, jm_lc, jm_il, jm_il2, jm_al, jm_al2, jm_is, jm_as, jm_inc, jm_inc2, jm_bin, jm_neg, jm_div, jm_rem, jm_ladd, jm_i2c, jm_dup, jm_dup2, jm_pop, jm_gI, jm_gL, jm_gR, jm_gC, jm_pI, jm_pZ, jm_pL, jm_gA, jm_ald, jm_ast, jm_aal, jm_alen, jm_cp, jm_c1, jm_c2, jm_c3, jm_v1, jm_v2, jm_v3, jm_v4, jm_v5, jm_if, jm_cmp, jm_ri, jm_rz, jm_rl, jm_rv, jm_tsw, jm_swk, jm_lsw, jm_lkk, jm_nth, jm_put, jm_sm, jm_p1, jm_p2, jm_p3, jm_m1, jm_m2, jm_ar, List.map_cons, List.map_nil, List.cons_append, List.nil_append, List.replicate_succ, List.replicate_zero, List.length_cons, List.length_nil, Option.toList_some, Option.toList_none, and_true, true_and, false_and, and_false, eq_self, true_or, or_true, if_true, if_false, Nat.lt_irrefl, Nat.reduceLT, Nat.reduceLeDiff, Nat.reduceEqDiff, Nat.reduceAdd, Nat.reduceSub, Int.reduceAdd, Int.zero_add, Nat.zero_lt_one, Nat.zero_add, Nat.le_refl, Nat.zero_le, ne_eq, not_false_eq_true, jb_0, jb_1, jb_01, jb_em, jz_0, jz_1, ji_nI, jt_nI, ja_nI, jm_nI, jlt_nI, jle_nI, jeq_nI, jeq0, jeq1, false_or, or_false, jlt0, jge0, jgt0, jle0, not_true_eq_false, false_implies, implies_true, true_implies, Classical.not_not, jm_rw1, jm_rwa, jm_rwl1, jm_rwl2, jm_rw1l, jm_rwal, jm_w1_wa, jm_w1_wn, jm_wa_wa, ja_0, jn_0, jl_len0, ja_11, jn_11, jl_len11, ja_12, jn_12, jl_len12, ja_13, jn_13, jl_len13, ja_14, jn_14, jl_len14, ja_15, jn_15, jl_len15, jra_15, ja_16, jn_16, jl_len16, ja_17, jn_17, jl_len17, ja_18, jn_18, jl_len18, ja_19, jn_19, jl_len19, ja_20, jn_20, jl_len20, ja_21, jn_21, jl_len21, ja_22, jn_22, jl_len22, ja_23, jn_23, jl_len23, ja_24, jn_24, jl_len24, ja_25, jn_25, jl_len25, ja_26, jn_26, jl_len26, ja_27, jn_27, jl_len27, ja_28, jn_28, jl_len28, ja_29, jn_29, jl_len29, jra_29, ja_30, jn_30, jl_len30, ja_31, jn_31, jl_len31, ja_32, jn_32, jl_len32, ja_33, jn_33, jl_len33, ja_34, jn_34, jl_len34, ja_35, jn_35, jl_len35, ja_36, jn_36, jl_len36, ja_37, jn_37, jl_len37, ja_38, jn_38, jl_len38, ja_39, jn_39, jl_len39, ja_40, jn_40, jl_len40, ja_41, jn_41, jl_len41, ja_42, jn_42, jl_len42, ja_43, jn_43, jl_len43, ja_44, jn_44, jl_len44, ja_45, jn_45, jl_len45, ja_46, jn_46, jl_len46, ja_47, jn_47, jl_len47]
    exact this
end JSJ
