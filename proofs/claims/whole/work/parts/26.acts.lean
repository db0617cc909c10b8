/-! what is done: the class's Standing and Past -/
theorem jn5 : (nI 5 = 5) = True := by decide
theorem cpy5 {f g : Nat → Int32} {i : Nat} (h : i < 5) : va_cpy f g 0 0 5 i = f i := by
  unfold va_cpy
  rw [if_pos ⟨Nat.zero_le _, by omega⟩]
  congr 1
  omega
theorem SC_wa {σ : jS} {ν : jm_M} {k j j0 : Nat} {f : Nat → Int32} (hne : j ≠ j0) (h : SC σ j ν) : SC σ j (jm_wa ν k j0 f) := by
  have e : ∀ k', (jm_wa ν k j0 f).1 k' j = ν.1 k' j := fun k' => if_neg (fun q => hne q.2)
  unfold SC at h ⊢
  rw [e, e, e, e]
  exact h
theorem SC_w1 {σ : jS} {ν : jm_M} {k j j0 i : Nat} {v : Int32} (hne : j ≠ j0) (h : SC σ j ν) : SC σ j (jm_w1 ν k j0 i v) := SC_wa hne h
theorem SC_wk {σ : jS} {ν : jm_M} {k j j0 : Nat} {f : Nat → Int32} (hk : k ≠ 7 ∧ k ≠ 22 ∧ k ≠ 23 ∧ k ≠ 24) (h : SC σ j ν) : SC σ j (jm_wa ν k j0 f) := by
  have e : ∀ k', k' ≠ k → (jm_wa ν k j0 f).1 k' j = ν.1 k' j := fun k' hk' => if_neg (fun q => hk' q.1)
  unfold SC at h ⊢
  rw [e 22 (by omega), e 23 (by omega), e 24 (by omega), e 7 (by omega)]
  exact h
/-- nothing but what stands NOW and rows that are written anew in each call -/
def okW (k j : Nat) : Prop := ((k = 7 ∨ k = 22 ∨ k = 23 ∨ k = 24) ∧ j = 0) ∨ k = 1 ∨ k = 2 ∨ k = 6 ∨ k = 11 ∨ k = 12 ∨ k = 13 ∨ k = 14 ∨ k = 17 ∨ k = 19 ∨ k = 20 ∨ k = 21 ∨ k = 30
def fr0 (μ ν : jm_M) : Prop := (∀ k j, ¬ okW k j → ν.1 k j = μ.1 k j) ∧ ν.2 = μ.2
theorem fr0_rfl {μ : jm_M} : fr0 μ μ := ⟨fun _ _ _ => rfl, rfl⟩
theorem fr0_wa {μ ν : jm_M} {k j : Nat} {f : Nat → Int32} (hk : ((k = 7 ∨ k = 22 ∨ k = 23 ∨ k = 24) ∧ j = 0) ∨ k = 1 ∨ k = 2 ∨ k = 6 ∨ k = 11 ∨ k = 12 ∨ k = 13 ∨ k = 14 ∨ k = 17 ∨ k = 19 ∨ k = 20 ∨ k = 21 ∨ k = 30) (h : fr0 μ ν) : fr0 μ (jm_wa ν k j f) := by
  refine ⟨fun k' j' hk' => ?_, h.2⟩
  rw [← h.1 k' j' hk']
  exact if_neg (fun q => hk' (by rw [q.1, q.2]; exact hk))
theorem fr0_w1 {μ ν : jm_M} {k j i : Nat} {v : Int32} (hk : ((k = 7 ∨ k = 22 ∨ k = 23 ∨ k = 24) ∧ j = 0) ∨ k = 1 ∨ k = 2 ∨ k = 6 ∨ k = 11 ∨ k = 12 ∨ k = 13 ∨ k = 14 ∨ k = 17 ∨ k = 19 ∨ k = 20 ∨ k = 21 ∨ k = 30) (h : fr0 μ ν) : fr0 μ (jm_w1 ν k j i v) := fr0_wa hk h
theorem SC_fr0 {σ : jS} {μ ν : jm_M} {j : Nat} (hj : j ≠ 0) (hf : fr0 μ ν) (h : SC σ j μ) : SC σ j ν := by
  unfold SC at h ⊢
  rw [hf.1 22 j (by unfold okW; omega), hf.1 23 j (by unfold okW; omega), hf.1 24 j (by unfold okW; omega), hf.1 7 j (by unfold okW; omega)]
  exact h
def aSet (a : jA) (σ : jS) : jA := (aC a, σ, (aU a, aF a), aI a, (aN a, aNb a, aNl a), (aT a, aX a), aR a)
theorem IC_fr0 {a : jA} {μ ν : jm_M} {σ : jS} (hf : fr0 μ ν) (h : IC a μ) (hs : SC σ 0 ν) : IC (aSet a σ) ν := by
  obtain ⟨h1, h2, ⟨h3, lt, h4, h5, h6⟩, ⟨h7, h8⟩, h9, h10, h11, h12⟩ := h
  have e : ∀ k j, ¬ okW k j → ν.1 k j = μ.1 k j := hf.1
  refine ⟨?_, hs, ⟨?_, lt, h4, ?_, fun i hi => SC_fr0 (by omega) hf (h6 i hi)⟩, ⟨?_, fun i s hi hs' => SC_fr0 (by omega) hf (h8 i s hi hs')⟩, ?_, ?_, ?_, ?_⟩
  · show TC (aC a) 0 ν
    unfold TC at h1 ⊢
    rw [e 8 0 (by unfold okW; omega), e 25 0 (by unfold okW; omega), e 26 0 (by unfold okW; omega), e 27 0 (by unfold okW; omega), e 28 0 (by unfold okW; omega)]
    exact h1
  · rw [e 3 0 (by unfold okW; omega)]; exact h3
  · rw [e 3 0 (by unfold okW; omega)]; exact h5
  · rw [e 9 0 (by unfold okW; omega)]; exact h7
  · show CN (aN a) (aNb a) (aNl a) ν
    unfold CN at h9 ⊢
    rw [e 9 0 (by unfold okW; omega), e 31 0 (by unfold okW; omega), e 32 0 (by unfold okW; omega)]
    exact h9
  · show CX (aT a) (aX a) ν
    unfold CX at h10 ⊢
    rw [e 4 0 (by unfold okW; omega), e 16 0 (by unfold okW; omega)]
    exact h10
  · rw [hf.2]; exact h11
  · show CS (aC a) ν
    unfold CS at h12 ⊢
    rw [e 5 0 (by unfold okW; omega), e 18 0 (by unfold okW; omega)]
    exact h12
section JACT
variable {x : jm_X} {a : jA} {μ : jm_M} {Q : Option jm_V → jm_M → Prop}
theorem c_become {σ : jS} {j j0 : Nat} (hj : j < 13) (hj0 : j0 < 13) (hs : SC σ j0 μ) (q : ∀ f g h v, SC σ j (jm_wa (jm_wa (jm_wa (jm_w1 μ 7 j 3 v) 22 j f) 23 j g) 24 j h) → Q none (jm_wa (jm_wa (jm_wa (jm_w1 μ 7 j 3 v) 22 j f) 23 j g) 24 j h)) : jm_C x mX6_become [.inr (.inr (7, j)), .inr (.inr (7, j0))] μ Q := by
  obtain ⟨s1, s2, s3, s4⟩ := hs
  refine jm_C_of2 (n := 0) (by decide +kernel) (Nat.le_of_ble_eq_true rfl) rfl rfl ?_
  refine sX6_become_0 _ ?_
  simp (disch := omega) only [bX6_become_0, jn5, s4, jm_ic, jm_lc, jm_il, jm_il2, jm_al, jm_al2, jm_is, jm_as, jm_inc, jm_inc2, jm_bin, jm_neg, jm_div, jm_rem, jm_ladd, jm_i2c, jm_dup, jm_dup2, jm_pop, jm_gI, jm_gL, jm_gR, jm_gC, jm_pI, jm_pZ, jm_pL, jm_gA, jm_ald, jm_ast, jm_aal, jm_alen, jm_cp, jm_c1, jm_c2, jm_c3, jm_v1, jm_v2, jm_v3, jm_v4, jm_v5, jm_if, jm_cmp, jm_ri, jm_rz, jm_rl, jm_rv, jm_tsw, jm_swk, jm_lsw, jm_lkk, jm_nth, jm_put, jm_sm, jm_p1, jm_p2, jm_p3, jm_m1, jm_m2, jm_ar, List.map_cons, List.map_nil, List.cons_append, List.nil_append, List.replicate_succ, List.replicate_zero, List.length_cons, List.length_nil, Option.toList_some, Option.toList_none, and_true, true_and, false_and, and_false, eq_self, true_or, or_true, if_true, if_false, Nat.lt_irrefl, Nat.reduceLT, Nat.reduceLeDiff, Nat.reduceEqDiff, Nat.reduceAdd, Nat.reduceSub, Int.reduceAdd, Int.zero_add, Nat.zero_lt_one, Nat.zero_add, Nat.le_refl, Nat.zero_le, ne_eq, not_false_eq_true, jb_0, jb_1, jb_01, jb_em, jz_0, jz_1, ji_nI, jt_nI, ja_nI, jm_nI, jlt_nI, jle_nI, jeq_nI, jeq0, jeq1, false_or, or_false, jlt0, jge0, jgt0, jle0, not_true_eq_false, false_implies, implies_true, true_implies, Classical.not_not, jm_rw1, jm_rwa, jm_rwl1, jm_rwl2, jm_rw1l, jm_rwal, jm_w1_wa, jm_w1_wn, jm_wa_wa, ja_0, jn_0, jl_len0, ja_11, jn_11, jl_len11, ja_12, jn_12, jl_len12, ja_13, jn_13, jl_len13, ja_14, jn_14, jl_len14, ja_15, jn_15, jl_len15, jra_15, ja_16, jn_16, jl_len16, ja_17, jn_17, jl_len17, ja_18, jn_18, jl_len18, ja_19, jn_19, jl_len19, ja_20, jn_20, jl_len20, ja_21, jn_21, jl_len21, ja_22, jn_22, jl_len22, ja_23, jn_23, jl_len23, ja_24, jn_24, jl_len24, ja_25, jn_25, jl_len25, ja_26, jn_26, jl_len26, ja_27, jn_27, jl_len27, ja_28, jn_28, jl_len28, ja_29, jn_29, jl_len29, jra_29, ja_30, jn_30, jl_len30, ja_31, jn_31, jl_len31, ja_32, jn_32, jl_len32, ja_33, jn_33, jl_len33, ja_34, jn_34, jl_len34, ja_35, jn_35, jl_len35, ja_36, jn_36, jl_len36, ja_37, jn_37, jl_len37, ja_38, jn_38, jl_len38, ja_39, jn_39, jl_len39, ja_40, jn_40, jl_len40, ja_41, jn_41, jl_len41, ja_42, jn_42, jl_len42, ja_43, jn_43, jl_len43, ja_44, jn_44, jl_len44, ja_45, jn_45, jl_len45, ja_46, jn_46, jl_len46, ja_47, jn_47, jl_len47]
  refine ⟨hj0, hj, hj, hj0, hj0, hj, hj, hj0, hj0, hj, hj, hj0, hj0, hj, ?_⟩
  refine q _ _ _ _ ⟨fun p hp => ?_, fun m hm => ?_, fun m hm => ?_, ?_⟩
  · simp (disch := omega) only [cpy5, jm_ic, jm_lc, jm_il, jm_il2, jm_al, jm_al2, jm_is, jm_as, jm_inc, jm_inc2, jm_bin, jm_neg, jm_div, jm_rem, jm_ladd, jm_i2c, jm_dup, jm_dup2, jm_pop, jm_gI, jm_gL, jm_gR, jm_gC, jm_pI, jm_pZ, jm_pL, jm_gA, jm_ald, jm_ast, jm_aal, jm_alen, jm_cp, jm_c1, jm_c2, jm_c3, jm_v1, jm_v2, jm_v3, jm_v4, jm_v5, jm_if, jm_cmp, jm_ri, jm_rz, jm_rl, jm_rv, jm_tsw, jm_swk, jm_lsw, jm_lkk, jm_nth, jm_put, jm_sm, jm_p1, jm_p2, jm_p3, jm_m1, jm_m2, jm_ar, List.map_cons, List.map_nil, List.cons_append, List.nil_append, List.replicate_succ, List.replicate_zero, List.length_cons, List.length_nil, Option.toList_some, Option.toList_none, and_true, true_and, false_and, and_false, eq_self, true_or, or_true, if_true, if_false, Nat.lt_irrefl, Nat.reduceLT, Nat.reduceLeDiff, Nat.reduceEqDiff, Nat.reduceAdd, Nat.reduceSub, Int.reduceAdd, Int.zero_add, Nat.zero_lt_one, Nat.zero_add, Nat.le_refl, Nat.zero_le, ne_eq, not_false_eq_true, jb_0, jb_1, jb_01, jb_em, jz_0, jz_1, ji_nI, jt_nI, ja_nI, jm_nI, jlt_nI, jle_nI, jeq_nI, jeq0, jeq1, false_or, or_false, jlt0, jge0, jgt0, jle0, not_true_eq_false, false_implies, implies_true, true_implies, Classical.not_not, jm_rw1, jm_rwa, jm_rwl1, jm_rwl2, jm_rw1l, jm_rwal, jm_w1_wa, jm_w1_wn, jm_wa_wa, ja_0, jn_0, jl_len0, ja_11, jn_11, jl_len11, ja_12, jn_12, jl_len12, ja_13, jn_13, jl_len13, ja_14, jn_14, jl_len14, ja_15, jn_15, jl_len15, jra_15, ja_16, jn_16, jl_len16, ja_17, jn_17, jl_len17, ja_18, jn_18, jl_len18, ja_19, jn_19, jl_len19, ja_20, jn_20, jl_len20, ja_21, jn_21, jl_len21, ja_22, jn_22, jl_len22, ja_23, jn_23, jl_len23, ja_24, jn_24, jl_len24, ja_25, jn_25, jl_len25, ja_26, jn_26, jl_len26, ja_27, jn_27, jl_len27, ja_28, jn_28, jl_len28, ja_29, jn_29, jl_len29, jra_29, ja_30, jn_30, jl_len30, ja_31, jn_31, jl_len31, ja_32, jn_32, jl_len32, ja_33, jn_33, jl_len33, ja_34, jn_34, jl_len34, ja_35, jn_35, jl_len35, ja_36, jn_36, jl_len36, ja_37, jn_37, jl_len37, ja_38, jn_38, jl_len38, ja_39, jn_39, jl_len39, ja_40, jn_40, jl_len40, ja_41, jn_41, jl_len41, ja_42, jn_42, jl_len42, ja_43, jn_43, jl_len43, ja_44, jn_44, jl_len44, ja_45, jn_45, jl_len45, ja_46, jn_46, jl_len46, ja_47, jn_47, jl_len47]
    exact s1 p hp
  · simp (disch := omega) only [cpy5, jm_ic, jm_lc, jm_il, jm_il2, jm_al, jm_al2, jm_is, jm_as, jm_inc, jm_inc2, jm_bin, jm_neg, jm_div, jm_rem, jm_ladd, jm_i2c, jm_dup, jm_dup2, jm_pop, jm_gI, jm_gL, jm_gR, jm_gC, jm_pI, jm_pZ, jm_pL, jm_gA, jm_ald, jm_ast, jm_aal, jm_alen, jm_cp, jm_c1, jm_c2, jm_c3, jm_v1, jm_v2, jm_v3, jm_v4, jm_v5, jm_if, jm_cmp, jm_ri, jm_rz, jm_rl, jm_rv, jm_tsw, jm_swk, jm_lsw, jm_lkk, jm_nth, jm_put, jm_sm, jm_p1, jm_p2, jm_p3, jm_m1, jm_m2, jm_ar, List.map_cons, List.map_nil, List.cons_append, List.nil_append, List.replicate_succ, List.replicate_zero, List.length_cons, List.length_nil, Option.toList_some, Option.toList_none, and_true, true_and, false_and, and_false, eq_self, true_or, or_true, if_true, if_false, Nat.lt_irrefl, Nat.reduceLT, Nat.reduceLeDiff, Nat.reduceEqDiff, Nat.reduceAdd, Nat.reduceSub, Int.reduceAdd, Int.zero_add, Nat.zero_lt_one, Nat.zero_add, Nat.le_refl, Nat.zero_le, ne_eq, not_false_eq_true, jb_0, jb_1, jb_01, jb_em, jz_0, jz_1, ji_nI, jt_nI, ja_nI, jm_nI, jlt_nI, jle_nI, jeq_nI, jeq0, jeq1, false_or, or_false, jlt0, jge0, jgt0, jle0, not_true_eq_false, false_implies, implies_true, true_implies, Classical.not_not, jm_rw1, jm_rwa, jm_rwl1, jm_rwl2, jm_rw1l, jm_rwal, jm_w1_wa, jm_w1_wn, jm_wa_wa, ja_0, jn_0, jl_len0, ja_11, jn_11, jl_len11, ja_12, jn_12, jl_len12, ja_13, jn_13, jl_len13, ja_14, jn_14, jl_len14, ja_15, jn_15, jl_len15, jra_15, ja_16, jn_16, jl_len16, ja_17, jn_17, jl_len17, ja_18, jn_18, jl_len18, ja_19, jn_19, jl_len19, ja_20, jn_20, jl_len20, ja_21, jn_21, jl_len21, ja_22, jn_22, jl_len22, ja_23, jn_23, jl_len23, ja_24, jn_24, jl_len24, ja_25, jn_25, jl_len25, ja_26, jn_26, jl_len26, ja_27, jn_27, jl_len27, ja_28, jn_28, jl_len28, ja_29, jn_29, jl_len29, jra_29, ja_30, jn_30, jl_len30, ja_31, jn_31, jl_len31, ja_32, jn_32, jl_len32, ja_33, jn_33, jl_len33, ja_34, jn_34, jl_len34, ja_35, jn_35, jl_len35, ja_36, jn_36, jl_len36, ja_37, jn_37, jl_len37, ja_38, jn_38, jl_len38, ja_39, jn_39, jl_len39, ja_40, jn_40, jl_len40, ja_41, jn_41, jl_len41, ja_42, jn_42, jl_len42, ja_43, jn_43, jl_len43, ja_44, jn_44, jl_len44, ja_45, jn_45, jl_len45, ja_46, jn_46, jl_len46, ja_47, jn_47, jl_len47]
    exact s2 m hm
  · simp (disch := omega) only [cpy5, jm_ic, jm_lc, jm_il, jm_il2, jm_al, jm_al2, jm_is, jm_as, jm_inc, jm_inc2, jm_bin, jm_neg, jm_div, jm_rem, jm_ladd, jm_i2c, jm_dup, jm_dup2, jm_pop, jm_gI, jm_gL, jm_gR, jm_gC, jm_pI, jm_pZ, jm_pL, jm_gA, jm_ald, jm_ast, jm_aal, jm_alen, jm_cp, jm_c1, jm_c2, jm_c3, jm_v1, jm_v2, jm_v3, jm_v4, jm_v5, jm_if, jm_cmp, jm_ri, jm_rz, jm_rl, jm_rv, jm_tsw, jm_swk, jm_lsw, jm_lkk, jm_nth, jm_put, jm_sm, jm_p1, jm_p2, jm_p3, jm_m1, jm_m2, jm_ar, List.map_cons, List.map_nil, List.cons_append, List.nil_append, List.replicate_succ, List.replicate_zero, List.length_cons, List.length_nil, Option.toList_some, Option.toList_none, and_true, true_and, false_and, and_false, eq_self, true_or, or_true, if_true, if_false, Nat.lt_irrefl, Nat.reduceLT, Nat.reduceLeDiff, Nat.reduceEqDiff, Nat.reduceAdd, Nat.reduceSub, Int.reduceAdd, Int.zero_add, Nat.zero_lt_one, Nat.zero_add, Nat.le_refl, Nat.zero_le, ne_eq, not_false_eq_true, jb_0, jb_1, jb_01, jb_em, jz_0, jz_1, ji_nI, jt_nI, ja_nI, jm_nI, jlt_nI, jle_nI, jeq_nI, jeq0, jeq1, false_or, or_false, jlt0, jge0, jgt0, jle0, not_true_eq_false, false_implies, implies_true, true_implies, Classical.not_not, jm_rw1, jm_rwa, jm_rwl1, jm_rwl2, jm_rw1l, jm_rwal, jm_w1_wa, jm_w1_wn, jm_wa_wa, ja_0, jn_0, jl_len0, ja_11, jn_11, jl_len11, ja_12, jn_12, jl_len12, ja_13, jn_13, jl_len13, ja_14, jn_14, jl_len14, ja_15, jn_15, jl_len15, jra_15, ja_16, jn_16, jl_len16, ja_17, jn_17, jl_len17, ja_18, jn_18, jl_len18, ja_19, jn_19, jl_len19, ja_20, jn_20, jl_len20, ja_21, jn_21, jl_len21, ja_22, jn_22, jl_len22, ja_23, jn_23, jl_len23, ja_24, jn_24, jl_len24, ja_25, jn_25, jl_len25, ja_26, jn_26, jl_len26, ja_27, jn_27, jl_len27, ja_28, jn_28, jl_len28, ja_29, jn_29, jl_len29, jra_29, ja_30, jn_30, jl_len30, ja_31, jn_31, jl_len31, ja_32, jn_32, jl_len32, ja_33, jn_33, jl_len33, ja_34, jn_34, jl_len34, ja_35, jn_35, jl_len35, ja_36, jn_36, jl_len36, ja_37, jn_37, jl_len37, ja_38, jn_38, jl_len38, ja_39, jn_39, jl_len39, ja_40, jn_40, jl_len40, ja_41, jn_41, jl_len41, ja_42, jn_42, jl_len42, ja_43, jn_43, jl_len43, ja_44, jn_44, jl_len44, ja_45, jn_45, jl_len45, ja_46, jn_46, jl_len46, ja_47, jn_47, jl_len47]
    exact s3 m hm
  · simp (disch := omega) only [jm_ic, jm_lc, jm_il, jm_il2, jm_al, jm_al2, jm_is, jm_as, jm_inc, jm_inc2, jm_bin, jm_neg, jm_div, jm_rem, jm_ladd, jm_i2c, jm_dup, jm_dup2, jm_pop, jm_gI, jm_gL, jm_gR, jm_gC, jm_pI, jm_pZ, jm_pL, jm_gA, jm_ald, jm_ast, jm_aal, jm_alen, jm_cp, jm_c1, jm_c2, jm_c3, jm_v1, jm_v2, jm_v3, jm_v4, jm_v5, jm_if, jm_cmp, jm_ri, jm_rz, jm_rl, jm_rv, jm_tsw, jm_swk, jm_lsw, jm_lkk, jm_nth, jm_put, jm_sm, jm_p1, jm_p2, jm_p3, jm_m1, jm_m2, jm_ar, List.map_cons, List.map_nil, List.cons_append, List.nil_append, List.replicate_succ, List.replicate_zero, List.length_cons, List.length_nil, Option.toList_some, Option.toList_none, and_true, true_and, false_and, and_false, eq_self, true_or, or_true, if_true, if_false, Nat.lt_irrefl, Nat.reduceLT, Nat.reduceLeDiff, Nat.reduceEqDiff, Nat.reduceAdd, Nat.reduceSub, Int.reduceAdd, Int.zero_add, Nat.zero_lt_one, Nat.zero_add, Nat.le_refl, Nat.zero_le, ne_eq, not_false_eq_true, jb_0, jb_1, jb_01, jb_em, jz_0, jz_1, ji_nI, jt_nI, ja_nI, jm_nI, jlt_nI, jle_nI, jeq_nI, jeq0, jeq1, false_or, or_false, jlt0, jge0, jgt0, jle0, not_true_eq_false, false_implies, implies_true, true_implies, Classical.not_not, jm_rw1, jm_rwa, jm_rwl1, jm_rwl2, jm_rw1l, jm_rwal, jm_w1_wa, jm_w1_wn, jm_wa_wa, ja_0, jn_0, jl_len0, ja_11, jn_11, jl_len11, ja_12, jn_12, jl_len12, ja_13, jn_13, jl_len13, ja_14, jn_14, jl_len14, ja_15, jn_15, jl_len15, jra_15, ja_16, jn_16, jl_len16, ja_17, jn_17, jl_len17, ja_18, jn_18, jl_len18, ja_19, jn_19, jl_len19, ja_20, jn_20, jl_len20, ja_21, jn_21, jl_len21, ja_22, jn_22, jl_len22, ja_23, jn_23, jl_len23, ja_24, jn_24, jl_len24, ja_25, jn_25, jl_len25, ja_26, jn_26, jl_len26, ja_27, jn_27, jl_len27, ja_28, jn_28, jl_len28, ja_29, jn_29, jl_len29, jra_29, ja_30, jn_30, jl_len30, ja_31, jn_31, jl_len31, ja_32, jn_32, jl_len32, ja_33, jn_33, jl_len33, ja_34, jn_34, jl_len34, ja_35, jn_35, jl_len35, ja_36, jn_36, jl_len36, ja_37, jn_37, jl_len37, ja_38, jn_38, jl_len38, ja_39, jn_39, jl_len39, ja_40, jn_40, jl_len40, ja_41, jn_41, jl_len41, ja_42, jn_42, jl_len42, ja_43, jn_43, jl_len43, ja_44, jn_44, jl_len44, ja_45, jn_45, jl_len45, ja_46, jn_46, jl_len46, ja_47, jn_47, jl_len47]
def aPush (a : jA) : jA := (aC a, aS a, (uadd (aU a), upush (aS a) (aF a)), aI a, (aN a, aNb a, aNl a), (aT a, aX a), aR a)
theorem WA_push (hW : WA a) : WA (aPush a) := by
  obtain ⟨w1, w2, w3, w4, w5, w6, w7, w8, w9⟩ := hW
  refine ⟨w1, w2, ?_, fun i hi => ?_, w5, w6, w7, w8, w9⟩
  · show uadd (aU a) ≤ 10
    unfold uadd; split <;> omega
  · show sOk (aC a) (upush (aS a) (aF a) i)
    have hi : i < uadd (aU a) := hi
    cases i with
    | zero => exact w2
    | succ i => exact w4 i (by unfold uadd at hi; split at hi <;> omega)
theorem c_remember (hW : WA a) (h : IC a μ) (q : ∀ ν, IC (aPush a) ν → sM μ ν → Q none ν) : jm_C x mX2_remember [.inr (.inr (3, 0)), .inr (.inr (7, 0))] μ Q := by
  obtain ⟨w1, w2, w3, w4, w5, w6, w7, w8, w9⟩ := id hW
  obtain ⟨h1, h2, ⟨h3, lt, h4, h5, h6⟩, ⟨h7, h8⟩, h9, h10, h11, h12⟩ := id h
  have hr := pk_rem (a := lt + 1) (d := 10) (by omega) (by decide) (by decide)
  have hlt : (lt + 1) % 10 < 10 := Nat.mod_lt _ (by decide)
  generalize hl' : (lt + 1) % 10 = l' at hr hlt
  refine jm_C_of2 (n := 0) (by decide +kernel) (Nat.le_of_ble_eq_true rfl) rfl rfl ?_
  refine sX2_remember_0 _ ?_
  simp (disch := omega) only [bX2_remember_0, h5, hr, jm_ic, jm_lc, jm_il, jm_il2, jm_al, jm_al2, jm_is, jm_as, jm_inc, jm_inc2, jm_bin, jm_neg, jm_div, jm_rem, jm_ladd, jm_i2c, jm_dup, jm_dup2, jm_pop, jm_gI, jm_gL, jm_gR, jm_gC, jm_pI, jm_pZ, jm_pL, jm_gA, jm_ald, jm_ast, jm_aal, jm_alen, jm_cp, jm_c1, jm_c2, jm_c3, jm_v1, jm_v2, jm_v3, jm_v4, jm_v5, jm_if, jm_cmp, jm_ri, jm_rz, jm_rl, jm_rv, jm_tsw, jm_swk, jm_lsw, jm_lkk, jm_nth, jm_put, jm_sm, jm_p1, jm_p2, jm_p3, jm_m1, jm_m2, jm_ar, List.map_cons, List.map_nil, List.cons_append, List.nil_append, List.replicate_succ, List.replicate_zero, List.length_cons, List.length_nil, Option.toList_some, Option.toList_none, and_true, true_and, false_and, and_false, eq_self, true_or, or_true, if_true, if_false, Nat.lt_irrefl, Nat.reduceLT, Nat.reduceLeDiff, Nat.reduceEqDiff, Nat.reduceAdd, Nat.reduceSub, Int.reduceAdd, Int.zero_add, Nat.zero_lt_one, Nat.zero_add, Nat.le_refl, Nat.zero_le, ne_eq, not_false_eq_true, jb_0, jb_1, jb_01, jb_em, jz_0, jz_1, ji_nI, jt_nI, ja_nI, jm_nI, jlt_nI, jle_nI, jeq_nI, jeq0, jeq1, false_or, or_false, jlt0, jge0, jgt0, jle0, not_true_eq_false, false_implies, implies_true, true_implies, Classical.not_not, jm_rw1, jm_rwa, jm_rwl1, jm_rwl2, jm_rw1l, jm_rwal, jm_w1_wa, jm_w1_wn, jm_wa_wa, ja_0, jn_0, jl_len0, ja_11, jn_11, jl_len11, ja_12, jn_12, jl_len12, ja_13, jn_13, jl_len13, ja_14, jn_14, jl_len14, ja_15, jn_15, jl_len15, jra_15, ja_16, jn_16, jl_len16, ja_17, jn_17, jl_len17, ja_18, jn_18, jl_len18, ja_19, jn_19, jl_len19, ja_20, jn_20, jl_len20, ja_21, jn_21, jl_len21, ja_22, jn_22, jl_len22, ja_23, jn_23, jl_len23, ja_24, jn_24, jl_len24, ja_25, jn_25, jl_len25, ja_26, jn_26, jl_len26, ja_27, jn_27, jl_len27, ja_28, jn_28, jl_len28, ja_29, jn_29, jl_len29, jra_29, ja_30, jn_30, jl_len30, ja_31, jn_31, jl_len31, ja_32, jn_32, jl_len32, ja_33, jn_33, jl_len33, ja_34, jn_34, jl_len34, ja_35, jn_35, jl_len35, ja_36, jn_36, jl_len36, ja_37, jn_37, jl_len37, ja_38, jn_38, jl_len38, ja_39, jn_39, jl_len39, ja_40, jn_40, jl_len40, ja_41, jn_41, jl_len41, ja_42, jn_42, jl_len42, ja_43, jn_43, jl_len43, ja_44, jn_44, jl_len44, ja_45, jn_45, jl_len45, ja_46, jn_46, jl_len46, ja_47, jn_47, jl_len47]
  refine ⟨by omega, ?_⟩
  refine c_become (σ := aS a) (j := 3 + l') (j0 := 0) (by omega) (by decide) (SC_wk (by decide) h2) (fun f g e v hs => ?_)
  simp (disch := omega) only [h3, jp_min, jm_ic, jm_lc, jm_il, jm_il2, jm_al, jm_al2, jm_is, jm_as, jm_inc, jm_inc2, jm_bin, jm_neg, jm_div, jm_rem, jm_ladd, jm_i2c, jm_dup, jm_dup2, jm_pop, jm_gI, jm_gL, jm_gR, jm_gC, jm_pI, jm_pZ, jm_pL, jm_gA, jm_ald, jm_ast, jm_aal, jm_alen, jm_cp, jm_c1, jm_c2, jm_c3, jm_v1, jm_v2, jm_v3, jm_v4, jm_v5, jm_if, jm_cmp, jm_ri, jm_rz, jm_rl, jm_rv, jm_tsw, jm_swk, jm_lsw, jm_lkk, jm_nth, jm_put, jm_sm, jm_p1, jm_p2, jm_p3, jm_m1, jm_m2, jm_ar, List.map_cons, List.map_nil, List.cons_append, List.nil_append, List.replicate_succ, List.replicate_zero, List.length_cons, List.length_nil, Option.toList_some, Option.toList_none, and_true, true_and, false_and, and_false, eq_self, true_or, or_true, if_true, if_false, Nat.lt_irrefl, Nat.reduceLT, Nat.reduceLeDiff, Nat.reduceEqDiff, Nat.reduceAdd, Nat.reduceSub, Int.reduceAdd, Int.zero_add, Nat.zero_lt_one, Nat.zero_add, Nat.le_refl, Nat.zero_le, ne_eq, not_false_eq_true, jb_0, jb_1, jb_01, jb_em, jz_0, jz_1, ji_nI, jt_nI, ja_nI, jm_nI, jlt_nI, jle_nI, jeq_nI, jeq0, jeq1, false_or, or_false, jlt0, jge0, jgt0, jle0, not_true_eq_false, false_implies, implies_true, true_implies, Classical.not_not, jm_rw1, jm_rwa, jm_rwl1, jm_rwl2, jm_rw1l, jm_rwal, jm_w1_wa, jm_w1_wn, jm_wa_wa, ja_0, jn_0, jl_len0, ja_11, jn_11, jl_len11, ja_12, jn_12, jl_len12, ja_13, jn_13, jl_len13, ja_14, jn_14, jl_len14, ja_15, jn_15, jl_len15, jra_15, ja_16, jn_16, jl_len16, ja_17, jn_17, jl_len17, ja_18, jn_18, jl_len18, ja_19, jn_19, jl_len19, ja_20, jn_20, jl_len20, ja_21, jn_21, jl_len21, ja_22, jn_22, jl_len22, ja_23, jn_23, jl_len23, ja_24, jn_24, jl_len24, ja_25, jn_25, jl_len25, ja_26, jn_26, jl_len26, ja_27, jn_27, jl_len27, ja_28, jn_28, jl_len28, ja_29, jn_29, jl_len29, jra_29, ja_30, jn_30, jl_len30, ja_31, jn_31, jl_len31, ja_32, jn_32, jl_len32, ja_33, jn_33, jl_len33, ja_34, jn_34, jl_len34, ja_35, jn_35, jl_len35, ja_36, jn_36, jl_len36, ja_37, jn_37, jl_len37, ja_38, jn_38, jl_len38, ja_39, jn_39, jl_len39, ja_40, jn_40, jl_len40, ja_41, jn_41, jl_len41, ja_42, jn_42, jl_len42, ja_43, jn_43, jl_len43, ja_44, jn_44, jl_len44, ja_45, jn_45, jl_len45, ja_46, jn_46, jl_len46, ja_47, jn_47, jl_len47]
  refine q _ ⟨h1, (by repeat (first | assumption | refine SC_wa (by omega) ?_ | refine SC_w1 (by omega) ?_ | refine SC_wk (by decide) ?_)), ⟨?_, l', hlt, rfl, fun i hi => ?_⟩, ⟨h7, fun i s hi hs' => ?_⟩, h9, h10, h11, h12⟩ (by first | exact sM_rfl | (repeat (first | exact sM_rfl | refine sM_wa (by decide) ?_ | refine sM_w1 (by decide) ?_ | refine sM_wl ?_)))
  · show (if aU a + 1 < 10 then nI (aU a + 1) else nI 10) = nI (uadd (aU a))
    unfold uadd
    by_cases e : aU a = 10
    · rw [if_neg (by omega), if_pos e]
    · rw [if_neg e]
      by_cases e2 : aU a + 1 < 10
      · rw [if_pos e2]
      · rw [if_neg e2, show aU a + 1 = 10 by omega]
  · have hi : i < uadd (aU a) := hi
    cases i with
    | zero =>
      show SC (aS a) (3 + (l' + 10 - 0) % 10) _
      rw [show (l' + 10 - 0) % 10 = l' by omega]
      exact hs
    | succ i =>
      have hi9 : i + 1 < 10 ∧ i < aU a := by unfold uadd at hi; split at hi <;> omega
      have h6i := h6 i hi9.2
      show SC (aF a i) (3 + (l' + 10 - (i + 1)) % 10) _
      have e1 : (l' + 10 - (i + 1)) % 10 = (lt + 10 - i) % 10 := by omega
      rw [e1]
      have hne : 3 + (lt + 10 - i) % 10 ≠ 3 + l' := by omega
      have hne0 : 3 + (lt + 10 - i) % 10 ≠ 0 := by omega
      generalize 3 + (lt + 10 - i) % 10 = jj at h6i hne hne0
      exact (by repeat (first | assumption | refine SC_wa (by omega) ?_ | refine SC_w1 (by omega) ?_ | refine SC_wk (by decide) ?_))
  · have h8i := h8 i s hi hs'
    have hne : 1 + i ≠ 3 + l' := by omega
    exact (by repeat (first | assumption | refine SC_wa (by omega) ?_ | refine SC_w1 (by omega) ?_ | refine SC_wk (by decide) ?_))
end JACT
