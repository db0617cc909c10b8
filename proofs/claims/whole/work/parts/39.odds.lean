/-! step: odds, the loops -/
def oT (a : jA) (b : Nat) : Nat := cnt (fun m => (shd a b (cM (aC a))).testBit m) (cM (aC a))
def oU (a : jA) (b p v : Nat) : Nat := U9 p (shd a b (cM (aC a))) (hG a b v) (cM (aC a))
def oR (a : jA) (b p v k : Nat) : Nat := (if k = 0 then oU a b p v else 10 ^ oT a b) / Nat.gcd (oU a b p v) (10 ^ oT a b)
theorem hG_le (a : jA) (b v S : Nat) : hG a b v S ≤ 1 := by unfold hG; split <;> omega
theorem odds_8 (a : jA) {b p v : Nat} (hp : p ≤ 10) : U8 p (hG a b v) (cM (aC a)) = 10 ^ cnt (fun m => !(shd a b (cM (aC a))).testBit m) (cM (aC a)) * oU a b p v ∧ sumN (fun S => wt8 p S (cM (aC a))) (2 ^ cM (aC a)) = 10 ^ cnt (fun m => !(shd a b (cM (aC a))).testBit m) (cM (aC a)) * 10 ^ oT a b := by
  refine ⟨U89 p _ hp _ _ (hG_inv a b v), ?_⟩
  have h1 := U8_one p hp (cM (aC a))
  unfold U8 at h1
  rw [sumN_cong (g := fun S => wt8 p S (cM (aC a)) * 1) (fun k _ => (Nat.mul_one _).symm), h1, ← Nat.pow_add]
  congr 1
  have := cnt_not (fun m => (shd a b (cM (aC a))).testBit m) (cM (aC a))
  unfold oT
  omega
section JOD2
variable {x : jm_X} {a : jA} {μ : jm_M} {Q : Option jm_V → jm_M → Prop}
theorem cOdds_loop {b p v k : Nat} (hW : WA a) (h : IC a μ) (hb : b < cB (aC a)) (hp : p ≤ 10) (hv : v ≤ 46) (hk : k < 2) (q : Q (some (.inl (nI (oR a b p v k)))) μ) : ∀ (n S : Nat) (o : Option jm_V), S + n = 2 ^ cM (aC a) → jm_W x mX8_odds Q 53 ([some (.inr (.inr (9, 0))), some (.inl (nI b)), some (.inl (nI p)), some (.inl (nI v)), some (.inl (nI k)), some (.inl (nI (sumN (fun S => wt8 p S (cM (aC a)) * hG a b v S) S))), some (.inl (nI (sumN (fun S => wt8 p S (cM (aC a))) S))), some (.inl (nI S)), o], [], μ) := by
  obtain ⟨w1, ⟨w2, w2'⟩, -⟩ := id hW
  have c1 := w1.1
  have c2 := w1.2.1
  have hM := h.1.2.2.2.2.1
  have h2 : 2 ^ cM (aC a) ≤ 2 ^ 5 := Nat.pow_le_pow_right (by decide) c2
  intro n
  induction n with
  | zero =>
    intro S o hS
    have eS : S = 2 ^ cM (aC a) := by omega
    obtain ⟨e1, e2⟩ := odds_8 a (b := b) (v := v) hp
    unfold U8 at e1
    have hlo : sumN (fun S => wt8 p S (cM (aC a))) (2 ^ cM (aC a)) = 10 ^ cM (aC a) := by
      have h1 := U8_one p hp (cM (aC a))
      unfold U8 at h1
      rw [sumN_cong (g := fun S => wt8 p S (cM (aC a)) * 1) (fun k _ => (Nat.mul_one _).symm), h1]
    have hlo5 : 10 ^ cM (aC a) ≤ 10 ^ 5 := Nat.pow_le_pow_right (by decide) c2
    have hup : sumN (fun S => wt8 p S (cM (aC a)) * hG a b v S) (2 ^ cM (aC a)) ≤ sumN (fun S => wt8 p S (cM (aC a))) (2 ^ cM (aC a)) := sumN_le (fun k => by have := Nat.mul_le_mul_left (wt8 p k (cM (aC a))) (hG_le a b v k); omega) _
    have hpos : 0 < 10 ^ oT a b := Nat.pow_pos (by decide)
    have ht : 0 < 10 ^ cnt (fun m => !(shd a b (cM (aC a))).testBit m) (cM (aC a)) := Nat.pow_pos (by decide)
    have hlp : 0 < 10 ^ cM (aC a) := Nat.pow_pos (by decide)
    rw [hlo] at e2 hup
    rw [eS, hlo]
    generalize hup' : sumN (fun S => wt8 p S (cM (aC a)) * hG a b v S) (2 ^ cM (aC a)) = up at *
    generalize hlo' : 10 ^ cM (aC a) = lo at *
    generalize ht' : 10 ^ cnt (fun m => !(shd a b (cM (aC a))).testBit m) (cM (aC a)) = t at *
    have hgp : 0 < Nat.gcd up lo := Nat.gcd_pos_of_pos_right _ hlp
    have hgl : Nat.gcd up lo ≤ lo := Nat.gcd_le_right _ hlp
    have eg : Nat.gcd up lo = t * Nat.gcd (oU a b p v) (10 ^ oT a b) := by rw [e1, e2, Nat.gcd_mul_left]
    have d1 : up / Nat.gcd up lo = oU a b p v / Nat.gcd (oU a b p v) (10 ^ oT a b) := by rw [eg, e1, Nat.mul_div_mul_left _ _ ht]
    have d2 : lo / Nat.gcd up lo = 10 ^ oT a b / Nat.gcd (oU a b p v) (10 ^ oT a b) := by rw [eg, e2, Nat.mul_div_mul_left _ _ ht]
    have d3 := pk_div (a := up) (d := Nat.gcd up lo) (by omega) hgp (by omega)
    have d4 := pk_div (a := lo) (d := Nat.gcd up lo) (by omega) hgp (by omega)
    refine sX8_odds_53 _ ?_
    simp (disch := omega) only [bX8_odds_53, hM, nI_shl, Nat.one_mul, jm_ic, jm_lc, jm_il, jm_il2, jm_al, jm_al2, jm_is, jm_as, jm_inc, jm_inc2, jm_bin, jm_neg, jm_div, jm_rem, jm_ladd, jm_i2c, jm_dup, jm_dup2, jm_pop, jm_gI, jm_gL, jm_gR, jm_gC, jm_pI, jm_pZ, jm_pL, jm_gA, jm_ald, jm_ast, jm_aal, jm_alen, jm_cp, jm_c1, jm_c2, jm_c3, jm_v1, jm_v2, jm_v3, jm_v4, jm_v5, jm_if, jm_cmp, jm_ri, jm_rz, jm_rl, jm_rv, jm_tsw, jm_swk, jm_lsw, jm_lkk, jm_nth, jm_put, jm_sm, jm_p1, jm_p2, jm_p3, jm_m1, jm_m2, jm_ar, List.map_cons, List.map_nil, List.cons_append, List.nil_append, List.replicate_succ, List.replicate_zero, List.length_cons, List.length_nil, Option.toList_some, Option.toList_none, and_true, true_and, false_and, and_false, eq_self, true_or, or_true, if_true, if_false, Nat.lt_irrefl, Nat.reduceLT, Nat.reduceLeDiff, Nat.reduceEqDiff, Nat.reduceAdd, Nat.reduceSub, Int.reduceAdd, Int.zero_add, Nat.zero_lt_one, Nat.zero_add, Nat.le_refl, Nat.zero_le, ne_eq, not_false_eq_true, jb_0, jb_1, jb_01, jb_em, jz_0, jz_1, ji_nI, jt_nI, ja_nI, jm_nI, jlt_nI, jle_nI, jeq_nI, jeq0, jeq1, false_or, or_false, jlt0, jge0, jgt0, jle0, not_true_eq_false, false_implies, implies_true, true_implies, Classical.not_not, jm_rw1, jm_rwa, jm_rwl1, jm_rwl2, jm_rw1l, jm_rwal, jm_w1_wa, jm_w1_wn, jm_wa_wa, ja_0, jn_0, jl_len0, ja_11, jn_11, jl_len11, ja_12, jn_12, jl_len12, ja_13, jn_13, jl_len13, ja_14, jn_14, jl_len14, ja_15, jn_15, jl_len15, jra_15, ja_16, jn_16, jl_len16, ja_17, jn_17, jl_len17, ja_18, jn_18, jl_len18, ja_19, jn_19, jl_len19, ja_20, jn_20, jl_len20, ja_21, jn_21, jl_len21, ja_22, jn_22, jl_len22, ja_23, jn_23, jl_len23, ja_24, jn_24, jl_len24, ja_25, jn_25, jl_len25, ja_26, jn_26, jl_len26, ja_27, jn_27, jl_len27, ja_28, jn_28, jl_len28, ja_29, jn_29, jl_len29, jra_29, ja_30, jn_30, jl_len30, ja_31, jn_31, jl_len31, ja_32, jn_32, jl_len32, ja_33, jn_33, jl_len33, ja_34, jn_34, jl_len34, ja_35, jn_35, jl_len35, ja_36, jn_36, jl_len36, ja_37, jn_37, jl_len37, ja_38, jn_38, jl_len38, ja_39, jn_39, jl_len39, ja_40, jn_40, jl_len40, ja_41, jn_41, jl_len41, ja_42, jn_42, jl_len42, ja_43, jn_43, jl_len43, ja_44, jn_44, jl_len44, ja_45, jn_45, jl_len45, ja_46, jn_46, jl_len46, ja_47, jn_47, jl_len47]
    refine c_gd (by omega) (by omega) ?_
    simp (disch := omega) only [d3, d4, d1, d2, jm_ic, jm_lc, jm_il, jm_il2, jm_al, jm_al2, jm_is, jm_as, jm_inc, jm_inc2, jm_bin, jm_neg, jm_div, jm_rem, jm_ladd, jm_i2c, jm_dup, jm_dup2, jm_pop, jm_gI, jm_gL, jm_gR, jm_gC, jm_pI, jm_pZ, jm_pL, jm_gA, jm_ald, jm_ast, jm_aal, jm_alen, jm_cp, jm_c1, jm_c2, jm_c3, jm_v1, jm_v2, jm_v3, jm_v4, jm_v5, jm_if, jm_cmp, jm_ri, jm_rz, jm_rl, jm_rv, jm_tsw, jm_swk, jm_lsw, jm_lkk, jm_nth, jm_put, jm_sm, jm_p1, jm_p2, jm_p3, jm_m1, jm_m2, jm_ar, List.map_cons, List.map_nil, List.cons_append, List.nil_append, List.replicate_succ, List.replicate_zero, List.length_cons, List.length_nil, Option.toList_some, Option.toList_none, and_true, true_and, false_and, and_false, eq_self, true_or, or_true, if_true, if_false, Nat.lt_irrefl, Nat.reduceLT, Nat.reduceLeDiff, Nat.reduceEqDiff, Nat.reduceAdd, Nat.reduceSub, Int.reduceAdd, Int.zero_add, Nat.zero_lt_one, Nat.zero_add, Nat.le_refl, Nat.zero_le, ne_eq, not_false_eq_true, jb_0, jb_1, jb_01, jb_em, jz_0, jz_1, ji_nI, jt_nI, ja_nI, jm_nI, jlt_nI, jle_nI, jeq_nI, jeq0, jeq1, false_or, or_false, jlt0, jge0, jgt0, jle0, not_true_eq_false, false_implies, implies_true, true_implies, Classical.not_not, jm_rw1, jm_rwa, jm_rwl1, jm_rwl2, jm_rw1l, jm_rwal, jm_w1_wa, jm_w1_wn, jm_wa_wa, ja_0, jn_0, jl_len0, ja_11, jn_11, jl_len11, ja_12, jn_12, jl_len12, ja_13, jn_13, jl_len13, ja_14, jn_14, jl_len14, ja_15, jn_15, jl_len15, jra_15, ja_16, jn_16, jl_len16, ja_17, jn_17, jl_len17, ja_18, jn_18, jl_len18, ja_19, jn_19, jl_len19, ja_20, jn_20, jl_len20, ja_21, jn_21, jl_len21, ja_22, jn_22, jl_len22, ja_23, jn_23, jl_len23, ja_24, jn_24, jl_len24, ja_25, jn_25, jl_len25, ja_26, jn_26, jl_len26, ja_27, jn_27, jl_len27, ja_28, jn_28, jl_len28, ja_29, jn_29, jl_len29, jra_29, ja_30, jn_30, jl_len30, ja_31, jn_31, jl_len31, ja_32, jn_32, jl_len32, ja_33, jn_33, jl_len33, ja_34, jn_34, jl_len34, ja_35, jn_35, jl_len35, ja_36, jn_36, jl_len36, ja_37, jn_37, jl_len37, ja_38, jn_38, jl_len38, ja_39, jn_39, jl_len39, ja_40, jn_40, jl_len40, ja_41, jn_41, jl_len41, ja_42, jn_42, jl_len42, ja_43, jn_43, jl_len43, ja_44, jn_44, jl_len44, ja_45, jn_45, jl_len45, ja_46, jn_46, jl_len46, ja_47, jn_47, jl_len47]
    refine ⟨fun q1 => by omega, fun _ => ⟨fun q1 => ⟨by omega, ?_⟩, fun q1 => ⟨by omega, ?_⟩⟩⟩
    · rwa [oR, if_pos q1] at q
    · rwa [oR, if_neg q1] at q
  | succ n ih =>
    intro S o hS
    have := ih (S + 1) (some (.inl (nI (wt8 p S (cM (aC a)))))) (by omega)
    rw [show sumN (fun S => wt8 p S (cM (aC a)) * hG a b v S) (S + 1) = sumN (fun S => wt8 p S (cM (aC a)) * hG a b v S) S + wt8 p S (cM (aC a)) * hG a b v S from rfl, show sumN (fun S => wt8 p S (cM (aC a))) (S + 1) = sumN (fun S => wt8 p S (cM (aC a))) S + wt8 p S (cM (aC a)) from rfl] at this
    have hle := sH_le w1 (sW (aS a)) (fun m => S.testBit m) b (cP (aC a))
    refine sX8_odds_53 _ ?_
    simp (disch := omega) only [bX8_odds_53, hM, nI_shl, Nat.one_mul, jm_ic, jm_lc, jm_il, jm_il2, jm_al, jm_al2, jm_is, jm_as, jm_inc, jm_inc2, jm_bin, jm_neg, jm_div, jm_rem, jm_ladd, jm_i2c, jm_dup, jm_dup2, jm_pop, jm_gI, jm_gL, jm_gR, jm_gC, jm_pI, jm_pZ, jm_pL, jm_gA, jm_ald, jm_ast, jm_aal, jm_alen, jm_cp, jm_c1, jm_c2, jm_c3, jm_v1, jm_v2, jm_v3, jm_v4, jm_v5, jm_if, jm_cmp, jm_ri, jm_rz, jm_rl, jm_rv, jm_tsw, jm_swk, jm_lsw, jm_lkk, jm_nth, jm_put, jm_sm, jm_p1, jm_p2, jm_p3, jm_m1, jm_m2, jm_ar, List.map_cons, List.map_nil, List.cons_append, List.nil_append, List.replicate_succ, List.replicate_zero, List.length_cons, List.length_nil, Option.toList_some, Option.toList_none, and_true, true_and, false_and, and_false, eq_self, true_or, or_true, if_true, if_false, Nat.lt_irrefl, Nat.reduceLT, Nat.reduceLeDiff, Nat.reduceEqDiff, Nat.reduceAdd, Nat.reduceSub, Int.reduceAdd, Int.zero_add, Nat.zero_lt_one, Nat.zero_add, Nat.le_refl, Nat.zero_le, ne_eq, not_false_eq_true, jb_0, jb_1, jb_01, jb_em, jz_0, jz_1, ji_nI, jt_nI, ja_nI, jm_nI, jlt_nI, jle_nI, jeq_nI, jeq0, jeq1, false_or, or_false, jlt0, jge0, jgt0, jle0, not_true_eq_false, false_implies, implies_true, true_implies, Classical.not_not, jm_rw1, jm_rwa, jm_rwl1, jm_rwl2, jm_rw1l, jm_rwal, jm_w1_wa, jm_w1_wn, jm_wa_wa, ja_0, jn_0, jl_len0, ja_11, jn_11, jl_len11, ja_12, jn_12, jl_len12, ja_13, jn_13, jl_len13, ja_14, jn_14, jl_len14, ja_15, jn_15, jl_len15, jra_15, ja_16, jn_16, jl_len16, ja_17, jn_17, jl_len17, ja_18, jn_18, jl_len18, ja_19, jn_19, jl_len19, ja_20, jn_20, jl_len20, ja_21, jn_21, jl_len21, ja_22, jn_22, jl_len22, ja_23, jn_23, jl_len23, ja_24, jn_24, jl_len24, ja_25, jn_25, jl_len25, ja_26, jn_26, jl_len26, ja_27, jn_27, jl_len27, ja_28, jn_28, jl_len28, ja_29, jn_29, jl_len29, jra_29, ja_30, jn_30, jl_len30, ja_31, jn_31, jl_len31, ja_32, jn_32, jl_len32, ja_33, jn_33, jl_len33, ja_34, jn_34, jl_len34, ja_35, jn_35, jl_len35, ja_36, jn_36, jl_len36, ja_37, jn_37, jl_len37, ja_38, jn_38, jl_len38, ja_39, jn_39, jl_len39, ja_40, jn_40, jl_len40, ja_41, jn_41, jl_len41, ja_42, jn_42, jl_len42, ja_43, jn_43, jl_len43, ja_44, jn_44, jl_len44, ja_45, jn_45, jl_len45, ja_46, jn_46, jl_len46, ja_47, jn_47, jl_len47]
    refine ⟨fun q => by omega, fun _ => ?_⟩
    refine c_wt hW h hp (by omega) ?_
    simp (disch := omega) only [jm_ic, jm_lc, jm_il, jm_il2, jm_al, jm_al2, jm_is, jm_as, jm_inc, jm_inc2, jm_bin, jm_neg, jm_div, jm_rem, jm_ladd, jm_i2c, jm_dup, jm_dup2, jm_pop, jm_gI, jm_gL, jm_gR, jm_gC, jm_pI, jm_pZ, jm_pL, jm_gA, jm_ald, jm_ast, jm_aal, jm_alen, jm_cp, jm_c1, jm_c2, jm_c3, jm_v1, jm_v2, jm_v3, jm_v4, jm_v5, jm_if, jm_cmp, jm_ri, jm_rz, jm_rl, jm_rv, jm_tsw, jm_swk, jm_lsw, jm_lkk, jm_nth, jm_put, jm_sm, jm_p1, jm_p2, jm_p3, jm_m1, jm_m2, jm_ar, List.map_cons, List.map_nil, List.cons_append, List.nil_append, List.replicate_succ, List.replicate_zero, List.length_cons, List.length_nil, Option.toList_some, Option.toList_none, and_true, true_and, false_and, and_false, eq_self, true_or, or_true, if_true, if_false, Nat.lt_irrefl, Nat.reduceLT, Nat.reduceLeDiff, Nat.reduceEqDiff, Nat.reduceAdd, Nat.reduceSub, Int.reduceAdd, Int.zero_add, Nat.zero_lt_one, Nat.zero_add, Nat.le_refl, Nat.zero_le, ne_eq, not_false_eq_true, jb_0, jb_1, jb_01, jb_em, jz_0, jz_1, ji_nI, jt_nI, ja_nI, jm_nI, jlt_nI, jle_nI, jeq_nI, jeq0, jeq1, false_or, or_false, jlt0, jge0, jgt0, jle0, not_true_eq_false, false_implies, implies_true, true_implies, Classical.not_not, jm_rw1, jm_rwa, jm_rwl1, jm_rwl2, jm_rw1l, jm_rwal, jm_w1_wa, jm_w1_wn, jm_wa_wa, ja_0, jn_0, jl_len0, ja_11, jn_11, jl_len11, ja_12, jn_12, jl_len12, ja_13, jn_13, jl_len13, ja_14, jn_14, jl_len14, ja_15, jn_15, jl_len15, jra_15, ja_16, jn_16, jl_len16, ja_17, jn_17, jl_len17, ja_18, jn_18, jl_len18, ja_19, jn_19, jl_len19, ja_20, jn_20, jl_len20, ja_21, jn_21, jl_len21, ja_22, jn_22, jl_len22, ja_23, jn_23, jl_len23, ja_24, jn_24, jl_len24, ja_25, jn_25, jl_len25, ja_26, jn_26, jl_len26, ja_27, jn_27, jl_len27, ja_28, jn_28, jl_len28, ja_29, jn_29, jl_len29, jra_29, ja_30, jn_30, jl_len30, ja_31, jn_31, jl_len31, ja_32, jn_32, jl_len32, ja_33, jn_33, jl_len33, ja_34, jn_34, jl_len34, ja_35, jn_35, jl_len35, ja_36, jn_36, jl_len36, ja_37, jn_37, jl_len37, ja_38, jn_38, jl_len38, ja_39, jn_39, jl_len39, ja_40, jn_40, jl_len40, ja_41, jn_41, jl_len41, ja_42, jn_42, jl_len42, ja_43, jn_43, jl_len43, ja_44, jn_44, jl_len44, ja_45, jn_45, jl_len45, ja_46, jn_46, jl_len46, ja_47, jn_47, jl_len47]
    refine c_loud w1 h.1 h.2.1.1 (fun p _ => w2.1 p) hb (by omega) ?_
    simp (disch := omega) only [jm_ic, jm_lc, jm_il, jm_il2, jm_al, jm_al2, jm_is, jm_as, jm_inc, jm_inc2, jm_bin, jm_neg, jm_div, jm_rem, jm_ladd, jm_i2c, jm_dup, jm_dup2, jm_pop, jm_gI, jm_gL, jm_gR, jm_gC, jm_pI, jm_pZ, jm_pL, jm_gA, jm_ald, jm_ast, jm_aal, jm_alen, jm_cp, jm_c1, jm_c2, jm_c3, jm_v1, jm_v2, jm_v3, jm_v4, jm_v5, jm_if, jm_cmp, jm_ri, jm_rz, jm_rl, jm_rv, jm_tsw, jm_swk, jm_lsw, jm_lkk, jm_nth, jm_put, jm_sm, jm_p1, jm_p2, jm_p3, jm_m1, jm_m2, jm_ar, List.map_cons, List.map_nil, List.cons_append, List.nil_append, List.replicate_succ, List.replicate_zero, List.length_cons, List.length_nil, Option.toList_some, Option.toList_none, and_true, true_and, false_and, and_false, eq_self, true_or, or_true, if_true, if_false, Nat.lt_irrefl, Nat.reduceLT, Nat.reduceLeDiff, Nat.reduceEqDiff, Nat.reduceAdd, Nat.reduceSub, Int.reduceAdd, Int.zero_add, Nat.zero_lt_one, Nat.zero_add, Nat.le_refl, Nat.zero_le, ne_eq, not_false_eq_true, jb_0, jb_1, jb_01, jb_em, jz_0, jz_1, ji_nI, jt_nI, ja_nI, jm_nI, jlt_nI, jle_nI, jeq_nI, jeq0, jeq1, false_or, or_false, jlt0, jge0, jgt0, jle0, not_true_eq_false, false_implies, implies_true, true_implies, Classical.not_not, jm_rw1, jm_rwa, jm_rwl1, jm_rwl2, jm_rw1l, jm_rwal, jm_w1_wa, jm_w1_wn, jm_wa_wa, ja_0, jn_0, jl_len0, ja_11, jn_11, jl_len11, ja_12, jn_12, jl_len12, ja_13, jn_13, jl_len13, ja_14, jn_14, jl_len14, ja_15, jn_15, jl_len15, jra_15, ja_16, jn_16, jl_len16, ja_17, jn_17, jl_len17, ja_18, jn_18, jl_len18, ja_19, jn_19, jl_len19, ja_20, jn_20, jl_len20, ja_21, jn_21, jl_len21, ja_22, jn_22, jl_len22, ja_23, jn_23, jl_len23, ja_24, jn_24, jl_len24, ja_25, jn_25, jl_len25, ja_26, jn_26, jl_len26, ja_27, jn_27, jl_len27, ja_28, jn_28, jl_len28, ja_29, jn_29, jl_len29, jra_29, ja_30, jn_30, jl_len30, ja_31, jn_31, jl_len31, ja_32, jn_32, jl_len32, ja_33, jn_33, jl_len33, ja_34, jn_34, jl_len34, ja_35, jn_35, jl_len35, ja_36, jn_36, jl_len36, ja_37, jn_37, jl_len37, ja_38, jn_38, jl_len38, ja_39, jn_39, jl_len39, ja_40, jn_40, jl_len40, ja_41, jn_41, jl_len41, ja_42, jn_42, jl_len42, ja_43, jn_43, jl_len43, ja_44, jn_44, jl_len44, ja_45, jn_45, jl_len45, ja_46, jn_46, jl_len46, ja_47, jn_47, jl_len47]
    refine ⟨fun q1 => ?_, fun q1 => ?_⟩
    · rwa [hG, if_neg (by omega), Nat.mul_zero] at this
    · rwa [hG, if_pos (by omega), Nat.mul_one] at this
theorem mOdds_loop1 {b p v k : Nat} (hW : WA a) (h : IM a μ) (hS : SM (aC a) (aD a) (sE (aC a) (aD a) (aZ a)) μ) (hb : b < cB (aC a)) (q : jm_W x mX9_odds Q 138 ([some (.inr (.inr (10, 0))), some (.inl (nI b)), some (.inl (nI p)), some (.inl (nI v)), some (.inl (nI k)), some (.inl (nI (shd a b (cM (aC a))))), some (.inl (nI 0)), some (.inl (nI (10 ^ oT a b))), some (.inl (nI 0)), none, none], [], μ)) : ∀ (n m : Nat), m + n = cM (aC a) → jm_W x mX9_odds Q 73 ([some (.inr (.inr (10, 0))), some (.inl (nI b)), some (.inl (nI p)), some (.inl (nI v)), some (.inl (nI k)), some (.inl (nI (shd a b m))), some (.inl (nI 0)), some (.inl (nI (10 ^ cnt (fun m => (aD a m).testBit b) m))), some (.inl (nI m)), none, none], [], μ) := by
  obtain ⟨w1, ⟨w2, w2'⟩, -⟩ := id hW
  have c2 := w1.2.1
  have c4 := w1.2.2.2.1
  have hp12 := p12 c4
  have hM := h.1.2.2.2.2.1
  obtain ⟨s1, s2⟩ := id hS
  intro n
  induction n with
  | zero =>
    intro m hm
    have e1 : cnt (fun m => (aD a m).testBit b) m = oT a b := by
      unfold oT
      rw [show m = cM (aC a) by omega]
      exact cnt_cong fun i hi => by unfold shd; rw [bset_bit]; simp [hi]
    refine sX9_odds_73 _ ?_
    simp (disch := omega) only [bX9_odds_73, hM, jm_ic, jm_lc, jm_il, jm_il2, jm_al, jm_al2, jm_is, jm_as, jm_inc, jm_inc2, jm_bin, jm_neg, jm_div, jm_rem, jm_ladd, jm_i2c, jm_dup, jm_dup2, jm_pop, jm_gI, jm_gL, jm_gR, jm_gC, jm_pI, jm_pZ, jm_pL, jm_gA, jm_ald, jm_ast, jm_aal, jm_alen, jm_cp, jm_c1, jm_c2, jm_c3, jm_v1, jm_v2, jm_v3, jm_v4, jm_v5, jm_if, jm_cmp, jm_ri, jm_rz, jm_rl, jm_rv, jm_tsw, jm_swk, jm_lsw, jm_lkk, jm_nth, jm_put, jm_sm, jm_p1, jm_p2, jm_p3, jm_m1, jm_m2, jm_ar, List.map_cons, List.map_nil, List.cons_append, List.nil_append, List.replicate_succ, List.replicate_zero, List.length_cons, List.length_nil, Option.toList_some, Option.toList_none, and_true, true_and, false_and, and_false, eq_self, true_or, or_true, if_true, if_false, Nat.lt_irrefl, Nat.reduceLT, Nat.reduceLeDiff, Nat.reduceEqDiff, Nat.reduceAdd, Nat.reduceSub, Int.reduceAdd, Int.zero_add, Nat.zero_lt_one, Nat.zero_add, Nat.le_refl, Nat.zero_le, ne_eq, not_false_eq_true, jb_0, jb_1, jb_01, jb_em, jz_0, jz_1, ji_nI, jt_nI, ja_nI, jm_nI, jlt_nI, jle_nI, jeq_nI, jeq0, jeq1, false_or, or_false, jlt0, jge0, jgt0, jle0, not_true_eq_false, false_implies, implies_true, true_implies, Classical.not_not, jm_rw1, jm_rwa, jm_rwl1, jm_rwl2, jm_rw1l, jm_rwal, jm_w1_wa, jm_w1_wn, jm_wa_wa, ja_0, jn_0, jl_len0, ja_11, jn_11, jl_len11, ja_12, jn_12, jl_len12, ja_13, jn_13, jl_len13, ja_14, jn_14, jl_len14, ja_15, jn_15, jl_len15, jra_15, ja_16, jn_16, jl_len16, ja_17, jn_17, jl_len17, ja_18, jn_18, jl_len18, ja_19, jn_19, jl_len19, ja_20, jn_20, jl_len20, ja_21, jn_21, jl_len21, ja_22, jn_22, jl_len22, ja_23, jn_23, jl_len23, ja_24, jn_24, jl_len24, ja_25, jn_25, jl_len25, ja_26, jn_26, jl_len26, ja_27, jn_27, jl_len27, ja_28, jn_28, jl_len28, ja_29, jn_29, jl_len29, jra_29, ja_30, jn_30, jl_len30, ja_31, jn_31, jl_len31, ja_32, jn_32, jl_len32, ja_33, jn_33, jl_len33, ja_34, jn_34, jl_len34, ja_35, jn_35, jl_len35, ja_36, jn_36, jl_len36, ja_37, jn_37, jl_len37, ja_38, jn_38, jl_len38, ja_39, jn_39, jl_len39, ja_40, jn_40, jl_len40, ja_41, jn_41, jl_len41, ja_42, jn_42, jl_len42, ja_43, jn_43, jl_len43, ja_44, jn_44, jl_len44, ja_45, jn_45, jl_len45, ja_46, jn_46, jl_len46, ja_47, jn_47, jl_len47]
    refine ⟨fun _ => ?_, fun q => by omega⟩
    rw [e1, show m = cM (aC a) by omega]; exact q
  | succ n ih =>
    intro m hm
    have hdl := aD_lt hW m
    have hbl := bset_lt (fun m => (aD a m).testBit b) m
    have h2 : 2 ^ m ≤ 2 ^ 5 := Nat.pow_le_pow_right (by decide) (by omega)
    have hj := jbt_le (aD a m) b
    have hj2 : jbt (aD a m) b * 2 ^ m < 2 ^ 32 := Nat.lt_of_le_of_lt (Nat.mul_le_mul hj h2) (by decide)
    have e : shd a b m ||| jbt (aD a m) b * 2 ^ m = shd a b (m + 1) := by
      unfold shd jbt
      rw [bset]
      by_cases q : (aD a m).testBit b = true
      · rw [if_pos q, if_pos q, Nat.one_mul, or_pow hbl]
      · rw [if_neg q, if_neg q, Nat.zero_mul, Nat.or_zero, Nat.add_zero]
    have := ih (m + 1) (by omega)
    rw [show cnt (fun m => (aD a m).testBit b) (m + 1) = cnt (fun m => (aD a m).testBit b) m + if (aD a m).testBit b = true then 1 else 0 from rfl] at this
    refine sX9_odds_73 _ ?_
    simp (disch := omega) only [bX9_odds_73, hM, s1, nI_bit, nI_shl, nI_or, e, jbtI_1, jbt_1, jm_ic, jm_lc, jm_il, jm_il2, jm_al, jm_al2, jm_is, jm_as, jm_inc, jm_inc2, jm_bin, jm_neg, jm_div, jm_rem, jm_ladd, jm_i2c, jm_dup, jm_dup2, jm_pop, jm_gI, jm_gL, jm_gR, jm_gC, jm_pI, jm_pZ, jm_pL, jm_gA, jm_ald, jm_ast, jm_aal, jm_alen, jm_cp, jm_c1, jm_c2, jm_c3, jm_v1, jm_v2, jm_v3, jm_v4, jm_v5, jm_if, jm_cmp, jm_ri, jm_rz, jm_rl, jm_rv, jm_tsw, jm_swk, jm_lsw, jm_lkk, jm_nth, jm_put, jm_sm, jm_p1, jm_p2, jm_p3, jm_m1, jm_m2, jm_ar, List.map_cons, List.map_nil, List.cons_append, List.nil_append, List.replicate_succ, List.replicate_zero, List.length_cons, List.length_nil, Option.toList_some, Option.toList_none, and_true, true_and, false_and, and_false, eq_self, true_or, or_true, if_true, if_false, Nat.lt_irrefl, Nat.reduceLT, Nat.reduceLeDiff, Nat.reduceEqDiff, Nat.reduceAdd, Nat.reduceSub, Int.reduceAdd, Int.zero_add, Nat.zero_lt_one, Nat.zero_add, Nat.le_refl, Nat.zero_le, ne_eq, not_false_eq_true, jb_0, jb_1, jb_01, jb_em, jz_0, jz_1, ji_nI, jt_nI, ja_nI, jm_nI, jlt_nI, jle_nI, jeq_nI, jeq0, jeq1, false_or, or_false, jlt0, jge0, jgt0, jle0, not_true_eq_false, false_implies, implies_true, true_implies, Classical.not_not, jm_rw1, jm_rwa, jm_rwl1, jm_rwl2, jm_rw1l, jm_rwal, jm_w1_wa, jm_w1_wn, jm_wa_wa, ja_0, jn_0, jl_len0, ja_11, jn_11, jl_len11, ja_12, jn_12, jl_len12, ja_13, jn_13, jl_len13, ja_14, jn_14, jl_len14, ja_15, jn_15, jl_len15, jra_15, ja_16, jn_16, jl_len16, ja_17, jn_17, jl_len17, ja_18, jn_18, jl_len18, ja_19, jn_19, jl_len19, ja_20, jn_20, jl_len20, ja_21, jn_21, jl_len21, ja_22, jn_22, jl_len22, ja_23, jn_23, jl_len23, ja_24, jn_24, jl_len24, ja_25, jn_25, jl_len25, ja_26, jn_26, jl_len26, ja_27, jn_27, jl_len27, ja_28, jn_28, jl_len28, ja_29, jn_29, jl_len29, jra_29, ja_30, jn_30, jl_len30, ja_31, jn_31, jl_len31, ja_32, jn_32, jl_len32, ja_33, jn_33, jl_len33, ja_34, jn_34, jl_len34, ja_35, jn_35, jl_len35, ja_36, jn_36, jl_len36, ja_37, jn_37, jl_len37, ja_38, jn_38, jl_len38, ja_39, jn_39, jl_len39, ja_40, jn_40, jl_len40, ja_41, jn_41, jl_len41, ja_42, jn_42, jl_len42, ja_43, jn_43, jl_len43, ja_44, jn_44, jl_len44, ja_45, jn_45, jl_len45, ja_46, jn_46, jl_len46, ja_47, jn_47, jl_len47]
    refine ⟨fun q => by omega, fun _ => ⟨fun q1 => ?_, fun q1 => ?_⟩⟩
    · rw [if_pos q1, Nat.pow_succ] at this
      exact this
    · rw [if_neg q1, Nat.add_zero] at this
      rw [Nat.mul_one]
      exact this
end JOD2
