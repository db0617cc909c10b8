/-! step: leftOut, the model -/
def eUp (e : Nat → Nat) (m s : Nat) : Nat → Nat := fun k => if k = m then e m ||| s else e k
theorem eUp_m (e : Nat → Nat) (m s : Nat) : eUp e m s m = e m ||| s := if_pos rfl
theorem eUp_n {e : Nat → Nat} {m s k : Nat} (h : k ≠ m) : eUp e m s k = e k := if_neg h
theorem eUp_pay {c : jT} {d z : Nat → Nat} {m s : Nat} (hm : m < cM c) (hs : nd s (nd (d m) (z m)) = 0) : ∀ b, b ≤ cB c → payE c (eUp (sE c d z) m s) m b = payE c (sE c d z) m b + wS (lW c d z) (Nat.testBit s) b
  | 0, _ => rfl
  | b + 1, hb => by
    unfold payE wS
    rw [eUp_pay hm hs b (by omega), eUp_m, Nat.testBit_or]
    cases e : s.testBit b with
    | false =>
      have : eC (eUp (sE c d z) m s) (cM c) b = eC (sE c d z) (cM c) b := by
        unfold eC
        refine cnt_cong fun k _ => ?_
        by_cases ek : k = m
        · rw [ek, eUp_m, Nat.testBit_or, e, Bool.or_false]
        · rw [eUp_n ek]
      rw [this, Bool.or_false, if_neg (show ¬ false = true by decide)]
      omega
    | true =>
      have h1 := (nd_0 s _).mp hs b e
      rw [nd_rB] at h1
      have h2 : (sE c d z m).testBit b = false := by rw [sE_bit]; simp at h1; simp [h1]
      have h3 : eC (eUp (sE c d z) m s) (cM c) b = rC d z (cM c) b + 1 := by
        rw [← eC_sE (c := c) (by omega : b < cB c) (cM c)]
        unfold eC
        rw [cnt_rmv (p := fun k => (eUp (sE c d z) m s k).testBit b) (t := m) (by show (eUp (sE c d z) m s m).testBit b = true; rw [eUp_m, Nat.testBit_or, e, Bool.or_true]) hm]
        congr 1
        refine cnt_cong fun k _ => ?_
        unfold rmv
        by_cases ek : m = k
        · subst ek; simp [h2]
        · show ((eUp (sE c d z) m s k).testBit b && !decide (m = k)) = (sE c d z k).testBit b
          rw [eUp_n (fun q => ek q.symm)]; simp [ek]
      rw [h3, h2, Bool.false_or, if_pos rfl, if_neg (by decide), if_pos rfl]
      show _ = _ + 0 + (_ + cU c / (rC d z (cM c) b + 1))
      omega
def lV (o : Option Nat) : Int32 := match o with
  | none => -9
  | some t => nI t
def lAns (o : Option Nat) (k B : Nat) : Int32 := match o with
  | none => -9
  | some t => if k = 1 then nI t else nI (lcnt B t)
theorem nI_n9 {t : Nat} (h : t < 5000) : (nI t = -9) = False := by
  rw [show (-9 : Int32) = jI (-9) by decide, nI_jI, jI_eq (by omega) (by omega) (by omega) (by omega)]
  simp
section JLM
variable {x : jm_X} {c : jT} {μ : jm_M} {Q : Option jm_V → jm_M → Prop} {w d z : Nat → Nat} {m k : Nat} {need : Int}
theorem left_103 {s : Nat} {v5 : Int32} (hc : cW c) (hT : TM c μ) (hd : ∀ m, m < cM c → d m < 2 ^ cB c) (h46 : ∀ m, m < cM c → μ.1 46 0 m = nI (d m)) (hR : RW c w z 39 0 μ) (hm : m < cM c) (hs : s < 2 ^ cB c) (hsub : nd s (nd (d m) (z m)) = 0) (g : Nat → Int32) (hg : ∀ a, a < cM c → a ≠ m → g a = nI (sE c d z a))
    (qa : ∀ g', (∀ a, a < cM c → a ≠ m → g' a = nI (sE c d z a)) → (cD c m : Int) - sPay c d z m ≤ (wS (lW c d z) (Nat.testBit s) (cB c) : Int) → jm_W x mX9_leftOut Q 65 ([some (.inr (.inr (10, 0))), some (.inl (nI m)), some (.inl (nI k)), some (.inl (nI (nd (d m) (z m)))), some (.inl (nI (sE c d z m))), some (.inl (nI s)), some (.inl (nI (s + 1)))], [], jm_wa μ 47 0 g'))
    (qb : ∀ g', (∀ a, a < cM c → a ≠ m → g' a = nI (sE c d z a)) → ¬ (cD c m : Int) - sPay c d z m ≤ (wS (lW c d z) (Nat.testBit s) (cB c) : Int) → jm_W x mX9_leftOut Q 65 ([some (.inr (.inr (10, 0))), some (.inl (nI m)), some (.inl (nI k)), some (.inl (nI (nd (d m) (z m)))), some (.inl (nI (sE c d z m))), some (.inl v5), some (.inl (nI (s + 1)))], [], jm_wa μ 47 0 g')) :
    jm_W x mX9_leftOut Q 103 ([some (.inr (.inr (10, 0))), some (.inl (nI m)), some (.inl (nI k)), some (.inl (nI (nd (d m) (z m)))), some (.inl (nI (sE c d z m))), some (.inl v5), some (.inl (nI s))], [], jm_wa μ 47 0 g) := by
  obtain ⟨hB, hU, hF, hP, hM, hL, hN, hG, hD⟩ := id hT
  obtain ⟨c1, c2, c3, c4, c5, c6, c7⟩ := id hc
  have hp12 := p12 c4
  have hdm := hc.2.2.2.2.2.2.2.2.2.2 m
  have hD' : μ.1 38 0 m = jI (cD c m : Int) := by rw [hD m hm]; rfl
  have hpl := sPay_le hc d z m
  have hwl := wS_le (p := Nat.testBit s) (fun b => lW_le hc d z b) (cB c)
  have hpay : ePay c d z (eUp (sE c d z) m s) m = sPay c d z m + (wS (lW c d z) (Nat.testBit s) (cB c) : Int) := by
    unfold ePay sPay
    rw [eUp_pay hm hsub (cB c) (Nat.le_refl _)]
    omega
  have he : ∀ a, a < cM c → eUp (sE c d z) m s a < 2 ^ cB c := by
    intro a _
    by_cases e : a = m
    · rw [e, eUp_m]; exact Nat.or_lt_two_pow (sE_lt c d z m) hs
    · rw [eUp_n e]; exact sE_lt c d z a
  have hg' : ∀ v, ∀ a, a < cM c → a ≠ m → upd g m v a = nI (sE c d z a) := fun v a ha e => by rw [upd_ne e]; exact hg a ha e
  refine sX9_leftOut_103 _ ?_
  simp (disch := omega) only [bX9_leftOut_103, nI_or, jm_ic, jm_lc, jm_il, jm_il2, jm_al, jm_al2, jm_is, jm_as, jm_inc, jm_inc2, jm_bin, jm_neg, jm_div, jm_rem, jm_ladd, jm_i2c, jm_dup, jm_dup2, jm_pop, jm_gI, jm_gL, jm_gR, jm_gC, jm_pI, jm_pZ, jm_pL, jm_gA, jm_ald, jm_ast, jm_aal, jm_alen, jm_cp, jm_c1, jm_c2, jm_c3, jm_v1, jm_v2, jm_v3, jm_v4, jm_v5, jm_if, jm_cmp, jm_ri, jm_rz, jm_rl, jm_rv, jm_tsw, jm_swk, jm_lsw, jm_lkk, jm_nth, jm_put, jm_sm, jm_p1, jm_p2, jm_p3, jm_m1, jm_m2, jm_ar, List.map_cons, List.map_nil, List.cons_append, List.nil_append, List.replicate_succ, List.replicate_zero, List.length_cons, List.length_nil, Option.toList_some, Option.toList_none, and_true, true_and, false_and, and_false, eq_self, true_or, or_true, if_true, if_false, Nat.lt_irrefl, Nat.reduceLT, Nat.reduceLeDiff, Nat.reduceEqDiff, Nat.reduceAdd, Nat.reduceSub, Int.reduceAdd, Int.zero_add, Nat.zero_lt_one, Nat.zero_add, Nat.le_refl, Nat.zero_le, ne_eq, not_false_eq_true, jb_0, jb_1, jb_01, jb_em, jz_0, jz_1, ji_nI, jt_nI, ja_nI, jm_nI, jlt_nI, jle_nI, jeq_nI, jeq0, jeq1, false_or, or_false, jlt0, jge0, jgt0, jle0, not_true_eq_false, false_implies, implies_true, true_implies, Classical.not_not, jm_rw1, jm_rwa, jm_rwl1, jm_rwl2, jm_rw1l, jm_rwal, jm_w1_wa, jm_w1_wn, jm_wa_wa, ja_0, jn_0, jl_len0, ja_11, jn_11, jl_len11, ja_12, jn_12, jl_len12, ja_13, jn_13, jl_len13, ja_14, jn_14, jl_len14, ja_15, jn_15, jl_len15, jra_15, ja_16, jn_16, jl_len16, ja_17, jn_17, jl_len17, ja_18, jn_18, jl_len18, ja_19, jn_19, jl_len19, ja_20, jn_20, jl_len20, ja_21, jn_21, jl_len21, ja_22, jn_22, jl_len22, ja_23, jn_23, jl_len23, ja_24, jn_24, jl_len24, ja_25, jn_25, jl_len25, ja_26, jn_26, jl_len26, ja_27, jn_27, jl_len27, ja_28, jn_28, jl_len28, ja_29, jn_29, jl_len29, jra_29, ja_30, jn_30, jl_len30, ja_31, jn_31, jl_len31, ja_32, jn_32, jl_len32, ja_33, jn_33, jl_len33, ja_34, jn_34, jl_len34, ja_35, jn_35, jl_len35, ja_36, jn_36, jl_len36, ja_37, jn_37, jl_len37, ja_38, jn_38, jl_len38, ja_39, jn_39, jl_len39, ja_40, jn_40, jl_len40, ja_41, jn_41, jl_len41, ja_42, jn_42, jl_len42, ja_43, jn_43, jl_len43, ja_44, jn_44, jl_len44, ja_45, jn_45, jl_len45, ja_46, jn_46, jl_len46, ja_47, jn_47, jl_len47]
  refine c_payOf (w := w) (z := z) (d := d) (e := eUp (sE c d z) m s) hc ?_ ?_ hd he (by decide +kernel) (by decide +kernel) ?_ hm ?_
  · exact hT
  · refine ⟨h46, fun a ha => ?_⟩
    show upd g m (nI (sE c d z m ||| s)) a = _
    by_cases e : a = m
    · rw [e, upd_at, eUp_m]
    · rw [hg' _ a ha e, eUp_n e]
  · exact hR
  · rw [hpay]
    simp (disch := omega) only [hD', jI_lt, jm_ic, jm_lc, jm_il, jm_il2, jm_al, jm_al2, jm_is, jm_as, jm_inc, jm_inc2, jm_bin, jm_neg, jm_div, jm_rem, jm_ladd, jm_i2c, jm_dup, jm_dup2, jm_pop, jm_gI, jm_gL, jm_gR, jm_gC, jm_pI, jm_pZ, jm_pL, jm_gA, jm_ald, jm_ast, jm_aal, jm_alen, jm_cp, jm_c1, jm_c2, jm_c3, jm_v1, jm_v2, jm_v3, jm_v4, jm_v5, jm_if, jm_cmp, jm_ri, jm_rz, jm_rl, jm_rv, jm_tsw, jm_swk, jm_lsw, jm_lkk, jm_nth, jm_put, jm_sm, jm_p1, jm_p2, jm_p3, jm_m1, jm_m2, jm_ar, List.map_cons, List.map_nil, List.cons_append, List.nil_append, List.replicate_succ, List.replicate_zero, List.length_cons, List.length_nil, Option.toList_some, Option.toList_none, and_true, true_and, false_and, and_false, eq_self, true_or, or_true, if_true, if_false, Nat.lt_irrefl, Nat.reduceLT, Nat.reduceLeDiff, Nat.reduceEqDiff, Nat.reduceAdd, Nat.reduceSub, Int.reduceAdd, Int.zero_add, Nat.zero_lt_one, Nat.zero_add, Nat.le_refl, Nat.zero_le, ne_eq, not_false_eq_true, jb_0, jb_1, jb_01, jb_em, jz_0, jz_1, ji_nI, jt_nI, ja_nI, jm_nI, jlt_nI, jle_nI, jeq_nI, jeq0, jeq1, false_or, or_false, jlt0, jge0, jgt0, jle0, not_true_eq_false, false_implies, implies_true, true_implies, Classical.not_not, jm_rw1, jm_rwa, jm_rwl1, jm_rwl2, jm_rw1l, jm_rwal, jm_w1_wa, jm_w1_wn, jm_wa_wa, ja_0, jn_0, jl_len0, ja_11, jn_11, jl_len11, ja_12, jn_12, jl_len12, ja_13, jn_13, jl_len13, ja_14, jn_14, jl_len14, ja_15, jn_15, jl_len15, jra_15, ja_16, jn_16, jl_len16, ja_17, jn_17, jl_len17, ja_18, jn_18, jl_len18, ja_19, jn_19, jl_len19, ja_20, jn_20, jl_len20, ja_21, jn_21, jl_len21, ja_22, jn_22, jl_len22, ja_23, jn_23, jl_len23, ja_24, jn_24, jl_len24, ja_25, jn_25, jl_len25, ja_26, jn_26, jl_len26, ja_27, jn_27, jl_len27, ja_28, jn_28, jl_len28, ja_29, jn_29, jl_len29, jra_29, ja_30, jn_30, jl_len30, ja_31, jn_31, jl_len31, ja_32, jn_32, jl_len32, ja_33, jn_33, jl_len33, ja_34, jn_34, jl_len34, ja_35, jn_35, jl_len35, ja_36, jn_36, jl_len36, ja_37, jn_37, jl_len37, ja_38, jn_38, jl_len38, ja_39, jn_39, jl_len39, ja_40, jn_40, jl_len40, ja_41, jn_41, jl_len41, ja_42, jn_42, jl_len42, ja_43, jn_43, jl_len43, ja_44, jn_44, jl_len44, ja_45, jn_45, jl_len45, ja_46, jn_46, jl_len46, ja_47, jn_47, jl_len47]
    refine ⟨fun q => ?_, fun q => ?_⟩
    · exact qb _ (hg' _) (by omega)
    · exact qa _ (hg' _) (by omega)
theorem left_loop (hc : cW c) (hT : TM c μ) (hd : ∀ m, m < cM c → d m < 2 ^ cB c) (h46 : ∀ m, m < cM c → μ.1 46 0 m = nI (d m)) (hR : RW c w z 39 0 μ) (hm : m < cM c) (hk : k < 2) (hne : need = (cD c m : Int) - sPay c d z m)
    (q : ∀ g, Q (some (.inl (lAns (mbest (lgood (lW c d z) (cB c) (nd (d m) (z m)) need) (lcnt (cB c)) (2 ^ cB c)) k (cB c)))) (jm_wa μ 47 0 g)) : ∀ (n s : Nat) (g : Nat → Int32), s + n = 2 ^ cB c → (∀ a, a < cM c → a ≠ m → g a = nI (sE c d z a)) →
    jm_W x mX9_leftOut Q 65 ([some (.inr (.inr (10, 0))), some (.inl (nI m)), some (.inl (nI k)), some (.inl (nI (nd (d m) (z m)))), some (.inl (nI (sE c d z m))), some (.inl (lV (mbest (lgood (lW c d z) (cB c) (nd (d m) (z m)) need) (lcnt (cB c)) s))), some (.inl (nI s))], [], jm_wa μ 47 0 g) := by
  obtain ⟨hB, hU, hF, hP, hM, hL, hN, hG, hD⟩ := id hT
  obtain ⟨c1, c2, c3, c4, c5, c6, c7⟩ := id hc
  have hp12 := p12 c4
  have hp0 := Nat.two_pow_pos (cB c)
  have hall := nI_all c4
  intro n
  induction n with
  | zero =>
    intro s g hs hg
    have q := q g
    rw [← show s = 2 ^ cB c by omega] at q
    obtain ⟨-, m2⟩ := mb_ok (lgood (lW c d z) (cB c) (nd (d m) (z m)) need) (lcnt (cB c)) s
    generalize mbest (lgood (lW c d z) (cB c) (nd (d m) (z m)) need) (lcnt (cB c)) s = o at q m2 ⊢
    cases o with
    | none =>
      unfold lV
      refine sX9_leftOut_65 _ ?_
      simp (disch := omega) only [bX9_leftOut_65, jp_mB, hB, hall, jm_ic, jm_lc, jm_il, jm_il2, jm_al, jm_al2, jm_is, jm_as, jm_inc, jm_inc2, jm_bin, jm_neg, jm_div, jm_rem, jm_ladd, jm_i2c, jm_dup, jm_dup2, jm_pop, jm_gI, jm_gL, jm_gR, jm_gC, jm_pI, jm_pZ, jm_pL, jm_gA, jm_ald, jm_ast, jm_aal, jm_alen, jm_cp, jm_c1, jm_c2, jm_c3, jm_v1, jm_v2, jm_v3, jm_v4, jm_v5, jm_if, jm_cmp, jm_ri, jm_rz, jm_rl, jm_rv, jm_tsw, jm_swk, jm_lsw, jm_lkk, jm_nth, jm_put, jm_sm, jm_p1, jm_p2, jm_p3, jm_m1, jm_m2, jm_ar, List.map_cons, List.map_nil, List.cons_append, List.nil_append, List.replicate_succ, List.replicate_zero, List.length_cons, List.length_nil, Option.toList_some, Option.toList_none, and_true, true_and, false_and, and_false, eq_self, true_or, or_true, if_true, if_false, Nat.lt_irrefl, Nat.reduceLT, Nat.reduceLeDiff, Nat.reduceEqDiff, Nat.reduceAdd, Nat.reduceSub, Int.reduceAdd, Int.zero_add, Nat.zero_lt_one, Nat.zero_add, Nat.le_refl, Nat.zero_le, ne_eq, not_false_eq_true, jb_0, jb_1, jb_01, jb_em, jz_0, jz_1, ji_nI, jt_nI, ja_nI, jm_nI, jlt_nI, jle_nI, jeq_nI, jeq0, jeq1, false_or, or_false, jlt0, jge0, jgt0, jle0, not_true_eq_false, false_implies, implies_true, true_implies, Classical.not_not, jm_rw1, jm_rwa, jm_rwl1, jm_rwl2, jm_rw1l, jm_rwal, jm_w1_wa, jm_w1_wn, jm_wa_wa, ja_0, jn_0, jl_len0, ja_11, jn_11, jl_len11, ja_12, jn_12, jl_len12, ja_13, jn_13, jl_len13, ja_14, jn_14, jl_len14, ja_15, jn_15, jl_len15, jra_15, ja_16, jn_16, jl_len16, ja_17, jn_17, jl_len17, ja_18, jn_18, jl_len18, ja_19, jn_19, jl_len19, ja_20, jn_20, jl_len20, ja_21, jn_21, jl_len21, ja_22, jn_22, jl_len22, ja_23, jn_23, jl_len23, ja_24, jn_24, jl_len24, ja_25, jn_25, jl_len25, ja_26, jn_26, jl_len26, ja_27, jn_27, jl_len27, ja_28, jn_28, jl_len28, ja_29, jn_29, jl_len29, jra_29, ja_30, jn_30, jl_len30, ja_31, jn_31, jl_len31, ja_32, jn_32, jl_len32, ja_33, jn_33, jl_len33, ja_34, jn_34, jl_len34, ja_35, jn_35, jl_len35, ja_36, jn_36, jl_len36, ja_37, jn_37, jl_len37, ja_38, jn_38, jl_len38, ja_39, jn_39, jl_len39, ja_40, jn_40, jl_len40, ja_41, jn_41, jl_len41, ja_42, jn_42, jl_len42, ja_43, jn_43, jl_len43, ja_44, jn_44, jl_len44, ja_45, jn_45, jl_len45, ja_46, jn_46, jl_len46, ja_47, jn_47, jl_len47]
      refine ⟨fun _ => q, fun q => by omega⟩
    | some t =>
      obtain ⟨t1, -, -⟩ := m2 t rfl
      have e9 := nI_n9 (t := t) (by omega)
      have eo := jp_ones_eq (a := t) (by omega)
      rw [lcnt_bc c4 (by omega : t < 2 ^ cB c)] at eo
      unfold lV
      refine sX9_leftOut_65 _ ?_
      simp (disch := omega) only [bX9_leftOut_65, jp_mB, hB, hall, e9, eo, jm_ic, jm_lc, jm_il, jm_il2, jm_al, jm_al2, jm_is, jm_as, jm_inc, jm_inc2, jm_bin, jm_neg, jm_div, jm_rem, jm_ladd, jm_i2c, jm_dup, jm_dup2, jm_pop, jm_gI, jm_gL, jm_gR, jm_gC, jm_pI, jm_pZ, jm_pL, jm_gA, jm_ald, jm_ast, jm_aal, jm_alen, jm_cp, jm_c1, jm_c2, jm_c3, jm_v1, jm_v2, jm_v3, jm_v4, jm_v5, jm_if, jm_cmp, jm_ri, jm_rz, jm_rl, jm_rv, jm_tsw, jm_swk, jm_lsw, jm_lkk, jm_nth, jm_put, jm_sm, jm_p1, jm_p2, jm_p3, jm_m1, jm_m2, jm_ar, List.map_cons, List.map_nil, List.cons_append, List.nil_append, List.replicate_succ, List.replicate_zero, List.length_cons, List.length_nil, Option.toList_some, Option.toList_none, and_true, true_and, false_and, and_false, eq_self, true_or, or_true, if_true, if_false, Nat.lt_irrefl, Nat.reduceLT, Nat.reduceLeDiff, Nat.reduceEqDiff, Nat.reduceAdd, Nat.reduceSub, Int.reduceAdd, Int.zero_add, Nat.zero_lt_one, Nat.zero_add, Nat.le_refl, Nat.zero_le, ne_eq, not_false_eq_true, jb_0, jb_1, jb_01, jb_em, jz_0, jz_1, ji_nI, jt_nI, ja_nI, jm_nI, jlt_nI, jle_nI, jeq_nI, jeq0, jeq1, false_or, or_false, jlt0, jge0, jgt0, jle0, not_true_eq_false, false_implies, implies_true, true_implies, Classical.not_not, jm_rw1, jm_rwa, jm_rwl1, jm_rwl2, jm_rw1l, jm_rwal, jm_w1_wa, jm_w1_wn, jm_wa_wa, ja_0, jn_0, jl_len0, ja_11, jn_11, jl_len11, ja_12, jn_12, jl_len12, ja_13, jn_13, jl_len13, ja_14, jn_14, jl_len14, ja_15, jn_15, jl_len15, jra_15, ja_16, jn_16, jl_len16, ja_17, jn_17, jl_len17, ja_18, jn_18, jl_len18, ja_19, jn_19, jl_len19, ja_20, jn_20, jl_len20, ja_21, jn_21, jl_len21, ja_22, jn_22, jl_len22, ja_23, jn_23, jl_len23, ja_24, jn_24, jl_len24, ja_25, jn_25, jl_len25, ja_26, jn_26, jl_len26, ja_27, jn_27, jl_len27, ja_28, jn_28, jl_len28, ja_29, jn_29, jl_len29, jra_29, ja_30, jn_30, jl_len30, ja_31, jn_31, jl_len31, ja_32, jn_32, jl_len32, ja_33, jn_33, jl_len33, ja_34, jn_34, jl_len34, ja_35, jn_35, jl_len35, ja_36, jn_36, jl_len36, ja_37, jn_37, jl_len37, ja_38, jn_38, jl_len38, ja_39, jn_39, jl_len39, ja_40, jn_40, jl_len40, ja_41, jn_41, jl_len41, ja_42, jn_42, jl_len42, ja_43, jn_43, jl_len43, ja_44, jn_44, jl_len44, ja_45, jn_45, jl_len45, ja_46, jn_46, jl_len46, ja_47, jn_47, jl_len47]
      refine ⟨fun _ => ⟨fun q1 => ?_, fun q1 => ?_⟩, fun q => by omega⟩
      · unfold lAns at q
        simp only [if_pos q1] at q
        exact q
      · unfold lAns at q
        simp only [if_neg q1] at q
        exact q
  | succ n ih =>
    intro s g hs hg
    have hss : s < 2 ^ cB c := by omega
    have hnd := nd_le s (nd (d m) (z m)) hss
    have es : mbest (lgood (lW c d z) (cB c) (nd (d m) (z m)) need) (lcnt (cB c)) (s + 1) = match mbest (lgood (lW c d z) (cB c) (nd (d m) (z m)) need) (lcnt (cB c)) s with
      | none => if lgood (lW c d z) (cB c) (nd (d m) (z m)) need s then some s else none
      | some t => if lgood (lW c d z) (cB c) (nd (d m) (z m)) need s && decide (lcnt (cB c) s < lcnt (cB c) t) then some s else some t := rfl
    have ih := fun g => ih (s + 1) g (by omega)
    rw [es] at ih
    obtain ⟨-, m2⟩ := mb_ok (lgood (lW c d z) (cB c) (nd (d m) (z m)) need) (lcnt (cB c)) s
    generalize mbest (lgood (lW c d z) (cB c) (nd (d m) (z m)) need) (lcnt (cB c)) s = o at ih m2 ⊢
    have gd : lgood (lW c d z) (cB c) (nd (d m) (z m)) need s = (decide (nd s (nd (d m) (z m)) = 0) && decide (need ≤ (wS (lW c d z) (Nat.testBit s) (cB c) : Int))) := rfl
    have gt : nd s (nd (d m) (z m)) = 0 → need ≤ (wS (lW c d z) (Nat.testBit s) (cB c) : Int) → lgood (lW c d z) (cB c) (nd (d m) (z m)) need s = true := fun h1 h2 => by rw [gd, decide_eq_true h1, decide_eq_true h2]; rfl
    have gf1 : ¬ nd s (nd (d m) (z m)) = 0 → lgood (lW c d z) (cB c) (nd (d m) (z m)) need s = false := fun h1 => by rw [gd, decide_eq_false h1]; rfl
    have gf2 : ¬ need ≤ (wS (lW c d z) (Nat.testBit s) (cB c) : Int) → lgood (lW c d z) (cB c) (nd (d m) (z m)) need s = false := fun h1 => by rw [gd, decide_eq_false h1, Bool.and_false]
    have eo1 := jp_ones_eq (a := s) (by omega)
    rw [lcnt_bc c4 hss] at eo1
    have hcs : lcnt (cB c) s ≤ cB c := cnt_le _ _
    cases o with
    | none =>
      unfold lV
      refine sX9_leftOut_65 _ ?_
      simp (disch := omega) only [bX9_leftOut_65, jp_mB, hB, hall, nI_nd, jm_ic, jm_lc, jm_il, jm_il2, jm_al, jm_al2, jm_is, jm_as, jm_inc, jm_inc2, jm_bin, jm_neg, jm_div, jm_rem, jm_ladd, jm_i2c, jm_dup, jm_dup2, jm_pop, jm_gI, jm_gL, jm_gR, jm_gC, jm_pI, jm_pZ, jm_pL, jm_gA, jm_ald, jm_ast, jm_aal, jm_alen, jm_cp, jm_c1, jm_c2, jm_c3, jm_v1, jm_v2, jm_v3, jm_v4, jm_v5, jm_if, jm_cmp, jm_ri, jm_rz, jm_rl, jm_rv, jm_tsw, jm_swk, jm_lsw, jm_lkk, jm_nth, jm_put, jm_sm, jm_p1, jm_p2, jm_p3, jm_m1, jm_m2, jm_ar, List.map_cons, List.map_nil, List.cons_append, List.nil_append, List.replicate_succ, List.replicate_zero, List.length_cons, List.length_nil, Option.toList_some, Option.toList_none, and_true, true_and, false_and, and_false, eq_self, true_or, or_true, if_true, if_false, Nat.lt_irrefl, Nat.reduceLT, Nat.reduceLeDiff, Nat.reduceEqDiff, Nat.reduceAdd, Nat.reduceSub, Int.reduceAdd, Int.zero_add, Nat.zero_lt_one, Nat.zero_add, Nat.le_refl, Nat.zero_le, ne_eq, not_false_eq_true, jb_0, jb_1, jb_01, jb_em, jz_0, jz_1, ji_nI, jt_nI, ja_nI, jm_nI, jlt_nI, jle_nI, jeq_nI, jeq0, jeq1, false_or, or_false, jlt0, jge0, jgt0, jle0, not_true_eq_false, false_implies, implies_true, true_implies, Classical.not_not, jm_rw1, jm_rwa, jm_rwl1, jm_rwl2, jm_rw1l, jm_rwal, jm_w1_wa, jm_w1_wn, jm_wa_wa, ja_0, jn_0, jl_len0, ja_11, jn_11, jl_len11, ja_12, jn_12, jl_len12, ja_13, jn_13, jl_len13, ja_14, jn_14, jl_len14, ja_15, jn_15, jl_len15, jra_15, ja_16, jn_16, jl_len16, ja_17, jn_17, jl_len17, ja_18, jn_18, jl_len18, ja_19, jn_19, jl_len19, ja_20, jn_20, jl_len20, ja_21, jn_21, jl_len21, ja_22, jn_22, jl_len22, ja_23, jn_23, jl_len23, ja_24, jn_24, jl_len24, ja_25, jn_25, jl_len25, ja_26, jn_26, jl_len26, ja_27, jn_27, jl_len27, ja_28, jn_28, jl_len28, ja_29, jn_29, jl_len29, jra_29, ja_30, jn_30, jl_len30, ja_31, jn_31, jl_len31, ja_32, jn_32, jl_len32, ja_33, jn_33, jl_len33, ja_34, jn_34, jl_len34, ja_35, jn_35, jl_len35, ja_36, jn_36, jl_len36, ja_37, jn_37, jl_len37, ja_38, jn_38, jl_len38, ja_39, jn_39, jl_len39, ja_40, jn_40, jl_len40, ja_41, jn_41, jl_len41, ja_42, jn_42, jl_len42, ja_43, jn_43, jl_len43, ja_44, jn_44, jl_len44, ja_45, jn_45, jl_len45, ja_46, jn_46, jl_len46, ja_47, jn_47, jl_len47]
      refine ⟨fun q => by omega, fun _ => ⟨fun q1 => ?_, fun q1 => ?_⟩⟩
      · refine left_103 hc hT hd h46 hR hm hss q1 g hg (fun g' hg' q2 => ?_) (fun g' hg' q2 => ?_)
        · have := ih g' hg'
          rw [gt q1 (hne ▸ q2)] at this
          exact this
        · have := ih g' hg'
          rw [gf2 (hne ▸ q2)] at this
          exact this
      · have := ih g hg
        rw [gf1 q1] at this
        exact this
    | some t =>
      obtain ⟨t1, -, -⟩ := m2 t rfl
      have e9 := nI_n9 (t := t) (by omega)
      have eo2 := jp_ones_eq (a := t) (by omega)
      rw [lcnt_bc c4 (by omega : t < 2 ^ cB c)] at eo2
      have hct : lcnt (cB c) t ≤ cB c := cnt_le _ _
      unfold lV
      refine sX9_leftOut_65 _ ?_
      simp (disch := omega) only [bX9_leftOut_65, jp_mB, hB, hall, nI_nd, e9, eo1, eo2, jm_ic, jm_lc, jm_il, jm_il2, jm_al, jm_al2, jm_is, jm_as, jm_inc, jm_inc2, jm_bin, jm_neg, jm_div, jm_rem, jm_ladd, jm_i2c, jm_dup, jm_dup2, jm_pop, jm_gI, jm_gL, jm_gR, jm_gC, jm_pI, jm_pZ, jm_pL, jm_gA, jm_ald, jm_ast, jm_aal, jm_alen, jm_cp, jm_c1, jm_c2, jm_c3, jm_v1, jm_v2, jm_v3, jm_v4, jm_v5, jm_if, jm_cmp, jm_ri, jm_rz, jm_rl, jm_rv, jm_tsw, jm_swk, jm_lsw, jm_lkk, jm_nth, jm_put, jm_sm, jm_p1, jm_p2, jm_p3, jm_m1, jm_m2, jm_ar, List.map_cons, List.map_nil, List.cons_append, List.nil_append, List.replicate_succ, List.replicate_zero, List.length_cons, List.length_nil, Option.toList_some, Option.toList_none, and_true, true_and, false_and, and_false, eq_self, true_or, or_true, if_true, if_false, Nat.lt_irrefl, Nat.reduceLT, Nat.reduceLeDiff, Nat.reduceEqDiff, Nat.reduceAdd, Nat.reduceSub, Int.reduceAdd, Int.zero_add, Nat.zero_lt_one, Nat.zero_add, Nat.le_refl, Nat.zero_le, ne_eq, not_false_eq_true, jb_0, jb_1, jb_01, jb_em, jz_0, jz_1, ji_nI, jt_nI, ja_nI, jm_nI, jlt_nI, jle_nI, jeq_nI, jeq0, jeq1, false_or, or_false, jlt0, jge0, jgt0, jle0, not_true_eq_false, false_implies, implies_true, true_implies, Classical.not_not, jm_rw1, jm_rwa, jm_rwl1, jm_rwl2, jm_rw1l, jm_rwal, jm_w1_wa, jm_w1_wn, jm_wa_wa, ja_0, jn_0, jl_len0, ja_11, jn_11, jl_len11, ja_12, jn_12, jl_len12, ja_13, jn_13, jl_len13, ja_14, jn_14, jl_len14, ja_15, jn_15, jl_len15, jra_15, ja_16, jn_16, jl_len16, ja_17, jn_17, jl_len17, ja_18, jn_18, jl_len18, ja_19, jn_19, jl_len19, ja_20, jn_20, jl_len20, ja_21, jn_21, jl_len21, ja_22, jn_22, jl_len22, ja_23, jn_23, jl_len23, ja_24, jn_24, jl_len24, ja_25, jn_25, jl_len25, ja_26, jn_26, jl_len26, ja_27, jn_27, jl_len27, ja_28, jn_28, jl_len28, ja_29, jn_29, jl_len29, jra_29, ja_30, jn_30, jl_len30, ja_31, jn_31, jl_len31, ja_32, jn_32, jl_len32, ja_33, jn_33, jl_len33, ja_34, jn_34, jl_len34, ja_35, jn_35, jl_len35, ja_36, jn_36, jl_len36, ja_37, jn_37, jl_len37, ja_38, jn_38, jl_len38, ja_39, jn_39, jl_len39, ja_40, jn_40, jl_len40, ja_41, jn_41, jl_len41, ja_42, jn_42, jl_len42, ja_43, jn_43, jl_len43, ja_44, jn_44, jl_len44, ja_45, jn_45, jl_len45, ja_46, jn_46, jl_len46, ja_47, jn_47, jl_len47]
      refine ⟨fun q => by omega, fun _ => ⟨fun q1 => ⟨fun q3 => ?_, fun q3 => ?_⟩, fun q1 => ?_⟩⟩
      · have := ih g hg
        simp only [show ¬ lcnt (cB c) s < lcnt (cB c) t by omega, decide_false, Bool.and_false, Bool.false_eq_true, if_false] at this
        exact this
      · have q4 : lcnt (cB c) s < lcnt (cB c) t := by omega
        refine left_103 hc hT hd h46 hR hm hss q1 g hg (fun g' hg' q2 => ?_) (fun g' hg' q2 => ?_)
        · have := ih g' hg'
          simp only [gt q1 (hne ▸ q2), q4, decide_true, Bool.and_self, if_true] at this
          exact this
        · have := ih g' hg'
          simp only [gf2 (hne ▸ q2), Bool.false_and, Bool.false_eq_true, if_false] at this
          exact this
      · have := ih g hg
        simp only [gf1 q1, Bool.false_and, Bool.false_eq_true, if_false] at this
        exact this
end JLM
