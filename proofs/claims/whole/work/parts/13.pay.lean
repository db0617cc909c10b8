/-! PAY: its number, and the class's way to it -/
/-- who RESTS where, as a set; how many; what the BARS bring; what is fined -/
def sE (c : jT) (d z : Nat → Nat) (m : Nat) : Nat := bset (fun b => rB d z b m) (cB c)
def eC (e : Nat → Nat) (n b : Nat) : Nat := cnt (fun m => (e m).testBit b) n
def payE (c : jT) (e : Nat → Nat) (m : Nat) : Nat → Nat
  | 0 => 0
  | b + 1 => payE c e m b + if (e m).testBit b then cU c / eC e (cM c) b else 0
def pen (d z : Nat → Nat) (m : Nat) : Nat := cnt (fun i => (d m &&& z m).testBit i) 12
def sPay (c : jT) (d z : Nat → Nat) (m : Nat) : Int := (payE c (sE c d z) m (cB c) : Int) - ((cF c * pen d z m : Nat) : Int)
theorem sE_lt (c : jT) (d z : Nat → Nat) (m : Nat) : sE c d z m < 2 ^ cB c := bset_lt _ _
theorem sE_bit (c : jT) (d z : Nat → Nat) (m b : Nat) : (sE c d z m).testBit b = (decide (b < cB c) && rB d z b m) := bset_bit _ _ _
theorem eC_sE {c : jT} {d z : Nat → Nat} {b : Nat} (hb : b < cB c) (n : Nat) : eC (sE c d z) n b = rC d z n b := by
  unfold eC rC
  exact cnt_cong fun k _ => by rw [sE_bit]; simp [hb]
theorem cnt_pos {p : Nat → Bool} : ∀ {n m : Nat}, m < n → p m = true → 1 ≤ cnt p n
  | 0, m, h, _ => by omega
  | n + 1, m, h, hp => by
    unfold cnt
    by_cases e : m = n
    · subst e; rw [if_pos hp]; omega
    · have := cnt_pos (p := p) (n := n) (m := m) (by omega) hp; omega
theorem cnt_ext {p : Nat → Bool} {a : Nat} (h : ∀ i, a ≤ i → p i = false) : ∀ n, a ≤ n → cnt p n = cnt p a
  | 0, h0 => by rw [show a = 0 by omega]
  | n + 1, h0 => by
    by_cases e : a = n + 1
    · rw [e]
    · rw [show cnt p (n + 1) = cnt p n + if p n = true then 1 else 0 from rfl, cnt_ext h n (by omega), if_neg (by rw [h n (by omega)]; decide)]; rfl
/-- by how many REST in a BAR -/
def payN (c : jT) (d z : Nat → Nat) (m k : Nat) : Nat := cnt (fun i => (nd (sR c d z (cM c) k) (nd (d m) (z m))).testBit i) 12
def payK (c : jT) (d z : Nat → Nat) (m : Nat) : Nat → Nat
  | 0 => 0
  | k + 1 => payK c d z m k + cU c / (k + 1) * payN c d z m (k + 1)
def payKB (U : Nat) (q : Nat → Nat) (r : Nat → Bool) (B : Nat) : Nat → Nat
  | 0 => 0
  | k + 1 => payKB U q r B k + U / (k + 1) * cnt (fun b => decide (q b = k + 1) && r b) B
def payB (U : Nat) (q : Nat → Nat) (r : Nat → Bool) (K : Nat) : Nat → Nat
  | 0 => 0
  | b + 1 => payB U q r K b + if 1 ≤ q b ∧ q b ≤ K ∧ r b = true then U / q b else 0
theorem payKB_0 (U : Nat) (q : Nat → Nat) (r : Nat → Bool) : ∀ K, payKB U q r 0 K = 0
  | 0 => rfl
  | K + 1 => by unfold payKB; rw [payKB_0 U q r K]; simp [cnt]
theorem payKB_s (U : Nat) (q : Nat → Nat) (r : Nat → Bool) (B : Nat) : ∀ K, payKB U q r (B + 1) K = payKB U q r B K + if 1 ≤ q B ∧ q B ≤ K ∧ r B = true then U / q B else 0
  | 0 => by
    unfold payKB
    rw [if_neg (by omega)]
  | K + 1 => by
    unfold payKB
    rw [payKB_s U q r B K]
    rw [show cnt (fun b => decide (q b = K + 1) && r b) (B + 1) = cnt (fun b => decide (q b = K + 1) && r b) B + if (decide (q B = K + 1) && r B) = true then 1 else 0 from rfl, Nat.mul_add]
    by_cases hr : r B = true
    · by_cases hq : q B = K + 1
      · rw [if_neg (by omega), if_pos (by simp [hq, hr]), if_pos ⟨by omega, by omega, hr⟩, hq]; omega
      · rw [if_neg (show ¬ (decide (q B = K + 1) && r B) = true by simp [hq])]
        by_cases h1 : 1 ≤ q B ∧ q B ≤ K
        · rw [if_pos ⟨h1.1, h1.2, hr⟩, if_pos ⟨h1.1, by omega, hr⟩]; omega
        · rw [if_neg (by omega), if_neg (by omega)]; omega
    · rw [if_neg (fun h => hr h.2.2), if_neg (by simp [hr]), if_neg (fun h => hr h.2.2)]; omega
theorem payKB_eq (U : Nat) (q : Nat → Nat) (r : Nat → Bool) (K : Nat) : ∀ B, payKB U q r B K = payB U q r K B
  | 0 => payKB_0 U q r K
  | B + 1 => by rw [payKB_s, payKB_eq U q r K B]; rfl
theorem payK_eq {c : jT} (hc : cW c) {d z : Nat → Nat} {m : Nat} (hm : m < cM c) : payK c d z m (cM c) = payE c (sE c d z) m (cB c) := by
  have h1 : ∀ k, payK c d z m k = payKB (cU c) (rC d z (cM c)) (fun b => rB d z b m) (cB c) k := by
    intro k
    induction k with
    | zero => rfl
    | succ k ih =>
      unfold payK payKB payN
      rw [ih]
      congr 2
      rw [cnt_ext (a := cB c) (fun i hi => ?_) 12 hc.2.2.2.1]
      · refine cnt_cong fun i hi => ?_
        rw [nd_bit, nd_rB]
        unfold sR
        rw [bset_bit]
        simp [hi]
      · rw [nd_bit]
        unfold sR
        rw [bset_bit]
        simp; omega
  rw [h1, payKB_eq]
  have h2 : ∀ B, B ≤ cB c → payB (cU c) (rC d z (cM c)) (fun b => rB d z b m) (cM c) B = payE c (sE c d z) m B := by
    intro B
    induction B with
    | zero => intro _; rfl
    | succ B ih =>
      intro hB
      unfold payB payE
      rw [ih (by omega), eC_sE (by omega), sE_bit]
      congr 1
      by_cases hr : rB d z B m = true
      · have p1 : 1 ≤ rC d z (cM c) B := cnt_pos hm hr
        rw [if_pos ⟨p1, rC_le _ _ _ _, hr⟩, if_pos (by simp [hr]; omega)]
      · rw [if_neg (fun h => hr h.2.2), if_neg (by simp [hr])]
  exact h2 _ (Nat.le_refl _)
def SE (c : jT) (d z : Nat → Nat) (μ : jm_M) : Prop := (∀ m, d m < 2 ^ cB c) ∧ (∀ m, m < cM c → μ.1 19 0 m = nI (d m)) ∧ (∀ m, m < cM c → μ.1 20 0 m = nI (nd (d m) (z m))) ∧ ∀ k, k < 6 → μ.1 21 0 k = nI (sR c d z (cM c) k)
theorem SE_of {c : jT} {w z : Nat → Nat} (hc : cW c) {μ : jm_M} {f g e : Nat → Int32} (hf : ∀ m, m < 5 → f m = nI (sD c w m)) (hg : ∀ m, m < cM c → g m = nI (nd (sD c w m) (z m))) (he : ∀ k, k < 6 → e k = nI (sR c (sD c w) z (cM c) k)) : SE c (sD c w) z (jm_wa (jm_wa (jm_wa μ 19 0 f) 20 0 g) 21 0 e) := by
  have := hc.2.1
  refine ⟨fun m => sD_lt hc w m, fun m hm => ?_, fun m hm => ?_, fun k hk => ?_⟩
  · simp (disch := omega) only [jm_ic, jm_lc, jm_il, jm_il2, jm_al, jm_al2, jm_is, jm_as, jm_inc, jm_inc2, jm_bin, jm_neg, jm_div, jm_rem, jm_ladd, jm_i2c, jm_dup, jm_dup2, jm_pop, jm_gI, jm_gL, jm_gR, jm_gC, jm_pI, jm_pZ, jm_pL, jm_gA, jm_ald, jm_ast, jm_aal, jm_alen, jm_cp, jm_c1, jm_c2, jm_c3, jm_v1, jm_v2, jm_v3, jm_v4, jm_v5, jm_if, jm_cmp, jm_ri, jm_rz, jm_rl, jm_rv, jm_tsw, jm_swk, jm_lsw, jm_lkk, jm_nth, jm_put, jm_sm, jm_p1, jm_p2, jm_p3, jm_m1, jm_m2, jm_ar, List.map_cons, List.map_nil, List.cons_append, List.nil_append, List.replicate_succ, List.replicate_zero, List.length_cons, List.length_nil, Option.toList_some, Option.toList_none, and_true, true_and, false_and, and_false, eq_self, true_or, or_true, if_true, if_false, Nat.lt_irrefl, Nat.reduceLT, Nat.reduceLeDiff, Nat.reduceEqDiff, Nat.reduceAdd, Nat.reduceSub, Int.reduceAdd, Int.zero_add, Nat.zero_lt_one, Nat.zero_add, Nat.le_refl, Nat.zero_le, ne_eq, not_false_eq_true, jb_0, jb_1, jb_01, jb_em, jz_0, jz_1, ji_nI, jt_nI, ja_nI, jm_nI, jlt_nI, jle_nI, jeq_nI, jeq0, jeq1, false_or, or_false, jlt0, jge0, jgt0, jle0, not_true_eq_false, false_implies, implies_true, true_implies, Classical.not_not, jm_rw1, jm_rwa, jm_rwl1, jm_rwl2, jm_rw1l, jm_rwal, jm_w1_wa, jm_w1_wn, jm_wa_wa, ja_0, jn_0, jl_len0, ja_11, jn_11, jl_len11, ja_12, jn_12, jl_len12, ja_13, jn_13, jl_len13, ja_14, jn_14, jl_len14, ja_15, jn_15, jl_len15, jra_15, ja_16, jn_16, jl_len16, ja_17, jn_17, jl_len17, ja_18, jn_18, jl_len18, ja_19, jn_19, jl_len19, ja_20, jn_20, jl_len20, ja_21, jn_21, jl_len21, ja_22, jn_22, jl_len22, ja_23, jn_23, jl_len23, ja_24, jn_24, jl_len24, ja_25, jn_25, jl_len25, ja_26, jn_26, jl_len26, ja_27, jn_27, jl_len27, ja_28, jn_28, jl_len28, ja_29, jn_29, jl_len29, jra_29, ja_30, jn_30, jl_len30, ja_31, jn_31, jl_len31, ja_32, jn_32, jl_len32, ja_33, jn_33, jl_len33, ja_34, jn_34, jl_len34, ja_35, jn_35, jl_len35, ja_36, jn_36, jl_len36, ja_37, jn_37, jl_len37, ja_38, jn_38, jl_len38, ja_39, jn_39, jl_len39, ja_40, jn_40, jl_len40, ja_41, jn_41, jl_len41, ja_42, jn_42, jl_len42, ja_43, jn_43, jl_len43, ja_44, jn_44, jl_len44, ja_45, jn_45, jl_len45, ja_46, jn_46, jl_len46, ja_47, jn_47, jl_len47]
    exact hf m (by omega)
  · simp (disch := omega) only [jm_ic, jm_lc, jm_il, jm_il2, jm_al, jm_al2, jm_is, jm_as, jm_inc, jm_inc2, jm_bin, jm_neg, jm_div, jm_rem, jm_ladd, jm_i2c, jm_dup, jm_dup2, jm_pop, jm_gI, jm_gL, jm_gR, jm_gC, jm_pI, jm_pZ, jm_pL, jm_gA, jm_ald, jm_ast, jm_aal, jm_alen, jm_cp, jm_c1, jm_c2, jm_c3, jm_v1, jm_v2, jm_v3, jm_v4, jm_v5, jm_if, jm_cmp, jm_ri, jm_rz, jm_rl, jm_rv, jm_tsw, jm_swk, jm_lsw, jm_lkk, jm_nth, jm_put, jm_sm, jm_p1, jm_p2, jm_p3, jm_m1, jm_m2, jm_ar, List.map_cons, List.map_nil, List.cons_append, List.nil_append, List.replicate_succ, List.replicate_zero, List.length_cons, List.length_nil, Option.toList_some, Option.toList_none, and_true, true_and, false_and, and_false, eq_self, true_or, or_true, if_true, if_false, Nat.lt_irrefl, Nat.reduceLT, Nat.reduceLeDiff, Nat.reduceEqDiff, Nat.reduceAdd, Nat.reduceSub, Int.reduceAdd, Int.zero_add, Nat.zero_lt_one, Nat.zero_add, Nat.le_refl, Nat.zero_le, ne_eq, not_false_eq_true, jb_0, jb_1, jb_01, jb_em, jz_0, jz_1, ji_nI, jt_nI, ja_nI, jm_nI, jlt_nI, jle_nI, jeq_nI, jeq0, jeq1, false_or, or_false, jlt0, jge0, jgt0, jle0, not_true_eq_false, false_implies, implies_true, true_implies, Classical.not_not, jm_rw1, jm_rwa, jm_rwl1, jm_rwl2, jm_rw1l, jm_rwal, jm_w1_wa, jm_w1_wn, jm_wa_wa, ja_0, jn_0, jl_len0, ja_11, jn_11, jl_len11, ja_12, jn_12, jl_len12, ja_13, jn_13, jl_len13, ja_14, jn_14, jl_len14, ja_15, jn_15, jl_len15, jra_15, ja_16, jn_16, jl_len16, ja_17, jn_17, jl_len17, ja_18, jn_18, jl_len18, ja_19, jn_19, jl_len19, ja_20, jn_20, jl_len20, ja_21, jn_21, jl_len21, ja_22, jn_22, jl_len22, ja_23, jn_23, jl_len23, ja_24, jn_24, jl_len24, ja_25, jn_25, jl_len25, ja_26, jn_26, jl_len26, ja_27, jn_27, jl_len27, ja_28, jn_28, jl_len28, ja_29, jn_29, jl_len29, jra_29, ja_30, jn_30, jl_len30, ja_31, jn_31, jl_len31, ja_32, jn_32, jl_len32, ja_33, jn_33, jl_len33, ja_34, jn_34, jl_len34, ja_35, jn_35, jl_len35, ja_36, jn_36, jl_len36, ja_37, jn_37, jl_len37, ja_38, jn_38, jl_len38, ja_39, jn_39, jl_len39, ja_40, jn_40, jl_len40, ja_41, jn_41, jl_len41, ja_42, jn_42, jl_len42, ja_43, jn_43, jl_len43, ja_44, jn_44, jl_len44, ja_45, jn_45, jl_len45, ja_46, jn_46, jl_len46, ja_47, jn_47, jl_len47]
    exact hg m hm
  · simp (disch := omega) only [jm_ic, jm_lc, jm_il, jm_il2, jm_al, jm_al2, jm_is, jm_as, jm_inc, jm_inc2, jm_bin, jm_neg, jm_div, jm_rem, jm_ladd, jm_i2c, jm_dup, jm_dup2, jm_pop, jm_gI, jm_gL, jm_gR, jm_gC, jm_pI, jm_pZ, jm_pL, jm_gA, jm_ald, jm_ast, jm_aal, jm_alen, jm_cp, jm_c1, jm_c2, jm_c3, jm_v1, jm_v2, jm_v3, jm_v4, jm_v5, jm_if, jm_cmp, jm_ri, jm_rz, jm_rl, jm_rv, jm_tsw, jm_swk, jm_lsw, jm_lkk, jm_nth, jm_put, jm_sm, jm_p1, jm_p2, jm_p3, jm_m1, jm_m2, jm_ar, List.map_cons, List.map_nil, List.cons_append, List.nil_append, List.replicate_succ, List.replicate_zero, List.length_cons, List.length_nil, Option.toList_some, Option.toList_none, and_true, true_and, false_and, and_false, eq_self, true_or, or_true, if_true, if_false, Nat.lt_irrefl, Nat.reduceLT, Nat.reduceLeDiff, Nat.reduceEqDiff, Nat.reduceAdd, Nat.reduceSub, Int.reduceAdd, Int.zero_add, Nat.zero_lt_one, Nat.zero_add, Nat.le_refl, Nat.zero_le, ne_eq, not_false_eq_true, jb_0, jb_1, jb_01, jb_em, jz_0, jz_1, ji_nI, jt_nI, ja_nI, jm_nI, jlt_nI, jle_nI, jeq_nI, jeq0, jeq1, false_or, or_false, jlt0, jge0, jgt0, jle0, not_true_eq_false, false_implies, implies_true, true_implies, Classical.not_not, jm_rw1, jm_rwa, jm_rwl1, jm_rwl2, jm_rw1l, jm_rwal, jm_w1_wa, jm_w1_wn, jm_wa_wa, ja_0, jn_0, jl_len0, ja_11, jn_11, jl_len11, ja_12, jn_12, jl_len12, ja_13, jn_13, jl_len13, ja_14, jn_14, jl_len14, ja_15, jn_15, jl_len15, jra_15, ja_16, jn_16, jl_len16, ja_17, jn_17, jl_len17, ja_18, jn_18, jl_len18, ja_19, jn_19, jl_len19, ja_20, jn_20, jl_len20, ja_21, jn_21, jl_len21, ja_22, jn_22, jl_len22, ja_23, jn_23, jl_len23, ja_24, jn_24, jl_len24, ja_25, jn_25, jl_len25, ja_26, jn_26, jl_len26, ja_27, jn_27, jl_len27, ja_28, jn_28, jl_len28, ja_29, jn_29, jl_len29, jra_29, ja_30, jn_30, jl_len30, ja_31, jn_31, jl_len31, ja_32, jn_32, jl_len32, ja_33, jn_33, jl_len33, ja_34, jn_34, jl_len34, ja_35, jn_35, jl_len35, ja_36, jn_36, jl_len36, ja_37, jn_37, jl_len37, ja_38, jn_38, jl_len38, ja_39, jn_39, jl_len39, ja_40, jn_40, jl_len40, ja_41, jn_41, jl_len41, ja_42, jn_42, jl_len42, ja_43, jn_43, jl_len43, ja_44, jn_44, jl_len44, ja_45, jn_45, jl_len45, ja_46, jn_46, jl_len46, ja_47, jn_47, jl_len47]
    exact he k hk
theorem ndd (a b : Nat) : nd a (nd a b) = a &&& b := by
  apply Nat.eq_of_testBit_eq
  intro i
  rw [nd_bit, nd_bit, Nat.testBit_and]
  cases a.testBit i <;> cases b.testBit i <;> rfl
section JPAY
variable {x : jm_X} {μ : jm_M} {Q : Option jm_V → jm_M → Prop} {c : jT} {d z : Nat → Nat}
theorem c_cut {k : Nat} (hc : cW c) (hT : TC c 0 μ) (hk : 0 < k) (hk9 : k < 100) (h : Q (some (.inl (nI (cU c / k)))) μ) : jm_C x mX5_cutFor [.inr (.inr (6, 0)), .inl (nI k)] μ Q := by
  obtain ⟨hB, hU, -⟩ := id hT
  obtain ⟨c1, c2, c3, c4, c5, c6, c7⟩ := id hc
  have hk0 : k ≠ 0 := by omega
  refine jm_C_of2 (n := 0) (by decide +kernel) (Nat.le_of_ble_eq_true rfl) rfl rfl ?_
  refine sX5_cutFor_0 _ ?_
  simp (disch := omega) only [bX5_cutFor_0, hU, pk_div, jm_ic, jm_lc, jm_il, jm_il2, jm_al, jm_al2, jm_is, jm_as, jm_inc, jm_inc2, jm_bin, jm_neg, jm_div, jm_rem, jm_ladd, jm_i2c, jm_dup, jm_dup2, jm_pop, jm_gI, jm_gL, jm_gR, jm_gC, jm_pI, jm_pZ, jm_pL, jm_gA, jm_ald, jm_ast, jm_aal, jm_alen, jm_cp, jm_c1, jm_c2, jm_c3, jm_v1, jm_v2, jm_v3, jm_v4, jm_v5, jm_if, jm_cmp, jm_ri, jm_rz, jm_rl, jm_rv, jm_tsw, jm_swk, jm_lsw, jm_lkk, jm_nth, jm_put, jm_sm, jm_p1, jm_p2, jm_p3, jm_m1, jm_m2, jm_ar, List.map_cons, List.map_nil, List.cons_append, List.nil_append, List.replicate_succ, List.replicate_zero, List.length_cons, List.length_nil, Option.toList_some, Option.toList_none, and_true, true_and, false_and, and_false, eq_self, true_or, or_true, if_true, if_false, Nat.lt_irrefl, Nat.reduceLT, Nat.reduceLeDiff, Nat.reduceEqDiff, Nat.reduceAdd, Nat.reduceSub, Int.reduceAdd, Int.zero_add, Nat.zero_lt_one, Nat.zero_add, Nat.le_refl, Nat.zero_le, ne_eq, not_false_eq_true, jb_0, jb_1, jb_01, jb_em, jz_0, jz_1, ji_nI, jt_nI, ja_nI, jm_nI, jlt_nI, jle_nI, jeq_nI, jeq0, jeq1, false_or, or_false, jlt0, jge0, jgt0, jle0, not_true_eq_false, false_implies, implies_true, true_implies, Classical.not_not, jm_rw1, jm_rwa, jm_rwl1, jm_rwl2, jm_rw1l, jm_rwal, jm_w1_wa, jm_w1_wn, jm_wa_wa, ja_0, jn_0, jl_len0, ja_11, jn_11, jl_len11, ja_12, jn_12, jl_len12, ja_13, jn_13, jl_len13, ja_14, jn_14, jl_len14, ja_15, jn_15, jl_len15, jra_15, ja_16, jn_16, jl_len16, ja_17, jn_17, jl_len17, ja_18, jn_18, jl_len18, ja_19, jn_19, jl_len19, ja_20, jn_20, jl_len20, ja_21, jn_21, jl_len21, ja_22, jn_22, jl_len22, ja_23, jn_23, jl_len23, ja_24, jn_24, jl_len24, ja_25, jn_25, jl_len25, ja_26, jn_26, jl_len26, ja_27, jn_27, jl_len27, ja_28, jn_28, jl_len28, ja_29, jn_29, jl_len29, jra_29, ja_30, jn_30, jl_len30, ja_31, jn_31, jl_len31, ja_32, jn_32, jl_len32, ja_33, jn_33, jl_len33, ja_34, jn_34, jl_len34, ja_35, jn_35, jl_len35, ja_36, jn_36, jl_len36, ja_37, jn_37, jl_len37, ja_38, jn_38, jl_len38, ja_39, jn_39, jl_len39, ja_40, jn_40, jl_len40, ja_41, jn_41, jl_len41, ja_42, jn_42, jl_len42, ja_43, jn_43, jl_len43, ja_44, jn_44, jl_len44, ja_45, jn_45, jl_len45, ja_46, jn_46, jl_len46, ja_47, jn_47, jl_len47]
  first
    | exact ⟨fun q => absurd q hk0, fun _ => h⟩
    | exact ⟨fun q => absurd q hk0, fun _ => ⟨hk0, h⟩⟩
    | exact ⟨hk0, h⟩
    | exact h
theorem pay_loop {m : Nat} (hc : cW c) (hT : TC c 0 μ) (hS : SE c d z μ) (hm : m < cM c) (h : Q (some (.inl (jI (sPay c d z m)))) μ) : ∀ (n k : Nat), k + n = cM c → jm_W x mX5_pay Q 30 ([some (.inr (.inr (6, 0))), some (.inl (nI m)), some (.inl (jI ((payK c d z m k : Int) - ((cF c * pen d z m : Nat) : Int)))), some (.inl (nI (k + 1)))], [], μ) := by
  obtain ⟨hB, hU, hF, hP, hM, hL, hN, hG, hD⟩ := id hT
  obtain ⟨c1, c2, c3, c4, c5, c6, c7⟩ := id hc
  obtain ⟨s0, s1, s2, s3⟩ := id hS
  have hp12 := p12 c4
  intro n
  induction n with
  | zero =>
    intro k hk
    refine sX5_pay_30 _ ?_
    simp (disch := omega) only [bX5_pay_30, hM, jm_ic, jm_lc, jm_il, jm_il2, jm_al, jm_al2, jm_is, jm_as, jm_inc, jm_inc2, jm_bin, jm_neg, jm_div, jm_rem, jm_ladd, jm_i2c, jm_dup, jm_dup2, jm_pop, jm_gI, jm_gL, jm_gR, jm_gC, jm_pI, jm_pZ, jm_pL, jm_gA, jm_ald, jm_ast, jm_aal, jm_alen, jm_cp, jm_c1, jm_c2, jm_c3, jm_v1, jm_v2, jm_v3, jm_v4, jm_v5, jm_if, jm_cmp, jm_ri, jm_rz, jm_rl, jm_rv, jm_tsw, jm_swk, jm_lsw, jm_lkk, jm_nth, jm_put, jm_sm, jm_p1, jm_p2, jm_p3, jm_m1, jm_m2, jm_ar, List.map_cons, List.map_nil, List.cons_append, List.nil_append, List.replicate_succ, List.replicate_zero, List.length_cons, List.length_nil, Option.toList_some, Option.toList_none, and_true, true_and, false_and, and_false, eq_self, true_or, or_true, if_true, if_false, Nat.lt_irrefl, Nat.reduceLT, Nat.reduceLeDiff, Nat.reduceEqDiff, Nat.reduceAdd, Nat.reduceSub, Int.reduceAdd, Int.zero_add, Nat.zero_lt_one, Nat.zero_add, Nat.le_refl, Nat.zero_le, ne_eq, not_false_eq_true, jb_0, jb_1, jb_01, jb_em, jz_0, jz_1, ji_nI, jt_nI, ja_nI, jm_nI, jlt_nI, jle_nI, jeq_nI, jeq0, jeq1, false_or, or_false, jlt0, jge0, jgt0, jle0, not_true_eq_false, false_implies, implies_true, true_implies, Classical.not_not, jm_rw1, jm_rwa, jm_rwl1, jm_rwl2, jm_rw1l, jm_rwal, jm_w1_wa, jm_w1_wn, jm_wa_wa, ja_0, jn_0, jl_len0, ja_11, jn_11, jl_len11, ja_12, jn_12, jl_len12, ja_13, jn_13, jl_len13, ja_14, jn_14, jl_len14, ja_15, jn_15, jl_len15, jra_15, ja_16, jn_16, jl_len16, ja_17, jn_17, jl_len17, ja_18, jn_18, jl_len18, ja_19, jn_19, jl_len19, ja_20, jn_20, jl_len20, ja_21, jn_21, jl_len21, ja_22, jn_22, jl_len22, ja_23, jn_23, jl_len23, ja_24, jn_24, jl_len24, ja_25, jn_25, jl_len25, ja_26, jn_26, jl_len26, ja_27, jn_27, jl_len27, ja_28, jn_28, jl_len28, ja_29, jn_29, jl_len29, jra_29, ja_30, jn_30, jl_len30, ja_31, jn_31, jl_len31, ja_32, jn_32, jl_len32, ja_33, jn_33, jl_len33, ja_34, jn_34, jl_len34, ja_35, jn_35, jl_len35, ja_36, jn_36, jl_len36, ja_37, jn_37, jl_len37, ja_38, jn_38, jl_len38, ja_39, jn_39, jl_len39, ja_40, jn_40, jl_len40, ja_41, jn_41, jl_len41, ja_42, jn_42, jl_len42, ja_43, jn_43, jl_len43, ja_44, jn_44, jl_len44, ja_45, jn_45, jl_len45, ja_46, jn_46, jl_len46, ja_47, jn_47, jl_len47]
    refine ⟨fun _ => ?_, fun q => by omega⟩
    rw [show k = cM c by omega, payK_eq hc hm]
    exact h
  | succ n ih =>
    intro k hk
    have hlt := sR_lt c d z (cM c) (k + 1)
    have hb := jp_bc_dec _ (Nat.lt_of_lt_of_le (nd_le (sR c d z (cM c) (k + 1)) (nd (d m) (z m)) hlt) hp12)
    refine sX5_pay_30 _ ?_
    simp (disch := omega) only [bX5_pay_30, hM, jm_ic, jm_lc, jm_il, jm_il2, jm_al, jm_al2, jm_is, jm_as, jm_inc, jm_inc2, jm_bin, jm_neg, jm_div, jm_rem, jm_ladd, jm_i2c, jm_dup, jm_dup2, jm_pop, jm_gI, jm_gL, jm_gR, jm_gC, jm_pI, jm_pZ, jm_pL, jm_gA, jm_ald, jm_ast, jm_aal, jm_alen, jm_cp, jm_c1, jm_c2, jm_c3, jm_v1, jm_v2, jm_v3, jm_v4, jm_v5, jm_if, jm_cmp, jm_ri, jm_rz, jm_rl, jm_rv, jm_tsw, jm_swk, jm_lsw, jm_lkk, jm_nth, jm_put, jm_sm, jm_p1, jm_p2, jm_p3, jm_m1, jm_m2, jm_ar, List.map_cons, List.map_nil, List.cons_append, List.nil_append, List.replicate_succ, List.replicate_zero, List.length_cons, List.length_nil, Option.toList_some, Option.toList_none, and_true, true_and, false_and, and_false, eq_self, true_or, or_true, if_true, if_false, Nat.lt_irrefl, Nat.reduceLT, Nat.reduceLeDiff, Nat.reduceEqDiff, Nat.reduceAdd, Nat.reduceSub, Int.reduceAdd, Int.zero_add, Nat.zero_lt_one, Nat.zero_add, Nat.le_refl, Nat.zero_le, ne_eq, not_false_eq_true, jb_0, jb_1, jb_01, jb_em, jz_0, jz_1, ji_nI, jt_nI, ja_nI, jm_nI, jlt_nI, jle_nI, jeq_nI, jeq0, jeq1, false_or, or_false, jlt0, jge0, jgt0, jle0, not_true_eq_false, false_implies, implies_true, true_implies, Classical.not_not, jm_rw1, jm_rwa, jm_rwl1, jm_rwl2, jm_rw1l, jm_rwal, jm_w1_wa, jm_w1_wn, jm_wa_wa, ja_0, jn_0, jl_len0, ja_11, jn_11, jl_len11, ja_12, jn_12, jl_len12, ja_13, jn_13, jl_len13, ja_14, jn_14, jl_len14, ja_15, jn_15, jl_len15, jra_15, ja_16, jn_16, jl_len16, ja_17, jn_17, jl_len17, ja_18, jn_18, jl_len18, ja_19, jn_19, jl_len19, ja_20, jn_20, jl_len20, ja_21, jn_21, jl_len21, ja_22, jn_22, jl_len22, ja_23, jn_23, jl_len23, ja_24, jn_24, jl_len24, ja_25, jn_25, jl_len25, ja_26, jn_26, jl_len26, ja_27, jn_27, jl_len27, ja_28, jn_28, jl_len28, ja_29, jn_29, jl_len29, jra_29, ja_30, jn_30, jl_len30, ja_31, jn_31, jl_len31, ja_32, jn_32, jl_len32, ja_33, jn_33, jl_len33, ja_34, jn_34, jl_len34, ja_35, jn_35, jl_len35, ja_36, jn_36, jl_len36, ja_37, jn_37, jl_len37, ja_38, jn_38, jl_len38, ja_39, jn_39, jl_len39, ja_40, jn_40, jl_len40, ja_41, jn_41, jl_len41, ja_42, jn_42, jl_len42, ja_43, jn_43, jl_len43, ja_44, jn_44, jl_len44, ja_45, jn_45, jl_len45, ja_46, jn_46, jl_len46, ja_47, jn_47, jl_len47]
    refine ⟨fun q => by omega, fun _ => ?_⟩
    refine c_cut hc hT (by omega) (by omega) ?_
    simp (disch := omega) only [s2, s3, nI_nd, hb, jm_ic, jm_lc, jm_il, jm_il2, jm_al, jm_al2, jm_is, jm_as, jm_inc, jm_inc2, jm_bin, jm_neg, jm_div, jm_rem, jm_ladd, jm_i2c, jm_dup, jm_dup2, jm_pop, jm_gI, jm_gL, jm_gR, jm_gC, jm_pI, jm_pZ, jm_pL, jm_gA, jm_ald, jm_ast, jm_aal, jm_alen, jm_cp, jm_c1, jm_c2, jm_c3, jm_v1, jm_v2, jm_v3, jm_v4, jm_v5, jm_if, jm_cmp, jm_ri, jm_rz, jm_rl, jm_rv, jm_tsw, jm_swk, jm_lsw, jm_lkk, jm_nth, jm_put, jm_sm, jm_p1, jm_p2, jm_p3, jm_m1, jm_m2, jm_ar, List.map_cons, List.map_nil, List.cons_append, List.nil_append, List.replicate_succ, List.replicate_zero, List.length_cons, List.length_nil, Option.toList_some, Option.toList_none, and_true, true_and, false_and, and_false, eq_self, true_or, or_true, if_true, if_false, Nat.lt_irrefl, Nat.reduceLT, Nat.reduceLeDiff, Nat.reduceEqDiff, Nat.reduceAdd, Nat.reduceSub, Int.reduceAdd, Int.zero_add, Nat.zero_lt_one, Nat.zero_add, Nat.le_refl, Nat.zero_le, ne_eq, not_false_eq_true, jb_0, jb_1, jb_01, jb_em, jz_0, jz_1, ji_nI, jt_nI, ja_nI, jm_nI, jlt_nI, jle_nI, jeq_nI, jeq0, jeq1, false_or, or_false, jlt0, jge0, jgt0, jle0, not_true_eq_false, false_implies, implies_true, true_implies, Classical.not_not, jm_rw1, jm_rwa, jm_rwl1, jm_rwl2, jm_rw1l, jm_rwal, jm_w1_wa, jm_w1_wn, jm_wa_wa, ja_0, jn_0, jl_len0, ja_11, jn_11, jl_len11, ja_12, jn_12, jl_len12, ja_13, jn_13, jl_len13, ja_14, jn_14, jl_len14, ja_15, jn_15, jl_len15, jra_15, ja_16, jn_16, jl_len16, ja_17, jn_17, jl_len17, ja_18, jn_18, jl_len18, ja_19, jn_19, jl_len19, ja_20, jn_20, jl_len20, ja_21, jn_21, jl_len21, ja_22, jn_22, jl_len22, ja_23, jn_23, jl_len23, ja_24, jn_24, jl_len24, ja_25, jn_25, jl_len25, ja_26, jn_26, jl_len26, ja_27, jn_27, jl_len27, ja_28, jn_28, jl_len28, ja_29, jn_29, jl_len29, jra_29, ja_30, jn_30, jl_len30, ja_31, jn_31, jl_len31, ja_32, jn_32, jl_len32, ja_33, jn_33, jl_len33, ja_34, jn_34, jl_len34, ja_35, jn_35, jl_len35, ja_36, jn_36, jl_len36, ja_37, jn_37, jl_len37, ja_38, jn_38, jl_len38, ja_39, jn_39, jl_len39, ja_40, jn_40, jl_len40, ja_41, jn_41, jl_len41, ja_42, jn_42, jl_len42, ja_43, jn_43, jl_len43, ja_44, jn_44, jl_len44, ja_45, jn_45, jl_len45, ja_46, jn_46, jl_len46, ja_47, jn_47, jl_len47]
    have := ih (k + 1) (by omega)
    have e : jI ((payK c d z m (k + 1) : Int) - ((cF c * pen d z m : Nat) : Int)) = jI ((payK c d z m k : Int) - ((cF c * pen d z m : Nat) : Int)) + nI (cU c / (k + 1) * cnt (fun i => (nd (sR c d z (cM c) (k + 1)) (nd (d m) (z m))).testBit i) 12) := by
      rw [nI_jI, jI_add]
      congr 1
      rw [show payK c d z m (k + 1) = payK c d z m k + cU c / (k + 1) * cnt (fun i => (nd (sR c d z (cM c) (k + 1)) (nd (d m) (z m))).testBit i) 12 from rfl]
      omega
    rw [e] at this
    exact this
theorem c_pay {m : Nat} (hc : cW c) (hT : TC c 0 μ) (hS : SE c d z μ) (hm : m < cM c) (h : Q (some (.inl (jI (sPay c d z m)))) μ) : jm_C x mX5_pay [.inr (.inr (6, 0)), .inl (nI m)] μ Q := by
  obtain ⟨hB, hU, hF, hP, hM, hL, hN, hG, hD⟩ := id hT
  obtain ⟨c1, c2, c3, c4, c5, c6, c7⟩ := id hc
  obtain ⟨s0, s1, s2, s3⟩ := id hS
  have hp12 := p12 c4
  have hb := jp_bc_dec (d m &&& z m) (Nat.lt_of_lt_of_le (Nat.lt_of_le_of_lt Nat.and_le_left (s0 m)) hp12)
  refine jm_C_of2 (n := 2) (by decide +kernel) (Nat.le_of_ble_eq_true rfl) rfl rfl ?_
  refine sX5_pay_0 _ ?_
  simp (disch := omega) only [bX5_pay_0, hF, s1, s2, nI_nd, ndd, hb, jm_ic, jm_lc, jm_il, jm_il2, jm_al, jm_al2, jm_is, jm_as, jm_inc, jm_inc2, jm_bin, jm_neg, jm_div, jm_rem, jm_ladd, jm_i2c, jm_dup, jm_dup2, jm_pop, jm_gI, jm_gL, jm_gR, jm_gC, jm_pI, jm_pZ, jm_pL, jm_gA, jm_ald, jm_ast, jm_aal, jm_alen, jm_cp, jm_c1, jm_c2, jm_c3, jm_v1, jm_v2, jm_v3, jm_v4, jm_v5, jm_if, jm_cmp, jm_ri, jm_rz, jm_rl, jm_rv, jm_tsw, jm_swk, jm_lsw, jm_lkk, jm_nth, jm_put, jm_sm, jm_p1, jm_p2, jm_p3, jm_m1, jm_m2, jm_ar, List.map_cons, List.map_nil, List.cons_append, List.nil_append, List.replicate_succ, List.replicate_zero, List.length_cons, List.length_nil, Option.toList_some, Option.toList_none, and_true, true_and, false_and, and_false, eq_self, true_or, or_true, if_true, if_false, Nat.lt_irrefl, Nat.reduceLT, Nat.reduceLeDiff, Nat.reduceEqDiff, Nat.reduceAdd, Nat.reduceSub, Int.reduceAdd, Int.zero_add, Nat.zero_lt_one, Nat.zero_add, Nat.le_refl, Nat.zero_le, ne_eq, not_false_eq_true, jb_0, jb_1, jb_01, jb_em, jz_0, jz_1, ji_nI, jt_nI, ja_nI, jm_nI, jlt_nI, jle_nI, jeq_nI, jeq0, jeq1, false_or, or_false, jlt0, jge0, jgt0, jle0, not_true_eq_false, false_implies, implies_true, true_implies, Classical.not_not, jm_rw1, jm_rwa, jm_rwl1, jm_rwl2, jm_rw1l, jm_rwal, jm_w1_wa, jm_w1_wn, jm_wa_wa, ja_0, jn_0, jl_len0, ja_11, jn_11, jl_len11, ja_12, jn_12, jl_len12, ja_13, jn_13, jl_len13, ja_14, jn_14, jl_len14, ja_15, jn_15, jl_len15, jra_15, ja_16, jn_16, jl_len16, ja_17, jn_17, jl_len17, ja_18, jn_18, jl_len18, ja_19, jn_19, jl_len19, ja_20, jn_20, jl_len20, ja_21, jn_21, jl_len21, ja_22, jn_22, jl_len22, ja_23, jn_23, jl_len23, ja_24, jn_24, jl_len24, ja_25, jn_25, jl_len25, ja_26, jn_26, jl_len26, ja_27, jn_27, jl_len27, ja_28, jn_28, jl_len28, ja_29, jn_29, jl_len29, jra_29, ja_30, jn_30, jl_len30, ja_31, jn_31, jl_len31, ja_32, jn_32, jl_len32, ja_33, jn_33, jl_len33, ja_34, jn_34, jl_len34, ja_35, jn_35, jl_len35, ja_36, jn_36, jl_len36, ja_37, jn_37, jl_len37, ja_38, jn_38, jl_len38, ja_39, jn_39, jl_len39, ja_40, jn_40, jl_len40, ja_41, jn_41, jl_len41, ja_42, jn_42, jl_len42, ja_43, jn_43, jl_len43, ja_44, jn_44, jl_len44, ja_45, jn_45, jl_len45, ja_46, jn_46, jl_len46, ja_47, jn_47, jl_len47]
  have := pay_loop (x := x) hc hT hS hm h (cM c) 0 (by omega)
  have e : jI ((payK c d z m 0 : Int) - ((cF c * pen d z m : Nat) : Int)) = -nI (cF c) * nI (cnt (fun i => (d m &&& z m).testBit i) 12) := by
    rw [nI_jI, nI_jI, jI_neg, jI_mul]
    congr 1
    rw [show payK c d z m 0 = 0 from rfl, show pen d z m = cnt (fun i => (d m &&& z m).testBit i) 12 from rfl, Int.natCast_mul, Int.neg_mul]
    simp
  rw [e] at this
  exact this
end JPAY
