/-! all that is known of both, between two calls -/
/-- SHARE: the way number i, what it brings (-9: somebody does not LIVE by it, or is OUT OF BREATH), the best of the first n -/
def wayD (M P i p : Nat) : Nat := i / M ^ (P - 1 - p) % M
def wayW (c : jT) (i p : Nat) : Nat := if p < cP c then wayD (cM c) (cP c) i p + 1 else 0
def shP (c : jT) (w : Nat → Nat) (m : Nat) : Int := sPay c (sD c w) (fun _ => 0) m
def shG (c : jT) (w : Nat → Nat) (m : Nat) : Bool := decide ((cD c m : Int) ≤ shP c w m) && !decide (cG c m < lrun (sD c w m) 12)
def shM (c : jT) (w : Nat → Nat) : Nat → Int
  | 0 => 1000000
  | n + 1 => if shP c w n < shM c w n then shP c w n else shM c w n
def shV (c : jT) (w : Nat → Nat) : Int := if cnt (shG c w) (cM c) = cM c then shM c w (cM c) else -9
def shF (c : jT) : Nat → Int × Nat
  | 0 => (-9, 0)
  | n + 1 => if (shF c n).1 < shV c (wayW c n) then (shV c (wayW c n), n) else shF c n
def shA (c : jT) : Nat := if cM c = 0 then 0 else cM c ^ cP c
def CS (c : jT) (μ : jm_M) : Prop := μ.1 5 0 5 = nI 0 ∨ (μ.1 5 0 5 = nI 1 ∧ μ.1 5 0 4 = jI (shF c (shA c)).1 ∧ ((shF c (shA c)).1 ≠ -9 → ∀ p, p < cP c → μ.1 18 0 p = nI (wayD (cM c) (cP c) (shF c (shA c)).2 p)))
abbrev jA : Type := jT × jS × (Nat × (Nat → jS)) × (Nat → Option jS) × (Nat × (Nat → Nat) × (Nat → Nat)) × (Nat × (Nat → Nat)) × Int64
def aC (a : jA) : jT := a.1
def aS (a : jA) : jS := a.2.1
def aU (a : jA) : Nat := a.2.2.1.1
def aF (a : jA) : Nat → jS := a.2.2.1.2
def aI (a : jA) : Nat → Option jS := a.2.2.2.1
def aN (a : jA) : Nat := a.2.2.2.2.1.1
def aNb (a : jA) : Nat → Nat := a.2.2.2.2.1.2.1
def aNl (a : jA) : Nat → Nat := a.2.2.2.2.1.2.2
def aT (a : jA) : Nat := a.2.2.2.2.2.1.1
def aX (a : jA) : Nat → Nat := a.2.2.2.2.2.1.2
def aR (a : jA) : Int64 := a.2.2.2.2.2.2
def sOk (c : jT) (σ : jS) : Prop := sWf c σ ∧ sN σ ≤ 999
def WA (a : jA) : Prop := cW (aC a) ∧ sOk (aC a) (aS a) ∧ aU a ≤ 10 ∧ (∀ i, i < aU a → sOk (aC a) (aF a i)) ∧ (∀ i s, aI a i = some s → sOk (aC a) s) ∧ aN a ≤ 6 ∧ (∀ i, i < aN a → aNb a i < cB (aC a) ∧ aNl a i ≤ 45) ∧ aT a ≤ 200 ∧ ∀ i, aX a i ≤ 255
def iB (im : Nat → Option jS) (i : Nat) : Nat := if (im i).isSome then 1 else 0
def CU (un : Nat) (uf : Nat → jS) (μ : jm_M) : Prop := μ.1 3 0 2 = nI un ∧ ∃ lt, lt < 10 ∧ μ.1 3 0 1 = nI lt ∧ ∀ i, i < un → SC (uf i) (3 + (lt + 10 - i) % 10) μ
def CI (im : Nat → Option jS) (μ : jm_M) : Prop := μ.1 9 0 6 = nI (iB im 0 + 2 * iB im 1) ∧ ∀ i s, i < 2 → im i = some s → SC s (1 + i) μ
def MI (im : Nat → Option jS) (μ : jm_M) : Prop := (∀ i, i < 2 → μ.1 42 0 i = nI (iB im i)) ∧ ∀ i s, i < 2 → im i = some s → RS s 41 (16 * i) μ
def CN (n : Nat) (b l : Nat → Nat) (μ : jm_M) : Prop := μ.1 9 0 14 = nI n ∧ (∀ i, i < n → μ.1 31 0 i = nI (b i)) ∧ ∀ i, i < n → μ.1 32 0 i = nI (l i)
def MN (n : Nat) (b l : Nat → Nat) (μ : jm_M) : Prop := μ.1 10 0 23 = nI n ∧ (∀ i, i < n → μ.1 44 0 i = nI (b i)) ∧ ∀ i, i < n → μ.1 45 0 i = nI (l i)
def CX (n : Nat) (t : Nat → Nat) (μ : jm_M) : Prop := μ.1 4 0 1 = nI n ∧ ∀ i, i < n → μ.1 16 0 i = nI (t i)
def MX (n : Nat) (t : Nat → Nat) (μ : jm_M) : Prop := μ.1 10 0 3 = nI n ∧ ∀ i, i < n → μ.1 33 0 i = nI (t i)
def IC (a : jA) (μ : jm_M) : Prop := TC (aC a) 0 μ ∧ SC (aS a) 0 μ ∧ CU (aU a) (aF a) μ ∧ CI (aI a) μ ∧ CN (aN a) (aNb a) (aNl a) μ ∧ CX (aT a) (aX a) μ ∧ μ.2 9 = aR a ∧ CS (aC a) μ
def IM (a : jA) (μ : jm_M) : Prop := TM (aC a) μ ∧ RS (aS a) 39 0 μ ∧ MU (aU a) (aF a) μ ∧ MI (aI a) μ ∧ MN (aN a) (aNb a) (aNl a) μ ∧ MX (aT a) (aX a) μ ∧ μ.2 10 = aR a
/-- the model's cells, the class's cells are as they were -/
def sM (μ ν : jm_M) : Prop := ∀ k, (k = 10 ∨ 33 ≤ k) → ν.1 k = μ.1 k ∧ ν.2 k = μ.2 k
def sC (μ ν : jm_M) : Prop := ∀ k, k ≠ 10 → k < 33 → ν.1 k = μ.1 k ∧ ν.2 k = μ.2 k
theorem sM_rfl {μ : jm_M} : sM μ μ := fun _ _ => ⟨rfl, rfl⟩
theorem sC_rfl {μ : jm_M} : sC μ μ := fun _ _ _ => ⟨rfl, rfl⟩
theorem sM_wa {μ ν : jm_M} {k j : Nat} {f : Nat → Int32} (hk : k ≠ 10 ∧ k < 33) (h : sM μ ν) : sM μ (jm_wa ν k j f) := by
  intro k' hk'
  refine ⟨?_, (h k' hk').2⟩
  rw [← (h k' hk').1]
  funext j'
  exact if_neg (fun q => by omega)
theorem sM_w1 {μ ν : jm_M} {k j i : Nat} {v : Int32} (hk : k ≠ 10 ∧ k < 33) (h : sM μ ν) : sM μ (jm_w1 ν k j i v) := sM_wa hk h
theorem sM_wl {μ ν : jm_M} {v : Int64} (h : sM μ ν) : sM μ (jm_wl ν 9 v) := by
  intro k' hk'
  refine ⟨(h k' hk').1, ?_⟩
  rw [← (h k' hk').2]
  exact if_neg (by omega)
theorem sC_wa {μ ν : jm_M} {k j : Nat} {f : Nat → Int32} (hk : k = 10 ∨ 33 ≤ k) (h : sC μ ν) : sC μ (jm_wa ν k j f) := by
  intro k' hk' hk2
  refine ⟨?_, (h k' hk' hk2).2⟩
  rw [← (h k' hk' hk2).1]
  funext j'
  exact if_neg (fun q => by omega)
theorem sC_w1 {μ ν : jm_M} {k j i : Nat} {v : Int32} (hk : k = 10 ∨ 33 ≤ k) (h : sC μ ν) : sC μ (jm_w1 ν k j i v) := sC_wa hk h
theorem sC_wl {μ ν : jm_M} {v : Int64} (h : sC μ ν) : sC μ (jm_wl ν 10 v) := by
  intro k' hk' hk2
  refine ⟨(h k' hk' hk2).1, ?_⟩
  rw [← (h k' hk' hk2).2]
  exact if_neg hk'
theorem IM_same {a : jA} {μ ν : jm_M} (hs : sM μ ν) (h : IM a μ) : IM a ν := by
  have e : ∀ k, (k = 10 ∨ 33 ≤ k) → ν.1 k = μ.1 k := fun k hk => (hs k hk).1
  have e10 := e 10 (by decide)
  have e33 := e 33 (by decide)
  have e34 := e 34 (by decide)
  have e35 := e 35 (by decide)
  have e36 := e 36 (by decide)
  have e37 := e 37 (by decide)
  have e38 := e 38 (by decide)
  have e39 := e 39 (by decide)
  have e41 := e 41 (by decide)
  have e42 := e 42 (by decide)
  have e43 := e 43 (by decide)
  have e44 := e 44 (by decide)
  have e45 := e 45 (by decide)
  have l10 := (hs 10 (by decide)).2
  unfold IM TM RS MU MI MN MX RS at h ⊢
  rw [e10, e33, e34, e35, e36, e37, e38, e39, e41, e42, e43, e44, e45, l10]
  exact h
theorem SC_same {σ : jS} {j : Nat} {μ ν : jm_M} (hs : sC μ ν) (h : SC σ j μ) : SC σ j ν := by
  unfold SC at h ⊢
  rw [(hs 22 (by decide) (by decide)).1, (hs 23 (by decide) (by decide)).1, (hs 24 (by decide) (by decide)).1, (hs 7 (by decide) (by decide)).1]
  exact h
theorem IC_same {a : jA} {μ ν : jm_M} (hs : sC μ ν) (h : IC a μ) : IC a ν := by
  obtain ⟨h1, h2, ⟨h3, lt, h4, h5, h6⟩, ⟨h7, h8⟩, h9, h10, h11, h12⟩ := h
  have e : ∀ k, k ≠ 10 → k < 33 → ν.1 k = μ.1 k := fun k hk h2 => (hs k hk h2).1
  refine ⟨?_, SC_same hs h2, ⟨?_, lt, h4, ?_, fun i hi => SC_same hs (h6 i hi)⟩, ⟨?_, fun i s hi hs' => SC_same hs (h8 i s hi hs')⟩, ?_, ?_, ?_, ?_⟩
  · unfold TC at h1 ⊢
    rw [e 8 (by decide) (by decide), e 25 (by decide) (by decide), e 26 (by decide) (by decide), e 27 (by decide) (by decide), e 28 (by decide) (by decide)]
    exact h1
  · rw [e 3 (by decide) (by decide)]; exact h3
  · rw [e 3 (by decide) (by decide)]; exact h5
  · rw [e 9 (by decide) (by decide)]; exact h7
  · unfold CN at h9 ⊢
    rw [e 9 (by decide) (by decide), e 31 (by decide) (by decide), e 32 (by decide) (by decide)]
    exact h9
  · unfold CX at h10 ⊢
    rw [e 4 (by decide) (by decide), e 16 (by decide) (by decide)]
    exact h10
  · rw [(hs 9 (by decide) (by decide)).2]; exact h11
  · unfold CS at h12 ⊢
    rw [e 5 (by decide) (by decide), e 18 (by decide) (by decide)]
    exact h12
/-- a call of the class and the same call of the model: the same answer, the same that stands -/
abbrev jR : Type := Int32 ⊕ Empty
def jcv : jR → jm_V
  | .inl v => .inl v
  | .inr e => e.elim
def stp (x : jm_X) (a : jA) (y8 y9 : jm_Y) (as : List jm_V) : Prop := ∃ (r : jR) (a' : jA), WA a' ∧ (∀ μ (Q : Option jm_V → jm_M → Prop), IC a μ → (∀ ν, IC a' ν → sM μ ν → Q (some (jcv r)) ν) → jm_C x y8 (.inr (.inr (9, 0)) :: as) μ Q) ∧ ∀ μ (Q : Option jm_V → jm_M → Prop), IM a μ → (∀ ν, IM a' ν → sC μ ν → Q (some (jcv r)) ν) → jm_C x y9 (.inr (.inr (10, 0)) :: as) μ Q
def stpL (x : jm_X) (a : jA) (y8 y9 : jm_Y) (as : List jm_V) : Prop := ∃ (r : Int64) (a' : jA), WA a' ∧ (∀ μ (Q : Option jm_V → jm_M → Prop), IC a μ → (∀ ν, IC a' ν → sM μ ν → Q (some (.inr (.inl r))) ν) → jm_C x y8 (.inr (.inr (9, 0)) :: as) μ Q) ∧ ∀ μ (Q : Option jm_V → jm_M → Prop), IM a μ → (∀ ν, IM a' ν → sC μ ν → Q (some (.inr (.inl r))) ν) → jm_C x y9 (.inr (.inr (10, 0)) :: as) μ Q
/-- an index: within, or not -/
theorem j_in {p : Int32} {n : Nat} (hn : n < 1000) (h : 0 ≤ p ∧ p < nI n) : ∃ k, k < n ∧ p = nI k := by
  obtain ⟨h1, h2⟩ := h
  obtain ⟨k, hk, rfl⟩ := nI_of (Int32.not_lt.mpr h1)
  rw [jlt_nI hk (by omega)] at h2
  exact ⟨k, h2, rfl⟩
theorem j_mi {p : Int32} {n : Nat} (hn : n < 1000) : (nI 0 ≤ p ∧ p ≤ nI n - nI 1) = (0 ≤ p ∧ p < nI n) := by
  rw [nI_0, nI_jI n, nI_jI 1, jI_sub, Int32.lt_iff_toInt_lt, Int32.le_iff_toInt_le (x := p), jI_toInt (by omega) (by omega), jI_toInt (by omega) (by omega)]
  apply propext
  refine and_congr_right fun _ => ?_
  omega
theorem j_le {p : Int32} {n : Nat} (hn : n < 1000) : (nI 0 ≤ p ∧ p ≤ nI n) = (0 ≤ p ∧ p < nI (n + 1)) := by
  rw [nI_0, nI_jI n, nI_jI (n + 1), Int32.lt_iff_toInt_lt, Int32.le_iff_toInt_le (x := p), jI_toInt (by omega) (by omega), jI_toInt (by omega) (by omega)]
  apply propext
  refine and_congr_right fun _ => ?_
  omega
section JSTEP
variable {x : jm_X} {a : jA}
theorem step_forget (hW : WA a) : stp x a mX8_forget mX9_forget [] := by
  obtain ⟨w1, w2, w3, w4, w5, w6, w7, w8, w9⟩ := id hW
  refine ⟨.inl (nI (aN a)), (aC a, aS a, (aU a, aF a), aI a, (0, aNb a, aNl a), (aT a, aX a), aR a), ⟨w1, w2, w3, w4, w5, Nat.zero_le _, fun i hi => absurd hi (Nat.not_lt_zero i), w8, w9⟩, fun μ Q h q => ?_, fun μ Q h q => ?_⟩
  · obtain ⟨h1, h2, h3, h4, ⟨h5, h6, h7⟩, h8, h9, h10⟩ := h
    refine jm_C_of2 (n := 1) (by decide +kernel) (Nat.le_of_ble_eq_true rfl) rfl rfl ?_
    refine sX8_forget_0 _ ?_
    simp (disch := omega) only [bX8_forget_0, h5, jm_ic, jm_lc, jm_il, jm_il2, jm_al, jm_al2, jm_is, jm_as, jm_inc, jm_inc2, jm_bin, jm_neg, jm_div, jm_rem, jm_ladd, jm_i2c, jm_dup, jm_dup2, jm_pop, jm_gI, jm_gL, jm_gR, jm_gC, jm_pI, jm_pZ, jm_pL, jm_gA, jm_ald, jm_ast, jm_aal, jm_alen, jm_cp, jm_c1, jm_c2, jm_c3, jm_v1, jm_v2, jm_v3, jm_v4, jm_v5, jm_if, jm_cmp, jm_ri, jm_rz, jm_rl, jm_rv, jm_tsw, jm_swk, jm_lsw, jm_lkk, jm_nth, jm_put, jm_sm, jm_p1, jm_p2, jm_p3, jm_m1, jm_m2, jm_ar, List.map_cons, List.map_nil, List.cons_append, List.nil_append, List.replicate_succ, List.replicate_zero, List.length_cons, List.length_nil, Option.toList_some, Option.toList_none, and_true, true_and, false_and, and_false, eq_self, true_or, or_true, if_true, if_false, Nat.lt_irrefl, Nat.reduceLT, Nat.reduceLeDiff, Nat.reduceEqDiff, Nat.reduceAdd, Nat.reduceSub, Int.reduceAdd, Int.zero_add, Nat.zero_lt_one, Nat.zero_add, Nat.le_refl, Nat.zero_le, ne_eq, not_false_eq_true, jb_0, jb_1, jb_01, jb_em, jz_0, jz_1, ji_nI, jt_nI, ja_nI, jm_nI, jlt_nI, jle_nI, jeq_nI, jeq0, jeq1, false_or, or_false, jlt0, jge0, jgt0, jle0, not_true_eq_false, false_implies, implies_true, true_implies, Classical.not_not, jm_rw1, jm_rwa, jm_rwl1, jm_rwl2, jm_rw1l, jm_rwal, jm_w1_wa, jm_w1_wn, jm_wa_wa, ja_0, jn_0, jl_len0, ja_11, jn_11, jl_len11, ja_12, jn_12, jl_len12, ja_13, jn_13, jl_len13, ja_14, jn_14, jl_len14, ja_15, jn_15, jl_len15, jra_15, ja_16, jn_16, jl_len16, ja_17, jn_17, jl_len17, ja_18, jn_18, jl_len18, ja_19, jn_19, jl_len19, ja_20, jn_20, jl_len20, ja_21, jn_21, jl_len21, ja_22, jn_22, jl_len22, ja_23, jn_23, jl_len23, ja_24, jn_24, jl_len24, ja_25, jn_25, jl_len25, ja_26, jn_26, jl_len26, ja_27, jn_27, jl_len27, ja_28, jn_28, jl_len28, ja_29, jn_29, jl_len29, jra_29, ja_30, jn_30, jl_len30, ja_31, jn_31, jl_len31, ja_32, jn_32, jl_len32, ja_33, jn_33, jl_len33, ja_34, jn_34, jl_len34, ja_35, jn_35, jl_len35, ja_36, jn_36, jl_len36, ja_37, jn_37, jl_len37, ja_38, jn_38, jl_len38, ja_39, jn_39, jl_len39, ja_40, jn_40, jl_len40, ja_41, jn_41, jl_len41, ja_42, jn_42, jl_len42, ja_43, jn_43, jl_len43, ja_44, jn_44, jl_len44, ja_45, jn_45, jl_len45, ja_46, jn_46, jl_len46, ja_47, jn_47, jl_len47]
    exact q _ ⟨h1, h2, h3, h4, ⟨rfl, fun i hi => absurd hi (Nat.not_lt_zero i), fun i hi => absurd hi (Nat.not_lt_zero i)⟩, h8, h9, h10⟩ (by first | exact sM_rfl | (repeat (first | exact sM_rfl | refine sM_wa (by decide) ?_ | refine sM_w1 (by decide) ?_ | refine sM_wl ?_)))
  · obtain ⟨h1, h2, h3, h4, ⟨h5, h6, h7⟩, h8, h9⟩ := h
    refine jm_C_of2 (n := 1) (by decide +kernel) (Nat.le_of_ble_eq_true rfl) rfl rfl ?_
    refine sX9_forget_0 _ ?_
    simp (disch := omega) only [bX9_forget_0, h5, jm_ic, jm_lc, jm_il, jm_il2, jm_al, jm_al2, jm_is, jm_as, jm_inc, jm_inc2, jm_bin, jm_neg, jm_div, jm_rem, jm_ladd, jm_i2c, jm_dup, jm_dup2, jm_pop, jm_gI, jm_gL, jm_gR, jm_gC, jm_pI, jm_pZ, jm_pL, jm_gA, jm_ald, jm_ast, jm_aal, jm_alen, jm_cp, jm_c1, jm_c2, jm_c3, jm_v1, jm_v2, jm_v3, jm_v4, jm_v5, jm_if, jm_cmp, jm_ri, jm_rz, jm_rl, jm_rv, jm_tsw, jm_swk, jm_lsw, jm_lkk, jm_nth, jm_put, jm_sm, jm_p1, jm_p2, jm_p3, jm_m1, jm_m2, jm_ar, List.map_cons, List.map_nil, List.cons_append, List.nil_append, List.replicate_succ, List.replicate_zero, List.length_cons, List.length_nil, Option.toList_some, Option.toList_none, and_true, true_and, false_and, and_false, eq_self, true_or, or_true, if_true, if_false, Nat.lt_irrefl, Nat.reduceLT, Nat.reduceLeDiff, Nat.reduceEqDiff, Nat.reduceAdd, Nat.reduceSub, Int.reduceAdd, Int.zero_add, Nat.zero_lt_one, Nat.zero_add, Nat.le_refl, Nat.zero_le, ne_eq, not_false_eq_true, jb_0, jb_1, jb_01, jb_em, jz_0, jz_1, ji_nI, jt_nI, ja_nI, jm_nI, jlt_nI, jle_nI, jeq_nI, jeq0, jeq1, false_or, or_false, jlt0, jge0, jgt0, jle0, not_true_eq_false, false_implies, implies_true, true_implies, Classical.not_not, jm_rw1, jm_rwa, jm_rwl1, jm_rwl2, jm_rw1l, jm_rwal, jm_w1_wa, jm_w1_wn, jm_wa_wa, ja_0, jn_0, jl_len0, ja_11, jn_11, jl_len11, ja_12, jn_12, jl_len12, ja_13, jn_13, jl_len13, ja_14, jn_14, jl_len14, ja_15, jn_15, jl_len15, jra_15, ja_16, jn_16, jl_len16, ja_17, jn_17, jl_len17, ja_18, jn_18, jl_len18, ja_19, jn_19, jl_len19, ja_20, jn_20, jl_len20, ja_21, jn_21, jl_len21, ja_22, jn_22, jl_len22, ja_23, jn_23, jl_len23, ja_24, jn_24, jl_len24, ja_25, jn_25, jl_len25, ja_26, jn_26, jl_len26, ja_27, jn_27, jl_len27, ja_28, jn_28, jl_len28, ja_29, jn_29, jl_len29, jra_29, ja_30, jn_30, jl_len30, ja_31, jn_31, jl_len31, ja_32, jn_32, jl_len32, ja_33, jn_33, jl_len33, ja_34, jn_34, jl_len34, ja_35, jn_35, jl_len35, ja_36, jn_36, jl_len36, ja_37, jn_37, jl_len37, ja_38, jn_38, jl_len38, ja_39, jn_39, jl_len39, ja_40, jn_40, jl_len40, ja_41, jn_41, jl_len41, ja_42, jn_42, jl_len42, ja_43, jn_43, jl_len43, ja_44, jn_44, jl_len44, ja_45, jn_45, jl_len45, ja_46, jn_46, jl_len46, ja_47, jn_47, jl_len47]
    exact q _ ⟨h1, h2, h3, h4, ⟨rfl, fun i hi => absurd hi (Nat.not_lt_zero i), fun i hi => absurd hi (Nat.not_lt_zero i)⟩, h8, h9⟩ (by first | exact sC_rfl | (repeat (first | exact sC_rfl | refine sC_wa (by decide) ?_ | refine sC_w1 (by decide) ?_ | refine sC_wl ?_)))
theorem step_clear (hW : WA a) : stp x a mX8_clear mX9_clear [] := by
  obtain ⟨w1, w2, w3, w4, w5, w6, w7, w8, w9⟩ := id hW
  refine ⟨.inl (nI (aT a)), (aC a, aS a, (aU a, aF a), aI a, (aN a, aNb a, aNl a), (0, aX a), aR a), ⟨w1, w2, w3, w4, w5, w6, w7, Nat.zero_le _, w9⟩, fun μ Q h q => ?_, fun μ Q h q => ?_⟩
  · obtain ⟨h1, h2, h3, h4, h5, ⟨h6, h7⟩, h9, h10⟩ := h
    refine jm_C_of2 (n := 0) (by decide +kernel) (Nat.le_of_ble_eq_true rfl) rfl rfl ?_
    refine sX8_clear_0 _ ?_
    simp (disch := omega) only [bX8_clear_0, jm_ic, jm_lc, jm_il, jm_il2, jm_al, jm_al2, jm_is, jm_as, jm_inc, jm_inc2, jm_bin, jm_neg, jm_div, jm_rem, jm_ladd, jm_i2c, jm_dup, jm_dup2, jm_pop, jm_gI, jm_gL, jm_gR, jm_gC, jm_pI, jm_pZ, jm_pL, jm_gA, jm_ald, jm_ast, jm_aal, jm_alen, jm_cp, jm_c1, jm_c2, jm_c3, jm_v1, jm_v2, jm_v3, jm_v4, jm_v5, jm_if, jm_cmp, jm_ri, jm_rz, jm_rl, jm_rv, jm_tsw, jm_swk, jm_lsw, jm_lkk, jm_nth, jm_put, jm_sm, jm_p1, jm_p2, jm_p3, jm_m1, jm_m2, jm_ar, List.map_cons, List.map_nil, List.cons_append, List.nil_append, List.replicate_succ, List.replicate_zero, List.length_cons, List.length_nil, Option.toList_some, Option.toList_none, and_true, true_and, false_and, and_false, eq_self, true_or, or_true, if_true, if_false, Nat.lt_irrefl, Nat.reduceLT, Nat.reduceLeDiff, Nat.reduceEqDiff, Nat.reduceAdd, Nat.reduceSub, Int.reduceAdd, Int.zero_add, Nat.zero_lt_one, Nat.zero_add, Nat.le_refl, Nat.zero_le, ne_eq, not_false_eq_true, jb_0, jb_1, jb_01, jb_em, jz_0, jz_1, ji_nI, jt_nI, ja_nI, jm_nI, jlt_nI, jle_nI, jeq_nI, jeq0, jeq1, false_or, or_false, jlt0, jge0, jgt0, jle0, not_true_eq_false, false_implies, implies_true, true_implies, Classical.not_not, jm_rw1, jm_rwa, jm_rwl1, jm_rwl2, jm_rw1l, jm_rwal, jm_w1_wa, jm_w1_wn, jm_wa_wa, ja_0, jn_0, jl_len0, ja_11, jn_11, jl_len11, ja_12, jn_12, jl_len12, ja_13, jn_13, jl_len13, ja_14, jn_14, jl_len14, ja_15, jn_15, jl_len15, jra_15, ja_16, jn_16, jl_len16, ja_17, jn_17, jl_len17, ja_18, jn_18, jl_len18, ja_19, jn_19, jl_len19, ja_20, jn_20, jl_len20, ja_21, jn_21, jl_len21, ja_22, jn_22, jl_len22, ja_23, jn_23, jl_len23, ja_24, jn_24, jl_len24, ja_25, jn_25, jl_len25, ja_26, jn_26, jl_len26, ja_27, jn_27, jl_len27, ja_28, jn_28, jl_len28, ja_29, jn_29, jl_len29, jra_29, ja_30, jn_30, jl_len30, ja_31, jn_31, jl_len31, ja_32, jn_32, jl_len32, ja_33, jn_33, jl_len33, ja_34, jn_34, jl_len34, ja_35, jn_35, jl_len35, ja_36, jn_36, jl_len36, ja_37, jn_37, jl_len37, ja_38, jn_38, jl_len38, ja_39, jn_39, jl_len39, ja_40, jn_40, jl_len40, ja_41, jn_41, jl_len41, ja_42, jn_42, jl_len42, ja_43, jn_43, jl_len43, ja_44, jn_44, jl_len44, ja_45, jn_45, jl_len45, ja_46, jn_46, jl_len46, ja_47, jn_47, jl_len47]
    refine jm_C_of2 (n := 1) (by decide +kernel) (Nat.le_of_ble_eq_true rfl) rfl rfl ?_
    refine sX3_empty_0 _ ?_
    simp (disch := omega) only [bX3_empty_0, h6, jm_ic, jm_lc, jm_il, jm_il2, jm_al, jm_al2, jm_is, jm_as, jm_inc, jm_inc2, jm_bin, jm_neg, jm_div, jm_rem, jm_ladd, jm_i2c, jm_dup, jm_dup2, jm_pop, jm_gI, jm_gL, jm_gR, jm_gC, jm_pI, jm_pZ, jm_pL, jm_gA, jm_ald, jm_ast, jm_aal, jm_alen, jm_cp, jm_c1, jm_c2, jm_c3, jm_v1, jm_v2, jm_v3, jm_v4, jm_v5, jm_if, jm_cmp, jm_ri, jm_rz, jm_rl, jm_rv, jm_tsw, jm_swk, jm_lsw, jm_lkk, jm_nth, jm_put, jm_sm, jm_p1, jm_p2, jm_p3, jm_m1, jm_m2, jm_ar, List.map_cons, List.map_nil, List.cons_append, List.nil_append, List.replicate_succ, List.replicate_zero, List.length_cons, List.length_nil, Option.toList_some, Option.toList_none, and_true, true_and, false_and, and_false, eq_self, true_or, or_true, if_true, if_false, Nat.lt_irrefl, Nat.reduceLT, Nat.reduceLeDiff, Nat.reduceEqDiff, Nat.reduceAdd, Nat.reduceSub, Int.reduceAdd, Int.zero_add, Nat.zero_lt_one, Nat.zero_add, Nat.le_refl, Nat.zero_le, ne_eq, not_false_eq_true, jb_0, jb_1, jb_01, jb_em, jz_0, jz_1, ji_nI, jt_nI, ja_nI, jm_nI, jlt_nI, jle_nI, jeq_nI, jeq0, jeq1, false_or, or_false, jlt0, jge0, jgt0, jle0, not_true_eq_false, false_implies, implies_true, true_implies, Classical.not_not, jm_rw1, jm_rwa, jm_rwl1, jm_rwl2, jm_rw1l, jm_rwal, jm_w1_wa, jm_w1_wn, jm_wa_wa, ja_0, jn_0, jl_len0, ja_11, jn_11, jl_len11, ja_12, jn_12, jl_len12, ja_13, jn_13, jl_len13, ja_14, jn_14, jl_len14, ja_15, jn_15, jl_len15, jra_15, ja_16, jn_16, jl_len16, ja_17, jn_17, jl_len17, ja_18, jn_18, jl_len18, ja_19, jn_19, jl_len19, ja_20, jn_20, jl_len20, ja_21, jn_21, jl_len21, ja_22, jn_22, jl_len22, ja_23, jn_23, jl_len23, ja_24, jn_24, jl_len24, ja_25, jn_25, jl_len25, ja_26, jn_26, jl_len26, ja_27, jn_27, jl_len27, ja_28, jn_28, jl_len28, ja_29, jn_29, jl_len29, jra_29, ja_30, jn_30, jl_len30, ja_31, jn_31, jl_len31, ja_32, jn_32, jl_len32, ja_33, jn_33, jl_len33, ja_34, jn_34, jl_len34, ja_35, jn_35, jl_len35, ja_36, jn_36, jl_len36, ja_37, jn_37, jl_len37, ja_38, jn_38, jl_len38, ja_39, jn_39, jl_len39, ja_40, jn_40, jl_len40, ja_41, jn_41, jl_len41, ja_42, jn_42, jl_len42, ja_43, jn_43, jl_len43, ja_44, jn_44, jl_len44, ja_45, jn_45, jl_len45, ja_46, jn_46, jl_len46, ja_47, jn_47, jl_len47]
    exact q _ ⟨h1, h2, h3, h4, h5, ⟨rfl, fun i hi => absurd hi (Nat.not_lt_zero i)⟩, h9, h10⟩ (by first | exact sM_rfl | (repeat (first | exact sM_rfl | refine sM_wa (by decide) ?_ | refine sM_w1 (by decide) ?_ | refine sM_wl ?_)))
  · obtain ⟨h1, h2, h3, h4, h5, ⟨h6, h7⟩, h9⟩ := h
    refine jm_C_of2 (n := 1) (by decide +kernel) (Nat.le_of_ble_eq_true rfl) rfl rfl ?_
    refine sX9_clear_0 _ ?_
    simp (disch := omega) only [bX9_clear_0, h6, jm_ic, jm_lc, jm_il, jm_il2, jm_al, jm_al2, jm_is, jm_as, jm_inc, jm_inc2, jm_bin, jm_neg, jm_div, jm_rem, jm_ladd, jm_i2c, jm_dup, jm_dup2, jm_pop, jm_gI, jm_gL, jm_gR, jm_gC, jm_pI, jm_pZ, jm_pL, jm_gA, jm_ald, jm_ast, jm_aal, jm_alen, jm_cp, jm_c1, jm_c2, jm_c3, jm_v1, jm_v2, jm_v3, jm_v4, jm_v5, jm_if, jm_cmp, jm_ri, jm_rz, jm_rl, jm_rv, jm_tsw, jm_swk, jm_lsw, jm_lkk, jm_nth, jm_put, jm_sm, jm_p1, jm_p2, jm_p3, jm_m1, jm_m2, jm_ar, List.map_cons, List.map_nil, List.cons_append, List.nil_append, List.replicate_succ, List.replicate_zero, List.length_cons, List.length_nil, Option.toList_some, Option.toList_none, and_true, true_and, false_and, and_false, eq_self, true_or, or_true, if_true, if_false, Nat.lt_irrefl, Nat.reduceLT, Nat.reduceLeDiff, Nat.reduceEqDiff, Nat.reduceAdd, Nat.reduceSub, Int.reduceAdd, Int.zero_add, Nat.zero_lt_one, Nat.zero_add, Nat.le_refl, Nat.zero_le, ne_eq, not_false_eq_true, jb_0, jb_1, jb_01, jb_em, jz_0, jz_1, ji_nI, jt_nI, ja_nI, jm_nI, jlt_nI, jle_nI, jeq_nI, jeq0, jeq1, false_or, or_false, jlt0, jge0, jgt0, jle0, not_true_eq_false, false_implies, implies_true, true_implies, Classical.not_not, jm_rw1, jm_rwa, jm_rwl1, jm_rwl2, jm_rw1l, jm_rwal, jm_w1_wa, jm_w1_wn, jm_wa_wa, ja_0, jn_0, jl_len0, ja_11, jn_11, jl_len11, ja_12, jn_12, jl_len12, ja_13, jn_13, jl_len13, ja_14, jn_14, jl_len14, ja_15, jn_15, jl_len15, jra_15, ja_16, jn_16, jl_len16, ja_17, jn_17, jl_len17, ja_18, jn_18, jl_len18, ja_19, jn_19, jl_len19, ja_20, jn_20, jl_len20, ja_21, jn_21, jl_len21, ja_22, jn_22, jl_len22, ja_23, jn_23, jl_len23, ja_24, jn_24, jl_len24, ja_25, jn_25, jl_len25, ja_26, jn_26, jl_len26, ja_27, jn_27, jl_len27, ja_28, jn_28, jl_len28, ja_29, jn_29, jl_len29, jra_29, ja_30, jn_30, jl_len30, ja_31, jn_31, jl_len31, ja_32, jn_32, jl_len32, ja_33, jn_33, jl_len33, ja_34, jn_34, jl_len34, ja_35, jn_35, jl_len35, ja_36, jn_36, jl_len36, ja_37, jn_37, jl_len37, ja_38, jn_38, jl_len38, ja_39, jn_39, jl_len39, ja_40, jn_40, jl_len40, ja_41, jn_41, jl_len41, ja_42, jn_42, jl_len42, ja_43, jn_43, jl_len43, ja_44, jn_44, jl_len44, ja_45, jn_45, jl_len45, ja_46, jn_46, jl_len46, ja_47, jn_47, jl_len47]
    exact q _ ⟨h1, h2, h3, h4, h5, ⟨rfl, fun i hi => absurd hi (Nat.not_lt_zero i)⟩, h9⟩ (by first | exact sC_rfl | (repeat (first | exact sC_rfl | refine sC_wa (by decide) ?_ | refine sC_w1 (by decide) ?_ | refine sC_wl ?_)))
theorem step_trace (hW : WA a) : stpL x a mX8_trace mX9_trace [] := by
  refine ⟨aR a, a, hW, fun μ Q h q => ?_, fun μ Q h q => ?_⟩
  · have e := h.2.2.2.2.2.2.1
    refine jm_C_of2 (n := 0) (by decide +kernel) (Nat.le_of_ble_eq_true rfl) rfl rfl ?_
    refine sX8_trace_0 _ ?_
    simp (disch := omega) only [bX8_trace_0, e, jm_ic, jm_lc, jm_il, jm_il2, jm_al, jm_al2, jm_is, jm_as, jm_inc, jm_inc2, jm_bin, jm_neg, jm_div, jm_rem, jm_ladd, jm_i2c, jm_dup, jm_dup2, jm_pop, jm_gI, jm_gL, jm_gR, jm_gC, jm_pI, jm_pZ, jm_pL, jm_gA, jm_ald, jm_ast, jm_aal, jm_alen, jm_cp, jm_c1, jm_c2, jm_c3, jm_v1, jm_v2, jm_v3, jm_v4, jm_v5, jm_if, jm_cmp, jm_ri, jm_rz, jm_rl, jm_rv, jm_tsw, jm_swk, jm_lsw, jm_lkk, jm_nth, jm_put, jm_sm, jm_p1, jm_p2, jm_p3, jm_m1, jm_m2, jm_ar, List.map_cons, List.map_nil, List.cons_append, List.nil_append, List.replicate_succ, List.replicate_zero, List.length_cons, List.length_nil, Option.toList_some, Option.toList_none, and_true, true_and, false_and, and_false, eq_self, true_or, or_true, if_true, if_false, Nat.lt_irrefl, Nat.reduceLT, Nat.reduceLeDiff, Nat.reduceEqDiff, Nat.reduceAdd, Nat.reduceSub, Int.reduceAdd, Int.zero_add, Nat.zero_lt_one, Nat.zero_add, Nat.le_refl, Nat.zero_le, ne_eq, not_false_eq_true, jb_0, jb_1, jb_01, jb_em, jz_0, jz_1, ji_nI, jt_nI, ja_nI, jm_nI, jlt_nI, jle_nI, jeq_nI, jeq0, jeq1, false_or, or_false, jlt0, jge0, jgt0, jle0, not_true_eq_false, false_implies, implies_true, true_implies, Classical.not_not, jm_rw1, jm_rwa, jm_rwl1, jm_rwl2, jm_rw1l, jm_rwal, jm_w1_wa, jm_w1_wn, jm_wa_wa, ja_0, jn_0, jl_len0, ja_11, jn_11, jl_len11, ja_12, jn_12, jl_len12, ja_13, jn_13, jl_len13, ja_14, jn_14, jl_len14, ja_15, jn_15, jl_len15, jra_15, ja_16, jn_16, jl_len16, ja_17, jn_17, jl_len17, ja_18, jn_18, jl_len18, ja_19, jn_19, jl_len19, ja_20, jn_20, jl_len20, ja_21, jn_21, jl_len21, ja_22, jn_22, jl_len22, ja_23, jn_23, jl_len23, ja_24, jn_24, jl_len24, ja_25, jn_25, jl_len25, ja_26, jn_26, jl_len26, ja_27, jn_27, jl_len27, ja_28, jn_28, jl_len28, ja_29, jn_29, jl_len29, jra_29, ja_30, jn_30, jl_len30, ja_31, jn_31, jl_len31, ja_32, jn_32, jl_len32, ja_33, jn_33, jl_len33, ja_34, jn_34, jl_len34, ja_35, jn_35, jl_len35, ja_36, jn_36, jl_len36, ja_37, jn_37, jl_len37, ja_38, jn_38, jl_len38, ja_39, jn_39, jl_len39, ja_40, jn_40, jl_len40, ja_41, jn_41, jl_len41, ja_42, jn_42, jl_len42, ja_43, jn_43, jl_len43, ja_44, jn_44, jl_len44, ja_45, jn_45, jl_len45, ja_46, jn_46, jl_len46, ja_47, jn_47, jl_len47]
    exact q _ h (by first | exact sM_rfl | (repeat (first | exact sM_rfl | refine sM_wa (by decide) ?_ | refine sM_w1 (by decide) ?_ | refine sM_wl ?_)))
  · have e := h.2.2.2.2.2.2
    refine jm_C_of2 (n := 0) (by decide +kernel) (Nat.le_of_ble_eq_true rfl) rfl rfl ?_
    refine sX9_trace_0 _ ?_
    simp (disch := omega) only [bX9_trace_0, e, jm_ic, jm_lc, jm_il, jm_il2, jm_al, jm_al2, jm_is, jm_as, jm_inc, jm_inc2, jm_bin, jm_neg, jm_div, jm_rem, jm_ladd, jm_i2c, jm_dup, jm_dup2, jm_pop, jm_gI, jm_gL, jm_gR, jm_gC, jm_pI, jm_pZ, jm_pL, jm_gA, jm_ald, jm_ast, jm_aal, jm_alen, jm_cp, jm_c1, jm_c2, jm_c3, jm_v1, jm_v2, jm_v3, jm_v4, jm_v5, jm_if, jm_cmp, jm_ri, jm_rz, jm_rl, jm_rv, jm_tsw, jm_swk, jm_lsw, jm_lkk, jm_nth, jm_put, jm_sm, jm_p1, jm_p2, jm_p3, jm_m1, jm_m2, jm_ar, List.map_cons, List.map_nil, List.cons_append, List.nil_append, List.replicate_succ, List.replicate_zero, List.length_cons, List.length_nil, Option.toList_some, Option.toList_none, and_true, true_and, false_and, and_false, eq_self, true_or, or_true, if_true, if_false, Nat.lt_irrefl, Nat.reduceLT, Nat.reduceLeDiff, Nat.reduceEqDiff, Nat.reduceAdd, Nat.reduceSub, Int.reduceAdd, Int.zero_add, Nat.zero_lt_one, Nat.zero_add, Nat.le_refl, Nat.zero_le, ne_eq, not_false_eq_true, jb_0, jb_1, jb_01, jb_em, jz_0, jz_1, ji_nI, jt_nI, ja_nI, jm_nI, jlt_nI, jle_nI, jeq_nI, jeq0, jeq1, false_or, or_false, jlt0, jge0, jgt0, jle0, not_true_eq_false, false_implies, implies_true, true_implies, Classical.not_not, jm_rw1, jm_rwa, jm_rwl1, jm_rwl2, jm_rw1l, jm_rwal, jm_w1_wa, jm_w1_wn, jm_wa_wa, ja_0, jn_0, jl_len0, ja_11, jn_11, jl_len11, ja_12, jn_12, jl_len12, ja_13, jn_13, jl_len13, ja_14, jn_14, jl_len14, ja_15, jn_15, jl_len15, jra_15, ja_16, jn_16, jl_len16, ja_17, jn_17, jl_len17, ja_18, jn_18, jl_len18, ja_19, jn_19, jl_len19, ja_20, jn_20, jl_len20, ja_21, jn_21, jl_len21, ja_22, jn_22, jl_len22, ja_23, jn_23, jl_len23, ja_24, jn_24, jl_len24, ja_25, jn_25, jl_len25, ja_26, jn_26, jl_len26, ja_27, jn_27, jl_len27, ja_28, jn_28, jl_len28, ja_29, jn_29, jl_len29, jra_29, ja_30, jn_30, jl_len30, ja_31, jn_31, jl_len31, ja_32, jn_32, jl_len32, ja_33, jn_33, jl_len33, ja_34, jn_34, jl_len34, ja_35, jn_35, jl_len35, ja_36, jn_36, jl_len36, ja_37, jn_37, jl_len37, ja_38, jn_38, jl_len38, ja_39, jn_39, jl_len39, ja_40, jn_40, jl_len40, ja_41, jn_41, jl_len41, ja_42, jn_42, jl_len42, ja_43, jn_43, jl_len43, ja_44, jn_44, jl_len44, ja_45, jn_45, jl_len45, ja_46, jn_46, jl_len46, ja_47, jn_47, jl_len47]
    exact q _ h (by first | exact sC_rfl | (repeat (first | exact sC_rfl | refine sC_wa (by decide) ?_ | refine sC_w1 (by decide) ?_ | refine sC_wl ?_)))
end JSTEP
