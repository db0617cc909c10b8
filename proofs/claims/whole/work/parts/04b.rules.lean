/-! rules: fields, arrays, calls, switches -/
/-- what is known of the objects of a kind -/
def jm_cls (k n ci : Nat) (fs : List (Nat × Nat × Nat)) (C : String) (T : u_T) (N : Nat) (ty : Nat → FieldType) : Prop :=
  k ≠ 0 ∧ n = jm_cnt k ∧ jm_kd k = .inr (ci, fs) ∧ vwCl[ci]? = some (C, T, N) ∧ fs.length = N ∧ (∀ w ∈ u_ws C T N, w ∈ jm_big) ∧ (∀ i, i < N → (T i).1 = C) ∧ (∀ i, i < N → parseFieldDescriptor (T i).2.2.1 = some (ty i)) ∧ ∀ a, a < N → ∀ b, b < N → a ≠ b → (T a).2.1 ≠ (T b).2.1
section JF
variable {x : jm_X} {y : jm_Y} {Q : Option jm_V → jm_M → Prop} {pc : Nat} {K : jm_K} {k n ci i idx : Nat} {fs : List (Nat × Nat × Nat)} {C : String} {T : u_T} {N : Nat} {ty : Nat → FieldType}
theorem jm_getf (hc : jm_cls k n ci fs C T N ty) (hd : decode y.2.1 pc = .ok (.getfield idx, 3)) {f : Nat × Nat × Nat} (hf : fs[i]? = some f) (hl : Cond.fieldLink y.1.cls idx C (T i).2.1 (T i).2.2.1 ∈ jm_big)
    {a j : Nat} {st : List jm_V} {ls : List (Option jm_V)} {μ : jm_M} (ha : a = k) (hj : j < n) {v : jm_V} (hv : jm_fv x μ k j i f = jm_tr x v) (hK : jm_W x y Q (pc + 3) (ls, v :: st, μ)) : jm_W x y Q pc (ls, .inr (.inr (a, j)) :: st, μ) := by
  intro p e s m args below meth c H locs rl hF hP hS hlh
  obtain ⟨h1, h2, h3, h4, h5, h6, h7, h8, h9⟩ := hc
  subst ha
  obtain ⟨q0, hq1, hq2⟩ := jm_at h1 (h2 ▸ hj) x μ
  rw [h3] at hq2
  have hi : i < N := by rw [← h5]; exact (List.getElem?_eq_some_iff.mp hf).1
  refine va_get (v := jm_tr x v) hF.1 hF.2.1 hF.2.2.2.2.2.1 h6 hF.2.2.2.2.1 hF.2.2.2.2.2.2.2.1 hP.1 q0 hq2 h4 i hi (hF.2.2.2.2.2.1 _ hl) (by rw [h7 i hi]; exact fun _ h => h) ?_ hd (hK p e s m args below meth c H locs rl hF hP hS hlh)
  rw [jm_fl_get, hf, Nat.zero_add, ← hv]; rfl
theorem jr_gI (hc : jm_cls k n ci fs C T N ty) (hd : decode y.2.1 pc = .ok (.getfield idx, 3)) (hf : fs[i]? = some (0, 0, 0)) (hl : Cond.fieldLink y.1.cls idx C (T i).2.1 (T i).2.2.1 ∈ jm_big) (hK : ∀ z, K z → jm_W x y Q (pc + 3) z) : ∀ z, jm_gI k n i K z → jm_W x y Q pc z := by
  intro z h
  unfold jm_gI at h
  split at h
  · exact jm_getf hc hd hf hl h.1 h.2.1 (v := .inl _) rfl (hK _ h.2.2)
  · exact h.elim
theorem jr_gL (hc : jm_cls k n ci fs C T N ty) (hd : decode y.2.1 pc = .ok (.getfield idx, 3)) (hf : fs[i]? = some (1, 0, 0)) (hl : Cond.fieldLink y.1.cls idx C (T i).2.1 (T i).2.2.1 ∈ jm_big) (hK : ∀ z, K z → jm_W x y Q (pc + 3) z) : ∀ z, jm_gL k n K z → jm_W x y Q pc z := by
  intro z h
  unfold jm_gL at h
  split at h
  · exact jm_getf hc hd hf hl h.1 h.2.1 (v := .inr (.inl _)) rfl (hK _ h.2.2)
  · exact h.elim
theorem jr_gR {k' : Nat} (hc : jm_cls k n ci fs C T N ty) (hd : decode y.2.1 pc = .ok (.getfield idx, 3)) (hf : fs[i]? = some (2, k', 0)) (hl : Cond.fieldLink y.1.cls idx C (T i).2.1 (T i).2.2.1 ∈ jm_big) (hK : ∀ z, K z → jm_W x y Q (pc + 3) z) : ∀ z, jm_gR k n k' K z → jm_W x y Q pc z := by
  intro z h
  unfold jm_gR at h
  split at h
  · exact jm_getf hc hd hf hl h.1 h.2.1 (v := .inr (.inr (k', _))) rfl (hK _ h.2.2)
  · exact h.elim
theorem jr_gC {k' j' : Nat} (hc : jm_cls k n ci fs C T N ty) (hd : decode y.2.1 pc = .ok (.getfield idx, 3)) (hf : fs[i]? = some (3, k', j')) (hl : Cond.fieldLink y.1.cls idx C (T i).2.1 (T i).2.2.1 ∈ jm_big) (hK : ∀ z, K z → jm_W x y Q (pc + 3) z) : ∀ z, jm_gC k n k' j' K z → jm_W x y Q pc z := by
  intro z h
  unfold jm_gC at h
  split at h
  · exact jm_getf hc hd hf hl h.1 h.2.1 (v := .inr (.inr (k', j'))) rfl (hK _ h.2.2)
  · exact h.elim
theorem jm_w1_zero {μ : jm_M} {j v' : Nat} {v : Int32} (h0 : k ≠ 0) (h : ∀ j i, μ.1 0 j i = 0) : ∀ j' i', (jm_w1 μ k j v' v).1 0 j' i' = 0 := by
  intro j' i'
  show (if 0 = k ∧ j' = j then _ else μ.1 0 j') i' = 0
  rw [if_neg (fun e => h0 e.1.symm)]
  exact h j' i'
theorem jm_putf (hc : jm_cls k n ci fs C T N ty) (hd : decode y.2.1 pc = .ok (.putfield idx, 3)) {f : Nat × Nat × Nat} (hf : fs[i]? = some f) (hl : Cond.fieldLink y.1.cls idx C (T i).2.1 (T i).2.2.1 ∈ jm_big) (hfin : (T i).2.2.2 = false)
    {a j : Nat} {st : List jm_V} {ls : List (Option jm_V)} {μ ν : jm_M} (ha : a = k) (hj : j < n) {v : jm_V} (hn : narrow (ty i) (jm_tr x v) = jm_tr x v) (hfit : fits (ty i) (jm_tr x v) = true)
    (hws : ∀ q0, jm_cells[q0]? = some (k, j) → jm_ws x ν = (jm_ws x μ).set q0 (x.2.2.2.1 k j, .inr (ci, (jm_fl x μ k j 0 fs).set i (jm_tr x v)))) (hz : (∀ j i, μ.1 0 j i = 0) → ∀ j i, ν.1 0 j i = 0)
    (hK : jm_W x y Q (pc + 3) (ls, st, ν)) : jm_W x y Q pc (ls, v :: .inr (.inr (a, j)) :: st, μ) := by
  intro p e s m args below meth c H locs rl hF hP hS hlh
  obtain ⟨h1, h2, h3, h4, h5, h6, h7, h8, h9⟩ := hc
  subst ha
  obtain ⟨q0, hq1, hq2⟩ := jm_at h1 (h2 ▸ hj) x μ
  rw [h3] at hq2
  have hi : i < N := by rw [← h5]; exact (List.getElem?_eq_some_iff.mp hf).1
  refine va_put (v := jm_tr x v) (ty := ty i) hF.1 hF.2.1 hF.2.2.2.2.2.1 h6 ty h8 h9 hF.2.2.2.2.1 hF.2.2.2.2.2.2.2.1 hP.1 hP.2.1 hS q0 hq2 h4 i hi (hF.2.2.2.2.2.1 _ hl) (by rw [h7 i hi]; exact fun _ h => h) hfin (h8 i hi) hn hfit (by rw [jm_fl_len, h5]; exact hi) hd (fun H1 locs1 g1 g2 g3 => ?_)
  rw [← hws q0 hq1] at g1 g2
  exact hK p e s m args below meth c H1 locs1 rl hF ⟨g1, g2, hz hP.2.2⟩ g3 hlh
theorem jm_put_ws {j : Nat} {μ : jm_M} {v : Int32} (hc : jm_cls k n ci fs C T N ty) (hf : fs[i]? = some (0, 0, 0)) : ∀ q0, jm_cells[q0]? = some (k, j) → jm_ws x (jm_w1 μ k j i v) = (jm_ws x μ).set q0 (x.2.2.2.1 k j, .inr (ci, (jm_fl x μ k j 0 fs).set i (.int v))) := by
  intro q0 hq
  rw [← jm_fl_set hf]
  have := jm_ws_wa (x := x) (μ := μ) (upd (μ.1 k j) i v) hq
  rw [hc.2.2.1] at this
  exact this
theorem jr_pI (hc : jm_cls k n ci fs C T N ty) (hd : decode y.2.1 pc = .ok (.putfield idx, 3)) (hf : fs[i]? = some (0, 0, 0)) (hl : Cond.fieldLink y.1.cls idx C (T i).2.1 (T i).2.2.1 ∈ jm_big) (hfin : (T i).2.2.2 = false) (hty : ty i = .int) (hK : ∀ z, K z → jm_W x y Q (pc + 3) z) : ∀ z, jm_pI k n i K z → jm_W x y Q pc z := by
  intro z h
  unfold jm_pI at h
  split at h
  · exact jm_putf hc hd hf hl hfin h.1 h.2.1 (v := .inl _) (by rw [hty]; rfl) (by rw [hty]; rfl) (jm_put_ws hc hf) (jm_w1_zero hc.1) (hK _ h.2.2)
  · exact h.elim
theorem jr_pZ (hc : jm_cls k n ci fs C T N ty) (hd : decode y.2.1 pc = .ok (.putfield idx, 3)) (hf : fs[i]? = some (0, 0, 0)) (hl : Cond.fieldLink y.1.cls idx C (T i).2.1 (T i).2.2.1 ∈ jm_big) (hfin : (T i).2.2.2 = false) (hty : ty i = .boolean) (hK : ∀ z, K z → jm_W x y Q (pc + 3) z) : ∀ z, jm_pZ k n i K z → jm_W x y Q pc z := by
  intro z h
  unfold jm_pZ at h
  split at h
  · exact jm_putf hc hd hf hl hfin h.1 h.2.1 (v := .inl _) (by rw [hty]; rcases h.2.2.1 with e | e <;> rw [e] <;> rfl) (by rw [hty]; rcases h.2.2.1 with e | e <;> rw [e] <;> rfl) (jm_put_ws hc hf) (jm_w1_zero hc.1) (hK _ h.2.2.2)
  · exact h.elim
theorem jr_pL (hc : jm_cls k n ci fs C T N ty) (hd : decode y.2.1 pc = .ok (.putfield idx, 3)) (hf : fs[i]? = some (1, 0, 0)) (hl : Cond.fieldLink y.1.cls idx C (T i).2.1 (T i).2.2.1 ∈ jm_big) (hfin : (T i).2.2.2 = false) (hty : ty i = .long) (h1 : ∀ i' f, fs[i']? = some f → f.1 = 1 → i' = i) (hn1 : n = 1) (hK : ∀ z, K z → jm_W x y Q (pc + 3) z) : ∀ z, jm_pL k n K z → jm_W x y Q pc z := by
  intro z h
  unfold jm_pL at h
  split at h
  · next ls v a j st μ =>
    refine jm_putf (ν := jm_wl μ k v) hc hd hf hl hfin h.1 h.2.1 (v := .inr (.inl v)) (by rw [hty]; rfl) (by rw [hty]; rfl) (fun q0 hq => ?_) (fun hz => hz) (hK _ h.2.2)
    have e := jm_ws_set (x := x) (μ := μ) (ν := jm_wl μ k v) hq (fun c hc' hne => by
      by_cases hk : c.1 = k
      · exfalso
        have hj0 : j = 0 := by have := h.2.1; omega
        apply hne
        obtain ⟨k0, hk0, h2⟩ := List.mem_flatMap.mp hc'
        obtain ⟨j0, hj1, h3⟩ := List.mem_map.mp h2
        rw [← h3] at hk ⊢
        simp only at hk
        subst hk
        rw [if_neg hc.1, ← hc.2.1] at hj1
        have := List.mem_range.mp hj1
        rw [show j0 = j by omega]
      · exact jm_ent_cong (μ := μ) (ν := jm_wl μ k v) rfl (if_neg hk) _)
    rw [hc.2.2.1] at e
    rw [e]
    show (jm_ws x μ).set q0 (_, .inr (ci, jm_fl x (jm_wl μ k v) k j 0 fs)) = _
    rw [jm_fl_setL hf h1]; rfl
  · exact h.elim
end JF
section JA
variable {x : jm_X} {y : jm_Y} {Q : Option jm_V → jm_M → Prop} {pc : Nat} {K : jm_K} {idx : Nat}
theorem jr_gA (hd : decode y.2.1 pc = .ok (.getstatic idx, 3)) (hw : (y.1.cls, idx) ∈ jm_nestF) (hK : ∀ z, K z → jm_W x y Q (pc + 3) z) : ∀ z, jm_gA K z → jm_W x y Q pc z := by
  intro z h p e s m args below meth c H locs rl hF hP hS hl
  obtain ⟨ls, st, μ⟩ := z
  obtain ⟨hx, hb, hml, hr, hown, hts, hlk, hK1, hZ, hT, hN, hM⟩ := id hF
  exact va_getsN hx hb hZ hS hown (va_Nw.use rfl (hN _ hw)) (fun _ h => h) hd (hK _ h p e s m args below meth c H locs rl hF hP hS hl)
theorem jm_ar_inv {t k j : Nat} (h : jm_ar t k j) (ht : t ≠ 9 := by decide) : ∃ n k' b, jm_kd k = .inl (t, n, k', b) ∧ j < jm_cnt k := by
  obtain ⟨h1, h2⟩ := h
  unfold jm_aty at h1
  cases hk : jm_kd k with
  | inl a =>
    rw [hk] at h1
    obtain ⟨t', n, k', b⟩ := a
    simp only at h1
    subst h1
    exact ⟨n, k', b, rfl, h2⟩
  | inr o => rw [hk] at h1; exact absurd h1.symm ht
theorem jm_len_of {t k n k' b : Nat} (h : jm_kd k = .inl (t, n, k', b)) : jm_len k = n := by unfold jm_len; rw [h]
theorem jm_arr {t k j n k' b : Nat} {μ : jm_M} (ht : t = 0 ∨ t = 1 ∨ t = 2) (hk : k ≠ 0) (h : jm_kd k = .inl (t, n, k', b)) (hj : j < jm_cnt k) : ∃ q0 : Nat, jm_cells[q0]? = some (k, j) ∧ (jm_ws x μ)[q0]? = some (x.2.2.2.1 k j, .inl (x.2.2.2.2 t, n, .inl (μ.1 k j))) := by
  obtain ⟨q0, h1, h2⟩ := jm_at hk hj x μ
  refine ⟨q0, h1, ?_⟩
  rw [h2, h]
  rcases ht with e | e | e <;> subst e <;> rfl
theorem jr_iald (hd : decode y.2.1 pc = .ok (.iaload, 1)) (hK : ∀ z, K z → jm_W x y Q (pc + 1) z) : ∀ z, jm_ald 0 K z → jm_W x y Q pc z := by
  intro z h
  unfold jm_ald at h
  split at h
  · next ls i k j st μ =>
    intro p e s m args below meth c H locs rl hF hP hS hl
    obtain ⟨ha, hi, hk⟩ := h
    obtain ⟨n, k', b, h1, h2⟩ := jm_ar_inv ha
    by_cases h0 : k = 0
    · subst h0
      have hj : j = 0 := by have : jm_cnt 0 = 1 := rfl; omega
      subst hj
      have h5 : jm_len 0 = 5 := rfl
      rw [h5] at hi
      have e0 : μ.1 0 0 i.toNatClampNeg = 0 := hP.2.2 0 _
      rw [e0] at hk
      exact va_ti hF.1 hF.2.1 hF.2.2.2.2.2.2.2.2.2.1 hS hi rfl hd (hK _ hk p e s m args below meth c H locs rl hF hP hS hl)
    · obtain ⟨q0, g1, g2⟩ := jm_arr (x := x) (μ := μ) (Or.inl rfl) h0 h1 h2
      rw [jm_len_of h1] at hi
      exact va_iald hF.1 hF.2.1 hF.2.2.2.2.2.2.2.1 hP.1 q0 0 g2 rfl hi hd (hK _ hk p e s m args below meth c H locs rl hF hP hS hl)
  · exact h.elim
theorem jr_cald (hd : decode y.2.1 pc = .ok (.caload, 1)) (hK : ∀ z, K z → jm_W x y Q (pc + 1) z) : ∀ z, jm_ald 1 K z → jm_W x y Q pc z := by
  intro z h
  unfold jm_ald at h
  split at h
  · next ls i k j st μ =>
    intro p e s m args below meth c H locs rl hF hP hS hl
    obtain ⟨ha, hi, hk⟩ := h
    obtain ⟨n, k', b, h1, h2⟩ := jm_ar_inv ha
    have h0 : k ≠ 0 := fun e0 => by subst e0; exact absurd ha.1 (by decide +kernel)
    obtain ⟨q0, g1, g2⟩ := jm_arr (x := x) (μ := μ) (Or.inr (Or.inl rfl)) h0 h1 h2
    rw [jm_len_of h1] at hi
    exact va_cald hF.1 hF.2.1 hF.2.2.2.2.2.2.2.1 hP.1 q0 1 g2 rfl hi hd (hK _ hk p e s m args below meth c H locs rl hF hP hS hl)
  · exact h.elim
theorem jr_zald (hd : decode y.2.1 pc = .ok (.baload, 1)) (hK : ∀ z, K z → jm_W x y Q (pc + 1) z) : ∀ z, jm_ald 2 K z → jm_W x y Q pc z := by
  intro z h
  unfold jm_ald at h
  split at h
  · next ls i k j st μ =>
    intro p e s m args below meth c H locs rl hF hP hS hl
    obtain ⟨ha, hi, hk⟩ := h
    obtain ⟨n, k', b, h1, h2⟩ := jm_ar_inv ha
    have h0 : k ≠ 0 := fun e0 => by subst e0; exact absurd ha.1 (by decide +kernel)
    obtain ⟨q0, g1, g2⟩ := jm_arr (x := x) (μ := μ) (Or.inr (Or.inr rfl)) h0 h1 h2
    rw [jm_len_of h1] at hi
    exact va_zald hF.1 hF.2.1 hF.2.2.2.2.2.2.2.1 hP.1 q0 2 g2 rfl hi hd (hK _ hk p e s m args below meth c H locs rl hF hP hS hl)
  · exact h.elim
theorem jm_ast_ws {t k j n k' b q0 i' : Nat} {μ : jm_M} {w : Int32} (ht : t = 0 ∨ t = 1 ∨ t = 2) (h : jm_kd k = .inl (t, n, k', b)) (hq : jm_cells[q0]? = some (k, j)) : jm_ws x (jm_w1 μ k j i' w) = (jm_ws x μ).set q0 (x.2.2.2.1 k j, .inl (x.2.2.2.2 t, n, .inl (upd (μ.1 k j) i' w))) := by
  have := jm_ws_wa (x := x) (μ := μ) (upd (μ.1 k j) i' w) hq
  rw [h] at this
  unfold jm_w1
  rw [this]
  rcases ht with e | e | e <;> subst e <;> simp only [jm_ent, jm_wa_same]
theorem jr_iast (hd : decode y.2.1 pc = .ok (.iastore, 1)) (hK : ∀ z, K z → jm_W x y Q (pc + 1) z) : ∀ z, jm_ast 0 K z → jm_W x y Q pc z := by
  intro z h
  unfold jm_ast at h
  split at h
  · next ls v i k j st μ =>
    intro p e s m args below meth c H locs rl hF hP hS hl
    obtain ⟨ha, h0, hi, hk⟩ := h
    obtain ⟨n, k', b, h1, h2⟩ := jm_ar_inv ha
    obtain ⟨q0, g1, g2⟩ := jm_arr (x := x) (μ := μ) (Or.inl rfl) h0 h1 h2
    rw [jm_len_of h1] at hi
    refine va_iast hF.1 hF.2.1 hF.2.2.2.2.2.2.2.1 hP.1 hP.2.1 hS q0 0 g2 rfl hi hd (fun H1 locs1 r1 r2 r3 => ?_)
    rw [← jm_ast_ws (Or.inl rfl) h1 g1] at r1 r2
    exact hK _ hk p e s m args below meth c H1 locs1 rl hF ⟨r1, r2, jm_w1_zero h0 hP.2.2⟩ r3 hl
  · exact h.elim
theorem jr_cast (hd : decode y.2.1 pc = .ok (.castore, 1)) (hK : ∀ z, K z → jm_W x y Q (pc + 1) z) : ∀ z, jm_ast 1 K z → jm_W x y Q pc z := by
  intro z h
  unfold jm_ast at h
  split at h
  · next ls v i k j st μ =>
    intro p e s m args below meth c H locs rl hF hP hS hl
    obtain ⟨ha, h0, hi, hk⟩ := h
    obtain ⟨n, k', b, h1, h2⟩ := jm_ar_inv ha
    obtain ⟨q0, g1, g2⟩ := jm_arr (x := x) (μ := μ) (Or.inr (Or.inl rfl)) h0 h1 h2
    rw [jm_len_of h1] at hi
    refine va_cast hF.1 hF.2.1 hF.2.2.2.2.2.2.2.1 hP.1 hP.2.1 hS q0 1 g2 rfl hi hd (fun H1 locs1 r1 r2 r3 => ?_)
    rw [← jm_ast_ws (Or.inr (Or.inl rfl)) h1 g1] at r1 r2
    exact hK _ hk p e s m args below meth c H1 locs1 rl hF ⟨r1, r2, jm_w1_zero h0 hP.2.2⟩ r3 hl
  · exact h.elim
theorem jr_zast (hd : decode y.2.1 pc = .ok (.bastore, 1)) (hK : ∀ z, K z → jm_W x y Q (pc + 1) z) : ∀ z, jm_ast 2 K z → jm_W x y Q pc z := by
  intro z h
  unfold jm_ast at h
  split at h
  · next ls v i k j st μ =>
    intro p e s m args below meth c H locs rl hF hP hS hl
    obtain ⟨ha, h0, hi, hk⟩ := h
    obtain ⟨n, k', b, h1, h2⟩ := jm_ar_inv ha
    obtain ⟨q0, g1, g2⟩ := jm_arr (x := x) (μ := μ) (Or.inr (Or.inr rfl)) h0 h1 h2
    rw [jm_len_of h1] at hi
    refine va_zast hF.1 hF.2.1 hF.2.2.2.2.2.2.2.1 hP.1 hP.2.1 hS q0 2 g2 rfl hi hd (fun H1 locs1 r1 r2 r3 => ?_)
    rw [← jm_ast_ws (Or.inr (Or.inr rfl)) h1 g1] at r1 r2
    exact hK _ hk p e s m args below meth c H1 locs1 rl hF ⟨r1, r2, jm_w1_zero h0 hP.2.2⟩ r3 hl
  · exact h.elim
theorem jr_aal (hd : decode y.2.1 pc = .ok (.aaload, 1)) (hK : ∀ z, K z → jm_W x y Q (pc + 1) z) : ∀ z, jm_aal K z → jm_W x y Q pc z := by
  intro z h
  unfold jm_aal at h
  split at h
  · next ls i k j st μ =>
    intro p e s m args below meth c H locs rl hF hP hS hl
    obtain ⟨ha, hi, hk⟩ := h
    obtain ⟨n, k', b, h1, h2⟩ := jm_ar_inv ha
    have h0 : k ≠ 0 := fun e0 => by subst e0; exact absurd ha.1 (by decide +kernel)
    obtain ⟨q0, g1, g2⟩ := jm_at h0 h2 x μ
    rw [h1] at g2
    rw [jm_len_of h1] at hi
    have er : jm_ra k i.toNatClampNeg = (k', b + i.toNatClampNeg) := by unfold jm_ra; rw [h1]
    rw [er] at hk
    exact va_aldq hF.1 hF.2.1 hF.2.2.2.2.2.2.2.1 hP.1 q0 3 g2 rfl hi hd (hK _ hk p e s m args below meth c H locs rl hF hP hS hl)
  · exact h.elim
theorem jr_alen (hd : decode y.2.1 pc = .ok (.arraylength, 1)) (hK : ∀ z, K z → jm_W x y Q (pc + 1) z) : ∀ z, jm_alen K z → jm_W x y Q pc z := by
  intro z h
  unfold jm_alen at h
  split at h
  · next ls k j st μ =>
    intro p e s m args below meth c H locs rl hF hP hS hl
    obtain ⟨ha, hk⟩ := h
    obtain ⟨n, k', b, h1, h2⟩ := jm_ar_inv ha
    rw [jm_len_of h1] at hk
    by_cases h0 : k = 0
    · subst h0
      have hj : j = 0 := by have : jm_cnt 0 = 1 := rfl; omega
      subst hj
      have h5 : n = 5 := (jm_len_of h1).symm.trans rfl
      subst h5
      exact va_tlen hF.1 hF.2.1 hF.2.2.2.2.2.2.2.2.2.1 hS rfl hd (hK _ hk p e s m args below meth c H locs rl hF hP hS hl)
    · obtain ⟨q0, g1, g2⟩ := jm_arr (x := x) (μ := μ) (Or.inl rfl) h0 h1 h2
      exact va_alen hF.1 hF.2.1 hF.2.2.2.2.2.2.2.1 hP.1 q0 0 g2 (ty := .int) rfl rfl hd (hK _ hk p e s m args below meth c H locs rl hF hP hS hl)
  · exact h.elim
theorem jm_sm_eq : ∀ st : List jm_V, ((st.map (jm_tr x)).map fun v => v.category).sum = jm_sm st
  | [] => rfl
  | .inl _ :: l => by simp only [List.map_cons, List.sum_cons, jm_sm, jm_sm_eq l]; rfl
  | .inr (.inl _) :: l => by simp only [List.map_cons, List.sum_cons, jm_sm, jm_sm_eq l]; rfl
  | .inr (.inr _) :: l => by simp only [List.map_cons, List.sum_cons, jm_sm, jm_sm_eq l]; rfl
end JA
