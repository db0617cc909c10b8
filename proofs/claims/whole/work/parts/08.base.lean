/-! methods that answer at once: as instructions -/
def jm_p1 (f : Int32 → Int32) (K : jm_K) : jm_K
  | (ls, .inl a :: st, μ) => jm_sm st ≤ 8 ∧ K (ls, .inl (f a) :: st, μ)
  | _ => False
def jm_p2 (f : Int32 → Int32 → Int32) (K : jm_K) : jm_K
  | (ls, .inl b :: .inl a :: st, μ) => jm_sm st ≤ 8 ∧ K (ls, .inl (f a b) :: st, μ)
  | _ => False
def jm_p3 (f : Int32 → Int32 → Int32 → Int32) (K : jm_K) : jm_K
  | (ls, .inl c :: .inl b :: .inl a :: st, μ) => jm_sm st ≤ 8 ∧ K (ls, .inl (f a b c) :: st, μ)
  | _ => False
def jm_m1 (k n : Nat) (f : Nat → jm_M → Int32) (K : jm_K) : jm_K
  | (ls, .inr (.inr (a, j)) :: st, μ) => a = k ∧ j < n ∧ jm_sm st ≤ 8 ∧ K (ls, .inl (f j μ) :: st, μ)
  | _ => False
def jm_m2 (k n : Nat) (f : Nat → jm_M → Int32 → Int32) (K : jm_K) : jm_K
  | (ls, .inl b :: .inr (.inr (a, j)) :: st, μ) => a = k ∧ j < n ∧ jm_sm st ≤ 8 ∧ K (ls, .inl (f j μ b) :: st, μ)
  | _ => False
def jb (c : Prop) [Decidable c] : Int32 := if c then nI 1 else nI 0
theorem jb_0 (c : Prop) [Decidable c] : (jb c = 0) = ¬ c := by
  unfold jb; by_cases h : c <;> simp [h, show (nI 1 = 1) = True by decide, show (nI 1 = 0) = False by decide, show (nI 0 = 1) = False by decide, show (nI 0 = 0) = True by decide]
theorem jb_1 (c : Prop) [Decidable c] : (jb c = 1) = c := by
  unfold jb; by_cases h : c <;> simp [h, show (nI 1 = 1) = True by decide, show (nI 1 = 0) = False by decide, show (nI 0 = 1) = False by decide, show (nI 0 = 0) = True by decide]
theorem jb_01 (c : Prop) [Decidable c] : (jb c = 0 ∨ jb c = 1) = True := by
  unfold jb; by_cases h : c <;> simp [h, show (nI 1 = 1) = True by decide, show (nI 1 = 0) = False by decide, show (nI 0 = 1) = False by decide, show (nI 0 = 0) = True by decide]
theorem jb_em (p : Prop) : (¬ p ∨ p) = True := eq_true (Or.symm (Classical.em p))
theorem jz_1 : (nI 1 = 0 ∨ nI 1 = 1) = True := by decide
theorem jz_0 : (nI 0 = 0 ∨ nI 0 = 1) = True := by decide
theorem ji_nI {n N : Nat} (h : n < N) (hN : N < 2 ^ 31) : vp_in (nI n) N = True := eq_true (vp_in_nI h hN)
theorem jt_nI {n : Nat} (h : n < 2 ^ 31) : (nI n).toNatClampNeg = n := nI_clamp h
theorem ja_nI (a b : Nat) : nI a + nI b = nI (a + b) := nI_add a b
theorem jm_nI (a b : Nat) : nI a * nI b = nI (a * b) := (Int32.ofNat_mul a b).symm
theorem jlt_nI {a b : Nat} (ha : a < 2 ^ 31) (hb : b < 2 ^ 31) : (nI a < nI b) = (a < b) := propext (nI_ltI ha hb)
theorem jle_nI {a b : Nat} (ha : a < 2 ^ 31) (hb : b < 2 ^ 31) : (nI a ≤ nI b) = (a ≤ b) := propext (nI_leI ha hb)
theorem jeq_nI {a b : Nat} (ha : a < 2 ^ 31) (hb : b < 2 ^ 31) : (nI a = nI b) = (a = b) := propext (nI_eq ha hb)
theorem jeq0 {a : Nat} (ha : a < 2 ^ 31) : (nI a = 0) = (a = 0) := by rw [← nI_0, jeq_nI ha (by decide)]
theorem jeq1 {a : Nat} (ha : a < 2 ^ 31) : (nI a = 1) = (a = 1) := by rw [show (1 : Int32) = nI 1 by decide, jeq_nI ha (by decide)]
theorem jlt0 {a : Nat} (ha : a < 2 ^ 31) : (nI a < 0) = False := eq_false (nI_pos ha)
theorem jge0 {a : Nat} (ha : a < 2 ^ 31) : (0 ≤ nI a) = True := eq_true (nI_pos' ha)
theorem jgt0 {a : Nat} (ha : a < 2 ^ 31) : (0 < nI a) = (0 < a) := by rw [← nI_0, jlt_nI (by decide) ha]
theorem jle0 {a : Nat} (ha : a < 2 ^ 31) : (nI a ≤ 0) = (a = 0) := by rw [← nI_0, jle_nI ha (by decide)]; exact propext Nat.le_zero
theorem jdec {a : Nat} (ha : 0 < a) : nI a + (-1) = nI (a - 1) := by
  obtain ⟨b, rfl⟩ : ∃ b, a = b + 1 := ⟨a - 1, by omega⟩
  have h : (-1 : Int32) = Int32.ofInt (-1) := by decide
  have e : ∀ n : Nat, nI n = Int32.ofInt (n : Int) := fun n => rfl
  rw [h, e, e, ← Int32.ofInt_add]
  congr 1
  omega
theorem jsub_nI {a b : Nat} (h : b ≤ a) : nI a - nI b = nI (a - b) := by
  have e : ∀ n : Nat, nI n = Int32.ofInt (n : Int) := fun n => rfl
  rw [e, e, e, ← Int32.ofInt_sub]
  congr 1
  omega
theorem jb_t {c : Prop} [Decidable c] (h : c) : jb c = nI 1 := if_pos h
theorem jb_f {c : Prop} [Decidable c] (h : ¬ c) : jb c = nI 0 := if_neg h
def jp_in (v lo hi : Int32) : Int32 := jb (lo ≤ v ∧ v ≤ hi)
def jp_dig (c : Int32) : Int32 := jb (nI 48 ≤ c ∧ c ≤ nI 57)
def jp_let (c : Int32) : Int32 := jb (c = nI 98 ∨ c = nI 112 ∨ c = nI 109 ∨ c = nI 119 ∨ c = nI 102 ∨ c = nI 110 ∨ c = nI 114)
def jp_max (a b : Int32) : Int32 := if a < b then b else a
def jp_min (a b : Int32) : Int32 := if b < a then b else a
def jp_sav (a b : Int32) : Int32 := jp_max (-9999) (jp_min (nI 9999) (a + b))
def jp_bc1 (a : Int32) : Int32 := a - (jm_ushr a (nI 1) &&& nI 1431655765)
def jp_bc2 (a : Int32) : Int32 := (a &&& nI 858993459) + (jm_ushr a (nI 2) &&& nI 858993459)
def jp_bc3 (a : Int32) : Int32 := (a + jm_ushr a (nI 4)) &&& nI 252645135
def jp_bc4 (a : Int32) : Int32 := a + jm_ushr a (nI 8)
def jp_bc5 (a : Int32) : Int32 := (a + jm_ushr a (nI 16)) &&& nI 63
def jp_bc (a : Int32) : Int32 := jp_bc5 (jp_bc4 (jp_bc3 (jp_bc2 (jp_bc1 a))))
def jp_onesL (a : Int32) : Nat → Int32
  | 0 => nI 0
  | k + 1 => jp_onesL a k + (a >>> (nI k &&& 31) &&& nI 1)
def jp_ones (a : Int32) : Int32 := jp_onesL a 12
def jp_runL : Nat → Int32 → Int32 → Int32
  | 0, r, _ => r
  | n + 1, r, e => if e = 0 then r else if nI 12 ≤ r then r else jp_runL n (r + nI 1) (e &&& e >>> (nI 1 &&& 31))
def jp_run (a : Int32) : Int32 := jp_runL 12 (nI 0) a
def jp_hPa (j : Nat) (μ : jm_M) (p : Int32) : Int32 := jb (0 ≤ p ∧ p < μ.1 8 j 3)
def jp_hPl (j : Nat) (μ : jm_M) (p : Int32) : Int32 := jb (0 ≤ p ∧ p < μ.1 8 j 4)
def jp_hBa (j : Nat) (μ : jm_M) (p : Int32) : Int32 := jb (0 ≤ p ∧ p < μ.1 8 j 0)
def jp_aB (j : Nat) (μ : jm_M) : Int32 := nI 1 <<< (μ.1 8 j 0 &&& 31) - nI 1
def jp_iPa (j : Nat) (μ : jm_M) (p : Int32) : Int32 := jp_in p (nI 0) (μ.1 34 j 0 - nI 1)
def jp_iPl (j : Nat) (μ : jm_M) (p : Int32) : Int32 := jp_in p (nI 0) (μ.1 34 j 1 - nI 1)
def jp_mB (j : Nat) (μ : jm_M) : Int32 := nI 1 <<< (μ.1 34 j 2 &&& 31) - nI 1
def jp_well (j : Nat) (μ : jm_M) : Int32 := jb (μ.1 10 j 8 < 0)
def jp_room (j : Nat) (μ : jm_M) : Int32 := jb (μ.1 4 j 1 < nI 200)
section JP
variable {x : jm_X} {y y' : jm_Y} {Q : Option jm_V → jm_M → Prop} {pc : Nat} {K : jm_K} {idx n : Nat}
theorem jr_s1p {f : Int32 → Int32} (hc : ∀ {x : jm_X} {a : Int32} {μ : jm_M} {Q : Option jm_V → jm_M → Prop}, Q (some (.inl (f a))) μ → jm_C x y' [.inl a] μ Q) (hd : decode y.2.1 pc = .ok (.invokestatic idx, 3)) (hf : jm_cf y y' 1) (hl : Cond.methodLink y.1.cls idx y'.1 ∈ jm_big) (hi : Cond.static y'.1 ∈ jm_big) (hK : ∀ z, K z → jm_W x y Q (pc + 3) z) : ∀ z, jm_p1 f K z → jm_W x y Q pc z := by
  intro z h
  unfold jm_p1 at h
  split at h
  · next ls a st μ => exact jr_s1 hd hf hl hi hK _ (by unfold jm_c1; exact ⟨h.1, hc h.2⟩)
  · exact h.elim
theorem jr_n1p {f : Int32 → Int32} (hc : ∀ {x : jm_X} {a : Int32} {μ : jm_M} {Q : Option jm_V → jm_M → Prop}, Q (some (.inl (f a))) μ → jm_C x y' [.inl a] μ Q) (hd : decode y.2.1 pc = .ok (.invokestatic idx, 3)) (hf : jm_cf y y' 1) (hl : (y.1.cls, idx, y'.1) ∈ jm_nestM) (hi : Cond.static y'.1 ∈ jm_big) (hK : ∀ z, K z → jm_W x y Q (pc + 3) z) : ∀ z, jm_p1 f K z → jm_W x y Q pc z := by
  intro z h
  unfold jm_p1 at h
  split at h
  · next ls a st μ => exact jr_n1 hd hf hl hi hK _ (by unfold jm_c1; exact ⟨h.1, hc h.2⟩)
  · exact h.elim
theorem jr_s2p {f : Int32 → Int32 → Int32} (hc : ∀ {x : jm_X} {a b : Int32} {μ : jm_M} {Q : Option jm_V → jm_M → Prop}, Q (some (.inl (f a b))) μ → jm_C x y' [.inl a, .inl b] μ Q) (hd : decode y.2.1 pc = .ok (.invokestatic idx, 3)) (hf : jm_cf y y' 2) (hl : Cond.methodLink y.1.cls idx y'.1 ∈ jm_big) (hi : Cond.static y'.1 ∈ jm_big) (hK : ∀ z, K z → jm_W x y Q (pc + 3) z) : ∀ z, jm_p2 f K z → jm_W x y Q pc z := by
  intro z h
  unfold jm_p2 at h
  split at h
  · next ls b a st μ => exact jr_s2 hd hf hl hi hK _ (by unfold jm_c2; exact ⟨h.1, hc h.2⟩)
  · exact h.elim
theorem jr_n2p {f : Int32 → Int32 → Int32} (hc : ∀ {x : jm_X} {a b : Int32} {μ : jm_M} {Q : Option jm_V → jm_M → Prop}, Q (some (.inl (f a b))) μ → jm_C x y' [.inl a, .inl b] μ Q) (hd : decode y.2.1 pc = .ok (.invokestatic idx, 3)) (hf : jm_cf y y' 2) (hl : (y.1.cls, idx, y'.1) ∈ jm_nestM) (hi : Cond.static y'.1 ∈ jm_big) (hK : ∀ z, K z → jm_W x y Q (pc + 3) z) : ∀ z, jm_p2 f K z → jm_W x y Q pc z := by
  intro z h
  unfold jm_p2 at h
  split at h
  · next ls b a st μ => exact jr_n2 hd hf hl hi hK _ (by unfold jm_c2; exact ⟨h.1, hc h.2⟩)
  · exact h.elim
theorem jr_s3p {f : Int32 → Int32 → Int32 → Int32} (hc : ∀ {x : jm_X} {a b c : Int32} {μ : jm_M} {Q : Option jm_V → jm_M → Prop}, Q (some (.inl (f a b c))) μ → jm_C x y' [.inl a, .inl b, .inl c] μ Q) (hd : decode y.2.1 pc = .ok (.invokestatic idx, 3)) (hf : jm_cf y y' 3) (hl : Cond.methodLink y.1.cls idx y'.1 ∈ jm_big) (hi : Cond.static y'.1 ∈ jm_big) (hK : ∀ z, K z → jm_W x y Q (pc + 3) z) : ∀ z, jm_p3 f K z → jm_W x y Q pc z := by
  intro z h
  unfold jm_p3 at h
  split at h
  · next ls c b a st μ => exact jr_s3 hd hf hl hi hK _ (by unfold jm_c3; exact ⟨h.1, hc h.2⟩)
  · exact h.elim
theorem jr_n3p {f : Int32 → Int32 → Int32 → Int32} (hc : ∀ {x : jm_X} {a b c : Int32} {μ : jm_M} {Q : Option jm_V → jm_M → Prop}, Q (some (.inl (f a b c))) μ → jm_C x y' [.inl a, .inl b, .inl c] μ Q) (hd : decode y.2.1 pc = .ok (.invokestatic idx, 3)) (hf : jm_cf y y' 3) (hl : (y.1.cls, idx, y'.1) ∈ jm_nestM) (hi : Cond.static y'.1 ∈ jm_big) (hK : ∀ z, K z → jm_W x y Q (pc + 3) z) : ∀ z, jm_p3 f K z → jm_W x y Q pc z := by
  intro z h
  unfold jm_p3 at h
  split at h
  · next ls c b a st μ => exact jr_n3 hd hf hl hi hK _ (by unfold jm_c3; exact ⟨h.1, hc h.2⟩)
  · exact h.elim
theorem jr_v1p {k nk : Nat} {f : Nat → jm_M → Int32} (hc : ∀ {x : jm_X} {j : Nat} {μ : jm_M} {Q : Option jm_V → jm_M → Prop}, j < nk → Q (some (.inl (f j μ))) μ → jm_C x y' [.inr (.inr (k, j))] μ Q) {ci : Nat} {fs : List (Nat × Nat × Nat)} {C : String} {T : u_T} {N : Nat} {ty : Nat → FieldType} (hcl : jm_cls k nk ci fs C T N ty) (hd : decode y.2.1 pc = .ok (.invokevirtual idx, 3)) (hf : jm_cf y y' 0) (hl : Cond.methodLink y.1.cls idx y'.1 ∈ jm_big) (hi : Cond.instanceMethod y'.1 ∈ jm_big) (hs : Cond.selects C y'.1 y'.1 ∈ jm_big) (hK : ∀ z, K z → jm_W x y Q (pc + 3) z) : ∀ z, jm_m1 k nk f K z → jm_W x y Q pc z := by
  intro z h
  unfold jm_m1 at h
  split at h
  · next ls a j st μ => exact jr_v1 hcl hd hf hl hi hs hK _ (by unfold jm_v1; exact ⟨h.1, h.2.1, h.2.2.1, hc h.2.1 h.2.2.2⟩)
  · exact h.elim
theorem jr_v2p {k nk : Nat} {f : Nat → jm_M → Int32 → Int32} (hc : ∀ {x : jm_X} {j : Nat} {b : Int32} {μ : jm_M} {Q : Option jm_V → jm_M → Prop}, j < nk → Q (some (.inl (f j μ b))) μ → jm_C x y' [.inr (.inr (k, j)), .inl b] μ Q) {ci : Nat} {fs : List (Nat × Nat × Nat)} {C : String} {T : u_T} {N : Nat} {ty : Nat → FieldType} (hcl : jm_cls k nk ci fs C T N ty) (hd : decode y.2.1 pc = .ok (.invokevirtual idx, 3)) (hf : jm_cf y y' 1) (hl : Cond.methodLink y.1.cls idx y'.1 ∈ jm_big) (hi : Cond.instanceMethod y'.1 ∈ jm_big) (hs : Cond.selects C y'.1 y'.1 ∈ jm_big) (hK : ∀ z, K z → jm_W x y Q (pc + 3) z) : ∀ z, jm_m2 k nk f K z → jm_W x y Q pc z := by
  intro z h
  unfold jm_m2 at h
  split at h
  · next ls b a j st μ => exact jr_v2 hcl hd hf hl hi hs hK _ (by unfold jm_v2; exact ⟨h.1, h.2.1, h.2.2.1, hc h.2.1 h.2.2.2⟩)
  · exact h.elim
theorem jr_max (hd : decode y.2.1 pc = .ok (.invokestatic idx, 3)) (hl : Cond.methodLink y.1.cls idx Lib.Math.max.name ∈ jm_big) (hs : Cond.static Lib.Math.max.name ∈ jm_big) (hi : Cond.initialized "java/lang/Math" ∈ jm_big) (hc : Cond.code Lib.Math.max.name Lib.Math.max.code 2 (some .int) ∈ jm_big) (hdp : 1 ≤ y.2.2.2.2) (hK : ∀ z, K z → jm_W x y Q (pc + 3) z) : ∀ z, jm_p2 jp_max K z → jm_W x y Q pc z := by
  intro z h
  unfold jm_p2 at h
  split at h
  · next ls b a st μ =>
    intro p e s m args below meth c H locs rl hF hP hS hlh
    have hts := hF.2.2.2.2.2.1
    refine va_mmax hF.1 hF.2.1 (hF.2.2.1.trans hlh.1.symm) hF.2.2.2.2.1 (hts _ hl) (hts _ hs) (hts _ hi) (hts _ hc) hdp ?_ (Nat.le_refl _) (Nat.le_refl _) hd (hK _ h.2 p e s m args below meth c H locs rl hF hP hS hlh)
    rw [jm_sm_eq]
    show jm_sm st + 13 ≤ 34 * y.2.2.2.2
    have := h.1
    omega
  · exact h.elim
theorem jr_min (hd : decode y.2.1 pc = .ok (.invokestatic idx, 3)) (hl : Cond.methodLink y.1.cls idx Lib.Math.min.name ∈ jm_big) (hs : Cond.static Lib.Math.min.name ∈ jm_big) (hi : Cond.initialized "java/lang/Math" ∈ jm_big) (hc : Cond.code Lib.Math.min.name Lib.Math.min.code 2 (some .int) ∈ jm_big) (hdp : 1 ≤ y.2.2.2.2) (hK : ∀ z, K z → jm_W x y Q (pc + 3) z) : ∀ z, jm_p2 jp_min K z → jm_W x y Q pc z := by
  intro z h
  unfold jm_p2 at h
  split at h
  · next ls b a st μ =>
    intro p e s m args below meth c H locs rl hF hP hS hlh
    have hts := hF.2.2.2.2.2.1
    refine va_mmin hF.1 hF.2.1 (hF.2.2.1.trans hlh.1.symm) hF.2.2.2.2.1 (hts _ hl) (hts _ hs) (hts _ hi) (hts _ hc) hdp ?_ (Nat.le_refl _) (Nat.le_refl _) hd (hK _ h.2 p e s m args below meth c H locs rl hF hP hS hlh)
    rw [jm_sm_eq]
    show jm_sm st + 13 ≤ 34 * y.2.2.2.2
    have := h.1
    omega
  · exact h.elim
end JP
def jm_cat1 : jm_V → Bool
  | .inr (.inl _) => false
  | _ => true
theorem jm_C_of2 {x : jm_X} {y : jm_Y} {as : List jm_V} {μ : jm_M} {Q : Option jm_V → jm_M → Prop} {n : Nat} (hy : plainName y.1.cls = true) (hn : as.length ≤ y.2.2.1) (hc : as.all jm_cat1 = true) (hp : y.2.2.1 - as.length = n)
    (h : jm_W x y Q 0 (as.map some ++ List.replicate n none, [], μ)) : jm_C x y as μ Q := by
  subst hp
  refine jm_C_of hy hn (fun v hv => ?_) h
  have := List.all_eq_true.mp hc v hv
  match v, this with
  | .inl _, _ => rfl
  | .inr (.inr _), _ => rfl
