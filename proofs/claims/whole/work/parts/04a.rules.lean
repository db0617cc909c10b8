/-! rules, laid by gen/rules.py -/
def jm_ushr (x y : Int32) : Int32 := (x.toUInt32 >>> (y.toUInt32 &&& Int32.toUInt32 31)).toInt32
theorem jr_iconst {x : jm_X} {y : jm_Y} {Q : Option jm_V → jm_M → Prop} {pc : Nat} {K : jm_K} {n : Int} {v : Int32} (hd : decode y.2.1 pc = .ok (.iconst n, 1)) (hv : Int32.ofInt n = v) (hK : ∀ z, K z → jm_W x y Q (pc + 1) z) : ∀ z, jm_ic v K z → jm_W x y Q pc z := by
  intro z h p e s m args below meth c H locs rl hF hP hS hl
  obtain ⟨ls, st, μ⟩ := z
  exact lv_iconst hF.1 hF.2.1 hd hv (hK _ h p e s m args below meth c H locs rl hF hP hS hl)
theorem jr_bipush {x : jm_X} {y : jm_Y} {Q : Option jm_V → jm_M → Prop} {pc : Nat} {K : jm_K} {n : Int} {v : Int32} (hd : decode y.2.1 pc = .ok (.bipush n, 2)) (hv : (Int8.ofInt n).toInt32 = v) (hK : ∀ z, K z → jm_W x y Q (pc + 2) z) : ∀ z, jm_ic v K z → jm_W x y Q pc z := by
  intro z h p e s m args below meth c H locs rl hF hP hS hl
  obtain ⟨ls, st, μ⟩ := z
  exact lv_bipush hF.1 hF.2.1 hd hv (hK _ h p e s m args below meth c H locs rl hF hP hS hl)
theorem jr_sipush {x : jm_X} {y : jm_Y} {Q : Option jm_V → jm_M → Prop} {pc : Nat} {K : jm_K} {n : Int} {v : Int32} (hd : decode y.2.1 pc = .ok (.sipush n, 3)) (hv : (Int16.ofInt n).toInt32 = v) (hK : ∀ z, K z → jm_W x y Q (pc + 3) z) : ∀ z, jm_ic v K z → jm_W x y Q pc z := by
  intro z h p e s m args below meth c H locs rl hF hP hS hl
  obtain ⟨ls, st, μ⟩ := z
  exact lv_sipush hF.1 hF.2.1 hd hv (hK _ h p e s m args below meth c H locs rl hF hP hS hl)
theorem jr_ldc {x : jm_X} {y : jm_Y} {Q : Option jm_V → jm_M → Prop} {pc : Nat} {K : jm_K} {n : Nat} {v : Int32} (hd : decode y.2.1 pc = .ok (.ldc n, 2)) (hv : Cond.constant y.1.cls n v ∈ jm_big) (hK : ∀ z, K z → jm_W x y Q (pc + 2) z) : ∀ z, jm_ic v K z → jm_W x y Q pc z := by
  intro z h p e s m args below meth c H locs rl hF hP hS hl
  obtain ⟨ls, st, μ⟩ := z
  exact lv_ldc hF.1 hF.2.1 hF.2.2.2.2.1 (hF.2.2.2.2.2.1 _ hv) hd (hK _ h p e s m args below meth c H locs rl hF hP hS hl)
theorem jr_ldcw {x : jm_X} {y : jm_Y} {Q : Option jm_V → jm_M → Prop} {pc : Nat} {K : jm_K} {n : Nat} {v : Int32} (hd : decode y.2.1 pc = .ok (.ldc_w n, 3)) (hv : Cond.constant y.1.cls n v ∈ jm_big) (hK : ∀ z, K z → jm_W x y Q (pc + 3) z) : ∀ z, jm_ic v K z → jm_W x y Q pc z := by
  intro z h p e s m args below meth c H locs rl hF hP hS hl
  obtain ⟨ls, st, μ⟩ := z
  exact lv_ldcw hF.1 hF.2.1 hF.2.2.2.2.1 (hF.2.2.2.2.2.1 _ hv) hd (hK _ h p e s m args below meth c H locs rl hF hP hS hl)
theorem jr_ldc2 {x : jm_X} {y : jm_Y} {Q : Option jm_V → jm_M → Prop} {pc : Nat} {K : jm_K} {n : Nat} {v : Int64} (hd : decode y.2.1 pc = .ok (.ldc2_w n, 3)) (hv : Cond.constantLong y.1.cls n v ∈ jm_big) (hK : ∀ z, K z → jm_W x y Q (pc + 3) z) : ∀ z, jm_lc v K z → jm_W x y Q pc z := by
  intro z h p e s m args below meth c H locs rl hF hP hS hl
  obtain ⟨ls, st, μ⟩ := z
  exact lv_ldc2 hF.1 hF.2.1 hF.2.2.2.2.1 (hF.2.2.2.2.2.1 _ hv) hd (hK _ h p e s m args below meth c H locs rl hF hP hS hl)
theorem jr_lconst {x : jm_X} {y : jm_Y} {Q : Option jm_V → jm_M → Prop} {pc : Nat} {K : jm_K} {n : Fin 2} {v : Int64} (hd : decode y.2.1 pc = .ok (.lconst n, 1)) (hv : Int64.ofNat (n : Nat) = v) (hK : ∀ z, K z → jm_W x y Q (pc + 1) z) : ∀ z, jm_lc v K z → jm_W x y Q pc z := by
  intro z h p e s m args below meth c H locs rl hF hP hS hl
  obtain ⟨ls, st, μ⟩ := z
  exact lv_lconst hF.1 hF.2.1 hd hv (hK _ h p e s m args below meth c H locs rl hF hP hS hl)
theorem jr_iload_n {x : jm_X} {y : jm_Y} {Q : Option jm_V → jm_M → Prop} {pc : Nat} {K : jm_K} {k : Fin 4} {i : Nat} (hd : decode y.2.1 pc = .ok (.iload_n k, 1)) (hi : (k : Nat) = i) (hK : ∀ z, K z → jm_W x y Q (pc + 1) z) : ∀ z, jm_il i K z → jm_W x y Q pc z := by
  intro z h
  obtain ⟨ls, st, μ⟩ := z
  unfold jm_il at h
  dsimp only at h
  unfold jm_il2 at h
  split at h
  · next v hv =>
    intro p e s m args below meth c H locs rl hF hP hS hl
    exact lv_iload_n hF.1 hF.2.1 hd hi (hl.2.2 i _ (jm_nth_get _ _ _ hv)).1 (hK _ h p e s m args below meth c H locs rl hF hP hS hl)
  · exact h.elim
theorem jr_iload {x : jm_X} {y : jm_Y} {Q : Option jm_V → jm_M → Prop} {pc : Nat} {K : jm_K} {i : Nat} (hd : decode y.2.1 pc = .ok (.iload i, 2)) (hK : ∀ z, K z → jm_W x y Q (pc + 2) z) : ∀ z, jm_il i K z → jm_W x y Q pc z := by
  intro z h
  obtain ⟨ls, st, μ⟩ := z
  unfold jm_il at h
  dsimp only at h
  unfold jm_il2 at h
  split at h
  · next v hv =>
    intro p e s m args below meth c H locs rl hF hP hS hl
    exact lv_iload hF.1 hF.2.1 hd (hl.2.2 i _ (jm_nth_get _ _ _ hv)).1 (hK _ h p e s m args below meth c H locs rl hF hP hS hl)
  · exact h.elim
theorem jr_aload_n {x : jm_X} {y : jm_Y} {Q : Option jm_V → jm_M → Prop} {pc : Nat} {K : jm_K} {k : Fin 4} {i : Nat} (hd : decode y.2.1 pc = .ok (.aload_n k, 1)) (hi : (k : Nat) = i) (hK : ∀ z, K z → jm_W x y Q (pc + 1) z) : ∀ z, jm_al i K z → jm_W x y Q pc z := by
  intro z h
  obtain ⟨ls, st, μ⟩ := z
  unfold jm_al at h
  dsimp only at h
  unfold jm_al2 at h
  split at h
  · next v hv =>
    intro p e s m args below meth c H locs rl hF hP hS hl
    exact lv_aload_n hF.1 hF.2.1 hd hi (hl.2.2 i _ (jm_nth_get _ _ _ hv)).1 (hK _ h p e s m args below meth c H locs rl hF hP hS hl)
  · exact h.elim
theorem jr_aload {x : jm_X} {y : jm_Y} {Q : Option jm_V → jm_M → Prop} {pc : Nat} {K : jm_K} {i : Nat} (hd : decode y.2.1 pc = .ok (.aload i, 2)) (hK : ∀ z, K z → jm_W x y Q (pc + 2) z) : ∀ z, jm_al i K z → jm_W x y Q pc z := by
  intro z h
  obtain ⟨ls, st, μ⟩ := z
  unfold jm_al at h
  dsimp only at h
  unfold jm_al2 at h
  split at h
  · next v hv =>
    intro p e s m args below meth c H locs rl hF hP hS hl
    exact lv_aload hF.1 hF.2.1 hd (hl.2.2 i _ (jm_nth_get _ _ _ hv)).1 (hK _ h p e s m args below meth c H locs rl hF hP hS hl)
  · exact h.elim
theorem jm_lh_has {x : jm_X} {rl : Array Slot} {n : Nat} {ls : List (Option jm_V)} (h : jm_lh x rl n ls) : ∃ lv : List (Nat × Value), lv_has rl n lv ∧ ∀ (i : Nat) (v : jm_V), ls[i]? = some (some v) → (i, jm_tr x v) ∈ lv ∧ (jm_tr x v).category = 1 := by
  refine ⟨(List.range ls.length).filterMap (fun i => match ls[i]? with
    | some (some v) => some (i, jm_tr x v)
    | _ => none), ⟨h.1, h.2.1, fun q hq => ?_⟩, fun i v hv => ⟨List.mem_filterMap.mpr ⟨i, List.mem_range.mpr (List.getElem?_eq_some_iff.mp hv).1, by rw [hv]⟩, (h.2.2 i v hv).2⟩⟩
  obtain ⟨i, -, hi⟩ := List.mem_filterMap.mp hq
  split at hi
  · next v hv => cases hi; exact (h.2.2 i v hv).1
  · cases hi
theorem jm_lh_set {x : jm_X} {rl : Array Slot} {n i : Nat} {ls : List (Option jm_V)} {lv : List (Nat × Value)} {v : jm_V} (hc : (jm_tr x v).category = 1) (h0 : ∀ (i : Nat) (v : jm_V), ls[i]? = some (some v) → (i, jm_tr x v) ∈ lv ∧ (jm_tr x v).category = 1)
    (h : lv_has rl n ((i, jm_tr x v) :: lv.filter (fun q => !(q.1 == i) && !(q.1 + 1 == i && q.2.category == 2)))) : jm_lh x rl n (jm_put ls i v) := by
  refine ⟨h.1, h.2.1, fun j w hw => ?_⟩
  rcases jm_put_get ls i v j w hw with ⟨rfl, rfl⟩ | ⟨hne, hj⟩
  · exact ⟨h.2.2 _ List.mem_cons_self, hc⟩
  · obtain ⟨h1, h2⟩ := h0 j w hj
    refine ⟨h.2.2 (j, jm_tr x w) (List.mem_cons_of_mem _ (List.mem_filter.mpr ⟨h1, ?_⟩)), h2⟩
    simp [hne, h2]
theorem jr_istore_n {x : jm_X} {y : jm_Y} {Q : Option jm_V → jm_M → Prop} {pc : Nat} {K : jm_K} {k : Fin 4} {i : Nat} (hd : decode y.2.1 pc = .ok (.istore_n k, 1)) (hi : (k : Nat) = i) (hn : i < y.2.2.1) (hK : ∀ z, K z → jm_W x y Q (pc + 1) z) : ∀ z, jm_is i K z → jm_W x y Q pc z := by
  intro z h
  unfold jm_is at h
  split at h
  · next ls v st μ =>
    intro p e s m args below meth c H locs rl hF hP hS hl
    obtain ⟨lv, h1, h2⟩ := jm_lh_has hl
    exact lv_istore_n hF.1 hF.2.1 hd hi h1 hn rfl (fun rl h3 => hK _ h p e s m args below meth c H locs rl hF hP hS (jm_lh_set (v := .inl v) rfl h2 h3))
  · exact h.elim
theorem jr_istore {x : jm_X} {y : jm_Y} {Q : Option jm_V → jm_M → Prop} {pc : Nat} {K : jm_K} {i : Nat} (hd : decode y.2.1 pc = .ok (.istore i, 2)) (hn : i < y.2.2.1) (hK : ∀ z, K z → jm_W x y Q (pc + 2) z) : ∀ z, jm_is i K z → jm_W x y Q pc z := by
  intro z h
  unfold jm_is at h
  split at h
  · next ls v st μ =>
    intro p e s m args below meth c H locs rl hF hP hS hl
    obtain ⟨lv, h1, h2⟩ := jm_lh_has hl
    exact lv_istore hF.1 hF.2.1 hd h1 hn rfl (fun rl h3 => hK _ h p e s m args below meth c H locs rl hF hP hS (jm_lh_set (v := .inl v) rfl h2 h3))
  · exact h.elim
theorem jr_astore_n {x : jm_X} {y : jm_Y} {Q : Option jm_V → jm_M → Prop} {pc : Nat} {K : jm_K} {k : Fin 4} {i : Nat} (hd : decode y.2.1 pc = .ok (.astore_n k, 1)) (hi : (k : Nat) = i) (hn : i < y.2.2.1) (hK : ∀ z, K z → jm_W x y Q (pc + 1) z) : ∀ z, jm_as i K z → jm_W x y Q pc z := by
  intro z h
  unfold jm_as at h
  split at h
  · next ls v st μ =>
    intro p e s m args below meth c H locs rl hF hP hS hl
    obtain ⟨lv, h1, h2⟩ := jm_lh_has hl
    exact lv_astore_n hF.1 hF.2.1 hd hi h1 hn rfl (fun rl h3 => hK _ h p e s m args below meth c H locs rl hF hP hS (jm_lh_set (v := .inr (.inr v)) rfl h2 h3))
  · exact h.elim
theorem jr_iinc {x : jm_X} {y : jm_Y} {Q : Option jm_V → jm_M → Prop} {pc : Nat} {K : jm_K} {i : Nat} {n : Int} {v : Int32} (hd : decode y.2.1 pc = .ok (.iinc i n, 3)) (hv : Int32.ofInt n = v) (hn : i < y.2.2.1) (hK : ∀ z, K z → jm_W x y Q (pc + 3) z) : ∀ z, jm_inc i v K z → jm_W x y Q pc z := by
  intro z h
  obtain ⟨ls, st, μ⟩ := z
  unfold jm_inc at h
  dsimp only at h
  unfold jm_inc2 at h
  split at h
  · next w hw =>
    intro p e s m args below meth c H locs rl hF hP hS hl
    obtain ⟨lv, h1, h2⟩ := jm_lh_has hl
    obtain ⟨k, hk⟩ := List.getElem?_of_mem (h2 i _ (jm_nth_get _ _ _ hw)).1
    exact lv_iinc hF.1 hF.2.1 hd h1 hk (v := w + v) (by rw [hv]) hn rfl (fun rl h3 => hK _ h p e s m args below meth c H locs rl hF hP hS (jm_lh_set (v := .inl (w + v)) rfl h2 h3))
  · exact h.elim
theorem jr_iadd {x : jm_X} {y : jm_Y} {Q : Option jm_V → jm_M → Prop} {pc : Nat} {K : jm_K}  (hd : decode y.2.1 pc = .ok (.iadd, 1)) (hK : ∀ z, K z → jm_W x y Q (pc + 1) z) : ∀ z, jm_bin (· + ·) K z → jm_W x y Q pc z := by
  intro z h
  unfold jm_bin at h
  split at h
  · next ls b a st μ =>
    intro p e s m args below meth c H locs rl hF hP hS hl
    exact lv_iadd hF.1 hF.2.1 hd (hK _ h p e s m args below meth c H locs rl hF hP hS hl)
  · exact h.elim
theorem jr_isub {x : jm_X} {y : jm_Y} {Q : Option jm_V → jm_M → Prop} {pc : Nat} {K : jm_K}  (hd : decode y.2.1 pc = .ok (.isub, 1)) (hK : ∀ z, K z → jm_W x y Q (pc + 1) z) : ∀ z, jm_bin (· - ·) K z → jm_W x y Q pc z := by
  intro z h
  unfold jm_bin at h
  split at h
  · next ls b a st μ =>
    intro p e s m args below meth c H locs rl hF hP hS hl
    exact lv_isub hF.1 hF.2.1 hd (hK _ h p e s m args below meth c H locs rl hF hP hS hl)
  · exact h.elim
theorem jr_imul {x : jm_X} {y : jm_Y} {Q : Option jm_V → jm_M → Prop} {pc : Nat} {K : jm_K}  (hd : decode y.2.1 pc = .ok (.imul, 1)) (hK : ∀ z, K z → jm_W x y Q (pc + 1) z) : ∀ z, jm_bin (· * ·) K z → jm_W x y Q pc z := by
  intro z h
  unfold jm_bin at h
  split at h
  · next ls b a st μ =>
    intro p e s m args below meth c H locs rl hF hP hS hl
    exact lv_imul hF.1 hF.2.1 hd (hK _ h p e s m args below meth c H locs rl hF hP hS hl)
  · exact h.elim
theorem jr_iand {x : jm_X} {y : jm_Y} {Q : Option jm_V → jm_M → Prop} {pc : Nat} {K : jm_K}  (hd : decode y.2.1 pc = .ok (.iand, 1)) (hK : ∀ z, K z → jm_W x y Q (pc + 1) z) : ∀ z, jm_bin (· &&& ·) K z → jm_W x y Q pc z := by
  intro z h
  unfold jm_bin at h
  split at h
  · next ls b a st μ =>
    intro p e s m args below meth c H locs rl hF hP hS hl
    exact lv_iand hF.1 hF.2.1 hd (hK _ h p e s m args below meth c H locs rl hF hP hS hl)
  · exact h.elim
theorem jr_ior {x : jm_X} {y : jm_Y} {Q : Option jm_V → jm_M → Prop} {pc : Nat} {K : jm_K}  (hd : decode y.2.1 pc = .ok (.ior, 1)) (hK : ∀ z, K z → jm_W x y Q (pc + 1) z) : ∀ z, jm_bin (· ||| ·) K z → jm_W x y Q pc z := by
  intro z h
  unfold jm_bin at h
  split at h
  · next ls b a st μ =>
    intro p e s m args below meth c H locs rl hF hP hS hl
    exact lv_ior hF.1 hF.2.1 hd (hK _ h p e s m args below meth c H locs rl hF hP hS hl)
  · exact h.elim
theorem jr_ixor {x : jm_X} {y : jm_Y} {Q : Option jm_V → jm_M → Prop} {pc : Nat} {K : jm_K}  (hd : decode y.2.1 pc = .ok (.ixor, 1)) (hK : ∀ z, K z → jm_W x y Q (pc + 1) z) : ∀ z, jm_bin (· ^^^ ·) K z → jm_W x y Q pc z := by
  intro z h
  unfold jm_bin at h
  split at h
  · next ls b a st μ =>
    intro p e s m args below meth c H locs rl hF hP hS hl
    exact lv_ixor hF.1 hF.2.1 hd (hK _ h p e s m args below meth c H locs rl hF hP hS hl)
  · exact h.elim
theorem jr_ishl {x : jm_X} {y : jm_Y} {Q : Option jm_V → jm_M → Prop} {pc : Nat} {K : jm_K}  (hd : decode y.2.1 pc = .ok (.ishl, 1)) (hK : ∀ z, K z → jm_W x y Q (pc + 1) z) : ∀ z, jm_bin (fun a b => a <<< (b &&& 31)) K z → jm_W x y Q pc z := by
  intro z h
  unfold jm_bin at h
  split at h
  · next ls b a st μ =>
    intro p e s m args below meth c H locs rl hF hP hS hl
    exact lv_ishl hF.1 hF.2.1 hd (hK _ h p e s m args below meth c H locs rl hF hP hS hl)
  · exact h.elim
theorem jr_ishr {x : jm_X} {y : jm_Y} {Q : Option jm_V → jm_M → Prop} {pc : Nat} {K : jm_K}  (hd : decode y.2.1 pc = .ok (.ishr, 1)) (hK : ∀ z, K z → jm_W x y Q (pc + 1) z) : ∀ z, jm_bin (fun a b => a >>> (b &&& 31)) K z → jm_W x y Q pc z := by
  intro z h
  unfold jm_bin at h
  split at h
  · next ls b a st μ =>
    intro p e s m args below meth c H locs rl hF hP hS hl
    exact lv_ishr hF.1 hF.2.1 hd (hK _ h p e s m args below meth c H locs rl hF hP hS hl)
  · exact h.elim
theorem jr_iushr {x : jm_X} {y : jm_Y} {Q : Option jm_V → jm_M → Prop} {pc : Nat} {K : jm_K}  (hd : decode y.2.1 pc = .ok (.iushr, 1)) (hK : ∀ z, K z → jm_W x y Q (pc + 1) z) : ∀ z, jm_bin jm_ushr K z → jm_W x y Q pc z := by
  intro z h
  unfold jm_bin at h
  split at h
  · next ls b a st μ =>
    intro p e s m args below meth c H locs rl hF hP hS hl
    exact lv_iushr hF.1 hF.2.1 hd rfl (hK _ h p e s m args below meth c H locs rl hF hP hS hl)
  · exact h.elim
theorem jr_ineg {x : jm_X} {y : jm_Y} {Q : Option jm_V → jm_M → Prop} {pc : Nat} {K : jm_K}  (hd : decode y.2.1 pc = .ok (.ineg, 1)) (hK : ∀ z, K z → jm_W x y Q (pc + 1) z) : ∀ z, jm_neg K z → jm_W x y Q pc z := by
  intro z h
  unfold jm_neg at h
  split at h
  · next ls a st μ =>
    intro p e s m args below meth c H locs rl hF hP hS hl
    exact lv_ineg hF.1 hF.2.1 hd (hK _ h p e s m args below meth c H locs rl hF hP hS hl)
  · exact h.elim
theorem jr_ladd {x : jm_X} {y : jm_Y} {Q : Option jm_V → jm_M → Prop} {pc : Nat} {K : jm_K}  (hd : decode y.2.1 pc = .ok (.ladd, 1)) (hK : ∀ z, K z → jm_W x y Q (pc + 1) z) : ∀ z, jm_ladd K z → jm_W x y Q pc z := by
  intro z h
  unfold jm_ladd at h
  split at h
  · next ls b a st μ =>
    intro p e s m args below meth c H locs rl hF hP hS hl
    exact lv_ladd hF.1 hF.2.1 hd (hK _ h p e s m args below meth c H locs rl hF hP hS hl)
  · exact h.elim
theorem jr_i2c {x : jm_X} {y : jm_Y} {Q : Option jm_V → jm_M → Prop} {pc : Nat} {K : jm_K}  (hd : decode y.2.1 pc = .ok (.i2c, 1)) (hK : ∀ z, K z → jm_W x y Q (pc + 1) z) : ∀ z, jm_i2c K z → jm_W x y Q pc z := by
  intro z h
  unfold jm_i2c at h
  split at h
  · next ls a st μ =>
    intro p e s m args below meth c H locs rl hF hP hS hl
    exact lv_i2c hF.1 hF.2.1 hd rfl (hK _ h p e s m args below meth c H locs rl hF hP hS hl)
  · exact h.elim
theorem jr_idiv {x : jm_X} {y : jm_Y} {Q : Option jm_V → jm_M → Prop} {pc : Nat} {K : jm_K}  (hd : decode y.2.1 pc = .ok (.idiv, 1)) (hK : ∀ z, K z → jm_W x y Q (pc + 1) z) : ∀ z, jm_div K z → jm_W x y Q pc z := by
  intro z h
  unfold jm_div at h
  split at h
  · next ls b a st μ =>
    intro p e s m args below meth c H locs rl hF hP hS hl
    exact lv_idiv hF.1 hF.2.1 hd h.1 (hK _ h.2 p e s m args below meth c H locs rl hF hP hS hl)
  · exact h.elim
theorem jr_irem {x : jm_X} {y : jm_Y} {Q : Option jm_V → jm_M → Prop} {pc : Nat} {K : jm_K}  (hd : decode y.2.1 pc = .ok (.irem, 1)) (hK : ∀ z, K z → jm_W x y Q (pc + 1) z) : ∀ z, jm_rem K z → jm_W x y Q pc z := by
  intro z h
  unfold jm_rem at h
  split at h
  · next ls b a st μ =>
    intro p e s m args below meth c H locs rl hF hP hS hl
    exact lv_irem hF.1 hF.2.1 hd h.1 (hK _ h.2 p e s m args below meth c H locs rl hF hP hS hl)
  · exact h.elim
theorem jr_dup {x : jm_X} {y : jm_Y} {Q : Option jm_V → jm_M → Prop} {pc : Nat} {K : jm_K} (hd : decode y.2.1 pc = .ok (.dup, 1)) (hK : ∀ z, K z → jm_W x y Q (pc + 1) z) : ∀ z, jm_dup K z → jm_W x y Q pc z := by
  intro z h
  unfold jm_dup at h
  split at h
  · next ls a st μ =>
    intro p e s m args below meth c H locs rl hF hP hS hl
    exact lv_dup hF.1 hF.2.1 hd rfl (hK _ h p e s m args below meth c H locs rl hF hP hS hl)
  · next ls a st μ =>
    intro p e s m args below meth c H locs rl hF hP hS hl
    exact lv_dup hF.1 hF.2.1 hd rfl (hK _ h p e s m args below meth c H locs rl hF hP hS hl)
  · exact h.elim
theorem jr_dup2 {x : jm_X} {y : jm_Y} {Q : Option jm_V → jm_M → Prop} {pc : Nat} {K : jm_K}  (hd : decode y.2.1 pc = .ok (.dup2, 1)) (hK : ∀ z, K z → jm_W x y Q (pc + 1) z) : ∀ z, jm_dup2 K z → jm_W x y Q pc z := by
  intro z h
  unfold jm_dup2 at h
  split at h
  · next ls a r st μ =>
    intro p e s m args below meth c H locs rl hF hP hS hl
    exact lv_dup2_11 hF.1 hF.2.1 hd rfl rfl (hK _ h p e s m args below meth c H locs rl hF hP hS hl)
  · exact h.elim
theorem jr_pop {x : jm_X} {y : jm_Y} {Q : Option jm_V → jm_M → Prop} {pc : Nat} {K : jm_K}  (hd : decode y.2.1 pc = .ok (.pop, 1)) (hK : ∀ z, K z → jm_W x y Q (pc + 1) z) : ∀ z, jm_pop K z → jm_W x y Q pc z := by
  intro z h
  unfold jm_pop at h
  split at h
  · next ls a st μ =>
    intro p e s m args below meth c H locs rl hF hP hS hl
    exact lv_pop hF.1 hF.2.1 hd rfl (hK _ h p e s m args below meth c H locs rl hF hP hS hl)
  · exact h.elim
theorem jr_ifeq {x : jm_X} {y : jm_Y} {Q : Option jm_V → jm_M → Prop} {pc : Nat} {K1 K2 : jm_K} {off : Int} {tgt : Nat} (hd : decode y.2.1 pc = .ok (.ifCond .eq off, 3)) (ht : (pc : Int) + off = (tgt : Int)) (h1 : ∀ z, K1 z → jm_W x y Q tgt z) (h2 : ∀ z, K2 z → jm_W x y Q (pc + 3) z) : ∀ z, jm_if (fun x => x = 0) K1 K2 z → jm_W x y Q pc z := by
  intro z h
  unfold jm_if at h
  split at h
  · next ls a st μ =>
    intro p e s m args below meth c H locs rl hF hP hS hl
    exact lv_if_eq hF.1 hF.2.1 hd ht (fun q => h1 _ (h.1 q) p e s m args below meth c H locs rl hF hP hS hl) (fun q => h2 _ (h.2 q) p e s m args below meth c H locs rl hF hP hS hl)
  · exact h.elim
theorem jr_icmpeq {x : jm_X} {y : jm_Y} {Q : Option jm_V → jm_M → Prop} {pc : Nat} {K1 K2 : jm_K} {off : Int} {tgt : Nat} (hd : decode y.2.1 pc = .ok (.if_icmp .eq off, 3)) (ht : (pc : Int) + off = (tgt : Int)) (h1 : ∀ z, K1 z → jm_W x y Q tgt z) (h2 : ∀ z, K2 z → jm_W x y Q (pc + 3) z) : ∀ z, jm_cmp (fun x y => x = y) K1 K2 z → jm_W x y Q pc z := by
  intro z h
  unfold jm_cmp at h
  split at h
  · next ls b a st μ =>
    intro p e s m args below meth c H locs rl hF hP hS hl
    exact lv_icmp_eq hF.1 hF.2.1 hd ht (fun q => h1 _ (h.1 q) p e s m args below meth c H locs rl hF hP hS hl) (fun q => h2 _ (h.2 q) p e s m args below meth c H locs rl hF hP hS hl)
  · exact h.elim
theorem jr_iflt {x : jm_X} {y : jm_Y} {Q : Option jm_V → jm_M → Prop} {pc : Nat} {K1 K2 : jm_K} {off : Int} {tgt : Nat} (hd : decode y.2.1 pc = .ok (.ifCond .lt off, 3)) (ht : (pc : Int) + off = (tgt : Int)) (h1 : ∀ z, K1 z → jm_W x y Q tgt z) (h2 : ∀ z, K2 z → jm_W x y Q (pc + 3) z) : ∀ z, jm_if (fun x => x < 0) K1 K2 z → jm_W x y Q pc z := by
  intro z h
  unfold jm_if at h
  split at h
  · next ls a st μ =>
    intro p e s m args below meth c H locs rl hF hP hS hl
    exact lv_if_lt hF.1 hF.2.1 hd ht (fun q => h1 _ (h.1 q) p e s m args below meth c H locs rl hF hP hS hl) (fun q => h2 _ (h.2 q) p e s m args below meth c H locs rl hF hP hS hl)
  · exact h.elim
theorem jr_icmplt {x : jm_X} {y : jm_Y} {Q : Option jm_V → jm_M → Prop} {pc : Nat} {K1 K2 : jm_K} {off : Int} {tgt : Nat} (hd : decode y.2.1 pc = .ok (.if_icmp .lt off, 3)) (ht : (pc : Int) + off = (tgt : Int)) (h1 : ∀ z, K1 z → jm_W x y Q tgt z) (h2 : ∀ z, K2 z → jm_W x y Q (pc + 3) z) : ∀ z, jm_cmp (fun x y => x < y) K1 K2 z → jm_W x y Q pc z := by
  intro z h
  unfold jm_cmp at h
  split at h
  · next ls b a st μ =>
    intro p e s m args below meth c H locs rl hF hP hS hl
    exact lv_icmp_lt hF.1 hF.2.1 hd ht (fun q => h1 _ (h.1 q) p e s m args below meth c H locs rl hF hP hS hl) (fun q => h2 _ (h.2 q) p e s m args below meth c H locs rl hF hP hS hl)
  · exact h.elim
theorem jr_ifge {x : jm_X} {y : jm_Y} {Q : Option jm_V → jm_M → Prop} {pc : Nat} {K1 K2 : jm_K} {off : Int} {tgt : Nat} (hd : decode y.2.1 pc = .ok (.ifCond .ge off, 3)) (ht : (pc : Int) + off = (tgt : Int)) (h1 : ∀ z, K1 z → jm_W x y Q tgt z) (h2 : ∀ z, K2 z → jm_W x y Q (pc + 3) z) : ∀ z, jm_if (fun x => 0 ≤ x) K1 K2 z → jm_W x y Q pc z := by
  intro z h
  unfold jm_if at h
  split at h
  · next ls a st μ =>
    intro p e s m args below meth c H locs rl hF hP hS hl
    exact lv_if_ge hF.1 hF.2.1 hd ht (fun q => h1 _ (h.1 q) p e s m args below meth c H locs rl hF hP hS hl) (fun q => h2 _ (h.2 q) p e s m args below meth c H locs rl hF hP hS hl)
  · exact h.elim
theorem jr_icmpge {x : jm_X} {y : jm_Y} {Q : Option jm_V → jm_M → Prop} {pc : Nat} {K1 K2 : jm_K} {off : Int} {tgt : Nat} (hd : decode y.2.1 pc = .ok (.if_icmp .ge off, 3)) (ht : (pc : Int) + off = (tgt : Int)) (h1 : ∀ z, K1 z → jm_W x y Q tgt z) (h2 : ∀ z, K2 z → jm_W x y Q (pc + 3) z) : ∀ z, jm_cmp (fun x y => y ≤ x) K1 K2 z → jm_W x y Q pc z := by
  intro z h
  unfold jm_cmp at h
  split at h
  · next ls b a st μ =>
    intro p e s m args below meth c H locs rl hF hP hS hl
    exact lv_icmp_ge hF.1 hF.2.1 hd ht (fun q => h1 _ (h.1 q) p e s m args below meth c H locs rl hF hP hS hl) (fun q => h2 _ (h.2 q) p e s m args below meth c H locs rl hF hP hS hl)
  · exact h.elim
theorem jr_ifgt {x : jm_X} {y : jm_Y} {Q : Option jm_V → jm_M → Prop} {pc : Nat} {K1 K2 : jm_K} {off : Int} {tgt : Nat} (hd : decode y.2.1 pc = .ok (.ifCond .gt off, 3)) (ht : (pc : Int) + off = (tgt : Int)) (h1 : ∀ z, K1 z → jm_W x y Q tgt z) (h2 : ∀ z, K2 z → jm_W x y Q (pc + 3) z) : ∀ z, jm_if (fun x => 0 < x) K1 K2 z → jm_W x y Q pc z := by
  intro z h
  unfold jm_if at h
  split at h
  · next ls a st μ =>
    intro p e s m args below meth c H locs rl hF hP hS hl
    exact lv_if_gt hF.1 hF.2.1 hd ht (fun q => h1 _ (h.1 q) p e s m args below meth c H locs rl hF hP hS hl) (fun q => h2 _ (h.2 q) p e s m args below meth c H locs rl hF hP hS hl)
  · exact h.elim
theorem jr_icmpgt {x : jm_X} {y : jm_Y} {Q : Option jm_V → jm_M → Prop} {pc : Nat} {K1 K2 : jm_K} {off : Int} {tgt : Nat} (hd : decode y.2.1 pc = .ok (.if_icmp .gt off, 3)) (ht : (pc : Int) + off = (tgt : Int)) (h1 : ∀ z, K1 z → jm_W x y Q tgt z) (h2 : ∀ z, K2 z → jm_W x y Q (pc + 3) z) : ∀ z, jm_cmp (fun x y => y < x) K1 K2 z → jm_W x y Q pc z := by
  intro z h
  unfold jm_cmp at h
  split at h
  · next ls b a st μ =>
    intro p e s m args below meth c H locs rl hF hP hS hl
    exact lv_icmp_gt hF.1 hF.2.1 hd ht (fun q => h1 _ (h.1 q) p e s m args below meth c H locs rl hF hP hS hl) (fun q => h2 _ (h.2 q) p e s m args below meth c H locs rl hF hP hS hl)
  · exact h.elim
theorem jr_ifle {x : jm_X} {y : jm_Y} {Q : Option jm_V → jm_M → Prop} {pc : Nat} {K1 K2 : jm_K} {off : Int} {tgt : Nat} (hd : decode y.2.1 pc = .ok (.ifCond .le off, 3)) (ht : (pc : Int) + off = (tgt : Int)) (h1 : ∀ z, K1 z → jm_W x y Q tgt z) (h2 : ∀ z, K2 z → jm_W x y Q (pc + 3) z) : ∀ z, jm_if (fun x => x ≤ 0) K1 K2 z → jm_W x y Q pc z := by
  intro z h
  unfold jm_if at h
  split at h
  · next ls a st μ =>
    intro p e s m args below meth c H locs rl hF hP hS hl
    exact lv_if_le hF.1 hF.2.1 hd ht (fun q => h1 _ (h.1 q) p e s m args below meth c H locs rl hF hP hS hl) (fun q => h2 _ (h.2 q) p e s m args below meth c H locs rl hF hP hS hl)
  · exact h.elim
theorem jr_icmple {x : jm_X} {y : jm_Y} {Q : Option jm_V → jm_M → Prop} {pc : Nat} {K1 K2 : jm_K} {off : Int} {tgt : Nat} (hd : decode y.2.1 pc = .ok (.if_icmp .le off, 3)) (ht : (pc : Int) + off = (tgt : Int)) (h1 : ∀ z, K1 z → jm_W x y Q tgt z) (h2 : ∀ z, K2 z → jm_W x y Q (pc + 3) z) : ∀ z, jm_cmp (fun x y => x ≤ y) K1 K2 z → jm_W x y Q pc z := by
  intro z h
  unfold jm_cmp at h
  split at h
  · next ls b a st μ =>
    intro p e s m args below meth c H locs rl hF hP hS hl
    exact lv_icmp_le hF.1 hF.2.1 hd ht (fun q => h1 _ (h.1 q) p e s m args below meth c H locs rl hF hP hS hl) (fun q => h2 _ (h.2 q) p e s m args below meth c H locs rl hF hP hS hl)
  · exact h.elim
theorem jr_ifne {x : jm_X} {y : jm_Y} {Q : Option jm_V → jm_M → Prop} {pc : Nat} {K1 K2 : jm_K} {off : Int} {tgt : Nat} (hd : decode y.2.1 pc = .ok (.ifCond .ne off, 3)) (ht : (pc : Int) + off = (tgt : Int)) (h1 : ∀ z, K1 z → jm_W x y Q tgt z) (h2 : ∀ z, K2 z → jm_W x y Q (pc + 3) z) : ∀ z, jm_if (fun x => x = 0) K2 K1 z → jm_W x y Q pc z := by
  intro z h
  unfold jm_if at h
  split at h
  · next ls a st μ =>
    intro p e s m args below meth c H locs rl hF hP hS hl
    exact lv_if_ne hF.1 hF.2.1 hd ht (fun q => h1 _ (h.2 q) p e s m args below meth c H locs rl hF hP hS hl) (fun q => h2 _ (h.1 q) p e s m args below meth c H locs rl hF hP hS hl)
  · exact h.elim
theorem jr_icmpne {x : jm_X} {y : jm_Y} {Q : Option jm_V → jm_M → Prop} {pc : Nat} {K1 K2 : jm_K} {off : Int} {tgt : Nat} (hd : decode y.2.1 pc = .ok (.if_icmp .ne off, 3)) (ht : (pc : Int) + off = (tgt : Int)) (h1 : ∀ z, K1 z → jm_W x y Q tgt z) (h2 : ∀ z, K2 z → jm_W x y Q (pc + 3) z) : ∀ z, jm_cmp (fun x y => x = y) K2 K1 z → jm_W x y Q pc z := by
  intro z h
  unfold jm_cmp at h
  split at h
  · next ls b a st μ =>
    intro p e s m args below meth c H locs rl hF hP hS hl
    exact lv_icmp_ne hF.1 hF.2.1 hd ht (fun q => h1 _ (h.2 q) p e s m args below meth c H locs rl hF hP hS hl) (fun q => h2 _ (h.1 q) p e s m args below meth c H locs rl hF hP hS hl)
  · exact h.elim
theorem jr_goto {x : jm_X} {y : jm_Y} {Q : Option jm_V → jm_M → Prop} {pc : Nat} {K : jm_K} {off : Int} {tgt : Nat} (hd : decode y.2.1 pc = .ok (.goto off, 3)) (ht : (pc : Int) + off = (tgt : Int)) (hK : ∀ z, K z → jm_W x y Q tgt z) : ∀ z, K z → jm_W x y Q pc z := by
  intro z h p e s m args below meth c H locs rl hF hP hS hl
  exact lv_goto hF.1 hF.2.1 hd ht (hK _ h p e s m args below meth c H locs rl hF hP hS hl)
theorem jr_iret {x : jm_X} {y : jm_Y} {Q : Option jm_V → jm_M → Prop} {pc : Nat} (hd : decode y.2.1 pc = .ok (.ireturn, 1)) (hr : y.2.2.2.1 = some .int) : ∀ z, jm_ri Q z → jm_W x y Q pc z := by
  intro z h
  unfold jm_ri at h
  split at h
  · next ls v μ =>
    intro p e s m args below meth c H locs rl hF hP hS hl
    refine W.iret (hlocks := hF.2.2.2.2.2.2.1) hF.1 hF.2.1 (hF.2.2.2.1.trans hr) (fun t ht hW => ⟨⟨some (.inl _), _, rfl, h, by rw [ht]; exact hP⟩, hS.F ht⟩) hS.2.2 hd
  · exact h.elim
theorem jr_zret {x : jm_X} {y : jm_Y} {Q : Option jm_V → jm_M → Prop} {pc : Nat} (hd : decode y.2.1 pc = .ok (.ireturn, 1)) (hr : y.2.2.2.1 = some .boolean) : ∀ z, jm_rz Q z → jm_W x y Q pc z := by
  intro z h
  unfold jm_rz at h
  split at h
  · next ls v μ =>
    intro p e s m args below meth c H locs rl hF hP hS hl
    refine W.zret (ty := .boolean) (hlocks := hF.2.2.2.2.2.2.1) hF.1 hF.2.1 (hF.2.2.2.1.trans hr) (by rcases h.1 with e | e <;> subst e <;> rfl) (fun t ht hW => ⟨⟨some (.inl _), _, rfl, h.2, by rw [ht]; exact hP⟩, hS.F ht⟩) hS.2.2 hd
  · exact h.elim
theorem jr_lret {x : jm_X} {y : jm_Y} {Q : Option jm_V → jm_M → Prop} {pc : Nat} (hd : decode y.2.1 pc = .ok (.lreturn, 1)) (hr : y.2.2.2.1 = some .long) : ∀ z, jm_rl Q z → jm_W x y Q pc z := by
  intro z h
  unfold jm_rl at h
  split at h
  · next ls v μ =>
    intro p e s m args below meth c H locs rl hF hP hS hl
    refine W.lret (hlocks := hF.2.2.2.2.2.2.1) hF.1 hF.2.1 (hF.2.2.2.1.trans hr) (fun t ht hW => ⟨⟨some (.inr (.inl _)), _, rfl, h, by rw [ht]; exact hP⟩, hS.F ht⟩) hS.2.2 hd
  · exact h.elim
theorem jr_vret {x : jm_X} {y : jm_Y} {Q : Option jm_V → jm_M → Prop} {pc : Nat} (hd : decode y.2.1 pc = .ok (.return_, 1)) (hr : y.2.2.2.1 = none) : ∀ z, jm_rv Q z → jm_W x y Q pc z := by
  intro z h
  unfold jm_rv at h
  split at h
  · next ls μ =>
    intro p e s m args below meth c H locs rl hF hP hS hl
    refine W.vret (hlocks := hF.2.2.2.2.2.2.1) hF.1 hF.2.1 (hF.2.2.2.1.trans hr) (fun t ht hW => ⟨⟨none, _, rfl, h, by rw [ht]; exact hP⟩, hS.F ht⟩) hS.2.2 hd
  · exact h.elim
