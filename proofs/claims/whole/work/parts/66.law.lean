/-! the law: rules -/
def LW (x : jm_X) (p : Program) (e : Env) (s : State) (m : MethodId) (below : List Frame) (meth : Method) (c : Code) (b kc ks : Nat) (pc : Nat) (lv : List (Nat × Value)) (st : List Value) (μ : jm_M) : Prop :=
  ∀ (H : Heap) (locs : List Loc) (rl : Array Slot), jm_P x μ H → va_S x.2.2.1 s.heap H locs → lv_has rl 4 lv → W p x.1 e room_1 s m #[Value.ref b] below meth c H locs kc ks (lw_Z below #[Value.ref b] s) (F0 m pc rl st)
def LC (x : jm_X) (p : Program) (s : State) (m : MethodId) (meth : Method) (c : Code) (b L : Nat) (xs : Nat → Int32) : Prop := lw_At p s m meth c b L xs ∧ jm_G x s ∧ x.2.2.1 = (fun q => s.heap.size ≤ q)
def lvL (x : jm_X) (b i : Nat) : List (Nat × Value) := [(0, .ref b), (1, .ref (x.2.2.2.1 9 0)), (2, .ref (x.2.2.2.1 10 0)), (3, .int (nI i))]
/-- what a call of y' from the law rests on -/
def lf (y' : jm_Y) (n : Nat) : Prop := Cond.code y'.1 y'.2.1 y'.2.2.1 y'.2.2.2.1 ∈ jm_big ∧ Cond.initialized y'.1.cls ∈ jm_big ∧ (y'.1.cls ≠ "java/lang/invoke/MethodHandle" ∧ y'.1.cls ≠ "java/lang/invoke/VarHandle" ∧ (parseMethodDescriptor y'.1.desc).map (fun d => d.parameters.length) = some n) ∧ y'.2.2.2.2 + 1 ≤ 9 ∧ 8 + (y'.2.2.1 + 11) + 34 * y'.2.2.2.2 ≤ 310
section LAW
variable {x : jm_X} {p : Program} {e : Env} {s : State} {m : MethodId} {below : List Frame} {meth : Method} {c : Code} {b L kc ks : Nat} {xs : Nat → Int32} {pc idx : Nat} {lv : List (Nat × Value)} {st : List Value} {μ : jm_M}
theorem l_big (hC : LC x p s m meth c b L xs) : ∀ w ∈ jm_big, w.before #[Value.ref b] s = true := fun w hw => hC.1.2.2.2.2.2.1 w (List.mem_filter.mp hw).1
theorem lr_aload (hC : LC x p s m meth c b L xs) {kf : Fin 4} {i a : Nat} (hd : decode code pc = .ok (.aload_n kf, 1)) (hi : (kf : Nat) = i) (hm : (i, Value.ref a) ∈ lv) (kk : LW x p e s m below meth c b kc ks (pc + 1) lv (.ref a :: st) μ) : LW x p e s m below meth c b kc ks pc lv st μ :=
  fun H locs rl hP hS hl => lv_aload_n hC.1.1 hC.1.2.1 hd hi (hl.2.2 _ hm) (kk H locs rl hP hS hl)
theorem lr_iload (hC : LC x p s m meth c b L xs) {kf : Fin 4} {i : Nat} {v : Int32} (hd : decode code pc = .ok (.iload_n kf, 1)) (hi : (kf : Nat) = i) (hm : (i, Value.int v) ∈ lv) (kk : LW x p e s m below meth c b kc ks (pc + 1) lv (.int v :: st) μ) : LW x p e s m below meth c b kc ks pc lv st μ :=
  fun H locs rl hP hS hl => lv_iload_n hC.1.1 hC.1.2.1 hd hi (hl.2.2 _ hm) (kk H locs rl hP hS hl)
theorem lr_iconst (hC : LC x p s m meth c b L xs) {v : Int} {w : Int32} (hd : decode code pc = .ok (.iconst v, 1)) (hv : Int32.ofInt v = w) (kk : LW x p e s m below meth c b kc ks (pc + 1) lv (.int w :: st) μ) : LW x p e s m below meth c b kc ks pc lv st μ :=
  fun H locs rl hP hS hl => lv_iconst hC.1.1 hC.1.2.1 hd hv (kk H locs rl hP hS hl)
theorem l_out (hC : LC x p s m meth c b L xs) : ¬ x.2.2.1 b := by
  rw [hC.2.2]
  exact Nat.not_le.mpr hC.1.2.2.2.2.2.2.2.1
/-- an int of the script -/
theorem lr_arg (hC : LC x p s m meth c b L xs) {i j : Nat} {k0 k3 : Fin 4} {jj : Int} (hL : L ≤ 320) (hij : i + j < L) (h0 : decode code pc = .ok (.aload_n k0, 1)) (h1 : decode code (pc + 1) = .ok (.iload_n k3, 1)) (h2 : decode code (pc + 2) = .ok (.iconst jj, 1)) (h3 : decode code (pc + 3) = .ok (.iadd, 1)) (h4 : decode code (pc + 4) = .ok (.iaload, 1)) (e0 : (k0 : Nat) = 0) (e3 : (k3 : Nat) = 3) (ej : Int32.ofInt jj = nI j)
    (kk : LW x p e s m below meth c b kc ks (pc + 5) (lvL x b i) (.int (xs (i + j)) :: st) μ) : LW x p e s m below meth c b kc ks pc (lvL x b i) st μ := by
  intro H locs rl hP hS hl
  refine lv_aload_n hC.1.1 hC.1.2.1 h0 e0 (hl.2.2 (0, .ref b) (List.mem_of_getElem? (i := 0) rfl)) ?_
  refine lv_iload_n hC.1.1 hC.1.2.1 h1 e3 (hl.2.2 (3, .int (nI i)) (List.mem_of_getElem? (i := 3) rfl)) ?_
  refine lv_iconst hC.1.1 hC.1.2.1 h2 ej ?_
  refine lv_iadd hC.1.1 hC.1.2.1 h3 ?_
  rw [ja_nI]
  refine va_sld hC.1.1 hC.1.2.1 hC.1.2.2.2.2.2.2.1 hC.1.2.2.2.2.2.2.2.1 (l_out hC) hS (vp_in_nI hij (by omega)) h4 ?_
  rw [jt_nI (by omega)]
  exact kk H locs rl hP hS hl
theorem lr_eq (hC : LC x p s m meth c b L xs) {off : Int} {tgt : Nat} {v : Int32} (hd : decode code pc = .ok (.if_icmp .eq off, 3)) (ht : (pc : Int) + off = (tgt : Int)) (kk : LW x p e s m below meth c b kc ks tgt lv st μ) : LW x p e s m below meth c b kc ks pc lv (.int v :: .int v :: st) μ :=
  fun H locs rl hP hS hl => lv_icmp_eq hC.1.1 hC.1.2.1 hd ht (fun _ => kk H locs rl hP hS hl) (fun q => absurd rfl q)
theorem lr_leq (hC : LC x p s m meth c b L xs) {off : Int} {tgt : Nat} {v : Int64} (h0 : decode code pc = .ok (.lcmp, 1)) (hd : decode code (pc + 1) = .ok (.ifCond .eq off, 3)) (ht : ((pc + 1 : Nat) : Int) + off = (tgt : Int)) (kk : LW x p e s m below meth c b kc ks tgt lv st μ) : LW x p e s m below meth c b kc ks pc lv (.long v :: .long v :: st) μ := by
  intro H locs rl hP hS hl
  refine W.lcmp hC.1.1 hC.1.2.1 h0 ?_
  refine lv_if_eq hC.1.1 hC.1.2.1 hd ht (fun _ => kk H locs rl hP hS hl) (fun q => absurd ?_ q)
  unfold lg_cmp
  simp
theorem l_call {a : Array Value} {rl : Array Slot} {st0 rest : List Value} {Q' : Option jm_V → jm_M → Prop} {H : Heap} {locs : List Loc} {Z : State → Prop}
    (hr : va_Run p x.1 e room_1 s m #[Value.ref b] below meth c H locs kc ks 0 0 (F0 m pc rl st0) rest (jm_Qc x Q' a) x.2.2.1) (hS : va_S x.2.2.1 s.heap H locs)
    (kk : ∀ (r : Option jm_V) (ν : jm_M) (H1 : Heap) (locs1 : List Loc), Q' r ν → jm_P x ν H1 → va_S x.2.2.1 s.heap H1 locs1 → W p x.1 e room_1 s m #[Value.ref b] below meth c H1 locs1 kc ks Z (F0 m (pc + 3) rl ((jm_rt x r).toList ++ rest))) : W p x.1 e room_1 s m #[Value.ref b] below meth c H locs kc ks Z (F0 m pc rl st0) := by
  intro T hT X
  obtain ⟨v, st₀, t, T', L', h0, X', hL, e1, e2, ⟨⟨r, ν, hv, hq, hp⟩, hz, hk⟩, stp⟩ := hr T hT X
  cases hv
  rw [h0] at hz hk
  obtain ⟨t2, a1, b1⟩ := kk r ν T'.heap (locs ++ L') hq (by rw [e1]; exact hp)
    ⟨Nat.le_trans hS.1 (by rw [e1]; exact hz), fun q h1 h2 => by rw [e1, hk q (Nat.lt_of_lt_of_le h1 hS.1) h2]; exact hS.2.1 q h1 h2, fun q hq => by
      rcases List.mem_append.mp hq with h | h
      · exact hS.2.2 q h
      · exact hL q h⟩ T' rfl X'
  exact ⟨t2, stp t2 a1, b1⟩
theorem lr_call (hC : LC x p s m meth c b L xs) {k nk ci n : Nat} {fs : List (Nat × Nat × Nat)} {C : String} {T : u_T} {N : Nat} {ty : Nat → FieldType} {y' : jm_Y} (hc : jm_cls k nk ci fs C T N ty) (hd : decode code pc = .ok (.invokevirtual idx, 3)) (hf : lf y' n) (hl : Cond.methodLink "PaidRestsLaw" idx y'.1 ∈ jm_big) (hi : Cond.instanceMethod y'.1 ∈ jm_big) (hs : Cond.selects C y'.1 y'.1 ∈ jm_big) (hk1 : kc ≤ 600000) (hk2 : ks ≤ 7302249) (hj : 0 < nk)
    {as : List jm_V} (hn : as.length = n) (hst : (st.map fun v => v.category).sum ≤ 8) (hM : jm_C x y' (.inr (.inr (k, 0)) :: as) μ (fun r ν => LW x p e s m below meth c b kc ks (pc + 3) lv ((jm_rt x r).toList ++ st) ν)) : LW x p e s m below meth c b kc ks pc lv ((as.map (jm_tr x)).reverse ++ .ref (x.2.2.2.1 k 0) :: st) μ := by
  intro H locs rl hP hS hlh
  obtain ⟨c1, c2, c3, c4, c5⟩ := hf
  have hts := l_big hC
  obtain ⟨q0, hq1, hq2⟩ := jm_at hc.1 (hc.2.1 ▸ hj) x μ
  rw [hc.2.2.1] at hq2
  refine l_call (st0 := _) (rest := st) (va_runV (As := as.map (jm_tr x)) (b := x.2.2.2.1 k 0) (C := C) ⟨hC.1.1, hC.1.2.1, hC.1.2.2.2.1, hC.1.2.2.2.2.1, hts⟩ hM
    ⟨callB_of n hts (jm_ws_good c1) rfl rfl rfl (hts _ c2) (hts _ hl) c3 ⟨c4, c5⟩, hts _ hi, hts _ hs⟩
    ⟨jm_blind, va_recv hC.2.1.1 hP.1 hc.2.2.2.1 hq2, fun U hU hW => ⟨rfl, by rw [hU]; exact hP, hC.2.1.moved hS hU hW⟩⟩ rfl (by rw [List.length_map]; exact hn) hlh.1 rfl (lv_room hst) hd ⟨hk1, hk2⟩) hS (fun r ν H1 locs1 hq hp hS1 => hq H1 locs1 rl hp hS1 hlh)
/-- behind a case: on to the next -/
theorem lr_next (hC : LC x p s m meth c b L xs) {i : Nat} (kk : LW x p e s m below meth c b kc ks 18 (lvL x b (i + 5)) [] μ) : LW x p e s m below meth c b kc ks 879 (lvL x b i) [] μ := by
  intro H locs rl hP hS hl
  refine lv_iinc (v := nI (i + 5)) (lv' := [(3, .int (nI (i + 5))), (0, .ref b), (1, .ref (x.2.2.2.1 9 0)), (2, .ref (x.2.2.2.1 10 0))]) hC.1.1 hC.1.2.1 dL_law_879 hl (k := 3) rfl (ja_nI i 5) (by decide) rfl (fun rl' hl' => ?_)
  refine lv_goto (tgt := 18) hC.1.1 hC.1.2.1 dL_law_882 (by decide) ?_
  exact kk H locs rl' hP hS (lv_sub hl' [1, 2, 3, 0] rfl)
theorem lr_end (hC : LC x p s m meth c b L xs) (hk1 : kc ≤ 600000) (hk2 : ks ≤ 7302249) : LW x p e s m below meth c b kc ks 885 lv [] μ := by
  intro H locs rl hP hS hl
  refine lv_iconst (v := 1) hC.1.1 hC.1.2.1 dL_law_885 (by decide) ?_
  refine va_forget (fun q hq => ?_) ?_
  · have := hS.2.2 q hq
    rw [hC.2.2] at this
    exact this
  · refine W.widen (k := 600000) (n := 7302249) hk1 hk2 ?_
    exact lw_ret hC.1.1 hC.1.2.1 hC.1.2.2.1 hC.1.2.2.2.2.2.2.2.2.1 dL_law_886
end LAW
