/-! rules: arraycopy, calls, switches -/
section JC
variable {x : jm_X} {y y' : jm_Y} {Q : Option jm_V → jm_M → Prop} {pc : Nat} {K : jm_K} {idx n : Nat}
set_option maxHeartbeats 1000000 in
theorem jr_cp (hd : decode y.2.1 pc = .ok (.invokestatic idx, 3)) (hl : Cond.methodLink y.1.cls idx arraycopyName ∈ jm_big) (h1 : Cond.native arraycopyName ∈ jm_big) (h2 : Cond.static arraycopyName ∈ jm_big) (h3 : Cond.initialized "java/lang/System" ∈ jm_big) (hdp : 1 ≤ y.2.2.2.2)
    (hK : ∀ z, K z → jm_W x y Q (pc + 3) z) : ∀ z, jm_cp K z → jm_W x y Q pc z := by
  intro z h
  unfold jm_cp at h
  split at h
  · next ls n d k j s0 k0 j0 st μ =>
    intro p e s m args below meth c H locs rl hF hP hS hl'
    obtain ⟨rfl, rfl, rfl, a1, a0, hk, hk0, e1, e0, hm, hz⟩ := h
    obtain ⟨n1, k1', b1, g1, g2⟩ := jm_ar_inv a1
    obtain ⟨n0, k0', b0, f1, f2⟩ := jm_ar_inv a0
    have E1 := (jm_len_of g1).symm.trans e1
    have E0 := (jm_len_of f1).symm.trans e0
    subst E1
    subst E0
    obtain ⟨q1, r1, r2⟩ := jm_arr (x := x) (μ := μ) (Or.inl rfl) hk g1 g2
    obtain ⟨q0, s1, s2⟩ := jm_arr (x := x) (μ := μ) (Or.inl rfl) hk0 f1 f2
    have hts := hF.2.2.2.2.2.1
    refine va_copyi hF.1 hF.2.1 (hF.2.2.1.trans hl'.1.symm) hF.2.2.2.2.1 (hts _ hl) (hts _ h1) (hts _ h2) (hts _ h3) hF.2.2.2.2.2.2.2.1 hP.1 hP.2.1 hS q0 q1 0 0 s2 r2 rfl rfl rfl (by decide) (by decide) (by decide) (by decide) (by decide) (fun _ _ => rfl) (by show 1 ≤ (jm_rm _).frames; exact hdp) ?_ hd (fun H1 locs1 w1 w2 w3 => ?_)
    · rw [jm_sm_eq]
      show jm_sm st + (nativeFrameWords "java/lang/System" "arraycopy" 5 + 11) ≤ 34 * y.2.2.2.2
      have : nativeFrameWords "java/lang/System" "arraycopy" 5 ≤ 15 := by decide +kernel
      omega
    · have ew : jm_ws x (jm_wa μ k j (va_cpy (μ.1 k0 j0) (μ.1 k j) 0 0 5)) = (jm_ws x μ).set q1 (x.2.2.2.1 k j, .inl (x.2.2.2.2 0, 5, .inl (va_cpy (μ.1 k0 j0) (μ.1 k j) 0 0 5))) := by
        have := jm_ws_wa (x := x) (μ := μ) (va_cpy (μ.1 k0 j0) (μ.1 k j) 0 0 5) r1
        rw [g1] at this
        rw [this]
        simp only [jm_ent, jm_wa_same]
      refine hK _ hz p e s m args below meth c H1 locs1 rl hF ⟨?_, ?_, ?_⟩ w3 hl'
      · rw [ew]; exact w1
      · rw [ew]; exact w2
      · intro j' i'
        show (if 0 = k ∧ j' = j then _ else μ.1 0 j') i' = 0
        rw [if_neg (fun q => hk q.1.symm)]
        exact hP.2.2 j' i'
  · exact h.elim
/-- behind a call -/
theorem jm_call {p : Program} {e : Env} {R : Room} {s : State} {m : MethodId} {args a : Array Value} {below : List Frame} {meth : Method} {c : Code} {H : Heap} {locs : List Loc} {Z : State → Prop} {rl : Array Slot} {st0 rest : List Value} {Q' : Option jm_V → jm_M → Prop}
    (hr : va_Run p x.1 e R s m args below meth c H locs 0 0 0 0 (F0 m pc rl st0) rest (jm_Qc x Q' a) x.2.2.1) (hS : va_S x.2.2.1 s.heap H locs)
    (kk : ∀ (r : Option jm_V) (ν : jm_M) (H1 : Heap) (locs1 : List Loc), Q' r ν → jm_P x ν H1 → va_S x.2.2.1 s.heap H1 locs1 → W p x.1 e R s m args below meth c H1 locs1 0 0 Z (F0 m (pc + 3) rl ((jm_rt x r).toList ++ rest))) : W p x.1 e R s m args below meth c H locs 0 0 Z (F0 m pc rl st0) := by
  intro T hT X
  obtain ⟨v, st₀, t, T', L, h0, X', hL, e1, e2, ⟨⟨r, ν, hv, hq, hp⟩, hz, hk⟩, st⟩ := hr T hT X
  cases hv
  rw [h0] at hz hk
  obtain ⟨t2, a1, b1⟩ := kk r ν T'.heap (locs ++ L) hq (by rw [e1]; exact hp)
    ⟨Nat.le_trans hS.1 (by rw [e1]; exact hz), fun q h1 h2 => by rw [e1, hk q (Nat.lt_of_lt_of_le h1 hS.1) h2]; exact hS.2.1 q h1 h2, fun q hq => by
      rcases List.mem_append.mp hq with h | h
      · exact hS.2.2 q h
      · exact hL q h⟩ T' rfl X'
  exact ⟨t2, st t2 a1, b1⟩
/-- what a call of y' from y rests on: n parameters, not counting the receiver -/
def jm_cf (y : jm_Y) (y' : jm_Y) (n : Nat) : Prop := Cond.code y'.1 y'.2.1 y'.2.2.1 y'.2.2.2.1 ∈ jm_big ∧ Cond.initialized y'.1.cls ∈ jm_big ∧ (y'.1.cls ≠ "java/lang/invoke/MethodHandle" ∧ y'.1.cls ≠ "java/lang/invoke/VarHandle" ∧ (parseMethodDescriptor y'.1.desc).map (fun d => d.parameters.length) = some n) ∧ y'.2.2.2.2 + 1 ≤ y.2.2.2.2 ∧ 19 + y'.2.2.1 ≤ 34
theorem jm_blind {as : List jm_V} {μ : jm_M} : FrameBlind (va_Pc (as.map (jm_tr x)) (jm_OK x μ)) := by
  intro a U g mk q
  obtain ⟨h0, h1, h2, h3, h4, h5, h6⟩ := q
  exact ⟨h0, h1, va_K.moved (u := U) (U := U.calling g mk a) (Vm.Alike.refl U.vm) h2, va_Z.moved (u := U) (U := U.calling g mk a) (Vm.Alike.refl U.vm) h3, va_T.moved (u := U) (U := U.calling g mk a) (Vm.Alike.refl U.vm) h4, fun w hw => va_Nw.same rfl rfl (h5 w hw), fun w hw => va_Nw.same rfl rfl (h6 w hw)⟩
theorem jm_ws_good (h : Cond.code y'.1 y'.2.1 y'.2.2.1 y'.2.2.2.1 ∈ jm_big) : GoodIn jm_big (Cond.code y'.1 y'.2.1 y'.2.2.1 y'.2.2.2.1 :: jm_big) := by
  intro w hw
  rcases List.mem_cons.mp hw with e | e
  · rw [e]; exact jm_good _ h
  · exact jm_good _ e
theorem jm_room {d d' a : Nat} (h : d' + 1 ≤ d) (ha : 19 + a ≤ 34) : (jm_rm d').frames + 1 ≤ (jm_rm d).frames ∧ 8 + (a + 11) + (jm_rm d').locals ≤ (jm_rm d).locals := by
  refine ⟨h, ?_⟩
  show 8 + (a + 11) + 34 * d' ≤ 34 * d
  omega
/-- a call of an instance's method -/
theorem jm_callV {k nk ci : Nat} {fs : List (Nat × Nat × Nat)} {C : String} {T : u_T} {N : Nat} {ty : Nat → FieldType} (hc : jm_cls k nk ci fs C T N ty) (hd : decode y.2.1 pc = .ok (.invokevirtual idx, 3)) (hf : jm_cf y y' n) (hl : Cond.methodLink y.1.cls idx y'.1 ∈ jm_big) (hi : Cond.instanceMethod y'.1 ∈ jm_big) (hs : Cond.selects C y'.1 y'.1 ∈ jm_big)
    {a j : Nat} (ha : a = k) (hj : j < nk) {as : List jm_V} (hn : as.length = n) {ls : List (Option jm_V)} {st : List jm_V} {μ : jm_M} (hst : jm_sm st ≤ 8) (hC : jm_C x y' (.inr (.inr (k, j)) :: as) μ (fun r ν => jm_W x y Q (pc + 3) (ls, r.toList ++ st, ν))) : jm_W x y Q pc (ls, as.reverse ++ .inr (.inr (a, j)) :: st, μ) := by
  intro p e s m args below meth c H locs rl hF hP hS hlh
  subst ha
  obtain ⟨c1, c2, c3, c4, c5⟩ := hf
  have hts := hF.2.2.2.2.2.1
  obtain ⟨q0, hq1, hq2⟩ := jm_at hc.1 (hc.2.1 ▸ hj) x μ
  rw [hc.2.2.1] at hq2
  refine jm_call (st0 := _) (rest := st.map (jm_tr x)) (va_runV (As := as.map (jm_tr x)) (b := x.2.2.2.1 a j) (C := C) ⟨hF.1, hF.2.1, hF.2.2.1, hF.2.2.2.2.1, hts⟩ hC
    ⟨callB_of n hts (jm_ws_good c1) rfl rfl rfl (hts _ c2) (hts _ hl) c3 (jm_room c4 c5), hts _ hi, hts _ hs⟩
    ⟨jm_blind, va_recv hF.2.2.2.2.2.2.2.1 hP.1 hc.2.2.2.1 hq2, fun U hU hW => ⟨rfl, by rw [hU]; exact hP, hF.2.2.2.2.2.2.2.moved hS hU hW⟩⟩ rfl (by rw [List.length_map]; exact hn) hlh.1 ?_ (lv_room (by rw [jm_sm_eq]; exact hst)) hd ⟨Nat.le_refl _, Nat.le_refl _⟩) hS (fun r ν H1 locs1 hq hp hS1 => ?_)
  · simp only [List.map_append, List.map_reverse, List.map_cons]; rfl
  · have := hq p e s m args below meth c H1 locs1 rl hF hp hS1 hlh
    cases r with
    | none => exact this
    | some r => exact this
/-- a call of a static method -/
theorem jm_callS (hd : decode y.2.1 pc = .ok (.invokestatic idx, 3)) (hf : jm_cf y y' n) (hl : Cond.methodLink y.1.cls idx y'.1 ∈ jm_big) (hi : Cond.static y'.1 ∈ jm_big)
    {as : List jm_V} (hn : as.length = n) {ls : List (Option jm_V)} {st : List jm_V} {μ : jm_M} (hst : jm_sm st ≤ 8) (hC : jm_C x y' as μ (fun r ν => jm_W x y Q (pc + 3) (ls, r.toList ++ st, ν))) : jm_W x y Q pc (ls, as.reverse ++ st, μ) := by
  intro p e s m args below meth c H locs rl hF hP hS hlh
  obtain ⟨c1, c2, c3, c4, c5⟩ := hf
  have hts := hF.2.2.2.2.2.1
  refine jm_call (st0 := _) (rest := st.map (jm_tr x)) (va_runS (As := as.map (jm_tr x)) ⟨hF.1, hF.2.1, hF.2.2.1, hF.2.2.2.2.1, hts⟩ hC
    ⟨callB_of n hts (jm_ws_good c1) rfl rfl rfl (hts _ c2) (hts _ hl) c3 (jm_room c4 c5), hts _ hi⟩
    ⟨jm_blind, fun U hU hW => ⟨rfl, by rw [hU]; exact hP, hF.2.2.2.2.2.2.2.moved hS hU hW⟩⟩ rfl (by rw [List.length_map]; exact hn) hlh.1 ?_ (lv_room (by rw [jm_sm_eq]; exact hst)) hd ⟨Nat.le_refl _, Nat.le_refl _⟩) hS (fun r ν H1 locs1 hq hp hS1 => ?_)
  · simp only [List.map_append, List.map_reverse]
  · have := hq p e s m args below meth c H1 locs1 rl hF hp hS1 hlh
    cases r with
    | none => exact this
    | some r => exact this
/-- a call of a nest mate's static method -/
theorem jm_callN (hd : decode y.2.1 pc = .ok (.invokestatic idx, 3)) (hf : jm_cf y y' n) (hl : (y.1.cls, idx, y'.1) ∈ jm_nestM) (hi : Cond.static y'.1 ∈ jm_big)
    {as : List jm_V} (hn : as.length = n) {ls : List (Option jm_V)} {st : List jm_V} {μ : jm_M} (hst : jm_sm st ≤ 8) (hC : jm_C x y' as μ (fun r ν => jm_W x y Q (pc + 3) (ls, r.toList ++ st, ν))) : jm_W x y Q pc (ls, as.reverse ++ st, μ) := by
  intro p e s m args below meth c H locs rl hF hP hS hlh
  obtain ⟨c1, c2, c3, c4, c5⟩ := hf
  have hts := hF.2.2.2.2.2.1
  have hnw := hF.2.2.2.2.2.2.2.2.2.2.2 _ hl
  refine jm_call (st0 := _) (rest := st.map (jm_tr x)) (va_runSN (As := as.map (jm_tr x)) (host := "PaidRests") ⟨hF.1, hF.2.1, hF.2.2.1, hF.2.2.2.2.1, hts⟩ hC
    ⟨va_cnB n hts (jm_ws_good c1) rfl rfl rfl hnw (hts _ c2) c3 (jm_room c4 c5), hts _ hi, trivial⟩
    ⟨jm_blind, fun U hU hW => ⟨rfl, by rw [hU]; exact hP, hF.2.2.2.2.2.2.2.moved hS hU hW⟩⟩ rfl (by rw [List.length_map]; exact hn) hlh.1 ?_ (lv_room (by rw [jm_sm_eq]; exact hst)) hd ⟨Nat.le_refl _, Nat.le_refl _⟩) hS (fun r ν H1 locs1 hq hp hS1 => ?_)
  · simp only [List.map_append, List.map_reverse]
  · have := hq p e s m args below meth c H1 locs1 rl hF hp hS1 hlh
    cases r with
    | none => exact this
    | some r => exact this
end JC
