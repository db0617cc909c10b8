/-! rules: calls by their number of arguments, switches -/
section JD
variable {x : jm_X} {y y' : jm_Y} {Q : Option jm_V → jm_M → Prop} {pc : Nat} {K : jm_K} {idx n : Nat}
theorem jm_C.to {as : List jm_V} {μ : jm_M} {f : Option jm_V → jm_M → jm_S} (hK : ∀ z, K z → jm_W x y Q (pc + 3) z) (h : jm_C x y' as μ (fun r ν => K (f r ν))) : jm_C x y' as μ (fun r ν => jm_W x y Q (pc + 3) (f r ν)) := h.mono fun _ _ h => hK _ h
theorem jr_s1 (hd : decode y.2.1 pc = .ok (.invokestatic idx, 3)) (hf : jm_cf y y' 1) (hl : Cond.methodLink y.1.cls idx y'.1 ∈ jm_big) (hi : Cond.static y'.1 ∈ jm_big) (hK : ∀ z, K z → jm_W x y Q (pc + 3) z) : ∀ z, jm_c1 (jm_C x y') K z → jm_W x y Q pc z := by
  intro z h
  unfold jm_c1 at h
  split at h
  · next ls a st μ => exact jm_callS (as := [a]) hd hf hl hi rfl h.1 (h.2.to hK)
  · exact h.elim
theorem jr_n1 (hd : decode y.2.1 pc = .ok (.invokestatic idx, 3)) (hf : jm_cf y y' 1) (hl : (y.1.cls, idx, y'.1) ∈ jm_nestM) (hi : Cond.static y'.1 ∈ jm_big) (hK : ∀ z, K z → jm_W x y Q (pc + 3) z) : ∀ z, jm_c1 (jm_C x y') K z → jm_W x y Q pc z := by
  intro z h
  unfold jm_c1 at h
  split at h
  · next ls a st μ => exact jm_callN (as := [a]) hd hf hl hi rfl h.1 (h.2.to hK)
  · exact h.elim
theorem jr_s2 (hd : decode y.2.1 pc = .ok (.invokestatic idx, 3)) (hf : jm_cf y y' 2) (hl : Cond.methodLink y.1.cls idx y'.1 ∈ jm_big) (hi : Cond.static y'.1 ∈ jm_big) (hK : ∀ z, K z → jm_W x y Q (pc + 3) z) : ∀ z, jm_c2 (jm_C x y') K z → jm_W x y Q pc z := by
  intro z h
  unfold jm_c2 at h
  split at h
  · next ls b a st μ => exact jm_callS (as := [a, b]) hd hf hl hi rfl h.1 (h.2.to hK)
  · exact h.elim
theorem jr_n2 (hd : decode y.2.1 pc = .ok (.invokestatic idx, 3)) (hf : jm_cf y y' 2) (hl : (y.1.cls, idx, y'.1) ∈ jm_nestM) (hi : Cond.static y'.1 ∈ jm_big) (hK : ∀ z, K z → jm_W x y Q (pc + 3) z) : ∀ z, jm_c2 (jm_C x y') K z → jm_W x y Q pc z := by
  intro z h
  unfold jm_c2 at h
  split at h
  · next ls b a st μ => exact jm_callN (as := [a, b]) hd hf hl hi rfl h.1 (h.2.to hK)
  · exact h.elim
theorem jr_s3 (hd : decode y.2.1 pc = .ok (.invokestatic idx, 3)) (hf : jm_cf y y' 3) (hl : Cond.methodLink y.1.cls idx y'.1 ∈ jm_big) (hi : Cond.static y'.1 ∈ jm_big) (hK : ∀ z, K z → jm_W x y Q (pc + 3) z) : ∀ z, jm_c3 (jm_C x y') K z → jm_W x y Q pc z := by
  intro z h
  unfold jm_c3 at h
  split at h
  · next ls c b a st μ => exact jm_callS (as := [a, b, c]) hd hf hl hi rfl h.1 (h.2.to hK)
  · exact h.elim
theorem jr_n3 (hd : decode y.2.1 pc = .ok (.invokestatic idx, 3)) (hf : jm_cf y y' 3) (hl : (y.1.cls, idx, y'.1) ∈ jm_nestM) (hi : Cond.static y'.1 ∈ jm_big) (hK : ∀ z, K z → jm_W x y Q (pc + 3) z) : ∀ z, jm_c3 (jm_C x y') K z → jm_W x y Q pc z := by
  intro z h
  unfold jm_c3 at h
  split at h
  · next ls c b a st μ => exact jm_callN (as := [a, b, c]) hd hf hl hi rfl h.1 (h.2.to hK)
  · exact h.elim
theorem jr_v1 {k nk ci : Nat} {fs : List (Nat × Nat × Nat)} {C : String} {T : u_T} {N : Nat} {ty : Nat → FieldType} (hc : jm_cls k nk ci fs C T N ty) (hd : decode y.2.1 pc = .ok (.invokevirtual idx, 3)) (hf : jm_cf y y' 0) (hl : Cond.methodLink y.1.cls idx y'.1 ∈ jm_big) (hi : Cond.instanceMethod y'.1 ∈ jm_big) (hs : Cond.selects C y'.1 y'.1 ∈ jm_big) (hK : ∀ z, K z → jm_W x y Q (pc + 3) z) : ∀ z, jm_v1 k nk (jm_C x y') K z → jm_W x y Q pc z := by
  intro z h
  unfold jm_v1 at h
  split at h
  · next ls  a j st μ => exact jm_callV (as := []) hc hd hf hl hi hs h.1 h.2.1 rfl h.2.2.1 (h.2.2.2.to hK)
  · exact h.elim
theorem jr_v2 {k nk ci : Nat} {fs : List (Nat × Nat × Nat)} {C : String} {T : u_T} {N : Nat} {ty : Nat → FieldType} (hc : jm_cls k nk ci fs C T N ty) (hd : decode y.2.1 pc = .ok (.invokevirtual idx, 3)) (hf : jm_cf y y' 1) (hl : Cond.methodLink y.1.cls idx y'.1 ∈ jm_big) (hi : Cond.instanceMethod y'.1 ∈ jm_big) (hs : Cond.selects C y'.1 y'.1 ∈ jm_big) (hK : ∀ z, K z → jm_W x y Q (pc + 3) z) : ∀ z, jm_v2 k nk (jm_C x y') K z → jm_W x y Q pc z := by
  intro z h
  unfold jm_v2 at h
  split at h
  · next ls b a j st μ => exact jm_callV (as := [b]) hc hd hf hl hi hs h.1 h.2.1 rfl h.2.2.1 (h.2.2.2.to hK)
  · exact h.elim
theorem jr_v3 {k nk ci : Nat} {fs : List (Nat × Nat × Nat)} {C : String} {T : u_T} {N : Nat} {ty : Nat → FieldType} (hc : jm_cls k nk ci fs C T N ty) (hd : decode y.2.1 pc = .ok (.invokevirtual idx, 3)) (hf : jm_cf y y' 2) (hl : Cond.methodLink y.1.cls idx y'.1 ∈ jm_big) (hi : Cond.instanceMethod y'.1 ∈ jm_big) (hs : Cond.selects C y'.1 y'.1 ∈ jm_big) (hK : ∀ z, K z → jm_W x y Q (pc + 3) z) : ∀ z, jm_v3 k nk (jm_C x y') K z → jm_W x y Q pc z := by
  intro z h
  unfold jm_v3 at h
  split at h
  · next ls c b a j st μ => exact jm_callV (as := [b, c]) hc hd hf hl hi hs h.1 h.2.1 rfl h.2.2.1 (h.2.2.2.to hK)
  · exact h.elim
theorem jr_v4 {k nk ci : Nat} {fs : List (Nat × Nat × Nat)} {C : String} {T : u_T} {N : Nat} {ty : Nat → FieldType} (hc : jm_cls k nk ci fs C T N ty) (hd : decode y.2.1 pc = .ok (.invokevirtual idx, 3)) (hf : jm_cf y y' 3) (hl : Cond.methodLink y.1.cls idx y'.1 ∈ jm_big) (hi : Cond.instanceMethod y'.1 ∈ jm_big) (hs : Cond.selects C y'.1 y'.1 ∈ jm_big) (hK : ∀ z, K z → jm_W x y Q (pc + 3) z) : ∀ z, jm_v4 k nk (jm_C x y') K z → jm_W x y Q pc z := by
  intro z h
  unfold jm_v4 at h
  split at h
  · next ls d c b a j st μ => exact jm_callV (as := [b, c, d]) hc hd hf hl hi hs h.1 h.2.1 rfl h.2.2.1 (h.2.2.2.to hK)
  · exact h.elim
theorem jr_v5 {k nk ci : Nat} {fs : List (Nat × Nat × Nat)} {C : String} {T : u_T} {N : Nat} {ty : Nat → FieldType} (hc : jm_cls k nk ci fs C T N ty) (hd : decode y.2.1 pc = .ok (.invokevirtual idx, 3)) (hf : jm_cf y y' 4) (hl : Cond.methodLink y.1.cls idx y'.1 ∈ jm_big) (hi : Cond.instanceMethod y'.1 ∈ jm_big) (hs : Cond.selects C y'.1 y'.1 ∈ jm_big) (hK : ∀ z, K z → jm_W x y Q (pc + 3) z) : ∀ z, jm_v5 k nk (jm_C x y') K z → jm_W x y Q pc z := by
  intro z h
  unfold jm_v5 at h
  split at h
  · next ls e d c b a j st μ => exact jm_callV (as := [b, c, d, e]) hc hd hf hl hi hs h.1 h.2.1 rfl h.2.2.1 (h.2.2.2.to hK)
  · exact h.elim
theorem jm_swk_at {K : Nat → jm_K} {z : jm_S} {v : Int32} : ∀ (ts : List Nat) (n : Int) (i : Nat) (t : Nat), jm_swk K z v n ts → ts[i]? = some t → v.toInt = n + i → K t z
  | [], _, _, _, _, h, _ => by simp at h
  | t :: ts, n, 0, t', h, h1, h2 => by
    rw [List.getElem?_cons_zero] at h1
    cases h1
    exact h.1 (by simpa using h2)
  | _ :: ts, n, i + 1, t', h, h1, h2 => by
    rw [List.getElem?_cons_succ] at h1
    exact jm_swk_at ts (n + 1) i t' h.2 h1 (by rw [h2]; omega)
theorem jr_tsw {K : Nat → jm_K} {lo hi dflt : Int} {offs : Array Int} {len d : Nat} {ts : List Nat} (hd : decode y.2.1 pc = .ok (.tableswitch dflt lo hi offs, len)) (hh : hi + 1 = lo + ts.length) (ht : offs.toList.map (fun o => (pc : Int) + o) = ts.map (fun t : Nat => (t : Int))) (hdf : (pc : Int) + dflt = (d : Int))
    (hK : ∀ t z, K t z → jm_W x y Q t z) : ∀ z, jm_tsw lo ts d K z → jm_W x y Q pc z := by
  intro z h
  unfold jm_tsw at h
  split at h
  · next ls v st μ =>
    intro p e s m args below meth c H locs rl hF hP hS hl
    by_cases h1 : v.toInt < lo
    · exact lv_tableOut hF.1 hF.2.1 hd (Or.inl h1) hdf (hK _ _ (h.2 (Or.inl h1)) p e s m args below meth c H locs rl hF hP hS hl)
    · by_cases h2 : hi < v.toInt
      · exact lv_tableOut hF.1 hF.2.1 hd (Or.inr h2) hdf (hK _ _ (h.2 (Or.inr (by omega))) p e s m args below meth c H locs rl hF hP hS hl)
      · have hi' : (v.toInt - lo).toNat < ts.length := by omega
        have hlen : offs.toList.length = ts.length := by
          have := congrArg List.length ht
          simpa using this
        have ho : offs[(v.toInt - lo).toNat]? = some (offs.toList[(v.toInt - lo).toNat]'(by omega)) := by
          rw [← Array.getElem?_toList]
          exact List.getElem?_eq_getElem (by omega)
        have e1 := congrArg (fun l => l[(v.toInt - lo).toNat]?) ht
        simp only [List.getElem?_map] at e1
        rw [List.getElem?_eq_getElem (by omega), List.getElem?_eq_getElem hi'] at e1
        simp only [Option.map_some, Option.some.injEq] at e1
        exact lv_tableIn hF.1 hF.2.1 hd h1 h2 ho e1 (hK _ _ (jm_swk_at ts lo (v.toInt - lo).toNat _ h.1 (List.getElem?_eq_getElem hi') (by omega)) p e s m args below meth c H locs rl hF hP hS hl)
  · exact h.elim
theorem jm_lkk_at {K : Nat → jm_K} {z : jm_S} {v : Int32} {d : Nat} {pc : Nat} {dflt : Int} (hdf : (pc : Int) + dflt = (d : Int)) : ∀ (ts : List (Int × Nat)) (os : List (Int × Int)), os.map (fun o => (o.1, (pc : Int) + o.2)) = ts.map (fun t => (t.1, (t.2 : Int))) → jm_lkk K z v d ts → ∃ t : Nat, (pc : Int) + Op.lookupswitch.offset os dflt v.toInt = (t : Int) ∧ K t z
  | [], os, he, h => by
    have : os = [] := by simpa using he
    subst this
    exact ⟨d, hdf, h⟩
  | (n, t) :: ts, os, he, h => by
    match os, he with
    | [], he => simp at he
    | (a, o) :: os, he =>
      simp only [List.map_cons, List.cons.injEq, Prod.mk.injEq] at he
      obtain ⟨⟨e1, e2⟩, e3⟩ := he
      subst e1
      rw [Op.lookupswitch.offset_cons]
      by_cases hv : v.toInt = a
      · refine ⟨t, ?_, h.1 hv⟩
        first | rw [if_pos hv] | rw [if_pos hv.symm]
        exact e2
      · obtain ⟨t', h1, h2⟩ := jm_lkk_at hdf ts os e3 (h.2 hv)
        refine ⟨t', ?_, h2⟩
        first | rw [if_neg hv] | rw [if_neg (fun q => hv q.symm)]
        exact h1
theorem jr_lsw {K : Nat → jm_K} {dflt : Int} {ps : Array (Int × Int)} {len d : Nat} {ts : List (Int × Nat)} (hd : decode y.2.1 pc = .ok (.lookupswitch dflt ps, len)) (hp : (ps.toList.zip (ps.toList.drop 1)).all (fun (a, next) => a.1 < next.1) = true) (ht : ps.toList.map (fun o => (o.1, (pc : Int) + o.2)) = ts.map (fun t => (t.1, (t.2 : Int)))) (hdf : (pc : Int) + dflt = (d : Int))
    (hK : ∀ t z, K t z → jm_W x y Q t z) : ∀ z, jm_lsw ts d K z → jm_W x y Q pc z := by
  intro z h
  unfold jm_lsw at h
  split at h
  · next ls v st μ =>
    intro p e s m args below meth c H locs rl hF hP hS hl
    obtain ⟨t, h1, h2⟩ := jm_lkk_at hdf ts ps.toList ht h
    exact lv_lookup hF.1 hF.2.1 hd hp rfl h1 (hK _ _ h2 p e s m args below meth c H locs rl hF hP hS hl)
  · exact h.elim
end JD
