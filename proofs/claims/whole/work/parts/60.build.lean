/-! making cells: a machine over worlds. The first cell of a world is the receiver's -/
abbrev bZ : Type := Launch × va_G × (Nat → ClassId)
def bTy (z : bZ) : List (ClassId × FieldType) := [(z.2.2 0, .int), (z.2.2 1, .char), (z.2.2 2, .boolean), (z.2.2 3, .object "PaidRests$Standing")]
def bG (z : bZ) (s : State) : Prop := va_K z.2.1 vwCl (bTy z) s ∧ va_AO "PaidRests$Standing" s ∧ ∀ w ∈ jm_nestM, va_Nw (.methodLinkNest w.1 w.2.1 w.2.2 "PaidRests") s
theorem bG.moved {z : bZ} {s U : State} (h : bG z s) (hW : s.WarmedH U.vm) : bG z U := ⟨va_K.moved hW.alike h.1, va_AO.moved hW.alike h.2.1, fun w hw => va_Nw.warmM hW (h.2.2 w hw)⟩
def bRm (d mc ms : Nat) : Room := { frames := d, cells := mc, slots := ms, locals := 34 * d }
def bQ (z : bZ) (Q : va_W → Prop) (A : Nat → Prop) : Array Value → State → Outcome → State → Prop := fun _ st oc t => (∃ w1 : va_W, oc = .returned none ∧ Q w1 ∧ va_P z.2.1 vwCl w1 t.heap ∧ va_D A w1) ∧ va_F A st t
def bP (z : bZ) (w0 : va_W) (sz : Nat) : State → Prop := fun U => U.heap.size = sz ∧ va_P z.2.1 vwCl w0 U.heap ∧ va_D (fun _ => True) w0 ∧ bG z U
/-- a constructor: from the world w0, with mc new cells of ms slots, to a world of Q -/
def bC (z : bZ) (y : jm_Y) (as : List Value) (w0 : va_W) (mc ms : Nat) (Q : va_W → Prop) : Prop := ∀ sz : Nat, Met z.1 y.1 (Cond.code y.1 y.2.1 y.2.2.1 y.2.2.2.1 :: jm_big) (bRm y.2.2.2.2 mc ms) (va_Pc as (bP z w0 sz)) (bQ z Q (va_A w0 sz)) mc ms (va_A w0 sz)
def bF (z : bZ) (y : jm_Y) (A : Nat → Prop) (p : Program) (s : State) (m : MethodId) (args : Array Value) (meth : Method) (c : Code) : Prop :=
  p.tables.exec = Jvm.exec ∧ c.code = y.2.1 ∧ c.maxLocals = y.2.2.1 ∧ meth.sig.returnType = none ∧ s.vm.findClass y.1.cls = some m.cls ∧ (∀ w ∈ jm_big, w.before args s = true) ∧ meth.locks = false ∧ bG z s ∧ meth.name = "<init>" ∧ ∀ q : Nat, s.heap.size ≤ q → A q
def bW (z : bZ) (y : jm_Y) (A : Nat → Prop) (mc ms : Nat) (Q : va_W → Prop) (pc : Nat) (lv : List (Nat × Value)) (st : List Value) (ws : va_W) (k n : Nat) : Prop :=
  ∀ (p : Program) (e : Env) (s : State) (m : MethodId) (args : Array Value) (below : List Frame) (meth : Method) (c : Code) (H : Heap) (locs : List Loc) (rl : Array Slot),
    bF z y A p s m args meth c → va_P z.2.1 vwCl ws H → va_D A ws → va_S A s.heap H locs → lv_has rl y.2.2.1 lv →
    W p z.1 e (bRm y.2.2.2.2 mc ms) s m args below meth c H locs k n (MQ below (bQ z Q A) args s mc ms A) (F0 m pc rl st)
theorem bC_of {z : bZ} {y : jm_Y} {as : List Value} {w0 : va_W} {mc ms : Nat} {Q : va_W → Prop} (hy : plainName y.1.cls = true) (hr : y.2.2.2.1 = none) (hi : y.1.name = "<init>") (hn : (lg_sl as).length ≤ y.2.2.1) (h : ∀ A : Nat → Prop, bW z y A mc ms Q 0 (lv_args 0 as) [] w0 0 0) : bC z y as w0 mc ms Q := by
  intro sz
  refine Met.ofW (cc := y.2.1) (maxL := y.2.2.1) (ret := y.2.2.2.1) hy rfl ?_
  intro p e s m args below meth c s₁ B hml hv
  obtain ⟨rfl, hsz, hP, hD0, hG⟩ := hv
  subst hsz
  have hl := lv_entry as (n := y.2.2.1) hn
  have hts := atoms_spec B.pre
  rw [lg_entry_eq]
  exact h (va_A w0 s.heap.size) p e s m _ below meth c s.heap [] _ ⟨B.exec, B.bytes, hml, B.returns.trans hr, findClass_of_methodNamed B.named, fun w hw => hts w (List.mem_cons_of_mem _ hw), B.notSynchronized, hG, (name_of_methodNamed B.named B.method).1.trans hi, fun q h => Or.inr h⟩ hP hD0.self va_S.rf hl
/-- worlds by their members -/
theorem bP_iff {D : va_G} {cl : List vw_C} {ws : va_W} {H : Heap} : va_P D cl ws H ↔ ∀ q ∈ ws, va_at D cl q H := by
  constructor
  · intro h q hq
    obtain ⟨i, hi⟩ := List.getElem?_of_mem hq
    exact h i q hi
  · intro h k q hk
    exact h q (List.mem_of_getElem? hk)
theorem bD_iff {A : Nat → Prop} {ws : va_W} : va_D A ws ↔ (ws.map Prod.fst).Nodup ∧ ∀ q ∈ ws, A q.1 := by
  constructor
  · intro h
    refine ⟨?_, fun q hq => ?_⟩
    · show List.Pairwise _ _
      rw [List.pairwise_iff_getElem]
      intro i j hi hj hij he
      rw [List.length_map] at hi hj
      rw [List.getElem_map, List.getElem_map] at he
      have := h.1 i j _ _ (List.getElem?_eq_getElem hi) (List.getElem?_eq_getElem hj) he
      omega
    · obtain ⟨i, hi⟩ := List.getElem?_of_mem hq
      exact h.2 i q hi
  · intro h
    refine ⟨fun i j p q hp hq he => ?_, fun k q hk => h.2 q (List.mem_of_getElem? hk)⟩
    have hi : (ws.map Prod.fst)[i]? = some p.1 := by rw [List.getElem?_map, hp]; rfl
    have hj : (ws.map Prod.fst)[j]? = some q.1 := by rw [List.getElem?_map, hq]; rfl
    exact (List.getElem?_inj (List.getElem?_eq_some_iff.mp hi).1 h.1).mp (by rw [hi, hj, he])
theorem bP_perm {D : va_G} {cl : List vw_C} {ws ws' : va_W} {H : Heap} (hp : ws.Perm ws') (h : va_P D cl ws H) : va_P D cl ws' H := bP_iff.mpr fun q hq => bP_iff.mp h q (hp.mem_iff.mpr hq)
theorem bD_perm {A : Nat → Prop} {ws ws' : va_W} (hp : ws.Perm ws') (h : va_D A ws) : va_D A ws' := by
  rw [bD_iff] at h ⊢
  exact ⟨(hp.map Prod.fst).nodup_iff.mp h.1, fun q hq => h.2 q (hp.mem_iff.mpr hq)⟩
section BR
variable {z : bZ} {y y' : jm_Y} {A : Nat → Prop} {mc ms : Nat} {Q Q' : va_W → Prop} {pc idx : Nat} {lv lv' : List (Nat × Value)} {st : List Value} {ws R : va_W} {k n : Nat} {hd : Nat × va_E}
theorem br_perm {ws' : va_W} (hp : ws.Perm ws') (kk : bW z y A mc ms Q pc lv st ws' k n) : bW z y A mc ms Q pc lv st ws k n :=
  fun p e s m args below meth c H locs rl hF hP hD hS hl => kk p e s m args below meth c H locs rl hF (bP_perm hp hP) (bD_perm hp hD) hS hl
theorem br_imp {ws' : va_W} (h1 : ∀ H, va_P z.2.1 vwCl ws H → va_P z.2.1 vwCl ws' H) (h2 : va_D A ws → va_D A ws') (kk : bW z y A mc ms Q pc lv st ws' k n) : bW z y A mc ms Q pc lv st ws k n :=
  fun p e s m args below meth c H locs rl hF hP hD hS hl => kk p e s m args below meth c H locs rl hF (h1 H hP) (h2 hD) hS hl
theorem br_aload {kf : Fin 4} {i a : Nat} (hdg : decode y.2.1 pc = .ok (.aload_n kf, 1)) (hi : (kf : Nat) = i) (hm : (i, Value.ref a) ∈ lv) (kk : bW z y A mc ms Q (pc + 1) lv (.ref a :: st) ws k n) : bW z y A mc ms Q pc lv st ws k n :=
  fun p e s m args below meth c H locs rl hF hP hD hS hl => lv_aload_n hF.1 hF.2.1 hdg hi (hl.2.2 _ hm) (kk p e s m args below meth c H locs rl hF hP hD hS hl)
theorem br_iload {kf : Fin 4} {i : Nat} {v : Int32} (hdg : decode y.2.1 pc = .ok (.iload_n kf, 1)) (hi : (kf : Nat) = i) (hm : (i, Value.int v) ∈ lv) (kk : bW z y A mc ms Q (pc + 1) lv (.int v :: st) ws k n) : bW z y A mc ms Q pc lv st ws k n :=
  fun p e s m args below meth c H locs rl hF hP hD hS hl => lv_iload_n hF.1 hF.2.1 hdg hi (hl.2.2 _ hm) (kk p e s m args below meth c H locs rl hF hP hD hS hl)
theorem br_iconst {v : Int} {w : Int32} (hdg : decode y.2.1 pc = .ok (.iconst v, 1)) (hv : Int32.ofInt v = w) (kk : bW z y A mc ms Q (pc + 1) lv (.int w :: st) ws k n) : bW z y A mc ms Q pc lv st ws k n :=
  fun p e s m args below meth c H locs rl hF hP hD hS hl => lv_iconst hF.1 hF.2.1 hdg hv (kk p e s m args below meth c H locs rl hF hP hD hS hl)
theorem br_bipush {v : Int} {w : Int32} (hdg : decode y.2.1 pc = .ok (.bipush v, 2)) (hv : (Int8.ofInt v).toInt32 = w) (kk : bW z y A mc ms Q (pc + 2) lv (.int w :: st) ws k n) : bW z y A mc ms Q pc lv st ws k n :=
  fun p e s m args below meth c H locs rl hF hP hD hS hl => lv_bipush hF.1 hF.2.1 hdg hv (kk p e s m args below meth c H locs rl hF hP hD hS hl)
theorem br_sipush {v : Int} {w : Int32} (hdg : decode y.2.1 pc = .ok (.sipush v, 3)) (hv : (Int16.ofInt v).toInt32 = w) (kk : bW z y A mc ms Q (pc + 3) lv (.int w :: st) ws k n) : bW z y A mc ms Q pc lv st ws k n :=
  fun p e s m args below meth c H locs rl hF hP hD hS hl => lv_sipush hF.1 hF.2.1 hdg hv (kk p e s m args below meth c H locs rl hF hP hD hS hl)
theorem br_lconst {v : Fin 2} {w : Int64} (hdg : decode y.2.1 pc = .ok (.lconst v, 1)) (hv : Int64.ofNat (v : Nat) = w) (kk : bW z y A mc ms Q (pc + 1) lv (.long w :: st) ws k n) : bW z y A mc ms Q pc lv st ws k n :=
  fun p e s m args below meth c H locs rl hF hP hD hS hl => lv_lconst hF.1 hF.2.1 hdg hv (kk p e s m args below meth c H locs rl hF hP hD hS hl)
theorem br_dup {a : Nat} (hdg : decode y.2.1 pc = .ok (.dup, 1)) (kk : bW z y A mc ms Q (pc + 1) lv (.ref a :: .ref a :: st) ws k n) : bW z y A mc ms Q pc lv (.ref a :: st) ws k n :=
  fun p e s m args below meth c H locs rl hF hP hD hS hl => lv_dup hF.1 hF.2.1 hdg rfl (kk p e s m args below meth c H locs rl hF hP hD hS hl)
theorem br_istore {kf : Fin 4} {i : Nat} {v : Int32} (hdg : decode y.2.1 pc = .ok (.istore_n kf, 1)) (hi : (kf : Nat) = i) (hn : i < y.2.2.1) (hl' : (i, Value.int v) :: lv.filter (fun q => !(q.1 == i) && !(q.1 + 1 == i && q.2.category == 2)) = lv') (kk : bW z y A mc ms Q (pc + 1) lv' st ws k n) : bW z y A mc ms Q pc lv (.int v :: st) ws k n :=
  fun p e s m args below meth c H locs rl hF hP hD hS hl => lv_istore_n hF.1 hF.2.1 hdg hi hl hn hl' (fun rl' h' => kk p e s m args below meth c H locs rl' hF hP hD hS h')
theorem br_iinc {i j : Nat} {a : Int} {v w : Int32} (hdg : decode y.2.1 pc = .ok (.iinc i a, 3)) (hj : lv[j]? = some (i, .int v)) (hv : v + Int32.ofInt a = w) (hn : i < y.2.2.1) (hl' : (i, Value.int w) :: lv.filter (fun q => !(q.1 == i) && !(q.1 + 1 == i && q.2.category == 2)) = lv') (kk : bW z y A mc ms Q (pc + 3) lv' st ws k n) : bW z y A mc ms Q pc lv st ws k n :=
  fun p e s m args below meth c H locs rl hF hP hD hS hl => lv_iinc hF.1 hF.2.1 hdg hl hj hv hn hl' (fun rl' h' => kk p e s m args below meth c H locs rl' hF hP hD hS h')
theorem br_goto {off : Int} {tgt : Nat} (hdg : decode y.2.1 pc = .ok (.goto off, 3)) (ht : (pc : Int) + off = (tgt : Int)) (kk : bW z y A mc ms Q tgt lv st ws k n) : bW z y A mc ms Q pc lv st ws k n :=
  fun p e s m args below meth c H locs rl hF hP hD hS hl => lv_goto hF.1 hF.2.1 hdg ht (kk p e s m args below meth c H locs rl hF hP hD hS hl)
theorem br_icmpge {off : Int} {tgt : Nat} {a b : Int32} (hdg : decode y.2.1 pc = .ok (.if_icmp .ge off, 3)) (ht : (pc : Int) + off = (tgt : Int)) (k1 : b ≤ a → bW z y A mc ms Q tgt lv st ws k n) (k2 : ¬ b ≤ a → bW z y A mc ms Q (pc + 3) lv st ws k n) : bW z y A mc ms Q pc lv (.int b :: .int a :: st) ws k n :=
  fun p e s m args below meth c H locs rl hF hP hD hS hl => lv_icmp_ge hF.1 hF.2.1 hdg ht (fun q => k1 q p e s m args below meth c H locs rl hF hP hD hS hl) (fun q => k2 q p e s m args below meth c H locs rl hF hP hD hS hl)
theorem br_objInit {a : Nat} (hdg : decode y.2.1 pc = .ok (.invokespecial idx, 3)) (h1 : Cond.methodLink y.1.cls idx Lib.objectInit ∈ jm_big) (h2 : Cond.instanceMethod Lib.objectInit ∈ jm_big) (h3 : Cond.code Lib.objectInit ⟨#[0xb1]⟩ 1 none ∈ jm_big) (hdp : 1 ≤ y.2.2.2.2) (kk : bW z y A mc ms Q (pc + 3) lv [] ws k n) : bW z y A mc ms Q pc lv [.ref a] ws k n := by
  intro p e s m args below meth c H locs rl hF hP hD hS hl
  have hts := hF.2.2.2.2.2.1
  refine W.objInit hF.1 hF.2.1 hF.2.2.2.2.1 (hts _ h1) (hts _ h2) (hts _ h3) rfl (hl.1.trans hF.2.2.1.symm) rfl hdg hdp ?_ ?_
  · show 2 * 0 + 0 + 12 ≤ 34 * y.2.2.2.2
    omega
  · exact kk p e s m args below meth c H locs rl hF hP hD hS hl
theorem br_vret (hdg : decode y.2.1 pc = .ok (.return_, 1)) (hk : k = mc) (hn : n = ms) (q : Q ws) : bW z y A mc ms Q pc lv [] ws k n := by
  intro p e s m args below meth c H locs rl hF hP hD hS hl
  subst hk
  subst hn
  exact W.vret (hlocks := hF.2.2.2.2.2.2.1) hF.1 hF.2.1 hF.2.2.2.1 (fun t ht hW => ⟨⟨ws, rfl, q, by rw [ht]; exact hP, hD⟩, hS.F ht⟩) hS.2.2 hdg
/-- a field of the receiver: put, got -/
theorem br_putF {kk0 nk ci i a : Nat} {f0 : List (Nat × Nat × Nat)} {C : String} {T : u_T} {N : Nat} {ty : Nat → FieldType} {fs : List Value} {v : Value} (hc : jm_cls kk0 nk ci f0 C T N ty) (hdg : decode y.2.1 pc = .ok (.putfield idx, 3)) (hl' : Cond.fieldLink y.1.cls idx C (T i).2.1 (T i).2.2.1 ∈ jm_big) (hi : i < N) (hown : y.1.cls = C) (hfin : (T i).2.2.2 = true) (hn : narrow (ty i) v = v) (hfit : fits (ty i) v = true) (hlen : i < fs.length) (kk : bW z y A mc ms Q (pc + 3) lv st ((a, .inr (ci, fs.set i v)) :: R) k n) : bW z y A mc ms Q pc lv (v :: .ref a :: st) ((a, .inr (ci, fs)) :: R) k n := by
  intro p e s m args below meth c H locs rl hF hP hD hS hl
  have hts := hF.2.2.2.2.2.1
  obtain ⟨h1, h2, h3, h4, h5, h6, h7, h8, h9⟩ := hc
  exact va_putF (v := v) (ty := ty i) hF.1 hF.2.1 hts h6 ty h8 h9 hF.2.2.2.2.1 hF.2.2.2.2.2.2.2.1.1 hP hD hS 0 rfl h4 i hi (hts _ hl') (by rw [h7 i hi]; exact fun _ h => h) hfin hF.2.2.2.2.2.2.2.2.1 (by rw [h7 i hi]; exact hown.symm) (h8 i hi) hn hfit hlen hdg (fun H1 locs1 g1 g2 g3 => kk p e s m args below meth c H1 locs1 rl hF g1 g2 g3 hl)
theorem br_put {kk0 nk ci i a : Nat} {f0 : List (Nat × Nat × Nat)} {C : String} {T : u_T} {N : Nat} {ty : Nat → FieldType} {fs : List Value} {v : Value} (hc : jm_cls kk0 nk ci f0 C T N ty) (hdg : decode y.2.1 pc = .ok (.putfield idx, 3)) (hl' : Cond.fieldLink y.1.cls idx C (T i).2.1 (T i).2.2.1 ∈ jm_big) (hi : i < N) (hfin : (T i).2.2.2 = false) (hn : narrow (ty i) v = v) (hfit : fits (ty i) v = true) (hlen : i < fs.length) (kk : bW z y A mc ms Q (pc + 3) lv st ((a, .inr (ci, fs.set i v)) :: R) k n) : bW z y A mc ms Q pc lv (v :: .ref a :: st) ((a, .inr (ci, fs)) :: R) k n := by
  intro p e s m args below meth c H locs rl hF hP hD hS hl
  have hts := hF.2.2.2.2.2.1
  obtain ⟨h1, h2, h3, h4, h5, h6, h7, h8, h9⟩ := hc
  exact va_put (v := v) (ty := ty i) hF.1 hF.2.1 hts h6 ty h8 h9 hF.2.2.2.2.1 hF.2.2.2.2.2.2.2.1.1 hP hD hS 0 rfl h4 i hi (hts _ hl') (by rw [h7 i hi]; exact fun _ h => h) hfin (h8 i hi) hn hfit hlen hdg (fun H1 locs1 g1 g2 g3 => kk p e s m args below meth c H1 locs1 rl hF g1 g2 g3 hl)
theorem br_get {kk0 nk ci i a : Nat} {f0 : List (Nat × Nat × Nat)} {C : String} {T : u_T} {N : Nat} {ty : Nat → FieldType} {fs : List Value} {v : Value} (hc : jm_cls kk0 nk ci f0 C T N ty) (hdg : decode y.2.1 pc = .ok (.getfield idx, 3)) (hl' : Cond.fieldLink y.1.cls idx C (T i).2.1 (T i).2.2.1 ∈ jm_big) (hi : i < N) (hv : fs[i]? = some v) (kk : bW z y A mc ms Q (pc + 3) lv (v :: st) ((a, .inr (ci, fs)) :: R) k n) : bW z y A mc ms Q pc lv (.ref a :: st) ((a, .inr (ci, fs)) :: R) k n := by
  intro p e s m args below meth c H locs rl hF hP hD hS hl
  have hts := hF.2.2.2.2.2.1
  obtain ⟨h1, h2, h3, h4, h5, h6, h7, h8, h9⟩ := hc
  exact va_get (v := v) hF.1 hF.2.1 hts h6 hF.2.2.2.2.1 hF.2.2.2.2.2.2.2.1.1 hP 0 rfl h4 i hi (hts _ hl') (by rw [h7 i hi]; exact fun _ h => h) hv hdg (kk p e s m args below meth c H locs rl hF hP hD hS hl)
/-- a new object, a new array: the last cell -/
theorem br_new {kk0 nk ci : Nat} {f0 : List (Nat × Nat × Nat)} {C : String} {T : u_T} {N : Nat} {ty : Nat → FieldType} {fs : List Value} (hc : jm_cls kk0 nk ci f0 C T N ty) (hdg : decode y.2.1 pc = .ok (.new idx, 3)) (h1 : Cond.classLink y.1.cls idx C ∈ jm_big) (h2 : Cond.instantiable C N ∈ jm_big) (h3 : Cond.initialized C ∈ jm_big) (hfs : ∀ j, j < N → defaultValue (ty j) = vp_V fs j) (hk : k + 1 ≤ mc) (hn : n + N ≤ ms) (kk : ∀ q : Nat, bW z y A mc ms Q (pc + 3) lv (.ref q :: st) (hd :: (R ++ [(q, .inr (ci, fs))])) (k + 1) (n + N)) : bW z y A mc ms Q pc lv st (hd :: R) k n := by
  intro p e s m args below meth c H locs rl hF hP hD hS hl
  have hts := hF.2.2.2.2.2.1
  obtain ⟨g1, g2, g3, g4, g5, g6, g7, g8, g9⟩ := hc
  exact va_new (fs := fs) hF.1 hF.2.1 hts g6 ty g8 hF.2.2.2.2.1 (hts _ h1) (hts _ h2) (hts _ h3) hF.2.2.2.2.2.2.2.1.1 hP hD hS hF.2.2.2.2.2.2.2.2.2 g4 hfs hk hn hdg (fun q H1 p1 p2 p3 => kk q p e s m args below meth c H1 locs rl hF p1 p2 p3 hl)
theorem br_newa {at0 : ArrayType} {ty : FieldType} {t : Nat} {v : Int32} {N : Nat} (hdg : decode y.2.1 pc = .ok (.newarray at0, 2)) (h1 : Cond.arrayClass (newarray.typeOf at0) ∈ jm_big) (hty : newarray.typeOf at0 = ty) (ht : (bTy z)[t]? = some (z.2.2 t, ty)) (ht3 : ty = .int ∨ ty = .char ∨ ty = .boolean) (hv : ¬ v < 0) (hN : v.toNatClampNeg = N) (hby : N * componentBytes ty ≤ 536870912) (hk : k + 1 ≤ mc) (hn : n + N ≤ ms) (kk : ∀ q : Nat, bW z y A mc ms Q (pc + 2) lv (.ref q :: st) (hd :: (R ++ [(q, .inl (z.2.2 t, N, .inl (fun _ => 0)))])) (k + 1) (n + N)) : bW z y A mc ms Q pc lv (.int v :: st) (hd :: R) k n := by
  intro p e s m args below meth c H locs rl hF hP hD hS hl
  have hts := hF.2.2.2.2.2.1
  have hK := hF.2.2.2.2.2.2.2.1.1
  refine va_newa (a0 := (N, .inl (fun _ => 0))) hF.1 hF.2.1 (hts _ h1) hty hK hP hD hS hF.2.2.2.2.2.2.2.2.2 (fun cA => ?_) hv hN hby hk hn hdg (fun q cA H1 pK p1 p2 p3 => ?_)
  · rcases ht3 with e | e | e <;> rw [e] <;> rfl
  · have a1 := (pK.2 (bTy z).length (cA, ty) (by rw [List.getElem?_append_right (Nat.le_refl _), Nat.sub_self]; rfl)).2
    have a2 := (hK.2 t _ ht).2
    have e0 : cA = z.2.2 t := by
      rcases ht3 with e | e | e <;> subst e <;> exact Option.some.inj (a1.symm.trans a2)
    rw [e0] at p1 p2
    exact kk q p e s m args below meth c H1 locs rl hF p1 p2 p3 hl
theorem br_newq {v : Int32} {N : Nat} (hdg : decode y.2.1 pc = .ok (.anewarray idx, 3)) (h1 : Cond.classLink y.1.cls idx "PaidRests$Standing" ∈ jm_big) (hv : ¬ v < 0) (hN : v.toNatClampNeg = N) (hby : N * 4 ≤ 536870912) (hk : k + 1 ≤ mc) (hn : n + N ≤ ms) (kk : ∀ q : Nat, bW z y A mc ms Q (pc + 3) lv (.ref q :: st) (hd :: (R ++ [(q, .inl (z.2.2 3, N, .inr (.inr (.inr (.inr (fun _ => none))))))])) (k + 1) (n + N)) : bW z y A mc ms Q pc lv (.int v :: st) (hd :: R) k n := by
  intro p e s m args below meth c H locs rl hF hP hD hS hl
  have hts := hF.2.2.2.2.2.1
  have hK := hF.2.2.2.2.2.2.2.1.1
  refine va_newq hF.1 hF.2.1 hF.2.2.2.2.1 (hts _ h1) hF.2.2.2.2.2.2.2.1.2.1 hK hP hD hS hF.2.2.2.2.2.2.2.2.2 hv hN hby hk hn hdg (fun q cA H1 pK p1 p2 p3 => ?_)
  have a1 := (pK.2 (bTy z).length (cA, .object "PaidRests$Standing") (by rw [List.getElem?_append_right (Nat.le_refl _), Nat.sub_self]; rfl)).2
  have a2 := (hK.2 3 _ rfl).2
  obtain ⟨-, -, -, -, -, b1⟩ := a1
  obtain ⟨-, -, -, -, -, b2⟩ := a2
  have e0 : cA = z.2.2 3 := Option.some.inj (b1.symm.trans b2)
  rw [e0] at p1 p2
  exact kk q p e s m args below meth c H1 locs rl hF p1 p2 p3 hl
/-- an int into an array; a Standing into an array of them -/
theorem br_iast {q0 N a : Nat} {f : Nat → Int32} {i v : Int32} (hdg : decode y.2.1 pc = .ok (.iastore, 1)) (hq : ws[q0]? = some (a, .inl (z.2.2 0, N, .inl f))) (hin : vp_in i N) (kk : bW z y A mc ms Q (pc + 1) lv st (ws.set q0 (a, .inl (z.2.2 0, N, .inl (upd f i.toNatClampNeg v)))) k n) : bW z y A mc ms Q pc lv (.int v :: .int i :: .ref a :: st) ws k n := by
  intro p e s m args below meth c H locs rl hF hP hD hS hl
  exact va_iast hF.1 hF.2.1 hF.2.2.2.2.2.2.2.1.1 hP hD hS q0 0 hq rfl hin hdg (fun H1 locs1 g1 g2 g3 => kk p e s m args below meth c H1 locs1 rl hF g1 g2 g3 hl)
theorem br_astq {q0 qk N a b : Nat} {vs : List Value} {f : Nat → Option Nat} {i : Int32} (hdg : decode y.2.1 pc = .ok (.aastore, 1)) (hq : ws[q0]? = some (a, .inl (z.2.2 3, N, .inr (.inr (.inr (.inr f)))))) (hv : ws[qk]? = some (b, .inr (6, vs))) (hin : vp_in i N) (kk : bW z y A mc ms Q (pc + 1) lv st (ws.set q0 (a, .inl (z.2.2 3, N, .inr (.inr (.inr (.inr (va_up f i.toNatClampNeg (some b)))))))) k n) : bW z y A mc ms Q pc lv (.ref b :: .int i :: .ref a :: st) ws k n := by
  intro p e s m args below meth c H locs rl hF hP hD hS hl
  exact va_astq (r := (RX6, TX6, 4)) hF.1 hF.2.1 hF.2.2.2.2.2.2.2.1.1 hP hD hS q0 3 qk 6 hq rfl hv rfl hin hdg (fun H1 locs1 g1 g2 g3 => kk p e s m args below meth c H1 locs1 rl hF g1 g2 g3 hl)
theorem b_blind {as : List Value} {w0 : va_W} {sz : Nat} : FrameBlind (va_Pc as (bP z w0 sz)) := by
  intro a U g mk q
  obtain ⟨h0, h1, h2, h3, h4, h5, h6⟩ := q
  exact ⟨h0, h1, h2, h3, va_K.moved (u := U) (U := U.calling g mk a) (Vm.Alike.refl U.vm) h4, h5, fun w hw => va_Nw.same rfl rfl (h6 w hw)⟩
/-- behind a call of a constructor -/
theorem b_call {q : Nat} {e0 : va_E} {a : Array Value} {p : Program} {e : Env} {s : State} {m : MethodId} {args : Array Value} {below : List Frame} {meth : Method} {c : Code} {H : Heap} {locs : List Loc} {Z : State → Prop} {rl : Array Slot} {st0 : List Value} {mc' ms' : Nat} {Rm : Room}
    (hr : va_Run p z.1 e Rm s m args below meth c H locs k n mc' ms' (F0 m pc rl st0) st (bQ z Q' (va_A [(q, e0)] H.size) a) (va_A [(q, e0)] H.size)) (hP : va_P z.2.1 vwCl (hd :: (R ++ [(q, e0)])) H) (hD : va_D A (hd :: (R ++ [(q, e0)]))) (hS : va_S A s.heap H locs) (hA : ∀ q : Nat, s.heap.size ≤ q → A q)
    (kk : ∀ (w1 : va_W) (H1 : Heap) (locs1 : List Loc), Q' w1 → va_P z.2.1 vwCl (hd :: (R ++ w1)) H1 → va_D A (hd :: (R ++ w1)) → va_S A s.heap H1 locs1 → W p z.1 e Rm s m args below meth c H1 locs1 (k + mc') (n + ms') Z (F0 m (pc + 3) rl st)) : W p z.1 e Rm s m args below meth c H locs k n Z (F0 m pc rl st0) := by
  intro T hT X
  obtain ⟨v, st₀, t, T', L, h0, X', hL, e1, e2, ⟨⟨w1, hv, hq, hp, hd1⟩, hz, hk⟩, stp⟩ := hr T hT X
  cases hv
  rw [h0] at hz hk
  rw [bP_iff] at hP
  rw [bD_iff] at hD
  have hqA : A q := hD.2 (q, e0) (by simp)
  have free : ∀ q', va_A [(q, e0)] H.size q' → A q' := by
    intro q' h
    rcases h with ⟨i, e', h⟩ | h
    · have := List.mem_of_getElem? h
      simp at this
      rw [this.1]; exact hqA
    · exact hA _ (Nat.le_trans hS.1 h)
  have old : ∀ r ∈ hd :: R, r.1 < H.size ∧ ¬ va_A [(q, e0)] H.size r.1 := by
    intro r hr
    have hlt : r.1 < H.size := (hP r (by rcases List.mem_cons.mp hr with h | h <;> simp [h])).lt
    refine ⟨hlt, fun h => ?_⟩
    rcases h with ⟨i, e', h⟩ | h
    · have := List.mem_of_getElem? h
      simp at this
      have hn := hD.1
      rw [show hd :: (R ++ [(q, e0)]) = (hd :: R) ++ [(q, e0)] from rfl, List.map_append, List.nodup_append] at hn
      exact hn.2.2 r.1 (List.mem_map.mpr ⟨r, hr, rfl⟩) q (by simp) this.1
    · omega
  have hp' := bP_iff.mp hp
  have hd1' := bD_iff.mp hd1
  have P1 : va_P z.2.1 vwCl (hd :: (R ++ w1)) T'.heap := by
    rw [bP_iff]
    intro r hr
    rw [show hd :: (R ++ w1) = (hd :: R) ++ w1 from rfl] at hr
    rw [e1]
    rcases List.mem_append.mp hr with h | h
    · exact (hP r (by rw [show hd :: (R ++ [(q, e0)]) = (hd :: R) ++ [(q, e0)] from rfl]; exact List.mem_append_left _ h)).kept (hk r.1 (old r h).1 (old r h).2)
    · exact hp' r h
  have D1 : va_D A (hd :: (R ++ w1)) := by
    rw [bD_iff]
    have hn := hD.1
    rw [show hd :: (R ++ [(q, e0)]) = (hd :: R) ++ [(q, e0)] from rfl, List.map_append, List.nodup_append] at hn
    refine ⟨?_, fun r hr => ?_⟩
    · rw [show hd :: (R ++ w1) = (hd :: R) ++ w1 from rfl, List.map_append, List.nodup_append]
      refine ⟨hn.1, hd1'.1, fun a ha b hb hab => ?_⟩
      obtain ⟨r, hr, rfl⟩ := List.mem_map.mp ha
      obtain ⟨r', hr', rfl⟩ := List.mem_map.mp hb
      have := hd1'.2 r' hr'
      rw [← hab] at this
      exact (old r hr).2 this
    · rw [show hd :: (R ++ w1) = (hd :: R) ++ w1 from rfl] at hr
      rcases List.mem_append.mp hr with h | h
      · exact hD.2 r (by rw [show hd :: (R ++ [(q, e0)]) = (hd :: R) ++ [(q, e0)] from rfl]; exact List.mem_append_left _ h)
      · exact free _ (hd1'.2 r h)
  obtain ⟨t2, a1, b1⟩ := kk w1 T'.heap (locs ++ L) hq P1 D1
    ⟨Nat.le_trans hS.1 (by rw [e1]; exact hz), fun q' h1 h2 => by rw [e1, hk q' (Nat.lt_of_lt_of_le h1 hS.1) (fun h => h2 (free q' h))]; exact hS.2.1 q' h1 h2, fun q' hq' => by
      rcases List.mem_append.mp hq' with h | h
      · exact hS.2.2 q' h
      · exact free _ (hL q' h)⟩ T' rfl X'
  exact ⟨t2, stp t2 a1, b1⟩
theorem b_room {d d' a mc' ms' : Nat} (h : d' + 1 ≤ d) (ha : 19 + a ≤ 34) : (bRm d' mc' ms').frames + 1 ≤ (bRm d mc ms).frames ∧ 8 + (a + 11) + (bRm d' mc' ms').locals ≤ (bRm d mc ms).locals := by
  refine ⟨h, ?_⟩
  show 8 + (a + 11) + 34 * d' ≤ 34 * d
  omega
theorem br_init {q nn mc' ms' : Nat} {e0 : va_E} {as : List Value} (hdg : decode y.2.1 pc = .ok (.invokespecial idx, 3)) (hf : jm_cf y y' nn) (hl' : Cond.methodLink y.1.cls idx y'.1 ∈ jm_big) (hi : Cond.instanceMethod y'.1 ∈ jm_big) (hnm : y'.1.name = "<init>") (hrt : y'.2.2.2.1 = none) (hn : as.length = nn) (hst : (st.map fun v => v.category).sum ≤ 8) (hC : bC z y' (.ref q :: as) [(q, e0)] mc' ms' Q') (hk1 : k + mc' ≤ mc) (hk2 : n + ms' ≤ ms) (kk : ∀ w1, Q' w1 → bW z y A mc ms Q (pc + 3) lv st (hd :: (R ++ w1)) (k + mc') (n + ms')) : bW z y A mc ms Q pc lv (as.reverse ++ .ref q :: st) (hd :: (R ++ [(q, e0)])) k n := by
  intro p e s m args below meth c H locs rl hF hP hD hS hl
  obtain ⟨c1, c2, c3, c4, c5⟩ := hf
  have hts := hF.2.2.2.2.2.1
  have hPc : va_P z.2.1 vwCl [(q, e0)] H := bP_iff.mpr (fun r hr => bP_iff.mp hP r (by simp at hr; simp [hr]))
  have hDc : va_D (fun _ => True) [(q, e0)] := bD_iff.mpr ⟨by simp, fun _ _ => trivial⟩
  have hB := callB_of nn hts (jm_ws_good c1) (rm := bRm y'.2.2.2.2 mc' ms') (R := bRm y.2.2.2.2 mc ms) rfl rfl rfl (hts _ c2) (hts _ hl') c3 (b_room c4 c5)
  rw [hrt] at hB
  have hM := hC H.size
  rw [hrt] at hM
  refine b_call (va_runI (As := as) (b := q) ⟨hF.1, hF.2.1, hF.2.2.1, hF.2.2.2.2.1, hts⟩ hM ⟨hB, hnm, hts _ hi⟩ ⟨b_blind, fun U hU hW => ⟨rfl, by rw [hU], by rw [hU]; exact hPc, hDc, hF.2.2.2.2.2.2.2.1.moved hW⟩⟩ rfl hn hl.1 rfl (lv_room hst) hdg ⟨hk1, hk2⟩) hP hD hS hF.2.2.2.2.2.2.2.2.2 (fun w1 H1 locs1 hq p1 d1 s1 => kk w1 hq p e s m args below meth c H1 locs1 rl hF p1 d1 s1 hl)
theorem br_initN {q nn mc' ms' : Nat} {e0 : va_E} {as : List Value} (hdg : decode y.2.1 pc = .ok (.invokespecial idx, 3)) (hf : jm_cf y y' nn) (hl' : (y.1.cls, idx, y'.1) ∈ jm_nestM) (hi : Cond.instanceMethod y'.1 ∈ jm_big) (hnm : y'.1.name = "<init>") (hrt : y'.2.2.2.1 = none) (hn : as.length = nn) (hst : (st.map fun v => v.category).sum ≤ 8) (hC : bC z y' (.ref q :: as) [(q, e0)] mc' ms' Q') (hk1 : k + mc' ≤ mc) (hk2 : n + ms' ≤ ms) (kk : ∀ w1, Q' w1 → bW z y A mc ms Q (pc + 3) lv st (hd :: (R ++ w1)) (k + mc') (n + ms')) : bW z y A mc ms Q pc lv (as.reverse ++ .ref q :: st) (hd :: (R ++ [(q, e0)])) k n := by
  intro p e s m args below meth c H locs rl hF hP hD hS hl
  obtain ⟨c1, c2, c3, c4, c5⟩ := hf
  have hts := hF.2.2.2.2.2.1
  have hnw := hF.2.2.2.2.2.2.2.1.2.2 _ hl'
  have hPc : va_P z.2.1 vwCl [(q, e0)] H := bP_iff.mpr (fun r hr => bP_iff.mp hP r (by simp at hr; simp [hr]))
  have hDc : va_D (fun _ => True) [(q, e0)] := bD_iff.mpr ⟨by simp, fun _ _ => trivial⟩
  have hB := va_cnB (host := "PaidRests") nn hts (jm_ws_good c1) (rm := bRm y'.2.2.2.2 mc' ms') (R := bRm y.2.2.2.2 mc ms) rfl rfl rfl hnw (hts _ c2) c3 (b_room c4 c5)
  rw [hrt] at hB
  have hM := hC H.size
  rw [hrt] at hM
  refine b_call (va_runIN (As := as) (b := q) ⟨hF.1, hF.2.1, hF.2.2.1, hF.2.2.2.2.1, hts⟩ hM ⟨hB, hnm, hts _ hi⟩ ⟨b_blind, fun U hU hW => ⟨rfl, by rw [hU], by rw [hU]; exact hPc, hDc, hF.2.2.2.2.2.2.2.1.moved hW⟩⟩ rfl hn hl.1 rfl (lv_room hst) hdg ⟨hk1, hk2⟩) hP hD hS hF.2.2.2.2.2.2.2.2.2 (fun w1 H1 locs1 hq p1 d1 s1 => kk w1 hq p e s m args below meth c H1 locs1 rl hF p1 d1 s1 hl)
end BR
