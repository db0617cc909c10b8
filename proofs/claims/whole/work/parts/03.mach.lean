/-! The small machine: values, memory by kinds of cells, and its judgement jm_W over the kit's W. No cell is made in it. -/
abbrev jm_V : Type := Int32 ⊕ (Int64 ⊕ (Nat × Nat))
abbrev jm_M : Type := (Nat → Nat → Nat → Int32) × (Nat → Int64)
abbrev jm_S : Type := List (Option jm_V) × List jm_V × jm_M
/-- launch, class ids and slots, own addresses, addresses of the cells (kind, number), class ids of arrays -/
abbrev jm_X : Type := Launch × va_G × (Nat → Prop) × (Nat → Nat → Nat) × (Nat → ClassId)
/-- a method: name, bytes, locals, what it returns, depth of its calls -/
abbrev jm_Y : Type := MethodName × ByteArray × Nat × Option FieldType × Nat
def jm_big : List Cond := lw_tbl.filter goodWord
theorem jm_good : GoodIn jm_big jm_big := fun w h => ⟨h, good_of_word (List.mem_filter.mp h).2⟩
theorem jm_in {w : Cond} (h : w ∈ lw_tbl) (g : goodWord w = true) : w ∈ jm_big := List.mem_filter.mpr ⟨h, g⟩
def jm_tr (x : jm_X) : jm_V → Value
  | .inl i => .int i
  | .inr (.inl j) => .long j
  | .inr (.inr r) => .ref (x.2.2.2.1 r.1 r.2)
/-- what a field of an object of kind k, number j holds: 0 an int, 1 a long, 2 the cell of that kind with the same number, 3 a fixed cell -/
def jm_fv (x : jm_X) (μ : jm_M) (k j i : Nat) : Nat × Nat × Nat → Value
  | (0, _, _) => .int (μ.1 k j i)
  | (1, _, _) => .long (μ.2 k)
  | (2, k', _) => .ref (x.2.2.2.1 k' j)
  | (_, k', j') => .ref (x.2.2.2.1 k' j')
def jm_fl (x : jm_X) (μ : jm_M) (k j : Nat) : Nat → List (Nat × Nat × Nat) → List Value
  | _, [] => []
  | i, f :: fs => jm_fv x μ k j i f :: jm_fl x μ k j (i + 1) fs
/-- a kind: an array (type, length, of references: kind and first number of what it holds) or an object (class, fields) -/
abbrev jm_D : Type := (Nat × Nat × Nat × Nat) ⊕ (Nat × List (Nat × Nat × Nat))
def jm_ent (x : jm_X) (μ : jm_M) (k j : Nat) : jm_D → va_E
  | .inl (3, n, k', b) => .inl (x.2.2.2.2 3, n, .inr (.inr (.inr (.inr (fun i => some (x.2.2.2.1 k' (b + i)))))))
  | .inl (t, n, _, _) => .inl (x.2.2.2.2 t, n, .inl (μ.1 k j))
  | .inr (ci, fs) => .inr (ci, jm_fl x μ k j 0 fs)
def jm_kinds : List jm_D := [.inl (0, 5, 0, 0), .inr (0, [(3, 8, 0), (3, 6, 0), (2, 11, 0), (0, 0, 0), (0, 0, 0)]), .inr (1, [(3, 8, 0), (3, 6, 0), (2, 12, 0), (2, 13, 0), (2, 14, 0)]), .inr (2, [(2, 15, 0), (0, 0, 0), (0, 0, 0)]), .inr (3, [(2, 16, 0), (0, 0, 0), (0, 0, 0), (0, 0, 0), (0, 0, 0), (0, 0, 0), (0, 0, 0), (0, 0, 0)]), .inr (4, [(3, 8, 0), (3, 6, 0), (2, 17, 0), (2, 18, 0), (0, 0, 0), (0, 0, 0)]), .inr (5, [(3, 8, 0), (2, 19, 0), (2, 20, 0), (2, 21, 0)]), .inr (6, [(2, 22, 0), (2, 23, 0), (2, 24, 0), (0, 0, 0)]), .inr (7, [(0, 0, 0), (0, 0, 0), (0, 0, 0), (0, 0, 0), (0, 0, 0), (2, 25, 0), (2, 26, 0), (2, 27, 0), (2, 28, 0)]), .inr (8, [(3, 4, 0), (3, 8, 0), (3, 8, 1), (3, 7, 0), (3, 3, 0), (2, 29, 0), (0, 0, 0), (3, 6, 0), (3, 5, 0), (3, 1, 0), (3, 2, 0), (2, 30, 0), (2, 31, 0), (2, 32, 0), (0, 0, 0), (1, 0, 0)]), .inr (9, [(0, 0, 0), (1, 0, 0), (2, 33, 0), (0, 0, 0), (0, 0, 0), (0, 0, 0), (0, 0, 0), (0, 0, 0), (0, 0, 0), (2, 34, 0), (2, 35, 0), (2, 36, 0), (2, 37, 0), (2, 38, 0), (0, 0, 0), (2, 39, 0), (2, 40, 0), (2, 41, 0), (2, 42, 0), (2, 43, 0), (0, 0, 0), (2, 44, 0), (2, 45, 0), (0, 0, 0), (2, 46, 0), (2, 47, 0), (0, 0, 0), (0, 0, 0)]), .inl (0, 12, 0, 0), .inl (0, 5, 0, 0), .inl (0, 5, 0, 0), .inl (0, 5, 0, 0), .inl (3, 10, 7, 3), .inl (1, 200, 0, 0), .inl (0, 5, 0, 0), .inl (0, 5, 0, 0), .inl (0, 5, 0, 0), .inl (0, 5, 0, 0), .inl (0, 6, 0, 0), .inl (0, 5, 0, 0), .inl (0, 5, 0, 0), .inl (0, 5, 0, 0), .inl (0, 5, 0, 0), .inl (0, 5, 0, 0), .inl (0, 5, 0, 0), .inl (0, 5, 0, 0), .inl (3, 2, 7, 1), .inl (0, 5, 0, 0), .inl (0, 6, 0, 0), .inl (0, 6, 0, 0), .inl (0, 200, 0, 0), .inl (0, 10, 0, 0), .inl (0, 10, 0, 0), .inl (0, 10, 0, 0), .inl (0, 10, 0, 0), .inl (0, 10, 0, 0), .inl (0, 16, 0, 0), .inl (0, 16, 0, 0), .inl (0, 32, 0, 0), .inl (2, 2, 0, 0), .inl (0, 160, 0, 0), .inl (0, 6, 0, 0), .inl (0, 6, 0, 0), .inl (0, 5, 0, 0), .inl (0, 5, 0, 0)]
def jm_cnts : List Nat := [1, 1, 1, 1, 1, 1, 1, 13, 2, 1, 1, 1, 1, 1, 1, 1, 1, 1, 1, 1, 1, 1, 13, 13, 13, 2, 2, 2, 2, 1, 1, 1, 1, 1, 1, 1, 1, 1, 1, 1, 1, 1, 1, 1, 1, 1, 1, 1]
def jm_nestF : List (String × Nat) := [("PaidRests$Outlook", 54), ("PaidRests$Sharing", 74)]
def jm_nestM : List (String × Nat × MethodName) := [("PaidRests", 11, ⟨"PaidRests$Reader", "<init>", "()V"⟩), ("PaidRests", 18, ⟨"PaidRests$Told", "<init>", "()V"⟩), ("PaidRests", 28, ⟨"PaidRests$Standing", "<init>", "()V"⟩), ("PaidRests$Outlook", 67, ⟨"PaidRests", "savedAfter", "(II)I"⟩), ("PaidRests$Past", 24, ⟨"PaidRests$Standing", "<init>", "()V"⟩), ("PaidRests$Stage", 82, ⟨"PaidRests", "longestRun", "(I)I"⟩)]
def jm_kd (k : Nat) : jm_D := jm_kinds.getD k (.inr (0, []))
def jm_cnt (k : Nat) : Nat := jm_cnts.getD k 0
def jm_len (k : Nat) : Nat := match jm_kd k with
  | .inl a => a.2.1
  | _ => 0
def jm_cells : List (Nat × Nat) := (List.range jm_kinds.length).flatMap fun k => (List.range (if k = 0 then 0 else jm_cnt k)).map fun j => (k, j)
theorem jm_nodup : jm_cells.Nodup := by decide +kernel
def jm_ws (x : jm_X) (μ : jm_M) : va_W := jm_cells.map fun c => (x.2.2.2.1 c.1 c.2, jm_ent x μ c.1 c.2 (jm_kd c.1))
theorem jm_cell {k j : Nat} (hk : k ≠ 0) (hj : j < jm_cnt k) : (k, j) ∈ jm_cells := by
  have hl : k < jm_kinds.length := by
    rcases Nat.lt_or_ge k jm_kinds.length with h | h
    · exact h
    · exfalso
      have e : jm_kinds.length = jm_cnts.length := by decide +kernel
      have : jm_cnt k = 0 := by unfold jm_cnt; rw [List.getD_eq_getElem?_getD, List.getElem?_eq_none (by omega)]; rfl
      omega
  refine List.mem_flatMap.mpr ⟨k, List.mem_range.mpr hl, List.mem_map.mpr ⟨j, List.mem_range.mpr ?_, rfl⟩⟩
  rw [if_neg hk]; exact hj
theorem jm_at {k j : Nat} (hk : k ≠ 0) (hj : j < jm_cnt k) (x : jm_X) (μ : jm_M) : ∃ q0 : Nat, jm_cells[q0]? = some (k, j) ∧ (jm_ws x μ)[q0]? = some (x.2.2.2.1 k j, jm_ent x μ k j (jm_kd k)) := by
  obtain ⟨q0, h⟩ := List.getElem?_of_mem (jm_cell hk hj)
  exact ⟨q0, h, by unfold jm_ws; rw [List.getElem?_map, h]; rfl⟩
def jm_tys (x : jm_X) : List (ClassId × FieldType) := [(x.2.2.2.2 0, .int), (x.2.2.2.2 1, .char), (x.2.2.2.2 2, .boolean), (x.2.2.2.2 3, .object "PaidRests$Standing")]
/-- an array's contents anew; a place of it; a long -/
def jm_wa (μ : jm_M) (k j : Nat) (f : Nat → Int32) : jm_M := (fun k' j' => if k' = k ∧ j' = j then f else μ.1 k' j', μ.2)
def jm_w1 (μ : jm_M) (k j i : Nat) (v : Int32) : jm_M := jm_wa μ k j (upd (μ.1 k j) i v)
def jm_wl (μ : jm_M) (k : Nat) (v : Int64) : jm_M := (μ.1, fun k' => if k' = k then v else μ.2 k')
theorem jm_ws_set {x : jm_X} {μ ν : jm_M} {q0 k j : Nat} (hq : jm_cells[q0]? = some (k, j)) (h : ∀ c ∈ jm_cells, c ≠ (k, j) → jm_ent x ν c.1 c.2 (jm_kd c.1) = jm_ent x μ c.1 c.2 (jm_kd c.1)) :
    jm_ws x ν = (jm_ws x μ).set q0 (x.2.2.2.1 k j, jm_ent x ν k j (jm_kd k)) := by
  refine List.ext_getElem? fun i => ?_
  unfold jm_ws
  rw [List.getElem?_set, List.getElem?_map, List.getElem?_map, List.length_map]
  by_cases hi : q0 = i
  · subst hi
    have hl := (List.getElem?_eq_some_iff.mp hq).1
    rw [if_pos rfl, if_pos hl, hq]; rfl
  · rw [if_neg hi]
    cases hc : jm_cells[i]? with
    | none => rfl
    | some c =>
      have hne : c ≠ (k, j) := fun e => by
        subst e
        have := (List.getElem?_inj (List.getElem?_eq_some_iff.mp hc).1 jm_nodup).mp (hc.trans hq.symm)
        exact hi this.symm
      simp only [Option.map_some, Option.some.injEq]
      rw [h c (List.mem_of_getElem? hc) hne]
theorem jm_fl_cong {x : jm_X} {μ ν : jm_M} {k j : Nat} (h1 : ν.1 k j = μ.1 k j) (h2 : ν.2 k = μ.2 k) : ∀ (fs : List (Nat × Nat × Nat)) (i : Nat), jm_fl x ν k j i fs = jm_fl x μ k j i fs
  | [], _ => rfl
  | f :: fs, i => by
    unfold jm_fl
    rw [jm_fl_cong h1 h2 fs (i + 1)]
    congr 1
    obtain ⟨a, b, c⟩ := f
    match a with
    | 0 => simp only [jm_fv, h1]
    | 1 => simp only [jm_fv, h2]
    | 2 => rfl
    | _ + 3 => rfl
theorem jm_ent_cong {x : jm_X} {μ ν : jm_M} {k j : Nat} (h1 : ν.1 k j = μ.1 k j) (h2 : ν.2 k = μ.2 k) (d : jm_D) : jm_ent x ν k j d = jm_ent x μ k j d := by
  match d with
  | .inl (3, n, k', b) => rfl
  | .inl (0, n, _, _) => simp only [jm_ent, h1]
  | .inl (1, n, _, _) => simp only [jm_ent, h1]
  | .inl (2, n, _, _) => simp only [jm_ent, h1]
  | .inl (_ + 4, n, _, _) => simp only [jm_ent, h1]
  | .inr (ci, fs) => simp only [jm_ent, jm_fl_cong h1 h2]
theorem jm_ws_wa {x : jm_X} {μ : jm_M} {q0 k j : Nat} (f : Nat → Int32) (hq : jm_cells[q0]? = some (k, j)) : jm_ws x (jm_wa μ k j f) = (jm_ws x μ).set q0 (x.2.2.2.1 k j, jm_ent x (jm_wa μ k j f) k j (jm_kd k)) := by
  refine jm_ws_set hq fun c _ hne => jm_ent_cong (μ := μ) (ν := jm_wa μ k j f) ?_ rfl _
  show (if c.1 = k ∧ c.2 = j then f else μ.1 c.1 c.2) = μ.1 c.1 c.2
  rw [if_neg]
  exact fun e => hne (Prod.ext e.1 e.2)
theorem jm_fl_get {x : jm_X} {μ : jm_M} {k j : Nat} : ∀ (fs : List (Nat × Nat × Nat)) (n i : Nat), (jm_fl x μ k j n fs)[i]? = (fs[i]?).map (jm_fv x μ k j (n + i))
  | [], _, i => by cases i <;> rfl
  | f :: fs, n, 0 => rfl
  | f :: fs, n, i + 1 => by
    unfold jm_fl
    rw [List.getElem?_cons_succ, List.getElem?_cons_succ, jm_fl_get fs (n + 1) i, show n + 1 + i = n + (i + 1) by omega]
theorem jm_fl_len {x : jm_X} {μ : jm_M} {k j : Nat} : ∀ (fs : List (Nat × Nat × Nat)) (n : Nat), (jm_fl x μ k j n fs).length = fs.length
  | [], _ => rfl
  | f :: fs, n => by unfold jm_fl; rw [List.length_cons, List.length_cons, jm_fl_len fs (n + 1)]
theorem jm_wa_same (μ : jm_M) (k j : Nat) (f : Nat → Int32) : (jm_wa μ k j f).1 k j = f := by
  show (if k = k ∧ j = j then f else μ.1 k j) = f
  rw [if_pos ⟨rfl, rfl⟩]
theorem jm_fl_set {x : jm_X} {μ : jm_M} {k j i b c : Nat} {v : Int32} {fs : List (Nat × Nat × Nat)} (hf : fs[i]? = some (0, b, c)) : jm_fl x (jm_w1 μ k j i v) k j 0 fs = (jm_fl x μ k j 0 fs).set i (.int v) := by
  refine List.ext_getElem? fun i' => ?_
  rw [List.getElem?_set, jm_fl_get, jm_fl_get, jm_fl_len]
  by_cases hi : i = i'
  · subst hi
    have hl := (List.getElem?_eq_some_iff.mp hf).1
    rw [if_pos rfl, if_pos hl, hf]
    simp only [Option.map_some, jm_fv, jm_w1, jm_wa_same, Nat.zero_add, upd, if_true]
  · rw [if_neg hi]
    cases fs[i']? with
    | none => rfl
    | some f =>
      obtain ⟨a, b', c'⟩ := f
      have hne : ¬ i' = i := fun e => hi e.symm
      match a with
      | 0 => simp only [Option.map_some, jm_fv, jm_w1, jm_wa_same, Nat.zero_add, upd, if_neg hne]
      | 1 => rfl
      | 2 => rfl
      | _ + 3 => rfl
theorem jm_fl_setL {x : jm_X} {μ : jm_M} {k j i b c : Nat} {v : Int64} {fs : List (Nat × Nat × Nat)} (hf : fs[i]? = some (1, b, c)) (h1 : ∀ i' f, fs[i']? = some f → f.1 = 1 → i' = i) : jm_fl x (jm_wl μ k v) k j 0 fs = (jm_fl x μ k j 0 fs).set i (.long v) := by
  refine List.ext_getElem? fun i' => ?_
  rw [List.getElem?_set, jm_fl_get, jm_fl_get, jm_fl_len]
  by_cases hi : i = i'
  · subst hi
    have hl := (List.getElem?_eq_some_iff.mp hf).1
    rw [if_pos rfl, if_pos hl, hf]
    simp only [Option.map_some, jm_fv, jm_wl, if_true]
  · rw [if_neg hi]
    cases hf' : fs[i']? with
    | none => rfl
    | some f =>
      obtain ⟨a, b', c'⟩ := f
      match a with
      | 0 => rfl
      | 1 => exact absurd (h1 i' _ hf' rfl).symm hi
      | 2 => rfl
      | _ + 3 => rfl
/-- the own part of a heap, and what is given beside it -/
def jm_P (x : jm_X) (μ : jm_M) (H : Heap) : Prop := va_P x.2.1 vwCl (jm_ws x μ) H ∧ va_D x.2.2.1 (jm_ws x μ) ∧ ∀ j i, μ.1 0 j i = 0
def jm_G (x : jm_X) (s : State) : Prop := va_K x.2.1 vwCl (jm_tys x) s ∧ va_Z "PaidRests" "AWAKE" "[I" (.ref (x.2.2.2.1 0 0)) x.2.2.1 s s.heap ∧ va_T .int (x.2.2.2.1 0 0) 5 (fun _ => .int 0) x.2.2.1 s s.heap ∧ (∀ w ∈ jm_nestF, va_Nw (.fieldLinkNest w.1 w.2 "PaidRests" "AWAKE" "[I" "PaidRests") s) ∧ ∀ w ∈ jm_nestM, va_Nw (.methodLinkNest w.1 w.2.1 w.2.2 "PaidRests") s
theorem jm_G.moved {x : jm_X} {s U : State} {H : Heap} {locs : List Loc} (hG : jm_G x s) (hS : va_S x.2.2.1 s.heap H locs) (hU : U.heap = H) (hW : s.WarmedH U.vm) : jm_G x U := by
  obtain ⟨h1, h2, h3, h4, h5⟩ := hG
  refine ⟨va_K.moved hW.alike h1, ?_, ?_, fun w hw => va_Nw.warmF hW (h4 w hw), fun w hw => va_Nw.warmM hW (h5 w hw)⟩
  · rw [hU]; exact va_Z.moved hW.alike (h2.kept hS.2.1)
  · rw [hU]; exact va_T.moved hW.alike (h3.kept hS.2.1)
def jm_OK (x : jm_X) (μ : jm_M) (U : State) : Prop := jm_P x μ U.heap ∧ jm_G x U
def jm_rt (x : jm_X) (r : Option jm_V) : Option Value := r.map (jm_tr x)
def jm_Qc (x : jm_X) (Q : Option jm_V → jm_M → Prop) : Array Value → State → Outcome → State → Prop := fun _ st oc t => (∃ (r : Option jm_V) (μ : jm_M), oc = .returned (jm_rt x r) ∧ Q r μ ∧ jm_P x μ t.heap) ∧ va_F x.2.2.1 st t
def jm_rm (d : Nat) : Room := { frames := d, cells := 0, slots := 0, locals := 34 * d }
/-- a call of a method meets Q -/
def jm_C (x : jm_X) (y : jm_Y) (as : List jm_V) (μ : jm_M) (Q : Option jm_V → jm_M → Prop) : Prop :=
  Met x.1 y.1 (Cond.code y.1 y.2.1 y.2.2.1 y.2.2.2.1 :: jm_big) (jm_rm y.2.2.2.2) (va_Pc (as.map (jm_tr x)) (jm_OK x μ)) (jm_Qc x Q) 0 0 x.2.2.1
def jm_lh (x : jm_X) (rl : Array Slot) (n : Nat) (ls : List (Option jm_V)) : Prop := rl.size = n ∧ lv_wf rl ∧ ∀ (i : Nat) (v : jm_V), ls[i]? = some (some v) → rl[i]? = some (.val (jm_tr x v)) ∧ (jm_tr x v).category = 1
def jm_F (x : jm_X) (y : jm_Y) (p : Program) (s : State) (m : MethodId) (args : Array Value) (meth : Method) (c : Code) : Prop :=
  p.tables.exec = Jvm.exec ∧ c.code = y.2.1 ∧ c.maxLocals = y.2.2.1 ∧ meth.sig.returnType = y.2.2.2.1 ∧ s.vm.findClass y.1.cls = some m.cls ∧ (∀ w ∈ jm_big, w.before args s = true) ∧ meth.locks = false ∧ jm_G x s
/-- at pc of the method y, in the state z: y ends, and Q -/
def jm_W (x : jm_X) (y : jm_Y) (Q : Option jm_V → jm_M → Prop) (pc : Nat) (z : jm_S) : Prop :=
  ∀ (p : Program) (e : Env) (s : State) (m : MethodId) (args : Array Value) (below : List Frame) (meth : Method) (c : Code) (H : Heap) (locs : List Loc) (rl : Array Slot),
    jm_F x y p s m args meth c → jm_P x z.2.2 H → va_S x.2.2.1 s.heap H locs → jm_lh x rl y.2.2.1 z.1 →
    W p x.1 e (jm_rm y.2.2.2.2) s m args below meth c H locs 0 0 (MQ below (jm_Qc x Q) args s 0 0 x.2.2.1) (F0 m pc rl (z.2.1.map (jm_tr x)))
theorem jm_zero {x : jm_X} {y : jm_Y} {Q : Option jm_V → jm_M → Prop} {pc : Nat} {z : jm_S} (h : (∀ j i, z.2.2.1 0 j i = 0) → jm_W x y Q pc z) : jm_W x y Q pc z :=
  fun p e s m args below meth c H locs rl hF hP hS hl => h hP.2.2 p e s m args below meth c H locs rl hF hP hS hl
theorem jm_lh_of {x : jm_X} {as : List jm_V} (n : Nat) (hn : as.length ≤ n) (hc : ∀ v ∈ as, (jm_tr x v).category = 1) : ∃ rl : Array Slot, (∀ m : MethodId, entryFrame m (as.map (jm_tr x)).toArray n = F0 m 0 rl []) ∧ jm_lh x rl n (as.map some ++ List.replicate (n - as.length) none) := by
  have hsl : ∀ (vs : List Value), (∀ v ∈ vs, v.category = 1) → (lg_sl vs).length = vs.length := by
    intro vs
    induction vs with
    | nil => intro _; rfl
    | cons v vs ih =>
      intro h
      have h1 := h v List.mem_cons_self
      have h2 := ih fun w hw => h w (List.mem_cons_of_mem _ hw)
      simp only [lg_sl, List.flatMap_cons, List.length_append, List.length_cons] at h2 ⊢
      rw [h2]
      simp [h1]; omega
  have hm : ∀ v ∈ as.map (jm_tr x), v.category = 1 := by
    intro v hv
    obtain ⟨w, hw, rfl⟩ := List.mem_map.mp hv
    exact hc w hw
  have hlen : (lg_sl (as.map (jm_tr x))).length = as.length := by rw [hsl _ hm, List.length_map]
  have hl := lv_entry (as.map (jm_tr x)) (n := n) (by rw [hlen]; exact hn)
  refine ⟨_, fun m => lg_entry_eq m _ n, hl.1, hl.2.1, fun i v hv => ?_⟩
  have hargs : ∀ (vs : List Value) (k i : Nat) (v : Value), (∀ v ∈ vs, v.category = 1) → vs[i]? = some v → (k + i, v) ∈ lv_args k vs := by
    intro vs
    induction vs with
    | nil => intro k i v _ h; simp at h
    | cons w vs ih =>
      intro k i v hc h
      have hw : ¬ w.category = 2 := by rw [hc w List.mem_cons_self]; decide
      unfold lv_args
      rw [if_neg hw]
      cases i with
      | zero =>
        rw [List.getElem?_cons_zero] at h
        cases h
        exact List.mem_cons_self
      | succ i =>
        rw [List.getElem?_cons_succ] at h
        have := ih (k + 1) i v (fun u hu => hc u (List.mem_cons_of_mem _ hu)) h
        rw [show k + 1 + i = k + (i + 1) by omega] at this
        exact List.mem_cons_of_mem _ this
  have hi : i < as.length := by
    rcases Nat.lt_or_ge i as.length with h | h
    · exact h
    · exfalso
      rw [List.getElem?_append_right (by simpa using h)] at hv
      have := List.eq_of_mem_replicate (List.mem_of_getElem? hv)
      cases this
  rw [List.getElem?_append_left (by simpa using hi), List.getElem?_map] at hv
  cases ha : as[i]? with
  | none => rw [ha] at hv; cases hv
  | some w =>
    rw [ha] at hv
    cases hv
    have h3 := hl.2.2 _ (hargs (as.map (jm_tr x)) 0 i (jm_tr x v) hm (by rw [List.getElem?_map, ha]; rfl))
    rw [Nat.zero_add] at h3
    exact ⟨h3, hc v (List.mem_of_getElem? ha)⟩
set_option maxHeartbeats 1000000 in
theorem jm_C_of {x : jm_X} {y : jm_Y} {as : List jm_V} {μ : jm_M} {Q : Option jm_V → jm_M → Prop} (hy : plainName y.1.cls = true) (hn : as.length ≤ y.2.2.1) (hc : ∀ v ∈ as, (jm_tr x v).category = 1)
    (h : jm_W x y Q 0 (as.map some ++ List.replicate (y.2.2.1 - as.length) none, [], μ)) : jm_C x y as μ Q := by
  refine Met.ofW (cc := y.2.1) (maxL := y.2.2.1) (ret := y.2.2.2.1) hy rfl ?_
  intro p e s m args below meth c s₁ B hml hv
  obtain ⟨rfl, hP, hG⟩ := hv
  obtain ⟨rl, he, hl⟩ := jm_lh_of (x := x) (as := as) y.2.2.1 hn hc
  rw [he]
  have hts := atoms_spec B.pre
  exact h p e s m _ below meth c s.heap [] rl ⟨B.exec, B.bytes, hml, B.returns, findClass_of_methodNamed B.named, fun w hw => hts w (List.mem_cons_of_mem _ hw), B.notSynchronized, hG⟩ hP va_S.rf hl
theorem jm_C.mono {x : jm_X} {y : jm_Y} {as : List jm_V} {μ : jm_M} {Q Q' : Option jm_V → jm_M → Prop} (h : jm_C x y as μ Q) (hq : ∀ r ν, Q r ν → Q' r ν) : jm_C x y as μ Q' := by
  intro p e ha hc hk s m args below hf happ hP hK
  obtain ⟨k, o, h1, h2, h3, ⟨⟨⟨r, ν, q1, q2, q3⟩, q4⟩, q5⟩⟩ := h p e ha hc hk s m args below hf happ hP hK
  exact ⟨k, o, h1, h2, h3, ⟨⟨⟨r, ν, q1, hq r ν q2, q3⟩, q4⟩, q5⟩⟩
