/-! the law: its start -/
def a0 : jA := (c0, s0, (0, fun _ => s0), fun _ => none, (0, fun _ => 0, fun _ => 0), (0, fun _ => 0), 0)
theorem a0_W : WA a0 := ⟨c0_W, ⟨⟨fun p => Nat.zero_le _, fun p _ => rfl, fun m => Nat.two_pow_pos _, fun m _ => rfl, fun m => ⟨by show (-9999 : Int) ≤ 0; decide, by show (0 : Int) ≤ 9999; decide⟩⟩, Nat.zero_le _⟩, Nat.zero_le _, fun i hi => absurd hi (Nat.not_lt_zero i), fun i s hs => (by cases hs), Nat.zero_le _, fun i hi => absurd hi (Nat.not_lt_zero i), Nat.zero_le _, fun i => Nat.zero_le _⟩
theorem a0_C : IC a0 μ0 := by
  refine ⟨⟨rfl, rfl, rfl, rfl, rfl, fun p hp => absurd (show p < 0 from hp) (Nat.not_lt_zero p), fun p hp => absurd (show p < 0 from hp) (Nat.not_lt_zero p), fun p hp => absurd (show p < 0 from hp) (Nat.not_lt_zero p), fun p hp => absurd (show p < 0 from hp) (Nat.not_lt_zero p)⟩, ⟨fun p hp => ?_, fun p hp => rfl, fun p hp => rfl, rfl⟩, ⟨rfl, 0, by decide, rfl, fun i hi => absurd (show i < 0 from hi) (Nat.not_lt_zero i)⟩, ⟨rfl, fun i s _ hs => (by cases hs)⟩, ⟨rfl, fun i hi => absurd (show i < 0 from hi) (Nat.not_lt_zero i), fun i hi => absurd (show i < 0 from hi) (Nat.not_lt_zero i)⟩, ⟨rfl, fun i hi => absurd (show i < 0 from hi) (Nat.not_lt_zero i)⟩, rfl, .inl rfl⟩
  rcases (show p = 0 ∨ p = 1 ∨ p = 2 ∨ p = 3 ∨ p = 4 by omega) with rfl | rfl | rfl | rfl | rfl
  all_goals
    show (-1 : Int32) = jow 0
    rw [jow_0]
theorem a0_M : IM a0 μ0 := by
  refine ⟨⟨rfl, rfl, rfl, rfl, rfl, fun p hp => absurd (show p < 0 from hp) (Nat.not_lt_zero p), fun p hp => absurd (show p < 0 from hp) (Nat.not_lt_zero p), fun p hp => absurd (show p < 0 from hp) (Nat.not_lt_zero p), fun p hp => absurd (show p < 0 from hp) (Nat.not_lt_zero p)⟩, fun i hi => ?_, ⟨Nat.zero_le _, rfl, fun i hi => absurd (show i < 0 from hi) (Nat.not_lt_zero i)⟩, ⟨fun i hi => ?_, fun i s _ hs => (by cases hs)⟩, ⟨rfl, fun i hi => absurd (show i < 0 from hi) (Nat.not_lt_zero i), fun i hi => absurd (show i < 0 from hi) (Nat.not_lt_zero i)⟩, ⟨rfl, fun i hi => absurd (show i < 0 from hi) (Nat.not_lt_zero i)⟩, rfl⟩
  · show (0 : Int32) = srow s0 i
    unfold srow
    repeat' split
    all_goals rfl
  · rfl
section LSTART
variable {p : Program} {e : Env} {s : State} {m : MethodId} {below : List Frame} {meth : Method} {c : Code}
/-- behind a call of a constructor, from the law -/
theorem lb_call {z : bZ} {A : Nat → Prop} {Q' : va_W → Prop} {R : va_W} {q k n pc : Nat} {e0 : va_E} {a args : Array Value} {H : Heap} {locs : List Loc} {Z : State → Prop} {rl : Array Slot} {st0 st : List Value} {mc' ms' : Nat} {Rm : Room}
    (hr : va_Run p z.1 e Rm s m args below meth c H locs k n mc' ms' (F0 m pc rl st0) st (bQ z Q' (va_A [(q, e0)] H.size) a) (va_A [(q, e0)] H.size)) (hP : va_P z.2.1 vwCl (R ++ [(q, e0)]) H) (hD : va_D A (R ++ [(q, e0)])) (hS : va_S A s.heap H locs) (hA : ∀ q : Nat, s.heap.size ≤ q → A q)
    (kk : ∀ (w1 : va_W) (H1 : Heap) (locs1 : List Loc), Q' w1 → va_P z.2.1 vwCl (R ++ w1) H1 → va_D A (R ++ w1) → va_S A s.heap H1 locs1 → W p z.1 e Rm s m args below meth c H1 locs1 (k + mc') (n + ms') Z (F0 m (pc + 3) rl st)) : W p z.1 e Rm s m args below meth c H locs k n Z (F0 m pc rl st0) := by
  intro T hT X
  obtain ⟨v, st₀, t, T', L, h0, X', hL, e1, e2, ⟨⟨w1, hv, hq, hp, hd1⟩, hz, hk⟩, stp⟩ := hr T hT X
  cases hv
  rw [h0] at hz hk
  rw [bP_iff] at hP
  rw [bD_iff] at hD
  have hqA : A q := hD.2 (q, e0) (by simp)
  have free : ∀ q', va_A [(q, e0)] H.size q' → A q' := by
    intro q' h
    rcases h with ⟨i, e', h⟩ | h
    · have := List.mem_of_getElem? h
      simp at this
      rw [this.1]; exact hqA
    · exact hA _ (Nat.le_trans hS.1 h)
  have hn := hD.1
  rw [List.map_append, List.nodup_append] at hn
  have old : ∀ r ∈ R, r.1 < H.size ∧ ¬ va_A [(q, e0)] H.size r.1 := by
    intro r hr
    have hlt : r.1 < H.size := (hP r (List.mem_append_left _ hr)).lt
    refine ⟨hlt, fun h => ?_⟩
    rcases h with ⟨i, e', h⟩ | h
    · have := List.mem_of_getElem? h
      simp at this
      exact hn.2.2 r.1 (List.mem_map.mpr ⟨r, hr, rfl⟩) q (by simp) this.1
    · omega
  have hp' := bP_iff.mp hp
  have hd1' := bD_iff.mp hd1
  have P1 : va_P z.2.1 vwCl (R ++ w1) T'.heap := by
    rw [bP_iff]
    intro r hr
    rw [e1]
    rcases List.mem_append.mp hr with h | h
    · exact (hP r (List.mem_append_left _ h)).kept (hk r.1 (old r h).1 (old r h).2)
    · exact hp' r h
  have D1 : va_D A (R ++ w1) := by
    rw [bD_iff]
    refine ⟨?_, fun r hr => ?_⟩
    · rw [List.map_append, List.nodup_append]
      refine ⟨hn.1, hd1'.1, fun a ha b hb hab => ?_⟩
      obtain ⟨r, hr, rfl⟩ := List.mem_map.mp ha
      obtain ⟨r', hr', rfl⟩ := List.mem_map.mp hb
      have := hd1'.2 r' hr'
      rw [← hab] at this
      exact (old r hr).2 this
    · rcases List.mem_append.mp hr with h | h
      · exact hD.2 r (List.mem_append_left _ h)
      · exact free _ (hd1'.2 r h)
  obtain ⟨t2, a1, b1⟩ := kk w1 T'.heap (locs ++ L) hq P1 D1
    ⟨Nat.le_trans hS.1 (by rw [e1]; exact hz), fun q' h1 h2 => by rw [e1, hk q' (Nat.lt_of_lt_of_le h1 hS.1) (fun h => h2 (free q' h))]; exact hS.2.1 q' h1 h2, fun q' hq' => by
      rcases List.mem_append.mp hq' with h | h
      · exact hS.2.2 q' h
      · exact free _ (hL q' h)⟩ T' rfl X'
  exact ⟨t2, stp t2 a1, b1⟩
theorem l_w {args : Array Value} (hts : ∀ w ∈ lw_tbl, w.before args s = true) (i : Nat) {w : Cond} (h : tables_1[i]? = some w) : w.before args s = true := hts w (List.mem_append_right _ (List.mem_of_getElem? h))
/-- the classes -/
theorem l_known {args : Array Value} (hts : ∀ w ∈ lw_tbl, w.before args s = true) : ∃ (dC : Nat → ClassId) (dI : Nat → Nat → Nat), ∀ (k : Nat) (q : vw_C), vwCl[k]? = some q → u_Kn s q.1 q.2.1 q.2.2 (dC k) (dI k) := by
  have hb : ∀ w ∈ jm_big, w.before args s = true := fun w hw => hts w (List.mem_filter.mp hw).1
  obtain ⟨cc0, ii0, kk0⟩ := u_known hb jc_0.2.2.2.2.2.1 (l_w hts 217 (w := .instantiable RX0 5) (by decide +kernel))
  obtain ⟨cc1, ii1, kk1⟩ := u_known hb jc_1.2.2.2.2.2.1 (l_w hts 239 (w := .instantiable RX1 5) (by decide +kernel))
  obtain ⟨cc2, ii2, kk2⟩ := u_known hb jc_2.2.2.2.2.2.1 (l_w hts 148 (w := .instantiable RX2 3) (by decide +kernel))
  obtain ⟨cc3, ii3, kk3⟩ := u_known hb jc_3.2.2.2.2.2.1 (l_w hts 24 (w := .instantiable RX3 8) (by decide +kernel))
  obtain ⟨cc4, ii4, kk4⟩ := u_known hb jc_4.2.2.2.2.2.1 (l_w hts 190 (w := .instantiable RX4 6) (by decide +kernel))
  obtain ⟨cc5, ii5, kk5⟩ := u_known hb jc_5.2.2.2.2.2.1 (l_w hts 168 (w := .instantiable RX5 4) (by decide +kernel))
  obtain ⟨cc6, ii6, kk6⟩ := u_known hb jc_6.2.2.2.2.2.1 (l_w hts 122 (w := .instantiable RX6 4) (by decide +kernel))
  obtain ⟨cc7, ii7, kk7⟩ := u_known hb jc_7.2.2.2.2.2.1 (l_w hts 57 (w := .instantiable RX7 9) (by decide +kernel))
  obtain ⟨cc8, ii8, kk8⟩ := u_known hb jc_8.2.2.2.2.2.1 (l_w hts 16 (w := .instantiable RX8 16) (by decide +kernel))
  obtain ⟨cc9, ii9, kk9⟩ := u_known hb jc_9.2.2.2.2.2.1 (l_w hts 769 (w := .instantiable RX9 28) (by decide +kernel))
  refine ⟨fun k => ([cc0, cc1, cc2, cc3, cc4, cc5, cc6, cc7, cc8, cc9] : List ClassId).getD k cc0, fun k => ([ii0, ii1, ii2, ii3, ii4, ii5, ii6, ii7, ii8, ii9] : List (Nat → Nat)).getD k ii0, fun k q hq => ?_⟩
  match k, hq with
  | 0, hq => cases hq; exact kk0
  | 1, hq => cases hq; exact kk1
  | 2, hq => cases hq; exact kk2
  | 3, hq => cases hq; exact kk3
  | 4, hq => cases hq; exact kk4
  | 5, hq => cases hq; exact kk5
  | 6, hq => cases hq; exact kk6
  | 7, hq => cases hq; exact kk7
  | 8, hq => cases hq; exact kk8
  | 9, hq => cases hq; exact kk9
  | k + 10, hq => simp [vwCl] at hq
theorem l_arr {args : Array Value} {ty : FieldType} (h : (Cond.arrayClass ty).before args s = true) (ht : ty = .int ∨ ty = .char ∨ ty = .boolean) : ∃ cA, ArrOfT s cA ty ∧ va_RA s cA ty := by
  obtain ⟨cA, kA, comp, h1, h2, h3⟩ := Cond.arrayClass_spec h
  refine ⟨cA, fun n z => ⟨fun k h => (by cases h), kA, h2, comp, h3⟩, ?_⟩
  rcases ht with e | e | e <;> subst e <;> exact h1
theorem l_arq {args : Array Value} (h : (Cond.arrayOver (.object "PaidRests$Standing")).before args s = true) : ∃ cA, ArrOfT s cA (.object "PaidRests$Standing") ∧ va_RA s cA (.object "PaidRests$Standing") := by
  obtain ⟨comp, cA, k, h1, h2, h3, h4, h5⟩ := Cond.arrayOver_spec h
  exact ⟨cA, fun n z => ⟨(fun k h => by cases h), k, h3, comp, h4⟩, ⟨k, comp, h3, h4, h1, h5⟩⟩
theorem l_nF : ∀ w ∈ jm_nestF, Cond.fieldLinkNest w.1 w.2 "PaidRests" "AWAKE" "[I" "PaidRests" ∈ tables_1 := by decide +kernel
theorem l_nM : ∀ w ∈ jm_nestM, Cond.methodLinkNest w.1 w.2.1 w.2.2 "PaidRests" ∈ tables_1 := by decide +kernel
theorem l_awake {b : Nat} {A : Nat → Prop} (hts : ∀ w ∈ lw_tbl, w.before #[Value.ref b] s = true) (hgv : (Jvm.Cond.and given_1 narrow_1).before #[Value.ref b] s = true) (hA : ∀ a : Nat, a < s.heap.size → ¬ A a) : ∃ t : Nat, va_Z "PaidRests" "AWAKE" "[I" (.ref t) A s s.heap ∧ va_T .int t 5 (fun _ => .int 0) A s s.heap := by
  have hs := flat_of_before _ hgv
  have harr : (Cond.arrayOf (.static "PaidRests" "AWAKE" "[I") .int).before #[Value.ref b] s = true := hs _ (by decide +kernel)
  have hlen : (Cond.eq (.length (.static "PaidRests" "AWAKE" "[I")) (.int 5)).before #[Value.ref b] s = true := hs _ (by decide +kernel)
  have h0 : (Cond.eq (.elem (.static "PaidRests" "AWAKE" "[I") (.int 0)) (.int 0)).before #[Value.ref b] s = true := hs _ (by decide +kernel)
  have h1 : (Cond.eq (.elem (.static "PaidRests" "AWAKE" "[I") (.int 1)) (.int 0)).before #[Value.ref b] s = true := hs _ (by decide +kernel)
  have h2 : (Cond.eq (.elem (.static "PaidRests" "AWAKE" "[I") (.int 2)) (.int 0)).before #[Value.ref b] s = true := hs _ (by decide +kernel)
  have h3 : (Cond.eq (.elem (.static "PaidRests" "AWAKE" "[I") (.int 3)) (.int 0)).before #[Value.ref b] s = true := hs _ (by decide +kernel)
  have h4 : (Cond.eq (.elem (.static "PaidRests" "AWAKE" "[I") (.int 4)) (.int 0)).before #[Value.ref b] s = true := hs _ (by decide +kernel)
  obtain ⟨t, ht, hT⟩ := va_Tof (f := fun _ => .int 0) (A := A) (N := 5) (by decide) harr (va_eqt hlen) (fun j hj => by
    rcases (show j = 0 ∨ j = 1 ∨ j = 2 ∨ j = 3 ∨ j = 4 by omega) with rfl | rfl | rfl | rfl | rfl
    · exact va_eqt h0
    · exact va_eqt h1
    · exact va_eqt h2
    · exact va_eqt h3
    · exact va_eqt h4) hA
  exact ⟨t, va_Zref (l_w hts 566 (by decide +kernel)) (l_w hts 1 (by decide +kernel)) ht hA, hT⟩
theorem l_G {b L : Nat} {xs : Nat → Int32} (C0 : lw_At p s m meth c b L xs) : ∃ (D : va_G) (ct : Nat → ClassId) (tA : Nat), ∀ (l : Launch) (ad : Nat → Nat → Nat), ad 0 0 = tA → jm_G (l, D, (fun q => s.heap.size ≤ q), ad, ct) s ∧ bG (l, D, ct) s := by
  obtain ⟨hx, hb, hr, hml, hown, hts, hX, hbl, hlocks, hgv⟩ := id C0
  obtain ⟨dC, dI, hK0⟩ := l_known hts
  obtain ⟨cI, aI1, aI2⟩ := l_arr (l_w hts 120 (w := .arrayClass .int) (by decide +kernel)) (.inl rfl)
  obtain ⟨cC, aC1, aC2⟩ := l_arr (l_w hts 55 (w := .arrayClass .char) (by decide +kernel)) (.inr (.inl rfl))
  obtain ⟨cZ, aZ1, aZ2⟩ := l_arr (l_w hts 859 (w := .arrayClass .boolean) (by decide +kernel)) (.inr (.inr rfl))
  have hO := l_w hts 154 (w := .arrayOver (.object "PaidRests$Standing")) (by decide +kernel)
  obtain ⟨cS, aS1, aS2⟩ := l_arq hO
  obtain ⟨tA, hZ, hT⟩ := l_awake (A := fun q => s.heap.size ≤ q) hts hgv (fun a ha => Nat.not_le.mpr ha)
  have hK : va_K (dC, dI) vwCl [(cI, .int), (cC, .char), (cZ, .boolean), (cS, .object "PaidRests$Standing")] s := by
    refine ⟨hK0, fun k q hk => ?_⟩
    match k, hk with
    | 0, hk => cases hk; exact ⟨aI1, aI2⟩
    | 1, hk => cases hk; exact ⟨aC1, aC2⟩
    | 2, hk => cases hk; exact ⟨aZ1, aZ2⟩
    | 3, hk => cases hk; exact ⟨aS1, aS2⟩
    | k + 4, hk => simp at hk
  have hF : ∀ w ∈ jm_nestF, va_Nw (.fieldLinkNest w.1 w.2 "PaidRests" "AWAKE" "[I" "PaidRests") s := fun w hw => va_Nw.of rfl (hts _ (List.mem_append_right _ (l_nF w hw)))
  have hM : ∀ w ∈ jm_nestM, va_Nw (.methodLinkNest w.1 w.2.1 w.2.2 "PaidRests") s := fun w hw => va_Nw.of rfl (hts _ (List.mem_append_right _ (l_nM w hw)))
  refine ⟨(dC, dI), fun t => ([cI, cC, cZ, cS] : List ClassId).getD t cI, tA, fun l ad had => ⟨⟨hK, ?_, ?_, hF, hM⟩, hK, va_AO.of hO, hM⟩⟩
  · show va_Z "PaidRests" "AWAKE" "[I" (.ref (ad 0 0)) _ s s.heap
    rw [had]; exact hZ
  · show va_T .int (ad 0 0) 5 (fun _ => .int 0) _ s s.heap
    rw [had]; exact hT
theorem cs_perm : (csA ++ csM).Perm jm_cells := by decide +kernel
/-- where all cells are: AWAKE, the model's, the class's -/
def adW (tA : Nat) (f g : Nat → Nat) (k j : Nat) : Nat := if k = 0 then tA else if k = 10 ∨ 33 ≤ k then g (csM.idxOf (k, j)) else adA f k j
end LSTART
theorem kx_0 : Cond.code mX8_init.1 mX8_init.2.1 mX8_init.2.2.1 mX8_init.2.2.2.1 ∈ jm_big := jm_tb 19 (by decide +kernel) (by decide +kernel)
theorem kx_1 : Cond.code mX9_init.1 mX9_init.2.1 mX9_init.2.2.1 mX9_init.2.2.2.1 ∈ jm_big := jm_tb 772 (by decide +kernel) (by decide +kernel)
set_option maxHeartbeats 4000000 in
set_option maxRecDepth 100000 in
/-- the law, from its entry -/
theorem whole_start {p : Program} {e : Env} {s : State} {m : MethodId} {below : List Frame} {meth : Method} {c : Code} (l : Launch) {b L : Nat} {xs : Nat → Int32} (hL : L ≤ 320) (C0 : lw_At p s m meth c b L xs) : W p l e room_1 s m #[Value.ref b] below meth c s.heap [] 0 0 (lw_Z below #[Value.ref b] s) (entryFrame m ([Value.ref b] : List Value).toArray 4) := by
  obtain ⟨hx, hb, hr, hml, hown, hts, hX, hbl, hlocks, hgv⟩ := id C0
  obtain ⟨D, ct, tA, hG⟩ := l_G C0
  have hbg : ∀ w ∈ jm_big, w.before #[Value.ref b] s = true := fun w hw => hts w (List.mem_filter.mp hw).1
  have hA : ∀ q : Nat, s.heap.size ≤ q → (fun q : Nat => s.heap.size ≤ q) q := fun _ h => h
  have hB : bG (l, D, ct) s := (hG l (fun _ _ => tA) rfl).2
  have hK : va_K D vwCl (bTy (l, D, ct)) s := hB.1
  have hS : va_S (fun q : Nat => s.heap.size ≤ q) s.heap s.heap [] := va_S.rf
  have hP : va_P D vwCl [] s.heap := fun k q h => by simp at h
  have hD : va_D (fun q : Nat => s.heap.size ≤ q) [] := ⟨fun i j p q h => by simp at h, fun k q h => by simp at h⟩
  have hl := lv_entry ([.ref b]) (n := 4) (Nat.le_of_ble_eq_true rfl)
  rw [lg_entry_eq]
  generalize (lg_sl ([.ref b]) ++ List.replicate (4 - (lg_sl ([.ref b])).length) Slot.unset).toArray = ls at hl ⊢
  have hl : lv_has ls 4 [(0, .ref b)] := hl
  obtain ⟨g1, g2, g3, g4, g5, g6, g7, g8, g9⟩ := jc_8
  refine va_new (ci := 8) (fs := [.null, .null, .null, .null, .null, .null, .int 0, .null, .null, .null, .null, .null, .null, .null, .int 0, .long 0]) hx hb hbg g6 tyX8 g8 hown (l_w hts 15 (by decide +kernel)) (l_w hts 16 (by decide +kernel)) (l_w hts 1 (by decide +kernel)) hK hP hD hS hA g4 (fun j hj => by rcases (show j = 0 ∨ j = 1 ∨ j = 2 ∨ j = 3 ∨ j = 4 ∨ j = 5 ∨ j = 6 ∨ j = 7 ∨ j = 8 ∨ j = 9 ∨ j = 10 ∨ j = 11 ∨ j = 12 ∨ j = 13 ∨ j = 14 ∨ j = 15 by omega) with rfl | rfl | rfl | rfl | rfl | rfl | rfl | rfl | rfl | rfl | rfl | rfl | rfl | rfl | rfl | rfl <;> rfl) (by decide) (by decide) dL_law_0 (fun q0 H hP hD hS => ?_)
  refine lv_dup hx hb dL_law_3 rfl ?_
  refine lb_call (z := (l, D, ct)) (R := []) (va_runI (As := []) (rest := [.ref q0]) ⟨hx, hb, hml, hown, hbg⟩ (k_X8 (l, D, ct) q0 H.size) ⟨callB_of 0 hbg (jm_ws_good kx_0) rfl rfl rfl (l_w hts 1 (by decide +kernel)) (l_w hts 17 (by decide +kernel)) ⟨by decide, by decide, by decide +kernel⟩ ⟨by decide, by decide⟩, rfl, l_w hts 18 (by decide +kernel)⟩ ⟨b_blind, fun U hU hW => ⟨rfl, by rw [hU], by rw [hU]; exact hP, bD_iff.mpr ⟨by simp, fun _ _ => trivial⟩, hB.moved hW⟩⟩ rfl rfl hl.1 rfl (lv_room (Nat.le_of_ble_eq_true rfl)) dL_law_4 ⟨by decide, by decide⟩) hP hD hS hA (fun w1 H locs hq hP hD hS => ?_)
  obtain ⟨f, hf0, rfl⟩ := hq
  refine lv_astore_n (lv' := [(1, .ref q0), (0, .ref b)]) hx hb dL_law_7 rfl hl (by decide) rfl (fun ls hl => ?_)
  obtain ⟨g1, g2, g3, g4, g5, g6, g7, g8, g9⟩ := jc_9
  refine va_new (ci := 9) (fs := [.int 0, .long 0, .null, .int 0, .int 0, .int 0, .int 0, .int 0, .int 0, .null, .null, .null, .null, .null, .int 0, .null, .null, .null, .null, .null, .int 0, .null, .null, .int 0, .null, .null, .int 0, .int 0]) hx hb hbg g6 tyX9 g8 hown (l_w hts 768 (by decide +kernel)) (l_w hts 769 (by decide +kernel)) (l_w hts 10 (by decide +kernel)) hK hP hD hS hA g4 (fun j hj => by rcases (show j = 0 ∨ j = 1 ∨ j = 2 ∨ j = 3 ∨ j = 4 ∨ j = 5 ∨ j = 6 ∨ j = 7 ∨ j = 8 ∨ j = 9 ∨ j = 10 ∨ j = 11 ∨ j = 12 ∨ j = 13 ∨ j = 14 ∨ j = 15 ∨ j = 16 ∨ j = 17 ∨ j = 18 ∨ j = 19 ∨ j = 20 ∨ j = 21 ∨ j = 22 ∨ j = 23 ∨ j = 24 ∨ j = 25 ∨ j = 26 ∨ j = 27 by omega) with rfl | rfl | rfl | rfl | rfl | rfl | rfl | rfl | rfl | rfl | rfl | rfl | rfl | rfl | rfl | rfl | rfl | rfl | rfl | rfl | rfl | rfl | rfl | rfl | rfl | rfl | rfl | rfl <;> rfl) (by decide) (by decide) dL_law_8 (fun q1 H hP hD hS => ?_)
  refine lv_dup hx hb dL_law_11 rfl ?_
  have hPc : va_P D vwCl [(q1, .inr (9, [.int 0, .long 0, .null, .int 0, .int 0, .int 0, .int 0, .int 0, .int 0, .null, .null, .null, .null, .null, .int 0, .null, .null, .null, .null, .null, .int 0, .null, .null, .int 0, .null, .null, .int 0, .int 0]))] H := bP_iff.mpr (fun r hr => bP_iff.mp hP r (List.mem_append_right _ hr))
  refine lb_call (z := (l, D, ct)) (va_runI (As := []) (rest := [.ref q1]) ⟨hx, hb, hml, hown, hbg⟩ (k_X9 (l, D, ct) q1 H.size) ⟨callB_of 0 hbg (jm_ws_good kx_1) rfl rfl rfl (l_w hts 10 (by decide +kernel)) (l_w hts 770 (by decide +kernel)) ⟨by decide, by decide, by decide +kernel⟩ ⟨by decide, by decide⟩, rfl, l_w hts 771 (by decide +kernel)⟩ ⟨b_blind, fun U hU hW => ⟨rfl, by rw [hU], by rw [hU]; exact hPc, bD_iff.mpr ⟨by simp, fun _ _ => trivial⟩, hB.moved hW⟩⟩ rfl rfl hl.1 rfl (lv_room (Nat.le_of_ble_eq_true rfl)) dL_law_12 ⟨by decide, by decide⟩) hP hD hS hA (fun w1 H locs hq hP hD hS => ?_)
  obtain ⟨u1, u2, u3, u4, u5, u6, u7, u8, u9, u10, u11, u12, u13, u14, u15, rfl⟩ := hq
  refine lv_astore_n (lv' := [(2, .ref q1), (1, .ref q0), (0, .ref b)]) hx hb dL_law_15 rfl hl (by decide) rfl (fun ls hl => ?_)
  refine lv_iconst (v := nI 0) hx hb dL_law_16 (by decide) ?_
  refine lv_istore_n (lv' := [(3, .int (nI 0)), (2, .ref q1), (1, .ref q0), (0, .ref b)]) hx hb dL_law_17 rfl hl (by decide) rfl (fun ls hl => ?_)
  have hx0 := (hG l (adW tA f (fun i => ([q1, u1, u2, u3, u4, u5, u6, u7, u8, u9, u10, u11, u12, u13, u14, u15] : List Nat).getD i 0)) rfl).1
  have hws : ([] ++ csA.map (fun c => (adA f c.1 c.2, jm_ent (l, D, (fun _ => True), adA f, ct) μ0 c.1 c.2 (jm_kd c.1)))) ++ [(q1, .inr (9, [.int 0, .long 0, .ref u1, .int 0, .int 0, .int 0, .int 0, .int 0, .int 0, .ref u2, .ref u3, .ref u4, .ref u5, .ref u6, .int 0, .ref u7, .ref u8, .ref u9, .ref u10, .ref u11, .int 0, .ref u12, .ref u13, .int 0, .ref u14, .ref u15, .int 0, .int 0])), (u1, .inl (ct 0, 200, .inl (fun _ => 0))), (u2, .inl (ct 0, 10, .inl (upd (upd (upd (fun _ => 0) 2 (nI 8)) 3 (nI 12)) 4 (nI 5)))), (u3, .inl (ct 0, 10, .inl (fun _ => 0))), (u4, .inl (ct 0, 10, .inl (fun _ => 0))), (u5, .inl (ct 0, 10, .inl (fun _ => 0))), (u6, .inl (ct 0, 10, .inl (fun _ => 0))), (u7, .inl (ct 0, 16, .inl (fun _ => 0))), (u8, .inl (ct 0, 16, .inl (fun _ => 0))), (u9, .inl (ct 0, 32, .inl (fun _ => 0))), (u10, .inl (ct 2, 2, .inl (fun _ => 0))), (u11, .inl (ct 0, 160, .inl (fun _ => 0))), (u12, .inl (ct 0, 6, .inl (fun _ => 0))), (u13, .inl (ct 0, 6, .inl (fun _ => 0))), (u14, .inl (ct 0, 5, .inl (fun _ => 0))), (u15, .inl (ct 0, 5, .inl (fun _ => 0)))] = (csA ++ csM).map (fun c => (adW tA f (fun i => ([q1, u1, u2, u3, u4, u5, u6, u7, u8, u9, u10, u11, u12, u13, u14, u15] : List Nat).getD i 0) c.1 c.2, jm_ent (l, D, (fun q => s.heap.size ≤ q), adW tA f (fun i => ([q1, u1, u2, u3, u4, u5, u6, u7, u8, u9, u10, u11, u12, u13, u14, u15] : List Nat).getD i 0), ct) μ0 c.1 c.2 (jm_kd c.1))) := rfl
  have hP' := bP_perm (cs_perm.map _) (hws ▸ hP)
  have hD' := bD_perm (cs_perm.map _) (hws ▸ hD)
  have hlv : lvL (l, D, (fun q => s.heap.size ≤ q), adW tA f (fun i => ([q1, u1, u2, u3, u4, u5, u6, u7, u8, u9, u10, u11, u12, u13, u14, u15] : List Nat).getD i 0), ct) b 0 = [(0, .ref b), (1, .ref q0), (2, .ref q1), (3, .int (nI 0))] := by
    have e9 : adW tA f (fun i => ([q1, u1, u2, u3, u4, u5, u6, u7, u8, u9, u10, u11, u12, u13, u14, u15] : List Nat).getD i 0) 9 0 = q0 := hf0
    show [(0, Value.ref b), (1, .ref (adW tA f (fun i => ([q1, u1, u2, u3, u4, u5, u6, u7, u8, u9, u10, u11, u12, u13, u14, u15] : List Nat).getD i 0) 9 0)), (2, .ref q1), (3, .int (nI 0))] = _
    rw [e9]
  refine l_loop (x := (l, D, (fun q => s.heap.size ≤ q), adW tA f (fun i => ([q1, u1, u2, u3, u4, u5, u6, u7, u8, u9, u10, u11, u12, u13, u14, u15] : List Nat).getD i 0), ct)) ⟨C0, hx0, rfl⟩ hL (by decide) (by decide) L 0 a0 μ0 (by omega) (by omega) a0_W a0_C a0_M H locs ls ⟨hP', hD', fun j i => rfl⟩ hS (by rw [hlv]; exact lv_sub hl [3, 2, 1, 0] rfl)
