/-! constructors of the leaves, laid by gen/cons.py -/
def qX6 (z : bZ) (h : Nat) (w : va_W) : Prop := ∃ q1 q2 q3 : Nat, w = [(h, .inr (6, [.ref q1, .ref q2, .ref q3, .int (nI 0)])), (q1, .inl (z.2.2 0, 5, .inl (upd (upd (upd (upd (upd (fun _ => 0) 0 (-1)) 1 (-1)) 2 (-1)) 3 (-1)) 4 (-1)))), (q2, .inl (z.2.2 0, 5, .inl (fun _ => 0))), (q3, .inl (z.2.2 0, 5, .inl (fun _ => 0)))]
set_option maxRecDepth 100000 in
set_option maxHeartbeats 2000000 in
theorem k_X6 (z : bZ) (h : Nat) : bC z mX6_init [.ref h] [(h, .inr (6, [.null, .null, .null, .int 0]))] 3 15 (qX6 z h) := by
  refine bC_of (by decide +kernel) rfl rfl (Nat.le_of_ble_eq_true rfl) (fun A => ?_)
  show bW z mX6_init A 3 15 (qX6 z h) 0 [(0, .ref h)] [] [(h, .inr (6, [.null, .null, .null, .int 0]))] 0 0
  refine br_aload (i := 0) dX6_init_0 rfl (List.mem_of_getElem? (i := 0) rfl) ?_
  refine br_objInit dX6_init_1 kw_126 kw_21 kw_22 (by decide) ?_
  refine br_aload (i := 0) dX6_init_4 rfl (List.mem_of_getElem? (i := 0) rfl) ?_
  refine br_iconst (w := nI 5) dX6_init_5 (by decide) ?_
  refine br_newa (t := 0) (N := 5) dX6_init_6 kw_120 rfl rfl (.inl rfl) (by decide) (by decide) (by decide) (by decide) (by decide) (fun q1 => ?_)
  refine br_dup dX6_init_8 ?_
  refine br_iconst (w := nI 0) dX6_init_9 (by decide) ?_
  refine br_iconst (w := (-1)) dX6_init_10 (by decide) ?_
  refine br_iast (q0 := 1) (i := nI 0) dX6_init_11 rfl (vp_in_nI (by decide) (by decide)) ?_
  show bW z mX6_init A 3 15 (qX6 z h) 12 [(0, .ref h)] [.ref q1, .ref h] [(h, .inr (6, [.null, .null, .null, .int 0])), (q1, .inl (z.2.2 0, 5, .inl (upd (fun _ => 0) 0 (-1))))] 1 5
  refine br_dup dX6_init_12 ?_
  refine br_iconst (w := nI 1) dX6_init_13 (by decide) ?_
  refine br_iconst (w := (-1)) dX6_init_14 (by decide) ?_
  refine br_iast (q0 := 1) (i := nI 1) dX6_init_15 rfl (vp_in_nI (by decide) (by decide)) ?_
  show bW z mX6_init A 3 15 (qX6 z h) 16 [(0, .ref h)] [.ref q1, .ref h] [(h, .inr (6, [.null, .null, .null, .int 0])), (q1, .inl (z.2.2 0, 5, .inl (upd (upd (fun _ => 0) 0 (-1)) 1 (-1))))] 1 5
  refine br_dup dX6_init_16 ?_
  refine br_iconst (w := nI 2) dX6_init_17 (by decide) ?_
  refine br_iconst (w := (-1)) dX6_init_18 (by decide) ?_
  refine br_iast (q0 := 1) (i := nI 2) dX6_init_19 rfl (vp_in_nI (by decide) (by decide)) ?_
  show bW z mX6_init A 3 15 (qX6 z h) 20 [(0, .ref h)] [.ref q1, .ref h] [(h, .inr (6, [.null, .null, .null, .int 0])), (q1, .inl (z.2.2 0, 5, .inl (upd (upd (upd (fun _ => 0) 0 (-1)) 1 (-1)) 2 (-1))))] 1 5
  refine br_dup dX6_init_20 ?_
  refine br_iconst (w := nI 3) dX6_init_21 (by decide) ?_
  refine br_iconst (w := (-1)) dX6_init_22 (by decide) ?_
  refine br_iast (q0 := 1) (i := nI 3) dX6_init_23 rfl (vp_in_nI (by decide) (by decide)) ?_
  show bW z mX6_init A 3 15 (qX6 z h) 24 [(0, .ref h)] [.ref q1, .ref h] [(h, .inr (6, [.null, .null, .null, .int 0])), (q1, .inl (z.2.2 0, 5, .inl (upd (upd (upd (upd (fun _ => 0) 0 (-1)) 1 (-1)) 2 (-1)) 3 (-1))))] 1 5
  refine br_dup dX6_init_24 ?_
  refine br_iconst (w := nI 4) dX6_init_25 (by decide) ?_
  refine br_iconst (w := (-1)) dX6_init_26 (by decide) ?_
  refine br_iast (q0 := 1) (i := nI 4) dX6_init_27 rfl (vp_in_nI (by decide) (by decide)) ?_
  show bW z mX6_init A 3 15 (qX6 z h) 28 [(0, .ref h)] [.ref q1, .ref h] [(h, .inr (6, [.null, .null, .null, .int 0])), (q1, .inl (z.2.2 0, 5, .inl (upd (upd (upd (upd (upd (fun _ => 0) 0 (-1)) 1 (-1)) 2 (-1)) 3 (-1)) 4 (-1))))] 1 5
  refine br_putF (i := 0) jc_6 dX6_init_28 kw_127 (by decide) rfl rfl rfl rfl (Nat.le_of_ble_eq_true rfl) ?_
  refine br_aload (i := 0) dX6_init_31 rfl (List.mem_of_getElem? (i := 0) rfl) ?_
  refine br_iconst (w := nI 5) dX6_init_32 (by decide) ?_
  refine br_newa (t := 0) (N := 5) dX6_init_33 kw_120 rfl rfl (.inl rfl) (by decide) (by decide) (by decide) (by decide) (by decide) (fun q2 => ?_)
  refine br_putF (i := 1) jc_6 dX6_init_35 kw_130 (by decide) rfl rfl rfl rfl (Nat.le_of_ble_eq_true rfl) ?_
  refine br_aload (i := 0) dX6_init_38 rfl (List.mem_of_getElem? (i := 0) rfl) ?_
  refine br_iconst (w := nI 5) dX6_init_39 (by decide) ?_
  refine br_newa (t := 0) (N := 5) dX6_init_40 kw_120 rfl rfl (.inl rfl) (by decide) (by decide) (by decide) (by decide) (by decide) (fun q3 => ?_)
  refine br_putF (i := 2) jc_6 dX6_init_42 kw_133 (by decide) rfl rfl rfl rfl (Nat.le_of_ble_eq_true rfl) ?_
  refine br_aload (i := 0) dX6_init_45 rfl (List.mem_of_getElem? (i := 0) rfl) ?_
  refine br_iconst (w := nI 0) dX6_init_46 (by decide) ?_
  refine br_put (i := 3) jc_6 dX6_init_47 kw_136 (by decide) rfl rfl rfl (Nat.le_of_ble_eq_true rfl) ?_
  exact br_vret dX6_init_50 rfl rfl ⟨q1, q2, q3, rfl⟩
def qX7 (z : bZ) (h : Nat) (w : va_W) : Prop := ∃ q1 q2 q3 q4 : Nat, w = [(h, .inr (7, [.int (nI 8), .int (nI 12), .int (nI 5), .int (nI 0), .int (nI 0), .ref q1, .ref q2, .ref q3, .ref q4])), (q1, .inl (z.2.2 0, 5, .inl (fun _ => 0))), (q2, .inl (z.2.2 0, 5, .inl (fun _ => 0))), (q3, .inl (z.2.2 0, 5, .inl (fun _ => 0))), (q4, .inl (z.2.2 0, 5, .inl (fun _ => 0)))]
set_option maxRecDepth 100000 in
set_option maxHeartbeats 2000000 in
theorem k_X7 (z : bZ) (h : Nat) : bC z mX7_init [.ref h] [(h, .inr (7, [.int 0, .int 0, .int 0, .int 0, .int 0, .null, .null, .null, .null]))] 4 20 (qX7 z h) := by
  refine bC_of (by decide +kernel) rfl rfl (Nat.le_of_ble_eq_true rfl) (fun A => ?_)
  show bW z mX7_init A 4 20 (qX7 z h) 0 [(0, .ref h)] [] [(h, .inr (7, [.int 0, .int 0, .int 0, .int 0, .int 0, .null, .null, .null, .null]))] 0 0
  refine br_aload (i := 0) dX7_init_0 rfl (List.mem_of_getElem? (i := 0) rfl) ?_
  refine br_objInit dX7_init_1 kw_61 kw_21 kw_22 (by decide) ?_
  refine br_aload (i := 0) dX7_init_4 rfl (List.mem_of_getElem? (i := 0) rfl) ?_
  refine br_bipush (w := nI 8) dX7_init_5 (by decide) ?_
  refine br_put (i := 0) jc_7 dX7_init_7 kw_62 (by decide) rfl rfl rfl (Nat.le_of_ble_eq_true rfl) ?_
  refine br_aload (i := 0) dX7_init_10 rfl (List.mem_of_getElem? (i := 0) rfl) ?_
  refine br_bipush (w := nI 12) dX7_init_11 (by decide) ?_
  refine br_put (i := 1) jc_7 dX7_init_13 kw_66 (by decide) rfl rfl rfl (Nat.le_of_ble_eq_true rfl) ?_
  refine br_aload (i := 0) dX7_init_16 rfl (List.mem_of_getElem? (i := 0) rfl) ?_
  refine br_iconst (w := nI 5) dX7_init_17 (by decide) ?_
  refine br_put (i := 2) jc_7 dX7_init_18 kw_70 (by decide) rfl rfl rfl (Nat.le_of_ble_eq_true rfl) ?_
  refine br_aload (i := 0) dX7_init_21 rfl (List.mem_of_getElem? (i := 0) rfl) ?_
  refine br_iconst (w := nI 0) dX7_init_22 (by decide) ?_
  refine br_put (i := 3) jc_7 dX7_init_23 kw_74 (by decide) rfl rfl rfl (Nat.le_of_ble_eq_true rfl) ?_
  refine br_aload (i := 0) dX7_init_26 rfl (List.mem_of_getElem? (i := 0) rfl) ?_
  refine br_iconst (w := nI 0) dX7_init_27 (by decide) ?_
  refine br_put (i := 4) jc_7 dX7_init_28 kw_79 (by decide) rfl rfl rfl (Nat.le_of_ble_eq_true rfl) ?_
  refine br_aload (i := 0) dX7_init_31 rfl (List.mem_of_getElem? (i := 0) rfl) ?_
  refine br_iconst (w := nI 5) dX7_init_32 (by decide) ?_
  refine br_newa (t := 0) (N := 5) dX7_init_33 kw_120 rfl rfl (.inl rfl) (by decide) (by decide) (by decide) (by decide) (by decide) (fun q1 => ?_)
  refine br_putF (i := 5) jc_7 dX7_init_35 kw_85 (by decide) rfl rfl rfl rfl (Nat.le_of_ble_eq_true rfl) ?_
  refine br_aload (i := 0) dX7_init_38 rfl (List.mem_of_getElem? (i := 0) rfl) ?_
  refine br_iconst (w := nI 5) dX7_init_39 (by decide) ?_
  refine br_newa (t := 0) (N := 5) dX7_init_40 kw_120 rfl rfl (.inl rfl) (by decide) (by decide) (by decide) (by decide) (by decide) (fun q2 => ?_)
  refine br_putF (i := 6) jc_7 dX7_init_42 kw_88 (by decide) rfl rfl rfl rfl (Nat.le_of_ble_eq_true rfl) ?_
  refine br_aload (i := 0) dX7_init_45 rfl (List.mem_of_getElem? (i := 0) rfl) ?_
  refine br_iconst (w := nI 5) dX7_init_46 (by decide) ?_
  refine br_newa (t := 0) (N := 5) dX7_init_47 kw_120 rfl rfl (.inl rfl) (by decide) (by decide) (by decide) (by decide) (by decide) (fun q3 => ?_)
  refine br_putF (i := 7) jc_7 dX7_init_49 kw_92 (by decide) rfl rfl rfl rfl (Nat.le_of_ble_eq_true rfl) ?_
  refine br_aload (i := 0) dX7_init_52 rfl (List.mem_of_getElem? (i := 0) rfl) ?_
  refine br_iconst (w := nI 5) dX7_init_53 (by decide) ?_
  refine br_newa (t := 0) (N := 5) dX7_init_54 kw_120 rfl rfl (.inl rfl) (by decide) (by decide) (by decide) (by decide) (by decide) (fun q4 => ?_)
  refine br_putF (i := 8) jc_7 dX7_init_56 kw_96 (by decide) rfl rfl rfl rfl (Nat.le_of_ble_eq_true rfl) ?_
  exact br_vret dX7_init_59 rfl rfl ⟨q1, q2, q3, q4, rfl⟩
def qX3 (z : bZ) (h : Nat) (w : va_W) : Prop := ∃ q1 : Nat, w = [(h, .inr (3, [.ref q1, .int (nI 0), .int (nI 0), .int (nI 0), .int (nI 257), .int (nI 0), .int (nI 0), .int (nI 0)])), (q1, .inl (z.2.2 1, 200, .inl (fun _ => 0)))]
set_option maxRecDepth 100000 in
set_option maxHeartbeats 2000000 in
theorem k_X3 (z : bZ) (h : Nat) : bC z mX3_init [.ref h] [(h, .inr (3, [.null, .int 0, .int 0, .int 0, .int 0, .int 0, .int 0, .int 0]))] 1 200 (qX3 z h) := by
  refine bC_of (by decide +kernel) rfl rfl (Nat.le_of_ble_eq_true rfl) (fun A => ?_)
  show bW z mX3_init A 1 200 (qX3 z h) 0 [(0, .ref h)] [] [(h, .inr (3, [.null, .int 0, .int 0, .int 0, .int 0, .int 0, .int 0, .int 0]))] 0 0
  refine br_aload (i := 0) dX3_init_0 rfl (List.mem_of_getElem? (i := 0) rfl) ?_
  refine br_objInit dX3_init_1 kw_28 kw_21 kw_22 (by decide) ?_
  refine br_aload (i := 0) dX3_init_4 rfl (List.mem_of_getElem? (i := 0) rfl) ?_
  refine br_sipush (w := nI 200) dX3_init_5 (by decide) ?_
  refine br_newa (t := 1) (N := 200) dX3_init_8 kw_55 rfl rfl (.inr (.inl rfl)) (by decide) (by decide) (by decide) (by decide) (by decide) (fun q1 => ?_)
  refine br_putF (i := 0) jc_3 dX3_init_10 kw_29 (by decide) rfl rfl rfl rfl (Nat.le_of_ble_eq_true rfl) ?_
  refine br_aload (i := 0) dX3_init_13 rfl (List.mem_of_getElem? (i := 0) rfl) ?_
  refine br_iconst (w := nI 0) dX3_init_14 (by decide) ?_
  refine br_put (i := 1) jc_3 dX3_init_15 kw_30 (by decide) rfl rfl rfl (Nat.le_of_ble_eq_true rfl) ?_
  refine br_aload (i := 0) dX3_init_18 rfl (List.mem_of_getElem? (i := 0) rfl) ?_
  refine br_iconst (w := nI 0) dX3_init_19 (by decide) ?_
  refine br_put (i := 2) jc_3 dX3_init_20 kw_32 (by decide) rfl rfl rfl (Nat.le_of_ble_eq_true rfl) ?_
  refine br_aload (i := 0) dX3_init_23 rfl (List.mem_of_getElem? (i := 0) rfl) ?_
  refine br_iconst (w := nI 0) dX3_init_24 (by decide) ?_
  refine br_put (i := 3) jc_3 dX3_init_25 kw_33 (by decide) rfl rfl rfl (Nat.le_of_ble_eq_true rfl) ?_
  refine br_aload (i := 0) dX3_init_28 rfl (List.mem_of_getElem? (i := 0) rfl) ?_
  refine br_sipush (w := nI 257) dX3_init_29 (by decide) ?_
  refine br_put (i := 4) jc_3 dX3_init_32 kw_34 (by decide) rfl rfl rfl (Nat.le_of_ble_eq_true rfl) ?_
  refine br_aload (i := 0) dX3_init_35 rfl (List.mem_of_getElem? (i := 0) rfl) ?_
  refine br_iconst (w := nI 0) dX3_init_36 (by decide) ?_
  refine br_put (i := 5) jc_3 dX3_init_37 kw_35 (by decide) rfl rfl rfl (Nat.le_of_ble_eq_true rfl) ?_
  refine br_aload (i := 0) dX3_init_40 rfl (List.mem_of_getElem? (i := 0) rfl) ?_
  refine br_iconst (w := nI 0) dX3_init_41 (by decide) ?_
  refine br_put (i := 6) jc_3 dX3_init_42 kw_36 (by decide) rfl rfl rfl (Nat.le_of_ble_eq_true rfl) ?_
  refine br_aload (i := 0) dX3_init_45 rfl (List.mem_of_getElem? (i := 0) rfl) ?_
  refine br_iconst (w := nI 0) dX3_init_46 (by decide) ?_
  refine br_put (i := 7) jc_3 dX3_init_47 kw_37 (by decide) rfl rfl rfl (Nat.le_of_ble_eq_true rfl) ?_
  exact br_vret dX3_init_50 rfl rfl ⟨q1, rfl⟩
def qX5 (z : bZ) (h t : Nat) (w : va_W) : Prop := ∃ q1 q2 q3 : Nat, w = [(h, .inr (5, [.ref t, .ref q1, .ref q2, .ref q3])), (q1, .inl (z.2.2 0, 5, .inl (fun _ => 0))), (q2, .inl (z.2.2 0, 5, .inl (fun _ => 0))), (q3, .inl (z.2.2 0, 6, .inl (fun _ => 0)))]
set_option maxRecDepth 100000 in
set_option maxHeartbeats 2000000 in
theorem k_X5 (z : bZ) (h t : Nat) : bC z mX5_init [.ref h, .ref t] [(h, .inr (5, [.null, .null, .null, .null]))] 3 16 (qX5 z h t) := by
  refine bC_of (by decide +kernel) rfl rfl (Nat.le_of_ble_eq_true rfl) (fun A => ?_)
  show bW z mX5_init A 3 16 (qX5 z h t) 0 [(0, .ref h), (1, .ref t)] [] [(h, .inr (5, [.null, .null, .null, .null]))] 0 0
  refine br_aload (i := 0) dX5_init_0 rfl (List.mem_of_getElem? (i := 0) rfl) ?_
  refine br_objInit dX5_init_1 kw_172 kw_21 kw_22 (by decide) ?_
  refine br_aload (i := 0) dX5_init_4 rfl (List.mem_of_getElem? (i := 0) rfl) ?_
  refine br_iconst (w := nI 5) dX5_init_5 (by decide) ?_
  refine br_newa (t := 0) (N := 5) dX5_init_6 kw_120 rfl rfl (.inl rfl) (by decide) (by decide) (by decide) (by decide) (by decide) (fun q1 => ?_)
  refine br_putF (i := 1) jc_5 dX5_init_8 kw_174 (by decide) rfl rfl rfl rfl (Nat.le_of_ble_eq_true rfl) ?_
  refine br_aload (i := 0) dX5_init_11 rfl (List.mem_of_getElem? (i := 0) rfl) ?_
  refine br_iconst (w := nI 5) dX5_init_12 (by decide) ?_
  refine br_newa (t := 0) (N := 5) dX5_init_13 kw_120 rfl rfl (.inl rfl) (by decide) (by decide) (by decide) (by decide) (by decide) (fun q2 => ?_)
  refine br_putF (i := 2) jc_5 dX5_init_15 kw_176 (by decide) rfl rfl rfl rfl (Nat.le_of_ble_eq_true rfl) ?_
  refine br_aload (i := 0) dX5_init_18 rfl (List.mem_of_getElem? (i := 0) rfl) ?_
  refine br_bipush (w := nI 6) dX5_init_19 (by decide) ?_
  refine br_newa (t := 0) (N := 6) dX5_init_21 kw_120 rfl rfl (.inl rfl) (by decide) (by decide) (by decide) (by decide) (by decide) (fun q3 => ?_)
  refine br_putF (i := 3) jc_5 dX5_init_23 kw_179 (by decide) rfl rfl rfl rfl (Nat.le_of_ble_eq_true rfl) ?_
  refine br_aload (i := 0) dX5_init_26 rfl (List.mem_of_getElem? (i := 0) rfl) ?_
  refine br_aload (i := 1) dX5_init_27 rfl (List.mem_of_getElem? (i := 1) rfl) ?_
  refine br_putF (i := 0) jc_5 dX5_init_28 kw_173 (by decide) rfl rfl rfl rfl (Nat.le_of_ble_eq_true rfl) ?_
  exact br_vret dX5_init_31 rfl rfl ⟨q1, q2, q3, rfl⟩
def qX4 (z : bZ) (h t g : Nat) (w : va_W) : Prop := ∃ q1 q2 : Nat, w = [(h, .inr (4, [.ref t, .ref g, .ref q1, .ref q2, .int ((-9)), .int (nI 0)])), (q1, .inl (z.2.2 0, 5, .inl (fun _ => 0))), (q2, .inl (z.2.2 0, 5, .inl (fun _ => 0)))]
set_option maxRecDepth 100000 in
set_option maxHeartbeats 2000000 in
theorem k_X4 (z : bZ) (h t g : Nat) : bC z mX4_init [.ref h, .ref t, .ref g] [(h, .inr (4, [.null, .null, .null, .null, .int 0, .int 0]))] 2 10 (qX4 z h t g) := by
  refine bC_of (by decide +kernel) rfl rfl (Nat.le_of_ble_eq_true rfl) (fun A => ?_)
  show bW z mX4_init A 2 10 (qX4 z h t g) 0 [(0, .ref h), (1, .ref t), (2, .ref g)] [] [(h, .inr (4, [.null, .null, .null, .null, .int 0, .int 0]))] 0 0
  refine br_aload (i := 0) dX4_init_0 rfl (List.mem_of_getElem? (i := 0) rfl) ?_
  refine br_objInit dX4_init_1 kw_194 kw_21 kw_22 (by decide) ?_
  refine br_aload (i := 0) dX4_init_4 rfl (List.mem_of_getElem? (i := 0) rfl) ?_
  refine br_iconst (w := nI 5) dX4_init_5 (by decide) ?_
  refine br_newa (t := 0) (N := 5) dX4_init_6 kw_120 rfl rfl (.inl rfl) (by decide) (by decide) (by decide) (by decide) (by decide) (fun q1 => ?_)
  refine br_putF (i := 2) jc_4 dX4_init_8 kw_197 (by decide) rfl rfl rfl rfl (Nat.le_of_ble_eq_true rfl) ?_
  refine br_aload (i := 0) dX4_init_11 rfl (List.mem_of_getElem? (i := 0) rfl) ?_
  refine br_iconst (w := nI 5) dX4_init_12 (by decide) ?_
  refine br_newa (t := 0) (N := 5) dX4_init_13 kw_120 rfl rfl (.inl rfl) (by decide) (by decide) (by decide) (by decide) (by decide) (fun q2 => ?_)
  refine br_putF (i := 3) jc_4 dX4_init_15 kw_198 (by decide) rfl rfl rfl rfl (Nat.le_of_ble_eq_true rfl) ?_
  refine br_aload (i := 0) dX4_init_18 rfl (List.mem_of_getElem? (i := 0) rfl) ?_
  refine br_bipush (w := (-9)) dX4_init_19 (by decide) ?_
  refine br_put (i := 4) jc_4 dX4_init_21 kw_200 (by decide) rfl rfl rfl (Nat.le_of_ble_eq_true rfl) ?_
  refine br_aload (i := 0) dX4_init_24 rfl (List.mem_of_getElem? (i := 0) rfl) ?_
  refine br_iconst (w := nI 0) dX4_init_25 (by decide) ?_
  refine br_put (i := 5) jc_4 dX4_init_26 kw_202 (by decide) rfl rfl rfl (Nat.le_of_ble_eq_true rfl) ?_
  refine br_aload (i := 0) dX4_init_29 rfl (List.mem_of_getElem? (i := 0) rfl) ?_
  refine br_aload (i := 1) dX4_init_30 rfl (List.mem_of_getElem? (i := 1) rfl) ?_
  refine br_putF (i := 0) jc_4 dX4_init_31 kw_195 (by decide) rfl rfl rfl rfl (Nat.le_of_ble_eq_true rfl) ?_
  refine br_aload (i := 0) dX4_init_34 rfl (List.mem_of_getElem? (i := 0) rfl) ?_
  refine br_aload (i := 2) dX4_init_35 rfl (List.mem_of_getElem? (i := 2) rfl) ?_
  refine br_putF (i := 1) jc_4 dX4_init_36 kw_196 (by decide) rfl rfl rfl rfl (Nat.le_of_ble_eq_true rfl) ?_
  exact br_vret dX4_init_39 rfl rfl ⟨q1, q2, rfl⟩
def qX0 (z : bZ) (h t g : Nat) (w : va_W) : Prop := ∃ q1 : Nat, w = [(h, .inr (0, [.ref t, .ref g, .ref q1, .int (nI 0), .int (nI 0)])), (q1, .inl (z.2.2 0, 12, .inl (fun _ => 0)))]
set_option maxRecDepth 100000 in
set_option maxHeartbeats 2000000 in
theorem k_X0 (z : bZ) (h t g : Nat) : bC z mX0_init [.ref h, .ref t, .ref g] [(h, .inr (0, [.null, .null, .null, .int 0, .int 0]))] 1 12 (qX0 z h t g) := by
  refine bC_of (by decide +kernel) rfl rfl (Nat.le_of_ble_eq_true rfl) (fun A => ?_)
  show bW z mX0_init A 1 12 (qX0 z h t g) 0 [(0, .ref h), (1, .ref t), (2, .ref g)] [] [(h, .inr (0, [.null, .null, .null, .int 0, .int 0]))] 0 0
  refine br_aload (i := 0) dX0_init_0 rfl (List.mem_of_getElem? (i := 0) rfl) ?_
  refine br_objInit dX0_init_1 kw_221 kw_21 kw_22 (by decide) ?_
  refine br_aload (i := 0) dX0_init_4 rfl (List.mem_of_getElem? (i := 0) rfl) ?_
  refine br_bipush (w := nI 12) dX0_init_5 (by decide) ?_
  refine br_newa (t := 0) (N := 12) dX0_init_7 kw_120 rfl rfl (.inl rfl) (by decide) (by decide) (by decide) (by decide) (by decide) (fun q1 => ?_)
  refine br_putF (i := 2) jc_0 dX0_init_9 kw_224 (by decide) rfl rfl rfl rfl (Nat.le_of_ble_eq_true rfl) ?_
  refine br_aload (i := 0) dX0_init_12 rfl (List.mem_of_getElem? (i := 0) rfl) ?_
  refine br_iconst (w := nI 0) dX0_init_13 (by decide) ?_
  refine br_put (i := 3) jc_0 dX0_init_14 kw_225 (by decide) rfl rfl rfl (Nat.le_of_ble_eq_true rfl) ?_
  refine br_aload (i := 0) dX0_init_17 rfl (List.mem_of_getElem? (i := 0) rfl) ?_
  refine br_iconst (w := nI 0) dX0_init_18 (by decide) ?_
  refine br_put (i := 4) jc_0 dX0_init_19 kw_226 (by decide) rfl rfl rfl (Nat.le_of_ble_eq_true rfl) ?_
  refine br_aload (i := 0) dX0_init_22 rfl (List.mem_of_getElem? (i := 0) rfl) ?_
  refine br_aload (i := 1) dX0_init_23 rfl (List.mem_of_getElem? (i := 1) rfl) ?_
  refine br_putF (i := 0) jc_0 dX0_init_24 kw_222 (by decide) rfl rfl rfl rfl (Nat.le_of_ble_eq_true rfl) ?_
  refine br_aload (i := 0) dX0_init_27 rfl (List.mem_of_getElem? (i := 0) rfl) ?_
  refine br_aload (i := 2) dX0_init_28 rfl (List.mem_of_getElem? (i := 2) rfl) ?_
  refine br_putF (i := 1) jc_0 dX0_init_29 kw_223 (by decide) rfl rfl rfl rfl (Nat.le_of_ble_eq_true rfl) ?_
  exact br_vret dX0_init_32 rfl rfl ⟨q1, rfl⟩
def qX1 (z : bZ) (h t g : Nat) (w : va_W) : Prop := ∃ q1 q2 q3 : Nat, w = [(h, .inr (1, [.ref t, .ref g, .ref q1, .ref q2, .ref q3])), (q1, .inl (z.2.2 0, 5, .inl (fun _ => 0))), (q2, .inl (z.2.2 0, 5, .inl (fun _ => 0))), (q3, .inl (z.2.2 0, 5, .inl (fun _ => 0)))]
set_option maxRecDepth 100000 in
set_option maxHeartbeats 2000000 in
theorem k_X1 (z : bZ) (h t g : Nat) : bC z mX1_init [.ref h, .ref t, .ref g] [(h, .inr (1, [.null, .null, .null, .null, .null]))] 3 15 (qX1 z h t g) := by
  refine bC_of (by decide +kernel) rfl rfl (Nat.le_of_ble_eq_true rfl) (fun A => ?_)
  show bW z mX1_init A 3 15 (qX1 z h t g) 0 [(0, .ref h), (1, .ref t), (2, .ref g)] [] [(h, .inr (1, [.null, .null, .null, .null, .null]))] 0 0
  refine br_aload (i := 0) dX1_init_0 rfl (List.mem_of_getElem? (i := 0) rfl) ?_
  refine br_objInit dX1_init_1 kw_243 kw_21 kw_22 (by decide) ?_
  refine br_aload (i := 0) dX1_init_4 rfl (List.mem_of_getElem? (i := 0) rfl) ?_
  refine br_iconst (w := nI 5) dX1_init_5 (by decide) ?_
  refine br_newa (t := 0) (N := 5) dX1_init_6 kw_120 rfl rfl (.inl rfl) (by decide) (by decide) (by decide) (by decide) (by decide) (fun q1 => ?_)
  refine br_putF (i := 2) jc_1 dX1_init_8 kw_246 (by decide) rfl rfl rfl rfl (Nat.le_of_ble_eq_true rfl) ?_
  refine br_aload (i := 0) dX1_init_11 rfl (List.mem_of_getElem? (i := 0) rfl) ?_
  refine br_iconst (w := nI 5) dX1_init_12 (by decide) ?_
  refine br_newa (t := 0) (N := 5) dX1_init_13 kw_120 rfl rfl (.inl rfl) (by decide) (by decide) (by decide) (by decide) (by decide) (fun q2 => ?_)
  refine br_putF (i := 3) jc_1 dX1_init_15 kw_247 (by decide) rfl rfl rfl rfl (Nat.le_of_ble_eq_true rfl) ?_
  refine br_aload (i := 0) dX1_init_18 rfl (List.mem_of_getElem? (i := 0) rfl) ?_
  refine br_iconst (w := nI 5) dX1_init_19 (by decide) ?_
  refine br_newa (t := 0) (N := 5) dX1_init_20 kw_120 rfl rfl (.inl rfl) (by decide) (by decide) (by decide) (by decide) (by decide) (fun q3 => ?_)
  refine br_putF (i := 4) jc_1 dX1_init_22 kw_248 (by decide) rfl rfl rfl rfl (Nat.le_of_ble_eq_true rfl) ?_
  refine br_aload (i := 0) dX1_init_25 rfl (List.mem_of_getElem? (i := 0) rfl) ?_
  refine br_aload (i := 1) dX1_init_26 rfl (List.mem_of_getElem? (i := 1) rfl) ?_
  refine br_putF (i := 0) jc_1 dX1_init_27 kw_244 (by decide) rfl rfl rfl rfl (Nat.le_of_ble_eq_true rfl) ?_
  refine br_aload (i := 0) dX1_init_30 rfl (List.mem_of_getElem? (i := 0) rfl) ?_
  refine br_aload (i := 2) dX1_init_31 rfl (List.mem_of_getElem? (i := 2) rfl) ?_
  refine br_putF (i := 1) jc_1 dX1_init_32 kw_245 (by decide) rfl rfl rfl rfl (Nat.le_of_ble_eq_true rfl) ?_
  exact br_vret dX1_init_35 rfl rfl ⟨q1, q2, q3, rfl⟩
def qX9 (z : bZ) (h : Nat) (w : va_W) : Prop := ∃ q1 q2 q3 q4 q5 q6 q7 q8 q9 q10 q11 q12 q13 q14 q15 : Nat, w = [(h, .inr (9, [.int 0, .long 0, .ref q1, .int 0, .int 0, .int 0, .int 0, .int 0, .int 0, .ref q2, .ref q3, .ref q4, .ref q5, .ref q6, .int 0, .ref q7, .ref q8, .ref q9, .ref q10, .ref q11, .int 0, .ref q12, .ref q13, .int 0, .ref q14, .ref q15, .int 0, .int 0])), (q1, .inl (z.2.2 0, 200, .inl (fun _ => 0))), (q2, .inl (z.2.2 0, 10, .inl (upd (upd (upd (fun _ => 0) 2 (nI 8)) 3 (nI 12)) 4 (nI 5)))), (q3, .inl (z.2.2 0, 10, .inl (fun _ => 0))), (q4, .inl (z.2.2 0, 10, .inl (fun _ => 0))), (q5, .inl (z.2.2 0, 10, .inl (fun _ => 0))), (q6, .inl (z.2.2 0, 10, .inl (fun _ => 0))), (q7, .inl (z.2.2 0, 16, .inl (fun _ => 0))), (q8, .inl (z.2.2 0, 16, .inl (fun _ => 0))), (q9, .inl (z.2.2 0, 32, .inl (fun _ => 0))), (q10, .inl (z.2.2 2, 2, .inl (fun _ => 0))), (q11, .inl (z.2.2 0, 160, .inl (fun _ => 0))), (q12, .inl (z.2.2 0, 6, .inl (fun _ => 0))), (q13, .inl (z.2.2 0, 6, .inl (fun _ => 0))), (q14, .inl (z.2.2 0, 5, .inl (fun _ => 0))), (q15, .inl (z.2.2 0, 5, .inl (fun _ => 0)))]
set_option maxRecDepth 100000 in
set_option maxHeartbeats 2000000 in
theorem k_X9 (z : bZ) (h : Nat) : bC z mX9_init [.ref h] [(h, .inr (9, [.int 0, .long 0, .null, .int 0, .int 0, .int 0, .int 0, .int 0, .int 0, .null, .null, .null, .null, .null, .int 0, .null, .null, .null, .null, .null, .int 0, .null, .null, .int 0, .null, .null, .int 0, .int 0]))] 15 498 (qX9 z h) := by
  refine bC_of (by decide +kernel) rfl rfl (Nat.le_of_ble_eq_true rfl) (fun A => ?_)
  show bW z mX9_init A 15 498 (qX9 z h) 0 [(0, .ref h)] [] [(h, .inr (9, [.int 0, .long 0, .null, .int 0, .int 0, .int 0, .int 0, .int 0, .int 0, .null, .null, .null, .null, .null, .int 0, .null, .null, .null, .null, .null, .int 0, .null, .null, .int 0, .null, .null, .int 0, .int 0]))] 0 0
  refine br_aload (i := 0) dX9_init_0 rfl (List.mem_of_getElem? (i := 0) rfl) ?_
  refine br_objInit dX9_init_1 kw_773 kw_21 kw_22 (by decide) ?_
  refine br_aload (i := 0) dX9_init_4 rfl (List.mem_of_getElem? (i := 0) rfl) ?_
  refine br_sipush (w := nI 200) dX9_init_5 (by decide) ?_
  refine br_newa (t := 0) (N := 200) dX9_init_8 kw_120 rfl rfl (.inl rfl) (by decide) (by decide) (by decide) (by decide) (by decide) (fun q1 => ?_)
  refine br_putF (i := 2) jc_9 dX9_init_10 kw_776 (by decide) rfl rfl rfl rfl (Nat.le_of_ble_eq_true rfl) ?_
  refine br_aload (i := 0) dX9_init_13 rfl (List.mem_of_getElem? (i := 0) rfl) ?_
  refine br_bipush (w := nI 10) dX9_init_14 (by decide) ?_
  refine br_newa (t := 0) (N := 10) dX9_init_16 kw_120 rfl rfl (.inl rfl) (by decide) (by decide) (by decide) (by decide) (by decide) (fun q2 => ?_)
  refine br_putF (i := 9) jc_9 dX9_init_18 kw_783 (by decide) rfl rfl rfl rfl (Nat.le_of_ble_eq_true rfl) ?_
  refine br_aload (i := 0) dX9_init_21 rfl (List.mem_of_getElem? (i := 0) rfl) ?_
  refine br_bipush (w := nI 10) dX9_init_22 (by decide) ?_
  refine br_newa (t := 0) (N := 10) dX9_init_24 kw_120 rfl rfl (.inl rfl) (by decide) (by decide) (by decide) (by decide) (by decide) (fun q3 => ?_)
  refine br_putF (i := 10) jc_9 dX9_init_26 kw_784 (by decide) rfl rfl rfl rfl (Nat.le_of_ble_eq_true rfl) ?_
  refine br_aload (i := 0) dX9_init_29 rfl (List.mem_of_getElem? (i := 0) rfl) ?_
  refine br_bipush (w := nI 10) dX9_init_30 (by decide) ?_
  refine br_newa (t := 0) (N := 10) dX9_init_32 kw_120 rfl rfl (.inl rfl) (by decide) (by decide) (by decide) (by decide) (by decide) (fun q4 => ?_)
  refine br_putF (i := 11) jc_9 dX9_init_34 kw_785 (by decide) rfl rfl rfl rfl (Nat.le_of_ble_eq_true rfl) ?_
  refine br_aload (i := 0) dX9_init_37 rfl (List.mem_of_getElem? (i := 0) rfl) ?_
  refine br_bipush (w := nI 10) dX9_init_38 (by decide) ?_
  refine br_newa (t := 0) (N := 10) dX9_init_40 kw_120 rfl rfl (.inl rfl) (by decide) (by decide) (by decide) (by decide) (by decide) (fun q5 => ?_)
  refine br_putF (i := 12) jc_9 dX9_init_42 kw_786 (by decide) rfl rfl rfl rfl (Nat.le_of_ble_eq_true rfl) ?_
  refine br_aload (i := 0) dX9_init_45 rfl (List.mem_of_getElem? (i := 0) rfl) ?_
  refine br_bipush (w := nI 10) dX9_init_46 (by decide) ?_
  refine br_newa (t := 0) (N := 10) dX9_init_48 kw_120 rfl rfl (.inl rfl) (by decide) (by decide) (by decide) (by decide) (by decide) (fun q6 => ?_)
  refine br_putF (i := 13) jc_9 dX9_init_50 kw_787 (by decide) rfl rfl rfl rfl (Nat.le_of_ble_eq_true rfl) ?_
  refine br_aload (i := 0) dX9_init_53 rfl (List.mem_of_getElem? (i := 0) rfl) ?_
  refine br_bipush (w := nI 16) dX9_init_54 (by decide) ?_
  refine br_newa (t := 0) (N := 16) dX9_init_56 kw_120 rfl rfl (.inl rfl) (by decide) (by decide) (by decide) (by decide) (by decide) (fun q7 => ?_)
  refine br_putF (i := 15) jc_9 dX9_init_58 kw_789 (by decide) rfl rfl rfl rfl (Nat.le_of_ble_eq_true rfl) ?_
  refine br_aload (i := 0) dX9_init_61 rfl (List.mem_of_getElem? (i := 0) rfl) ?_
  refine br_bipush (w := nI 16) dX9_init_62 (by decide) ?_
  refine br_newa (t := 0) (N := 16) dX9_init_64 kw_120 rfl rfl (.inl rfl) (by decide) (by decide) (by decide) (by decide) (by decide) (fun q8 => ?_)
  refine br_putF (i := 16) jc_9 dX9_init_66 kw_790 (by decide) rfl rfl rfl rfl (Nat.le_of_ble_eq_true rfl) ?_
  refine br_aload (i := 0) dX9_init_69 rfl (List.mem_of_getElem? (i := 0) rfl) ?_
  refine br_bipush (w := nI 32) dX9_init_70 (by decide) ?_
  refine br_newa (t := 0) (N := 32) dX9_init_72 kw_120 rfl rfl (.inl rfl) (by decide) (by decide) (by decide) (by decide) (by decide) (fun q9 => ?_)
  refine br_putF (i := 17) jc_9 dX9_init_74 kw_791 (by decide) rfl rfl rfl rfl (Nat.le_of_ble_eq_true rfl) ?_
  refine br_aload (i := 0) dX9_init_77 rfl (List.mem_of_getElem? (i := 0) rfl) ?_
  refine br_iconst (w := nI 2) dX9_init_78 (by decide) ?_
  refine br_newa (t := 2) (N := 2) dX9_init_79 kw_859 rfl rfl (.inr (.inr rfl)) (by decide) (by decide) (by decide) (by decide) (by decide) (fun q10 => ?_)
  refine br_putF (i := 18) jc_9 dX9_init_81 kw_792 (by decide) rfl rfl rfl rfl (Nat.le_of_ble_eq_true rfl) ?_
  refine br_aload (i := 0) dX9_init_84 rfl (List.mem_of_getElem? (i := 0) rfl) ?_
  refine br_sipush (w := nI 160) dX9_init_85 (by decide) ?_
  refine br_newa (t := 0) (N := 160) dX9_init_88 kw_120 rfl rfl (.inl rfl) (by decide) (by decide) (by decide) (by decide) (by decide) (fun q11 => ?_)
  refine br_putF (i := 19) jc_9 dX9_init_90 kw_793 (by decide) rfl rfl rfl rfl (Nat.le_of_ble_eq_true rfl) ?_
  refine br_aload (i := 0) dX9_init_93 rfl (List.mem_of_getElem? (i := 0) rfl) ?_
  refine br_bipush (w := nI 6) dX9_init_94 (by decide) ?_
  refine br_newa (t := 0) (N := 6) dX9_init_96 kw_120 rfl rfl (.inl rfl) (by decide) (by decide) (by decide) (by decide) (by decide) (fun q12 => ?_)
  refine br_putF (i := 21) jc_9 dX9_init_98 kw_795 (by decide) rfl rfl rfl rfl (Nat.le_of_ble_eq_true rfl) ?_
  refine br_aload (i := 0) dX9_init_101 rfl (List.mem_of_getElem? (i := 0) rfl) ?_
  refine br_bipush (w := nI 6) dX9_init_102 (by decide) ?_
  refine br_newa (t := 0) (N := 6) dX9_init_104 kw_120 rfl rfl (.inl rfl) (by decide) (by decide) (by decide) (by decide) (by decide) (fun q13 => ?_)
  refine br_putF (i := 22) jc_9 dX9_init_106 kw_796 (by decide) rfl rfl rfl rfl (Nat.le_of_ble_eq_true rfl) ?_
  refine br_aload (i := 0) dX9_init_109 rfl (List.mem_of_getElem? (i := 0) rfl) ?_
  refine br_iconst (w := nI 5) dX9_init_110 (by decide) ?_
  refine br_newa (t := 0) (N := 5) dX9_init_111 kw_120 rfl rfl (.inl rfl) (by decide) (by decide) (by decide) (by decide) (by decide) (fun q14 => ?_)
  refine br_putF (i := 24) jc_9 dX9_init_113 kw_798 (by decide) rfl rfl rfl rfl (Nat.le_of_ble_eq_true rfl) ?_
  refine br_aload (i := 0) dX9_init_116 rfl (List.mem_of_getElem? (i := 0) rfl) ?_
  refine br_iconst (w := nI 5) dX9_init_117 (by decide) ?_
  refine br_newa (t := 0) (N := 5) dX9_init_118 kw_120 rfl rfl (.inl rfl) (by decide) (by decide) (by decide) (by decide) (by decide) (fun q15 => ?_)
  refine br_putF (i := 25) jc_9 dX9_init_120 kw_799 (by decide) rfl rfl rfl rfl (Nat.le_of_ble_eq_true rfl) ?_
  refine br_aload (i := 0) dX9_init_123 rfl (List.mem_of_getElem? (i := 0) rfl) ?_
  refine br_get (i := 9) (v := .ref q2) jc_9 dX9_init_124 kw_783 (by decide) rfl ?_
  refine br_iconst (w := nI 2) dX9_init_127 (by decide) ?_
  refine br_bipush (w := nI 8) dX9_init_128 (by decide) ?_
  refine br_iast (q0 := 2) (i := nI 2) dX9_init_130 rfl (vp_in_nI (by decide) (by decide)) ?_
  show bW z mX9_init A 15 498 (qX9 z h) 131 [(0, .ref h)] [] [(h, .inr (9, [.int 0, .long 0, .ref q1, .int 0, .int 0, .int 0, .int 0, .int 0, .int 0, .ref q2, .ref q3, .ref q4, .ref q5, .ref q6, .int 0, .ref q7, .ref q8, .ref q9, .ref q10, .ref q11, .int 0, .ref q12, .ref q13, .int 0, .ref q14, .ref q15, .int 0, .int 0])), (q1, .inl (z.2.2 0, 200, .inl (fun _ => 0))), (q2, .inl (z.2.2 0, 10, .inl (upd (fun _ => 0) 2 (nI 8)))), (q3, .inl (z.2.2 0, 10, .inl (fun _ => 0))), (q4, .inl (z.2.2 0, 10, .inl (fun _ => 0))), (q5, .inl (z.2.2 0, 10, .inl (fun _ => 0))), (q6, .inl (z.2.2 0, 10, .inl (fun _ => 0))), (q7, .inl (z.2.2 0, 16, .inl (fun _ => 0))), (q8, .inl (z.2.2 0, 16, .inl (fun _ => 0))), (q9, .inl (z.2.2 0, 32, .inl (fun _ => 0))), (q10, .inl (z.2.2 2, 2, .inl (fun _ => 0))), (q11, .inl (z.2.2 0, 160, .inl (fun _ => 0))), (q12, .inl (z.2.2 0, 6, .inl (fun _ => 0))), (q13, .inl (z.2.2 0, 6, .inl (fun _ => 0))), (q14, .inl (z.2.2 0, 5, .inl (fun _ => 0))), (q15, .inl (z.2.2 0, 5, .inl (fun _ => 0)))] 15 498
  refine br_aload (i := 0) dX9_init_131 rfl (List.mem_of_getElem? (i := 0) rfl) ?_
  refine br_get (i := 9) (v := .ref q2) jc_9 dX9_init_132 kw_783 (by decide) rfl ?_
  refine br_iconst (w := nI 3) dX9_init_135 (by decide) ?_
  refine br_bipush (w := nI 12) dX9_init_136 (by decide) ?_
  refine br_iast (q0 := 2) (i := nI 3) dX9_init_138 rfl (vp_in_nI (by decide) (by decide)) ?_
  show bW z mX9_init A 15 498 (qX9 z h) 139 [(0, .ref h)] [] [(h, .inr (9, [.int 0, .long 0, .ref q1, .int 0, .int 0, .int 0, .int 0, .int 0, .int 0, .ref q2, .ref q3, .ref q4, .ref q5, .ref q6, .int 0, .ref q7, .ref q8, .ref q9, .ref q10, .ref q11, .int 0, .ref q12, .ref q13, .int 0, .ref q14, .ref q15, .int 0, .int 0])), (q1, .inl (z.2.2 0, 200, .inl (fun _ => 0))), (q2, .inl (z.2.2 0, 10, .inl (upd (upd (fun _ => 0) 2 (nI 8)) 3 (nI 12)))), (q3, .inl (z.2.2 0, 10, .inl (fun _ => 0))), (q4, .inl (z.2.2 0, 10, .inl (fun _ => 0))), (q5, .inl (z.2.2 0, 10, .inl (fun _ => 0))), (q6, .inl (z.2.2 0, 10, .inl (fun _ => 0))), (q7, .inl (z.2.2 0, 16, .inl (fun _ => 0))), (q8, .inl (z.2.2 0, 16, .inl (fun _ => 0))), (q9, .inl (z.2.2 0, 32, .inl (fun _ => 0))), (q10, .inl (z.2.2 2, 2, .inl (fun _ => 0))), (q11, .inl (z.2.2 0, 160, .inl (fun _ => 0))), (q12, .inl (z.2.2 0, 6, .inl (fun _ => 0))), (q13, .inl (z.2.2 0, 6, .inl (fun _ => 0))), (q14, .inl (z.2.2 0, 5, .inl (fun _ => 0))), (q15, .inl (z.2.2 0, 5, .inl (fun _ => 0)))] 15 498
  refine br_aload (i := 0) dX9_init_139 rfl (List.mem_of_getElem? (i := 0) rfl) ?_
  refine br_get (i := 9) (v := .ref q2) jc_9 dX9_init_140 kw_783 (by decide) rfl ?_
  refine br_iconst (w := nI 4) dX9_init_143 (by decide) ?_
  refine br_iconst (w := nI 5) dX9_init_144 (by decide) ?_
  refine br_iast (q0 := 2) (i := nI 4) dX9_init_145 rfl (vp_in_nI (by decide) (by decide)) ?_
  show bW z mX9_init A 15 498 (qX9 z h) 146 [(0, .ref h)] [] [(h, .inr (9, [.int 0, .long 0, .ref q1, .int 0, .int 0, .int 0, .int 0, .int 0, .int 0, .ref q2, .ref q3, .ref q4, .ref q5, .ref q6, .int 0, .ref q7, .ref q8, .ref q9, .ref q10, .ref q11, .int 0, .ref q12, .ref q13, .int 0, .ref q14, .ref q15, .int 0, .int 0])), (q1, .inl (z.2.2 0, 200, .inl (fun _ => 0))), (q2, .inl (z.2.2 0, 10, .inl (upd (upd (upd (fun _ => 0) 2 (nI 8)) 3 (nI 12)) 4 (nI 5)))), (q3, .inl (z.2.2 0, 10, .inl (fun _ => 0))), (q4, .inl (z.2.2 0, 10, .inl (fun _ => 0))), (q5, .inl (z.2.2 0, 10, .inl (fun _ => 0))), (q6, .inl (z.2.2 0, 10, .inl (fun _ => 0))), (q7, .inl (z.2.2 0, 16, .inl (fun _ => 0))), (q8, .inl (z.2.2 0, 16, .inl (fun _ => 0))), (q9, .inl (z.2.2 0, 32, .inl (fun _ => 0))), (q10, .inl (z.2.2 2, 2, .inl (fun _ => 0))), (q11, .inl (z.2.2 0, 160, .inl (fun _ => 0))), (q12, .inl (z.2.2 0, 6, .inl (fun _ => 0))), (q13, .inl (z.2.2 0, 6, .inl (fun _ => 0))), (q14, .inl (z.2.2 0, 5, .inl (fun _ => 0))), (q15, .inl (z.2.2 0, 5, .inl (fun _ => 0)))] 15 498
  exact br_vret dX9_init_146 rfl rfl ⟨q1, q2, q3, q4, q5, q6, q7, q8, q9, q10, q11, q12, q13, q14, q15, rfl⟩
