theorem hyS_X0_isKind : yX0_isKind.cls ≠ "java/lang/invoke/MethodHandle" ∧ yX0_isKind.cls ≠ "java/lang/invoke/VarHandle" ∧ (parseMethodDescriptor yX0_isKind.desc).map (fun d => d.parameters.length) = some 1 := ⟨by decide +kernel, by decide +kernel, by decide +kernel⟩
noncomputable def fX0_isKind (σ : jS) (p1 : Int32) : Option (Int32) :=
  (if p1 < 0 then (some (0 : Int32)) else (if (8 : Int32) ≤ p1 then (some (0 : Int32)) else (some (1 : Int32))))
set_option maxRecDepth 100000 in
set_option maxHeartbeats 4000000 in
theorem kX0_isKind (l : Launch) (d : jD) (A : Nat → Prop) (σ : jS) (p1 : Int32) : jMzr l yX0_isKind (jws yX0_isKind cX0_isKind 1 (some (.boolean))) { frames := 2, cells := 0, slots := 0, locals := 130 } d wX A [.int p1] σ (fX0_isKind σ p1) := by
  refine jStart_zr (lv0 := [(0, .int p1)]) (by decide) rfl (Nat.le_of_ble_eq_true rfl) rfl (fun z hC res => ?_)
  unfold fX0_isKind
  refine j_iload_n (pc' := 1) hC 0 dX0_isKind_0 rfl rfl rfl ?_
  refine j_if_lt (pc' := 4) (tgt := 14) hC dX0_isKind_1 (by decide) rfl ?_ ?_
  · refine j_iconst (pc' := 15) (v := (0 : Int32)) hC dX0_isKind_14 (by decide) rfl ?_
    exact j_ret_zr hC (by decide) dX0_isKind_15
  · refine j_iload_n (pc' := 5) hC 0 dX0_isKind_4 rfl rfl rfl ?_
    refine j_bipush (pc' := 7) (v := (8 : Int32)) hC dX0_isKind_5 (by decide) rfl ?_
    refine j_icmp_ge (pc' := 10) (tgt := 14) hC dX0_isKind_7 (by decide) rfl ?_ ?_
    · refine j_iconst (pc' := 15) (v := (0 : Int32)) hC dX0_isKind_14 (by decide) rfl ?_
      exact j_ret_zr hC (by decide) dX0_isKind_15
    · refine j_iconst (pc' := 11) (v := (1 : Int32)) hC dX0_isKind_10 (by decide) rfl ?_
      refine j_goto (tgt := 15) hC dX0_isKind_11 (by decide) ?_
      exact j_ret_zr hC (by decide) dX0_isKind_15
theorem hyV_X0_isBody : yX0_isBody.cls = RX0 ∧ yX0_isBody.cls ≠ "java/lang/invoke/MethodHandle" ∧ yX0_isBody.cls ≠ "java/lang/invoke/VarHandle" ∧ (parseMethodDescriptor yX0_isBody.desc).map (fun d => d.parameters.length) = some 1 := ⟨rfl, by decide +kernel, by decide +kernel, by decide +kernel⟩
noncomputable def fX0_isBody (σ : jS) (p1 : Int32) : Option (Int32) :=
  (if p1 < 0 then (some (0 : Int32)) else (if (σ.1 41 1) ≤ p1 then (some (0 : Int32)) else (some (1 : Int32))))
set_option maxRecDepth 100000 in
set_option maxHeartbeats 4000000 in
theorem kX0_isBody (l : Launch) (d : jD) (A : Nat → Prop) (σ : jS) (p1 : Int32) : jMzr l yX0_isBody (jws yX0_isBody cX0_isBody 2 (some (.boolean))) { frames := 2, cells := 0, slots := 0, locals := 130 } d wX A [.ref (d.2.1 41), .int p1] σ (fX0_isBody σ p1) := by
  refine jStart_zr (lv0 := [(0, .ref (d.2.1 41)), (1, .int p1)]) (by decide) rfl (Nat.le_of_ble_eq_true rfl) rfl (fun z hC res => ?_)
  unfold fX0_isBody
  refine j_iload_n (pc' := 1) hC 1 dX0_isBody_0 rfl rfl rfl ?_
  refine j_if_lt (pc' := 4) (tgt := 16) hC dX0_isBody_1 (by decide) rfl ?_ ?_
  · refine j_iconst (pc' := 17) (v := (0 : Int32)) hC dX0_isBody_16 (by decide) rfl ?_
    exact j_ret_zr hC (by decide) dX0_isBody_17
  · refine j_iload_n (pc' := 5) hC 1 dX0_isBody_4 rfl rfl rfl ?_
    refine j_aload_n (pc' := 6) hC 0 dX0_isBody_5 rfl rfl rfl ?_
    refine j_get (pc' := 9) hC ly_X0 (X_at_41 d _) rfl 1 (by decide) fl_X0_22 rfl dX0_isBody_6 rfl ?_
    refine j_icmp_ge (pc' := 12) (tgt := 16) hC dX0_isBody_9 (by decide) rfl ?_ ?_
    · refine j_iconst (pc' := 17) (v := (0 : Int32)) hC dX0_isBody_16 (by decide) rfl ?_
      exact j_ret_zr hC (by decide) dX0_isBody_17
    · refine j_iconst (pc' := 13) (v := (1 : Int32)) hC dX0_isBody_12 (by decide) rfl ?_
      refine j_goto (tgt := 17) hC dX0_isBody_13 (by decide) ?_
      exact j_ret_zr hC (by decide) dX0_isBody_17
theorem hyV_X0_kindOf : yX0_kindOf.cls = RX0 ∧ yX0_kindOf.cls ≠ "java/lang/invoke/MethodHandle" ∧ yX0_kindOf.cls ≠ "java/lang/invoke/VarHandle" ∧ (parseMethodDescriptor yX0_kindOf.desc).map (fun d => d.parameters.length) = some 1 := ⟨rfl, by decide +kernel, by decide +kernel, by decide +kernel⟩
noncomputable def fX0_kindOf (σ : jS) (p1 : Int32) : Option (Int32) :=
  (Option.bind (fX0_isBody σ p1) fun (q1 : Int32) => (if (jb q1) = 0 then (some (-1 : Int32)) else (ob p1 50 (some (σ.1 42 (p1).toNatClampNeg)))))
set_option maxRecDepth 100000 in
set_option maxHeartbeats 4000000 in
theorem kX0_kindOf (l : Launch) (d : jD) (A : Nat → Prop) (σ : jS) (p1 : Int32) : jMir l yX0_kindOf (jws yX0_kindOf cX0_kindOf 2 (some (.int))) { frames := 3, cells := 0, slots := 0, locals := 151 } d wX A [.ref (d.2.1 41), .int p1] σ (fX0_kindOf σ p1) := by
  refine jStart_ir (lv0 := [(0, .ref (d.2.1 41)), (1, .int p1)]) (by decide) rfl (Nat.le_of_ble_eq_true rfl) rfl (fun z hC res => ?_)
  unfold fX0_kindOf
  refine j_aload_n (pc' := 1) hC 0 dX0_kindOf_0 rfl rfl rfl ?_
  refine j_iload_n (pc' := 2) hC 1 dX0_kindOf_1 rfl rfl rfl ?_
  refine j_callV_zr (pc' := 5) (As := [.int p1]) (st := []) hC (X_at_41 d _) rfl (kX0_isBody l d A _ _) (jgV ml_X0_26 im_X0_isBody se_X0_isBody in_X0 cd_X0_isBody) rfl rfl rfl hyV_X0_isBody ⟨Nat.le_of_ble_eq_true rfl, Nat.le_of_ble_eq_true rfl⟩ rfl rfl (Nat.le_of_ble_eq_true rfl) dX0_kindOf_2 rfl (fun q1 => ?_)
  refine j_if_eq (pc' := 8) (tgt := 17) hC dX0_kindOf_5 (by decide) rfl ?_ ?_
  · refine j_iconst (pc' := 18) (v := (-1 : Int32)) hC dX0_kindOf_17 (by decide) rfl ?_
    exact j_ret_ir hC dX0_kindOf_18
  · refine j_aload_n (pc' := 9) hC 0 dX0_kindOf_8 rfl rfl rfl ?_
    refine j_get (pc' := 12) hC ly_X0 (X_at_41 d _) rfl 0 (by decide) fl_X0_11 rfl dX0_kindOf_9 rfl ?_
    refine j_iload_n (pc' := 13) hC 1 dX0_kindOf_12 rfl rfl rfl ?_
    refine j_iald (pc' := 14) hC (X_at_42 d _) dX0_kindOf_13 rfl ?_
    refine j_goto (tgt := 18) hC dX0_kindOf_14 (by decide) ?_
    exact j_ret_ir hC dX0_kindOf_18
theorem hyV_X0_isUnder : yX0_isUnder.cls = RX0 ∧ yX0_isUnder.cls ≠ "java/lang/invoke/MethodHandle" ∧ yX0_isUnder.cls ≠ "java/lang/invoke/VarHandle" ∧ (parseMethodDescriptor yX0_isUnder.desc).map (fun d => d.parameters.length) = some 2 := ⟨rfl, by decide +kernel, by decide +kernel, by decide +kernel⟩
noncomputable def fX0_isUnder_B5 (σ : jS) (p2 : Int32) (s5 : Int32 × Int32 → Option (Int32)) (a : Int32 × Int32) : Option (Int32) :=
  (if (8 : Int32) ≤ a.2 then (some (0 : Int32)) else (Option.bind (fX0_isKind σ a.1) fun (q1 : Int32) => (if (jb q1) = 0 then (some (0 : Int32)) else (if a.1 = p2 then (some (1 : Int32)) else (ob a.1 8 (s5 ((jABOVE (a.1).toNatClampNeg), (a.2 + (1 : Int32)))))))))
noncomputable def fX0_isUnder (σ : jS) (p1 : Int32) (p2 : Int32) : Option (Int32) :=
  (jloop (fX0_isUnder_B5 σ p2) jN (p1, (0 : Int32)))
set_option maxRecDepth 100000 in
set_option maxHeartbeats 4000000 in
theorem kX0_isUnder (l : Launch) (d : jD) (A : Nat → Prop) (σ : jS) (p1 : Int32) (p2 : Int32) : jMzr l yX0_isUnder (jws yX0_isUnder cX0_isUnder 5 (some (.boolean))) { frames := 3, cells := 0, slots := 0, locals := 150 } d wX A [.ref (d.2.1 41), .int p1, .int p2] σ (fX0_isUnder σ p1 p2) := by
  refine jStart_zr (lv0 := [(0, .ref (d.2.1 41)), (1, .int p1), (2, .int p2)]) (by decide) rfl (Nat.le_of_ble_eq_true rfl) rfl (fun z hC res => ?_)
  unfold fX0_isUnder
  refine j_iload_n (pc' := 1) hC 1 dX0_isUnder_0 rfl rfl rfl ?_
  refine j_istore_n (pc' := 2) (lv' := [(3, .int p1), (0, .ref (d.2.1 41)), (1, .int p1), (2, .int p2)]) hC dX0_isUnder_1 rfl (by decide) rfl rfl ?_
  refine j_iconst (pc' := 3) (v := (0 : Int32)) hC dX0_isUnder_2 (by decide) rfl ?_
  refine j_istore (pc' := 5) (lv' := [(4, .int (0 : Int32)), (3, .int p1), (0, .ref (d.2.1 41)), (1, .int p1), (2, .int p2)]) hC dX0_isUnder_3 (by decide) rfl rfl ?_
  refine j_lv (lv' := [(2, .int p2), (3, .int p1), (4, .int (0 : Int32))]) [4, 1, 0] rfl ?_
  refine j_loop 5 (fun a => σ) (fun a => [(2, .int p2), (3, .int a.1), (4, .int a.2)]) (fun s5 hs5 a => ?_) jN (p1, (0 : Int32))
  unfold fX0_isUnder_B5
  refine j_iload (pc' := 7) hC 2 dX0_isUnder_5 rfl rfl ?_
  refine j_bipush (pc' := 9) (v := (8 : Int32)) hC dX0_isUnder_7 (by decide) rfl ?_
  refine j_icmp_ge (pc' := 12) (tgt := 38) hC dX0_isUnder_9 (by decide) rfl ?_ ?_
  · refine j_iconst (pc' := 39) (v := (0 : Int32)) hC dX0_isUnder_38 (by decide) rfl ?_
    exact j_ret_zr hC (by decide) dX0_isUnder_39
  · refine j_iload_n (pc' := 13) hC 1 dX0_isUnder_12 rfl rfl rfl ?_
    refine j_callS_zr (pc' := 16) (As := [.int a.1]) (st := []) hC (kX0_isKind l d A _ _) (jgS ml_X0_18 st_X0_isKind in_X0 cd_X0_isKind) rfl rfl rfl hyS_X0_isKind ⟨Nat.le_of_ble_eq_true rfl, Nat.le_of_ble_eq_true rfl⟩ rfl rfl (Nat.le_of_ble_eq_true rfl) dX0_isUnder_13 rfl (fun q1 => ?_)
    refine j_if_eq (pc' := 19) (tgt := 38) hC dX0_isUnder_16 (by decide) rfl ?_ ?_
    · refine j_iconst (pc' := 39) (v := (0 : Int32)) hC dX0_isUnder_38 (by decide) rfl ?_
      exact j_ret_zr hC (by decide) dX0_isUnder_39
    · refine j_iload_n (pc' := 20) hC 1 dX0_isUnder_19 rfl rfl rfl ?_
      refine j_iload_n (pc' := 21) hC 0 dX0_isUnder_20 rfl rfl rfl ?_
      refine j_icmp_ne (pc' := 24) (tgt := 26) hC dX0_isUnder_21 (by decide) rfl ?_ ?_
      · refine j_gets (pc' := 29) hC hC.2.2.2.2.2.2.1.2.2.1 fl_X0_29 dX0_isUnder_26 rfl ?_
        refine j_iload_n (pc' := 30) hC 1 dX0_isUnder_29 rfl rfl rfl ?_
        refine j_tald (pc' := 31) hC hC.2.2.2.2.2.2.1.2.2.1 dX0_isUnder_30 rfl ?_
        refine j_istore_n (pc' := 32) (lv' := [(3, .int (jABOVE (a.1).toNatClampNeg)), (2, .int p2), (4, .int a.2)]) hC dX0_isUnder_31 rfl (by decide) rfl rfl ?_
        refine j_iinc (pc' := 35) (v := (a.2 + (1 : Int32))) (lv' := [(4, .int (a.2 + (1 : Int32))), (3, .int (jABOVE (a.1).toNatClampNeg)), (2, .int p2)]) hC 2 dX0_isUnder_32 rfl (by decide) rfl rfl rfl ?_
        refine j_goto (tgt := 5) hC dX0_isUnder_35 (by decide) ?_
        exact j_lv (lv' := [(2, .int p2), (3, .int (jABOVE (a.1).toNatClampNeg)), (4, .int (a.2 + (1 : Int32)))]) [2, 1, 0] rfl (hs5 ((jABOVE (a.1).toNatClampNeg), (a.2 + (1 : Int32))))
      · refine j_iconst (pc' := 25) (v := (1 : Int32)) hC dX0_isUnder_24 (by decide) rfl ?_
        exact j_ret_zr hC (by decide) dX0_isUnder_25
theorem hyV_X0_traceAt : yX0_traceAt.cls = RX0 ∧ yX0_traceAt.cls ≠ "java/lang/invoke/MethodHandle" ∧ yX0_traceAt.cls ≠ "java/lang/invoke/VarHandle" ∧ (parseMethodDescriptor yX0_traceAt.desc).map (fun d => d.parameters.length) = some 1 := ⟨rfl, by decide +kernel, by decide +kernel, by decide +kernel⟩
noncomputable def fX0_traceAt (σ : jS) (p1 : Int32) : Option (Int32) :=
  (if p1 < 0 then (some (-1 : Int32)) else (if (σ.1 41 3) ≤ p1 then (some (-1 : Int32)) else (if (24 : Int32) ≤ p1 then (some (-1 : Int32)) else (ob p1 24 (some (σ.1 43 (p1).toNatClampNeg))))))
set_option maxRecDepth 100000 in
set_option maxHeartbeats 4000000 in
theorem kX0_traceAt (l : Launch) (d : jD) (A : Nat → Prop) (σ : jS) (p1 : Int32) : jMir l yX0_traceAt (jws yX0_traceAt cX0_traceAt 2 (some (.int))) { frames := 2, cells := 0, slots := 0, locals := 130 } d wX A [.ref (d.2.1 41), .int p1] σ (fX0_traceAt σ p1) := by
  refine jStart_ir (lv0 := [(0, .ref (d.2.1 41)), (1, .int p1)]) (by decide) rfl (Nat.le_of_ble_eq_true rfl) rfl (fun z hC res => ?_)
  unfold fX0_traceAt
  refine j_iload_n (pc' := 1) hC 1 dX0_traceAt_0 rfl rfl rfl ?_
  refine j_if_lt (pc' := 4) (tgt := 27) hC dX0_traceAt_1 (by decide) rfl ?_ ?_
  · refine j_iconst (pc' := 28) (v := (-1 : Int32)) hC dX0_traceAt_27 (by decide) rfl ?_
    exact j_ret_ir hC dX0_traceAt_28
  · refine j_iload_n (pc' := 5) hC 1 dX0_traceAt_4 rfl rfl rfl ?_
    refine j_aload_n (pc' := 6) hC 0 dX0_traceAt_5 rfl rfl rfl ?_
    refine j_get (pc' := 9) hC ly_X0 (X_at_41 d _) rfl 3 (by decide) fl_X0_32 rfl dX0_traceAt_6 rfl ?_
    refine j_icmp_ge (pc' := 12) (tgt := 27) hC dX0_traceAt_9 (by decide) rfl ?_ ?_
    · refine j_iconst (pc' := 28) (v := (-1 : Int32)) hC dX0_traceAt_27 (by decide) rfl ?_
      exact j_ret_ir hC dX0_traceAt_28
    · refine j_iload_n (pc' := 13) hC 1 dX0_traceAt_12 rfl rfl rfl ?_
      refine j_bipush (pc' := 15) (v := (24 : Int32)) hC dX0_traceAt_13 (by decide) rfl ?_
      refine j_icmp_ge (pc' := 18) (tgt := 27) hC dX0_traceAt_15 (by decide) rfl ?_ ?_
      · refine j_iconst (pc' := 28) (v := (-1 : Int32)) hC dX0_traceAt_27 (by decide) rfl ?_
        exact j_ret_ir hC dX0_traceAt_28
      · refine j_aload_n (pc' := 19) hC 0 dX0_traceAt_18 rfl rfl rfl ?_
        refine j_get (pc' := 22) hC ly_X0 (X_at_41 d _) rfl 2 (by decide) fl_X0_15 rfl dX0_traceAt_19 rfl ?_
        refine j_iload_n (pc' := 23) hC 1 dX0_traceAt_22 rfl rfl rfl ?_
        refine j_iald (pc' := 24) hC (X_at_43 d _) dX0_traceAt_23 rfl ?_
        refine j_goto (tgt := 28) hC dX0_traceAt_24 (by decide) ?_
        exact j_ret_ir hC dX0_traceAt_28
theorem hyS_X0_bodyFrom : yX0_bodyFrom.cls ≠ "java/lang/invoke/MethodHandle" ∧ yX0_bodyFrom.cls ≠ "java/lang/invoke/VarHandle" ∧ (parseMethodDescriptor yX0_bodyFrom.desc).map (fun d => d.parameters.length) = some 2 := ⟨by decide +kernel, by decide +kernel, by decide +kernel⟩
noncomputable def fX0_bodyFrom_B4 (σ : jS) (p2 : Int32) (s4 : Int32 × Int32 → Option (Int32)) (a : Int32 × Int32) : Option (Int32) :=
  (if (8 : Int32) ≤ a.2 then (some (0 : Int32)) else (Option.bind (fX0_isKind σ a.1) fun (q1 : Int32) => (if (jb q1) = 0 then (some (0 : Int32)) else (ob ((a.1 * (4 : Int32)) + p2) 32 (if (jOWN (((a.1 * (4 : Int32)) + p2)).toNatClampNeg) = 0 then (ob a.1 8 (s4 ((jABOVE (a.1).toNatClampNeg), (a.2 + (1 : Int32))))) else (some (jOWN (((a.1 * (4 : Int32)) + p2)).toNatClampNeg)))))))
noncomputable def fX0_bodyFrom (σ : jS) (p1 : Int32) (p2 : Int32) : Option (Int32) :=
  (jloop (fX0_bodyFrom_B4 σ p2) jN (p1, (0 : Int32)))
set_option maxRecDepth 100000 in
set_option maxHeartbeats 4000000 in
theorem kX0_bodyFrom (l : Launch) (d : jD) (A : Nat → Prop) (σ : jS) (p1 : Int32) (p2 : Int32) : jMir l yX0_bodyFrom (jws yX0_bodyFrom cX0_bodyFrom 5 (some (.int))) { frames := 3, cells := 0, slots := 0, locals := 150 } d wX A [.int p1, .int p2] σ (fX0_bodyFrom σ p1 p2) := by
  refine jStart_ir (lv0 := [(0, .int p1), (1, .int p2)]) (by decide) rfl (Nat.le_of_ble_eq_true rfl) rfl (fun z hC res => ?_)
  unfold fX0_bodyFrom
  refine j_iload_n (pc' := 1) hC 0 dX0_bodyFrom_0 rfl rfl rfl ?_
  refine j_istore_n (pc' := 2) (lv' := [(2, .int p1), (0, .int p1), (1, .int p2)]) hC dX0_bodyFrom_1 rfl (by decide) rfl rfl ?_
  refine j_iconst (pc' := 3) (v := (0 : Int32)) hC dX0_bodyFrom_2 (by decide) rfl ?_
  refine j_istore_n (pc' := 4) (lv' := [(3, .int (0 : Int32)), (2, .int p1), (0, .int p1), (1, .int p2)]) hC dX0_bodyFrom_3 rfl (by decide) rfl rfl ?_
  refine j_lv (lv' := [(1, .int p2), (2, .int p1), (3, .int (0 : Int32))]) [3, 1, 0] rfl ?_
  refine j_loop 4 (fun a => σ) (fun a => [(1, .int p2), (2, .int a.1), (3, .int a.2)]) (fun s4 hs4 a => ?_) jN (p1, (0 : Int32))
  unfold fX0_bodyFrom_B4
  refine j_iload_n (pc' := 5) hC 2 dX0_bodyFrom_4 rfl rfl rfl ?_
  refine j_bipush (pc' := 7) (v := (8 : Int32)) hC dX0_bodyFrom_5 (by decide) rfl ?_
  refine j_icmp_ge (pc' := 10) (tgt := 48) hC dX0_bodyFrom_7 (by decide) rfl ?_ ?_
  · refine j_iconst (pc' := 49) (v := (0 : Int32)) hC dX0_bodyFrom_48 (by decide) rfl ?_
    exact j_ret_ir hC dX0_bodyFrom_49
  · refine j_iload_n (pc' := 11) hC 1 dX0_bodyFrom_10 rfl rfl rfl ?_
    refine j_callS_zr (pc' := 14) (As := [.int a.1]) (st := []) hC (kX0_isKind l d A _ _) (jgS ml_X0_18 st_X0_isKind in_X0 cd_X0_isKind) rfl rfl rfl hyS_X0_isKind ⟨Nat.le_of_ble_eq_true rfl, Nat.le_of_ble_eq_true rfl⟩ rfl rfl (Nat.le_of_ble_eq_true rfl) dX0_bodyFrom_11 rfl (fun q1 => ?_)
    refine j_if_eq (pc' := 17) (tgt := 48) hC dX0_bodyFrom_14 (by decide) rfl ?_ ?_
    · refine j_iconst (pc' := 49) (v := (0 : Int32)) hC dX0_bodyFrom_48 (by decide) rfl ?_
      exact j_ret_ir hC dX0_bodyFrom_49
    · refine j_gets (pc' := 20) hC hC.2.2.2.2.2.2.1.2.2.2.1 fl_X0_39 dX0_bodyFrom_17 rfl ?_
      refine j_iload_n (pc' := 21) hC 1 dX0_bodyFrom_20 rfl rfl rfl ?_
      refine j_iconst (pc' := 22) (v := (4 : Int32)) hC dX0_bodyFrom_21 (by decide) rfl ?_
      refine j_imul (pc' := 23) hC dX0_bodyFrom_22 rfl ?_
      refine j_iload_n (pc' := 24) hC 0 dX0_bodyFrom_23 rfl rfl rfl ?_
      refine j_iadd (pc' := 25) hC dX0_bodyFrom_24 rfl ?_
      refine j_tald (pc' := 26) hC hC.2.2.2.2.2.2.1.2.2.2.1 dX0_bodyFrom_25 rfl ?_
      refine j_istore (pc' := 28) (lv' := [(4, .int (jOWN (((a.1 * (4 : Int32)) + p2)).toNatClampNeg)), (1, .int p2), (2, .int a.1), (3, .int a.2)]) hC dX0_bodyFrom_26 (by decide) rfl rfl ?_
      refine j_iload (pc' := 30) hC 0 dX0_bodyFrom_28 rfl rfl ?_
      refine j_if_eq (pc' := 33) (tgt := 36) hC dX0_bodyFrom_30 (by decide) rfl ?_ ?_
      · refine j_gets (pc' := 39) hC hC.2.2.2.2.2.2.1.2.2.1 fl_X0_29 dX0_bodyFrom_36 rfl ?_
        refine j_iload_n (pc' := 40) hC 2 dX0_bodyFrom_39 rfl rfl rfl ?_
        refine j_tald (pc' := 41) hC hC.2.2.2.2.2.2.1.2.2.1 dX0_bodyFrom_40 rfl ?_
        refine j_istore_n (pc' := 42) (lv' := [(2, .int (jABOVE (a.1).toNatClampNeg)), (4, .int (jOWN (((a.1 * (4 : Int32)) + p2)).toNatClampNeg)), (1, .int p2), (3, .int a.2)]) hC dX0_bodyFrom_41 rfl (by decide) rfl rfl ?_
        refine j_iinc (pc' := 45) (v := (a.2 + (1 : Int32))) (lv' := [(3, .int (a.2 + (1 : Int32))), (2, .int (jABOVE (a.1).toNatClampNeg)), (4, .int (jOWN (((a.1 * (4 : Int32)) + p2)).toNatClampNeg)), (1, .int p2)]) hC 3 dX0_bodyFrom_42 rfl (by decide) rfl rfl rfl ?_
        refine j_goto (tgt := 4) hC dX0_bodyFrom_45 (by decide) ?_
        exact j_lv (lv' := [(1, .int p2), (2, .int (jABOVE (a.1).toNatClampNeg)), (3, .int (a.2 + (1 : Int32)))]) [3, 1, 0] rfl (hs4 ((jABOVE (a.1).toNatClampNeg), (a.2 + (1 : Int32))))
      · refine j_iload (pc' := 35) hC 0 dX0_bodyFrom_33 rfl rfl ?_
        exact j_ret_ir hC dX0_bodyFrom_35
theorem hyV_X0_add : yX0_add.cls = RX0 ∧ yX0_add.cls ≠ "java/lang/invoke/MethodHandle" ∧ yX0_add.cls ≠ "java/lang/invoke/VarHandle" ∧ (parseMethodDescriptor yX0_add.desc).map (fun d => d.parameters.length) = some 1 := ⟨rfl, by decide +kernel, by decide +kernel, by decide +kernel⟩
noncomputable def fX0_add (σ : jS) (p1 : Int32) : Option (Int32 × jS) :=
  (Option.bind (fX0_isKind σ p1) fun (q1 : Int32) => (if (jb q1) = 0 then (some ((-1 : Int32), σ)) else (if (σ.1 41 1) < (50 : Int32) then (ob (σ.1 41 1) 50 (jst (ju σ 42 ((σ.1 41 1)).toNatClampNeg p1) fun (σ2 : jS) => (jst (ju σ2 41 1 ((σ2.1 41 1) + (1 : Int32))) fun (σ3 : jS) => (some (((σ3.1 41 1) - (1 : Int32)), σ3))))) else (some ((-3 : Int32), σ)))))
set_option maxRecDepth 100000 in
set_option maxHeartbeats 4000000 in
theorem kX0_add (l : Launch) (d : jD) (A : Nat → Prop) (σ : jS) (p1 : Int32) : jMi l yX0_add (jws yX0_add cX0_add 2 (some (.int))) { frames := 3, cells := 0, slots := 0, locals := 150 } d wX A [.ref (d.2.1 41), .int p1] σ (fX0_add σ p1) := by
  refine jStart_i (lv0 := [(0, .ref (d.2.1 41)), (1, .int p1)]) (by decide) rfl (Nat.le_of_ble_eq_true rfl) rfl (fun z hC res => ?_)
  unfold fX0_add
  refine j_iload_n (pc' := 1) hC 1 dX0_add_0 rfl rfl rfl ?_
  refine j_callS_zr (pc' := 4) (As := [.int p1]) (st := []) hC (kX0_isKind l d A _ _) (jgS ml_X0_18 st_X0_isKind in_X0 cd_X0_isKind) rfl rfl rfl hyS_X0_isKind ⟨Nat.le_of_ble_eq_true rfl, Nat.le_of_ble_eq_true rfl⟩ rfl rfl (Nat.le_of_ble_eq_true rfl) dX0_add_1 rfl (fun q1 => ?_)
  refine j_if_ne (pc' := 7) (tgt := 9) hC dX0_add_4 (by decide) rfl ?_ ?_
  · refine j_aload_n (pc' := 10) hC 0 dX0_add_9 rfl rfl rfl ?_
    refine j_get (pc' := 13) hC ly_X0 (X_at_41 d _) rfl 1 (by decide) fl_X0_22 rfl dX0_add_10 rfl ?_
    refine j_bipush (pc' := 15) (v := (50 : Int32)) hC dX0_add_13 (by decide) rfl ?_
    refine j_icmp_lt (pc' := 18) (tgt := 21) hC dX0_add_15 (by decide) rfl ?_ ?_
    · refine j_aload_n (pc' := 22) hC 0 dX0_add_21 rfl rfl rfl ?_
      refine j_get (pc' := 25) hC ly_X0 (X_at_41 d _) rfl 0 (by decide) fl_X0_11 rfl dX0_add_22 rfl ?_
      refine j_aload_n (pc' := 26) hC 0 dX0_add_25 rfl rfl rfl ?_
      refine j_get (pc' := 29) hC ly_X0 (X_at_41 d _) rfl 1 (by decide) fl_X0_22 rfl dX0_add_26 rfl ?_
      refine j_iload_n (pc' := 30) hC 1 dX0_add_29 rfl rfl rfl ?_
      refine j_iast (pc' := 31) hC (X_at_42 d _) (X_sa_42 d _ _) dX0_add_30 rfl ?_
      refine j_st (fun σ2 => ?_)
      refine j_aload_n (pc' := 32) hC 0 dX0_add_31 rfl rfl rfl ?_
      refine j_dup (pc' := 33) hC rfl dX0_add_32 rfl ?_
      refine j_get (pc' := 36) hC ly_X0 (X_at_41 d _) rfl 1 (by decide) fl_X0_22 rfl dX0_add_33 rfl ?_
      refine j_iconst (pc' := 37) (v := (1 : Int32)) hC dX0_add_36 (by decide) rfl ?_
      refine j_iadd (pc' := 38) hC dX0_add_37 rfl ?_
      refine j_put (pc' := 41) hC ly_X0 tyX0 tyX0_ok nmX0 (X_at_41 d _) rfl 1 (by decide) fl_X0_22 rfl rfl rfl rfl (Nat.le_of_ble_eq_true rfl) (X_sf_41_1 d _ _) dX0_add_38 rfl ?_
      refine j_st (fun σ3 => ?_)
      refine j_aload_n (pc' := 42) hC 0 dX0_add_41 rfl rfl rfl ?_
      refine j_get (pc' := 45) hC ly_X0 (X_at_41 d _) rfl 1 (by decide) fl_X0_22 rfl dX0_add_42 rfl ?_
      refine j_iconst (pc' := 46) (v := (1 : Int32)) hC dX0_add_45 (by decide) rfl ?_
      refine j_isub (pc' := 47) hC dX0_add_46 rfl ?_
      exact j_ret_i hC dX0_add_47
    · refine j_bipush (pc' := 20) (v := (-3 : Int32)) hC dX0_add_18 (by decide) rfl ?_
      exact j_ret_i hC dX0_add_20
  · refine j_iconst (pc' := 8) (v := (-1 : Int32)) hC dX0_add_7 (by decide) rfl ?_
    exact j_ret_i hC dX0_add_8
theorem hyV_X0_own : yX0_own.cls = RX0 ∧ yX0_own.cls ≠ "java/lang/invoke/MethodHandle" ∧ yX0_own.cls ≠ "java/lang/invoke/VarHandle" ∧ (parseMethodDescriptor yX0_own.desc).map (fun d => d.parameters.length) = some 4 := ⟨rfl, by decide +kernel, by decide +kernel, by decide +kernel⟩
noncomputable def bX0_own (r : (jS → Int32 → Int32 → Int32 → Int32 → Option (Int32 × jS)) × (jS → Int32 → Int32 → Int32 → Int32 → Int32 → Option (Int32 × jS)) × (jS → Int32 → Int32 → Int32 → Int32 → Option (Int32 × jS))) (σ : jS) (p1 : Int32) (p2 : Int32) (p3 : Int32) (p4 : Int32) : Option (Int32 × jS) :=
  (Option.bind (fX0_kindOf σ p1) fun (q1 : Int32) => (Option.bind (fX0_bodyFrom σ q1 p2) fun (q2 : Int32) => (Option.bind (r.2.2 σ p1 q2 p3 (p4 + (1 : Int32))) fun (q3 : (Int32 × jS)) => (some (q3.1, q3.2)))))
theorem hyV_X0_above : yX0_above.cls = RX0 ∧ yX0_above.cls ≠ "java/lang/invoke/MethodHandle" ∧ yX0_above.cls ≠ "java/lang/invoke/VarHandle" ∧ (parseMethodDescriptor yX0_above.desc).map (fun d => d.parameters.length) = some 5 := ⟨rfl, by decide +kernel, by decide +kernel, by decide +kernel⟩
noncomputable def bX0_above (r : (jS → Int32 → Int32 → Int32 → Int32 → Option (Int32 × jS)) × (jS → Int32 → Int32 → Int32 → Int32 → Int32 → Option (Int32 × jS)) × (jS → Int32 → Int32 → Int32 → Int32 → Option (Int32 × jS))) (σ : jS) (p1 : Int32) (p2 : Int32) (p3 : Int32) (p4 : Int32) (p5 : Int32) : Option (Int32 × jS) :=
  (ob p2 8 (Option.bind (fX0_bodyFrom σ (jABOVE (p2).toNatClampNeg) p3) fun (q1 : Int32) => (Option.bind (r.2.2 σ p1 q1 p4 (p5 + (1 : Int32))) fun (q2 : (Int32 × jS)) => (some (q2.1, q2.2)))))
theorem hyV_X0_run : yX0_run.cls = RX0 ∧ yX0_run.cls ≠ "java/lang/invoke/MethodHandle" ∧ yX0_run.cls ≠ "java/lang/invoke/VarHandle" ∧ (parseMethodDescriptor yX0_run.desc).map (fun d => d.parameters.length) = some 4 := ⟨rfl, by decide +kernel, by decide +kernel, by decide +kernel⟩
noncomputable def bX0_run (r : (jS → Int32 → Int32 → Int32 → Int32 → Option (Int32 × jS)) × (jS → Int32 → Int32 → Int32 → Int32 → Int32 → Option (Int32 × jS)) × (jS → Int32 → Int32 → Int32 → Int32 → Option (Int32 × jS))) (σ : jS) (p1 : Int32) (p2 : Int32) (p3 : Int32) (p4 : Int32) : Option (Int32 × jS) :=
  (if p4 ≤ (40 : Int32) then (jlet (fun (a28 : jS) => (jst (ju a28 41 3 ((a28.1 41 3) + (1 : Int32))) fun (σ1 : jS) => (if p2 = (1 : Int32) then (some ((p3 + p1), σ1)) else (if p2 = (2 : Int32) then (Option.bind (r.1 σ1 p1 (1 : Int32) p3 p4) fun (q2 : (Int32 × jS)) => (Option.bind (r.1 q2.2 p1 (2 : Int32) (1 : Int32) p4) fun (q3 : (Int32 × jS)) => (some ((q2.1 - q3.1), q3.2)))) else (if p2 = (10 : Int32) then (Option.bind (r.1 σ1 p1 (0 : Int32) p3 p4) fun (q4 : (Int32 × jS)) => (some ((q4.1 * (2 : Int32)), q4.2))) else (if p2 = (11 : Int32) then (some ((p3 ^^^ p1), σ1)) else (if p2 = (20 : Int32) then (Option.bind (r.2.1 σ1 p1 (1 : Int32) (0 : Int32) p3 p4) fun (q5 : (Int32 × jS)) => (some ((q5.1 + (3 : Int32)), q5.2))) else (if p2 = (30 : Int32) then (Option.bind (r.2.1 σ1 p1 (2 : Int32) (1 : Int32) p3 p4) fun (q6 : (Int32 × jS)) => (some ((-q6.1), q6.2))) else (if p2 = (40 : Int32) then (Option.bind (r.2.1 σ1 p1 (3 : Int32) (2 : Int32) p3 p4) fun (q7 : (Int32 × jS)) => (some ((q7.1 * (3 : Int32)), q7.2))) else (if p2 = (41 : Int32) then (Option.bind (r.2.1 σ1 p1 (3 : Int32) (1 : Int32) (p3 + (1 : Int32)) p4) fun (q8 : (Int32 × jS)) => (some (q8.1, q8.2))) else (if p2 = (50 : Int32) then (Option.bind (r.2.1 σ1 p1 (4 : Int32) (3 : Int32) p3 p4) fun (q9 : (Int32 × jS)) => (some ((q9.1 ^^^ (5 : Int32)), q9.2))) else (if p2 = (60 : Int32) then (Option.bind (r.2.1 σ1 p1 (5 : Int32) (2 : Int32) p3 p4) fun (q10 : (Int32 × jS)) => (Option.bind (r.1 q10.2 p1 (0 : Int32) (2 : Int32) p4) fun (q11 : (Int32 × jS)) => (some ((q10.1 - q11.1), q11.2)))) else (if p2 = (61 : Int32) then (Option.bind (r.2.1 σ1 p1 (5 : Int32) (3 : Int32) p3 p4) fun (q12 : (Int32 × jS)) => (some ((q12.1 + (1 : Int32)), q12.2))) else (if p2 = (70 : Int32) then (Option.bind (r.2.1 σ1 p1 (6 : Int32) (0 : Int32) p3 p4) fun (q13 : (Int32 × jS)) => (some ((q13.1 * (2 : Int32)), q13.2))) else (if p2 = (80 : Int32) then (Option.bind (r.2.1 σ1 p1 (7 : Int32) (1 : Int32) p3 p4) fun (q14 : (Int32 × jS)) => (Option.bind (r.1 q14.2 p1 (2 : Int32) (2 : Int32) p4) fun (q15 : (Int32 × jS)) => (some ((q14.1 + q15.1), q15.2)))) else (if p2 = (81 : Int32) then (Option.bind (r.2.1 σ1 p1 (7 : Int32) (0 : Int32) p3 p4) fun (q16 : (Int32 × jS)) => (some ((q16.1 - (1 : Int32)), q16.2))) else (some ((0 : Int32), σ1)))))))))))))))))) fun (j28 : (jS → Option (Int32 × jS))) => (if (24 : Int32) ≤ (σ.1 41 3) then (j28 σ) else (ob (σ.1 41 3) 24 (jst (ju σ 43 ((σ.1 41 3)).toNatClampNeg p2) fun (σ17 : jS) => (j28 σ17))))) else (some ((0 : Int32), σ)))
noncomputable def gX0 : Nat → ((jS → Int32 → Int32 → Int32 → Int32 → Option (Int32 × jS)) × (jS → Int32 → Int32 → Int32 → Int32 → Int32 → Option (Int32 × jS)) × (jS → Int32 → Int32 → Int32 → Int32 → Option (Int32 × jS)))
  | 0 => ((fun _ _ _ _ _ => none), (fun _ _ _ _ _ _ => none), (fun _ _ _ _ _ => none))
  | n + 1 => (bX0_own (gX0 n), bX0_above (gX0 n), bX0_run (gX0 n))
set_option maxRecDepth 100000 in
set_option maxHeartbeats 8000000 in
theorem kgX0 (l : Launch) (d : jD) (A : Nat → Prop) : ∀ n : Nat, (∀ (σ : jS) (p1 : Int32) (p2 : Int32) (p3 : Int32) (p4 : Int32), jMi l yX0_own (jws yX0_own cX0_own 5 (some (.int))) { frames := 3 + n, cells := 0, slots := 0, locals := 174 + 25 * n } d wX A [.ref (d.2.1 41), .int p1, .int p2, .int p3, .int p4] σ ((gX0 n).1 σ p1 p2 p3 p4)) ∧ (∀ (σ : jS) (p1 : Int32) (p2 : Int32) (p3 : Int32) (p4 : Int32) (p5 : Int32), jMi l yX0_above (jws yX0_above cX0_above 6 (some (.int))) { frames := 3 + n, cells := 0, slots := 0, locals := 174 + 25 * n } d wX A [.ref (d.2.1 41), .int p1, .int p2, .int p3, .int p4, .int p5] σ ((gX0 n).2.1 σ p1 p2 p3 p4 p5)) ∧ (∀ (σ : jS) (p1 : Int32) (p2 : Int32) (p3 : Int32) (p4 : Int32), jMi l yX0_run (jws yX0_run cX0_run 5 (some (.int))) { frames := 3 + n, cells := 0, slots := 0, locals := 174 + 25 * n } d wX A [.ref (d.2.1 41), .int p1, .int p2, .int p3, .int p4] σ ((gX0 n).2.2 σ p1 p2 p3 p4)) := by
  intro n
  induction n with
  | zero => exact ⟨(fun _ _ _ _ _  res h => by have h2 : (none : Option (Int32 × jS)) = some res := h; cases h2), (fun _ _ _ _ _ _  res h => by have h2 : (none : Option (Int32 × jS)) = some res := h; cases h2), (fun _ _ _ _ _  res h => by have h2 : (none : Option (Int32 × jS)) = some res := h; cases h2)⟩
  | succ n ih =>
    refine ⟨?_, ?_, ?_⟩
    · intro σ p1 p2 p3 p4
      refine jStart_i (lv0 := [(0, .ref (d.2.1 41)), (1, .int p1), (2, .int p2), (3, .int p3), (4, .int p4)]) (by decide) rfl (Nat.le_of_ble_eq_true rfl) rfl (fun z hC res => ?_)
      show jJ z d wX A _ _ res σ (bX0_own (gX0 n) σ p1 p2 p3 p4) 0 _ _
      unfold bX0_own
      refine j_aload_n (pc' := 1) hC 0 dX0_own_0 rfl rfl rfl ?_
      refine j_iload_n (pc' := 2) hC 1 dX0_own_1 rfl rfl rfl ?_
      refine j_aload_n (pc' := 3) hC 0 dX0_own_2 rfl rfl rfl ?_
      refine j_iload_n (pc' := 4) hC 1 dX0_own_3 rfl rfl rfl ?_
      refine j_callV_ir (pc' := 7) (As := [.int p1]) (st := [.int p1, .ref (d.2.1 41)]) hC (X_at_41 d _) rfl (kX0_kindOf l d A _ _) (jgV ml_X0_42 im_X0_kindOf se_X0_kindOf in_X0 cd_X0_kindOf) rfl rfl rfl hyV_X0_kindOf ⟨by show 3 + 1 ≤ 3 + (n + 1); omega, by show 8 + (2 + 11) + 151 ≤ 174 + 25 * (n + 1); omega⟩ rfl rfl (Nat.le_of_ble_eq_true rfl) dX0_own_4 rfl (fun q1 => ?_)
      refine j_iload_n (pc' := 8) hC 2 dX0_own_7 rfl rfl rfl ?_
      refine j_callS_ir (pc' := 11) (As := [.int q1, .int p2]) (st := [.int p1, .ref (d.2.1 41)]) hC (kX0_bodyFrom l d A _ _ _) (jgS ml_X0_46 st_X0_bodyFrom in_X0 cd_X0_bodyFrom) rfl rfl rfl hyS_X0_bodyFrom ⟨by show 3 + 1 ≤ 3 + (n + 1); omega, by show 8 + (5 + 11) + 150 ≤ 174 + 25 * (n + 1); omega⟩ rfl rfl (Nat.le_of_ble_eq_true rfl) dX0_own_8 rfl (fun q2 => ?_)
      refine j_iload_n (pc' := 12) hC 3 dX0_own_11 rfl rfl rfl ?_
      refine j_iload (pc' := 14) hC 4 dX0_own_12 rfl rfl ?_
      refine j_iconst (pc' := 15) (v := (1 : Int32)) hC dX0_own_14 (by decide) rfl ?_
      refine j_iadd (pc' := 16) hC dX0_own_15 rfl ?_
      refine j_callV_i (pc' := 19) (As := [.int p1, .int q2, .int p3, .int (p4 + (1 : Int32))]) (st := []) hC (X_at_41 d _) rfl (ih.2.2 _ _ _ _ _) (jgV ml_X0_50 im_X0_run se_X0_run in_X0 cd_X0_run) rfl rfl rfl hyV_X0_run ⟨by show 3 + n + 1 ≤ 3 + (n + 1); omega, by show 8 + (5 + 11) + (174 + 25 * n) ≤ 174 + 25 * (n + 1); omega⟩ rfl rfl (Nat.le_of_ble_eq_true rfl) dX0_own_16 rfl (fun q3 => ?_)
      exact j_ret_i hC dX0_own_19
    · intro σ p1 p2 p3 p4 p5
      refine jStart_i (lv0 := [(0, .ref (d.2.1 41)), (1, .int p1), (2, .int p2), (3, .int p3), (4, .int p4), (5, .int p5)]) (by decide) rfl (Nat.le_of_ble_eq_true rfl) rfl (fun z hC res => ?_)
      show jJ z d wX A _ _ res σ (bX0_above (gX0 n) σ p1 p2 p3 p4 p5) 0 _ _
      unfold bX0_above
      refine j_aload_n (pc' := 1) hC 0 dX0_above_0 rfl rfl rfl ?_
      refine j_iload_n (pc' := 2) hC 1 dX0_above_1 rfl rfl rfl ?_
      refine j_gets (pc' := 5) hC hC.2.2.2.2.2.2.1.2.2.1 fl_X0_29 dX0_above_2 rfl ?_
      refine j_iload_n (pc' := 6) hC 2 dX0_above_5 rfl rfl rfl ?_
      refine j_tald (pc' := 7) hC hC.2.2.2.2.2.2.1.2.2.1 dX0_above_6 rfl ?_
      refine j_iload_n (pc' := 8) hC 3 dX0_above_7 rfl rfl rfl ?_
      refine j_callS_ir (pc' := 11) (As := [.int (jABOVE (p2).toNatClampNeg), .int p3]) (st := [.int p1, .ref (d.2.1 41)]) hC (kX0_bodyFrom l d A _ _ _) (jgS ml_X0_46 st_X0_bodyFrom in_X0 cd_X0_bodyFrom) rfl rfl rfl hyS_X0_bodyFrom ⟨by show 3 + 1 ≤ 3 + (n + 1); omega, by show 8 + (5 + 11) + 150 ≤ 174 + 25 * (n + 1); omega⟩ rfl rfl (Nat.le_of_ble_eq_true rfl) dX0_above_8 rfl (fun q1 => ?_)
      refine j_iload (pc' := 13) hC 4 dX0_above_11 rfl rfl ?_
      refine j_iload (pc' := 15) hC 5 dX0_above_13 rfl rfl ?_
      refine j_iconst (pc' := 16) (v := (1 : Int32)) hC dX0_above_15 (by decide) rfl ?_
      refine j_iadd (pc' := 17) hC dX0_above_16 rfl ?_
      refine j_callV_i (pc' := 20) (As := [.int p1, .int q1, .int p4, .int (p5 + (1 : Int32))]) (st := []) hC (X_at_41 d _) rfl (ih.2.2 _ _ _ _ _) (jgV ml_X0_50 im_X0_run se_X0_run in_X0 cd_X0_run) rfl rfl rfl hyV_X0_run ⟨by show 3 + n + 1 ≤ 3 + (n + 1); omega, by show 8 + (5 + 11) + (174 + 25 * n) ≤ 174 + 25 * (n + 1); omega⟩ rfl rfl (Nat.le_of_ble_eq_true rfl) dX0_above_17 rfl (fun q2 => ?_)
      exact j_ret_i hC dX0_above_20
    · intro σ p1 p2 p3 p4
      refine jStart_i (lv0 := [(0, .ref (d.2.1 41)), (1, .int p1), (2, .int p2), (3, .int p3), (4, .int p4)]) (by decide) rfl (Nat.le_of_ble_eq_true rfl) rfl (fun z hC res => ?_)
      show jJ z d wX A _ _ res σ (bX0_run (gX0 n) σ p1 p2 p3 p4) 0 _ _
      unfold bX0_run
      refine j_iload (pc' := 2) hC 4 dX0_run_0 rfl rfl ?_
      refine j_bipush (pc' := 4) (v := (40 : Int32)) hC dX0_run_2 (by decide) rfl ?_
      refine j_icmp_le (pc' := 7) (tgt := 9) hC dX0_run_4 (by decide) rfl ?_ ?_
      · refine j_aload_n (pc' := 10) hC 0 dX0_run_9 rfl rfl rfl ?_
        refine j_get (pc' := 13) hC ly_X0 (X_at_41 d _) rfl 3 (by decide) fl_X0_32 rfl dX0_run_10 rfl ?_
        refine j_bipush (pc' := 15) (v := (24 : Int32)) hC dX0_run_13 (by decide) rfl ?_
        refine j_let 28 (fun a28 => a28) (fun a28 => [(0, .ref (d.2.1 41)), (1, .int p1), (2, .int p2), (3, .int p3), (4, .int p4)]) (fun a28 => []) (fun a28 => ?_) (fun j28 hj28 => ?_)
        · refine j_aload_n (pc' := 29) hC 0 dX0_run_28 rfl rfl rfl ?_
          refine j_dup (pc' := 30) hC rfl dX0_run_29 rfl ?_
          refine j_get (pc' := 33) hC ly_X0 (X_at_41 d _) rfl 3 (by decide) fl_X0_32 rfl dX0_run_30 rfl ?_
          refine j_iconst (pc' := 34) (v := (1 : Int32)) hC dX0_run_33 (by decide) rfl ?_
          refine j_iadd (pc' := 35) hC dX0_run_34 rfl ?_
          refine j_put (pc' := 38) hC ly_X0 tyX0 tyX0_ok nmX0 (X_at_41 d _) rfl 3 (by decide) fl_X0_32 rfl rfl rfl rfl (Nat.le_of_ble_eq_true rfl) (X_sf_41_3 d _ _) dX0_run_35 rfl ?_
          refine j_st (fun σ1 => ?_)
          refine j_iload_n (pc' := 39) hC 2 dX0_run_38 rfl rfl rfl ?_
          refine j_if (fun c0 => ?_) (fun c0 => ?_)
          · refine j_lookup (tgt := 160) (off := 121) hC dX0_run_39 (by decide) (by rw [c0]; rfl) (by decide) ?_
            refine j_iload_n (pc' := 161) hC 3 dX0_run_160 rfl rfl rfl ?_
            refine j_iload_n (pc' := 162) hC 1 dX0_run_161 rfl rfl rfl ?_
            refine j_iadd (pc' := 163) hC dX0_run_162 rfl ?_
            exact j_ret_i hC dX0_run_163
          refine j_if (fun c1 => ?_) (fun c1 => ?_)
          · refine j_lookup (tgt := 164) (off := 125) hC dX0_run_39 (by decide) (by rw [c1]; rfl) (by decide) ?_
            refine j_aload_n (pc' := 165) hC 0 dX0_run_164 rfl rfl rfl ?_
            refine j_iload_n (pc' := 166) hC 1 dX0_run_165 rfl rfl rfl ?_
            refine j_iconst (pc' := 167) (v := (1 : Int32)) hC dX0_run_166 (by decide) rfl ?_
            refine j_iload_n (pc' := 168) hC 3 dX0_run_167 rfl rfl rfl ?_
            refine j_iload (pc' := 170) hC 4 dX0_run_168 rfl rfl ?_
            refine j_callV_i (pc' := 173) (As := [.int p1, .int (1 : Int32), .int p3, .int p4]) (st := []) hC (X_at_41 d _) rfl (ih.1 _ _ _ _ _) (jgV ml_X0_35 im_X0_own se_X0_own in_X0 cd_X0_own) rfl rfl rfl hyV_X0_own ⟨by show 3 + n + 1 ≤ 3 + (n + 1); omega, by show 8 + (5 + 11) + (174 + 25 * n) ≤ 174 + 25 * (n + 1); omega⟩ rfl rfl (Nat.le_of_ble_eq_true rfl) dX0_run_170 rfl (fun q2 => ?_)
            refine j_aload_n (pc' := 174) hC 0 dX0_run_173 rfl rfl rfl ?_
            refine j_iload_n (pc' := 175) hC 1 dX0_run_174 rfl rfl rfl ?_
            refine j_iconst (pc' := 176) (v := (2 : Int32)) hC dX0_run_175 (by decide) rfl ?_
            refine j_iconst (pc' := 177) (v := (1 : Int32)) hC dX0_run_176 (by decide) rfl ?_
            refine j_iload (pc' := 179) hC 4 dX0_run_177 rfl rfl ?_
            refine j_callV_i (pc' := 182) (As := [.int p1, .int (2 : Int32), .int (1 : Int32), .int p4]) (st := [.int q2.1]) hC (X_at_41 d _) rfl (ih.1 _ _ _ _ _) (jgV ml_X0_35 im_X0_own se_X0_own in_X0 cd_X0_own) rfl rfl rfl hyV_X0_own ⟨by show 3 + n + 1 ≤ 3 + (n + 1); omega, by show 8 + (5 + 11) + (174 + 25 * n) ≤ 174 + 25 * (n + 1); omega⟩ rfl rfl (Nat.le_of_ble_eq_true rfl) dX0_run_179 rfl (fun q3 => ?_)
            refine j_isub (pc' := 183) hC dX0_run_182 rfl ?_
            exact j_ret_i hC dX0_run_183
          refine j_if (fun c2 => ?_) (fun c2 => ?_)
          · refine j_lookup (tgt := 184) (off := 145) hC dX0_run_39 (by decide) (by rw [c2]; rfl) (by decide) ?_
            refine j_aload_n (pc' := 185) hC 0 dX0_run_184 rfl rfl rfl ?_
            refine j_iload_n (pc' := 186) hC 1 dX0_run_185 rfl rfl rfl ?_
            refine j_iconst (pc' := 187) (v := (0 : Int32)) hC dX0_run_186 (by decide) rfl ?_
            refine j_iload_n (pc' := 188) hC 3 dX0_run_187 rfl rfl rfl ?_
            refine j_iload (pc' := 190) hC 4 dX0_run_188 rfl rfl ?_
            refine j_callV_i (pc' := 193) (As := [.int p1, .int (0 : Int32), .int p3, .int p4]) (st := []) hC (X_at_41 d _) rfl (ih.1 _ _ _ _ _) (jgV ml_X0_35 im_X0_own se_X0_own in_X0 cd_X0_own) rfl rfl rfl hyV_X0_own ⟨by show 3 + n + 1 ≤ 3 + (n + 1); omega, by show 8 + (5 + 11) + (174 + 25 * n) ≤ 174 + 25 * (n + 1); omega⟩ rfl rfl (Nat.le_of_ble_eq_true rfl) dX0_run_190 rfl (fun q4 => ?_)
            refine j_iconst (pc' := 194) (v := (2 : Int32)) hC dX0_run_193 (by decide) rfl ?_
            refine j_imul (pc' := 195) hC dX0_run_194 rfl ?_
            exact j_ret_i hC dX0_run_195
          refine j_if (fun c3 => ?_) (fun c3 => ?_)
          · refine j_lookup (tgt := 196) (off := 157) hC dX0_run_39 (by decide) (by rw [c3]; rfl) (by decide) ?_
            refine j_iload_n (pc' := 197) hC 3 dX0_run_196 rfl rfl rfl ?_
            refine j_iload_n (pc' := 198) hC 1 dX0_run_197 rfl rfl rfl ?_
            refine j_ixor (pc' := 199) hC dX0_run_198 rfl ?_
            exact j_ret_i hC dX0_run_199
          refine j_if (fun c4 => ?_) (fun c4 => ?_)
          · refine j_lookup (tgt := 200) (off := 161) hC dX0_run_39 (by decide) (by rw [c4]; rfl) (by decide) ?_
            refine j_aload_n (pc' := 201) hC 0 dX0_run_200 rfl rfl rfl ?_
            refine j_iload_n (pc' := 202) hC 1 dX0_run_201 rfl rfl rfl ?_
            refine j_iconst (pc' := 203) (v := (1 : Int32)) hC dX0_run_202 (by decide) rfl ?_
            refine j_iconst (pc' := 204) (v := (0 : Int32)) hC dX0_run_203 (by decide) rfl ?_
            refine j_iload_n (pc' := 205) hC 3 dX0_run_204 rfl rfl rfl ?_
            refine j_iload (pc' := 207) hC 4 dX0_run_205 rfl rfl ?_
            refine j_callV_i (pc' := 210) (As := [.int p1, .int (1 : Int32), .int (0 : Int32), .int p3, .int p4]) (st := []) hC (X_at_41 d _) rfl (ih.2.1 _ _ _ _ _ _) (jgV ml_X0_53 im_X0_above se_X0_above in_X0 cd_X0_above) rfl rfl rfl hyV_X0_above ⟨by show 3 + n + 1 ≤ 3 + (n + 1); omega, by show 8 + (6 + 11) + (174 + 25 * n) ≤ 174 + 25 * (n + 1); omega⟩ rfl rfl (Nat.le_of_ble_eq_true rfl) dX0_run_207 rfl (fun q5 => ?_)
            refine j_iconst (pc' := 211) (v := (3 : Int32)) hC dX0_run_210 (by decide) rfl ?_
            refine j_iadd (pc' := 212) hC dX0_run_211 rfl ?_
            exact j_ret_i hC dX0_run_212
          refine j_if (fun c5 => ?_) (fun c5 => ?_)
          · refine j_lookup (tgt := 213) (off := 174) hC dX0_run_39 (by decide) (by rw [c5]; rfl) (by decide) ?_
            refine j_aload_n (pc' := 214) hC 0 dX0_run_213 rfl rfl rfl ?_
            refine j_iload_n (pc' := 215) hC 1 dX0_run_214 rfl rfl rfl ?_
            refine j_iconst (pc' := 216) (v := (2 : Int32)) hC dX0_run_215 (by decide) rfl ?_
            refine j_iconst (pc' := 217) (v := (1 : Int32)) hC dX0_run_216 (by decide) rfl ?_
            refine j_iload_n (pc' := 218) hC 3 dX0_run_217 rfl rfl rfl ?_
            refine j_iload (pc' := 220) hC 4 dX0_run_218 rfl rfl ?_
            refine j_callV_i (pc' := 223) (As := [.int p1, .int (2 : Int32), .int (1 : Int32), .int p3, .int p4]) (st := []) hC (X_at_41 d _) rfl (ih.2.1 _ _ _ _ _ _) (jgV ml_X0_53 im_X0_above se_X0_above in_X0 cd_X0_above) rfl rfl rfl hyV_X0_above ⟨by show 3 + n + 1 ≤ 3 + (n + 1); omega, by show 8 + (6 + 11) + (174 + 25 * n) ≤ 174 + 25 * (n + 1); omega⟩ rfl rfl (Nat.le_of_ble_eq_true rfl) dX0_run_220 rfl (fun q6 => ?_)
            refine j_ineg (pc' := 224) hC dX0_run_223 rfl ?_
            exact j_ret_i hC dX0_run_224
          refine j_if (fun c6 => ?_) (fun c6 => ?_)
          · refine j_lookup (tgt := 225) (off := 186) hC dX0_run_39 (by decide) (by rw [c6]; rfl) (by decide) ?_
            refine j_aload_n (pc' := 226) hC 0 dX0_run_225 rfl rfl rfl ?_
            refine j_iload_n (pc' := 227) hC 1 dX0_run_226 rfl rfl rfl ?_
            refine j_iconst (pc' := 228) (v := (3 : Int32)) hC dX0_run_227 (by decide) rfl ?_
            refine j_iconst (pc' := 229) (v := (2 : Int32)) hC dX0_run_228 (by decide) rfl ?_
            refine j_iload_n (pc' := 230) hC 3 dX0_run_229 rfl rfl rfl ?_
            refine j_iload (pc' := 232) hC 4 dX0_run_230 rfl rfl ?_
            refine j_callV_i (pc' := 235) (As := [.int p1, .int (3 : Int32), .int (2 : Int32), .int p3, .int p4]) (st := []) hC (X_at_41 d _) rfl (ih.2.1 _ _ _ _ _ _) (jgV ml_X0_53 im_X0_above se_X0_above in_X0 cd_X0_above) rfl rfl rfl hyV_X0_above ⟨by show 3 + n + 1 ≤ 3 + (n + 1); omega, by show 8 + (6 + 11) + (174 + 25 * n) ≤ 174 + 25 * (n + 1); omega⟩ rfl rfl (Nat.le_of_ble_eq_true rfl) dX0_run_232 rfl (fun q7 => ?_)
            refine j_iconst (pc' := 236) (v := (3 : Int32)) hC dX0_run_235 (by decide) rfl ?_
            refine j_imul (pc' := 237) hC dX0_run_236 rfl ?_
            exact j_ret_i hC dX0_run_237
          refine j_if (fun c7 => ?_) (fun c7 => ?_)
          · refine j_lookup (tgt := 238) (off := 199) hC dX0_run_39 (by decide) (by rw [c7]; rfl) (by decide) ?_
            refine j_aload_n (pc' := 239) hC 0 dX0_run_238 rfl rfl rfl ?_
            refine j_iload_n (pc' := 240) hC 1 dX0_run_239 rfl rfl rfl ?_
            refine j_iconst (pc' := 241) (v := (3 : Int32)) hC dX0_run_240 (by decide) rfl ?_
            refine j_iconst (pc' := 242) (v := (1 : Int32)) hC dX0_run_241 (by decide) rfl ?_
            refine j_iload_n (pc' := 243) hC 3 dX0_run_242 rfl rfl rfl ?_
            refine j_iconst (pc' := 244) (v := (1 : Int32)) hC dX0_run_243 (by decide) rfl ?_
            refine j_iadd (pc' := 245) hC dX0_run_244 rfl ?_
            refine j_iload (pc' := 247) hC 4 dX0_run_245 rfl rfl ?_
            refine j_callV_i (pc' := 250) (As := [.int p1, .int (3 : Int32), .int (1 : Int32), .int (p3 + (1 : Int32)), .int p4]) (st := []) hC (X_at_41 d _) rfl (ih.2.1 _ _ _ _ _ _) (jgV ml_X0_53 im_X0_above se_X0_above in_X0 cd_X0_above) rfl rfl rfl hyV_X0_above ⟨by show 3 + n + 1 ≤ 3 + (n + 1); omega, by show 8 + (6 + 11) + (174 + 25 * n) ≤ 174 + 25 * (n + 1); omega⟩ rfl rfl (Nat.le_of_ble_eq_true rfl) dX0_run_247 rfl (fun q8 => ?_)
            exact j_ret_i hC dX0_run_250
          refine j_if (fun c8 => ?_) (fun c8 => ?_)
          · refine j_lookup (tgt := 251) (off := 212) hC dX0_run_39 (by decide) (by rw [c8]; rfl) (by decide) ?_
            refine j_aload_n (pc' := 252) hC 0 dX0_run_251 rfl rfl rfl ?_
            refine j_iload_n (pc' := 253) hC 1 dX0_run_252 rfl rfl rfl ?_
            refine j_iconst (pc' := 254) (v := (4 : Int32)) hC dX0_run_253 (by decide) rfl ?_
            refine j_iconst (pc' := 255) (v := (3 : Int32)) hC dX0_run_254 (by decide) rfl ?_
            refine j_iload_n (pc' := 256) hC 3 dX0_run_255 rfl rfl rfl ?_
            refine j_iload (pc' := 258) hC 4 dX0_run_256 rfl rfl ?_
            refine j_callV_i (pc' := 261) (As := [.int p1, .int (4 : Int32), .int (3 : Int32), .int p3, .int p4]) (st := []) hC (X_at_41 d _) rfl (ih.2.1 _ _ _ _ _ _) (jgV ml_X0_53 im_X0_above se_X0_above in_X0 cd_X0_above) rfl rfl rfl hyV_X0_above ⟨by show 3 + n + 1 ≤ 3 + (n + 1); omega, by show 8 + (6 + 11) + (174 + 25 * n) ≤ 174 + 25 * (n + 1); omega⟩ rfl rfl (Nat.le_of_ble_eq_true rfl) dX0_run_258 rfl (fun q9 => ?_)
            refine j_iconst (pc' := 262) (v := (5 : Int32)) hC dX0_run_261 (by decide) rfl ?_
            refine j_ixor (pc' := 263) hC dX0_run_262 rfl ?_
            exact j_ret_i hC dX0_run_263
          refine j_if (fun c9 => ?_) (fun c9 => ?_)
          · refine j_lookup (tgt := 264) (off := 225) hC dX0_run_39 (by decide) (by rw [c9]; rfl) (by decide) ?_
            refine j_aload_n (pc' := 265) hC 0 dX0_run_264 rfl rfl rfl ?_
            refine j_iload_n (pc' := 266) hC 1 dX0_run_265 rfl rfl rfl ?_
            refine j_iconst (pc' := 267) (v := (5 : Int32)) hC dX0_run_266 (by decide) rfl ?_
            refine j_iconst (pc' := 268) (v := (2 : Int32)) hC dX0_run_267 (by decide) rfl ?_
            refine j_iload_n (pc' := 269) hC 3 dX0_run_268 rfl rfl rfl ?_
            refine j_iload (pc' := 271) hC 4 dX0_run_269 rfl rfl ?_
            refine j_callV_i (pc' := 274) (As := [.int p1, .int (5 : Int32), .int (2 : Int32), .int p3, .int p4]) (st := []) hC (X_at_41 d _) rfl (ih.2.1 _ _ _ _ _ _) (jgV ml_X0_53 im_X0_above se_X0_above in_X0 cd_X0_above) rfl rfl rfl hyV_X0_above ⟨by show 3 + n + 1 ≤ 3 + (n + 1); omega, by show 8 + (6 + 11) + (174 + 25 * n) ≤ 174 + 25 * (n + 1); omega⟩ rfl rfl (Nat.le_of_ble_eq_true rfl) dX0_run_271 rfl (fun q10 => ?_)
            refine j_aload_n (pc' := 275) hC 0 dX0_run_274 rfl rfl rfl ?_
            refine j_iload_n (pc' := 276) hC 1 dX0_run_275 rfl rfl rfl ?_
            refine j_iconst (pc' := 277) (v := (0 : Int32)) hC dX0_run_276 (by decide) rfl ?_
            refine j_iconst (pc' := 278) (v := (2 : Int32)) hC dX0_run_277 (by decide) rfl ?_
            refine j_iload (pc' := 280) hC 4 dX0_run_278 rfl rfl ?_
            refine j_callV_i (pc' := 283) (As := [.int p1, .int (0 : Int32), .int (2 : Int32), .int p4]) (st := [.int q10.1]) hC (X_at_41 d _) rfl (ih.1 _ _ _ _ _) (jgV ml_X0_35 im_X0_own se_X0_own in_X0 cd_X0_own) rfl rfl rfl hyV_X0_own ⟨by show 3 + n + 1 ≤ 3 + (n + 1); omega, by show 8 + (5 + 11) + (174 + 25 * n) ≤ 174 + 25 * (n + 1); omega⟩ rfl rfl (Nat.le_of_ble_eq_true rfl) dX0_run_280 rfl (fun q11 => ?_)
            refine j_isub (pc' := 284) hC dX0_run_283 rfl ?_
            exact j_ret_i hC dX0_run_284
          refine j_if (fun c10 => ?_) (fun c10 => ?_)
          · refine j_lookup (tgt := 285) (off := 246) hC dX0_run_39 (by decide) (by rw [c10]; rfl) (by decide) ?_
            refine j_aload_n (pc' := 286) hC 0 dX0_run_285 rfl rfl rfl ?_
            refine j_iload_n (pc' := 287) hC 1 dX0_run_286 rfl rfl rfl ?_
            refine j_iconst (pc' := 288) (v := (5 : Int32)) hC dX0_run_287 (by decide) rfl ?_
            refine j_iconst (pc' := 289) (v := (3 : Int32)) hC dX0_run_288 (by decide) rfl ?_
            refine j_iload_n (pc' := 290) hC 3 dX0_run_289 rfl rfl rfl ?_
            refine j_iload (pc' := 292) hC 4 dX0_run_290 rfl rfl ?_
            refine j_callV_i (pc' := 295) (As := [.int p1, .int (5 : Int32), .int (3 : Int32), .int p3, .int p4]) (st := []) hC (X_at_41 d _) rfl (ih.2.1 _ _ _ _ _ _) (jgV ml_X0_53 im_X0_above se_X0_above in_X0 cd_X0_above) rfl rfl rfl hyV_X0_above ⟨by show 3 + n + 1 ≤ 3 + (n + 1); omega, by show 8 + (6 + 11) + (174 + 25 * n) ≤ 174 + 25 * (n + 1); omega⟩ rfl rfl (Nat.le_of_ble_eq_true rfl) dX0_run_292 rfl (fun q12 => ?_)
            refine j_iconst (pc' := 296) (v := (1 : Int32)) hC dX0_run_295 (by decide) rfl ?_
            refine j_iadd (pc' := 297) hC dX0_run_296 rfl ?_
            exact j_ret_i hC dX0_run_297
          refine j_if (fun c11 => ?_) (fun c11 => ?_)
          · refine j_lookup (tgt := 298) (off := 259) hC dX0_run_39 (by decide) (by rw [c11]; rfl) (by decide) ?_
            refine j_aload_n (pc' := 299) hC 0 dX0_run_298 rfl rfl rfl ?_
            refine j_iload_n (pc' := 300) hC 1 dX0_run_299 rfl rfl rfl ?_
            refine j_bipush (pc' := 302) (v := (6 : Int32)) hC dX0_run_300 (by decide) rfl ?_
            refine j_iconst (pc' := 303) (v := (0 : Int32)) hC dX0_run_302 (by decide) rfl ?_
            refine j_iload_n (pc' := 304) hC 3 dX0_run_303 rfl rfl rfl ?_
            refine j_iload (pc' := 306) hC 4 dX0_run_304 rfl rfl ?_
            refine j_callV_i (pc' := 309) (As := [.int p1, .int (6 : Int32), .int (0 : Int32), .int p3, .int p4]) (st := []) hC (X_at_41 d _) rfl (ih.2.1 _ _ _ _ _ _) (jgV ml_X0_53 im_X0_above se_X0_above in_X0 cd_X0_above) rfl rfl rfl hyV_X0_above ⟨by show 3 + n + 1 ≤ 3 + (n + 1); omega, by show 8 + (6 + 11) + (174 + 25 * n) ≤ 174 + 25 * (n + 1); omega⟩ rfl rfl (Nat.le_of_ble_eq_true rfl) dX0_run_306 rfl (fun q13 => ?_)
            refine j_iconst (pc' := 310) (v := (2 : Int32)) hC dX0_run_309 (by decide) rfl ?_
            refine j_imul (pc' := 311) hC dX0_run_310 rfl ?_
            exact j_ret_i hC dX0_run_311
          refine j_if (fun c12 => ?_) (fun c12 => ?_)
          · refine j_lookup (tgt := 312) (off := 273) hC dX0_run_39 (by decide) (by rw [c12]; rfl) (by decide) ?_
            refine j_aload_n (pc' := 313) hC 0 dX0_run_312 rfl rfl rfl ?_
            refine j_iload_n (pc' := 314) hC 1 dX0_run_313 rfl rfl rfl ?_
            refine j_bipush (pc' := 316) (v := (7 : Int32)) hC dX0_run_314 (by decide) rfl ?_
            refine j_iconst (pc' := 317) (v := (1 : Int32)) hC dX0_run_316 (by decide) rfl ?_
            refine j_iload_n (pc' := 318) hC 3 dX0_run_317 rfl rfl rfl ?_
            refine j_iload (pc' := 320) hC 4 dX0_run_318 rfl rfl ?_
            refine j_callV_i (pc' := 323) (As := [.int p1, .int (7 : Int32), .int (1 : Int32), .int p3, .int p4]) (st := []) hC (X_at_41 d _) rfl (ih.2.1 _ _ _ _ _ _) (jgV ml_X0_53 im_X0_above se_X0_above in_X0 cd_X0_above) rfl rfl rfl hyV_X0_above ⟨by show 3 + n + 1 ≤ 3 + (n + 1); omega, by show 8 + (6 + 11) + (174 + 25 * n) ≤ 174 + 25 * (n + 1); omega⟩ rfl rfl (Nat.le_of_ble_eq_true rfl) dX0_run_320 rfl (fun q14 => ?_)
            refine j_aload_n (pc' := 324) hC 0 dX0_run_323 rfl rfl rfl ?_
            refine j_iload_n (pc' := 325) hC 1 dX0_run_324 rfl rfl rfl ?_
            refine j_iconst (pc' := 326) (v := (2 : Int32)) hC dX0_run_325 (by decide) rfl ?_
            refine j_iconst (pc' := 327) (v := (2 : Int32)) hC dX0_run_326 (by decide) rfl ?_
            refine j_iload (pc' := 329) hC 4 dX0_run_327 rfl rfl ?_
            refine j_callV_i (pc' := 332) (As := [.int p1, .int (2 : Int32), .int (2 : Int32), .int p4]) (st := [.int q14.1]) hC (X_at_41 d _) rfl (ih.1 _ _ _ _ _) (jgV ml_X0_35 im_X0_own se_X0_own in_X0 cd_X0_own) rfl rfl rfl hyV_X0_own ⟨by show 3 + n + 1 ≤ 3 + (n + 1); omega, by show 8 + (5 + 11) + (174 + 25 * n) ≤ 174 + 25 * (n + 1); omega⟩ rfl rfl (Nat.le_of_ble_eq_true rfl) dX0_run_329 rfl (fun q15 => ?_)
            refine j_iadd (pc' := 333) hC dX0_run_332 rfl ?_
            exact j_ret_i hC dX0_run_333
          refine j_if (fun c13 => ?_) (fun c13 => ?_)
          · refine j_lookup (tgt := 334) (off := 295) hC dX0_run_39 (by decide) (by rw [c13]; rfl) (by decide) ?_
            refine j_aload_n (pc' := 335) hC 0 dX0_run_334 rfl rfl rfl ?_
            refine j_iload_n (pc' := 336) hC 1 dX0_run_335 rfl rfl rfl ?_
            refine j_bipush (pc' := 338) (v := (7 : Int32)) hC dX0_run_336 (by decide) rfl ?_
            refine j_iconst (pc' := 339) (v := (0 : Int32)) hC dX0_run_338 (by decide) rfl ?_
            refine j_iload_n (pc' := 340) hC 3 dX0_run_339 rfl rfl rfl ?_
            refine j_iload (pc' := 342) hC 4 dX0_run_340 rfl rfl ?_
            refine j_callV_i (pc' := 345) (As := [.int p1, .int (7 : Int32), .int (0 : Int32), .int p3, .int p4]) (st := []) hC (X_at_41 d _) rfl (ih.2.1 _ _ _ _ _ _) (jgV ml_X0_53 im_X0_above se_X0_above in_X0 cd_X0_above) rfl rfl rfl hyV_X0_above ⟨by show 3 + n + 1 ≤ 3 + (n + 1); omega, by show 8 + (6 + 11) + (174 + 25 * n) ≤ 174 + 25 * (n + 1); omega⟩ rfl rfl (Nat.le_of_ble_eq_true rfl) dX0_run_342 rfl (fun q16 => ?_)
            refine j_iconst (pc' := 346) (v := (1 : Int32)) hC dX0_run_345 (by decide) rfl ?_
            refine j_isub (pc' := 347) hC dX0_run_346 rfl ?_
            exact j_ret_i hC dX0_run_347
          refine j_lookup (tgt := 348) (off := 309) hC dX0_run_39 (by decide) (by show Op.lookupswitch.offset ([(1, 121), (2, 125), (10, 145), (11, 157), (20, 161), (30, 174), (40, 186), (41, 199), (50, 212), (60, 225), (61, 246), (70, 259), (80, 273), (81, 295)] : List (Int × Int)) 309 _ = _; rw [lv_osw (a := 1) c0 rfl, lv_osw (a := 2) c1 rfl, lv_osw (a := 10) c2 rfl, lv_osw (a := 11) c3 rfl, lv_osw (a := 20) c4 rfl, lv_osw (a := 30) c5 rfl, lv_osw (a := 40) c6 rfl, lv_osw (a := 41) c7 rfl, lv_osw (a := 50) c8 rfl, lv_osw (a := 60) c9 rfl, lv_osw (a := 61) c10 rfl, lv_osw (a := 70) c11 rfl, lv_osw (a := 80) c12 rfl, lv_osw (a := 81) c13 rfl]; rfl) (by decide) ?_
          refine j_iconst (pc' := 349) (v := (0 : Int32)) hC dX0_run_348 (by decide) rfl ?_
          exact j_ret_i hC dX0_run_349
        · refine j_icmp_ge (pc' := 18) (tgt := 28) hC dX0_run_15 (by decide) rfl ?_ ?_
          · exact j_lv (lv' := [(0, .ref (d.2.1 41)), (1, .int p1), (2, .int p2), (3, .int p3), (4, .int p4)]) [0, 1, 2, 3, 4] rfl (hj28 σ)
          · refine j_aload_n (pc' := 19) hC 0 dX0_run_18 rfl rfl rfl ?_
            refine j_get (pc' := 22) hC ly_X0 (X_at_41 d _) rfl 2 (by decide) fl_X0_15 rfl dX0_run_19 rfl ?_
            refine j_aload_n (pc' := 23) hC 0 dX0_run_22 rfl rfl rfl ?_
            refine j_get (pc' := 26) hC ly_X0 (X_at_41 d _) rfl 3 (by decide) fl_X0_32 rfl dX0_run_23 rfl ?_
            refine j_iload_n (pc' := 27) hC 2 dX0_run_26 rfl rfl rfl ?_
            refine j_iast (pc' := 28) hC (X_at_43 d _) (X_sa_43 d _ _) dX0_run_27 rfl ?_
            refine j_st (fun σ17 => ?_)
            exact j_lv (lv' := [(0, .ref (d.2.1 41)), (1, .int p1), (2, .int p2), (3, .int p3), (4, .int p4)]) [0, 1, 2, 3, 4] rfl (hj28 σ17)
      · refine j_iconst (pc' := 8) (v := (0 : Int32)) hC dX0_run_7 (by decide) rfl ?_
        exact j_ret_i hC dX0_run_8
theorem hyV_X0_perform : yX0_perform.cls = RX0 ∧ yX0_perform.cls ≠ "java/lang/invoke/MethodHandle" ∧ yX0_perform.cls ≠ "java/lang/invoke/VarHandle" ∧ (parseMethodDescriptor yX0_perform.desc).map (fun d => d.parameters.length) = some 3 := ⟨rfl, by decide +kernel, by decide +kernel, by decide +kernel⟩
noncomputable def fX0_perform (σ : jS) (p1 : Int32) (p2 : Int32) (p3 : Int32) : Option (Int32 × jS) :=
  (jst (ju σ 41 3 (0 : Int32)) fun (σ1 : jS) => (Option.bind (fX0_isBody σ1 p1) fun (q2 : Int32) => (if (jb q2) = 0 then (some ((0 : Int32), σ1)) else (if p2 < 0 then (some ((0 : Int32), σ1)) else (if p2 < (4 : Int32) then (Option.bind ((gX0 jG).1 σ1 p1 p2 p3 (0 : Int32)) fun (q3 : (Int32 × jS)) => (some (q3.1, q3.2))) else (some ((0 : Int32), σ1)))))))
set_option maxRecDepth 100000 in
set_option maxHeartbeats 4000000 in
theorem kX0_perform (l : Launch) (d : jD) (A : Nat → Prop) (σ : jS) (p1 : Int32) (p2 : Int32) (p3 : Int32) : jMi l yX0_perform (jws yX0_perform cX0_perform 4 (some (.int))) { frames := 104, cells := 0, slots := 0, locals := 2698 } d wX A [.ref (d.2.1 41), .int p1, .int p2, .int p3] σ (fX0_perform σ p1 p2 p3) := by
  refine jStart_i (lv0 := [(0, .ref (d.2.1 41)), (1, .int p1), (2, .int p2), (3, .int p3)]) (by decide) rfl (Nat.le_of_ble_eq_true rfl) rfl (fun z hC res => ?_)
  unfold fX0_perform
  refine j_aload_n (pc' := 1) hC 0 dX0_perform_0 rfl rfl rfl ?_
  refine j_iconst (pc' := 2) (v := (0 : Int32)) hC dX0_perform_1 (by decide) rfl ?_
  refine j_put (pc' := 5) hC ly_X0 tyX0 tyX0_ok nmX0 (X_at_41 d _) rfl 3 (by decide) fl_X0_32 rfl rfl rfl rfl (Nat.le_of_ble_eq_true rfl) (X_sf_41_3 d _ _) dX0_perform_2 rfl ?_
  refine j_st (fun σ1 => ?_)
  refine j_aload_n (pc' := 6) hC 0 dX0_perform_5 rfl rfl rfl ?_
  refine j_iload_n (pc' := 7) hC 1 dX0_perform_6 rfl rfl rfl ?_
  refine j_callV_zr (pc' := 10) (As := [.int p1]) (st := []) hC (X_at_41 d _) rfl (kX0_isBody l d A _ _) (jgV ml_X0_26 im_X0_isBody se_X0_isBody in_X0 cd_X0_isBody) rfl rfl rfl hyV_X0_isBody ⟨Nat.le_of_ble_eq_true rfl, Nat.le_of_ble_eq_true rfl⟩ rfl rfl (Nat.le_of_ble_eq_true rfl) dX0_perform_7 rfl (fun q2 => ?_)
  refine j_if_eq (pc' := 13) (tgt := 22) hC dX0_perform_10 (by decide) rfl ?_ ?_
  · refine j_iconst (pc' := 23) (v := (0 : Int32)) hC dX0_perform_22 (by decide) rfl ?_
    exact j_ret_i hC dX0_perform_23
  · refine j_iload_n (pc' := 14) hC 2 dX0_perform_13 rfl rfl rfl ?_
    refine j_if_lt (pc' := 17) (tgt := 22) hC dX0_perform_14 (by decide) rfl ?_ ?_
    · refine j_iconst (pc' := 23) (v := (0 : Int32)) hC dX0_perform_22 (by decide) rfl ?_
      exact j_ret_i hC dX0_perform_23
    · refine j_iload_n (pc' := 18) hC 2 dX0_perform_17 rfl rfl rfl ?_
      refine j_iconst (pc' := 19) (v := (4 : Int32)) hC dX0_perform_18 (by decide) rfl ?_
      refine j_icmp_lt (pc' := 22) (tgt := 24) hC dX0_perform_19 (by decide) rfl ?_ ?_
      · refine j_aload_n (pc' := 25) hC 0 dX0_perform_24 rfl rfl rfl ?_
        refine j_iload_n (pc' := 26) hC 1 dX0_perform_25 rfl rfl rfl ?_
        refine j_iload_n (pc' := 27) hC 2 dX0_perform_26 rfl rfl rfl ?_
        refine j_iload_n (pc' := 28) hC 3 dX0_perform_27 rfl rfl rfl ?_
        refine j_iconst (pc' := 29) (v := (0 : Int32)) hC dX0_perform_28 (by decide) rfl ?_
        refine j_callV_i (pc' := 32) (As := [.int p1, .int p2, .int p3, .int (0 : Int32)]) (st := []) hC (X_at_41 d _) rfl ((kgX0 l d A jG).1 _ _ _ _ _) (jgV ml_X0_35 im_X0_own se_X0_own in_X0 cd_X0_own) rfl rfl rfl hyV_X0_own ⟨Nat.le_of_ble_eq_true rfl, Nat.le_of_ble_eq_true rfl⟩ rfl rfl (Nat.le_of_ble_eq_true rfl) dX0_perform_29 rfl (fun q3 => ?_)
        exact j_ret_i hC dX0_perform_32
      · refine j_iconst (pc' := 23) (v := (0 : Int32)) hC dX0_perform_22 (by decide) rfl ?_
        exact j_ret_i hC dX0_perform_23
