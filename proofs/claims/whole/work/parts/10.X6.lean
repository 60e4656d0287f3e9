theorem hyV_X6_isChild : yX6_isChild.cls = RX6 ∧ yX6_isChild.cls ≠ "java/lang/invoke/MethodHandle" ∧ yX6_isChild.cls ≠ "java/lang/invoke/VarHandle" ∧ (parseMethodDescriptor yX6_isChild.desc).map (fun d => d.parameters.length) = some 1 := ⟨rfl, by decide +kernel, by decide +kernel, by decide +kernel⟩
noncomputable def fX6_isChild (σ : jS) (p1 : Int32) : Option (Int32) :=
  (if p1 < 0 then (some (0 : Int32)) else (if (σ.1 1 1) ≤ p1 then (some (0 : Int32)) else (some (1 : Int32))))
set_option maxRecDepth 100000 in
set_option maxHeartbeats 4000000 in
theorem kX6_isChild (l : Launch) (d : jD) (A : Nat → Prop) (σ : jS) (p1 : Int32) : jMzr l yX6_isChild (jws yX6_isChild cX6_isChild 2 (some (.boolean))) { frames := 2, cells := 0, slots := 0, locals := 130 } d wX A [.ref (d.2.1 1), .int p1] σ (fX6_isChild σ p1) := by
  refine jStart_zr (lv0 := [(0, .ref (d.2.1 1)), (1, .int p1)]) (by decide) rfl (Nat.le_of_ble_eq_true rfl) rfl (fun z hC res => ?_)
  unfold fX6_isChild
  refine j_iload_n (pc' := 1) hC 1 dX6_isChild_0 rfl rfl rfl ?_
  refine j_if_lt (pc' := 4) (tgt := 16) hC dX6_isChild_1 (by decide) rfl ?_ ?_
  · refine j_iconst (pc' := 17) (v := (0 : Int32)) hC dX6_isChild_16 (by decide) rfl ?_
    exact j_ret_zr hC (by decide) dX6_isChild_17
  · refine j_iload_n (pc' := 5) hC 1 dX6_isChild_4 rfl rfl rfl ?_
    refine j_aload_n (pc' := 6) hC 0 dX6_isChild_5 rfl rfl rfl ?_
    refine j_get (pc' := 9) hC ly_X6 (X_at_1 d _) rfl 1 (by decide) fl_X6_15 rfl dX6_isChild_6 rfl ?_
    refine j_icmp_ge (pc' := 12) (tgt := 16) hC dX6_isChild_9 (by decide) rfl ?_ ?_
    · refine j_iconst (pc' := 17) (v := (0 : Int32)) hC dX6_isChild_16 (by decide) rfl ?_
      exact j_ret_zr hC (by decide) dX6_isChild_17
    · refine j_iconst (pc' := 13) (v := (1 : Int32)) hC dX6_isChild_12 (by decide) rfl ?_
      refine j_goto (tgt := 17) hC dX6_isChild_13 (by decide) ?_
      exact j_ret_zr hC (by decide) dX6_isChild_17
theorem hyV_X6_isSwing : yX6_isSwing.cls = RX6 ∧ yX6_isSwing.cls ≠ "java/lang/invoke/MethodHandle" ∧ yX6_isSwing.cls ≠ "java/lang/invoke/VarHandle" ∧ (parseMethodDescriptor yX6_isSwing.desc).map (fun d => d.parameters.length) = some 1 := ⟨rfl, by decide +kernel, by decide +kernel, by decide +kernel⟩
noncomputable def fX6_isSwing (σ : jS) (p1 : Int32) : Option (Int32) :=
  (if p1 < 0 then (some (0 : Int32)) else (if (3 : Int32) ≤ p1 then (some (0 : Int32)) else (some (1 : Int32))))
set_option maxRecDepth 100000 in
set_option maxHeartbeats 4000000 in
theorem kX6_isSwing (l : Launch) (d : jD) (A : Nat → Prop) (σ : jS) (p1 : Int32) : jMzr l yX6_isSwing (jws yX6_isSwing cX6_isSwing 2 (some (.boolean))) { frames := 2, cells := 0, slots := 0, locals := 130 } d wX A [.ref (d.2.1 1), .int p1] σ (fX6_isSwing σ p1) := by
  refine jStart_zr (lv0 := [(0, .ref (d.2.1 1)), (1, .int p1)]) (by decide) rfl (Nat.le_of_ble_eq_true rfl) rfl (fun z hC res => ?_)
  unfold fX6_isSwing
  refine j_iload_n (pc' := 1) hC 1 dX6_isSwing_0 rfl rfl rfl ?_
  refine j_if_lt (pc' := 4) (tgt := 13) hC dX6_isSwing_1 (by decide) rfl ?_ ?_
  · refine j_iconst (pc' := 14) (v := (0 : Int32)) hC dX6_isSwing_13 (by decide) rfl ?_
    exact j_ret_zr hC (by decide) dX6_isSwing_14
  · refine j_iload_n (pc' := 5) hC 1 dX6_isSwing_4 rfl rfl rfl ?_
    refine j_iconst (pc' := 6) (v := (3 : Int32)) hC dX6_isSwing_5 (by decide) rfl ?_
    refine j_icmp_ge (pc' := 9) (tgt := 13) hC dX6_isSwing_6 (by decide) rfl ?_ ?_
    · refine j_iconst (pc' := 14) (v := (0 : Int32)) hC dX6_isSwing_13 (by decide) rfl ?_
      exact j_ret_zr hC (by decide) dX6_isSwing_14
    · refine j_iconst (pc' := 10) (v := (1 : Int32)) hC dX6_isSwing_9 (by decide) rfl ?_
      refine j_goto (tgt := 14) hC dX6_isSwing_10 (by decide) ?_
      exact j_ret_zr hC (by decide) dX6_isSwing_14
theorem hyV_X6_mayCount : yX6_mayCount.cls = RX6 ∧ yX6_mayCount.cls ≠ "java/lang/invoke/MethodHandle" ∧ yX6_mayCount.cls ≠ "java/lang/invoke/VarHandle" ∧ (parseMethodDescriptor yX6_mayCount.desc).map (fun d => d.parameters.length) = some 2 := ⟨rfl, by decide +kernel, by decide +kernel, by decide +kernel⟩
noncomputable def fX6_mayCount (σ : jS) (p1 : Int32) (p2 : Int32) : Option (Int32) :=
  (if p1 = (9 : Int32) then (some (1 : Int32)) else (if p1 = p2 then (some (0 : Int32)) else (Option.bind (fX6_isChild σ p1) fun (q1 : Int32) => (if (jb q1) = 0 then (some (0 : Int32)) else (some (1 : Int32))))))
set_option maxRecDepth 100000 in
set_option maxHeartbeats 4000000 in
theorem kX6_mayCount (l : Launch) (d : jD) (A : Nat → Prop) (σ : jS) (p1 : Int32) (p2 : Int32) : jMzr l yX6_mayCount (jws yX6_mayCount cX6_mayCount 3 (some (.boolean))) { frames := 3, cells := 0, slots := 0, locals := 151 } d wX A [.ref (d.2.1 1), .int p1, .int p2] σ (fX6_mayCount σ p1 p2) := by
  refine jStart_zr (lv0 := [(0, .ref (d.2.1 1)), (1, .int p1), (2, .int p2)]) (by decide) rfl (Nat.le_of_ble_eq_true rfl) rfl (fun z hC res => ?_)
  unfold fX6_mayCount
  refine j_iload_n (pc' := 1) hC 1 dX6_mayCount_0 rfl rfl rfl ?_
  refine j_bipush (pc' := 3) (v := (9 : Int32)) hC dX6_mayCount_1 (by decide) rfl ?_
  refine j_icmp_eq (pc' := 6) (tgt := 19) hC dX6_mayCount_3 (by decide) rfl ?_ ?_
  · refine j_iconst (pc' := 20) (v := (1 : Int32)) hC dX6_mayCount_19 (by decide) rfl ?_
    refine j_goto (tgt := 24) hC dX6_mayCount_20 (by decide) ?_
    exact j_ret_zr hC (by decide) dX6_mayCount_24
  · refine j_iload_n (pc' := 7) hC 1 dX6_mayCount_6 rfl rfl rfl ?_
    refine j_iload_n (pc' := 8) hC 2 dX6_mayCount_7 rfl rfl rfl ?_
    refine j_icmp_eq (pc' := 11) (tgt := 23) hC dX6_mayCount_8 (by decide) rfl ?_ ?_
    · refine j_iconst (pc' := 24) (v := (0 : Int32)) hC dX6_mayCount_23 (by decide) rfl ?_
      exact j_ret_zr hC (by decide) dX6_mayCount_24
    · refine j_aload_n (pc' := 12) hC 0 dX6_mayCount_11 rfl rfl rfl ?_
      refine j_iload_n (pc' := 13) hC 1 dX6_mayCount_12 rfl rfl rfl ?_
      refine j_callV_zr (pc' := 16) (As := [.int p1]) (st := []) hC (X_at_1 d _) rfl (kX6_isChild l d A _ _) (jgV ml_X6_19 im_X6_isChild se_X6_isChild in_X6 cd_X6_isChild) rfl rfl rfl hyV_X6_isChild ⟨Nat.le_of_ble_eq_true rfl, Nat.le_of_ble_eq_true rfl⟩ rfl rfl (Nat.le_of_ble_eq_true rfl) dX6_mayCount_13 rfl (fun q1 => ?_)
      refine j_if_eq (pc' := 19) (tgt := 23) hC dX6_mayCount_16 (by decide) rfl ?_ ?_
      · refine j_iconst (pc' := 24) (v := (0 : Int32)) hC dX6_mayCount_23 (by decide) rfl ?_
        exact j_ret_zr hC (by decide) dX6_mayCount_24
      · refine j_iconst (pc' := 20) (v := (1 : Int32)) hC dX6_mayCount_19 (by decide) rfl ?_
        refine j_goto (tgt := 24) hC dX6_mayCount_20 (by decide) ?_
        exact j_ret_zr hC (by decide) dX6_mayCount_24
theorem hyV_X6_placeOf : yX6_placeOf.cls = RX6 ∧ yX6_placeOf.cls ≠ "java/lang/invoke/MethodHandle" ∧ yX6_placeOf.cls ≠ "java/lang/invoke/VarHandle" ∧ (parseMethodDescriptor yX6_placeOf.desc).map (fun d => d.parameters.length) = some 2 := ⟨rfl, by decide +kernel, by decide +kernel, by decide +kernel⟩
noncomputable def fX6_placeOf (σ : jS) (p1 : Int32) (p2 : Int32) : Option (Int32) :=
  (if p2 < 0 then (some (-1 : Int32)) else (if p2 ≤ (10 : Int32) then (if (6 : Int32) ≤ p2 then (if p2 = (6 : Int32) then (Option.bind (fX6_isSwing σ p1) fun (q1 : Int32) => (if (jb q1) = 0 then (some (-1 : Int32)) else (some ((54 : Int32) + p1)))) else (if p1 = 0 then (some (((57 : Int32) + p2) - (7 : Int32))) else (some (-1 : Int32)))) else (Option.bind (fX6_isChild σ p1) fun (q2 : Int32) => (if (jb q2) = 0 then (some (-1 : Int32)) else (some ((p1 * (6 : Int32)) + p2))))) else (some (-1 : Int32))))
set_option maxRecDepth 100000 in
set_option maxHeartbeats 4000000 in
theorem kX6_placeOf (l : Launch) (d : jD) (A : Nat → Prop) (σ : jS) (p1 : Int32) (p2 : Int32) : jMir l yX6_placeOf (jws yX6_placeOf cX6_placeOf 3 (some (.int))) { frames := 3, cells := 0, slots := 0, locals := 151 } d wX A [.ref (d.2.1 1), .int p1, .int p2] σ (fX6_placeOf σ p1 p2) := by
  refine jStart_ir (lv0 := [(0, .ref (d.2.1 1)), (1, .int p1), (2, .int p2)]) (by decide) rfl (Nat.le_of_ble_eq_true rfl) rfl (fun z hC res => ?_)
  unfold fX6_placeOf
  refine j_iload_n (pc' := 1) hC 2 dX6_placeOf_0 rfl rfl rfl ?_
  refine j_if_lt (pc' := 4) (tgt := 10) hC dX6_placeOf_1 (by decide) rfl ?_ ?_
  · refine j_iconst (pc' := 11) (v := (-1 : Int32)) hC dX6_placeOf_10 (by decide) rfl ?_
    exact j_ret_ir hC dX6_placeOf_11
  · refine j_iload_n (pc' := 5) hC 2 dX6_placeOf_4 rfl rfl rfl ?_
    refine j_bipush (pc' := 7) (v := (10 : Int32)) hC dX6_placeOf_5 (by decide) rfl ?_
    refine j_icmp_le (pc' := 10) (tgt := 12) hC dX6_placeOf_7 (by decide) rfl ?_ ?_
    · refine j_iload_n (pc' := 13) hC 2 dX6_placeOf_12 rfl rfl rfl ?_
      refine j_bipush (pc' := 15) (v := (6 : Int32)) hC dX6_placeOf_13 (by decide) rfl ?_
      refine j_icmp_ge (pc' := 18) (tgt := 37) hC dX6_placeOf_15 (by decide) rfl ?_ ?_
      · refine j_iload_n (pc' := 38) hC 2 dX6_placeOf_37 rfl rfl rfl ?_
        refine j_bipush (pc' := 40) (v := (6 : Int32)) hC dX6_placeOf_38 (by decide) rfl ?_
        refine j_icmp_ne (pc' := 43) (tgt := 60) hC dX6_placeOf_40 (by decide) rfl ?_ ?_
        · refine j_iload_n (pc' := 61) hC 1 dX6_placeOf_60 rfl rfl rfl ?_
          refine j_if_ne (pc' := 64) (tgt := 74) hC dX6_placeOf_61 (by decide) rfl ?_ ?_
          · refine j_iconst (pc' := 75) (v := (-1 : Int32)) hC dX6_placeOf_74 (by decide) rfl ?_
            exact j_ret_ir hC dX6_placeOf_75
          · refine j_bipush (pc' := 66) (v := (57 : Int32)) hC dX6_placeOf_64 (by decide) rfl ?_
            refine j_iload_n (pc' := 67) hC 2 dX6_placeOf_66 rfl rfl rfl ?_
            refine j_iadd (pc' := 68) hC dX6_placeOf_67 rfl ?_
            refine j_bipush (pc' := 70) (v := (7 : Int32)) hC dX6_placeOf_68 (by decide) rfl ?_
            refine j_isub (pc' := 71) hC dX6_placeOf_70 rfl ?_
            refine j_goto (tgt := 75) hC dX6_placeOf_71 (by decide) ?_
            exact j_ret_ir hC dX6_placeOf_75
        · refine j_aload_n (pc' := 44) hC 0 dX6_placeOf_43 rfl rfl rfl ?_
          refine j_iload_n (pc' := 45) hC 1 dX6_placeOf_44 rfl rfl rfl ?_
          refine j_callV_zr (pc' := 48) (As := [.int p1]) (st := []) hC (X_at_1 d _) rfl (kX6_isSwing l d A _ _) (jgV ml_X6_23 im_X6_isSwing se_X6_isSwing in_X6 cd_X6_isSwing) rfl rfl rfl hyV_X6_isSwing ⟨Nat.le_of_ble_eq_true rfl, Nat.le_of_ble_eq_true rfl⟩ rfl rfl (Nat.le_of_ble_eq_true rfl) dX6_placeOf_45 rfl (fun q1 => ?_)
          refine j_if_eq (pc' := 51) (tgt := 58) hC dX6_placeOf_48 (by decide) rfl ?_ ?_
          · refine j_iconst (pc' := 59) (v := (-1 : Int32)) hC dX6_placeOf_58 (by decide) rfl ?_
            exact j_ret_ir hC dX6_placeOf_59
          · refine j_bipush (pc' := 53) (v := (54 : Int32)) hC dX6_placeOf_51 (by decide) rfl ?_
            refine j_iload_n (pc' := 54) hC 1 dX6_placeOf_53 rfl rfl rfl ?_
            refine j_iadd (pc' := 55) hC dX6_placeOf_54 rfl ?_
            refine j_goto (tgt := 59) hC dX6_placeOf_55 (by decide) ?_
            exact j_ret_ir hC dX6_placeOf_59
      · refine j_aload_n (pc' := 19) hC 0 dX6_placeOf_18 rfl rfl rfl ?_
        refine j_iload_n (pc' := 20) hC 1 dX6_placeOf_19 rfl rfl rfl ?_
        refine j_callV_zr (pc' := 23) (As := [.int p1]) (st := []) hC (X_at_1 d _) rfl (kX6_isChild l d A _ _) (jgV ml_X6_19 im_X6_isChild se_X6_isChild in_X6 cd_X6_isChild) rfl rfl rfl hyV_X6_isChild ⟨Nat.le_of_ble_eq_true rfl, Nat.le_of_ble_eq_true rfl⟩ rfl rfl (Nat.le_of_ble_eq_true rfl) dX6_placeOf_20 rfl (fun q2 => ?_)
        refine j_if_eq (pc' := 26) (tgt := 35) hC dX6_placeOf_23 (by decide) rfl ?_ ?_
        · refine j_iconst (pc' := 36) (v := (-1 : Int32)) hC dX6_placeOf_35 (by decide) rfl ?_
          exact j_ret_ir hC dX6_placeOf_36
        · refine j_iload_n (pc' := 27) hC 1 dX6_placeOf_26 rfl rfl rfl ?_
          refine j_bipush (pc' := 29) (v := (6 : Int32)) hC dX6_placeOf_27 (by decide) rfl ?_
          refine j_imul (pc' := 30) hC dX6_placeOf_29 rfl ?_
          refine j_iload_n (pc' := 31) hC 2 dX6_placeOf_30 rfl rfl rfl ?_
          refine j_iadd (pc' := 32) hC dX6_placeOf_31 rfl ?_
          refine j_goto (tgt := 36) hC dX6_placeOf_32 (by decide) ?_
          exact j_ret_ir hC dX6_placeOf_36
    · refine j_iconst (pc' := 11) (v := (-1 : Int32)) hC dX6_placeOf_10 (by decide) rfl ?_
      exact j_ret_ir hC dX6_placeOf_11
theorem hyV_X6_isWithin : yX6_isWithin.cls = RX6 ∧ yX6_isWithin.cls ≠ "java/lang/invoke/MethodHandle" ∧ yX6_isWithin.cls ≠ "java/lang/invoke/VarHandle" ∧ (parseMethodDescriptor yX6_isWithin.desc).map (fun d => d.parameters.length) = some 2 := ⟨rfl, by decide +kernel, by decide +kernel, by decide +kernel⟩
noncomputable def fX6_isWithin (σ : jS) (p1 : Int32) (p2 : Int32) : Option (Int32) :=
  (if p1 < 0 then (some (0 : Int32)) else (if (10 : Int32) < p1 then (some (0 : Int32)) else (ob p1 11 (if p2 < (jLEAST (p1).toNatClampNeg) then (some (0 : Int32)) else (ob p1 11 (if (jMOST (p1).toNatClampNeg) < p2 then (some (0 : Int32)) else (some (1 : Int32))))))))
set_option maxRecDepth 100000 in
set_option maxHeartbeats 4000000 in
theorem kX6_isWithin (l : Launch) (d : jD) (A : Nat → Prop) (σ : jS) (p1 : Int32) (p2 : Int32) : jMzr l yX6_isWithin (jws yX6_isWithin cX6_isWithin 3 (some (.boolean))) { frames := 2, cells := 0, slots := 0, locals := 130 } d wX A [.ref (d.2.1 1), .int p1, .int p2] σ (fX6_isWithin σ p1 p2) := by
  refine jStart_zr (lv0 := [(0, .ref (d.2.1 1)), (1, .int p1), (2, .int p2)]) (by decide) rfl (Nat.le_of_ble_eq_true rfl) rfl (fun z hC res => ?_)
  unfold fX6_isWithin
  refine j_iload_n (pc' := 1) hC 1 dX6_isWithin_0 rfl rfl rfl ?_
  refine j_if_lt (pc' := 4) (tgt := 32) hC dX6_isWithin_1 (by decide) rfl ?_ ?_
  · refine j_iconst (pc' := 33) (v := (0 : Int32)) hC dX6_isWithin_32 (by decide) rfl ?_
    exact j_ret_zr hC (by decide) dX6_isWithin_33
  · refine j_iload_n (pc' := 5) hC 1 dX6_isWithin_4 rfl rfl rfl ?_
    refine j_bipush (pc' := 7) (v := (10 : Int32)) hC dX6_isWithin_5 (by decide) rfl ?_
    refine j_icmp_gt (pc' := 10) (tgt := 32) hC dX6_isWithin_7 (by decide) rfl ?_ ?_
    · refine j_iconst (pc' := 33) (v := (0 : Int32)) hC dX6_isWithin_32 (by decide) rfl ?_
      exact j_ret_zr hC (by decide) dX6_isWithin_33
    · refine j_iload_n (pc' := 11) hC 2 dX6_isWithin_10 rfl rfl rfl ?_
      refine j_gets (pc' := 14) hC hC.2.2.2.2.2.2.1.1 fl_X6_26 dX6_isWithin_11 rfl ?_
      refine j_iload_n (pc' := 15) hC 1 dX6_isWithin_14 rfl rfl rfl ?_
      refine j_tald (pc' := 16) hC hC.2.2.2.2.2.2.1.1 dX6_isWithin_15 rfl ?_
      refine j_icmp_lt (pc' := 19) (tgt := 32) hC dX6_isWithin_16 (by decide) rfl ?_ ?_
      · refine j_iconst (pc' := 33) (v := (0 : Int32)) hC dX6_isWithin_32 (by decide) rfl ?_
        exact j_ret_zr hC (by decide) dX6_isWithin_33
      · refine j_iload_n (pc' := 20) hC 2 dX6_isWithin_19 rfl rfl rfl ?_
        refine j_gets (pc' := 23) hC hC.2.2.2.2.2.2.1.2.1 fl_X6_29 dX6_isWithin_20 rfl ?_
        refine j_iload_n (pc' := 24) hC 1 dX6_isWithin_23 rfl rfl rfl ?_
        refine j_tald (pc' := 25) hC hC.2.2.2.2.2.2.1.2.1 dX6_isWithin_24 rfl ?_
        refine j_icmp_gt (pc' := 28) (tgt := 32) hC dX6_isWithin_25 (by decide) rfl ?_ ?_
        · refine j_iconst (pc' := 33) (v := (0 : Int32)) hC dX6_isWithin_32 (by decide) rfl ?_
          exact j_ret_zr hC (by decide) dX6_isWithin_33
        · refine j_iconst (pc' := 29) (v := (1 : Int32)) hC dX6_isWithin_28 (by decide) rfl ?_
          refine j_goto (tgt := 33) hC dX6_isWithin_29 (by decide) ?_
          exact j_ret_zr hC (by decide) dX6_isWithin_33
theorem hyV_X6_mayBe : yX6_mayBe.cls = RX6 ∧ yX6_mayBe.cls ≠ "java/lang/invoke/MethodHandle" ∧ yX6_mayBe.cls ≠ "java/lang/invoke/VarHandle" ∧ (parseMethodDescriptor yX6_mayBe.desc).map (fun d => d.parameters.length) = some 3 := ⟨rfl, by decide +kernel, by decide +kernel, by decide +kernel⟩
noncomputable def fX6_mayBe (σ : jS) (p1 : Int32) (p2 : Int32) (p3 : Int32) : Option (Int32) :=
  (Option.bind (fX6_isWithin σ p2 p3) fun (q1 : Int32) => (if (jb q1) = 0 then (some (0 : Int32)) else (if p2 = (4 : Int32) then (Option.bind (fX6_mayCount σ p3 p1) fun (q2 : Int32) => (if (jb q2) = 0 then (some (0 : Int32)) else (some (1 : Int32)))) else (some (1 : Int32)))))
set_option maxRecDepth 100000 in
set_option maxHeartbeats 4000000 in
theorem kX6_mayBe (l : Launch) (d : jD) (A : Nat → Prop) (σ : jS) (p1 : Int32) (p2 : Int32) (p3 : Int32) : jMzr l yX6_mayBe (jws yX6_mayBe cX6_mayBe 4 (some (.boolean))) { frames := 4, cells := 0, slots := 0, locals := 173 } d wX A [.ref (d.2.1 1), .int p1, .int p2, .int p3] σ (fX6_mayBe σ p1 p2 p3) := by
  refine jStart_zr (lv0 := [(0, .ref (d.2.1 1)), (1, .int p1), (2, .int p2), (3, .int p3)]) (by decide) rfl (Nat.le_of_ble_eq_true rfl) rfl (fun z hC res => ?_)
  unfold fX6_mayBe
  refine j_aload_n (pc' := 1) hC 0 dX6_mayBe_0 rfl rfl rfl ?_
  refine j_iload_n (pc' := 2) hC 2 dX6_mayBe_1 rfl rfl rfl ?_
  refine j_iload_n (pc' := 3) hC 3 dX6_mayBe_2 rfl rfl rfl ?_
  refine j_callV_zr (pc' := 6) (As := [.int p2, .int p3]) (st := []) hC (X_at_1 d _) rfl (kX6_isWithin l d A _ _ _) (jgV ml_X6_32 im_X6_isWithin se_X6_isWithin in_X6 cd_X6_isWithin) rfl rfl rfl hyV_X6_isWithin ⟨Nat.le_of_ble_eq_true rfl, Nat.le_of_ble_eq_true rfl⟩ rfl rfl (Nat.le_of_ble_eq_true rfl) dX6_mayBe_3 rfl (fun q1 => ?_)
  refine j_if_eq (pc' := 9) (tgt := 27) hC dX6_mayBe_6 (by decide) rfl ?_ ?_
  · refine j_iconst (pc' := 28) (v := (0 : Int32)) hC dX6_mayBe_27 (by decide) rfl ?_
    exact j_ret_zr hC (by decide) dX6_mayBe_28
  · refine j_iload_n (pc' := 10) hC 2 dX6_mayBe_9 rfl rfl rfl ?_
    refine j_iconst (pc' := 11) (v := (4 : Int32)) hC dX6_mayBe_10 (by decide) rfl ?_
    refine j_icmp_ne (pc' := 14) (tgt := 23) hC dX6_mayBe_11 (by decide) rfl ?_ ?_
    · refine j_iconst (pc' := 24) (v := (1 : Int32)) hC dX6_mayBe_23 (by decide) rfl ?_
      refine j_goto (tgt := 28) hC dX6_mayBe_24 (by decide) ?_
      exact j_ret_zr hC (by decide) dX6_mayBe_28
    · refine j_aload_n (pc' := 15) hC 0 dX6_mayBe_14 rfl rfl rfl ?_
      refine j_iload_n (pc' := 16) hC 3 dX6_mayBe_15 rfl rfl rfl ?_
      refine j_iload_n (pc' := 17) hC 1 dX6_mayBe_16 rfl rfl rfl ?_
      refine j_callV_zr (pc' := 20) (As := [.int p3, .int p1]) (st := []) hC (X_at_1 d _) rfl (kX6_mayCount l d A _ _ _) (jgV ml_X6_36 im_X6_mayCount se_X6_mayCount in_X6 cd_X6_mayCount) rfl rfl rfl hyV_X6_mayCount ⟨Nat.le_of_ble_eq_true rfl, Nat.le_of_ble_eq_true rfl⟩ rfl rfl (Nat.le_of_ble_eq_true rfl) dX6_mayBe_17 rfl (fun q2 => ?_)
      refine j_if_eq (pc' := 23) (tgt := 27) hC dX6_mayBe_20 (by decide) rfl ?_ ?_
      · refine j_iconst (pc' := 28) (v := (0 : Int32)) hC dX6_mayBe_27 (by decide) rfl ?_
        exact j_ret_zr hC (by decide) dX6_mayBe_28
      · refine j_iconst (pc' := 24) (v := (1 : Int32)) hC dX6_mayBe_23 (by decide) rfl ?_
        refine j_goto (tgt := 28) hC dX6_mayBe_24 (by decide) ?_
        exact j_ret_zr hC (by decide) dX6_mayBe_28
theorem hyV_X6_valueAt : yX6_valueAt.cls = RX6 ∧ yX6_valueAt.cls ≠ "java/lang/invoke/MethodHandle" ∧ yX6_valueAt.cls ≠ "java/lang/invoke/VarHandle" ∧ (parseMethodDescriptor yX6_valueAt.desc).map (fun d => d.parameters.length) = some 1 := ⟨rfl, by decide +kernel, by decide +kernel, by decide +kernel⟩
noncomputable def fX6_valueAt (σ : jS) (p1 : Int32) : Option (Int32) :=
  (if p1 < 0 then (some (0 : Int32)) else (if (61 : Int32) ≤ p1 then (some (0 : Int32)) else (ob p1 61 (some (σ.1 2 (p1).toNatClampNeg)))))
set_option maxRecDepth 100000 in
set_option maxHeartbeats 4000000 in
theorem kX6_valueAt (l : Launch) (d : jD) (A : Nat → Prop) (σ : jS) (p1 : Int32) : jMir l yX6_valueAt (jws yX6_valueAt cX6_valueAt 2 (some (.int))) { frames := 2, cells := 0, slots := 0, locals := 130 } d wX A [.ref (d.2.1 1), .int p1] σ (fX6_valueAt σ p1) := by
  refine jStart_ir (lv0 := [(0, .ref (d.2.1 1)), (1, .int p1)]) (by decide) rfl (Nat.le_of_ble_eq_true rfl) rfl (fun z hC res => ?_)
  unfold fX6_valueAt
  refine j_iload_n (pc' := 1) hC 1 dX6_valueAt_0 rfl rfl rfl ?_
  refine j_if_lt (pc' := 4) (tgt := 19) hC dX6_valueAt_1 (by decide) rfl ?_ ?_
  · refine j_iconst (pc' := 20) (v := (0 : Int32)) hC dX6_valueAt_19 (by decide) rfl ?_
    exact j_ret_ir hC dX6_valueAt_20
  · refine j_iload_n (pc' := 5) hC 1 dX6_valueAt_4 rfl rfl rfl ?_
    refine j_bipush (pc' := 7) (v := (61 : Int32)) hC dX6_valueAt_5 (by decide) rfl ?_
    refine j_icmp_ge (pc' := 10) (tgt := 19) hC dX6_valueAt_7 (by decide) rfl ?_ ?_
    · refine j_iconst (pc' := 20) (v := (0 : Int32)) hC dX6_valueAt_19 (by decide) rfl ?_
      exact j_ret_ir hC dX6_valueAt_20
    · refine j_aload_n (pc' := 11) hC 0 dX6_valueAt_10 rfl rfl rfl ?_
      refine j_get (pc' := 14) hC ly_X6 (X_at_1 d _) rfl 0 (by decide) fl_X6_11 rfl dX6_valueAt_11 rfl ?_
      refine j_iload_n (pc' := 15) hC 1 dX6_valueAt_14 rfl rfl rfl ?_
      refine j_iald (pc' := 16) hC (X_at_2 d _) dX6_valueAt_15 rfl ?_
      refine j_goto (tgt := 20) hC dX6_valueAt_16 (by decide) ?_
      exact j_ret_ir hC dX6_valueAt_20
theorem hyV_X6_setAt : yX6_setAt.cls = RX6 ∧ yX6_setAt.cls ≠ "java/lang/invoke/MethodHandle" ∧ yX6_setAt.cls ≠ "java/lang/invoke/VarHandle" ∧ (parseMethodDescriptor yX6_setAt.desc).map (fun d => d.parameters.length) = some 2 := ⟨rfl, by decide +kernel, by decide +kernel, by decide +kernel⟩
noncomputable def fX6_setAt (σ : jS) (p1 : Int32) (p2 : Int32) : Option (jS) :=
  (if p1 < 0 then (some σ) else (if (61 : Int32) ≤ p1 then (some σ) else (ob p1 61 (jst (ju σ 2 (p1).toNatClampNeg p2) fun (σ1 : jS) => (some σ1)))))
set_option maxRecDepth 100000 in
set_option maxHeartbeats 4000000 in
theorem kX6_setAt (l : Launch) (d : jD) (A : Nat → Prop) (σ : jS) (p1 : Int32) (p2 : Int32) : jMv l yX6_setAt (jws yX6_setAt cX6_setAt 3 none) { frames := 2, cells := 0, slots := 0, locals := 130 } d wX A [.ref (d.2.1 1), .int p1, .int p2] σ (fX6_setAt σ p1 p2) := by
  refine jStart_v (lv0 := [(0, .ref (d.2.1 1)), (1, .int p1), (2, .int p2)]) (by decide) rfl (Nat.le_of_ble_eq_true rfl) rfl (fun z hC res => ?_)
  unfold fX6_setAt
  refine j_iload_n (pc' := 1) hC 1 dX6_setAt_0 rfl rfl rfl ?_
  refine j_if_lt (pc' := 4) (tgt := 17) hC dX6_setAt_1 (by decide) rfl ?_ ?_
  · exact j_ret_v hC dX6_setAt_17
  · refine j_iload_n (pc' := 5) hC 1 dX6_setAt_4 rfl rfl rfl ?_
    refine j_bipush (pc' := 7) (v := (61 : Int32)) hC dX6_setAt_5 (by decide) rfl ?_
    refine j_icmp_ge (pc' := 10) (tgt := 17) hC dX6_setAt_7 (by decide) rfl ?_ ?_
    · exact j_ret_v hC dX6_setAt_17
    · refine j_aload_n (pc' := 11) hC 0 dX6_setAt_10 rfl rfl rfl ?_
      refine j_get (pc' := 14) hC ly_X6 (X_at_1 d _) rfl 0 (by decide) fl_X6_11 rfl dX6_setAt_11 rfl ?_
      refine j_iload_n (pc' := 15) hC 1 dX6_setAt_14 rfl rfl rfl ?_
      refine j_iload_n (pc' := 16) hC 2 dX6_setAt_15 rfl rfl rfl ?_
      refine j_iast (pc' := 17) hC (X_at_2 d _) (X_sa_2 d _ _) dX6_setAt_16 rfl ?_
      refine j_st (fun σ1 => ?_)
      exact j_ret_v hC dX6_setAt_17
theorem hyV_X6_valueOf : yX6_valueOf.cls = RX6 ∧ yX6_valueOf.cls ≠ "java/lang/invoke/MethodHandle" ∧ yX6_valueOf.cls ≠ "java/lang/invoke/VarHandle" ∧ (parseMethodDescriptor yX6_valueOf.desc).map (fun d => d.parameters.length) = some 2 := ⟨rfl, by decide +kernel, by decide +kernel, by decide +kernel⟩
noncomputable def fX6_valueOf (σ : jS) (p1 : Int32) (p2 : Int32) : Option (Int32) :=
  (Option.bind (fX6_placeOf σ p1 p2) fun (q1 : Int32) => (Option.bind (fX6_valueAt σ q1) fun (q2 : Int32) => (some q2)))
set_option maxRecDepth 100000 in
set_option maxHeartbeats 4000000 in
theorem kX6_valueOf (l : Launch) (d : jD) (A : Nat → Prop) (σ : jS) (p1 : Int32) (p2 : Int32) : jMir l yX6_valueOf (jws yX6_valueOf cX6_valueOf 3 (some (.int))) { frames := 4, cells := 0, slots := 0, locals := 173 } d wX A [.ref (d.2.1 1), .int p1, .int p2] σ (fX6_valueOf σ p1 p2) := by
  refine jStart_ir (lv0 := [(0, .ref (d.2.1 1)), (1, .int p1), (2, .int p2)]) (by decide) rfl (Nat.le_of_ble_eq_true rfl) rfl (fun z hC res => ?_)
  unfold fX6_valueOf
  refine j_aload_n (pc' := 1) hC 0 dX6_valueOf_0 rfl rfl rfl ?_
  refine j_aload_n (pc' := 2) hC 0 dX6_valueOf_1 rfl rfl rfl ?_
  refine j_iload_n (pc' := 3) hC 1 dX6_valueOf_2 rfl rfl rfl ?_
  refine j_iload_n (pc' := 4) hC 2 dX6_valueOf_3 rfl rfl rfl ?_
  refine j_callV_ir (pc' := 7) (As := [.int p1, .int p2]) (st := [.ref (d.2.1 1)]) hC (X_at_1 d _) rfl (kX6_placeOf l d A _ _ _) (jgV ml_X6_39 im_X6_placeOf se_X6_placeOf in_X6 cd_X6_placeOf) rfl rfl rfl hyV_X6_placeOf ⟨Nat.le_of_ble_eq_true rfl, Nat.le_of_ble_eq_true rfl⟩ rfl rfl (Nat.le_of_ble_eq_true rfl) dX6_valueOf_4 rfl (fun q1 => ?_)
  refine j_callV_ir (pc' := 10) (As := [.int q1]) (st := []) hC (X_at_1 d _) rfl (kX6_valueAt l d A _ _) (jgV ml_X6_43 im_X6_valueAt se_X6_valueAt in_X6 cd_X6_valueAt) rfl rfl rfl hyV_X6_valueAt ⟨Nat.le_of_ble_eq_true rfl, Nat.le_of_ble_eq_true rfl⟩ rfl rfl (Nat.le_of_ble_eq_true rfl) dX6_valueOf_7 rfl (fun q2 => ?_)
  exact j_ret_ir hC dX6_valueOf_10
theorem hyV_X6_bentFor : yX6_bentFor.cls = RX6 ∧ yX6_bentFor.cls ≠ "java/lang/invoke/MethodHandle" ∧ yX6_bentFor.cls ≠ "java/lang/invoke/VarHandle" ∧ (parseMethodDescriptor yX6_bentFor.desc).map (fun d => d.parameters.length) = some 2 := ⟨rfl, by decide +kernel, by decide +kernel, by decide +kernel⟩
noncomputable def fX6_bentFor (σ : jS) (p1 : Int32) (p2 : Int32) : Option (Int32) :=
  (Option.bind (fX6_isChild σ p1) fun (q1 : Int32) => (if (jb q1) = 0 then (some (0 : Int32)) else (ob ((p1 * (6 : Int32)) + (4 : Int32)) 61 (if (σ.1 2 (((p1 * (6 : Int32)) + (4 : Int32))).toNatClampNeg) = p2 then (some (1 : Int32)) else (ob ((p1 * (6 : Int32)) + (3 : Int32)) 61 (some (σ.1 2 (((p1 * (6 : Int32)) + (3 : Int32))).toNatClampNeg)))))))
set_option maxRecDepth 100000 in
set_option maxHeartbeats 4000000 in
theorem kX6_bentFor (l : Launch) (d : jD) (A : Nat → Prop) (σ : jS) (p1 : Int32) (p2 : Int32) : jMir l yX6_bentFor (jws yX6_bentFor cX6_bentFor 4 (some (.int))) { frames := 3, cells := 0, slots := 0, locals := 151 } d wX A [.ref (d.2.1 1), .int p1, .int p2] σ (fX6_bentFor σ p1 p2) := by
  refine jStart_ir (lv0 := [(0, .ref (d.2.1 1)), (1, .int p1), (2, .int p2)]) (by decide) rfl (Nat.le_of_ble_eq_true rfl) rfl (fun z hC res => ?_)
  unfold fX6_bentFor
  refine j_aload_n (pc' := 1) hC 0 dX6_bentFor_0 rfl rfl rfl ?_
  refine j_iload_n (pc' := 2) hC 1 dX6_bentFor_1 rfl rfl rfl ?_
  refine j_callV_zr (pc' := 5) (As := [.int p1]) (st := []) hC (X_at_1 d _) rfl (kX6_isChild l d A _ _) (jgV ml_X6_19 im_X6_isChild se_X6_isChild in_X6 cd_X6_isChild) rfl rfl rfl hyV_X6_isChild ⟨Nat.le_of_ble_eq_true rfl, Nat.le_of_ble_eq_true rfl⟩ rfl rfl (Nat.le_of_ble_eq_true rfl) dX6_bentFor_2 rfl (fun q1 => ?_)
  refine j_if_ne (pc' := 8) (tgt := 10) hC dX6_bentFor_5 (by decide) rfl ?_ ?_
  · refine j_iload_n (pc' := 11) hC 1 dX6_bentFor_10 rfl rfl rfl ?_
    refine j_bipush (pc' := 13) (v := (6 : Int32)) hC dX6_bentFor_11 (by decide) rfl ?_
    refine j_imul (pc' := 14) hC dX6_bentFor_13 rfl ?_
    refine j_istore_n (pc' := 15) (lv' := [(3, .int (p1 * (6 : Int32))), (0, .ref (d.2.1 1)), (1, .int p1), (2, .int p2)]) hC dX6_bentFor_14 rfl (by decide) rfl rfl ?_
    refine j_aload_n (pc' := 16) hC 1 dX6_bentFor_15 rfl rfl rfl ?_
    refine j_get (pc' := 19) hC ly_X6 (X_at_1 d _) rfl 0 (by decide) fl_X6_11 rfl dX6_bentFor_16 rfl ?_
    refine j_iload_n (pc' := 20) hC 0 dX6_bentFor_19 rfl rfl rfl ?_
    refine j_iconst (pc' := 21) (v := (4 : Int32)) hC dX6_bentFor_20 (by decide) rfl ?_
    refine j_iadd (pc' := 22) hC dX6_bentFor_21 rfl ?_
    refine j_iald (pc' := 23) hC (X_at_2 d _) dX6_bentFor_22 rfl ?_
    refine j_iload_n (pc' := 24) hC 3 dX6_bentFor_23 rfl rfl rfl ?_
    refine j_icmp_ne (pc' := 27) (tgt := 31) hC dX6_bentFor_24 (by decide) rfl ?_ ?_
    · refine j_aload_n (pc' := 32) hC 1 dX6_bentFor_31 rfl rfl rfl ?_
      refine j_get (pc' := 35) hC ly_X6 (X_at_1 d _) rfl 0 (by decide) fl_X6_11 rfl dX6_bentFor_32 rfl ?_
      refine j_iload_n (pc' := 36) hC 0 dX6_bentFor_35 rfl rfl rfl ?_
      refine j_iconst (pc' := 37) (v := (3 : Int32)) hC dX6_bentFor_36 (by decide) rfl ?_
      refine j_iadd (pc' := 38) hC dX6_bentFor_37 rfl ?_
      refine j_iald (pc' := 39) hC (X_at_2 d _) dX6_bentFor_38 rfl ?_
      exact j_ret_ir hC dX6_bentFor_39
    · refine j_iconst (pc' := 28) (v := (1 : Int32)) hC dX6_bentFor_27 (by decide) rfl ?_
      refine j_goto (tgt := 39) hC dX6_bentFor_28 (by decide) ?_
      exact j_ret_ir hC dX6_bentFor_39
  · refine j_iconst (pc' := 9) (v := (0 : Int32)) hC dX6_bentFor_8 (by decide) rfl ?_
    exact j_ret_ir hC dX6_bentFor_9
theorem hyV_X6_welcome : yX6_welcome.cls = RX6 ∧ yX6_welcome.cls ≠ "java/lang/invoke/MethodHandle" ∧ yX6_welcome.cls ≠ "java/lang/invoke/VarHandle" ∧ (parseMethodDescriptor yX6_welcome.desc).map (fun d => d.parameters.length) = some 3 := ⟨rfl, by decide +kernel, by decide +kernel, by decide +kernel⟩
noncomputable def fX6_welcome (σ : jS) (p1 : Int32) (p2 : Int32) (p3 : Int32) : Option (Int32 × jS) :=
  (Option.bind (fX6_isWithin σ (0 : Int32) p1) fun (q1 : Int32) => (if (jb q1) = 0 then (some ((-1 : Int32), σ)) else (Option.bind (fX6_isWithin σ (1 : Int32) p2) fun (q2 : Int32) => (if (jb q2) = 0 then (some ((-1 : Int32), σ)) else (Option.bind (fX6_isWithin σ (5 : Int32) p3) fun (q3 : Int32) => (if (jb q3) = 0 then (some ((-1 : Int32), σ)) else (if (σ.1 1 1) < (9 : Int32) then (jst (ju σ 1 1 ((σ.1 1 1) + (1 : Int32))) fun (σ4 : jS) => (Option.bind (fX6_placeOf σ4 (σ.1 1 1) (0 : Int32)) fun (q5 : Int32) => (Option.bind (fX6_setAt σ4 q5 p1) fun (q6 : jS) => (Option.bind (fX6_placeOf q6 (σ.1 1 1) (1 : Int32)) fun (q7 : Int32) => (Option.bind (fX6_setAt q6 q7 p2) fun (q8 : jS) => (Option.bind (fX6_placeOf q8 (σ.1 1 1) (2 : Int32)) fun (q9 : Int32) => (Option.bind (fX6_setAt q8 q9 (9 : Int32)) fun (q10 : jS) => (Option.bind (fX6_placeOf q10 (σ.1 1 1) (3 : Int32)) fun (q11 : Int32) => (Option.bind (fX6_setAt q10 q11 (0 : Int32)) fun (q12 : jS) => (Option.bind (fX6_placeOf q12 (σ.1 1 1) (4 : Int32)) fun (q13 : Int32) => (Option.bind (fX6_setAt q12 q13 (9 : Int32)) fun (q14 : jS) => (Option.bind (fX6_placeOf q14 (σ.1 1 1) (5 : Int32)) fun (q15 : Int32) => (Option.bind (fX6_setAt q14 q15 p3) fun (q16 : jS) => (some ((σ.1 1 1), q16))))))))))))))) else (some ((-3 : Int32), σ)))))))))
set_option maxRecDepth 100000 in
set_option maxHeartbeats 4000000 in
theorem kX6_welcome (l : Launch) (d : jD) (A : Nat → Prop) (σ : jS) (p1 : Int32) (p2 : Int32) (p3 : Int32) : jMi l yX6_welcome (jws yX6_welcome cX6_welcome 5 (some (.int))) { frames := 4, cells := 0, slots := 0, locals := 173 } d wX A [.ref (d.2.1 1), .int p1, .int p2, .int p3] σ (fX6_welcome σ p1 p2 p3) := by
  refine jStart_i (lv0 := [(0, .ref (d.2.1 1)), (1, .int p1), (2, .int p2), (3, .int p3)]) (by decide) rfl (Nat.le_of_ble_eq_true rfl) rfl (fun z hC res => ?_)
  unfold fX6_welcome
  refine j_aload_n (pc' := 1) hC 0 dX6_welcome_0 rfl rfl rfl ?_
  refine j_iconst (pc' := 2) (v := (0 : Int32)) hC dX6_welcome_1 (by decide) rfl ?_
  refine j_iload_n (pc' := 3) hC 1 dX6_welcome_2 rfl rfl rfl ?_
  refine j_callV_zr (pc' := 6) (As := [.int (0 : Int32), .int p1]) (st := []) hC (X_at_1 d _) rfl (kX6_isWithin l d A _ _ _) (jgV ml_X6_32 im_X6_isWithin se_X6_isWithin in_X6 cd_X6_isWithin) rfl rfl rfl hyV_X6_isWithin ⟨Nat.le_of_ble_eq_true rfl, Nat.le_of_ble_eq_true rfl⟩ rfl rfl (Nat.le_of_ble_eq_true rfl) dX6_welcome_3 rfl (fun q1 => ?_)
  refine j_if_eq (pc' := 9) (tgt := 27) hC dX6_welcome_6 (by decide) rfl ?_ ?_
  · refine j_iconst (pc' := 28) (v := (-1 : Int32)) hC dX6_welcome_27 (by decide) rfl ?_
    exact j_ret_i hC dX6_welcome_28
  · refine j_aload_n (pc' := 10) hC 0 dX6_welcome_9 rfl rfl rfl ?_
    refine j_iconst (pc' := 11) (v := (1 : Int32)) hC dX6_welcome_10 (by decide) rfl ?_
    refine j_iload_n (pc' := 12) hC 2 dX6_welcome_11 rfl rfl rfl ?_
    refine j_callV_zr (pc' := 15) (As := [.int (1 : Int32), .int p2]) (st := []) hC (X_at_1 d _) rfl (kX6_isWithin l d A _ _ _) (jgV ml_X6_32 im_X6_isWithin se_X6_isWithin in_X6 cd_X6_isWithin) rfl rfl rfl hyV_X6_isWithin ⟨Nat.le_of_ble_eq_true rfl, Nat.le_of_ble_eq_true rfl⟩ rfl rfl (Nat.le_of_ble_eq_true rfl) dX6_welcome_12 rfl (fun q2 => ?_)
    refine j_if_eq (pc' := 18) (tgt := 27) hC dX6_welcome_15 (by decide) rfl ?_ ?_
    · refine j_iconst (pc' := 28) (v := (-1 : Int32)) hC dX6_welcome_27 (by decide) rfl ?_
      exact j_ret_i hC dX6_welcome_28
    · refine j_aload_n (pc' := 19) hC 0 dX6_welcome_18 rfl rfl rfl ?_
      refine j_iconst (pc' := 20) (v := (5 : Int32)) hC dX6_welcome_19 (by decide) rfl ?_
      refine j_iload_n (pc' := 21) hC 3 dX6_welcome_20 rfl rfl rfl ?_
      refine j_callV_zr (pc' := 24) (As := [.int (5 : Int32), .int p3]) (st := []) hC (X_at_1 d _) rfl (kX6_isWithin l d A _ _ _) (jgV ml_X6_32 im_X6_isWithin se_X6_isWithin in_X6 cd_X6_isWithin) rfl rfl rfl hyV_X6_isWithin ⟨Nat.le_of_ble_eq_true rfl, Nat.le_of_ble_eq_true rfl⟩ rfl rfl (Nat.le_of_ble_eq_true rfl) dX6_welcome_21 rfl (fun q3 => ?_)
      refine j_if_ne (pc' := 27) (tgt := 29) hC dX6_welcome_24 (by decide) rfl ?_ ?_
      · refine j_aload_n (pc' := 30) hC 0 dX6_welcome_29 rfl rfl rfl ?_
        refine j_get (pc' := 33) hC ly_X6 (X_at_1 d _) rfl 1 (by decide) fl_X6_15 rfl dX6_welcome_30 rfl ?_
        refine j_bipush (pc' := 35) (v := (9 : Int32)) hC dX6_welcome_33 (by decide) rfl ?_
        refine j_icmp_lt (pc' := 38) (tgt := 41) hC dX6_welcome_35 (by decide) rfl ?_ ?_
        · refine j_aload_n (pc' := 42) hC 0 dX6_welcome_41 rfl rfl rfl ?_
          refine j_get (pc' := 45) hC ly_X6 (X_at_1 d _) rfl 1 (by decide) fl_X6_15 rfl dX6_welcome_42 rfl ?_
          refine j_istore (pc' := 47) (lv' := [(4, .int (σ.1 1 1)), (0, .ref (d.2.1 1)), (1, .int p1), (2, .int p2), (3, .int p3)]) hC dX6_welcome_45 (by decide) rfl rfl ?_
          refine j_aload_n (pc' := 48) hC 1 dX6_welcome_47 rfl rfl rfl ?_
          refine j_dup (pc' := 49) hC rfl dX6_welcome_48 rfl ?_
          refine j_get (pc' := 52) hC ly_X6 (X_at_1 d _) rfl 1 (by decide) fl_X6_15 rfl dX6_welcome_49 rfl ?_
          refine j_iconst (pc' := 53) (v := (1 : Int32)) hC dX6_welcome_52 (by decide) rfl ?_
          refine j_iadd (pc' := 54) hC dX6_welcome_53 rfl ?_
          refine j_put (pc' := 57) hC ly_X6 tyX6 tyX6_ok nmX6 (X_at_1 d _) rfl 1 (by decide) fl_X6_15 rfl rfl rfl rfl (Nat.le_of_ble_eq_true rfl) (X_sf_1_1 d _ _) dX6_welcome_54 rfl ?_
          refine j_st (fun σ4 => ?_)
          refine j_aload_n (pc' := 58) hC 1 dX6_welcome_57 rfl rfl rfl ?_
          refine j_aload_n (pc' := 59) hC 1 dX6_welcome_58 rfl rfl rfl ?_
          refine j_iload (pc' := 61) hC 0 dX6_welcome_59 rfl rfl ?_
          refine j_iconst (pc' := 62) (v := (0 : Int32)) hC dX6_welcome_61 (by decide) rfl ?_
          refine j_callV_ir (pc' := 65) (As := [.int (σ.1 1 1), .int (0 : Int32)]) (st := [.ref (d.2.1 1)]) hC (X_at_1 d _) rfl (kX6_placeOf l d A _ _ _) (jgV ml_X6_39 im_X6_placeOf se_X6_placeOf in_X6 cd_X6_placeOf) rfl rfl rfl hyV_X6_placeOf ⟨Nat.le_of_ble_eq_true rfl, Nat.le_of_ble_eq_true rfl⟩ rfl rfl (Nat.le_of_ble_eq_true rfl) dX6_welcome_62 rfl (fun q5 => ?_)
          refine j_iload_n (pc' := 66) hC 2 dX6_welcome_65 rfl rfl rfl ?_
          refine j_callV_v (pc' := 69) (As := [.int q5, .int p1]) (st := []) hC (X_at_1 d _) rfl (kX6_setAt l d A _ _ _) (jgV ml_X6_47 im_X6_setAt se_X6_setAt in_X6 cd_X6_setAt) rfl rfl rfl hyV_X6_setAt ⟨Nat.le_of_ble_eq_true rfl, Nat.le_of_ble_eq_true rfl⟩ rfl rfl (Nat.le_of_ble_eq_true rfl) dX6_welcome_66 rfl (fun q6 => ?_)
          refine j_aload_n (pc' := 70) hC 1 dX6_welcome_69 rfl rfl rfl ?_
          refine j_aload_n (pc' := 71) hC 1 dX6_welcome_70 rfl rfl rfl ?_
          refine j_iload (pc' := 73) hC 0 dX6_welcome_71 rfl rfl ?_
          refine j_iconst (pc' := 74) (v := (1 : Int32)) hC dX6_welcome_73 (by decide) rfl ?_
          refine j_callV_ir (pc' := 77) (As := [.int (σ.1 1 1), .int (1 : Int32)]) (st := [.ref (d.2.1 1)]) hC (X_at_1 d _) rfl (kX6_placeOf l d A _ _ _) (jgV ml_X6_39 im_X6_placeOf se_X6_placeOf in_X6 cd_X6_placeOf) rfl rfl rfl hyV_X6_placeOf ⟨Nat.le_of_ble_eq_true rfl, Nat.le_of_ble_eq_true rfl⟩ rfl rfl (Nat.le_of_ble_eq_true rfl) dX6_welcome_74 rfl (fun q7 => ?_)
          refine j_iload_n (pc' := 78) hC 3 dX6_welcome_77 rfl rfl rfl ?_
          refine j_callV_v (pc' := 81) (As := [.int q7, .int p2]) (st := []) hC (X_at_1 d _) rfl (kX6_setAt l d A _ _ _) (jgV ml_X6_47 im_X6_setAt se_X6_setAt in_X6 cd_X6_setAt) rfl rfl rfl hyV_X6_setAt ⟨Nat.le_of_ble_eq_true rfl, Nat.le_of_ble_eq_true rfl⟩ rfl rfl (Nat.le_of_ble_eq_true rfl) dX6_welcome_78 rfl (fun q8 => ?_)
          refine j_aload_n (pc' := 82) hC 1 dX6_welcome_81 rfl rfl rfl ?_
          refine j_aload_n (pc' := 83) hC 1 dX6_welcome_82 rfl rfl rfl ?_
          refine j_iload (pc' := 85) hC 0 dX6_welcome_83 rfl rfl ?_
          refine j_iconst (pc' := 86) (v := (2 : Int32)) hC dX6_welcome_85 (by decide) rfl ?_
          refine j_callV_ir (pc' := 89) (As := [.int (σ.1 1 1), .int (2 : Int32)]) (st := [.ref (d.2.1 1)]) hC (X_at_1 d _) rfl (kX6_placeOf l d A _ _ _) (jgV ml_X6_39 im_X6_placeOf se_X6_placeOf in_X6 cd_X6_placeOf) rfl rfl rfl hyV_X6_placeOf ⟨Nat.le_of_ble_eq_true rfl, Nat.le_of_ble_eq_true rfl⟩ rfl rfl (Nat.le_of_ble_eq_true rfl) dX6_welcome_86 rfl (fun q9 => ?_)
          refine j_bipush (pc' := 91) (v := (9 : Int32)) hC dX6_welcome_89 (by decide) rfl ?_
          refine j_callV_v (pc' := 94) (As := [.int q9, .int (9 : Int32)]) (st := []) hC (X_at_1 d _) rfl (kX6_setAt l d A _ _ _) (jgV ml_X6_47 im_X6_setAt se_X6_setAt in_X6 cd_X6_setAt) rfl rfl rfl hyV_X6_setAt ⟨Nat.le_of_ble_eq_true rfl, Nat.le_of_ble_eq_true rfl⟩ rfl rfl (Nat.le_of_ble_eq_true rfl) dX6_welcome_91 rfl (fun q10 => ?_)
          refine j_aload_n (pc' := 95) hC 1 dX6_welcome_94 rfl rfl rfl ?_
          refine j_aload_n (pc' := 96) hC 1 dX6_welcome_95 rfl rfl rfl ?_
          refine j_iload (pc' := 98) hC 0 dX6_welcome_96 rfl rfl ?_
          refine j_iconst (pc' := 99) (v := (3 : Int32)) hC dX6_welcome_98 (by decide) rfl ?_
          refine j_callV_ir (pc' := 102) (As := [.int (σ.1 1 1), .int (3 : Int32)]) (st := [.ref (d.2.1 1)]) hC (X_at_1 d _) rfl (kX6_placeOf l d A _ _ _) (jgV ml_X6_39 im_X6_placeOf se_X6_placeOf in_X6 cd_X6_placeOf) rfl rfl rfl hyV_X6_placeOf ⟨Nat.le_of_ble_eq_true rfl, Nat.le_of_ble_eq_true rfl⟩ rfl rfl (Nat.le_of_ble_eq_true rfl) dX6_welcome_99 rfl (fun q11 => ?_)
          refine j_iconst (pc' := 103) (v := (0 : Int32)) hC dX6_welcome_102 (by decide) rfl ?_
          refine j_callV_v (pc' := 106) (As := [.int q11, .int (0 : Int32)]) (st := []) hC (X_at_1 d _) rfl (kX6_setAt l d A _ _ _) (jgV ml_X6_47 im_X6_setAt se_X6_setAt in_X6 cd_X6_setAt) rfl rfl rfl hyV_X6_setAt ⟨Nat.le_of_ble_eq_true rfl, Nat.le_of_ble_eq_true rfl⟩ rfl rfl (Nat.le_of_ble_eq_true rfl) dX6_welcome_103 rfl (fun q12 => ?_)
          refine j_aload_n (pc' := 107) hC 1 dX6_welcome_106 rfl rfl rfl ?_
          refine j_aload_n (pc' := 108) hC 1 dX6_welcome_107 rfl rfl rfl ?_
          refine j_iload (pc' := 110) hC 0 dX6_welcome_108 rfl rfl ?_
          refine j_iconst (pc' := 111) (v := (4 : Int32)) hC dX6_welcome_110 (by decide) rfl ?_
          refine j_callV_ir (pc' := 114) (As := [.int (σ.1 1 1), .int (4 : Int32)]) (st := [.ref (d.2.1 1)]) hC (X_at_1 d _) rfl (kX6_placeOf l d A _ _ _) (jgV ml_X6_39 im_X6_placeOf se_X6_placeOf in_X6 cd_X6_placeOf) rfl rfl rfl hyV_X6_placeOf ⟨Nat.le_of_ble_eq_true rfl, Nat.le_of_ble_eq_true rfl⟩ rfl rfl (Nat.le_of_ble_eq_true rfl) dX6_welcome_111 rfl (fun q13 => ?_)
          refine j_bipush (pc' := 116) (v := (9 : Int32)) hC dX6_welcome_114 (by decide) rfl ?_
          refine j_callV_v (pc' := 119) (As := [.int q13, .int (9 : Int32)]) (st := []) hC (X_at_1 d _) rfl (kX6_setAt l d A _ _ _) (jgV ml_X6_47 im_X6_setAt se_X6_setAt in_X6 cd_X6_setAt) rfl rfl rfl hyV_X6_setAt ⟨Nat.le_of_ble_eq_true rfl, Nat.le_of_ble_eq_true rfl⟩ rfl rfl (Nat.le_of_ble_eq_true rfl) dX6_welcome_116 rfl (fun q14 => ?_)
          refine j_aload_n (pc' := 120) hC 1 dX6_welcome_119 rfl rfl rfl ?_
          refine j_aload_n (pc' := 121) hC 1 dX6_welcome_120 rfl rfl rfl ?_
          refine j_iload (pc' := 123) hC 0 dX6_welcome_121 rfl rfl ?_
          refine j_iconst (pc' := 124) (v := (5 : Int32)) hC dX6_welcome_123 (by decide) rfl ?_
          refine j_callV_ir (pc' := 127) (As := [.int (σ.1 1 1), .int (5 : Int32)]) (st := [.ref (d.2.1 1)]) hC (X_at_1 d _) rfl (kX6_placeOf l d A _ _ _) (jgV ml_X6_39 im_X6_placeOf se_X6_placeOf in_X6 cd_X6_placeOf) rfl rfl rfl hyV_X6_placeOf ⟨Nat.le_of_ble_eq_true rfl, Nat.le_of_ble_eq_true rfl⟩ rfl rfl (Nat.le_of_ble_eq_true rfl) dX6_welcome_124 rfl (fun q15 => ?_)
          refine j_iload_n (pc' := 128) hC 4 dX6_welcome_127 rfl rfl rfl ?_
          refine j_callV_v (pc' := 131) (As := [.int q15, .int p3]) (st := []) hC (X_at_1 d _) rfl (kX6_setAt l d A _ _ _) (jgV ml_X6_47 im_X6_setAt se_X6_setAt in_X6 cd_X6_setAt) rfl rfl rfl hyV_X6_setAt ⟨Nat.le_of_ble_eq_true rfl, Nat.le_of_ble_eq_true rfl⟩ rfl rfl (Nat.le_of_ble_eq_true rfl) dX6_welcome_128 rfl (fun q16 => ?_)
          refine j_iload (pc' := 133) hC 0 dX6_welcome_131 rfl rfl ?_
          exact j_ret_i hC dX6_welcome_133
        · refine j_bipush (pc' := 40) (v := (-3 : Int32)) hC dX6_welcome_38 (by decide) rfl ?_
          exact j_ret_i hC dX6_welcome_40
      · refine j_iconst (pc' := 28) (v := (-1 : Int32)) hC dX6_welcome_27 (by decide) rfl ?_
        exact j_ret_i hC dX6_welcome_28
theorem hyV_X6_waitingBehind : yX6_waitingBehind.cls = RX6 ∧ yX6_waitingBehind.cls ≠ "java/lang/invoke/MethodHandle" ∧ yX6_waitingBehind.cls ≠ "java/lang/invoke/VarHandle" ∧ (parseMethodDescriptor yX6_waitingBehind.desc).map (fun d => d.parameters.length) = some 2 := ⟨rfl, by decide +kernel, by decide +kernel, by decide +kernel⟩
noncomputable def fX6_waitingBehind_B5 (σ : jS) (p1 : Int32) (p2 : Int32) (s5 : Int32 × Int32 → Option (Int32)) (a : Int32 × Int32) : Option (Int32) :=
  (if (σ.1 1 1) ≤ a.2 then (some a.1) else (jlet (fun (a34 : Int32) => (s5 (a34, (a.2 + (1 : Int32))))) fun (j34 : (Int32 → Option (Int32))) => (if a.2 = p2 then (j34 a.1) else (Option.bind (fX6_valueOf σ a.2 (5 : Int32)) fun (q1 : Int32) => (if q1 = p1 then (j34 (a.1 + (1 : Int32))) else (j34 a.1))))))
noncomputable def fX6_waitingBehind (σ : jS) (p1 : Int32) (p2 : Int32) : Option (Int32) :=
  (jloop (fX6_waitingBehind_B5 σ p1 p2) jN ((0 : Int32), (0 : Int32)))
set_option maxRecDepth 100000 in
set_option maxHeartbeats 4000000 in
theorem kX6_waitingBehind (l : Launch) (d : jD) (A : Nat → Prop) (σ : jS) (p1 : Int32) (p2 : Int32) : jMir l yX6_waitingBehind (jws yX6_waitingBehind cX6_waitingBehind 5 (some (.int))) { frames := 5, cells := 0, slots := 0, locals := 195 } d wX A [.ref (d.2.1 1), .int p1, .int p2] σ (fX6_waitingBehind σ p1 p2) := by
  refine jStart_ir (lv0 := [(0, .ref (d.2.1 1)), (1, .int p1), (2, .int p2)]) (by decide) rfl (Nat.le_of_ble_eq_true rfl) rfl (fun z hC res => ?_)
  unfold fX6_waitingBehind
  refine j_iconst (pc' := 1) (v := (0 : Int32)) hC dX6_waitingBehind_0 (by decide) rfl ?_
  refine j_istore_n (pc' := 2) (lv' := [(3, .int (0 : Int32)), (0, .ref (d.2.1 1)), (1, .int p1), (2, .int p2)]) hC dX6_waitingBehind_1 rfl (by decide) rfl rfl ?_
  refine j_iconst (pc' := 3) (v := (0 : Int32)) hC dX6_waitingBehind_2 (by decide) rfl ?_
  refine j_istore (pc' := 5) (lv' := [(4, .int (0 : Int32)), (3, .int (0 : Int32)), (0, .ref (d.2.1 1)), (1, .int p1), (2, .int p2)]) hC dX6_waitingBehind_3 (by decide) rfl rfl ?_
  refine j_lv (lv' := [(0, .ref (d.2.1 1)), (1, .int p1), (2, .int p2), (3, .int (0 : Int32)), (4, .int (0 : Int32))]) [2, 3, 4, 1, 0] rfl ?_
  refine j_loop 5 (fun a => σ) (fun a => [(0, .ref (d.2.1 1)), (1, .int p1), (2, .int p2), (3, .int a.1), (4, .int a.2)]) (fun s5 hs5 a => ?_) jN ((0 : Int32), (0 : Int32))
  unfold fX6_waitingBehind_B5
  refine j_iload (pc' := 7) hC 4 dX6_waitingBehind_5 rfl rfl ?_
  refine j_aload_n (pc' := 8) hC 0 dX6_waitingBehind_7 rfl rfl rfl ?_
  refine j_get (pc' := 11) hC ly_X6 (X_at_1 d _) rfl 1 (by decide) fl_X6_15 rfl dX6_waitingBehind_8 rfl ?_
  refine j_icmp_ge (pc' := 14) (tgt := 40) hC dX6_waitingBehind_11 (by decide) rfl ?_ ?_
  · refine j_iload_n (pc' := 41) hC 3 dX6_waitingBehind_40 rfl rfl rfl ?_
    exact j_ret_ir hC dX6_waitingBehind_41
  · refine j_iload (pc' := 16) hC 4 dX6_waitingBehind_14 rfl rfl ?_
    refine j_iload_n (pc' := 17) hC 2 dX6_waitingBehind_16 rfl rfl rfl ?_
    refine j_let 34 (fun a34 => σ) (fun a34 => [(0, .ref (d.2.1 1)), (1, .int p1), (2, .int p2), (3, .int a34), (4, .int a.2)]) (fun a34 => []) (fun a34 => ?_) (fun j34 hj34 => ?_)
    · refine j_iinc (pc' := 37) (v := (a.2 + (1 : Int32))) (lv' := [(4, .int (a.2 + (1 : Int32))), (0, .ref (d.2.1 1)), (1, .int p1), (2, .int p2), (3, .int a34)]) hC 4 dX6_waitingBehind_34 rfl (by decide) rfl rfl rfl ?_
      refine j_goto (tgt := 5) hC dX6_waitingBehind_37 (by decide) ?_
      exact j_lv (lv' := [(0, .ref (d.2.1 1)), (1, .int p1), (2, .int p2), (3, .int a34), (4, .int (a.2 + (1 : Int32)))]) [1, 2, 3, 4, 0] rfl (hs5 (a34, (a.2 + (1 : Int32))))
    · refine j_icmp_eq (pc' := 20) (tgt := 34) hC dX6_waitingBehind_17 (by decide) rfl ?_ ?_
      · exact j_lv (lv' := [(0, .ref (d.2.1 1)), (1, .int p1), (2, .int p2), (3, .int a.1), (4, .int a.2)]) [0, 1, 2, 3, 4] rfl (hj34 a.1)
      · refine j_aload_n (pc' := 21) hC 0 dX6_waitingBehind_20 rfl rfl rfl ?_
        refine j_iload (pc' := 23) hC 4 dX6_waitingBehind_21 rfl rfl ?_
        refine j_iconst (pc' := 24) (v := (5 : Int32)) hC dX6_waitingBehind_23 (by decide) rfl ?_
        refine j_callV_ir (pc' := 27) (As := [.int a.2, .int (5 : Int32)]) (st := []) hC (X_at_1 d _) rfl (kX6_valueOf l d A _ _ _) (jgV ml_X6_51 im_X6_valueOf se_X6_valueOf in_X6 cd_X6_valueOf) rfl rfl rfl hyV_X6_valueOf ⟨Nat.le_of_ble_eq_true rfl, Nat.le_of_ble_eq_true rfl⟩ rfl rfl (Nat.le_of_ble_eq_true rfl) dX6_waitingBehind_24 rfl (fun q1 => ?_)
        refine j_iload_n (pc' := 28) hC 1 dX6_waitingBehind_27 rfl rfl rfl ?_
        refine j_icmp_ne (pc' := 31) (tgt := 34) hC dX6_waitingBehind_28 (by decide) rfl ?_ ?_
        · exact j_lv (lv' := [(0, .ref (d.2.1 1)), (1, .int p1), (2, .int p2), (3, .int a.1), (4, .int a.2)]) [0, 1, 2, 3, 4] rfl (hj34 a.1)
        · refine j_iinc (pc' := 34) (v := (a.1 + (1 : Int32))) (lv' := [(3, .int (a.1 + (1 : Int32))), (0, .ref (d.2.1 1)), (1, .int p1), (2, .int p2), (4, .int a.2)]) hC 3 dX6_waitingBehind_31 rfl (by decide) rfl rfl rfl ?_
          exact j_lv (lv' := [(0, .ref (d.2.1 1)), (1, .int p1), (2, .int p2), (3, .int (a.1 + (1 : Int32))), (4, .int a.2)]) [1, 2, 3, 0, 4] rfl (hj34 (a.1 + (1 : Int32)))
