theorem hyS_X12_in : yX12_in.cls ≠ "java/lang/invoke/MethodHandle" ∧ yX12_in.cls ≠ "java/lang/invoke/VarHandle" ∧ (parseMethodDescriptor yX12_in.desc).map (fun d => d.parameters.length) = some 3 := ⟨by decide +kernel, by decide +kernel, by decide +kernel⟩
noncomputable def fX12_in (σ : jS) (p1 : Int32) (p2 : Int32) (p3 : Int32) : Option (Int32) :=
  (if p1 < p2 then (some (0 : Int32)) else (if p3 < p1 then (some (0 : Int32)) else (some (1 : Int32))))
set_option maxRecDepth 100000 in
set_option maxHeartbeats 4000000 in
theorem kX12_in (l : Launch) (d : jD) (A : Nat → Prop) (σ : jS) (p1 : Int32) (p2 : Int32) (p3 : Int32) : jMzr l yX12_in (jws yX12_in cX12_in 3 (some (.boolean))) { frames := 2, cells := 0, slots := 0, locals := 130 } d wM A [.int p1, .int p2, .int p3] σ (fX12_in σ p1 p2 p3) := by
  refine jStart_zr (lv0 := [(0, .int p1), (1, .int p2), (2, .int p3)]) (by decide) rfl (Nat.le_of_ble_eq_true rfl) rfl (fun z hC res => ?_)
  unfold fX12_in
  refine j_iload_n (pc' := 1) hC 0 dX12_in_0 rfl rfl rfl ?_
  refine j_iload_n (pc' := 2) hC 1 dX12_in_1 rfl rfl rfl ?_
  refine j_icmp_lt (pc' := 5) (tgt := 14) hC dX12_in_2 (by decide) rfl ?_ ?_
  · refine j_iconst (pc' := 15) (v := (0 : Int32)) hC dX12_in_14 (by decide) rfl ?_
    exact j_ret_zr hC (by decide) dX12_in_15
  · refine j_iload_n (pc' := 6) hC 0 dX12_in_5 rfl rfl rfl ?_
    refine j_iload_n (pc' := 7) hC 2 dX12_in_6 rfl rfl rfl ?_
    refine j_icmp_gt (pc' := 10) (tgt := 14) hC dX12_in_7 (by decide) rfl ?_ ?_
    · refine j_iconst (pc' := 15) (v := (0 : Int32)) hC dX12_in_14 (by decide) rfl ?_
      exact j_ret_zr hC (by decide) dX12_in_15
    · refine j_iconst (pc' := 11) (v := (1 : Int32)) hC dX12_in_10 (by decide) rfl ?_
      refine j_goto (tgt := 15) hC dX12_in_11 (by decide) ?_
      exact j_ret_zr hC (by decide) dX12_in_15
theorem hyV_X12_isChild : yX12_isChild.cls = RX12 ∧ yX12_isChild.cls ≠ "java/lang/invoke/MethodHandle" ∧ yX12_isChild.cls ≠ "java/lang/invoke/VarHandle" ∧ (parseMethodDescriptor yX12_isChild.desc).map (fun d => d.parameters.length) = some 1 := ⟨rfl, by decide +kernel, by decide +kernel, by decide +kernel⟩
noncomputable def fX12_isChild (σ : jS) (p1 : Int32) : Option (Int32) :=
  (Option.bind (fX12_in σ p1 (0 : Int32) ((σ.1 0 2) - (1 : Int32))) fun (q1 : Int32) => (some q1))
set_option maxRecDepth 100000 in
set_option maxHeartbeats 4000000 in
theorem kX12_isChild (l : Launch) (d : jD) (A : Nat → Prop) (σ : jS) (p1 : Int32) : jMzr l yX12_isChild (jws yX12_isChild cX12_isChild 2 (some (.boolean))) { frames := 3, cells := 0, slots := 0, locals := 152 } d wM A [.ref (d.2.1 0), .int p1] σ (fX12_isChild σ p1) := by
  refine jStart_zr (lv0 := [(0, .ref (d.2.1 0)), (1, .int p1)]) (by decide) rfl (Nat.le_of_ble_eq_true rfl) rfl (fun z hC res => ?_)
  unfold fX12_isChild
  refine j_iload_n (pc' := 1) hC 1 dX12_isChild_0 rfl rfl rfl ?_
  refine j_iconst (pc' := 2) (v := (0 : Int32)) hC dX12_isChild_1 (by decide) rfl ?_
  refine j_aload_n (pc' := 3) hC 0 dX12_isChild_2 rfl rfl rfl ?_
  refine j_get (pc' := 6) hC ly_X12 (M_at_0 d _) rfl 2 (by decide) fl_X12_125 rfl dX12_isChild_3 rfl ?_
  refine j_iconst (pc' := 7) (v := (1 : Int32)) hC dX12_isChild_6 (by decide) rfl ?_
  refine j_isub (pc' := 8) hC dX12_isChild_7 rfl ?_
  refine j_callS_zr (pc' := 11) (As := [.int p1, .int (0 : Int32), .int ((σ.1 0 2) - (1 : Int32))]) (st := []) hC (kX12_in l d A _ _ _ _) (jgS ml_X12_128 st_X12_in in_X12 cd_X12_in) rfl rfl rfl hyS_X12_in ⟨Nat.le_of_ble_eq_true rfl, Nat.le_of_ble_eq_true rfl⟩ rfl rfl (Nat.le_of_ble_eq_true rfl) dX12_isChild_8 rfl (fun q1 => ?_)
  exact j_ret_zr hC rfl dX12_isChild_11
theorem hyS_X12_isSwing : yX12_isSwing.cls ≠ "java/lang/invoke/MethodHandle" ∧ yX12_isSwing.cls ≠ "java/lang/invoke/VarHandle" ∧ (parseMethodDescriptor yX12_isSwing.desc).map (fun d => d.parameters.length) = some 1 := ⟨by decide +kernel, by decide +kernel, by decide +kernel⟩
noncomputable def fX12_isSwing (σ : jS) (p1 : Int32) : Option (Int32) :=
  (Option.bind (fX12_in σ p1 (0 : Int32) (2 : Int32)) fun (q1 : Int32) => (some q1))
set_option maxRecDepth 100000 in
set_option maxHeartbeats 4000000 in
theorem kX12_isSwing (l : Launch) (d : jD) (A : Nat → Prop) (σ : jS) (p1 : Int32) : jMzr l yX12_isSwing (jws yX12_isSwing cX12_isSwing 1 (some (.boolean))) { frames := 3, cells := 0, slots := 0, locals := 152 } d wM A [.int p1] σ (fX12_isSwing σ p1) := by
  refine jStart_zr (lv0 := [(0, .int p1)]) (by decide) rfl (Nat.le_of_ble_eq_true rfl) rfl (fun z hC res => ?_)
  unfold fX12_isSwing
  refine j_iload_n (pc' := 1) hC 0 dX12_isSwing_0 rfl rfl rfl ?_
  refine j_iconst (pc' := 2) (v := (0 : Int32)) hC dX12_isSwing_1 (by decide) rfl ?_
  refine j_iconst (pc' := 3) (v := (2 : Int32)) hC dX12_isSwing_2 (by decide) rfl ?_
  refine j_callS_zr (pc' := 6) (As := [.int p1, .int (0 : Int32), .int (2 : Int32)]) (st := []) hC (kX12_in l d A _ _ _ _) (jgS ml_X12_128 st_X12_in in_X12 cd_X12_in) rfl rfl rfl hyS_X12_in ⟨Nat.le_of_ble_eq_true rfl, Nat.le_of_ble_eq_true rfl⟩ rfl rfl (Nat.le_of_ble_eq_true rfl) dX12_isSwing_3 rfl (fun q1 => ?_)
  exact j_ret_zr hC rfl dX12_isSwing_6
theorem hyV_X12_addChild : yX12_addChild.cls = RX12 ∧ yX12_addChild.cls ≠ "java/lang/invoke/MethodHandle" ∧ yX12_addChild.cls ≠ "java/lang/invoke/VarHandle" ∧ (parseMethodDescriptor yX12_addChild.desc).map (fun d => d.parameters.length) = some 3 := ⟨rfl, by decide +kernel, by decide +kernel, by decide +kernel⟩
noncomputable def fX12_addChild (σ : jS) (p1 : Int32) (p2 : Int32) (p3 : Int32) : Option (Int32 × jS) :=
  (ob (σ.1 0 2) 9 (jst (ju σ 2 ((σ.1 0 2)).toNatClampNeg p1) fun (σ1 : jS) => (ob (σ1.1 0 2) 9 (jst (ju σ1 3 ((σ1.1 0 2)).toNatClampNeg p2) fun (σ2 : jS) => (ob (σ2.1 0 2) 9 (jst (ju σ2 4 ((σ2.1 0 2)).toNatClampNeg (9 : Int32)) fun (σ3 : jS) => (ob (σ3.1 0 2) 9 (jst (ju σ3 5 ((σ3.1 0 2)).toNatClampNeg (0 : Int32)) fun (σ4 : jS) => (ob (σ4.1 0 2) 9 (jst (ju σ4 6 ((σ4.1 0 2)).toNatClampNeg (9 : Int32)) fun (σ5 : jS) => (ob (σ5.1 0 2) 9 (jst (ju σ5 7 ((σ5.1 0 2)).toNatClampNeg p3) fun (σ6 : jS) => (jst (ju σ6 0 2 ((σ6.1 0 2) + (1 : Int32))) fun (σ7 : jS) => (some (((σ7.1 0 2) - (1 : Int32)), σ7)))))))))))))))
set_option maxRecDepth 100000 in
set_option maxHeartbeats 4000000 in
theorem kX12_addChild (l : Launch) (d : jD) (A : Nat → Prop) (σ : jS) (p1 : Int32) (p2 : Int32) (p3 : Int32) : jMi l yX12_addChild (jws yX12_addChild cX12_addChild 4 (some (.int))) { frames := 2, cells := 0, slots := 0, locals := 130 } d wM A [.ref (d.2.1 0), .int p1, .int p2, .int p3] σ (fX12_addChild σ p1 p2 p3) := by
  refine jStart_i (lv0 := [(0, .ref (d.2.1 0)), (1, .int p1), (2, .int p2), (3, .int p3)]) (by decide) rfl (Nat.le_of_ble_eq_true rfl) rfl (fun z hC res => ?_)
  unfold fX12_addChild
  refine j_aload_n (pc' := 1) hC 0 dX12_addChild_0 rfl rfl rfl ?_
  refine j_get (pc' := 4) hC ly_X12 (M_at_0 d _) rfl 3 (by decide) fl_X12_13 rfl dX12_addChild_1 rfl ?_
  refine j_aload_n (pc' := 5) hC 0 dX12_addChild_4 rfl rfl rfl ?_
  refine j_get (pc' := 8) hC ly_X12 (M_at_0 d _) rfl 2 (by decide) fl_X12_125 rfl dX12_addChild_5 rfl ?_
  refine j_iload_n (pc' := 9) hC 1 dX12_addChild_8 rfl rfl rfl ?_
  refine j_iast (pc' := 10) hC (M_at_2 d _) (M_sa_2 d _ _) dX12_addChild_9 rfl ?_
  refine j_st (fun σ1 => ?_)
  refine j_aload_n (pc' := 11) hC 0 dX12_addChild_10 rfl rfl rfl ?_
  refine j_get (pc' := 14) hC ly_X12 (M_at_0 d _) rfl 4 (by decide) fl_X12_16 rfl dX12_addChild_11 rfl ?_
  refine j_aload_n (pc' := 15) hC 0 dX12_addChild_14 rfl rfl rfl ?_
  refine j_get (pc' := 18) hC ly_X12 (M_at_0 d _) rfl 2 (by decide) fl_X12_125 rfl dX12_addChild_15 rfl ?_
  refine j_iload_n (pc' := 19) hC 2 dX12_addChild_18 rfl rfl rfl ?_
  refine j_iast (pc' := 20) hC (M_at_3 d _) (M_sa_3 d _ _) dX12_addChild_19 rfl ?_
  refine j_st (fun σ2 => ?_)
  refine j_aload_n (pc' := 21) hC 0 dX12_addChild_20 rfl rfl rfl ?_
  refine j_get (pc' := 24) hC ly_X12 (M_at_0 d _) rfl 5 (by decide) fl_X12_19 rfl dX12_addChild_21 rfl ?_
  refine j_aload_n (pc' := 25) hC 0 dX12_addChild_24 rfl rfl rfl ?_
  refine j_get (pc' := 28) hC ly_X12 (M_at_0 d _) rfl 2 (by decide) fl_X12_125 rfl dX12_addChild_25 rfl ?_
  refine j_bipush (pc' := 30) (v := (9 : Int32)) hC dX12_addChild_28 (by decide) rfl ?_
  refine j_iast (pc' := 31) hC (M_at_4 d _) (M_sa_4 d _ _) dX12_addChild_30 rfl ?_
  refine j_st (fun σ3 => ?_)
  refine j_aload_n (pc' := 32) hC 0 dX12_addChild_31 rfl rfl rfl ?_
  refine j_get (pc' := 35) hC ly_X12 (M_at_0 d _) rfl 6 (by decide) fl_X12_22 rfl dX12_addChild_32 rfl ?_
  refine j_aload_n (pc' := 36) hC 0 dX12_addChild_35 rfl rfl rfl ?_
  refine j_get (pc' := 39) hC ly_X12 (M_at_0 d _) rfl 2 (by decide) fl_X12_125 rfl dX12_addChild_36 rfl ?_
  refine j_iconst (pc' := 40) (v := (0 : Int32)) hC dX12_addChild_39 (by decide) rfl ?_
  refine j_iast (pc' := 41) hC (M_at_5 d _) (M_sa_5 d _ _) dX12_addChild_40 rfl ?_
  refine j_st (fun σ4 => ?_)
  refine j_aload_n (pc' := 42) hC 0 dX12_addChild_41 rfl rfl rfl ?_
  refine j_get (pc' := 45) hC ly_X12 (M_at_0 d _) rfl 7 (by decide) fl_X12_25 rfl dX12_addChild_42 rfl ?_
  refine j_aload_n (pc' := 46) hC 0 dX12_addChild_45 rfl rfl rfl ?_
  refine j_get (pc' := 49) hC ly_X12 (M_at_0 d _) rfl 2 (by decide) fl_X12_125 rfl dX12_addChild_46 rfl ?_
  refine j_bipush (pc' := 51) (v := (9 : Int32)) hC dX12_addChild_49 (by decide) rfl ?_
  refine j_iast (pc' := 52) hC (M_at_6 d _) (M_sa_6 d _ _) dX12_addChild_51 rfl ?_
  refine j_st (fun σ5 => ?_)
  refine j_aload_n (pc' := 53) hC 0 dX12_addChild_52 rfl rfl rfl ?_
  refine j_get (pc' := 56) hC ly_X12 (M_at_0 d _) rfl 8 (by decide) fl_X12_28 rfl dX12_addChild_53 rfl ?_
  refine j_aload_n (pc' := 57) hC 0 dX12_addChild_56 rfl rfl rfl ?_
  refine j_get (pc' := 60) hC ly_X12 (M_at_0 d _) rfl 2 (by decide) fl_X12_125 rfl dX12_addChild_57 rfl ?_
  refine j_iload_n (pc' := 61) hC 3 dX12_addChild_60 rfl rfl rfl ?_
  refine j_iast (pc' := 62) hC (M_at_7 d _) (M_sa_7 d _ _) dX12_addChild_61 rfl ?_
  refine j_st (fun σ6 => ?_)
  refine j_aload_n (pc' := 63) hC 0 dX12_addChild_62 rfl rfl rfl ?_
  refine j_dup (pc' := 64) hC rfl dX12_addChild_63 rfl ?_
  refine j_get (pc' := 67) hC ly_X12 (M_at_0 d _) rfl 2 (by decide) fl_X12_125 rfl dX12_addChild_64 rfl ?_
  refine j_iconst (pc' := 68) (v := (1 : Int32)) hC dX12_addChild_67 (by decide) rfl ?_
  refine j_iadd (pc' := 69) hC dX12_addChild_68 rfl ?_
  refine j_put (pc' := 72) hC ly_X12 tyX12 tyX12_ok nmX12 (M_at_0 d _) rfl 2 (by decide) fl_X12_125 rfl rfl rfl rfl (Nat.le_of_ble_eq_true rfl) (M_sf_0_2 d _ _) dX12_addChild_69 rfl ?_
  refine j_st (fun σ7 => ?_)
  refine j_aload_n (pc' := 73) hC 0 dX12_addChild_72 rfl rfl rfl ?_
  refine j_get (pc' := 76) hC ly_X12 (M_at_0 d _) rfl 2 (by decide) fl_X12_125 rfl dX12_addChild_73 rfl ?_
  refine j_iconst (pc' := 77) (v := (1 : Int32)) hC dX12_addChild_76 (by decide) rfl ?_
  refine j_isub (pc' := 78) hC dX12_addChild_77 rfl ?_
  exact j_ret_i hC dX12_addChild_78
theorem hyV_X12_child : yX12_child.cls = RX12 ∧ yX12_child.cls ≠ "java/lang/invoke/MethodHandle" ∧ yX12_child.cls ≠ "java/lang/invoke/VarHandle" ∧ (parseMethodDescriptor yX12_child.desc).map (fun d => d.parameters.length) = some 2 := ⟨rfl, by decide +kernel, by decide +kernel, by decide +kernel⟩
noncomputable def fX12_child (σ : jS) (p1 : Int32) (p2 : Int32) : Option (Int32 × jS) :=
  (if p1 < 0 then (some ((-1 : Int32), σ)) else (Option.bind (fX12_in σ (p1 / (10 : Int32)) (1 : Int32) (9 : Int32)) fun (q1 : Int32) => (if (jb q1) = 0 then (some ((-1 : Int32), σ)) else (if (3 : Int32) < (p1 - p1 / (10 : Int32) * (10 : Int32)) then (some ((-1 : Int32), σ)) else (Option.bind (fX12_in σ p2 (0 : Int32) (3 : Int32)) fun (q2 : Int32) => (if (jb q2) = 0 then (some ((-1 : Int32), σ)) else (if (σ.1 0 2) = (9 : Int32) then (some ((-3 : Int32), σ)) else (Option.bind (fX12_addChild σ (p1 / (10 : Int32)) (p1 - p1 / (10 : Int32) * (10 : Int32)) p2) fun (q3 : (Int32 × jS)) => (some (q3.1, q3.2))))))))))
set_option maxRecDepth 100000 in
set_option maxHeartbeats 4000000 in
theorem kX12_child (l : Launch) (d : jD) (A : Nat → Prop) (σ : jS) (p1 : Int32) (p2 : Int32) : jMi l yX12_child (jws yX12_child cX12_child 3 (some (.int))) { frames := 3, cells := 0, slots := 0, locals := 153 } d wM A [.ref (d.2.1 0), .int p1, .int p2] σ (fX12_child σ p1 p2) := by
  refine jStart_i (lv0 := [(0, .ref (d.2.1 0)), (1, .int p1), (2, .int p2)]) (by decide) rfl (Nat.le_of_ble_eq_true rfl) rfl (fun z hC res => ?_)
  unfold fX12_child
  refine j_iload_n (pc' := 1) hC 1 dX12_child_0 rfl rfl rfl ?_
  refine j_if_lt (pc' := 4) (tgt := 34) hC dX12_child_1 (by decide) rfl ?_ ?_
  · refine j_iconst (pc' := 35) (v := (-1 : Int32)) hC dX12_child_34 (by decide) rfl ?_
    exact j_ret_i hC dX12_child_35
  · refine j_iload_n (pc' := 5) hC 1 dX12_child_4 rfl rfl rfl ?_
    refine j_bipush (pc' := 7) (v := (10 : Int32)) hC dX12_child_5 (by decide) rfl ?_
    refine j_idiv0 (pc' := 8) hC dX12_child_7 (by decide) rfl ?_
    refine j_iconst (pc' := 9) (v := (1 : Int32)) hC dX12_child_8 (by decide) rfl ?_
    refine j_bipush (pc' := 11) (v := (9 : Int32)) hC dX12_child_9 (by decide) rfl ?_
    refine j_callS_zr (pc' := 14) (As := [.int (p1 / (10 : Int32)), .int (1 : Int32), .int (9 : Int32)]) (st := []) hC (kX12_in l d A _ _ _ _) (jgS ml_X12_128 st_X12_in in_X12 cd_X12_in) rfl rfl rfl hyS_X12_in ⟨Nat.le_of_ble_eq_true rfl, Nat.le_of_ble_eq_true rfl⟩ rfl rfl (Nat.le_of_ble_eq_true rfl) dX12_child_11 rfl (fun q1 => ?_)
    refine j_if_eq (pc' := 17) (tgt := 34) hC dX12_child_14 (by decide) rfl ?_ ?_
    · refine j_iconst (pc' := 35) (v := (-1 : Int32)) hC dX12_child_34 (by decide) rfl ?_
      exact j_ret_i hC dX12_child_35
    · refine j_iload_n (pc' := 18) hC 1 dX12_child_17 rfl rfl rfl ?_
      refine j_bipush (pc' := 20) (v := (10 : Int32)) hC dX12_child_18 (by decide) rfl ?_
      refine j_irem0 (pc' := 21) hC dX12_child_20 (by decide) rfl ?_
      refine j_iconst (pc' := 22) (v := (3 : Int32)) hC dX12_child_21 (by decide) rfl ?_
      refine j_icmp_gt (pc' := 25) (tgt := 34) hC dX12_child_22 (by decide) rfl ?_ ?_
      · refine j_iconst (pc' := 35) (v := (-1 : Int32)) hC dX12_child_34 (by decide) rfl ?_
        exact j_ret_i hC dX12_child_35
      · refine j_iload_n (pc' := 26) hC 2 dX12_child_25 rfl rfl rfl ?_
        refine j_iconst (pc' := 27) (v := (0 : Int32)) hC dX12_child_26 (by decide) rfl ?_
        refine j_iconst (pc' := 28) (v := (3 : Int32)) hC dX12_child_27 (by decide) rfl ?_
        refine j_callS_zr (pc' := 31) (As := [.int p2, .int (0 : Int32), .int (3 : Int32)]) (st := []) hC (kX12_in l d A _ _ _ _) (jgS ml_X12_128 st_X12_in in_X12 cd_X12_in) rfl rfl rfl hyS_X12_in ⟨Nat.le_of_ble_eq_true rfl, Nat.le_of_ble_eq_true rfl⟩ rfl rfl (Nat.le_of_ble_eq_true rfl) dX12_child_28 rfl (fun q2 => ?_)
        refine j_if_ne (pc' := 34) (tgt := 36) hC dX12_child_31 (by decide) rfl ?_ ?_
        · refine j_aload_n (pc' := 37) hC 0 dX12_child_36 rfl rfl rfl ?_
          refine j_get (pc' := 40) hC ly_X12 (M_at_0 d _) rfl 2 (by decide) fl_X12_125 rfl dX12_child_37 rfl ?_
          refine j_bipush (pc' := 42) (v := (9 : Int32)) hC dX12_child_40 (by decide) rfl ?_
          refine j_icmp_ne (pc' := 45) (tgt := 50) hC dX12_child_42 (by decide) rfl ?_ ?_
          · refine j_aload_n (pc' := 51) hC 0 dX12_child_50 rfl rfl rfl ?_
            refine j_iload_n (pc' := 52) hC 1 dX12_child_51 rfl rfl rfl ?_
            refine j_bipush (pc' := 54) (v := (10 : Int32)) hC dX12_child_52 (by decide) rfl ?_
            refine j_idiv0 (pc' := 55) hC dX12_child_54 (by decide) rfl ?_
            refine j_iload_n (pc' := 56) hC 1 dX12_child_55 rfl rfl rfl ?_
            refine j_bipush (pc' := 58) (v := (10 : Int32)) hC dX12_child_56 (by decide) rfl ?_
            refine j_irem0 (pc' := 59) hC dX12_child_58 (by decide) rfl ?_
            refine j_iload_n (pc' := 60) hC 2 dX12_child_59 rfl rfl rfl ?_
            refine j_callV_i (pc' := 63) (As := [.int (p1 / (10 : Int32)), .int (p1 - p1 / (10 : Int32) * (10 : Int32)), .int p2]) (st := []) hC (M_at_0 d _) rfl (kX12_addChild l d A _ _ _ _) (jgV ml_X12_132 im_X12_addChild se_X12_addChild in_X12 cd_X12_addChild) rfl rfl rfl hyV_X12_addChild ⟨Nat.le_of_ble_eq_true rfl, Nat.le_of_ble_eq_true rfl⟩ rfl rfl (Nat.le_of_ble_eq_true rfl) dX12_child_60 rfl (fun q3 => ?_)
            exact j_ret_i hC dX12_child_63
          · refine j_bipush (pc' := 47) (v := (-3 : Int32)) hC dX12_child_45 (by decide) rfl ?_
            refine j_goto (tgt := 63) hC dX12_child_47 (by decide) ?_
            exact j_ret_i hC dX12_child_63
        · refine j_iconst (pc' := 35) (v := (-1 : Int32)) hC dX12_child_34 (by decide) rfl ?_
          exact j_ret_i hC dX12_child_35
theorem hyS_X12_isShelf : yX12_isShelf.cls ≠ "java/lang/invoke/MethodHandle" ∧ yX12_isShelf.cls ≠ "java/lang/invoke/VarHandle" ∧ (parseMethodDescriptor yX12_isShelf.desc).map (fun d => d.parameters.length) = some 1 := ⟨by decide +kernel, by decide +kernel, by decide +kernel⟩
noncomputable def fX12_isShelf (σ : jS) (p1 : Int32) : Option (Int32) :=
  (Option.bind (fX12_in σ p1 (0 : Int32) (5 : Int32)) fun (q1 : Int32) => (some q1))
set_option maxRecDepth 100000 in
set_option maxHeartbeats 4000000 in
theorem kX12_isShelf (l : Launch) (d : jD) (A : Nat → Prop) (σ : jS) (p1 : Int32) : jMzr l yX12_isShelf (jws yX12_isShelf cX12_isShelf 1 (some (.boolean))) { frames := 3, cells := 0, slots := 0, locals := 152 } d wM A [.int p1] σ (fX12_isShelf σ p1) := by
  refine jStart_zr (lv0 := [(0, .int p1)]) (by decide) rfl (Nat.le_of_ble_eq_true rfl) rfl (fun z hC res => ?_)
  unfold fX12_isShelf
  refine j_iload_n (pc' := 1) hC 0 dX12_isShelf_0 rfl rfl rfl ?_
  refine j_iconst (pc' := 2) (v := (0 : Int32)) hC dX12_isShelf_1 (by decide) rfl ?_
  refine j_iconst (pc' := 3) (v := (5 : Int32)) hC dX12_isShelf_2 (by decide) rfl ?_
  refine j_callS_zr (pc' := 6) (As := [.int p1, .int (0 : Int32), .int (5 : Int32)]) (st := []) hC (kX12_in l d A _ _ _ _) (jgS ml_X12_128 st_X12_in in_X12 cd_X12_in) rfl rfl rfl hyS_X12_in ⟨Nat.le_of_ble_eq_true rfl, Nat.le_of_ble_eq_true rfl⟩ rfl rfl (Nat.le_of_ble_eq_true rfl) dX12_isShelf_3 rfl (fun q1 => ?_)
  exact j_ret_zr hC rfl dX12_isShelf_6
theorem hyV_X12_children : yX12_children.cls = RX12 ∧ yX12_children.cls ≠ "java/lang/invoke/MethodHandle" ∧ yX12_children.cls ≠ "java/lang/invoke/VarHandle" ∧ (parseMethodDescriptor yX12_children.desc).map (fun d => d.parameters.length) = some 3 := ⟨rfl, by decide +kernel, by decide +kernel, by decide +kernel⟩
noncomputable def fX12_children_B58 (p1 : Int32) (p2 : Int32) (p3 : Int32) (s58 : jS × Int32 → Option (Int32 × jS)) (a : jS × Int32) : Option (Int32 × jS) :=
  (if p3 ≤ a.2 then (some (p3, a.1)) else (if (lg_cmp ((p2.toInt64) + (((3 : Int32) * a.2).toInt64)) (0 : Int64)) < 0 then (some (a.2, a.1)) else (ob p1 6 (if 0 ≤ (lg_cmp (((p2.toInt64) + (((3 : Int32) * a.2).toInt64)) + (2 : Int64)) ((a.1.1 32 (p1).toNatClampNeg).toInt64)) then (some (a.2, a.1)) else (if (a.1.1 0 2) = (9 : Int32) then (some (a.2, a.1)) else (jst (((60 : Int32) * p1) + (((p2.toInt64) + (((3 : Int32) * a.2).toInt64)).toInt32)) fun (y3 : Int32) => (ob y3 360 (Option.bind (fX12_in a.1 ((a.1.2 33 (y3).toNatClampNeg).toInt32) (1 : Int32) (9 : Int32)) fun (q4 : Int32) => (if (jb q4) = 0 then (some (a.2, a.1)) else (ob (y3 + (1 : Int32)) 360 (Option.bind (fX12_in a.1 ((a.1.2 33 ((y3 + (1 : Int32))).toNatClampNeg).toInt32) (0 : Int32) (3 : Int32)) fun (q5 : Int32) => (if (jb q5) = 0 then (some (a.2, a.1)) else (ob (y3 + (2 : Int32)) 360 (Option.bind (fX12_in a.1 ((a.1.2 33 ((y3 + (2 : Int32))).toNatClampNeg).toInt32) (0 : Int32) (3 : Int32)) fun (q6 : Int32) => (if (jb q6) = 0 then (some (a.2, a.1)) else (ob y3 360 (ob (y3 + (1 : Int32)) 360 (ob (y3 + (2 : Int32)) 360 (Option.bind (fX12_addChild a.1 ((a.1.2 33 (y3).toNatClampNeg).toInt32) ((a.1.2 33 ((y3 + (1 : Int32))).toNatClampNeg).toInt32) ((a.1.2 33 ((y3 + (2 : Int32))).toNatClampNeg).toInt32)) fun (q7 : (Int32 × jS)) => (s58 (q7.2, (a.2 + (1 : Int32)))))))))))))))))))))))
noncomputable def fX12_children (σ : jS) (p1 : Int32) (p2 : Int32) (p3 : Int32) : Option (Int32 × jS) :=
  (Option.bind (fX12_isShelf σ p1) fun (q1 : Int32) => (if (jb q1) = 0 then (some ((-1 : Int32), σ)) else (Option.bind (fX12_in σ p3 (1 : Int32) (9 : Int32)) fun (q2 : Int32) => (if (jb q2) = 0 then (some ((-1 : Int32), σ)) else (ob p1 6 (jlet (fun (a43 : Unit) => (ob p1 6 (if (σ.1 31 (p1).toNatClampNeg) = (-1 : Int32) then (some ((0 : Int32), σ)) else (jloop (fX12_children_B58 p1 p2 p3) jN (σ, (0 : Int32)))))) fun (j43 : (Unit → Option (Int32 × jS))) => (if (σ.1 31 (p1).toNatClampNeg) = (-1 : Int32) then (j43 ()) else (ob p1 6 (if (σ.1 31 (p1).toNatClampNeg) = (-2 : Int32) then (j43 ()) else (some ((-12 : Int32), σ)))))))))))
set_option maxRecDepth 100000 in
set_option maxHeartbeats 4000000 in
theorem kX12_children (l : Launch) (d : jD) (A : Nat → Prop) (σ : jS) (p1 : Int32) (p2 : Int32) (p3 : Int32) : jMi l yX12_children (jws yX12_children cX12_children 8 (some (.int))) { frames := 4, cells := 0, slots := 0, locals := 172 } d wM A [.ref (d.2.1 0), .int p1, .int p2, .int p3] σ (fX12_children σ p1 p2 p3) := by
  refine jStart_i (lv0 := [(0, .ref (d.2.1 0)), (1, .int p1), (2, .int p2), (3, .int p3)]) (by decide) rfl (Nat.le_of_ble_eq_true rfl) rfl (fun z hC res => ?_)
  unfold fX12_children
  refine j_iload_n (pc' := 1) hC 1 dX12_children_0 rfl rfl rfl ?_
  refine j_callS_zr (pc' := 4) (As := [.int p1]) (st := []) hC (kX12_isShelf l d A _ _) (jgS ml_X12_136 st_X12_isShelf in_X12 cd_X12_isShelf) rfl rfl rfl hyS_X12_isShelf ⟨Nat.le_of_ble_eq_true rfl, Nat.le_of_ble_eq_true rfl⟩ rfl rfl (Nat.le_of_ble_eq_true rfl) dX12_children_1 rfl (fun q1 => ?_)
  refine j_if_eq (pc' := 7) (tgt := 17) hC dX12_children_4 (by decide) rfl ?_ ?_
  · refine j_iconst (pc' := 18) (v := (-1 : Int32)) hC dX12_children_17 (by decide) rfl ?_
    exact j_ret_i hC dX12_children_18
  · refine j_iload_n (pc' := 8) hC 3 dX12_children_7 rfl rfl rfl ?_
    refine j_iconst (pc' := 9) (v := (1 : Int32)) hC dX12_children_8 (by decide) rfl ?_
    refine j_bipush (pc' := 11) (v := (9 : Int32)) hC dX12_children_9 (by decide) rfl ?_
    refine j_callS_zr (pc' := 14) (As := [.int p3, .int (1 : Int32), .int (9 : Int32)]) (st := []) hC (kX12_in l d A _ _ _ _) (jgS ml_X12_128 st_X12_in in_X12 cd_X12_in) rfl rfl rfl hyS_X12_in ⟨Nat.le_of_ble_eq_true rfl, Nat.le_of_ble_eq_true rfl⟩ rfl rfl (Nat.le_of_ble_eq_true rfl) dX12_children_11 rfl (fun q2 => ?_)
    refine j_if_ne (pc' := 17) (tgt := 19) hC dX12_children_14 (by decide) rfl ?_ ?_
    · refine j_aload_n (pc' := 20) hC 0 dX12_children_19 rfl rfl rfl ?_
      refine j_get (pc' := 23) hC ly_X12 (M_at_0 d _) rfl 53 (by decide) fl_X12_109 rfl dX12_children_20 rfl ?_
      refine j_iload_n (pc' := 24) hC 1 dX12_children_23 rfl rfl rfl ?_
      refine j_iald (pc' := 25) hC (M_at_31 d _) dX12_children_24 rfl ?_
      refine j_iconst (pc' := 26) (v := (-1 : Int32)) hC dX12_children_25 (by decide) rfl ?_
      refine j_let 43 (fun a43 => σ) (fun a43 => [(0, .ref (d.2.1 0)), (1, .int p1), (2, .int p2), (3, .int p3)]) (fun a43 => []) (fun a43 => ?_) (fun j43 hj43 => ?_)
      · refine j_aload_n (pc' := 44) hC 0 dX12_children_43 rfl rfl rfl ?_
        refine j_get (pc' := 47) hC ly_X12 (M_at_0 d _) rfl 53 (by decide) fl_X12_109 rfl dX12_children_44 rfl ?_
        refine j_iload_n (pc' := 48) hC 1 dX12_children_47 rfl rfl rfl ?_
        refine j_iald (pc' := 49) hC (M_at_31 d _) dX12_children_48 rfl ?_
        refine j_iconst (pc' := 50) (v := (-1 : Int32)) hC dX12_children_49 (by decide) rfl ?_
        refine j_icmp_ne (pc' := 53) (tgt := 55) hC dX12_children_50 (by decide) rfl ?_ ?_
        · refine j_iconst (pc' := 56) (v := (0 : Int32)) hC dX12_children_55 (by decide) rfl ?_
          refine j_istore (pc' := 58) (lv' := [(4, .int (0 : Int32)), (0, .ref (d.2.1 0)), (1, .int p1), (2, .int p2), (3, .int p3)]) hC dX12_children_56 (by decide) rfl rfl ?_
          refine j_lv (lv' := [(0, .ref (d.2.1 0)), (1, .int p1), (2, .int p2), (3, .int p3), (4, .int (0 : Int32))]) [1, 2, 3, 4, 0] rfl ?_
          refine j_loop 58 (fun a => a.1) (fun a => [(0, .ref (d.2.1 0)), (1, .int p1), (2, .int p2), (3, .int p3), (4, .int a.2)]) (fun s58 hs58 a => ?_) jN (σ, (0 : Int32))
          unfold fX12_children_B58
          refine j_iload (pc' := 60) hC 4 dX12_children_58 rfl rfl ?_
          refine j_iload_n (pc' := 61) hC 3 dX12_children_60 rfl rfl rfl ?_
          refine j_icmp_ge (pc' := 64) (tgt := 215) hC dX12_children_61 (by decide) rfl ?_ ?_
          · refine j_iload_n (pc' := 216) hC 3 dX12_children_215 rfl rfl rfl ?_
            exact j_ret_i hC dX12_children_216
          · refine j_iload_n (pc' := 65) hC 2 dX12_children_64 rfl rfl rfl ?_
            refine j_i2l (pc' := 66) hC dX12_children_65 rfl ?_
            refine j_iconst (pc' := 67) (v := (3 : Int32)) hC dX12_children_66 (by decide) rfl ?_
            refine j_iload (pc' := 69) hC 4 dX12_children_67 rfl rfl ?_
            refine j_imul (pc' := 70) hC dX12_children_69 rfl ?_
            refine j_i2l (pc' := 71) hC dX12_children_70 rfl ?_
            refine j_ladd (pc' := 72) hC dX12_children_71 rfl ?_
            refine j_lstore (pc' := 74) (lv' := [(5, .long ((p2.toInt64) + (((3 : Int32) * a.2).toInt64))), (0, .ref (d.2.1 0)), (1, .int p1), (2, .int p2), (3, .int p3), (4, .int a.2)]) hC dX12_children_72 (by decide) rfl rfl ?_
            refine j_lload (pc' := 76) hC 0 dX12_children_74 rfl rfl ?_
            refine j_lconst (pc' := 77) (v := (0 : Int64)) hC dX12_children_76 (by decide) rfl ?_
            refine j_lcmp (pc' := 78) hC dX12_children_77 rfl ?_
            refine j_if_lt (pc' := 81) (tgt := 107) hC dX12_children_78 (by decide) rfl ?_ ?_
            · refine j_iload (pc' := 109) hC 5 dX12_children_107 rfl rfl ?_
              exact j_ret_i hC dX12_children_109
            · refine j_lload (pc' := 83) hC 0 dX12_children_81 rfl rfl ?_
              refine j_ldc2 (pc' := 86) (v := (2 : Int64)) hC dX12_children_83 ct_X12_140 rfl ?_
              refine j_ladd (pc' := 87) hC dX12_children_86 rfl ?_
              refine j_aload_n (pc' := 88) hC 1 dX12_children_87 rfl rfl rfl ?_
              refine j_get (pc' := 91) hC ly_X12 (M_at_0 d _) rfl 54 (by decide) fl_X12_112 rfl dX12_children_88 rfl ?_
              refine j_iload_n (pc' := 92) hC 2 dX12_children_91 rfl rfl rfl ?_
              refine j_iald (pc' := 93) hC (M_at_32 d _) dX12_children_92 rfl ?_
              refine j_i2l (pc' := 94) hC dX12_children_93 rfl ?_
              refine j_lcmp (pc' := 95) hC dX12_children_94 rfl ?_
              refine j_if_ge (pc' := 98) (tgt := 107) hC dX12_children_95 (by decide) rfl ?_ ?_
              · refine j_iload (pc' := 109) hC 5 dX12_children_107 rfl rfl ?_
                exact j_ret_i hC dX12_children_109
              · refine j_aload_n (pc' := 99) hC 1 dX12_children_98 rfl rfl rfl ?_
                refine j_get (pc' := 102) hC ly_X12 (M_at_0 d _) rfl 2 (by decide) fl_X12_125 rfl dX12_children_99 rfl ?_
                refine j_bipush (pc' := 104) (v := (9 : Int32)) hC dX12_children_102 (by decide) rfl ?_
                refine j_icmp_ne (pc' := 107) (tgt := 110) hC dX12_children_104 (by decide) rfl ?_ ?_
                · refine j_bipush (pc' := 112) (v := (60 : Int32)) hC dX12_children_110 (by decide) rfl ?_
                  refine j_iload_n (pc' := 113) hC 2 dX12_children_112 rfl rfl rfl ?_
                  refine j_imul (pc' := 114) hC dX12_children_113 rfl ?_
                  refine j_lload (pc' := 116) hC 0 dX12_children_114 rfl rfl ?_
                  refine j_l2i (pc' := 117) hC dX12_children_116 rfl ?_
                  refine j_iadd (pc' := 118) hC dX12_children_117 rfl ?_
                  refine j_top (fun y3 => ?_)
                  refine j_istore (pc' := 120) (lv' := [(7, .int y3), (5, .long ((p2.toInt64) + (((3 : Int32) * a.2).toInt64))), (0, .ref (d.2.1 0)), (1, .int p1), (2, .int p2), (3, .int p3), (4, .int a.2)]) hC dX12_children_118 (by decide) rfl rfl ?_
                  refine j_aload_n (pc' := 121) hC 2 dX12_children_120 rfl rfl rfl ?_
                  refine j_get (pc' := 124) hC ly_X12 (M_at_0 d _) rfl 55 (by decide) fl_X12_115 rfl dX12_children_121 rfl ?_
                  refine j_iload (pc' := 126) hC 0 dX12_children_124 rfl rfl ?_
                  refine j_lald (pc' := 127) hC (M_at_33 d _) dX12_children_126 rfl ?_
                  refine j_l2i (pc' := 128) hC dX12_children_127 rfl ?_
                  refine j_iconst (pc' := 129) (v := (1 : Int32)) hC dX12_children_128 (by decide) rfl ?_
                  refine j_bipush (pc' := 131) (v := (9 : Int32)) hC dX12_children_129 (by decide) rfl ?_
                  refine j_callS_zr (pc' := 134) (As := [.int ((a.1.2 33 (y3).toNatClampNeg).toInt32), .int (1 : Int32), .int (9 : Int32)]) (st := []) hC (kX12_in l d A _ _ _ _) (jgS ml_X12_128 st_X12_in in_X12 cd_X12_in) rfl rfl rfl hyS_X12_in ⟨Nat.le_of_ble_eq_true rfl, Nat.le_of_ble_eq_true rfl⟩ rfl rfl (Nat.le_of_ble_eq_true rfl) dX12_children_131 rfl (fun q4 => ?_)
                  refine j_if_eq (pc' := 137) (tgt := 173) hC dX12_children_134 (by decide) rfl ?_ ?_
                  · refine j_iload (pc' := 175) hC 6 dX12_children_173 rfl rfl ?_
                    exact j_ret_i hC dX12_children_175
                  · refine j_aload_n (pc' := 138) hC 2 dX12_children_137 rfl rfl rfl ?_
                    refine j_get (pc' := 141) hC ly_X12 (M_at_0 d _) rfl 55 (by decide) fl_X12_115 rfl dX12_children_138 rfl ?_
                    refine j_iload (pc' := 143) hC 0 dX12_children_141 rfl rfl ?_
                    refine j_iconst (pc' := 144) (v := (1 : Int32)) hC dX12_children_143 (by decide) rfl ?_
                    refine j_iadd (pc' := 145) hC dX12_children_144 rfl ?_
                    refine j_lald (pc' := 146) hC (M_at_33 d _) dX12_children_145 rfl ?_
                    refine j_l2i (pc' := 147) hC dX12_children_146 rfl ?_
                    refine j_iconst (pc' := 148) (v := (0 : Int32)) hC dX12_children_147 (by decide) rfl ?_
                    refine j_iconst (pc' := 149) (v := (3 : Int32)) hC dX12_children_148 (by decide) rfl ?_
                    refine j_callS_zr (pc' := 152) (As := [.int ((a.1.2 33 ((y3 + (1 : Int32))).toNatClampNeg).toInt32), .int (0 : Int32), .int (3 : Int32)]) (st := []) hC (kX12_in l d A _ _ _ _) (jgS ml_X12_128 st_X12_in in_X12 cd_X12_in) rfl rfl rfl hyS_X12_in ⟨Nat.le_of_ble_eq_true rfl, Nat.le_of_ble_eq_true rfl⟩ rfl rfl (Nat.le_of_ble_eq_true rfl) dX12_children_149 rfl (fun q5 => ?_)
                    refine j_if_eq (pc' := 155) (tgt := 173) hC dX12_children_152 (by decide) rfl ?_ ?_
                    · refine j_iload (pc' := 175) hC 6 dX12_children_173 rfl rfl ?_
                      exact j_ret_i hC dX12_children_175
                    · refine j_aload_n (pc' := 156) hC 2 dX12_children_155 rfl rfl rfl ?_
                      refine j_get (pc' := 159) hC ly_X12 (M_at_0 d _) rfl 55 (by decide) fl_X12_115 rfl dX12_children_156 rfl ?_
                      refine j_iload (pc' := 161) hC 0 dX12_children_159 rfl rfl ?_
                      refine j_iconst (pc' := 162) (v := (2 : Int32)) hC dX12_children_161 (by decide) rfl ?_
                      refine j_iadd (pc' := 163) hC dX12_children_162 rfl ?_
                      refine j_lald (pc' := 164) hC (M_at_33 d _) dX12_children_163 rfl ?_
                      refine j_l2i (pc' := 165) hC dX12_children_164 rfl ?_
                      refine j_iconst (pc' := 166) (v := (0 : Int32)) hC dX12_children_165 (by decide) rfl ?_
                      refine j_iconst (pc' := 167) (v := (3 : Int32)) hC dX12_children_166 (by decide) rfl ?_
                      refine j_callS_zr (pc' := 170) (As := [.int ((a.1.2 33 ((y3 + (2 : Int32))).toNatClampNeg).toInt32), .int (0 : Int32), .int (3 : Int32)]) (st := []) hC (kX12_in l d A _ _ _ _) (jgS ml_X12_128 st_X12_in in_X12 cd_X12_in) rfl rfl rfl hyS_X12_in ⟨Nat.le_of_ble_eq_true rfl, Nat.le_of_ble_eq_true rfl⟩ rfl rfl (Nat.le_of_ble_eq_true rfl) dX12_children_167 rfl (fun q6 => ?_)
                      refine j_if_ne (pc' := 173) (tgt := 176) hC dX12_children_170 (by decide) rfl ?_ ?_
                      · refine j_aload_n (pc' := 177) hC 2 dX12_children_176 rfl rfl rfl ?_
                        refine j_aload_n (pc' := 178) hC 2 dX12_children_177 rfl rfl rfl ?_
                        refine j_get (pc' := 181) hC ly_X12 (M_at_0 d _) rfl 55 (by decide) fl_X12_115 rfl dX12_children_178 rfl ?_
                        refine j_iload (pc' := 183) hC 0 dX12_children_181 rfl rfl ?_
                        refine j_lald (pc' := 184) hC (M_at_33 d _) dX12_children_183 rfl ?_
                        refine j_l2i (pc' := 185) hC dX12_children_184 rfl ?_
                        refine j_aload_n (pc' := 186) hC 2 dX12_children_185 rfl rfl rfl ?_
                        refine j_get (pc' := 189) hC ly_X12 (M_at_0 d _) rfl 55 (by decide) fl_X12_115 rfl dX12_children_186 rfl ?_
                        refine j_iload (pc' := 191) hC 0 dX12_children_189 rfl rfl ?_
                        refine j_iconst (pc' := 192) (v := (1 : Int32)) hC dX12_children_191 (by decide) rfl ?_
                        refine j_iadd (pc' := 193) hC dX12_children_192 rfl ?_
                        refine j_lald (pc' := 194) hC (M_at_33 d _) dX12_children_193 rfl ?_
                        refine j_l2i (pc' := 195) hC dX12_children_194 rfl ?_
                        refine j_aload_n (pc' := 196) hC 2 dX12_children_195 rfl rfl rfl ?_
                        refine j_get (pc' := 199) hC ly_X12 (M_at_0 d _) rfl 55 (by decide) fl_X12_115 rfl dX12_children_196 rfl ?_
                        refine j_iload (pc' := 201) hC 0 dX12_children_199 rfl rfl ?_
                        refine j_iconst (pc' := 202) (v := (2 : Int32)) hC dX12_children_201 (by decide) rfl ?_
                        refine j_iadd (pc' := 203) hC dX12_children_202 rfl ?_
                        refine j_lald (pc' := 204) hC (M_at_33 d _) dX12_children_203 rfl ?_
                        refine j_l2i (pc' := 205) hC dX12_children_204 rfl ?_
                        refine j_callV_i (pc' := 208) (As := [.int ((a.1.2 33 (y3).toNatClampNeg).toInt32), .int ((a.1.2 33 ((y3 + (1 : Int32))).toNatClampNeg).toInt32), .int ((a.1.2 33 ((y3 + (2 : Int32))).toNatClampNeg).toInt32)]) (st := []) hC (M_at_0 d _) rfl (kX12_addChild l d A _ _ _ _) (jgV ml_X12_132 im_X12_addChild se_X12_addChild in_X12 cd_X12_addChild) rfl rfl rfl hyV_X12_addChild ⟨Nat.le_of_ble_eq_true rfl, Nat.le_of_ble_eq_true rfl⟩ rfl rfl (Nat.le_of_ble_eq_true rfl) dX12_children_205 rfl (fun q7 => ?_)
                        refine j_pop (pc' := 209) hC rfl dX12_children_208 rfl ?_
                        refine j_iinc (pc' := 212) (v := (a.2 + (1 : Int32))) (lv' := [(4, .int (a.2 + (1 : Int32))), (7, .int y3), (5, .long ((p2.toInt64) + (((3 : Int32) * a.2).toInt64))), (0, .ref (d.2.1 0)), (1, .int p1), (2, .int p2), (3, .int p3)]) hC 6 dX12_children_209 rfl (by decide) rfl rfl rfl ?_
                        refine j_goto (tgt := 58) hC dX12_children_212 (by decide) ?_
                        exact j_lv (lv' := [(0, .ref (d.2.1 0)), (1, .int p1), (2, .int p2), (3, .int p3), (4, .int (a.2 + (1 : Int32)))]) [3, 4, 5, 6, 0] rfl (hs58 (q7.2, (a.2 + (1 : Int32))))
                      · refine j_iload (pc' := 175) hC 6 dX12_children_173 rfl rfl ?_
                        exact j_ret_i hC dX12_children_175
                · refine j_iload (pc' := 109) hC 5 dX12_children_107 rfl rfl ?_
                  exact j_ret_i hC dX12_children_109
        · refine j_iconst (pc' := 54) (v := (0 : Int32)) hC dX12_children_53 (by decide) rfl ?_
          exact j_ret_i hC dX12_children_54
      · refine j_icmp_eq (pc' := 29) (tgt := 43) hC dX12_children_26 (by decide) rfl ?_ ?_
        · exact j_lv (lv' := [(0, .ref (d.2.1 0)), (1, .int p1), (2, .int p2), (3, .int p3)]) [0, 1, 2, 3] rfl (hj43 ())
        · refine j_aload_n (pc' := 30) hC 0 dX12_children_29 rfl rfl rfl ?_
          refine j_get (pc' := 33) hC ly_X12 (M_at_0 d _) rfl 53 (by decide) fl_X12_109 rfl dX12_children_30 rfl ?_
          refine j_iload_n (pc' := 34) hC 1 dX12_children_33 rfl rfl rfl ?_
          refine j_iald (pc' := 35) hC (M_at_31 d _) dX12_children_34 rfl ?_
          refine j_bipush (pc' := 37) (v := (-2 : Int32)) hC dX12_children_35 (by decide) rfl ?_
          refine j_icmp_eq (pc' := 40) (tgt := 43) hC dX12_children_37 (by decide) rfl ?_ ?_
          · exact j_lv (lv' := [(0, .ref (d.2.1 0)), (1, .int p1), (2, .int p2), (3, .int p3)]) [0, 1, 2, 3] rfl (hj43 ())
          · refine j_bipush (pc' := 42) (v := (-12 : Int32)) hC dX12_children_40 (by decide) rfl ?_
            exact j_ret_i hC dX12_children_42
    · refine j_iconst (pc' := 18) (v := (-1 : Int32)) hC dX12_children_17 (by decide) rfl ?_
      exact j_ret_i hC dX12_children_18
theorem hyV_X12_valueAt : yX12_valueAt.cls = RX12 ∧ yX12_valueAt.cls ≠ "java/lang/invoke/MethodHandle" ∧ yX12_valueAt.cls ≠ "java/lang/invoke/VarHandle" ∧ (parseMethodDescriptor yX12_valueAt.desc).map (fun d => d.parameters.length) = some 2 := ⟨rfl, by decide +kernel, by decide +kernel, by decide +kernel⟩
noncomputable def fX12_valueAt (σ : jS) (p1 : Int32) (p2 : Int32) : Option (Int32) :=
  (if p1 = (0 : Int32) then (ob p2 9 (some (σ.1 2 (p2).toNatClampNeg))) else (if p1 = (1 : Int32) then (ob p2 9 (some (σ.1 3 (p2).toNatClampNeg))) else (if p1 = (2 : Int32) then (ob p2 9 (some (σ.1 4 (p2).toNatClampNeg))) else (if p1 = (3 : Int32) then (ob p2 9 (some (σ.1 5 (p2).toNatClampNeg))) else (if p1 = (4 : Int32) then (ob p2 9 (some (σ.1 6 (p2).toNatClampNeg))) else (if p1 = (5 : Int32) then (ob p2 9 (some (σ.1 7 (p2).toNatClampNeg))) else (if p1 = (6 : Int32) then (ob p2 3 (some (σ.1 1 (p2).toNatClampNeg))) else (if p1 = (7 : Int32) then (some (σ.1 0 9)) else (if p1 = (8 : Int32) then (some (σ.1 0 10)) else (if p1 = (9 : Int32) then (some (σ.1 0 11)) else (some (σ.1 0 12))))))))))))
set_option maxRecDepth 100000 in
set_option maxHeartbeats 4000000 in
theorem kX12_valueAt (l : Launch) (d : jD) (A : Nat → Prop) (σ : jS) (p1 : Int32) (p2 : Int32) : jMir l yX12_valueAt (jws yX12_valueAt cX12_valueAt 3 (some (.int))) { frames := 2, cells := 0, slots := 0, locals := 130 } d wM A [.ref (d.2.1 0), .int p1, .int p2] σ (fX12_valueAt σ p1 p2) := by
  refine jStart_ir (lv0 := [(0, .ref (d.2.1 0)), (1, .int p1), (2, .int p2)]) (by decide) rfl (Nat.le_of_ble_eq_true rfl) rfl (fun z hC res => ?_)
  unfold fX12_valueAt
  refine j_iload_n (pc' := 1) hC 1 dX12_valueAt_0 rfl rfl rfl ?_
  refine j_if (fun c0 => ?_) (fun c0 => ?_)
  · refine j_tableIn (tgt := 56) (off := 55) hC dX12_valueAt_1 (by rw [c0]; decide) (by rw [c0]; decide) (by rw [c0]; rfl) (by decide) ?_
    refine j_aload_n (pc' := 57) hC 0 dX12_valueAt_56 rfl rfl rfl ?_
    refine j_get (pc' := 60) hC ly_X12 (M_at_0 d _) rfl 3 (by decide) fl_X12_13 rfl dX12_valueAt_57 rfl ?_
    refine j_iload_n (pc' := 61) hC 2 dX12_valueAt_60 rfl rfl rfl ?_
    refine j_iald (pc' := 62) hC (M_at_2 d _) dX12_valueAt_61 rfl ?_
    exact j_ret_ir hC dX12_valueAt_62
  refine j_if (fun c1 => ?_) (fun c1 => ?_)
  · refine j_tableIn (tgt := 63) (off := 62) hC dX12_valueAt_1 (by rw [c1]; decide) (by rw [c1]; decide) (by rw [c1]; rfl) (by decide) ?_
    refine j_aload_n (pc' := 64) hC 0 dX12_valueAt_63 rfl rfl rfl ?_
    refine j_get (pc' := 67) hC ly_X12 (M_at_0 d _) rfl 4 (by decide) fl_X12_16 rfl dX12_valueAt_64 rfl ?_
    refine j_iload_n (pc' := 68) hC 2 dX12_valueAt_67 rfl rfl rfl ?_
    refine j_iald (pc' := 69) hC (M_at_3 d _) dX12_valueAt_68 rfl ?_
    exact j_ret_ir hC dX12_valueAt_69
  refine j_if (fun c2 => ?_) (fun c2 => ?_)
  · refine j_tableIn (tgt := 70) (off := 69) hC dX12_valueAt_1 (by rw [c2]; decide) (by rw [c2]; decide) (by rw [c2]; rfl) (by decide) ?_
    refine j_aload_n (pc' := 71) hC 0 dX12_valueAt_70 rfl rfl rfl ?_
    refine j_get (pc' := 74) hC ly_X12 (M_at_0 d _) rfl 5 (by decide) fl_X12_19 rfl dX12_valueAt_71 rfl ?_
    refine j_iload_n (pc' := 75) hC 2 dX12_valueAt_74 rfl rfl rfl ?_
    refine j_iald (pc' := 76) hC (M_at_4 d _) dX12_valueAt_75 rfl ?_
    exact j_ret_ir hC dX12_valueAt_76
  refine j_if (fun c3 => ?_) (fun c3 => ?_)
  · refine j_tableIn (tgt := 77) (off := 76) hC dX12_valueAt_1 (by rw [c3]; decide) (by rw [c3]; decide) (by rw [c3]; rfl) (by decide) ?_
    refine j_aload_n (pc' := 78) hC 0 dX12_valueAt_77 rfl rfl rfl ?_
    refine j_get (pc' := 81) hC ly_X12 (M_at_0 d _) rfl 6 (by decide) fl_X12_22 rfl dX12_valueAt_78 rfl ?_
    refine j_iload_n (pc' := 82) hC 2 dX12_valueAt_81 rfl rfl rfl ?_
    refine j_iald (pc' := 83) hC (M_at_5 d _) dX12_valueAt_82 rfl ?_
    exact j_ret_ir hC dX12_valueAt_83
  refine j_if (fun c4 => ?_) (fun c4 => ?_)
  · refine j_tableIn (tgt := 84) (off := 83) hC dX12_valueAt_1 (by rw [c4]; decide) (by rw [c4]; decide) (by rw [c4]; rfl) (by decide) ?_
    refine j_aload_n (pc' := 85) hC 0 dX12_valueAt_84 rfl rfl rfl ?_
    refine j_get (pc' := 88) hC ly_X12 (M_at_0 d _) rfl 7 (by decide) fl_X12_25 rfl dX12_valueAt_85 rfl ?_
    refine j_iload_n (pc' := 89) hC 2 dX12_valueAt_88 rfl rfl rfl ?_
    refine j_iald (pc' := 90) hC (M_at_6 d _) dX12_valueAt_89 rfl ?_
    exact j_ret_ir hC dX12_valueAt_90
  refine j_if (fun c5 => ?_) (fun c5 => ?_)
  · refine j_tableIn (tgt := 91) (off := 90) hC dX12_valueAt_1 (by rw [c5]; decide) (by rw [c5]; decide) (by rw [c5]; rfl) (by decide) ?_
    refine j_aload_n (pc' := 92) hC 0 dX12_valueAt_91 rfl rfl rfl ?_
    refine j_get (pc' := 95) hC ly_X12 (M_at_0 d _) rfl 8 (by decide) fl_X12_28 rfl dX12_valueAt_92 rfl ?_
    refine j_iload_n (pc' := 96) hC 2 dX12_valueAt_95 rfl rfl rfl ?_
    refine j_iald (pc' := 97) hC (M_at_7 d _) dX12_valueAt_96 rfl ?_
    exact j_ret_ir hC dX12_valueAt_97
  refine j_if (fun c6 => ?_) (fun c6 => ?_)
  · refine j_tableIn (tgt := 98) (off := 97) hC dX12_valueAt_1 (by rw [c6]; decide) (by rw [c6]; decide) (by rw [c6]; rfl) (by decide) ?_
    refine j_aload_n (pc' := 99) hC 0 dX12_valueAt_98 rfl rfl rfl ?_
    refine j_get (pc' := 102) hC ly_X12 (M_at_0 d _) rfl 1 (by decide) fl_X12_7 rfl dX12_valueAt_99 rfl ?_
    refine j_iload_n (pc' := 103) hC 2 dX12_valueAt_102 rfl rfl rfl ?_
    refine j_iald (pc' := 104) hC (M_at_1 d _) dX12_valueAt_103 rfl ?_
    exact j_ret_ir hC dX12_valueAt_104
  refine j_if (fun c7 => ?_) (fun c7 => ?_)
  · refine j_tableIn (tgt := 105) (off := 104) hC dX12_valueAt_1 (by rw [c7]; decide) (by rw [c7]; decide) (by rw [c7]; rfl) (by decide) ?_
    refine j_aload_n (pc' := 106) hC 0 dX12_valueAt_105 rfl rfl rfl ?_
    refine j_get (pc' := 109) hC ly_X12 (M_at_0 d _) rfl 9 (by decide) fl_X12_31 rfl dX12_valueAt_106 rfl ?_
    exact j_ret_ir hC dX12_valueAt_109
  refine j_if (fun c8 => ?_) (fun c8 => ?_)
  · refine j_tableIn (tgt := 110) (off := 109) hC dX12_valueAt_1 (by rw [c8]; decide) (by rw [c8]; decide) (by rw [c8]; rfl) (by decide) ?_
    refine j_aload_n (pc' := 111) hC 0 dX12_valueAt_110 rfl rfl rfl ?_
    refine j_get (pc' := 114) hC ly_X12 (M_at_0 d _) rfl 10 (by decide) fl_X12_35 rfl dX12_valueAt_111 rfl ?_
    exact j_ret_ir hC dX12_valueAt_114
  refine j_if (fun c9 => ?_) (fun c9 => ?_)
  · refine j_tableIn (tgt := 115) (off := 114) hC dX12_valueAt_1 (by rw [c9]; decide) (by rw [c9]; decide) (by rw [c9]; rfl) (by decide) ?_
    refine j_aload_n (pc' := 116) hC 0 dX12_valueAt_115 rfl rfl rfl ?_
    refine j_get (pc' := 119) hC ly_X12 (M_at_0 d _) rfl 11 (by decide) fl_X12_142 rfl dX12_valueAt_116 rfl ?_
    exact j_ret_ir hC dX12_valueAt_119
  refine j_tableOut (tgt := 120) hC dX12_valueAt_1 (by have e0 := lv_neT c0 (a := 0) rfl; have e1 := lv_neT c1 (a := 1) rfl; have e2 := lv_neT c2 (a := 2) rfl; have e3 := lv_neT c3 (a := 3) rfl; have e4 := lv_neT c4 (a := 4) rfl; have e5 := lv_neT c5 (a := 5) rfl; have e6 := lv_neT c6 (a := 6) rfl; have e7 := lv_neT c7 (a := 7) rfl; have e8 := lv_neT c8 (a := 8) rfl; have e9 := lv_neT c9 (a := 9) rfl; omega) (by decide) ?_
  refine j_aload_n (pc' := 121) hC 0 dX12_valueAt_120 rfl rfl rfl ?_
  refine j_get (pc' := 124) hC ly_X12 (M_at_0 d _) rfl 12 (by decide) fl_X12_145 rfl dX12_valueAt_121 rfl ?_
  exact j_ret_ir hC dX12_valueAt_124
theorem hyV_X12_lays : yX12_lays.cls = RX12 ∧ yX12_lays.cls ≠ "java/lang/invoke/MethodHandle" ∧ yX12_lays.cls ≠ "java/lang/invoke/VarHandle" ∧ (parseMethodDescriptor yX12_lays.desc).map (fun d => d.parameters.length) = some 3 := ⟨rfl, by decide +kernel, by decide +kernel, by decide +kernel⟩
noncomputable def fX12_lays (σ : jS) (p1 : Int32) (p2 : Int32) (p3 : Int32) : Option (jS) :=
  (if p1 = (0 : Int32) then (ob p2 9 (jst (ju σ 2 (p2).toNatClampNeg p3) fun (σ1 : jS) => (some σ1))) else (if p1 = (1 : Int32) then (ob p2 9 (jst (ju σ 3 (p2).toNatClampNeg p3) fun (σ2 : jS) => (some σ2))) else (if p1 = (2 : Int32) then (ob p2 9 (jst (ju σ 4 (p2).toNatClampNeg p3) fun (σ3 : jS) => (some σ3))) else (if p1 = (3 : Int32) then (ob p2 9 (jst (ju σ 5 (p2).toNatClampNeg p3) fun (σ4 : jS) => (some σ4))) else (if p1 = (4 : Int32) then (ob p2 9 (jst (ju σ 6 (p2).toNatClampNeg p3) fun (σ5 : jS) => (some σ5))) else (if p1 = (5 : Int32) then (ob p2 9 (jst (ju σ 7 (p2).toNatClampNeg p3) fun (σ6 : jS) => (some σ6))) else (if p1 = (6 : Int32) then (ob p2 3 (jst (ju σ 1 (p2).toNatClampNeg p3) fun (σ7 : jS) => (some σ7))) else (if p1 = (7 : Int32) then (jst (ju σ 0 9 p3) fun (σ8 : jS) => (some σ8)) else (if p1 = (8 : Int32) then (jst (ju σ 0 10 p3) fun (σ9 : jS) => (some σ9)) else (if p1 = (9 : Int32) then (jst (ju σ 0 11 p3) fun (σ10 : jS) => (some σ10)) else (jst (ju σ 0 12 p3) fun (σ11 : jS) => (some σ11))))))))))))
set_option maxRecDepth 100000 in
set_option maxHeartbeats 4000000 in
theorem kX12_lays (l : Launch) (d : jD) (A : Nat → Prop) (σ : jS) (p1 : Int32) (p2 : Int32) (p3 : Int32) : jMv l yX12_lays (jws yX12_lays cX12_lays 4 none) { frames := 2, cells := 0, slots := 0, locals := 130 } d wM A [.ref (d.2.1 0), .int p1, .int p2, .int p3] σ (fX12_lays σ p1 p2 p3) := by
  refine jStart_v (lv0 := [(0, .ref (d.2.1 0)), (1, .int p1), (2, .int p2), (3, .int p3)]) (by decide) rfl (Nat.le_of_ble_eq_true rfl) rfl (fun z hC res => ?_)
  unfold fX12_lays
  refine j_iload_n (pc' := 1) hC 1 dX12_lays_0 rfl rfl rfl ?_
  refine j_if (fun c0 => ?_) (fun c0 => ?_)
  · refine j_tableIn (tgt := 56) (off := 55) hC dX12_lays_1 (by rw [c0]; decide) (by rw [c0]; decide) (by rw [c0]; rfl) (by decide) ?_
    refine j_aload_n (pc' := 57) hC 0 dX12_lays_56 rfl rfl rfl ?_
    refine j_get (pc' := 60) hC ly_X12 (M_at_0 d _) rfl 3 (by decide) fl_X12_13 rfl dX12_lays_57 rfl ?_
    refine j_iload_n (pc' := 61) hC 2 dX12_lays_60 rfl rfl rfl ?_
    refine j_iload_n (pc' := 62) hC 3 dX12_lays_61 rfl rfl rfl ?_
    refine j_iast (pc' := 63) hC (M_at_2 d _) (M_sa_2 d _ _) dX12_lays_62 rfl ?_
    refine j_st (fun σ1 => ?_)
    refine j_goto (tgt := 155) hC dX12_lays_63 (by decide) ?_
    exact j_ret_v hC dX12_lays_155
  refine j_if (fun c1 => ?_) (fun c1 => ?_)
  · refine j_tableIn (tgt := 66) (off := 65) hC dX12_lays_1 (by rw [c1]; decide) (by rw [c1]; decide) (by rw [c1]; rfl) (by decide) ?_
    refine j_aload_n (pc' := 67) hC 0 dX12_lays_66 rfl rfl rfl ?_
    refine j_get (pc' := 70) hC ly_X12 (M_at_0 d _) rfl 4 (by decide) fl_X12_16 rfl dX12_lays_67 rfl ?_
    refine j_iload_n (pc' := 71) hC 2 dX12_lays_70 rfl rfl rfl ?_
    refine j_iload_n (pc' := 72) hC 3 dX12_lays_71 rfl rfl rfl ?_
    refine j_iast (pc' := 73) hC (M_at_3 d _) (M_sa_3 d _ _) dX12_lays_72 rfl ?_
    refine j_st (fun σ2 => ?_)
    refine j_goto (tgt := 155) hC dX12_lays_73 (by decide) ?_
    exact j_ret_v hC dX12_lays_155
  refine j_if (fun c2 => ?_) (fun c2 => ?_)
  · refine j_tableIn (tgt := 76) (off := 75) hC dX12_lays_1 (by rw [c2]; decide) (by rw [c2]; decide) (by rw [c2]; rfl) (by decide) ?_
    refine j_aload_n (pc' := 77) hC 0 dX12_lays_76 rfl rfl rfl ?_
    refine j_get (pc' := 80) hC ly_X12 (M_at_0 d _) rfl 5 (by decide) fl_X12_19 rfl dX12_lays_77 rfl ?_
    refine j_iload_n (pc' := 81) hC 2 dX12_lays_80 rfl rfl rfl ?_
    refine j_iload_n (pc' := 82) hC 3 dX12_lays_81 rfl rfl rfl ?_
    refine j_iast (pc' := 83) hC (M_at_4 d _) (M_sa_4 d _ _) dX12_lays_82 rfl ?_
    refine j_st (fun σ3 => ?_)
    refine j_goto (tgt := 155) hC dX12_lays_83 (by decide) ?_
    exact j_ret_v hC dX12_lays_155
  refine j_if (fun c3 => ?_) (fun c3 => ?_)
  · refine j_tableIn (tgt := 86) (off := 85) hC dX12_lays_1 (by rw [c3]; decide) (by rw [c3]; decide) (by rw [c3]; rfl) (by decide) ?_
    refine j_aload_n (pc' := 87) hC 0 dX12_lays_86 rfl rfl rfl ?_
    refine j_get (pc' := 90) hC ly_X12 (M_at_0 d _) rfl 6 (by decide) fl_X12_22 rfl dX12_lays_87 rfl ?_
    refine j_iload_n (pc' := 91) hC 2 dX12_lays_90 rfl rfl rfl ?_
    refine j_iload_n (pc' := 92) hC 3 dX12_lays_91 rfl rfl rfl ?_
    refine j_iast (pc' := 93) hC (M_at_5 d _) (M_sa_5 d _ _) dX12_lays_92 rfl ?_
    refine j_st (fun σ4 => ?_)
    refine j_goto (tgt := 155) hC dX12_lays_93 (by decide) ?_
    exact j_ret_v hC dX12_lays_155
  refine j_if (fun c4 => ?_) (fun c4 => ?_)
  · refine j_tableIn (tgt := 96) (off := 95) hC dX12_lays_1 (by rw [c4]; decide) (by rw [c4]; decide) (by rw [c4]; rfl) (by decide) ?_
    refine j_aload_n (pc' := 97) hC 0 dX12_lays_96 rfl rfl rfl ?_
    refine j_get (pc' := 100) hC ly_X12 (M_at_0 d _) rfl 7 (by decide) fl_X12_25 rfl dX12_lays_97 rfl ?_
    refine j_iload_n (pc' := 101) hC 2 dX12_lays_100 rfl rfl rfl ?_
    refine j_iload_n (pc' := 102) hC 3 dX12_lays_101 rfl rfl rfl ?_
    refine j_iast (pc' := 103) hC (M_at_6 d _) (M_sa_6 d _ _) dX12_lays_102 rfl ?_
    refine j_st (fun σ5 => ?_)
    refine j_goto (tgt := 155) hC dX12_lays_103 (by decide) ?_
    exact j_ret_v hC dX12_lays_155
  refine j_if (fun c5 => ?_) (fun c5 => ?_)
  · refine j_tableIn (tgt := 106) (off := 105) hC dX12_lays_1 (by rw [c5]; decide) (by rw [c5]; decide) (by rw [c5]; rfl) (by decide) ?_
    refine j_aload_n (pc' := 107) hC 0 dX12_lays_106 rfl rfl rfl ?_
    refine j_get (pc' := 110) hC ly_X12 (M_at_0 d _) rfl 8 (by decide) fl_X12_28 rfl dX12_lays_107 rfl ?_
    refine j_iload_n (pc' := 111) hC 2 dX12_lays_110 rfl rfl rfl ?_
    refine j_iload_n (pc' := 112) hC 3 dX12_lays_111 rfl rfl rfl ?_
    refine j_iast (pc' := 113) hC (M_at_7 d _) (M_sa_7 d _ _) dX12_lays_112 rfl ?_
    refine j_st (fun σ6 => ?_)
    refine j_goto (tgt := 155) hC dX12_lays_113 (by decide) ?_
    exact j_ret_v hC dX12_lays_155
  refine j_if (fun c6 => ?_) (fun c6 => ?_)
  · refine j_tableIn (tgt := 116) (off := 115) hC dX12_lays_1 (by rw [c6]; decide) (by rw [c6]; decide) (by rw [c6]; rfl) (by decide) ?_
    refine j_aload_n (pc' := 117) hC 0 dX12_lays_116 rfl rfl rfl ?_
    refine j_get (pc' := 120) hC ly_X12 (M_at_0 d _) rfl 1 (by decide) fl_X12_7 rfl dX12_lays_117 rfl ?_
    refine j_iload_n (pc' := 121) hC 2 dX12_lays_120 rfl rfl rfl ?_
    refine j_iload_n (pc' := 122) hC 3 dX12_lays_121 rfl rfl rfl ?_
    refine j_iast (pc' := 123) hC (M_at_1 d _) (M_sa_1 d _ _) dX12_lays_122 rfl ?_
    refine j_st (fun σ7 => ?_)
    refine j_goto (tgt := 155) hC dX12_lays_123 (by decide) ?_
    exact j_ret_v hC dX12_lays_155
  refine j_if (fun c7 => ?_) (fun c7 => ?_)
  · refine j_tableIn (tgt := 126) (off := 125) hC dX12_lays_1 (by rw [c7]; decide) (by rw [c7]; decide) (by rw [c7]; rfl) (by decide) ?_
    refine j_aload_n (pc' := 127) hC 0 dX12_lays_126 rfl rfl rfl ?_
    refine j_iload_n (pc' := 128) hC 3 dX12_lays_127 rfl rfl rfl ?_
    refine j_put (pc' := 131) hC ly_X12 tyX12 tyX12_ok nmX12 (M_at_0 d _) rfl 9 (by decide) fl_X12_31 rfl rfl rfl rfl (Nat.le_of_ble_eq_true rfl) (M_sf_0_9 d _ _) dX12_lays_128 rfl ?_
    refine j_st (fun σ8 => ?_)
    refine j_goto (tgt := 155) hC dX12_lays_131 (by decide) ?_
    exact j_ret_v hC dX12_lays_155
  refine j_if (fun c8 => ?_) (fun c8 => ?_)
  · refine j_tableIn (tgt := 134) (off := 133) hC dX12_lays_1 (by rw [c8]; decide) (by rw [c8]; decide) (by rw [c8]; rfl) (by decide) ?_
    refine j_aload_n (pc' := 135) hC 0 dX12_lays_134 rfl rfl rfl ?_
    refine j_iload_n (pc' := 136) hC 3 dX12_lays_135 rfl rfl rfl ?_
    refine j_put (pc' := 139) hC ly_X12 tyX12 tyX12_ok nmX12 (M_at_0 d _) rfl 10 (by decide) fl_X12_35 rfl rfl rfl rfl (Nat.le_of_ble_eq_true rfl) (M_sf_0_10 d _ _) dX12_lays_136 rfl ?_
    refine j_st (fun σ9 => ?_)
    refine j_goto (tgt := 155) hC dX12_lays_139 (by decide) ?_
    exact j_ret_v hC dX12_lays_155
  refine j_if (fun c9 => ?_) (fun c9 => ?_)
  · refine j_tableIn (tgt := 142) (off := 141) hC dX12_lays_1 (by rw [c9]; decide) (by rw [c9]; decide) (by rw [c9]; rfl) (by decide) ?_
    refine j_aload_n (pc' := 143) hC 0 dX12_lays_142 rfl rfl rfl ?_
    refine j_iload_n (pc' := 144) hC 3 dX12_lays_143 rfl rfl rfl ?_
    refine j_put (pc' := 147) hC ly_X12 tyX12 tyX12_ok nmX12 (M_at_0 d _) rfl 11 (by decide) fl_X12_142 rfl rfl rfl rfl (Nat.le_of_ble_eq_true rfl) (M_sf_0_11 d _ _) dX12_lays_144 rfl ?_
    refine j_st (fun σ10 => ?_)
    refine j_goto (tgt := 155) hC dX12_lays_147 (by decide) ?_
    exact j_ret_v hC dX12_lays_155
  refine j_tableOut (tgt := 150) hC dX12_lays_1 (by have e0 := lv_neT c0 (a := 0) rfl; have e1 := lv_neT c1 (a := 1) rfl; have e2 := lv_neT c2 (a := 2) rfl; have e3 := lv_neT c3 (a := 3) rfl; have e4 := lv_neT c4 (a := 4) rfl; have e5 := lv_neT c5 (a := 5) rfl; have e6 := lv_neT c6 (a := 6) rfl; have e7 := lv_neT c7 (a := 7) rfl; have e8 := lv_neT c8 (a := 8) rfl; have e9 := lv_neT c9 (a := 9) rfl; omega) (by decide) ?_
  refine j_aload_n (pc' := 151) hC 0 dX12_lays_150 rfl rfl rfl ?_
  refine j_iload_n (pc' := 152) hC 3 dX12_lays_151 rfl rfl rfl ?_
  refine j_put (pc' := 155) hC ly_X12 tyX12 tyX12_ok nmX12 (M_at_0 d _) rfl 12 (by decide) fl_X12_145 rfl rfl rfl rfl (Nat.le_of_ble_eq_true rfl) (M_sf_0_12 d _ _) dX12_lays_152 rfl ?_
  refine j_st (fun σ11 => ?_)
  exact j_ret_v hC dX12_lays_155
theorem hyV_X12_changes : yX12_changes.cls = RX12 ∧ yX12_changes.cls ≠ "java/lang/invoke/MethodHandle" ∧ yX12_changes.cls ≠ "java/lang/invoke/VarHandle" ∧ (parseMethodDescriptor yX12_changes.desc).map (fun d => d.parameters.length) = some 3 := ⟨rfl, by decide +kernel, by decide +kernel, by decide +kernel⟩
noncomputable def fX12_changes_B34 (j111 : (jS → Option (Int32 × jS))) (s34 : jS × Int32 → Option (Int32 × jS)) (a : jS × Int32) : Option (Int32 × jS) :=
  (if (40 : Int32) ≤ a.2 then (j111 a.1) else (ob a.2 40 (ob (a.2 - (1 : Int32)) 40 (jst (ju a.1 8 ((a.2 - (1 : Int32))).toNatClampNeg (a.1.1 8 (a.2).toNatClampNeg)) fun (σ10 : jS) => (ob a.2 40 (ob (a.2 - (1 : Int32)) 40 (jst (ju σ10 9 ((a.2 - (1 : Int32))).toNatClampNeg (σ10.1 9 (a.2).toNatClampNeg)) fun (σ11 : jS) => (ob a.2 40 (ob (a.2 - (1 : Int32)) 40 (jst (ju σ11 10 ((a.2 - (1 : Int32))).toNatClampNeg (σ11.1 10 (a.2).toNatClampNeg)) fun (σ12 : jS) => (ob a.2 40 (ob (a.2 - (1 : Int32)) 40 (jst (ju σ12 11 ((a.2 - (1 : Int32))).toNatClampNeg (σ12.1 11 (a.2).toNatClampNeg)) fun (σ13 : jS) => (s34 (σ13, (a.2 + (1 : Int32)))))))))))))))))
noncomputable def fX12_changes (σ : jS) (p1 : Int32) (p2 : Int32) (p3 : Int32) : Option (Int32 × jS) :=
  (Option.bind (fX12_valueAt σ p1 p2) fun (q1 : Int32) => (if q1 = p3 then (some (q1, σ)) else (jst (ju σ 0 14 (0 : Int32)) fun (σ2 : jS) => (jlet (fun (a121 : jS) => (ob (a121.1 0 13) 40 (jst (ju a121 8 ((a121.1 0 13)).toNatClampNeg p1) fun (σ3 : jS) => (ob (σ3.1 0 13) 40 (jst (ju σ3 9 ((σ3.1 0 13)).toNatClampNeg p2) fun (σ4 : jS) => (ob (σ4.1 0 13) 40 (jst (ju σ4 10 ((σ4.1 0 13)).toNatClampNeg q1) fun (σ5 : jS) => (ob (σ5.1 0 13) 40 (jst (ju σ5 11 ((σ5.1 0 13)).toNatClampNeg p3) fun (σ6 : jS) => (jst (ju σ6 0 13 ((σ6.1 0 13) + (1 : Int32))) fun (σ7 : jS) => (Option.bind (fX12_lays σ7 p1 p2 p3) fun (q8 : jS) => (some (q1, q8))))))))))))) fun (j121 : (jS → Option (Int32 × jS))) => (if (σ2.1 0 13) = (40 : Int32) then (jlet (fun (a111 : jS) => (jst (ju a111 0 13 ((a111.1 0 13) - (1 : Int32))) fun (σ9 : jS) => (j121 σ9))) fun (j111 : (jS → Option (Int32 × jS))) => (jloop (fX12_changes_B34 j111) jN (σ2, (1 : Int32)))) else (j121 σ2))))))
set_option maxRecDepth 100000 in
set_option maxHeartbeats 4000000 in
theorem kX12_changes (l : Launch) (d : jD) (A : Nat → Prop) (σ : jS) (p1 : Int32) (p2 : Int32) (p3 : Int32) : jMi l yX12_changes (jws yX12_changes cX12_changes 6 (some (.int))) { frames := 3, cells := 0, slots := 0, locals := 153 } d wM A [.ref (d.2.1 0), .int p1, .int p2, .int p3] σ (fX12_changes σ p1 p2 p3) := by
  refine jStart_i (lv0 := [(0, .ref (d.2.1 0)), (1, .int p1), (2, .int p2), (3, .int p3)]) (by decide) rfl (Nat.le_of_ble_eq_true rfl) rfl (fun z hC res => ?_)
  unfold fX12_changes
  refine j_aload_n (pc' := 1) hC 0 dX12_changes_0 rfl rfl rfl ?_
  refine j_iload_n (pc' := 2) hC 1 dX12_changes_1 rfl rfl rfl ?_
  refine j_iload_n (pc' := 3) hC 2 dX12_changes_2 rfl rfl rfl ?_
  refine j_callV_ir (pc' := 6) (As := [.int p1, .int p2]) (st := []) hC (M_at_0 d _) rfl (kX12_valueAt l d A _ _ _) (jgV ml_X12_148 im_X12_valueAt se_X12_valueAt in_X12 cd_X12_valueAt) rfl rfl rfl hyV_X12_valueAt ⟨Nat.le_of_ble_eq_true rfl, Nat.le_of_ble_eq_true rfl⟩ rfl rfl (Nat.le_of_ble_eq_true rfl) dX12_changes_3 rfl (fun q1 => ?_)
  refine j_istore (pc' := 8) (lv' := [(4, .int q1), (0, .ref (d.2.1 0)), (1, .int p1), (2, .int p2), (3, .int p3)]) hC dX12_changes_6 (by decide) rfl rfl ?_
  refine j_iload (pc' := 10) hC 0 dX12_changes_8 rfl rfl ?_
  refine j_iload_n (pc' := 11) hC 4 dX12_changes_10 rfl rfl rfl ?_
  refine j_icmp_ne (pc' := 14) (tgt := 17) hC dX12_changes_11 (by decide) rfl ?_ ?_
  · refine j_aload_n (pc' := 18) hC 1 dX12_changes_17 rfl rfl rfl ?_
    refine j_iconst (pc' := 19) (v := (0 : Int32)) hC dX12_changes_18 (by decide) rfl ?_
    refine j_put (pc' := 22) hC ly_X12 tyX12 tyX12_ok nmX12 (M_at_0 d _) rfl 14 (by decide) fl_X12_152 rfl rfl rfl rfl (Nat.le_of_ble_eq_true rfl) (M_sf_0_14 d _ _) dX12_changes_19 rfl ?_
    refine j_st (fun σ2 => ?_)
    refine j_aload_n (pc' := 23) hC 1 dX12_changes_22 rfl rfl rfl ?_
    refine j_get (pc' := 26) hC ly_X12 (M_at_0 d _) rfl 13 (by decide) fl_X12_155 rfl dX12_changes_23 rfl ?_
    refine j_bipush (pc' := 28) (v := (40 : Int32)) hC dX12_changes_26 (by decide) rfl ?_
    refine j_let 121 (fun a121 => a121) (fun a121 => [(0, .ref (d.2.1 0)), (1, .int p1), (2, .int p2), (3, .int p3), (4, .int q1)]) (fun a121 => []) (fun a121 => ?_) (fun j121 hj121 => ?_)
    · refine j_aload_n (pc' := 122) hC 0 dX12_changes_121 rfl rfl rfl ?_
      refine j_get (pc' := 125) hC ly_X12 (M_at_0 d _) rfl 15 (by decide) fl_X12_38 rfl dX12_changes_122 rfl ?_
      refine j_aload_n (pc' := 126) hC 0 dX12_changes_125 rfl rfl rfl ?_
      refine j_get (pc' := 129) hC ly_X12 (M_at_0 d _) rfl 13 (by decide) fl_X12_155 rfl dX12_changes_126 rfl ?_
      refine j_iload_n (pc' := 130) hC 1 dX12_changes_129 rfl rfl rfl ?_
      refine j_iast (pc' := 131) hC (M_at_8 d _) (M_sa_8 d _ _) dX12_changes_130 rfl ?_
      refine j_st (fun σ3 => ?_)
      refine j_aload_n (pc' := 132) hC 0 dX12_changes_131 rfl rfl rfl ?_
      refine j_get (pc' := 135) hC ly_X12 (M_at_0 d _) rfl 16 (by decide) fl_X12_41 rfl dX12_changes_132 rfl ?_
      refine j_aload_n (pc' := 136) hC 0 dX12_changes_135 rfl rfl rfl ?_
      refine j_get (pc' := 139) hC ly_X12 (M_at_0 d _) rfl 13 (by decide) fl_X12_155 rfl dX12_changes_136 rfl ?_
      refine j_iload_n (pc' := 140) hC 2 dX12_changes_139 rfl rfl rfl ?_
      refine j_iast (pc' := 141) hC (M_at_9 d _) (M_sa_9 d _ _) dX12_changes_140 rfl ?_
      refine j_st (fun σ4 => ?_)
      refine j_aload_n (pc' := 142) hC 0 dX12_changes_141 rfl rfl rfl ?_
      refine j_get (pc' := 145) hC ly_X12 (M_at_0 d _) rfl 17 (by decide) fl_X12_44 rfl dX12_changes_142 rfl ?_
      refine j_aload_n (pc' := 146) hC 0 dX12_changes_145 rfl rfl rfl ?_
      refine j_get (pc' := 149) hC ly_X12 (M_at_0 d _) rfl 13 (by decide) fl_X12_155 rfl dX12_changes_146 rfl ?_
      refine j_iload (pc' := 151) hC 4 dX12_changes_149 rfl rfl ?_
      refine j_iast (pc' := 152) hC (M_at_10 d _) (M_sa_10 d _ _) dX12_changes_151 rfl ?_
      refine j_st (fun σ5 => ?_)
      refine j_aload_n (pc' := 153) hC 0 dX12_changes_152 rfl rfl rfl ?_
      refine j_get (pc' := 156) hC ly_X12 (M_at_0 d _) rfl 18 (by decide) fl_X12_47 rfl dX12_changes_153 rfl ?_
      refine j_aload_n (pc' := 157) hC 0 dX12_changes_156 rfl rfl rfl ?_
      refine j_get (pc' := 160) hC ly_X12 (M_at_0 d _) rfl 13 (by decide) fl_X12_155 rfl dX12_changes_157 rfl ?_
      refine j_iload_n (pc' := 161) hC 3 dX12_changes_160 rfl rfl rfl ?_
      refine j_iast (pc' := 162) hC (M_at_11 d _) (M_sa_11 d _ _) dX12_changes_161 rfl ?_
      refine j_st (fun σ6 => ?_)
      refine j_aload_n (pc' := 163) hC 0 dX12_changes_162 rfl rfl rfl ?_
      refine j_dup (pc' := 164) hC rfl dX12_changes_163 rfl ?_
      refine j_get (pc' := 167) hC ly_X12 (M_at_0 d _) rfl 13 (by decide) fl_X12_155 rfl dX12_changes_164 rfl ?_
      refine j_iconst (pc' := 168) (v := (1 : Int32)) hC dX12_changes_167 (by decide) rfl ?_
      refine j_iadd (pc' := 169) hC dX12_changes_168 rfl ?_
      refine j_put (pc' := 172) hC ly_X12 tyX12 tyX12_ok nmX12 (M_at_0 d _) rfl 13 (by decide) fl_X12_155 rfl rfl rfl rfl (Nat.le_of_ble_eq_true rfl) (M_sf_0_13 d _ _) dX12_changes_169 rfl ?_
      refine j_st (fun σ7 => ?_)
      refine j_aload_n (pc' := 173) hC 0 dX12_changes_172 rfl rfl rfl ?_
      refine j_iload_n (pc' := 174) hC 1 dX12_changes_173 rfl rfl rfl ?_
      refine j_iload_n (pc' := 175) hC 2 dX12_changes_174 rfl rfl rfl ?_
      refine j_iload_n (pc' := 176) hC 3 dX12_changes_175 rfl rfl rfl ?_
      refine j_callV_v (pc' := 179) (As := [.int p1, .int p2, .int p3]) (st := []) hC (M_at_0 d _) rfl (kX12_lays l d A _ _ _ _) (jgV ml_X12_158 im_X12_lays se_X12_lays in_X12 cd_X12_lays) rfl rfl rfl hyV_X12_lays ⟨Nat.le_of_ble_eq_true rfl, Nat.le_of_ble_eq_true rfl⟩ rfl rfl (Nat.le_of_ble_eq_true rfl) dX12_changes_176 rfl (fun q8 => ?_)
      refine j_iload (pc' := 181) hC 4 dX12_changes_179 rfl rfl ?_
      exact j_ret_i hC dX12_changes_181
    · refine j_icmp_ne (pc' := 31) (tgt := 121) hC dX12_changes_28 (by decide) rfl ?_ ?_
      · exact j_lv (lv' := [(0, .ref (d.2.1 0)), (1, .int p1), (2, .int p2), (3, .int p3), (4, .int q1)]) [1, 2, 3, 4, 0] rfl (hj121 σ2)
      · refine j_iconst (pc' := 32) (v := (1 : Int32)) hC dX12_changes_31 (by decide) rfl ?_
        refine j_istore (pc' := 34) (lv' := [(5, .int (1 : Int32)), (4, .int q1), (0, .ref (d.2.1 0)), (1, .int p1), (2, .int p2), (3, .int p3)]) hC dX12_changes_32 (by decide) rfl rfl ?_
        refine j_let 111 (fun a111 => a111) (fun a111 => [(0, .ref (d.2.1 0)), (1, .int p1), (2, .int p2), (3, .int p3), (4, .int q1)]) (fun a111 => []) (fun a111 => ?_) (fun j111 hj111 => ?_)
        · refine j_aload_n (pc' := 112) hC 0 dX12_changes_111 rfl rfl rfl ?_
          refine j_dup (pc' := 113) hC rfl dX12_changes_112 rfl ?_
          refine j_get (pc' := 116) hC ly_X12 (M_at_0 d _) rfl 13 (by decide) fl_X12_155 rfl dX12_changes_113 rfl ?_
          refine j_iconst (pc' := 117) (v := (1 : Int32)) hC dX12_changes_116 (by decide) rfl ?_
          refine j_isub (pc' := 118) hC dX12_changes_117 rfl ?_
          refine j_put (pc' := 121) hC ly_X12 tyX12 tyX12_ok nmX12 (M_at_0 d _) rfl 13 (by decide) fl_X12_155 rfl rfl rfl rfl (Nat.le_of_ble_eq_true rfl) (M_sf_0_13 d _ _) dX12_changes_118 rfl ?_
          refine j_st (fun σ9 => ?_)
          exact j_lv (lv' := [(0, .ref (d.2.1 0)), (1, .int p1), (2, .int p2), (3, .int p3), (4, .int q1)]) [0, 1, 2, 3, 4] rfl (hj121 σ9)
        · refine j_lv (lv' := [(0, .ref (d.2.1 0)), (1, .int p1), (2, .int p2), (3, .int p3), (4, .int q1), (5, .int (1 : Int32))]) [2, 3, 4, 5, 1, 0] rfl ?_
          refine j_loop 34 (fun a => a.1) (fun a => [(0, .ref (d.2.1 0)), (1, .int p1), (2, .int p2), (3, .int p3), (4, .int q1), (5, .int a.2)]) (fun s34 hs34 a => ?_) jN (σ2, (1 : Int32))
          unfold fX12_changes_B34
          refine j_iload (pc' := 36) hC 5 dX12_changes_34 rfl rfl ?_
          refine j_bipush (pc' := 38) (v := (40 : Int32)) hC dX12_changes_36 (by decide) rfl ?_
          refine j_icmp_ge (pc' := 41) (tgt := 111) hC dX12_changes_38 (by decide) rfl ?_ ?_
          · exact j_lv (lv' := [(0, .ref (d.2.1 0)), (1, .int p1), (2, .int p2), (3, .int p3), (4, .int q1)]) [0, 1, 2, 3, 4] rfl (hj111 a.1)
          · refine j_aload_n (pc' := 42) hC 0 dX12_changes_41 rfl rfl rfl ?_
            refine j_get (pc' := 45) hC ly_X12 (M_at_0 d _) rfl 15 (by decide) fl_X12_38 rfl dX12_changes_42 rfl ?_
            refine j_iload (pc' := 47) hC 5 dX12_changes_45 rfl rfl ?_
            refine j_iconst (pc' := 48) (v := (1 : Int32)) hC dX12_changes_47 (by decide) rfl ?_
            refine j_isub (pc' := 49) hC dX12_changes_48 rfl ?_
            refine j_aload_n (pc' := 50) hC 0 dX12_changes_49 rfl rfl rfl ?_
            refine j_get (pc' := 53) hC ly_X12 (M_at_0 d _) rfl 15 (by decide) fl_X12_38 rfl dX12_changes_50 rfl ?_
            refine j_iload (pc' := 55) hC 5 dX12_changes_53 rfl rfl ?_
            refine j_iald (pc' := 56) hC (M_at_8 d _) dX12_changes_55 rfl ?_
            refine j_iast (pc' := 57) hC (M_at_8 d _) (M_sa_8 d _ _) dX12_changes_56 rfl ?_
            refine j_st (fun σ10 => ?_)
            refine j_aload_n (pc' := 58) hC 0 dX12_changes_57 rfl rfl rfl ?_
            refine j_get (pc' := 61) hC ly_X12 (M_at_0 d _) rfl 16 (by decide) fl_X12_41 rfl dX12_changes_58 rfl ?_
            refine j_iload (pc' := 63) hC 5 dX12_changes_61 rfl rfl ?_
            refine j_iconst (pc' := 64) (v := (1 : Int32)) hC dX12_changes_63 (by decide) rfl ?_
            refine j_isub (pc' := 65) hC dX12_changes_64 rfl ?_
            refine j_aload_n (pc' := 66) hC 0 dX12_changes_65 rfl rfl rfl ?_
            refine j_get (pc' := 69) hC ly_X12 (M_at_0 d _) rfl 16 (by decide) fl_X12_41 rfl dX12_changes_66 rfl ?_
            refine j_iload (pc' := 71) hC 5 dX12_changes_69 rfl rfl ?_
            refine j_iald (pc' := 72) hC (M_at_9 d _) dX12_changes_71 rfl ?_
            refine j_iast (pc' := 73) hC (M_at_9 d _) (M_sa_9 d _ _) dX12_changes_72 rfl ?_
            refine j_st (fun σ11 => ?_)
            refine j_aload_n (pc' := 74) hC 0 dX12_changes_73 rfl rfl rfl ?_
            refine j_get (pc' := 77) hC ly_X12 (M_at_0 d _) rfl 17 (by decide) fl_X12_44 rfl dX12_changes_74 rfl ?_
            refine j_iload (pc' := 79) hC 5 dX12_changes_77 rfl rfl ?_
            refine j_iconst (pc' := 80) (v := (1 : Int32)) hC dX12_changes_79 (by decide) rfl ?_
            refine j_isub (pc' := 81) hC dX12_changes_80 rfl ?_
            refine j_aload_n (pc' := 82) hC 0 dX12_changes_81 rfl rfl rfl ?_
            refine j_get (pc' := 85) hC ly_X12 (M_at_0 d _) rfl 17 (by decide) fl_X12_44 rfl dX12_changes_82 rfl ?_
            refine j_iload (pc' := 87) hC 5 dX12_changes_85 rfl rfl ?_
            refine j_iald (pc' := 88) hC (M_at_10 d _) dX12_changes_87 rfl ?_
            refine j_iast (pc' := 89) hC (M_at_10 d _) (M_sa_10 d _ _) dX12_changes_88 rfl ?_
            refine j_st (fun σ12 => ?_)
            refine j_aload_n (pc' := 90) hC 0 dX12_changes_89 rfl rfl rfl ?_
            refine j_get (pc' := 93) hC ly_X12 (M_at_0 d _) rfl 18 (by decide) fl_X12_47 rfl dX12_changes_90 rfl ?_
            refine j_iload (pc' := 95) hC 5 dX12_changes_93 rfl rfl ?_
            refine j_iconst (pc' := 96) (v := (1 : Int32)) hC dX12_changes_95 (by decide) rfl ?_
            refine j_isub (pc' := 97) hC dX12_changes_96 rfl ?_
            refine j_aload_n (pc' := 98) hC 0 dX12_changes_97 rfl rfl rfl ?_
            refine j_get (pc' := 101) hC ly_X12 (M_at_0 d _) rfl 18 (by decide) fl_X12_47 rfl dX12_changes_98 rfl ?_
            refine j_iload (pc' := 103) hC 5 dX12_changes_101 rfl rfl ?_
            refine j_iald (pc' := 104) hC (M_at_11 d _) dX12_changes_103 rfl ?_
            refine j_iast (pc' := 105) hC (M_at_11 d _) (M_sa_11 d _ _) dX12_changes_104 rfl ?_
            refine j_st (fun σ13 => ?_)
            refine j_iinc (pc' := 108) (v := (a.2 + (1 : Int32))) (lv' := [(5, .int (a.2 + (1 : Int32))), (0, .ref (d.2.1 0)), (1, .int p1), (2, .int p2), (3, .int p3), (4, .int q1)]) hC 5 dX12_changes_105 rfl (by decide) rfl rfl rfl ?_
            refine j_goto (tgt := 34) hC dX12_changes_108 (by decide) ?_
            exact j_lv (lv' := [(0, .ref (d.2.1 0)), (1, .int p1), (2, .int p2), (3, .int p3), (4, .int q1), (5, .int (a.2 + (1 : Int32)))]) [1, 2, 3, 4, 5, 0] rfl (hs34 (σ13, (a.2 + (1 : Int32))))
  · refine j_iload (pc' := 16) hC 0 dX12_changes_14 rfl rfl ?_
    exact j_ret_i hC dX12_changes_16
theorem hyV_X12_undo : yX12_undo.cls = RX12 ∧ yX12_undo.cls ≠ "java/lang/invoke/MethodHandle" ∧ yX12_undo.cls ≠ "java/lang/invoke/VarHandle" ∧ (parseMethodDescriptor yX12_undo.desc).map (fun d => d.parameters.length) = some 0 := ⟨rfl, by decide +kernel, by decide +kernel, by decide +kernel⟩
noncomputable def fX12_undo (σ : jS) : Option (Int32 × jS) :=
  (if (σ.1 0 13) = 0 then (some ((-5 : Int32), σ)) else (jst (ju σ 0 13 ((σ.1 0 13) - (1 : Int32))) fun (σ1 : jS) => (jst (ju σ1 0 14 ((σ1.1 0 14) + (1 : Int32))) fun (σ2 : jS) => (ob (σ2.1 0 13) 40 (ob (σ2.1 0 13) 40 (ob (σ2.1 0 13) 40 (Option.bind (fX12_lays σ2 (σ2.1 8 ((σ2.1 0 13)).toNatClampNeg) (σ2.1 9 ((σ2.1 0 13)).toNatClampNeg) (σ2.1 10 ((σ2.1 0 13)).toNatClampNeg)) fun (q3 : jS) => (some ((q3.1 0 13), q3)))))))))
set_option maxRecDepth 100000 in
set_option maxHeartbeats 4000000 in
theorem kX12_undo (l : Launch) (d : jD) (A : Nat → Prop) (σ : jS) : jMi l yX12_undo (jws yX12_undo cX12_undo 1 (some (.int))) { frames := 3, cells := 0, slots := 0, locals := 153 } d wM A [.ref (d.2.1 0)] σ (fX12_undo σ) := by
  refine jStart_i (lv0 := [(0, .ref (d.2.1 0))]) (by decide) rfl (Nat.le_of_ble_eq_true rfl) rfl (fun z hC res => ?_)
  unfold fX12_undo
  refine j_aload_n (pc' := 1) hC 0 dX12_undo_0 rfl rfl rfl ?_
  refine j_get (pc' := 4) hC ly_X12 (M_at_0 d _) rfl 13 (by decide) fl_X12_155 rfl dX12_undo_1 rfl ?_
  refine j_if_ne (pc' := 7) (tgt := 10) hC dX12_undo_4 (by decide) rfl ?_ ?_
  · refine j_aload_n (pc' := 11) hC 0 dX12_undo_10 rfl rfl rfl ?_
    refine j_dup (pc' := 12) hC rfl dX12_undo_11 rfl ?_
    refine j_get (pc' := 15) hC ly_X12 (M_at_0 d _) rfl 13 (by decide) fl_X12_155 rfl dX12_undo_12 rfl ?_
    refine j_iconst (pc' := 16) (v := (1 : Int32)) hC dX12_undo_15 (by decide) rfl ?_
    refine j_isub (pc' := 17) hC dX12_undo_16 rfl ?_
    refine j_put (pc' := 20) hC ly_X12 tyX12 tyX12_ok nmX12 (M_at_0 d _) rfl 13 (by decide) fl_X12_155 rfl rfl rfl rfl (Nat.le_of_ble_eq_true rfl) (M_sf_0_13 d _ _) dX12_undo_17 rfl ?_
    refine j_st (fun σ1 => ?_)
    refine j_aload_n (pc' := 21) hC 0 dX12_undo_20 rfl rfl rfl ?_
    refine j_dup (pc' := 22) hC rfl dX12_undo_21 rfl ?_
    refine j_get (pc' := 25) hC ly_X12 (M_at_0 d _) rfl 14 (by decide) fl_X12_152 rfl dX12_undo_22 rfl ?_
    refine j_iconst (pc' := 26) (v := (1 : Int32)) hC dX12_undo_25 (by decide) rfl ?_
    refine j_iadd (pc' := 27) hC dX12_undo_26 rfl ?_
    refine j_put (pc' := 30) hC ly_X12 tyX12 tyX12_ok nmX12 (M_at_0 d _) rfl 14 (by decide) fl_X12_152 rfl rfl rfl rfl (Nat.le_of_ble_eq_true rfl) (M_sf_0_14 d _ _) dX12_undo_27 rfl ?_
    refine j_st (fun σ2 => ?_)
    refine j_aload_n (pc' := 31) hC 0 dX12_undo_30 rfl rfl rfl ?_
    refine j_aload_n (pc' := 32) hC 0 dX12_undo_31 rfl rfl rfl ?_
    refine j_get (pc' := 35) hC ly_X12 (M_at_0 d _) rfl 15 (by decide) fl_X12_38 rfl dX12_undo_32 rfl ?_
    refine j_aload_n (pc' := 36) hC 0 dX12_undo_35 rfl rfl rfl ?_
    refine j_get (pc' := 39) hC ly_X12 (M_at_0 d _) rfl 13 (by decide) fl_X12_155 rfl dX12_undo_36 rfl ?_
    refine j_iald (pc' := 40) hC (M_at_8 d _) dX12_undo_39 rfl ?_
    refine j_aload_n (pc' := 41) hC 0 dX12_undo_40 rfl rfl rfl ?_
    refine j_get (pc' := 44) hC ly_X12 (M_at_0 d _) rfl 16 (by decide) fl_X12_41 rfl dX12_undo_41 rfl ?_
    refine j_aload_n (pc' := 45) hC 0 dX12_undo_44 rfl rfl rfl ?_
    refine j_get (pc' := 48) hC ly_X12 (M_at_0 d _) rfl 13 (by decide) fl_X12_155 rfl dX12_undo_45 rfl ?_
    refine j_iald (pc' := 49) hC (M_at_9 d _) dX12_undo_48 rfl ?_
    refine j_aload_n (pc' := 50) hC 0 dX12_undo_49 rfl rfl rfl ?_
    refine j_get (pc' := 53) hC ly_X12 (M_at_0 d _) rfl 17 (by decide) fl_X12_44 rfl dX12_undo_50 rfl ?_
    refine j_aload_n (pc' := 54) hC 0 dX12_undo_53 rfl rfl rfl ?_
    refine j_get (pc' := 57) hC ly_X12 (M_at_0 d _) rfl 13 (by decide) fl_X12_155 rfl dX12_undo_54 rfl ?_
    refine j_iald (pc' := 58) hC (M_at_10 d _) dX12_undo_57 rfl ?_
    refine j_callV_v (pc' := 61) (As := [.int (σ2.1 8 ((σ2.1 0 13)).toNatClampNeg), .int (σ2.1 9 ((σ2.1 0 13)).toNatClampNeg), .int (σ2.1 10 ((σ2.1 0 13)).toNatClampNeg)]) (st := []) hC (M_at_0 d _) rfl (kX12_lays l d A _ _ _ _) (jgV ml_X12_158 im_X12_lays se_X12_lays in_X12 cd_X12_lays) rfl rfl rfl hyV_X12_lays ⟨Nat.le_of_ble_eq_true rfl, Nat.le_of_ble_eq_true rfl⟩ rfl rfl (Nat.le_of_ble_eq_true rfl) dX12_undo_58 rfl (fun q3 => ?_)
    refine j_aload_n (pc' := 62) hC 0 dX12_undo_61 rfl rfl rfl ?_
    refine j_get (pc' := 65) hC ly_X12 (M_at_0 d _) rfl 13 (by decide) fl_X12_155 rfl dX12_undo_62 rfl ?_
    exact j_ret_i hC dX12_undo_65
  · refine j_bipush (pc' := 9) (v := (-5 : Int32)) hC dX12_undo_7 (by decide) rfl ?_
    exact j_ret_i hC dX12_undo_9
theorem hyV_X12_redo : yX12_redo.cls = RX12 ∧ yX12_redo.cls ≠ "java/lang/invoke/MethodHandle" ∧ yX12_redo.cls ≠ "java/lang/invoke/VarHandle" ∧ (parseMethodDescriptor yX12_redo.desc).map (fun d => d.parameters.length) = some 0 := ⟨rfl, by decide +kernel, by decide +kernel, by decide +kernel⟩
noncomputable def fX12_redo (σ : jS) : Option (Int32 × jS) :=
  (if (σ.1 0 14) = 0 then (some ((-5 : Int32), σ)) else (ob (σ.1 0 13) 40 (ob (σ.1 0 13) 40 (ob (σ.1 0 13) 40 (Option.bind (fX12_lays σ (σ.1 8 ((σ.1 0 13)).toNatClampNeg) (σ.1 9 ((σ.1 0 13)).toNatClampNeg) (σ.1 11 ((σ.1 0 13)).toNatClampNeg)) fun (q1 : jS) => (jst (ju q1 0 13 ((q1.1 0 13) + (1 : Int32))) fun (σ2 : jS) => (jst (ju σ2 0 14 ((σ2.1 0 14) - (1 : Int32))) fun (σ3 : jS) => (some ((σ3.1 0 14), σ3)))))))))
set_option maxRecDepth 100000 in
set_option maxHeartbeats 4000000 in
theorem kX12_redo (l : Launch) (d : jD) (A : Nat → Prop) (σ : jS) : jMi l yX12_redo (jws yX12_redo cX12_redo 1 (some (.int))) { frames := 3, cells := 0, slots := 0, locals := 153 } d wM A [.ref (d.2.1 0)] σ (fX12_redo σ) := by
  refine jStart_i (lv0 := [(0, .ref (d.2.1 0))]) (by decide) rfl (Nat.le_of_ble_eq_true rfl) rfl (fun z hC res => ?_)
  unfold fX12_redo
  refine j_aload_n (pc' := 1) hC 0 dX12_redo_0 rfl rfl rfl ?_
  refine j_get (pc' := 4) hC ly_X12 (M_at_0 d _) rfl 14 (by decide) fl_X12_152 rfl dX12_redo_1 rfl ?_
  refine j_if_ne (pc' := 7) (tgt := 10) hC dX12_redo_4 (by decide) rfl ?_ ?_
  · refine j_aload_n (pc' := 11) hC 0 dX12_redo_10 rfl rfl rfl ?_
    refine j_aload_n (pc' := 12) hC 0 dX12_redo_11 rfl rfl rfl ?_
    refine j_get (pc' := 15) hC ly_X12 (M_at_0 d _) rfl 15 (by decide) fl_X12_38 rfl dX12_redo_12 rfl ?_
    refine j_aload_n (pc' := 16) hC 0 dX12_redo_15 rfl rfl rfl ?_
    refine j_get (pc' := 19) hC ly_X12 (M_at_0 d _) rfl 13 (by decide) fl_X12_155 rfl dX12_redo_16 rfl ?_
    refine j_iald (pc' := 20) hC (M_at_8 d _) dX12_redo_19 rfl ?_
    refine j_aload_n (pc' := 21) hC 0 dX12_redo_20 rfl rfl rfl ?_
    refine j_get (pc' := 24) hC ly_X12 (M_at_0 d _) rfl 16 (by decide) fl_X12_41 rfl dX12_redo_21 rfl ?_
    refine j_aload_n (pc' := 25) hC 0 dX12_redo_24 rfl rfl rfl ?_
    refine j_get (pc' := 28) hC ly_X12 (M_at_0 d _) rfl 13 (by decide) fl_X12_155 rfl dX12_redo_25 rfl ?_
    refine j_iald (pc' := 29) hC (M_at_9 d _) dX12_redo_28 rfl ?_
    refine j_aload_n (pc' := 30) hC 0 dX12_redo_29 rfl rfl rfl ?_
    refine j_get (pc' := 33) hC ly_X12 (M_at_0 d _) rfl 18 (by decide) fl_X12_47 rfl dX12_redo_30 rfl ?_
    refine j_aload_n (pc' := 34) hC 0 dX12_redo_33 rfl rfl rfl ?_
    refine j_get (pc' := 37) hC ly_X12 (M_at_0 d _) rfl 13 (by decide) fl_X12_155 rfl dX12_redo_34 rfl ?_
    refine j_iald (pc' := 38) hC (M_at_11 d _) dX12_redo_37 rfl ?_
    refine j_callV_v (pc' := 41) (As := [.int (σ.1 8 ((σ.1 0 13)).toNatClampNeg), .int (σ.1 9 ((σ.1 0 13)).toNatClampNeg), .int (σ.1 11 ((σ.1 0 13)).toNatClampNeg)]) (st := []) hC (M_at_0 d _) rfl (kX12_lays l d A _ _ _ _) (jgV ml_X12_158 im_X12_lays se_X12_lays in_X12 cd_X12_lays) rfl rfl rfl hyV_X12_lays ⟨Nat.le_of_ble_eq_true rfl, Nat.le_of_ble_eq_true rfl⟩ rfl rfl (Nat.le_of_ble_eq_true rfl) dX12_redo_38 rfl (fun q1 => ?_)
    refine j_aload_n (pc' := 42) hC 0 dX12_redo_41 rfl rfl rfl ?_
    refine j_dup (pc' := 43) hC rfl dX12_redo_42 rfl ?_
    refine j_get (pc' := 46) hC ly_X12 (M_at_0 d _) rfl 13 (by decide) fl_X12_155 rfl dX12_redo_43 rfl ?_
    refine j_iconst (pc' := 47) (v := (1 : Int32)) hC dX12_redo_46 (by decide) rfl ?_
    refine j_iadd (pc' := 48) hC dX12_redo_47 rfl ?_
    refine j_put (pc' := 51) hC ly_X12 tyX12 tyX12_ok nmX12 (M_at_0 d _) rfl 13 (by decide) fl_X12_155 rfl rfl rfl rfl (Nat.le_of_ble_eq_true rfl) (M_sf_0_13 d _ _) dX12_redo_48 rfl ?_
    refine j_st (fun σ2 => ?_)
    refine j_aload_n (pc' := 52) hC 0 dX12_redo_51 rfl rfl rfl ?_
    refine j_dup (pc' := 53) hC rfl dX12_redo_52 rfl ?_
    refine j_get (pc' := 56) hC ly_X12 (M_at_0 d _) rfl 14 (by decide) fl_X12_152 rfl dX12_redo_53 rfl ?_
    refine j_iconst (pc' := 57) (v := (1 : Int32)) hC dX12_redo_56 (by decide) rfl ?_
    refine j_isub (pc' := 58) hC dX12_redo_57 rfl ?_
    refine j_put (pc' := 61) hC ly_X12 tyX12 tyX12_ok nmX12 (M_at_0 d _) rfl 14 (by decide) fl_X12_152 rfl rfl rfl rfl (Nat.le_of_ble_eq_true rfl) (M_sf_0_14 d _ _) dX12_redo_58 rfl ?_
    refine j_st (fun σ3 => ?_)
    refine j_aload_n (pc' := 62) hC 0 dX12_redo_61 rfl rfl rfl ?_
    refine j_get (pc' := 65) hC ly_X12 (M_at_0 d _) rfl 14 (by decide) fl_X12_152 rfl dX12_redo_62 rfl ?_
    exact j_ret_i hC dX12_redo_65
  · refine j_bipush (pc' := 9) (v := (-5 : Int32)) hC dX12_redo_7 (by decide) rfl ?_
    exact j_ret_i hC dX12_redo_9
theorem hyV_X12_isOne : yX12_isOne.cls = RX12 ∧ yX12_isOne.cls ≠ "java/lang/invoke/MethodHandle" ∧ yX12_isOne.cls ≠ "java/lang/invoke/VarHandle" ∧ (parseMethodDescriptor yX12_isOne.desc).map (fun d => d.parameters.length) = some 2 := ⟨rfl, by decide +kernel, by decide +kernel, by decide +kernel⟩
noncomputable def fX12_isOne (σ : jS) (p1 : Int32) (p2 : Int32) : Option (Int32) :=
  (Option.bind (fX12_in σ p2 (0 : Int32) (5 : Int32)) fun (q1 : Int32) => (if (jb q1) = 0 then (if p2 = (6 : Int32) then (Option.bind (fX12_isSwing σ p1) fun (q3 : Int32) => (some q3)) else (Option.bind (fX12_in σ p2 (7 : Int32) (10 : Int32)) fun (q2 : Int32) => (if (jb q2) = 0 then (some (0 : Int32)) else (if p1 = 0 then (some (1 : Int32)) else (some (0 : Int32)))))) else (Option.bind (fX12_isChild σ p1) fun (q4 : Int32) => (some q4))))
set_option maxRecDepth 100000 in
set_option maxHeartbeats 4000000 in
theorem kX12_isOne (l : Launch) (d : jD) (A : Nat → Prop) (σ : jS) (p1 : Int32) (p2 : Int32) : jMzr l yX12_isOne (jws yX12_isOne cX12_isOne 3 (some (.boolean))) { frames := 4, cells := 0, slots := 0, locals := 173 } d wM A [.ref (d.2.1 0), .int p1, .int p2] σ (fX12_isOne σ p1 p2) := by
  refine jStart_zr (lv0 := [(0, .ref (d.2.1 0)), (1, .int p1), (2, .int p2)]) (by decide) rfl (Nat.le_of_ble_eq_true rfl) rfl (fun z hC res => ?_)
  unfold fX12_isOne
  refine j_iload_n (pc' := 1) hC 2 dX12_isOne_0 rfl rfl rfl ?_
  refine j_iconst (pc' := 2) (v := (0 : Int32)) hC dX12_isOne_1 (by decide) rfl ?_
  refine j_iconst (pc' := 3) (v := (5 : Int32)) hC dX12_isOne_2 (by decide) rfl ?_
  refine j_callS_zr (pc' := 6) (As := [.int p2, .int (0 : Int32), .int (5 : Int32)]) (st := []) hC (kX12_in l d A _ _ _ _) (jgS ml_X12_128 st_X12_in in_X12 cd_X12_in) rfl rfl rfl hyS_X12_in ⟨Nat.le_of_ble_eq_true rfl, Nat.le_of_ble_eq_true rfl⟩ rfl rfl (Nat.le_of_ble_eq_true rfl) dX12_isOne_3 rfl (fun q1 => ?_)
  refine j_if_eq (pc' := 9) (tgt := 15) hC dX12_isOne_6 (by decide) rfl ?_ ?_
  · refine j_iload_n (pc' := 16) hC 2 dX12_isOne_15 rfl rfl rfl ?_
    refine j_bipush (pc' := 18) (v := (6 : Int32)) hC dX12_isOne_16 (by decide) rfl ?_
    refine j_icmp_ne (pc' := 21) (tgt := 26) hC dX12_isOne_18 (by decide) rfl ?_ ?_
    · refine j_iload_n (pc' := 27) hC 2 dX12_isOne_26 rfl rfl rfl ?_
      refine j_bipush (pc' := 29) (v := (7 : Int32)) hC dX12_isOne_27 (by decide) rfl ?_
      refine j_bipush (pc' := 31) (v := (10 : Int32)) hC dX12_isOne_29 (by decide) rfl ?_
      refine j_callS_zr (pc' := 34) (As := [.int p2, .int (7 : Int32), .int (10 : Int32)]) (st := []) hC (kX12_in l d A _ _ _ _) (jgS ml_X12_128 st_X12_in in_X12 cd_X12_in) rfl rfl rfl hyS_X12_in ⟨Nat.le_of_ble_eq_true rfl, Nat.le_of_ble_eq_true rfl⟩ rfl rfl (Nat.le_of_ble_eq_true rfl) dX12_isOne_31 rfl (fun q2 => ?_)
      refine j_if_eq (pc' := 37) (tgt := 45) hC dX12_isOne_34 (by decide) rfl ?_ ?_
      · refine j_iconst (pc' := 46) (v := (0 : Int32)) hC dX12_isOne_45 (by decide) rfl ?_
        exact j_ret_zr hC (by decide) dX12_isOne_46
      · refine j_iload_n (pc' := 38) hC 1 dX12_isOne_37 rfl rfl rfl ?_
        refine j_if_ne (pc' := 41) (tgt := 45) hC dX12_isOne_38 (by decide) rfl ?_ ?_
        · refine j_iconst (pc' := 46) (v := (0 : Int32)) hC dX12_isOne_45 (by decide) rfl ?_
          exact j_ret_zr hC (by decide) dX12_isOne_46
        · refine j_iconst (pc' := 42) (v := (1 : Int32)) hC dX12_isOne_41 (by decide) rfl ?_
          refine j_goto (tgt := 46) hC dX12_isOne_42 (by decide) ?_
          exact j_ret_zr hC (by decide) dX12_isOne_46
    · refine j_iload_n (pc' := 22) hC 1 dX12_isOne_21 rfl rfl rfl ?_
      refine j_callS_zr (pc' := 25) (As := [.int p1]) (st := []) hC (kX12_isSwing l d A _ _) (jgS ml_X12_165 st_X12_isSwing in_X12 cd_X12_isSwing) rfl rfl rfl hyS_X12_isSwing ⟨Nat.le_of_ble_eq_true rfl, Nat.le_of_ble_eq_true rfl⟩ rfl rfl (Nat.le_of_ble_eq_true rfl) dX12_isOne_22 rfl (fun q3 => ?_)
      exact j_ret_zr hC rfl dX12_isOne_25
  · refine j_aload_n (pc' := 10) hC 0 dX12_isOne_9 rfl rfl rfl ?_
    refine j_iload_n (pc' := 11) hC 1 dX12_isOne_10 rfl rfl rfl ?_
    refine j_callV_zr (pc' := 14) (As := [.int p1]) (st := []) hC (M_at_0 d _) rfl (kX12_isChild l d A _ _) (jgV ml_X12_162 im_X12_isChild se_X12_isChild in_X12 cd_X12_isChild) rfl rfl rfl hyV_X12_isChild ⟨Nat.le_of_ble_eq_true rfl, Nat.le_of_ble_eq_true rfl⟩ rfl rfl (Nat.le_of_ble_eq_true rfl) dX12_isOne_11 rfl (fun q4 => ?_)
    exact j_ret_zr hC rfl dX12_isOne_14
theorem hyV_X12_mayBe : yX12_mayBe.cls = RX12 ∧ yX12_mayBe.cls ≠ "java/lang/invoke/MethodHandle" ∧ yX12_mayBe.cls ≠ "java/lang/invoke/VarHandle" ∧ (parseMethodDescriptor yX12_mayBe.desc).map (fun d => d.parameters.length) = some 3 := ⟨rfl, by decide +kernel, by decide +kernel, by decide +kernel⟩
noncomputable def fX12_mayBe (σ : jS) (p1 : Int32) (p2 : Int32) (p3 : Int32) : Option (Int32) :=
  (if p2 = (0 : Int32) then (Option.bind (fX12_in σ p3 (1 : Int32) (9 : Int32)) fun (q1 : Int32) => (some q1)) else (if p2 = (1 : Int32) then (Option.bind (fX12_in σ p3 (0 : Int32) (3 : Int32)) fun (q2 : Int32) => (some q2)) else (if p2 = (2 : Int32) then (Option.bind (fX12_in σ p3 (0 : Int32) (9 : Int32)) fun (q3 : Int32) => (some q3)) else (if p2 = (3 : Int32) then (Option.bind (fX12_in σ p3 (0 : Int32) (3 : Int32)) fun (q4 : Int32) => (some q4)) else (if p2 = (4 : Int32) then (if p3 = (9 : Int32) then (some (1 : Int32)) else (Option.bind (fX12_isChild σ p3) fun (q5 : Int32) => (if (jb q5) = 0 then (some (0 : Int32)) else (if p3 = p1 then (some (0 : Int32)) else (some (1 : Int32)))))) else (if p2 = (5 : Int32) then (Option.bind (fX12_in σ p3 (0 : Int32) (3 : Int32)) fun (q6 : Int32) => (some q6)) else (if p2 = (6 : Int32) then (Option.bind (fX12_in σ p3 (1 : Int32) (9 : Int32)) fun (q7 : Int32) => (some q7)) else (if p2 = (7 : Int32) then (Option.bind (fX12_in σ p3 (0 : Int32) (3 : Int32)) fun (q8 : Int32) => (some q8)) else (if p2 = (8 : Int32) then (Option.bind (fX12_in σ p3 (1 : Int32) (30 : Int32)) fun (q9 : Int32) => (some q9)) else (if p2 = (9 : Int32) then (Option.bind (fX12_in σ p3 (0 : Int32) (200 : Int32)) fun (q10 : Int32) => (some q10)) else (Option.bind (fX12_in σ p3 (0 : Int32) (12 : Int32)) fun (q11 : Int32) => (some q11))))))))))))
set_option maxRecDepth 100000 in
set_option maxHeartbeats 4000000 in
theorem kX12_mayBe (l : Launch) (d : jD) (A : Nat → Prop) (σ : jS) (p1 : Int32) (p2 : Int32) (p3 : Int32) : jMzr l yX12_mayBe (jws yX12_mayBe cX12_mayBe 4 (some (.boolean))) { frames := 4, cells := 0, slots := 0, locals := 173 } d wM A [.ref (d.2.1 0), .int p1, .int p2, .int p3] σ (fX12_mayBe σ p1 p2 p3) := by
  refine jStart_zr (lv0 := [(0, .ref (d.2.1 0)), (1, .int p1), (2, .int p2), (3, .int p3)]) (by decide) rfl (Nat.le_of_ble_eq_true rfl) rfl (fun z hC res => ?_)
  unfold fX12_mayBe
  refine j_iload_n (pc' := 1) hC 2 dX12_mayBe_0 rfl rfl rfl ?_
  refine j_if (fun c0 => ?_) (fun c0 => ?_)
  · refine j_tableIn (tgt := 56) (off := 55) hC dX12_mayBe_1 (by rw [c0]; decide) (by rw [c0]; decide) (by rw [c0]; rfl) (by decide) ?_
    refine j_iload_n (pc' := 57) hC 3 dX12_mayBe_56 rfl rfl rfl ?_
    refine j_iconst (pc' := 58) (v := (1 : Int32)) hC dX12_mayBe_57 (by decide) rfl ?_
    refine j_bipush (pc' := 60) (v := (9 : Int32)) hC dX12_mayBe_58 (by decide) rfl ?_
    refine j_callS_zr (pc' := 63) (As := [.int p3, .int (1 : Int32), .int (9 : Int32)]) (st := []) hC (kX12_in l d A _ _ _ _) (jgS ml_X12_128 st_X12_in in_X12 cd_X12_in) rfl rfl rfl hyS_X12_in ⟨Nat.le_of_ble_eq_true rfl, Nat.le_of_ble_eq_true rfl⟩ rfl rfl (Nat.le_of_ble_eq_true rfl) dX12_mayBe_60 rfl (fun q1 => ?_)
    exact j_ret_zr hC rfl dX12_mayBe_63
  refine j_if (fun c1 => ?_) (fun c1 => ?_)
  · refine j_tableIn (tgt := 64) (off := 63) hC dX12_mayBe_1 (by rw [c1]; decide) (by rw [c1]; decide) (by rw [c1]; rfl) (by decide) ?_
    refine j_iload_n (pc' := 65) hC 3 dX12_mayBe_64 rfl rfl rfl ?_
    refine j_iconst (pc' := 66) (v := (0 : Int32)) hC dX12_mayBe_65 (by decide) rfl ?_
    refine j_iconst (pc' := 67) (v := (3 : Int32)) hC dX12_mayBe_66 (by decide) rfl ?_
    refine j_callS_zr (pc' := 70) (As := [.int p3, .int (0 : Int32), .int (3 : Int32)]) (st := []) hC (kX12_in l d A _ _ _ _) (jgS ml_X12_128 st_X12_in in_X12 cd_X12_in) rfl rfl rfl hyS_X12_in ⟨Nat.le_of_ble_eq_true rfl, Nat.le_of_ble_eq_true rfl⟩ rfl rfl (Nat.le_of_ble_eq_true rfl) dX12_mayBe_67 rfl (fun q2 => ?_)
    exact j_ret_zr hC rfl dX12_mayBe_70
  refine j_if (fun c2 => ?_) (fun c2 => ?_)
  · refine j_tableIn (tgt := 71) (off := 70) hC dX12_mayBe_1 (by rw [c2]; decide) (by rw [c2]; decide) (by rw [c2]; rfl) (by decide) ?_
    refine j_iload_n (pc' := 72) hC 3 dX12_mayBe_71 rfl rfl rfl ?_
    refine j_iconst (pc' := 73) (v := (0 : Int32)) hC dX12_mayBe_72 (by decide) rfl ?_
    refine j_bipush (pc' := 75) (v := (9 : Int32)) hC dX12_mayBe_73 (by decide) rfl ?_
    refine j_callS_zr (pc' := 78) (As := [.int p3, .int (0 : Int32), .int (9 : Int32)]) (st := []) hC (kX12_in l d A _ _ _ _) (jgS ml_X12_128 st_X12_in in_X12 cd_X12_in) rfl rfl rfl hyS_X12_in ⟨Nat.le_of_ble_eq_true rfl, Nat.le_of_ble_eq_true rfl⟩ rfl rfl (Nat.le_of_ble_eq_true rfl) dX12_mayBe_75 rfl (fun q3 => ?_)
    exact j_ret_zr hC rfl dX12_mayBe_78
  refine j_if (fun c3 => ?_) (fun c3 => ?_)
  · refine j_tableIn (tgt := 79) (off := 78) hC dX12_mayBe_1 (by rw [c3]; decide) (by rw [c3]; decide) (by rw [c3]; rfl) (by decide) ?_
    refine j_iload_n (pc' := 80) hC 3 dX12_mayBe_79 rfl rfl rfl ?_
    refine j_iconst (pc' := 81) (v := (0 : Int32)) hC dX12_mayBe_80 (by decide) rfl ?_
    refine j_iconst (pc' := 82) (v := (3 : Int32)) hC dX12_mayBe_81 (by decide) rfl ?_
    refine j_callS_zr (pc' := 85) (As := [.int p3, .int (0 : Int32), .int (3 : Int32)]) (st := []) hC (kX12_in l d A _ _ _ _) (jgS ml_X12_128 st_X12_in in_X12 cd_X12_in) rfl rfl rfl hyS_X12_in ⟨Nat.le_of_ble_eq_true rfl, Nat.le_of_ble_eq_true rfl⟩ rfl rfl (Nat.le_of_ble_eq_true rfl) dX12_mayBe_82 rfl (fun q4 => ?_)
    exact j_ret_zr hC rfl dX12_mayBe_85
  refine j_if (fun c4 => ?_) (fun c4 => ?_)
  · refine j_tableIn (tgt := 86) (off := 85) hC dX12_mayBe_1 (by rw [c4]; decide) (by rw [c4]; decide) (by rw [c4]; rfl) (by decide) ?_
    refine j_iload_n (pc' := 87) hC 3 dX12_mayBe_86 rfl rfl rfl ?_
    refine j_bipush (pc' := 89) (v := (9 : Int32)) hC dX12_mayBe_87 (by decide) rfl ?_
    refine j_icmp_eq (pc' := 92) (tgt := 105) hC dX12_mayBe_89 (by decide) rfl ?_ ?_
    · refine j_iconst (pc' := 106) (v := (1 : Int32)) hC dX12_mayBe_105 (by decide) rfl ?_
      refine j_goto (tgt := 110) hC dX12_mayBe_106 (by decide) ?_
      exact j_ret_zr hC (by decide) dX12_mayBe_110
    · refine j_aload_n (pc' := 93) hC 0 dX12_mayBe_92 rfl rfl rfl ?_
      refine j_iload_n (pc' := 94) hC 3 dX12_mayBe_93 rfl rfl rfl ?_
      refine j_callV_zr (pc' := 97) (As := [.int p3]) (st := []) hC (M_at_0 d _) rfl (kX12_isChild l d A _ _) (jgV ml_X12_162 im_X12_isChild se_X12_isChild in_X12 cd_X12_isChild) rfl rfl rfl hyV_X12_isChild ⟨Nat.le_of_ble_eq_true rfl, Nat.le_of_ble_eq_true rfl⟩ rfl rfl (Nat.le_of_ble_eq_true rfl) dX12_mayBe_94 rfl (fun q5 => ?_)
      refine j_if_eq (pc' := 100) (tgt := 109) hC dX12_mayBe_97 (by decide) rfl ?_ ?_
      · refine j_iconst (pc' := 110) (v := (0 : Int32)) hC dX12_mayBe_109 (by decide) rfl ?_
        exact j_ret_zr hC (by decide) dX12_mayBe_110
      · refine j_iload_n (pc' := 101) hC 3 dX12_mayBe_100 rfl rfl rfl ?_
        refine j_iload_n (pc' := 102) hC 1 dX12_mayBe_101 rfl rfl rfl ?_
        refine j_icmp_eq (pc' := 105) (tgt := 109) hC dX12_mayBe_102 (by decide) rfl ?_ ?_
        · refine j_iconst (pc' := 110) (v := (0 : Int32)) hC dX12_mayBe_109 (by decide) rfl ?_
          exact j_ret_zr hC (by decide) dX12_mayBe_110
        · refine j_iconst (pc' := 106) (v := (1 : Int32)) hC dX12_mayBe_105 (by decide) rfl ?_
          refine j_goto (tgt := 110) hC dX12_mayBe_106 (by decide) ?_
          exact j_ret_zr hC (by decide) dX12_mayBe_110
  refine j_if (fun c5 => ?_) (fun c5 => ?_)
  · refine j_tableIn (tgt := 111) (off := 110) hC dX12_mayBe_1 (by rw [c5]; decide) (by rw [c5]; decide) (by rw [c5]; rfl) (by decide) ?_
    refine j_iload_n (pc' := 112) hC 3 dX12_mayBe_111 rfl rfl rfl ?_
    refine j_iconst (pc' := 113) (v := (0 : Int32)) hC dX12_mayBe_112 (by decide) rfl ?_
    refine j_iconst (pc' := 114) (v := (3 : Int32)) hC dX12_mayBe_113 (by decide) rfl ?_
    refine j_callS_zr (pc' := 117) (As := [.int p3, .int (0 : Int32), .int (3 : Int32)]) (st := []) hC (kX12_in l d A _ _ _ _) (jgS ml_X12_128 st_X12_in in_X12 cd_X12_in) rfl rfl rfl hyS_X12_in ⟨Nat.le_of_ble_eq_true rfl, Nat.le_of_ble_eq_true rfl⟩ rfl rfl (Nat.le_of_ble_eq_true rfl) dX12_mayBe_114 rfl (fun q6 => ?_)
    exact j_ret_zr hC rfl dX12_mayBe_117
  refine j_if (fun c6 => ?_) (fun c6 => ?_)
  · refine j_tableIn (tgt := 118) (off := 117) hC dX12_mayBe_1 (by rw [c6]; decide) (by rw [c6]; decide) (by rw [c6]; rfl) (by decide) ?_
    refine j_iload_n (pc' := 119) hC 3 dX12_mayBe_118 rfl rfl rfl ?_
    refine j_iconst (pc' := 120) (v := (1 : Int32)) hC dX12_mayBe_119 (by decide) rfl ?_
    refine j_bipush (pc' := 122) (v := (9 : Int32)) hC dX12_mayBe_120 (by decide) rfl ?_
    refine j_callS_zr (pc' := 125) (As := [.int p3, .int (1 : Int32), .int (9 : Int32)]) (st := []) hC (kX12_in l d A _ _ _ _) (jgS ml_X12_128 st_X12_in in_X12 cd_X12_in) rfl rfl rfl hyS_X12_in ⟨Nat.le_of_ble_eq_true rfl, Nat.le_of_ble_eq_true rfl⟩ rfl rfl (Nat.le_of_ble_eq_true rfl) dX12_mayBe_122 rfl (fun q7 => ?_)
    exact j_ret_zr hC rfl dX12_mayBe_125
  refine j_if (fun c7 => ?_) (fun c7 => ?_)
  · refine j_tableIn (tgt := 126) (off := 125) hC dX12_mayBe_1 (by rw [c7]; decide) (by rw [c7]; decide) (by rw [c7]; rfl) (by decide) ?_
    refine j_iload_n (pc' := 127) hC 3 dX12_mayBe_126 rfl rfl rfl ?_
    refine j_iconst (pc' := 128) (v := (0 : Int32)) hC dX12_mayBe_127 (by decide) rfl ?_
    refine j_iconst (pc' := 129) (v := (3 : Int32)) hC dX12_mayBe_128 (by decide) rfl ?_
    refine j_callS_zr (pc' := 132) (As := [.int p3, .int (0 : Int32), .int (3 : Int32)]) (st := []) hC (kX12_in l d A _ _ _ _) (jgS ml_X12_128 st_X12_in in_X12 cd_X12_in) rfl rfl rfl hyS_X12_in ⟨Nat.le_of_ble_eq_true rfl, Nat.le_of_ble_eq_true rfl⟩ rfl rfl (Nat.le_of_ble_eq_true rfl) dX12_mayBe_129 rfl (fun q8 => ?_)
    exact j_ret_zr hC rfl dX12_mayBe_132
  refine j_if (fun c8 => ?_) (fun c8 => ?_)
  · refine j_tableIn (tgt := 133) (off := 132) hC dX12_mayBe_1 (by rw [c8]; decide) (by rw [c8]; decide) (by rw [c8]; rfl) (by decide) ?_
    refine j_iload_n (pc' := 134) hC 3 dX12_mayBe_133 rfl rfl rfl ?_
    refine j_iconst (pc' := 135) (v := (1 : Int32)) hC dX12_mayBe_134 (by decide) rfl ?_
    refine j_bipush (pc' := 137) (v := (30 : Int32)) hC dX12_mayBe_135 (by decide) rfl ?_
    refine j_callS_zr (pc' := 140) (As := [.int p3, .int (1 : Int32), .int (30 : Int32)]) (st := []) hC (kX12_in l d A _ _ _ _) (jgS ml_X12_128 st_X12_in in_X12 cd_X12_in) rfl rfl rfl hyS_X12_in ⟨Nat.le_of_ble_eq_true rfl, Nat.le_of_ble_eq_true rfl⟩ rfl rfl (Nat.le_of_ble_eq_true rfl) dX12_mayBe_137 rfl (fun q9 => ?_)
    exact j_ret_zr hC rfl dX12_mayBe_140
  refine j_if (fun c9 => ?_) (fun c9 => ?_)
  · refine j_tableIn (tgt := 141) (off := 140) hC dX12_mayBe_1 (by rw [c9]; decide) (by rw [c9]; decide) (by rw [c9]; rfl) (by decide) ?_
    refine j_iload_n (pc' := 142) hC 3 dX12_mayBe_141 rfl rfl rfl ?_
    refine j_iconst (pc' := 143) (v := (0 : Int32)) hC dX12_mayBe_142 (by decide) rfl ?_
    refine j_sipush (pc' := 146) (v := (200 : Int32)) hC dX12_mayBe_143 (by decide) rfl ?_
    refine j_callS_zr (pc' := 149) (As := [.int p3, .int (0 : Int32), .int (200 : Int32)]) (st := []) hC (kX12_in l d A _ _ _ _) (jgS ml_X12_128 st_X12_in in_X12 cd_X12_in) rfl rfl rfl hyS_X12_in ⟨Nat.le_of_ble_eq_true rfl, Nat.le_of_ble_eq_true rfl⟩ rfl rfl (Nat.le_of_ble_eq_true rfl) dX12_mayBe_146 rfl (fun q10 => ?_)
    exact j_ret_zr hC rfl dX12_mayBe_149
  refine j_tableOut (tgt := 150) hC dX12_mayBe_1 (by have e0 := lv_neT c0 (a := 0) rfl; have e1 := lv_neT c1 (a := 1) rfl; have e2 := lv_neT c2 (a := 2) rfl; have e3 := lv_neT c3 (a := 3) rfl; have e4 := lv_neT c4 (a := 4) rfl; have e5 := lv_neT c5 (a := 5) rfl; have e6 := lv_neT c6 (a := 6) rfl; have e7 := lv_neT c7 (a := 7) rfl; have e8 := lv_neT c8 (a := 8) rfl; have e9 := lv_neT c9 (a := 9) rfl; omega) (by decide) ?_
  refine j_iload_n (pc' := 151) hC 3 dX12_mayBe_150 rfl rfl rfl ?_
  refine j_iconst (pc' := 152) (v := (0 : Int32)) hC dX12_mayBe_151 (by decide) rfl ?_
  refine j_bipush (pc' := 154) (v := (12 : Int32)) hC dX12_mayBe_152 (by decide) rfl ?_
  refine j_callS_zr (pc' := 157) (As := [.int p3, .int (0 : Int32), .int (12 : Int32)]) (st := []) hC (kX12_in l d A _ _ _ _) (jgS ml_X12_128 st_X12_in in_X12 cd_X12_in) rfl rfl rfl hyS_X12_in ⟨Nat.le_of_ble_eq_true rfl, Nat.le_of_ble_eq_true rfl⟩ rfl rfl (Nat.le_of_ble_eq_true rfl) dX12_mayBe_154 rfl (fun q11 => ?_)
  exact j_ret_zr hC rfl dX12_mayBe_157
theorem hyV_X12_mend : yX12_mend.cls = RX12 ∧ yX12_mend.cls ≠ "java/lang/invoke/MethodHandle" ∧ yX12_mend.cls ≠ "java/lang/invoke/VarHandle" ∧ (parseMethodDescriptor yX12_mend.desc).map (fun d => d.parameters.length) = some 3 := ⟨rfl, by decide +kernel, by decide +kernel, by decide +kernel⟩
noncomputable def fX12_mend (σ : jS) (p1 : Int32) (p2 : Int32) (p3 : Int32) : Option (Int32 × jS) :=
  (Option.bind (fX12_isOne σ p1 p2) fun (q1 : Int32) => (if (jb q1) = 0 then (some ((-1 : Int32), σ)) else (Option.bind (fX12_mayBe σ p1 p2 p3) fun (q2 : Int32) => (if (jb q2) = 0 then (some ((-1 : Int32), σ)) else (Option.bind (fX12_changes σ p2 p1 p3) fun (q3 : (Int32 × jS)) => (some (q3.1, q3.2)))))))
set_option maxRecDepth 100000 in
set_option maxHeartbeats 4000000 in
theorem kX12_mend (l : Launch) (d : jD) (A : Nat → Prop) (σ : jS) (p1 : Int32) (p2 : Int32) (p3 : Int32) : jMi l yX12_mend (jws yX12_mend cX12_mend 4 (some (.int))) { frames := 5, cells := 0, slots := 0, locals := 196 } d wM A [.ref (d.2.1 0), .int p1, .int p2, .int p3] σ (fX12_mend σ p1 p2 p3) := by
  refine jStart_i (lv0 := [(0, .ref (d.2.1 0)), (1, .int p1), (2, .int p2), (3, .int p3)]) (by decide) rfl (Nat.le_of_ble_eq_true rfl) rfl (fun z hC res => ?_)
  unfold fX12_mend
  refine j_aload_n (pc' := 1) hC 0 dX12_mend_0 rfl rfl rfl ?_
  refine j_iload_n (pc' := 2) hC 1 dX12_mend_1 rfl rfl rfl ?_
  refine j_iload_n (pc' := 3) hC 2 dX12_mend_2 rfl rfl rfl ?_
  refine j_callV_zr (pc' := 6) (As := [.int p1, .int p2]) (st := []) hC (M_at_0 d _) rfl (kX12_isOne l d A _ _ _) (jgV ml_X12_168 im_X12_isOne se_X12_isOne in_X12 cd_X12_isOne) rfl rfl rfl hyV_X12_isOne ⟨Nat.le_of_ble_eq_true rfl, Nat.le_of_ble_eq_true rfl⟩ rfl rfl (Nat.le_of_ble_eq_true rfl) dX12_mend_3 rfl (fun q1 => ?_)
  refine j_if_eq (pc' := 9) (tgt := 29) hC dX12_mend_6 (by decide) rfl ?_ ?_
  · refine j_iconst (pc' := 30) (v := (-1 : Int32)) hC dX12_mend_29 (by decide) rfl ?_
    exact j_ret_i hC dX12_mend_30
  · refine j_aload_n (pc' := 10) hC 0 dX12_mend_9 rfl rfl rfl ?_
    refine j_iload_n (pc' := 11) hC 1 dX12_mend_10 rfl rfl rfl ?_
    refine j_iload_n (pc' := 12) hC 2 dX12_mend_11 rfl rfl rfl ?_
    refine j_iload_n (pc' := 13) hC 3 dX12_mend_12 rfl rfl rfl ?_
    refine j_callV_zr (pc' := 16) (As := [.int p1, .int p2, .int p3]) (st := []) hC (M_at_0 d _) rfl (kX12_mayBe l d A _ _ _ _) (jgV ml_X12_172 im_X12_mayBe se_X12_mayBe in_X12 cd_X12_mayBe) rfl rfl rfl hyV_X12_mayBe ⟨Nat.le_of_ble_eq_true rfl, Nat.le_of_ble_eq_true rfl⟩ rfl rfl (Nat.le_of_ble_eq_true rfl) dX12_mend_13 rfl (fun q2 => ?_)
    refine j_if_eq (pc' := 19) (tgt := 29) hC dX12_mend_16 (by decide) rfl ?_ ?_
    · refine j_iconst (pc' := 30) (v := (-1 : Int32)) hC dX12_mend_29 (by decide) rfl ?_
      exact j_ret_i hC dX12_mend_30
    · refine j_aload_n (pc' := 20) hC 0 dX12_mend_19 rfl rfl rfl ?_
      refine j_iload_n (pc' := 21) hC 2 dX12_mend_20 rfl rfl rfl ?_
      refine j_iload_n (pc' := 22) hC 1 dX12_mend_21 rfl rfl rfl ?_
      refine j_iload_n (pc' := 23) hC 3 dX12_mend_22 rfl rfl rfl ?_
      refine j_callV_i (pc' := 26) (As := [.int p2, .int p1, .int p3]) (st := []) hC (M_at_0 d _) rfl (kX12_changes l d A _ _ _ _) (jgV ml_X12_175 im_X12_changes se_X12_changes in_X12 cd_X12_changes) rfl rfl rfl hyV_X12_changes ⟨Nat.le_of_ble_eq_true rfl, Nat.le_of_ble_eq_true rfl⟩ rfl rfl (Nat.le_of_ble_eq_true rfl) dX12_mend_23 rfl (fun q3 => ?_)
      refine j_goto (tgt := 30) hC dX12_mend_26 (by decide) ?_
      exact j_ret_i hC dX12_mend_30
theorem hyV_X12_of : yX12_of.cls = RX12 ∧ yX12_of.cls ≠ "java/lang/invoke/MethodHandle" ∧ yX12_of.cls ≠ "java/lang/invoke/VarHandle" ∧ (parseMethodDescriptor yX12_of.desc).map (fun d => d.parameters.length) = some 2 := ⟨rfl, by decide +kernel, by decide +kernel, by decide +kernel⟩
noncomputable def fX12_of (σ : jS) (p1 : Int32) (p2 : Int32) : Option (Int32) :=
  (Option.bind (fX12_isOne σ p1 p2) fun (q1 : Int32) => (if (jb q1) = 0 then (some (-1 : Int32)) else (Option.bind (fX12_valueAt σ p2 p1) fun (q2 : Int32) => (some q2))))
set_option maxRecDepth 100000 in
set_option maxHeartbeats 4000000 in
theorem kX12_of (l : Launch) (d : jD) (A : Nat → Prop) (σ : jS) (p1 : Int32) (p2 : Int32) : jMir l yX12_of (jws yX12_of cX12_of 3 (some (.int))) { frames := 5, cells := 0, slots := 0, locals := 195 } d wM A [.ref (d.2.1 0), .int p1, .int p2] σ (fX12_of σ p1 p2) := by
  refine jStart_ir (lv0 := [(0, .ref (d.2.1 0)), (1, .int p1), (2, .int p2)]) (by decide) rfl (Nat.le_of_ble_eq_true rfl) rfl (fun z hC res => ?_)
  unfold fX12_of
  refine j_aload_n (pc' := 1) hC 0 dX12_of_0 rfl rfl rfl ?_
  refine j_iload_n (pc' := 2) hC 1 dX12_of_1 rfl rfl rfl ?_
  refine j_iload_n (pc' := 3) hC 2 dX12_of_2 rfl rfl rfl ?_
  refine j_callV_zr (pc' := 6) (As := [.int p1, .int p2]) (st := []) hC (M_at_0 d _) rfl (kX12_isOne l d A _ _ _) (jgV ml_X12_168 im_X12_isOne se_X12_isOne in_X12 cd_X12_isOne) rfl rfl rfl hyV_X12_isOne ⟨Nat.le_of_ble_eq_true rfl, Nat.le_of_ble_eq_true rfl⟩ rfl rfl (Nat.le_of_ble_eq_true rfl) dX12_of_3 rfl (fun q1 => ?_)
  refine j_if_eq (pc' := 9) (tgt := 18) hC dX12_of_6 (by decide) rfl ?_ ?_
  · refine j_iconst (pc' := 19) (v := (-1 : Int32)) hC dX12_of_18 (by decide) rfl ?_
    exact j_ret_ir hC dX12_of_19
  · refine j_aload_n (pc' := 10) hC 0 dX12_of_9 rfl rfl rfl ?_
    refine j_iload_n (pc' := 11) hC 2 dX12_of_10 rfl rfl rfl ?_
    refine j_iload_n (pc' := 12) hC 1 dX12_of_11 rfl rfl rfl ?_
    refine j_callV_ir (pc' := 15) (As := [.int p2, .int p1]) (st := []) hC (M_at_0 d _) rfl (kX12_valueAt l d A _ _ _) (jgV ml_X12_148 im_X12_valueAt se_X12_valueAt in_X12 cd_X12_valueAt) rfl rfl rfl hyV_X12_valueAt ⟨Nat.le_of_ble_eq_true rfl, Nat.le_of_ble_eq_true rfl⟩ rfl rfl (Nat.le_of_ble_eq_true rfl) dX12_of_12 rfl (fun q2 => ?_)
    refine j_goto (tgt := 19) hC dX12_of_15 (by decide) ?_
    exact j_ret_ir hC dX12_of_19
theorem hyV_X12_feed : yX12_feed.cls = RX12 ∧ yX12_feed.cls ≠ "java/lang/invoke/MethodHandle" ∧ yX12_feed.cls ≠ "java/lang/invoke/VarHandle" ∧ (parseMethodDescriptor yX12_feed.desc).map (fun d => d.parameters.length) = some 1 := ⟨rfl, by decide +kernel, by decide +kernel, by decide +kernel⟩
noncomputable def fX12_feed (σ : jS) (p1 : Int32) : Option (Int32 × jS) :=
  (Option.bind (fX12_in σ p1 (0 : Int32) (255 : Int32)) fun (q1 : Int32) => (if (jb q1) = 0 then (some ((-1 : Int32), σ)) else (if (σ.1 0 20) = (120 : Int32) then (some ((-3 : Int32), σ)) else (ob (σ.1 0 20) 120 (jst (ju σ 12 ((σ.1 0 20)).toNatClampNeg (vp_nar .byte (p1.toInt8.toInt32))) fun (σ2 : jS) => (jst (ju σ2 0 20 ((σ2.1 0 20) + (1 : Int32))) fun (σ3 : jS) => (some ((σ3.1 0 20), σ3))))))))
set_option maxRecDepth 100000 in
set_option maxHeartbeats 4000000 in
theorem kX12_feed (l : Launch) (d : jD) (A : Nat → Prop) (σ : jS) (p1 : Int32) : jMi l yX12_feed (jws yX12_feed cX12_feed 2 (some (.int))) { frames := 3, cells := 0, slots := 0, locals := 152 } d wM A [.ref (d.2.1 0), .int p1] σ (fX12_feed σ p1) := by
  refine jStart_i (lv0 := [(0, .ref (d.2.1 0)), (1, .int p1)]) (by decide) rfl (Nat.le_of_ble_eq_true rfl) rfl (fun z hC res => ?_)
  unfold fX12_feed
  refine j_iload_n (pc' := 1) hC 1 dX12_feed_0 rfl rfl rfl ?_
  refine j_iconst (pc' := 2) (v := (0 : Int32)) hC dX12_feed_1 (by decide) rfl ?_
  refine j_sipush (pc' := 5) (v := (255 : Int32)) hC dX12_feed_2 (by decide) rfl ?_
  refine j_callS_zr (pc' := 8) (As := [.int p1, .int (0 : Int32), .int (255 : Int32)]) (st := []) hC (kX12_in l d A _ _ _ _) (jgS ml_X12_128 st_X12_in in_X12 cd_X12_in) rfl rfl rfl hyS_X12_in ⟨Nat.le_of_ble_eq_true rfl, Nat.le_of_ble_eq_true rfl⟩ rfl rfl (Nat.le_of_ble_eq_true rfl) dX12_feed_5 rfl (fun q1 => ?_)
  refine j_if_ne (pc' := 11) (tgt := 13) hC dX12_feed_8 (by decide) rfl ?_ ?_
  · refine j_aload_n (pc' := 14) hC 0 dX12_feed_13 rfl rfl rfl ?_
    refine j_get (pc' := 17) hC ly_X12 (M_at_0 d _) rfl 20 (by decide) fl_X12_178 rfl dX12_feed_14 rfl ?_
    refine j_bipush (pc' := 19) (v := (120 : Int32)) hC dX12_feed_17 (by decide) rfl ?_
    refine j_icmp_ne (pc' := 22) (tgt := 25) hC dX12_feed_19 (by decide) rfl ?_ ?_
    · refine j_aload_n (pc' := 26) hC 0 dX12_feed_25 rfl rfl rfl ?_
      refine j_get (pc' := 29) hC ly_X12 (M_at_0 d _) rfl 19 (by decide) fl_X12_50 rfl dX12_feed_26 rfl ?_
      refine j_aload_n (pc' := 30) hC 0 dX12_feed_29 rfl rfl rfl ?_
      refine j_get (pc' := 33) hC ly_X12 (M_at_0 d _) rfl 20 (by decide) fl_X12_178 rfl dX12_feed_30 rfl ?_
      refine j_iload_n (pc' := 34) hC 1 dX12_feed_33 rfl rfl rfl ?_
      refine j_i2b (pc' := 35) hC dX12_feed_34 rfl ?_
      refine j_bast (pc' := 36) hC (M_at_12 d _) (M_sa_12 d _ _) dX12_feed_35 rfl ?_
      refine j_st (fun σ2 => ?_)
      refine j_aload_n (pc' := 37) hC 0 dX12_feed_36 rfl rfl rfl ?_
      refine j_dup (pc' := 38) hC rfl dX12_feed_37 rfl ?_
      refine j_get (pc' := 41) hC ly_X12 (M_at_0 d _) rfl 20 (by decide) fl_X12_178 rfl dX12_feed_38 rfl ?_
      refine j_iconst (pc' := 42) (v := (1 : Int32)) hC dX12_feed_41 (by decide) rfl ?_
      refine j_iadd (pc' := 43) hC dX12_feed_42 rfl ?_
      refine j_put (pc' := 46) hC ly_X12 tyX12 tyX12_ok nmX12 (M_at_0 d _) rfl 20 (by decide) fl_X12_178 rfl rfl rfl rfl (Nat.le_of_ble_eq_true rfl) (M_sf_0_20 d _ _) dX12_feed_43 rfl ?_
      refine j_st (fun σ3 => ?_)
      refine j_aload_n (pc' := 47) hC 0 dX12_feed_46 rfl rfl rfl ?_
      refine j_get (pc' := 50) hC ly_X12 (M_at_0 d _) rfl 20 (by decide) fl_X12_178 rfl dX12_feed_47 rfl ?_
      exact j_ret_i hC dX12_feed_50
    · refine j_bipush (pc' := 24) (v := (-3 : Int32)) hC dX12_feed_22 (by decide) rfl ?_
      exact j_ret_i hC dX12_feed_24
  · refine j_iconst (pc' := 12) (v := (-1 : Int32)) hC dX12_feed_11 (by decide) rfl ?_
    exact j_ret_i hC dX12_feed_12
theorem hyV_X12_look : yX12_look.cls = RX12 ∧ yX12_look.cls ≠ "java/lang/invoke/MethodHandle" ∧ yX12_look.cls ≠ "java/lang/invoke/VarHandle" ∧ (parseMethodDescriptor yX12_look.desc).map (fun d => d.parameters.length) = some 0 := ⟨rfl, by decide +kernel, by decide +kernel, by decide +kernel⟩
noncomputable def fX12_look (σ : jS) : Option (Int32) :=
  (if (σ.1 0 20) ≤ (σ.1 0 21) then (some (-1 : Int32)) else (ob (σ.1 0 21) 120 (some (σ.1 12 ((σ.1 0 21)).toNatClampNeg))))
set_option maxRecDepth 100000 in
set_option maxHeartbeats 4000000 in
theorem kX12_look (l : Launch) (d : jD) (A : Nat → Prop) (σ : jS) : jMir l yX12_look (jws yX12_look cX12_look 1 (some (.int))) { frames := 2, cells := 0, slots := 0, locals := 130 } d wM A [.ref (d.2.1 0)] σ (fX12_look σ) := by
  refine jStart_ir (lv0 := [(0, .ref (d.2.1 0))]) (by decide) rfl (Nat.le_of_ble_eq_true rfl) rfl (fun z hC res => ?_)
  unfold fX12_look
  refine j_aload_n (pc' := 1) hC 0 dX12_look_0 rfl rfl rfl ?_
  refine j_get (pc' := 4) hC ly_X12 (M_at_0 d _) rfl 21 (by decide) fl_X12_181 rfl dX12_look_1 rfl ?_
  refine j_aload_n (pc' := 5) hC 0 dX12_look_4 rfl rfl rfl ?_
  refine j_get (pc' := 8) hC ly_X12 (M_at_0 d _) rfl 20 (by decide) fl_X12_178 rfl dX12_look_5 rfl ?_
  refine j_icmp_ge (pc' := 11) (tgt := 23) hC dX12_look_8 (by decide) rfl ?_ ?_
  · refine j_iconst (pc' := 24) (v := (-1 : Int32)) hC dX12_look_23 (by decide) rfl ?_
    exact j_ret_ir hC dX12_look_24
  · refine j_aload_n (pc' := 12) hC 0 dX12_look_11 rfl rfl rfl ?_
    refine j_get (pc' := 15) hC ly_X12 (M_at_0 d _) rfl 19 (by decide) fl_X12_50 rfl dX12_look_12 rfl ?_
    refine j_aload_n (pc' := 16) hC 0 dX12_look_15 rfl rfl rfl ?_
    refine j_get (pc' := 19) hC ly_X12 (M_at_0 d _) rfl 21 (by decide) fl_X12_181 rfl dX12_look_16 rfl ?_
    refine j_bald (pc' := 20) hC (M_at_12 d _) dX12_look_19 rfl ?_
    refine j_goto (tgt := 24) hC dX12_look_20 (by decide) ?_
    exact j_ret_ir hC dX12_look_24
theorem hyV_X12_faulty : yX12_faulty.cls = RX12 ∧ yX12_faulty.cls ≠ "java/lang/invoke/MethodHandle" ∧ yX12_faulty.cls ≠ "java/lang/invoke/VarHandle" ∧ (parseMethodDescriptor yX12_faulty.desc).map (fun d => d.parameters.length) = some 0 := ⟨rfl, by decide +kernel, by decide +kernel, by decide +kernel⟩
noncomputable def fX12_faulty (σ : jS) : Option (jS) :=
  (if 0 ≤ (σ.1 0 22) then (some σ) else (jst (ju σ 0 22 (σ.1 0 21)) fun (σ1 : jS) => (some σ1)))
set_option maxRecDepth 100000 in
set_option maxHeartbeats 4000000 in
theorem kX12_faulty (l : Launch) (d : jD) (A : Nat → Prop) (σ : jS) : jMv l yX12_faulty (jws yX12_faulty cX12_faulty 1 none) { frames := 2, cells := 0, slots := 0, locals := 130 } d wM A [.ref (d.2.1 0)] σ (fX12_faulty σ) := by
  refine jStart_v (lv0 := [(0, .ref (d.2.1 0))]) (by decide) rfl (Nat.le_of_ble_eq_true rfl) rfl (fun z hC res => ?_)
  unfold fX12_faulty
  refine j_aload_n (pc' := 1) hC 0 dX12_faulty_0 rfl rfl rfl ?_
  refine j_get (pc' := 4) hC ly_X12 (M_at_0 d _) rfl 22 (by decide) fl_X12_184 rfl dX12_faulty_1 rfl ?_
  refine j_if_ge (pc' := 7) (tgt := 15) hC dX12_faulty_4 (by decide) rfl ?_ ?_
  · exact j_ret_v hC dX12_faulty_15
  · refine j_aload_n (pc' := 8) hC 0 dX12_faulty_7 rfl rfl rfl ?_
    refine j_aload_n (pc' := 9) hC 0 dX12_faulty_8 rfl rfl rfl ?_
    refine j_get (pc' := 12) hC ly_X12 (M_at_0 d _) rfl 21 (by decide) fl_X12_181 rfl dX12_faulty_9 rfl ?_
    refine j_put (pc' := 15) hC ly_X12 tyX12 tyX12_ok nmX12 (M_at_0 d _) rfl 22 (by decide) fl_X12_184 rfl rfl rfl rfl (Nat.le_of_ble_eq_true rfl) (M_sf_0_22 d _ _) dX12_faulty_12 rfl ?_
    refine j_st (fun σ1 => ?_)
    exact j_ret_v hC dX12_faulty_15
theorem hyV_X12_addStep : yX12_addStep.cls = RX12 ∧ yX12_addStep.cls ≠ "java/lang/invoke/MethodHandle" ∧ yX12_addStep.cls ≠ "java/lang/invoke/VarHandle" ∧ (parseMethodDescriptor yX12_addStep.desc).map (fun d => d.parameters.length) = some 2 := ⟨rfl, by decide +kernel, by decide +kernel, by decide +kernel⟩
noncomputable def fX12_addStep (σ : jS) (p1 : Int32) (p2 : Int32) : Option (jS) :=
  (ob ((130 : Int32) + (σ.1 0 24)) 260 (jst (ju σ 13 (((130 : Int32) + (σ.1 0 24))).toNatClampNeg (vp_nar .byte (p1.toInt8.toInt32))) fun (σ1 : jS) => (ob ((130 : Int32) + (σ1.1 0 24)) 260 (jst (ju σ1 14 (((130 : Int32) + (σ1.1 0 24))).toNatClampNeg p2) fun (σ2 : jS) => (jst (ju σ2 0 24 ((σ2.1 0 24) + (1 : Int32))) fun (σ3 : jS) => (some σ3))))))
set_option maxRecDepth 100000 in
set_option maxHeartbeats 4000000 in
theorem kX12_addStep (l : Launch) (d : jD) (A : Nat → Prop) (σ : jS) (p1 : Int32) (p2 : Int32) : jMv l yX12_addStep (jws yX12_addStep cX12_addStep 3 none) { frames := 2, cells := 0, slots := 0, locals := 130 } d wM A [.ref (d.2.1 0), .int p1, .int p2] σ (fX12_addStep σ p1 p2) := by
  refine jStart_v (lv0 := [(0, .ref (d.2.1 0)), (1, .int p1), (2, .int p2)]) (by decide) rfl (Nat.le_of_ble_eq_true rfl) rfl (fun z hC res => ?_)
  unfold fX12_addStep
  refine j_aload_n (pc' := 1) hC 0 dX12_addStep_0 rfl rfl rfl ?_
  refine j_get (pc' := 4) hC ly_X12 (M_at_0 d _) rfl 25 (by decide) fl_X12_54 rfl dX12_addStep_1 rfl ?_
  refine j_sipush (pc' := 7) (v := (130 : Int32)) hC dX12_addStep_4 (by decide) rfl ?_
  refine j_aload_n (pc' := 8) hC 0 dX12_addStep_7 rfl rfl rfl ?_
  refine j_get (pc' := 11) hC ly_X12 (M_at_0 d _) rfl 24 (by decide) fl_X12_187 rfl dX12_addStep_8 rfl ?_
  refine j_iadd (pc' := 12) hC dX12_addStep_11 rfl ?_
  refine j_iload_n (pc' := 13) hC 1 dX12_addStep_12 rfl rfl rfl ?_
  refine j_i2b (pc' := 14) hC dX12_addStep_13 rfl ?_
  refine j_bast (pc' := 15) hC (M_at_13 d _) (M_sa_13 d _ _) dX12_addStep_14 rfl ?_
  refine j_st (fun σ1 => ?_)
  refine j_aload_n (pc' := 16) hC 0 dX12_addStep_15 rfl rfl rfl ?_
  refine j_get (pc' := 19) hC ly_X12 (M_at_0 d _) rfl 26 (by decide) fl_X12_57 rfl dX12_addStep_16 rfl ?_
  refine j_sipush (pc' := 22) (v := (130 : Int32)) hC dX12_addStep_19 (by decide) rfl ?_
  refine j_aload_n (pc' := 23) hC 0 dX12_addStep_22 rfl rfl rfl ?_
  refine j_get (pc' := 26) hC ly_X12 (M_at_0 d _) rfl 24 (by decide) fl_X12_187 rfl dX12_addStep_23 rfl ?_
  refine j_iadd (pc' := 27) hC dX12_addStep_26 rfl ?_
  refine j_iload_n (pc' := 28) hC 2 dX12_addStep_27 rfl rfl rfl ?_
  refine j_iast (pc' := 29) hC (M_at_14 d _) (M_sa_14 d _ _) dX12_addStep_28 rfl ?_
  refine j_st (fun σ2 => ?_)
  refine j_aload_n (pc' := 30) hC 0 dX12_addStep_29 rfl rfl rfl ?_
  refine j_dup (pc' := 31) hC rfl dX12_addStep_30 rfl ?_
  refine j_get (pc' := 34) hC ly_X12 (M_at_0 d _) rfl 24 (by decide) fl_X12_187 rfl dX12_addStep_31 rfl ?_
  refine j_iconst (pc' := 35) (v := (1 : Int32)) hC dX12_addStep_34 (by decide) rfl ?_
  refine j_iadd (pc' := 36) hC dX12_addStep_35 rfl ?_
  refine j_put (pc' := 39) hC ly_X12 tyX12 tyX12_ok nmX12 (M_at_0 d _) rfl 24 (by decide) fl_X12_187 rfl rfl rfl rfl (Nat.le_of_ble_eq_true rfl) (M_sf_0_24 d _ _) dX12_addStep_36 rfl ?_
  refine j_st (fun σ3 => ?_)
  exact j_ret_v hC dX12_addStep_39
