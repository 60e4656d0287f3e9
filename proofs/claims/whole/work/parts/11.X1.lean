theorem hyV_X1_forgetOldest : yX1_forgetOldest.cls = RX1 ∧ yX1_forgetOldest.cls ≠ "java/lang/invoke/MethodHandle" ∧ yX1_forgetOldest.cls ≠ "java/lang/invoke/VarHandle" ∧ (parseMethodDescriptor yX1_forgetOldest.desc).map (fun d => d.parameters.length) = some 0 := ⟨rfl, by decide +kernel, by decide +kernel, by decide +kernel⟩
noncomputable def fX1_forgetOldest (σ : jS) : Option (jS) :=
  (ocp (1 : Int32) (0 : Int32) (39 : Int32) 40 40 (jst (jc σ 4 (va_cpy (σ.1 4) (σ.1 4) ((1 : Int32)).toNatClampNeg ((0 : Int32)).toNatClampNeg ((39 : Int32)).toNatClampNeg)) fun (σ1 : jS) => (ocp (1 : Int32) (0 : Int32) (39 : Int32) 40 40 (jst (jc σ1 5 (va_cpy (σ1.1 5) (σ1.1 5) ((1 : Int32)).toNatClampNeg ((0 : Int32)).toNatClampNeg ((39 : Int32)).toNatClampNeg)) fun (σ2 : jS) => (ocp (1 : Int32) (0 : Int32) (39 : Int32) 40 40 (jst (jc σ2 6 (va_cpy (σ2.1 6) (σ2.1 6) ((1 : Int32)).toNatClampNeg ((0 : Int32)).toNatClampNeg ((39 : Int32)).toNatClampNeg)) fun (σ3 : jS) => (jst (ju σ3 3 4 (39 : Int32)) fun (σ4 : jS) => (some σ4))))))))
set_option maxRecDepth 100000 in
set_option maxHeartbeats 4000000 in
theorem kX1_forgetOldest (l : Launch) (d : jD) (A : Nat → Prop) (σ : jS) : jMv l yX1_forgetOldest (jws yX1_forgetOldest cX1_forgetOldest 1 none) { frames := 2, cells := 0, slots := 0, locals := 130 } d wX A [.ref (d.2.1 3)] σ (fX1_forgetOldest σ) := by
  refine jStart_v (lv0 := [(0, .ref (d.2.1 3))]) (by decide) rfl (Nat.le_of_ble_eq_true rfl) rfl (fun z hC res => ?_)
  unfold fX1_forgetOldest
  refine j_aload_n (pc' := 1) hC 0 dX1_forgetOldest_0 rfl rfl rfl ?_
  refine j_get (pc' := 4) hC ly_X1 (X_at_3 d _) rfl 1 (by decide) fl_X1_11 rfl dX1_forgetOldest_1 rfl ?_
  refine j_iconst (pc' := 5) (v := (1 : Int32)) hC dX1_forgetOldest_4 (by decide) rfl ?_
  refine j_aload_n (pc' := 6) hC 0 dX1_forgetOldest_5 rfl rfl rfl ?_
  refine j_get (pc' := 9) hC ly_X1 (X_at_3 d _) rfl 1 (by decide) fl_X1_11 rfl dX1_forgetOldest_6 rfl ?_
  refine j_iconst (pc' := 10) (v := (0 : Int32)) hC dX1_forgetOldest_9 (by decide) rfl ?_
  refine j_bipush (pc' := 12) (v := (39 : Int32)) hC dX1_forgetOldest_10 (by decide) rfl ?_
  refine j_copyi (pc' := 15) hC ml_X1_45 na_acopy st_acopy in_J10 (X_at_4 d _) (X_at_4 d _) (X_sa_4 d _ _) (Nat.le_of_ble_eq_true rfl) (Nat.le_of_ble_eq_true rfl) dX1_forgetOldest_12 rfl ?_
  refine j_st (fun σ1 => ?_)
  refine j_aload_n (pc' := 16) hC 0 dX1_forgetOldest_15 rfl rfl rfl ?_
  refine j_get (pc' := 19) hC ly_X1 (X_at_3 d _) rfl 2 (by decide) fl_X1_15 rfl dX1_forgetOldest_16 rfl ?_
  refine j_iconst (pc' := 20) (v := (1 : Int32)) hC dX1_forgetOldest_19 (by decide) rfl ?_
  refine j_aload_n (pc' := 21) hC 0 dX1_forgetOldest_20 rfl rfl rfl ?_
  refine j_get (pc' := 24) hC ly_X1 (X_at_3 d _) rfl 2 (by decide) fl_X1_15 rfl dX1_forgetOldest_21 rfl ?_
  refine j_iconst (pc' := 25) (v := (0 : Int32)) hC dX1_forgetOldest_24 (by decide) rfl ?_
  refine j_bipush (pc' := 27) (v := (39 : Int32)) hC dX1_forgetOldest_25 (by decide) rfl ?_
  refine j_copyi (pc' := 30) hC ml_X1_45 na_acopy st_acopy in_J10 (X_at_5 d _) (X_at_5 d _) (X_sa_5 d _ _) (Nat.le_of_ble_eq_true rfl) (Nat.le_of_ble_eq_true rfl) dX1_forgetOldest_27 rfl ?_
  refine j_st (fun σ2 => ?_)
  refine j_aload_n (pc' := 31) hC 0 dX1_forgetOldest_30 rfl rfl rfl ?_
  refine j_get (pc' := 34) hC ly_X1 (X_at_3 d _) rfl 3 (by decide) fl_X1_18 rfl dX1_forgetOldest_31 rfl ?_
  refine j_iconst (pc' := 35) (v := (1 : Int32)) hC dX1_forgetOldest_34 (by decide) rfl ?_
  refine j_aload_n (pc' := 36) hC 0 dX1_forgetOldest_35 rfl rfl rfl ?_
  refine j_get (pc' := 39) hC ly_X1 (X_at_3 d _) rfl 3 (by decide) fl_X1_18 rfl dX1_forgetOldest_36 rfl ?_
  refine j_iconst (pc' := 40) (v := (0 : Int32)) hC dX1_forgetOldest_39 (by decide) rfl ?_
  refine j_bipush (pc' := 42) (v := (39 : Int32)) hC dX1_forgetOldest_40 (by decide) rfl ?_
  refine j_copyi (pc' := 45) hC ml_X1_45 na_acopy st_acopy in_J10 (X_at_6 d _) (X_at_6 d _) (X_sa_6 d _ _) (Nat.le_of_ble_eq_true rfl) (Nat.le_of_ble_eq_true rfl) dX1_forgetOldest_42 rfl ?_
  refine j_st (fun σ3 => ?_)
  refine j_aload_n (pc' := 46) hC 0 dX1_forgetOldest_45 rfl rfl rfl ?_
  refine j_bipush (pc' := 48) (v := (39 : Int32)) hC dX1_forgetOldest_46 (by decide) rfl ?_
  refine j_put (pc' := 51) hC ly_X1 tyX1 tyX1_ok nmX1 (X_at_3 d _) rfl 4 (by decide) fl_X1_25 rfl rfl rfl rfl (Nat.le_of_ble_eq_true rfl) (X_sf_3_4 d _ _) dX1_forgetOldest_48 rfl ?_
  refine j_st (fun σ4 => ?_)
  exact j_ret_v hC dX1_forgetOldest_51
theorem hyV_X1_make : yX1_make.cls = RX1 ∧ yX1_make.cls ≠ "java/lang/invoke/MethodHandle" ∧ yX1_make.cls ≠ "java/lang/invoke/VarHandle" ∧ (parseMethodDescriptor yX1_make.desc).map (fun d => d.parameters.length) = some 2 := ⟨rfl, by decide +kernel, by decide +kernel, by decide +kernel⟩
noncomputable def fX1_make (σ : jS) (p1 : Int32) (p2 : Int32) : Option (jS) :=
  (jlet (fun (a13 : jS) => (ob (a13.1 3 4) 40 (jst (ju a13 4 ((a13.1 3 4)).toNatClampNeg p1) fun (σ1 : jS) => (Option.bind (fX6_valueAt σ1 p1) fun (q2 : Int32) => (ob (σ1.1 3 4) 40 (jst (ju σ1 5 ((σ1.1 3 4)).toNatClampNeg q2) fun (σ3 : jS) => (ob (σ3.1 3 4) 40 (jst (ju σ3 6 ((σ3.1 3 4)).toNatClampNeg p2) fun (σ4 : jS) => (jst (ju σ4 3 4 ((σ4.1 3 4) + (1 : Int32))) fun (σ5 : jS) => (jst (ju σ5 3 5 (σ5.1 3 4)) fun (σ6 : jS) => (Option.bind (fX6_setAt σ6 p1 p2) fun (q7 : jS) => (some q7)))))))))))) fun (j13 : (jS → Option (jS))) => (if (σ.1 3 4) < (40 : Int32) then (j13 σ) else (Option.bind (fX1_forgetOldest σ) fun (q8 : jS) => (j13 q8))))
set_option maxRecDepth 100000 in
set_option maxHeartbeats 4000000 in
theorem kX1_make (l : Launch) (d : jD) (A : Nat → Prop) (σ : jS) (p1 : Int32) (p2 : Int32) : jMv l yX1_make (jws yX1_make cX1_make 3 none) { frames := 3, cells := 0, slots := 0, locals := 152 } d wX A [.ref (d.2.1 3), .int p1, .int p2] σ (fX1_make σ p1 p2) := by
  refine jStart_v (lv0 := [(0, .ref (d.2.1 3)), (1, .int p1), (2, .int p2)]) (by decide) rfl (Nat.le_of_ble_eq_true rfl) rfl (fun z hC res => ?_)
  unfold fX1_make
  refine j_aload_n (pc' := 1) hC 0 dX1_make_0 rfl rfl rfl ?_
  refine j_get (pc' := 4) hC ly_X1 (X_at_3 d _) rfl 4 (by decide) fl_X1_25 rfl dX1_make_1 rfl ?_
  refine j_bipush (pc' := 6) (v := (40 : Int32)) hC dX1_make_4 (by decide) rfl ?_
  refine j_let 13 (fun a13 => a13) (fun a13 => [(0, .ref (d.2.1 3)), (1, .int p1), (2, .int p2)]) (fun a13 => []) (fun a13 => ?_) (fun j13 hj13 => ?_)
  · refine j_aload_n (pc' := 14) hC 0 dX1_make_13 rfl rfl rfl ?_
    refine j_get (pc' := 17) hC ly_X1 (X_at_3 d _) rfl 1 (by decide) fl_X1_11 rfl dX1_make_14 rfl ?_
    refine j_aload_n (pc' := 18) hC 0 dX1_make_17 rfl rfl rfl ?_
    refine j_get (pc' := 21) hC ly_X1 (X_at_3 d _) rfl 4 (by decide) fl_X1_25 rfl dX1_make_18 rfl ?_
    refine j_iload_n (pc' := 22) hC 1 dX1_make_21 rfl rfl rfl ?_
    refine j_iast (pc' := 23) hC (X_at_4 d _) (X_sa_4 d _ _) dX1_make_22 rfl ?_
    refine j_st (fun σ1 => ?_)
    refine j_aload_n (pc' := 24) hC 0 dX1_make_23 rfl rfl rfl ?_
    refine j_get (pc' := 27) hC ly_X1 (X_at_3 d _) rfl 2 (by decide) fl_X1_15 rfl dX1_make_24 rfl ?_
    refine j_aload_n (pc' := 28) hC 0 dX1_make_27 rfl rfl rfl ?_
    refine j_get (pc' := 31) hC ly_X1 (X_at_3 d _) rfl 4 (by decide) fl_X1_25 rfl dX1_make_28 rfl ?_
    refine j_aload_n (pc' := 32) hC 0 dX1_make_31 rfl rfl rfl ?_
    refine j_get (pc' := 35) hC ly_X1 (X_at_3 d _) rfl 0 (by decide) fl_X1_21 rfl dX1_make_32 rfl ?_
    refine j_iload_n (pc' := 36) hC 1 dX1_make_35 rfl rfl rfl ?_
    refine j_callV_ir (pc' := 39) (As := [.int p1]) (st := [.int (σ1.1 3 4), .ref (d.2.1 5)]) hC (X_at_1 d _) rfl (kX6_valueAt l d A _ _) (jgV ml_X1_32 im_X6_valueAt se_X6_valueAt in_X6 cd_X6_valueAt) rfl rfl rfl hyV_X6_valueAt ⟨Nat.le_of_ble_eq_true rfl, Nat.le_of_ble_eq_true rfl⟩ rfl rfl (Nat.le_of_ble_eq_true rfl) dX1_make_36 rfl (fun q2 => ?_)
    refine j_iast (pc' := 40) hC (X_at_5 d _) (X_sa_5 d _ _) dX1_make_39 rfl ?_
    refine j_st (fun σ3 => ?_)
    refine j_aload_n (pc' := 41) hC 0 dX1_make_40 rfl rfl rfl ?_
    refine j_get (pc' := 44) hC ly_X1 (X_at_3 d _) rfl 3 (by decide) fl_X1_18 rfl dX1_make_41 rfl ?_
    refine j_aload_n (pc' := 45) hC 0 dX1_make_44 rfl rfl rfl ?_
    refine j_get (pc' := 48) hC ly_X1 (X_at_3 d _) rfl 4 (by decide) fl_X1_25 rfl dX1_make_45 rfl ?_
    refine j_iload_n (pc' := 49) hC 2 dX1_make_48 rfl rfl rfl ?_
    refine j_iast (pc' := 50) hC (X_at_6 d _) (X_sa_6 d _ _) dX1_make_49 rfl ?_
    refine j_st (fun σ4 => ?_)
    refine j_aload_n (pc' := 51) hC 0 dX1_make_50 rfl rfl rfl ?_
    refine j_dup (pc' := 52) hC rfl dX1_make_51 rfl ?_
    refine j_get (pc' := 55) hC ly_X1 (X_at_3 d _) rfl 4 (by decide) fl_X1_25 rfl dX1_make_52 rfl ?_
    refine j_iconst (pc' := 56) (v := (1 : Int32)) hC dX1_make_55 (by decide) rfl ?_
    refine j_iadd (pc' := 57) hC dX1_make_56 rfl ?_
    refine j_put (pc' := 60) hC ly_X1 tyX1 tyX1_ok nmX1 (X_at_3 d _) rfl 4 (by decide) fl_X1_25 rfl rfl rfl rfl (Nat.le_of_ble_eq_true rfl) (X_sf_3_4 d _ _) dX1_make_57 rfl ?_
    refine j_st (fun σ5 => ?_)
    refine j_aload_n (pc' := 61) hC 0 dX1_make_60 rfl rfl rfl ?_
    refine j_aload_n (pc' := 62) hC 0 dX1_make_61 rfl rfl rfl ?_
    refine j_get (pc' := 65) hC ly_X1 (X_at_3 d _) rfl 4 (by decide) fl_X1_25 rfl dX1_make_62 rfl ?_
    refine j_put (pc' := 68) hC ly_X1 tyX1 tyX1_ok nmX1 (X_at_3 d _) rfl 5 (by decide) fl_X1_38 rfl rfl rfl rfl (Nat.le_of_ble_eq_true rfl) (X_sf_3_5 d _ _) dX1_make_65 rfl ?_
    refine j_st (fun σ6 => ?_)
    refine j_aload_n (pc' := 69) hC 0 dX1_make_68 rfl rfl rfl ?_
    refine j_get (pc' := 72) hC ly_X1 (X_at_3 d _) rfl 0 (by decide) fl_X1_21 rfl dX1_make_69 rfl ?_
    refine j_iload_n (pc' := 73) hC 1 dX1_make_72 rfl rfl rfl ?_
    refine j_iload_n (pc' := 74) hC 2 dX1_make_73 rfl rfl rfl ?_
    refine j_callV_v (pc' := 77) (As := [.int p1, .int p2]) (st := []) hC (X_at_1 d _) rfl (kX6_setAt l d A _ _ _) (jgV ml_X1_41 im_X6_setAt se_X6_setAt in_X6 cd_X6_setAt) rfl rfl rfl hyV_X6_setAt ⟨Nat.le_of_ble_eq_true rfl, Nat.le_of_ble_eq_true rfl⟩ rfl rfl (Nat.le_of_ble_eq_true rfl) dX1_make_74 rfl (fun q7 => ?_)
    exact j_ret_v hC dX1_make_77
  · refine j_icmp_lt (pc' := 9) (tgt := 13) hC dX1_make_6 (by decide) rfl ?_ ?_
    · exact j_lv (lv' := [(0, .ref (d.2.1 3)), (1, .int p1), (2, .int p2)]) [0, 1, 2] rfl (hj13 σ)
    · refine j_aload_n (pc' := 10) hC 0 dX1_make_9 rfl rfl rfl ?_
      refine j_callV_v (pc' := 13) (As := []) (st := []) hC (X_at_3 d _) rfl (kX1_forgetOldest l d A _) (jgV ml_X1_29 im_X1_forgetOldest se_X1_forgetOldest in_X1 cd_X1_forgetOldest) rfl rfl rfl hyV_X1_forgetOldest ⟨Nat.le_of_ble_eq_true rfl, Nat.le_of_ble_eq_true rfl⟩ rfl rfl (Nat.le_of_ble_eq_true rfl) dX1_make_10 rfl (fun q8 => ?_)
      exact j_lv (lv' := [(0, .ref (d.2.1 3)), (1, .int p1), (2, .int p2)]) [0, 1, 2] rfl (hj13 q8)
theorem hyV_X1_takeBack : yX1_takeBack.cls = RX1 ∧ yX1_takeBack.cls ≠ "java/lang/invoke/MethodHandle" ∧ yX1_takeBack.cls ≠ "java/lang/invoke/VarHandle" ∧ (parseMethodDescriptor yX1_takeBack.desc).map (fun d => d.parameters.length) = some 0 := ⟨rfl, by decide +kernel, by decide +kernel, by decide +kernel⟩
noncomputable def fX1_takeBack (σ : jS) : Option (Int32 × jS) :=
  (if 0 < (σ.1 3 4) then (jst (ju σ 3 4 ((σ.1 3 4) - (1 : Int32))) fun (σ1 : jS) => (ob (σ1.1 3 4) 40 (ob (σ1.1 3 4) 40 (Option.bind (fX6_setAt σ1 (σ1.1 4 ((σ1.1 3 4)).toNatClampNeg) (σ1.1 5 ((σ1.1 3 4)).toNatClampNeg)) fun (q2 : jS) => (some ((q2.1 3 4), q2)))))) else (some ((-5 : Int32), σ)))
set_option maxRecDepth 100000 in
set_option maxHeartbeats 4000000 in
theorem kX1_takeBack (l : Launch) (d : jD) (A : Nat → Prop) (σ : jS) : jMi l yX1_takeBack (jws yX1_takeBack cX1_takeBack 1 (some (.int))) { frames := 3, cells := 0, slots := 0, locals := 152 } d wX A [.ref (d.2.1 3)] σ (fX1_takeBack σ) := by
  refine jStart_i (lv0 := [(0, .ref (d.2.1 3))]) (by decide) rfl (Nat.le_of_ble_eq_true rfl) rfl (fun z hC res => ?_)
  unfold fX1_takeBack
  refine j_aload_n (pc' := 1) hC 0 dX1_takeBack_0 rfl rfl rfl ?_
  refine j_get (pc' := 4) hC ly_X1 (X_at_3 d _) rfl 4 (by decide) fl_X1_25 rfl dX1_takeBack_1 rfl ?_
  refine j_if_gt (pc' := 7) (tgt := 10) hC dX1_takeBack_4 (by decide) rfl ?_ ?_
  · refine j_aload_n (pc' := 11) hC 0 dX1_takeBack_10 rfl rfl rfl ?_
    refine j_dup (pc' := 12) hC rfl dX1_takeBack_11 rfl ?_
    refine j_get (pc' := 15) hC ly_X1 (X_at_3 d _) rfl 4 (by decide) fl_X1_25 rfl dX1_takeBack_12 rfl ?_
    refine j_iconst (pc' := 16) (v := (1 : Int32)) hC dX1_takeBack_15 (by decide) rfl ?_
    refine j_isub (pc' := 17) hC dX1_takeBack_16 rfl ?_
    refine j_put (pc' := 20) hC ly_X1 tyX1 tyX1_ok nmX1 (X_at_3 d _) rfl 4 (by decide) fl_X1_25 rfl rfl rfl rfl (Nat.le_of_ble_eq_true rfl) (X_sf_3_4 d _ _) dX1_takeBack_17 rfl ?_
    refine j_st (fun σ1 => ?_)
    refine j_aload_n (pc' := 21) hC 0 dX1_takeBack_20 rfl rfl rfl ?_
    refine j_get (pc' := 24) hC ly_X1 (X_at_3 d _) rfl 0 (by decide) fl_X1_21 rfl dX1_takeBack_21 rfl ?_
    refine j_aload_n (pc' := 25) hC 0 dX1_takeBack_24 rfl rfl rfl ?_
    refine j_get (pc' := 28) hC ly_X1 (X_at_3 d _) rfl 1 (by decide) fl_X1_11 rfl dX1_takeBack_25 rfl ?_
    refine j_aload_n (pc' := 29) hC 0 dX1_takeBack_28 rfl rfl rfl ?_
    refine j_get (pc' := 32) hC ly_X1 (X_at_3 d _) rfl 4 (by decide) fl_X1_25 rfl dX1_takeBack_29 rfl ?_
    refine j_iald (pc' := 33) hC (X_at_4 d _) dX1_takeBack_32 rfl ?_
    refine j_aload_n (pc' := 34) hC 0 dX1_takeBack_33 rfl rfl rfl ?_
    refine j_get (pc' := 37) hC ly_X1 (X_at_3 d _) rfl 2 (by decide) fl_X1_15 rfl dX1_takeBack_34 rfl ?_
    refine j_aload_n (pc' := 38) hC 0 dX1_takeBack_37 rfl rfl rfl ?_
    refine j_get (pc' := 41) hC ly_X1 (X_at_3 d _) rfl 4 (by decide) fl_X1_25 rfl dX1_takeBack_38 rfl ?_
    refine j_iald (pc' := 42) hC (X_at_5 d _) dX1_takeBack_41 rfl ?_
    refine j_callV_v (pc' := 45) (As := [.int (σ1.1 4 ((σ1.1 3 4)).toNatClampNeg), .int (σ1.1 5 ((σ1.1 3 4)).toNatClampNeg)]) (st := []) hC (X_at_1 d _) rfl (kX6_setAt l d A _ _ _) (jgV ml_X1_41 im_X6_setAt se_X6_setAt in_X6 cd_X6_setAt) rfl rfl rfl hyV_X6_setAt ⟨Nat.le_of_ble_eq_true rfl, Nat.le_of_ble_eq_true rfl⟩ rfl rfl (Nat.le_of_ble_eq_true rfl) dX1_takeBack_42 rfl (fun q2 => ?_)
    refine j_aload_n (pc' := 46) hC 0 dX1_takeBack_45 rfl rfl rfl ?_
    refine j_get (pc' := 49) hC ly_X1 (X_at_3 d _) rfl 4 (by decide) fl_X1_25 rfl dX1_takeBack_46 rfl ?_
    exact j_ret_i hC dX1_takeBack_49
  · refine j_bipush (pc' := 9) (v := (-5 : Int32)) hC dX1_takeBack_7 (by decide) rfl ?_
    exact j_ret_i hC dX1_takeBack_9
theorem hyV_X1_makeAgain : yX1_makeAgain.cls = RX1 ∧ yX1_makeAgain.cls ≠ "java/lang/invoke/MethodHandle" ∧ yX1_makeAgain.cls ≠ "java/lang/invoke/VarHandle" ∧ (parseMethodDescriptor yX1_makeAgain.desc).map (fun d => d.parameters.length) = some 0 := ⟨rfl, by decide +kernel, by decide +kernel, by decide +kernel⟩
noncomputable def fX1_makeAgain (σ : jS) : Option (Int32 × jS) :=
  (if (σ.1 3 5) ≤ (σ.1 3 4) then (some ((-5 : Int32), σ)) else (if (σ.1 3 4) < (40 : Int32) then (ob (σ.1 3 4) 40 (ob (σ.1 3 4) 40 (Option.bind (fX6_setAt σ (σ.1 4 ((σ.1 3 4)).toNatClampNeg) (σ.1 6 ((σ.1 3 4)).toNatClampNeg)) fun (q1 : jS) => (jst (ju q1 3 4 ((q1.1 3 4) + (1 : Int32))) fun (σ2 : jS) => (some (((σ2.1 3 5) - (σ2.1 3 4)), σ2)))))) else (some ((-5 : Int32), σ))))
set_option maxRecDepth 100000 in
set_option maxHeartbeats 4000000 in
theorem kX1_makeAgain (l : Launch) (d : jD) (A : Nat → Prop) (σ : jS) : jMi l yX1_makeAgain (jws yX1_makeAgain cX1_makeAgain 1 (some (.int))) { frames := 3, cells := 0, slots := 0, locals := 152 } d wX A [.ref (d.2.1 3)] σ (fX1_makeAgain σ) := by
  refine jStart_i (lv0 := [(0, .ref (d.2.1 3))]) (by decide) rfl (Nat.le_of_ble_eq_true rfl) rfl (fun z hC res => ?_)
  unfold fX1_makeAgain
  refine j_aload_n (pc' := 1) hC 0 dX1_makeAgain_0 rfl rfl rfl ?_
  refine j_get (pc' := 4) hC ly_X1 (X_at_3 d _) rfl 4 (by decide) fl_X1_25 rfl dX1_makeAgain_1 rfl ?_
  refine j_aload_n (pc' := 5) hC 0 dX1_makeAgain_4 rfl rfl rfl ?_
  refine j_get (pc' := 8) hC ly_X1 (X_at_3 d _) rfl 5 (by decide) fl_X1_38 rfl dX1_makeAgain_5 rfl ?_
  refine j_icmp_ge (pc' := 11) (tgt := 20) hC dX1_makeAgain_8 (by decide) rfl ?_ ?_
  · refine j_bipush (pc' := 22) (v := (-5 : Int32)) hC dX1_makeAgain_20 (by decide) rfl ?_
    exact j_ret_i hC dX1_makeAgain_22
  · refine j_aload_n (pc' := 12) hC 0 dX1_makeAgain_11 rfl rfl rfl ?_
    refine j_get (pc' := 15) hC ly_X1 (X_at_3 d _) rfl 4 (by decide) fl_X1_25 rfl dX1_makeAgain_12 rfl ?_
    refine j_bipush (pc' := 17) (v := (40 : Int32)) hC dX1_makeAgain_15 (by decide) rfl ?_
    refine j_icmp_lt (pc' := 20) (tgt := 23) hC dX1_makeAgain_17 (by decide) rfl ?_ ?_
    · refine j_aload_n (pc' := 24) hC 0 dX1_makeAgain_23 rfl rfl rfl ?_
      refine j_get (pc' := 27) hC ly_X1 (X_at_3 d _) rfl 0 (by decide) fl_X1_21 rfl dX1_makeAgain_24 rfl ?_
      refine j_aload_n (pc' := 28) hC 0 dX1_makeAgain_27 rfl rfl rfl ?_
      refine j_get (pc' := 31) hC ly_X1 (X_at_3 d _) rfl 1 (by decide) fl_X1_11 rfl dX1_makeAgain_28 rfl ?_
      refine j_aload_n (pc' := 32) hC 0 dX1_makeAgain_31 rfl rfl rfl ?_
      refine j_get (pc' := 35) hC ly_X1 (X_at_3 d _) rfl 4 (by decide) fl_X1_25 rfl dX1_makeAgain_32 rfl ?_
      refine j_iald (pc' := 36) hC (X_at_4 d _) dX1_makeAgain_35 rfl ?_
      refine j_aload_n (pc' := 37) hC 0 dX1_makeAgain_36 rfl rfl rfl ?_
      refine j_get (pc' := 40) hC ly_X1 (X_at_3 d _) rfl 3 (by decide) fl_X1_18 rfl dX1_makeAgain_37 rfl ?_
      refine j_aload_n (pc' := 41) hC 0 dX1_makeAgain_40 rfl rfl rfl ?_
      refine j_get (pc' := 44) hC ly_X1 (X_at_3 d _) rfl 4 (by decide) fl_X1_25 rfl dX1_makeAgain_41 rfl ?_
      refine j_iald (pc' := 45) hC (X_at_6 d _) dX1_makeAgain_44 rfl ?_
      refine j_callV_v (pc' := 48) (As := [.int (σ.1 4 ((σ.1 3 4)).toNatClampNeg), .int (σ.1 6 ((σ.1 3 4)).toNatClampNeg)]) (st := []) hC (X_at_1 d _) rfl (kX6_setAt l d A _ _ _) (jgV ml_X1_41 im_X6_setAt se_X6_setAt in_X6 cd_X6_setAt) rfl rfl rfl hyV_X6_setAt ⟨Nat.le_of_ble_eq_true rfl, Nat.le_of_ble_eq_true rfl⟩ rfl rfl (Nat.le_of_ble_eq_true rfl) dX1_makeAgain_45 rfl (fun q1 => ?_)
      refine j_aload_n (pc' := 49) hC 0 dX1_makeAgain_48 rfl rfl rfl ?_
      refine j_dup (pc' := 50) hC rfl dX1_makeAgain_49 rfl ?_
      refine j_get (pc' := 53) hC ly_X1 (X_at_3 d _) rfl 4 (by decide) fl_X1_25 rfl dX1_makeAgain_50 rfl ?_
      refine j_iconst (pc' := 54) (v := (1 : Int32)) hC dX1_makeAgain_53 (by decide) rfl ?_
      refine j_iadd (pc' := 55) hC dX1_makeAgain_54 rfl ?_
      refine j_put (pc' := 58) hC ly_X1 tyX1 tyX1_ok nmX1 (X_at_3 d _) rfl 4 (by decide) fl_X1_25 rfl rfl rfl rfl (Nat.le_of_ble_eq_true rfl) (X_sf_3_4 d _ _) dX1_makeAgain_55 rfl ?_
      refine j_st (fun σ2 => ?_)
      refine j_aload_n (pc' := 59) hC 0 dX1_makeAgain_58 rfl rfl rfl ?_
      refine j_get (pc' := 62) hC ly_X1 (X_at_3 d _) rfl 5 (by decide) fl_X1_38 rfl dX1_makeAgain_59 rfl ?_
      refine j_aload_n (pc' := 63) hC 0 dX1_makeAgain_62 rfl rfl rfl ?_
      refine j_get (pc' := 66) hC ly_X1 (X_at_3 d _) rfl 4 (by decide) fl_X1_25 rfl dX1_makeAgain_63 rfl ?_
      refine j_isub (pc' := 67) hC dX1_makeAgain_66 rfl ?_
      exact j_ret_i hC dX1_makeAgain_67
    · refine j_bipush (pc' := 22) (v := (-5 : Int32)) hC dX1_makeAgain_20 (by decide) rfl ?_
      exact j_ret_i hC dX1_makeAgain_22
