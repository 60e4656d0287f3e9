theorem hyV_X10_begin : yX10_begin.cls = RX10 ∧ yX10_begin.cls ≠ "java/lang/invoke/MethodHandle" ∧ yX10_begin.cls ≠ "java/lang/invoke/VarHandle" ∧ (parseMethodDescriptor yX10_begin.desc).map (fun d => d.parameters.length) = some 3 := ⟨rfl, by decide +kernel, by decide +kernel, by decide +kernel⟩
noncomputable def fX10_begin (t : Nat) (σ : jS) (p1 : Int32) (p2 : Int32) (p3 : Int32) : Option (jS) :=
  (jst (ju σ t 0 p1) fun (σ1 : jS) => (jst (ju σ1 t 1 p2) fun (σ2 : jS) => (jst (ju σ2 t 2 p3) fun (σ3 : jS) => (jst (ju σ3 t 3 (0 : Int32)) fun (σ4 : jS) => (jst (ju σ4 t 4 (0 : Int32)) fun (σ5 : jS) => (jst (ju σ5 t 5 (0 : Int32)) fun (σ6 : jS) => (jst (ju σ6 t 6 (0 : Int32)) fun (σ7 : jS) => (jst (ju σ7 t 7 (0 : Int32)) fun (σ8 : jS) => (some σ8)))))))))
set_option maxRecDepth 100000 in
set_option maxHeartbeats 4000000 in
theorem kX10_begin (l : Launch) (d : jD) (A : Nat → Prop) {t : Nat} (h_t : jTn t) (σ : jS) (p1 : Int32) (p2 : Int32) (p3 : Int32) : jMv l yX10_begin (jws yX10_begin cX10_begin 4 none) { frames := 2, cells := 0, slots := 0, locals := 130 } d wX A [.ref (d.2.1 t), .int p1, .int p2, .int p3] σ (fX10_begin t σ p1 p2 p3) := by
  refine jStart_v (lv0 := [(0, .ref (d.2.1 t)), (1, .int p1), (2, .int p2), (3, .int p3)]) (by decide) rfl (Nat.le_of_ble_eq_true rfl) rfl (fun z hC res => ?_)
  unfold fX10_begin
  refine j_aload_n (pc' := 1) hC 0 dX10_begin_0 rfl rfl rfl ?_
  refine j_iload_n (pc' := 2) hC 1 dX10_begin_1 rfl rfl rfl ?_
  refine j_put (pc' := 5) hC ly_X10 tyX10 tyX10_ok nmX10 (X_tn d _ h_t) rfl 0 (by decide) fl_X10_7 rfl rfl rfl rfl (Nat.le_of_ble_eq_true rfl) (X_tnf_0 d _ _ h_t) dX10_begin_2 rfl ?_
  refine j_st (fun σ1 => ?_)
  refine j_aload_n (pc' := 6) hC 0 dX10_begin_5 rfl rfl rfl ?_
  refine j_iload_n (pc' := 7) hC 2 dX10_begin_6 rfl rfl rfl ?_
  refine j_put (pc' := 10) hC ly_X10 tyX10 tyX10_ok nmX10 (X_tn d _ h_t) rfl 1 (by decide) fl_X10_13 rfl rfl rfl rfl (Nat.le_of_ble_eq_true rfl) (X_tnf_1 d _ _ h_t) dX10_begin_7 rfl ?_
  refine j_st (fun σ2 => ?_)
  refine j_aload_n (pc' := 11) hC 0 dX10_begin_10 rfl rfl rfl ?_
  refine j_iload_n (pc' := 12) hC 3 dX10_begin_11 rfl rfl rfl ?_
  refine j_put (pc' := 15) hC ly_X10 tyX10 tyX10_ok nmX10 (X_tn d _ h_t) rfl 2 (by decide) fl_X10_16 rfl rfl rfl rfl (Nat.le_of_ble_eq_true rfl) (X_tnf_2 d _ _ h_t) dX10_begin_12 rfl ?_
  refine j_st (fun σ3 => ?_)
  refine j_aload_n (pc' := 16) hC 0 dX10_begin_15 rfl rfl rfl ?_
  refine j_iconst (pc' := 17) (v := (0 : Int32)) hC dX10_begin_16 (by decide) rfl ?_
  refine j_put (pc' := 20) hC ly_X10 tyX10 tyX10_ok nmX10 (X_tn d _ h_t) rfl 3 (by decide) fl_X10_19 rfl rfl rfl rfl (Nat.le_of_ble_eq_true rfl) (X_tnf_3 d _ _ h_t) dX10_begin_17 rfl ?_
  refine j_st (fun σ4 => ?_)
  refine j_aload_n (pc' := 21) hC 0 dX10_begin_20 rfl rfl rfl ?_
  refine j_iconst (pc' := 22) (v := (0 : Int32)) hC dX10_begin_21 (by decide) rfl ?_
  refine j_put (pc' := 25) hC ly_X10 tyX10 tyX10_ok nmX10 (X_tn d _ h_t) rfl 4 (by decide) fl_X10_22 rfl rfl rfl rfl (Nat.le_of_ble_eq_true rfl) (X_tnf_4 d _ _ h_t) dX10_begin_22 rfl ?_
  refine j_st (fun σ5 => ?_)
  refine j_aload_n (pc' := 26) hC 0 dX10_begin_25 rfl rfl rfl ?_
  refine j_iconst (pc' := 27) (v := (0 : Int32)) hC dX10_begin_26 (by decide) rfl ?_
  refine j_put (pc' := 30) hC ly_X10 tyX10 tyX10_ok nmX10 (X_tn d _ h_t) rfl 5 (by decide) fl_X10_25 rfl rfl rfl rfl (Nat.le_of_ble_eq_true rfl) (X_tnf_5 d _ _ h_t) dX10_begin_27 rfl ?_
  refine j_st (fun σ6 => ?_)
  refine j_aload_n (pc' := 31) hC 0 dX10_begin_30 rfl rfl rfl ?_
  refine j_iconst (pc' := 32) (v := (0 : Int32)) hC dX10_begin_31 (by decide) rfl ?_
  refine j_put (pc' := 35) hC ly_X10 tyX10 tyX10_ok nmX10 (X_tn d _ h_t) rfl 6 (by decide) fl_X10_28 rfl rfl rfl rfl (Nat.le_of_ble_eq_true rfl) (X_tnf_6 d _ _ h_t) dX10_begin_32 rfl ?_
  refine j_st (fun σ7 => ?_)
  refine j_aload_n (pc' := 36) hC 0 dX10_begin_35 rfl rfl rfl ?_
  refine j_iconst (pc' := 37) (v := (0 : Int32)) hC dX10_begin_36 (by decide) rfl ?_
  refine j_put (pc' := 40) hC ly_X10 tyX10 tyX10_ok nmX10 (X_tn d _ h_t) rfl 7 (by decide) fl_X10_31 rfl rfl rfl rfl (Nat.le_of_ble_eq_true rfl) (X_tnf_7 d _ _ h_t) dX10_begin_37 rfl ?_
  refine j_st (fun σ8 => ?_)
  exact j_ret_v hC dX10_begin_40
theorem hyV_X10_copy : yX10_copy.cls = RX10 ∧ yX10_copy.cls ≠ "java/lang/invoke/MethodHandle" ∧ yX10_copy.cls ≠ "java/lang/invoke/VarHandle" ∧ (parseMethodDescriptor yX10_copy.desc).map (fun d => d.parameters.length) = some 1 := ⟨rfl, by decide +kernel, by decide +kernel, by decide +kernel⟩
noncomputable def fX10_copy (t : Nat) (u : Nat) (σ : jS) : Option (jS) :=
  (Option.bind (fX10_begin t σ (σ.1 u 0) (σ.1 u 1) (σ.1 u 2)) fun (q1 : jS) => (jst (ju q1 t 3 (q1.1 u 3)) fun (σ2 : jS) => (jst (ju σ2 t 4 (σ2.1 u 4)) fun (σ3 : jS) => (jst (ju σ3 t 5 (σ3.1 u 5)) fun (σ4 : jS) => (jst (ju σ4 t 6 (σ4.1 u 6)) fun (σ5 : jS) => (jst (ju σ5 t 7 (σ5.1 u 7)) fun (σ6 : jS) => (some σ6)))))))
set_option maxRecDepth 100000 in
set_option maxHeartbeats 4000000 in
theorem kX10_copy (l : Launch) (d : jD) (A : Nat → Prop) {t : Nat} (h_t : jTn t) {u : Nat} (h_u : jTn u) (σ : jS) : jMv l yX10_copy (jws yX10_copy cX10_copy 2 none) { frames := 3, cells := 0, slots := 0, locals := 153 } d wX A [.ref (d.2.1 t), .ref (d.2.1 u)] σ (fX10_copy t u σ) := by
  refine jStart_v (lv0 := [(0, .ref (d.2.1 t)), (1, .ref (d.2.1 u))]) (by decide) rfl (Nat.le_of_ble_eq_true rfl) rfl (fun z hC res => ?_)
  unfold fX10_copy
  refine j_aload_n (pc' := 1) hC 0 dX10_copy_0 rfl rfl rfl ?_
  refine j_aload_n (pc' := 2) hC 1 dX10_copy_1 rfl rfl rfl ?_
  refine j_get (pc' := 5) hC ly_X10 (X_tn d _ h_u) rfl 0 (by decide) fl_X10_7 rfl dX10_copy_2 rfl ?_
  refine j_aload_n (pc' := 6) hC 1 dX10_copy_5 rfl rfl rfl ?_
  refine j_get (pc' := 9) hC ly_X10 (X_tn d _ h_u) rfl 1 (by decide) fl_X10_13 rfl dX10_copy_6 rfl ?_
  refine j_aload_n (pc' := 10) hC 1 dX10_copy_9 rfl rfl rfl ?_
  refine j_get (pc' := 13) hC ly_X10 (X_tn d _ h_u) rfl 2 (by decide) fl_X10_16 rfl dX10_copy_10 rfl ?_
  refine j_callV_v (pc' := 16) (As := [.int (σ.1 u 0), .int (σ.1 u 1), .int (σ.1 u 2)]) (st := []) hC (X_tn d _ h_t) rfl (kX10_begin l d A h_t _ _ _ _) (jgV ml_X10_34 im_X10_begin se_X10_begin in_X10 cd_X10_begin) rfl rfl rfl hyV_X10_begin ⟨Nat.le_of_ble_eq_true rfl, Nat.le_of_ble_eq_true rfl⟩ rfl rfl (Nat.le_of_ble_eq_true rfl) dX10_copy_13 rfl (fun q1 => ?_)
  refine j_aload_n (pc' := 17) hC 0 dX10_copy_16 rfl rfl rfl ?_
  refine j_aload_n (pc' := 18) hC 1 dX10_copy_17 rfl rfl rfl ?_
  refine j_get (pc' := 21) hC ly_X10 (X_tn d _ h_u) rfl 3 (by decide) fl_X10_19 rfl dX10_copy_18 rfl ?_
  refine j_put (pc' := 24) hC ly_X10 tyX10 tyX10_ok nmX10 (X_tn d _ h_t) rfl 3 (by decide) fl_X10_19 rfl rfl rfl rfl (Nat.le_of_ble_eq_true rfl) (X_tnf_3 d _ _ h_t) dX10_copy_21 rfl ?_
  refine j_st (fun σ2 => ?_)
  refine j_aload_n (pc' := 25) hC 0 dX10_copy_24 rfl rfl rfl ?_
  refine j_aload_n (pc' := 26) hC 1 dX10_copy_25 rfl rfl rfl ?_
  refine j_get (pc' := 29) hC ly_X10 (X_tn d _ h_u) rfl 4 (by decide) fl_X10_22 rfl dX10_copy_26 rfl ?_
  refine j_put (pc' := 32) hC ly_X10 tyX10 tyX10_ok nmX10 (X_tn d _ h_t) rfl 4 (by decide) fl_X10_22 rfl rfl rfl rfl (Nat.le_of_ble_eq_true rfl) (X_tnf_4 d _ _ h_t) dX10_copy_29 rfl ?_
  refine j_st (fun σ3 => ?_)
  refine j_aload_n (pc' := 33) hC 0 dX10_copy_32 rfl rfl rfl ?_
  refine j_aload_n (pc' := 34) hC 1 dX10_copy_33 rfl rfl rfl ?_
  refine j_get (pc' := 37) hC ly_X10 (X_tn d _ h_u) rfl 5 (by decide) fl_X10_25 rfl dX10_copy_34 rfl ?_
  refine j_put (pc' := 40) hC ly_X10 tyX10 tyX10_ok nmX10 (X_tn d _ h_t) rfl 5 (by decide) fl_X10_25 rfl rfl rfl rfl (Nat.le_of_ble_eq_true rfl) (X_tnf_5 d _ _ h_t) dX10_copy_37 rfl ?_
  refine j_st (fun σ4 => ?_)
  refine j_aload_n (pc' := 41) hC 0 dX10_copy_40 rfl rfl rfl ?_
  refine j_aload_n (pc' := 42) hC 1 dX10_copy_41 rfl rfl rfl ?_
  refine j_get (pc' := 45) hC ly_X10 (X_tn d _ h_u) rfl 6 (by decide) fl_X10_28 rfl dX10_copy_42 rfl ?_
  refine j_put (pc' := 48) hC ly_X10 tyX10 tyX10_ok nmX10 (X_tn d _ h_t) rfl 6 (by decide) fl_X10_28 rfl rfl rfl rfl (Nat.le_of_ble_eq_true rfl) (X_tnf_6 d _ _ h_t) dX10_copy_45 rfl ?_
  refine j_st (fun σ5 => ?_)
  refine j_aload_n (pc' := 49) hC 0 dX10_copy_48 rfl rfl rfl ?_
  refine j_aload_n (pc' := 50) hC 1 dX10_copy_49 rfl rfl rfl ?_
  refine j_get (pc' := 53) hC ly_X10 (X_tn d _ h_u) rfl 7 (by decide) fl_X10_31 rfl dX10_copy_50 rfl ?_
  refine j_put (pc' := 56) hC ly_X10 tyX10 tyX10_ok nmX10 (X_tn d _ h_t) rfl 7 (by decide) fl_X10_31 rfl rfl rfl rfl (Nat.le_of_ble_eq_true rfl) (X_tnf_7 d _ _ h_t) dX10_copy_53 rfl ?_
  refine j_st (fun σ6 => ?_)
  exact j_ret_v hC dX10_copy_56
theorem hyV_X2_lead : yX2_lead.cls = RX2 ∧ yX2_lead.cls ≠ "java/lang/invoke/MethodHandle" ∧ yX2_lead.cls ≠ "java/lang/invoke/VarHandle" ∧ (parseMethodDescriptor yX2_lead.desc).map (fun d => d.parameters.length) = some 1 := ⟨rfl, by decide +kernel, by decide +kernel, by decide +kernel⟩
noncomputable def fX2_lead (σ : jS) (p1 : Int32) : Option (jS) :=
  (jst (ju σ 37 3 ((σ.1 37 3) + (1 : Int32))) fun (σ1 : jS) => (jst (ju σ1 37 4 ((σ1.1 37 4) + (σ1.1 38 7))) fun (σ2 : jS) => (jlet (fun (a62 : jS) => (if p1 = 0 then (some a62) else (jst (ju a62 37 2 ((a62.1 37 2) + (1 : Int32))) fun (σ3 : jS) => (jst (ju σ3 37 1 (0 : Int32)) fun (σ4 : jS) => (some σ4))))) fun (j62 : (jS → Option (jS))) => (if (σ2.1 38 5) ≤ (σ2.1 37 6) then (j62 σ2) else (jst (ju σ2 37 6 (σ2.1 38 5)) fun (σ5 : jS) => (jst (ju σ5 37 7 (σ5.1 38 1)) fun (σ6 : jS) => (j62 σ6)))))))
set_option maxRecDepth 100000 in
set_option maxHeartbeats 4000000 in
theorem kX2_lead (l : Launch) (d : jD) (A : Nat → Prop) (σ : jS) (p1 : Int32) : jMv l yX2_lead (jws yX2_lead cX2_lead 2 none) { frames := 2, cells := 0, slots := 0, locals := 130 } d wX A [.ref (d.2.1 37), .int p1] σ (fX2_lead σ p1) := by
  refine jStart_v (lv0 := [(0, .ref (d.2.1 37)), (1, .int p1)]) (by decide) rfl (Nat.le_of_ble_eq_true rfl) rfl (fun z hC res => ?_)
  unfold fX2_lead
  refine j_aload_n (pc' := 1) hC 0 dX2_lead_0 rfl rfl rfl ?_
  refine j_dup (pc' := 2) hC rfl dX2_lead_1 rfl ?_
  refine j_get (pc' := 5) hC ly_X2 (X_at_37 d _) rfl 3 (by decide) fl_X2_22 rfl dX2_lead_2 rfl ?_
  refine j_iconst (pc' := 6) (v := (1 : Int32)) hC dX2_lead_5 (by decide) rfl ?_
  refine j_iadd (pc' := 7) hC dX2_lead_6 rfl ?_
  refine j_put (pc' := 10) hC ly_X2 tyX2 tyX2_ok nmX2 (X_at_37 d _) rfl 3 (by decide) fl_X2_22 rfl rfl rfl rfl (Nat.le_of_ble_eq_true rfl) (X_sf_37_3 d _ _) dX2_lead_7 rfl ?_
  refine j_st (fun σ1 => ?_)
  refine j_aload_n (pc' := 11) hC 0 dX2_lead_10 rfl rfl rfl ?_
  refine j_dup (pc' := 12) hC rfl dX2_lead_11 rfl ?_
  refine j_get (pc' := 15) hC ly_X2 (X_at_37 d _) rfl 4 (by decide) fl_X2_25 rfl dX2_lead_12 rfl ?_
  refine j_aload_n (pc' := 16) hC 0 dX2_lead_15 rfl rfl rfl ?_
  refine j_get (pc' := 19) hC ly_X2 (X_at_37 d _) rfl 0 (by decide) fl_X2_12 rfl dX2_lead_16 rfl ?_
  refine j_get (pc' := 22) hC ly_X10 (X_at_38 d _) rfl 7 (by decide) fl_X2_28 rfl dX2_lead_19 rfl ?_
  refine j_iadd (pc' := 23) hC dX2_lead_22 rfl ?_
  refine j_put (pc' := 26) hC ly_X2 tyX2 tyX2_ok nmX2 (X_at_37 d _) rfl 4 (by decide) fl_X2_25 rfl rfl rfl rfl (Nat.le_of_ble_eq_true rfl) (X_sf_37_4 d _ _) dX2_lead_23 rfl ?_
  refine j_st (fun σ2 => ?_)
  refine j_aload_n (pc' := 27) hC 0 dX2_lead_26 rfl rfl rfl ?_
  refine j_get (pc' := 30) hC ly_X2 (X_at_37 d _) rfl 0 (by decide) fl_X2_12 rfl dX2_lead_27 rfl ?_
  refine j_get (pc' := 33) hC ly_X10 (X_at_38 d _) rfl 5 (by decide) fl_X2_31 rfl dX2_lead_30 rfl ?_
  refine j_aload_n (pc' := 34) hC 0 dX2_lead_33 rfl rfl rfl ?_
  refine j_get (pc' := 37) hC ly_X2 (X_at_37 d _) rfl 6 (by decide) fl_X2_34 rfl dX2_lead_34 rfl ?_
  refine j_let 62 (fun a62 => a62) (fun a62 => [(0, .ref (d.2.1 37)), (1, .int p1)]) (fun a62 => []) (fun a62 => ?_) (fun j62 hj62 => ?_)
  · refine j_iload_n (pc' := 63) hC 1 dX2_lead_62 rfl rfl rfl ?_
    refine j_if_eq (pc' := 66) (tgt := 81) hC dX2_lead_63 (by decide) rfl ?_ ?_
    · exact j_ret_v hC dX2_lead_81
    · refine j_aload_n (pc' := 67) hC 0 dX2_lead_66 rfl rfl rfl ?_
      refine j_dup (pc' := 68) hC rfl dX2_lead_67 rfl ?_
      refine j_get (pc' := 71) hC ly_X2 (X_at_37 d _) rfl 2 (by decide) fl_X2_40 rfl dX2_lead_68 rfl ?_
      refine j_iconst (pc' := 72) (v := (1 : Int32)) hC dX2_lead_71 (by decide) rfl ?_
      refine j_iadd (pc' := 73) hC dX2_lead_72 rfl ?_
      refine j_put (pc' := 76) hC ly_X2 tyX2 tyX2_ok nmX2 (X_at_37 d _) rfl 2 (by decide) fl_X2_40 rfl rfl rfl rfl (Nat.le_of_ble_eq_true rfl) (X_sf_37_2 d _ _) dX2_lead_73 rfl ?_
      refine j_st (fun σ3 => ?_)
      refine j_aload_n (pc' := 77) hC 0 dX2_lead_76 rfl rfl rfl ?_
      refine j_iconst (pc' := 78) (v := (0 : Int32)) hC dX2_lead_77 (by decide) rfl ?_
      refine j_topeq (show (0 : Int32) = jb (0 : Int32) by decide) ?_
      refine j_put (pc' := 81) hC ly_X2 tyX2 tyX2_ok nmX2 (X_at_37 d _) rfl 1 (by decide) fl_X2_43 rfl rfl (jb_nar _) (jb_fit _) (Nat.le_of_ble_eq_true rfl) (X_sf_37_1 d _ _) dX2_lead_78 rfl ?_
      refine j_st (fun σ4 => ?_)
      exact j_ret_v hC dX2_lead_81
  · refine j_icmp_le (pc' := 40) (tgt := 62) hC dX2_lead_37 (by decide) rfl ?_ ?_
    · exact j_lv (lv' := [(0, .ref (d.2.1 37)), (1, .int p1)]) [0, 1] rfl (hj62 σ2)
    · refine j_aload_n (pc' := 41) hC 0 dX2_lead_40 rfl rfl rfl ?_
      refine j_aload_n (pc' := 42) hC 0 dX2_lead_41 rfl rfl rfl ?_
      refine j_get (pc' := 45) hC ly_X2 (X_at_37 d _) rfl 0 (by decide) fl_X2_12 rfl dX2_lead_42 rfl ?_
      refine j_get (pc' := 48) hC ly_X10 (X_at_38 d _) rfl 5 (by decide) fl_X2_31 rfl dX2_lead_45 rfl ?_
      refine j_put (pc' := 51) hC ly_X2 tyX2 tyX2_ok nmX2 (X_at_37 d _) rfl 6 (by decide) fl_X2_34 rfl rfl rfl rfl (Nat.le_of_ble_eq_true rfl) (X_sf_37_6 d _ _) dX2_lead_48 rfl ?_
      refine j_st (fun σ5 => ?_)
      refine j_aload_n (pc' := 52) hC 0 dX2_lead_51 rfl rfl rfl ?_
      refine j_aload_n (pc' := 53) hC 0 dX2_lead_52 rfl rfl rfl ?_
      refine j_get (pc' := 56) hC ly_X2 (X_at_37 d _) rfl 0 (by decide) fl_X2_12 rfl dX2_lead_53 rfl ?_
      refine j_get (pc' := 59) hC ly_X10 (X_at_38 d _) rfl 1 (by decide) fl_X2_37 rfl dX2_lead_56 rfl ?_
      refine j_put (pc' := 62) hC ly_X2 tyX2 tyX2_ok nmX2 (X_at_37 d _) rfl 7 (by decide) fl_X2_18 rfl rfl rfl rfl (Nat.le_of_ble_eq_true rfl) (X_sf_37_7 d _ _) dX2_lead_59 rfl ?_
      refine j_st (fun σ6 => ?_)
      exact j_lv (lv' := [(0, .ref (d.2.1 37)), (1, .int p1)]) [0, 1] rfl (hj62 σ6)
theorem hyV_X2_copy : yX2_copy.cls = RX2 ∧ yX2_copy.cls ≠ "java/lang/invoke/MethodHandle" ∧ yX2_copy.cls ≠ "java/lang/invoke/VarHandle" ∧ (parseMethodDescriptor yX2_copy.desc).map (fun d => d.parameters.length) = some 1 := ⟨rfl, by decide +kernel, by decide +kernel, by decide +kernel⟩
noncomputable def fX2_copy (o : Nat) (v : Nat) (σ : jS) : Option (jS) :=
  (Option.bind (fX10_copy (o + 1) (v + 1) σ) fun (q1 : jS) => (jst (ju q1 o 1 (q1.1 v 1)) fun (σ2 : jS) => (jst (ju σ2 o 2 (σ2.1 v 2)) fun (σ3 : jS) => (jst (ju σ3 o 3 (σ3.1 v 3)) fun (σ4 : jS) => (jst (ju σ4 o 4 (σ4.1 v 4)) fun (σ5 : jS) => (jst (ju σ5 o 5 (σ5.1 v 5)) fun (σ6 : jS) => (jst (ju σ6 o 6 (σ6.1 v 6)) fun (σ7 : jS) => (jst (ju σ7 o 7 (σ7.1 v 7)) fun (σ8 : jS) => (some σ8)))))))))
set_option maxRecDepth 100000 in
set_option maxHeartbeats 4000000 in
theorem kX2_copy (l : Launch) (d : jD) (A : Nat → Prop) {o : Nat} (h_o : jDd o) {v : Nat} (h_v : jDd v) (σ : jS) : jMv l yX2_copy (jws yX2_copy cX2_copy 2 none) { frames := 4, cells := 0, slots := 0, locals := 174 } d wX A [.ref (d.2.1 o), .ref (d.2.1 v)] σ (fX2_copy o v σ) := by
  refine jStart_v (lv0 := [(0, .ref (d.2.1 o)), (1, .ref (d.2.1 v))]) (by decide) rfl (Nat.le_of_ble_eq_true rfl) rfl (fun z hC res => ?_)
  unfold fX2_copy
  refine j_aload_n (pc' := 1) hC 0 dX2_copy_0 rfl rfl rfl ?_
  refine j_get (pc' := 4) hC ly_X2 (X_dd d _ h_o) rfl 0 (by decide) fl_X2_12 rfl dX2_copy_1 rfl ?_
  refine j_aload_n (pc' := 5) hC 1 dX2_copy_4 rfl rfl rfl ?_
  refine j_get (pc' := 8) hC ly_X2 (X_dd d _ h_v) rfl 0 (by decide) fl_X2_12 rfl dX2_copy_5 rfl ?_
  refine j_callV_v (pc' := 11) (As := [.ref (d.2.1 (v + 1))]) (st := []) hC (X_tn d _ (jDd_tn h_o)) rfl (kX10_copy l d A (jDd_tn h_o) (jDd_tn h_v) _) (jgV ml_X2_47 im_X10_copy se_X10_copy in_X10 cd_X10_copy) rfl rfl rfl hyV_X10_copy ⟨Nat.le_of_ble_eq_true rfl, Nat.le_of_ble_eq_true rfl⟩ rfl rfl (Nat.le_of_ble_eq_true rfl) dX2_copy_8 rfl (fun q1 => ?_)
  refine j_aload_n (pc' := 12) hC 0 dX2_copy_11 rfl rfl rfl ?_
  refine j_aload_n (pc' := 13) hC 1 dX2_copy_12 rfl rfl rfl ?_
  refine j_get (pc' := 16) hC ly_X2 (X_dd d _ h_v) rfl 1 (by decide) fl_X2_43 rfl dX2_copy_13 rfl ?_
  refine j_put (pc' := 19) hC ly_X2 tyX2 tyX2_ok nmX2 (X_dd d _ h_o) rfl 1 (by decide) fl_X2_43 rfl rfl (jb_nar _) (jb_fit _) (Nat.le_of_ble_eq_true rfl) (X_ddf_1 d _ _ h_o) dX2_copy_16 rfl ?_
  refine j_st (fun σ2 => ?_)
  refine j_aload_n (pc' := 20) hC 0 dX2_copy_19 rfl rfl rfl ?_
  refine j_aload_n (pc' := 21) hC 1 dX2_copy_20 rfl rfl rfl ?_
  refine j_get (pc' := 24) hC ly_X2 (X_dd d _ h_v) rfl 2 (by decide) fl_X2_40 rfl dX2_copy_21 rfl ?_
  refine j_put (pc' := 27) hC ly_X2 tyX2 tyX2_ok nmX2 (X_dd d _ h_o) rfl 2 (by decide) fl_X2_40 rfl rfl rfl rfl (Nat.le_of_ble_eq_true rfl) (X_ddf_2 d _ _ h_o) dX2_copy_24 rfl ?_
  refine j_st (fun σ3 => ?_)
  refine j_aload_n (pc' := 28) hC 0 dX2_copy_27 rfl rfl rfl ?_
  refine j_aload_n (pc' := 29) hC 1 dX2_copy_28 rfl rfl rfl ?_
  refine j_get (pc' := 32) hC ly_X2 (X_dd d _ h_v) rfl 3 (by decide) fl_X2_22 rfl dX2_copy_29 rfl ?_
  refine j_put (pc' := 35) hC ly_X2 tyX2 tyX2_ok nmX2 (X_dd d _ h_o) rfl 3 (by decide) fl_X2_22 rfl rfl rfl rfl (Nat.le_of_ble_eq_true rfl) (X_ddf_3 d _ _ h_o) dX2_copy_32 rfl ?_
  refine j_st (fun σ4 => ?_)
  refine j_aload_n (pc' := 36) hC 0 dX2_copy_35 rfl rfl rfl ?_
  refine j_aload_n (pc' := 37) hC 1 dX2_copy_36 rfl rfl rfl ?_
  refine j_get (pc' := 40) hC ly_X2 (X_dd d _ h_v) rfl 4 (by decide) fl_X2_25 rfl dX2_copy_37 rfl ?_
  refine j_put (pc' := 43) hC ly_X2 tyX2 tyX2_ok nmX2 (X_dd d _ h_o) rfl 4 (by decide) fl_X2_25 rfl rfl rfl rfl (Nat.le_of_ble_eq_true rfl) (X_ddf_4 d _ _ h_o) dX2_copy_40 rfl ?_
  refine j_st (fun σ5 => ?_)
  refine j_aload_n (pc' := 44) hC 0 dX2_copy_43 rfl rfl rfl ?_
  refine j_aload_n (pc' := 45) hC 1 dX2_copy_44 rfl rfl rfl ?_
  refine j_get (pc' := 48) hC ly_X2 (X_dd d _ h_v) rfl 5 (by decide) fl_X2_51 rfl dX2_copy_45 rfl ?_
  refine j_put (pc' := 51) hC ly_X2 tyX2 tyX2_ok nmX2 (X_dd d _ h_o) rfl 5 (by decide) fl_X2_51 rfl rfl rfl rfl (Nat.le_of_ble_eq_true rfl) (X_ddf_5 d _ _ h_o) dX2_copy_48 rfl ?_
  refine j_st (fun σ6 => ?_)
  refine j_aload_n (pc' := 52) hC 0 dX2_copy_51 rfl rfl rfl ?_
  refine j_aload_n (pc' := 53) hC 1 dX2_copy_52 rfl rfl rfl ?_
  refine j_get (pc' := 56) hC ly_X2 (X_dd d _ h_v) rfl 6 (by decide) fl_X2_34 rfl dX2_copy_53 rfl ?_
  refine j_put (pc' := 59) hC ly_X2 tyX2 tyX2_ok nmX2 (X_dd d _ h_o) rfl 6 (by decide) fl_X2_34 rfl rfl rfl rfl (Nat.le_of_ble_eq_true rfl) (X_ddf_6 d _ _ h_o) dX2_copy_56 rfl ?_
  refine j_st (fun σ7 => ?_)
  refine j_aload_n (pc' := 60) hC 0 dX2_copy_59 rfl rfl rfl ?_
  refine j_aload_n (pc' := 61) hC 1 dX2_copy_60 rfl rfl rfl ?_
  refine j_get (pc' := 64) hC ly_X2 (X_dd d _ h_v) rfl 7 (by decide) fl_X2_18 rfl dX2_copy_61 rfl ?_
  refine j_put (pc' := 67) hC ly_X2 tyX2 tyX2_ok nmX2 (X_dd d _ h_o) rfl 7 (by decide) fl_X2_18 rfl rfl rfl rfl (Nat.le_of_ble_eq_true rfl) (X_ddf_7 d _ _ h_o) dX2_copy_64 rfl ?_
  refine j_st (fun σ8 => ?_)
  exact j_ret_v hC dX2_copy_67
theorem hyV_X3_begin : yX3_begin.cls = RX3 ∧ yX3_begin.cls ≠ "java/lang/invoke/MethodHandle" ∧ yX3_begin.cls ≠ "java/lang/invoke/VarHandle" ∧ (parseMethodDescriptor yX3_begin.desc).map (fun d => d.parameters.length) = some 2 := ⟨rfl, by decide +kernel, by decide +kernel, by decide +kernel⟩
noncomputable def fX3_begin (σ : jS) (p1 : Int32) (p2 : Int32) : Option (jS) :=
  (jst (ju σ 36 0 p1) fun (σ1 : jS) => (jst (ju σ1 36 1 p2) fun (σ2 : jS) => (some σ2)))
set_option maxRecDepth 100000 in
set_option maxHeartbeats 4000000 in
theorem kX3_begin (l : Launch) (d : jD) (A : Nat → Prop) (σ : jS) (p1 : Int32) (p2 : Int32) : jMv l yX3_begin (jws yX3_begin cX3_begin 3 none) { frames := 2, cells := 0, slots := 0, locals := 130 } d wX A [.ref (d.2.1 36), .int p1, .int p2] σ (fX3_begin σ p1 p2) := by
  refine jStart_v (lv0 := [(0, .ref (d.2.1 36)), (1, .int p1), (2, .int p2)]) (by decide) rfl (Nat.le_of_ble_eq_true rfl) rfl (fun z hC res => ?_)
  unfold fX3_begin
  refine j_aload_n (pc' := 1) hC 0 dX3_begin_0 rfl rfl rfl ?_
  refine j_iload_n (pc' := 2) hC 1 dX3_begin_1 rfl rfl rfl ?_
  refine j_put (pc' := 5) hC ly_X3 tyX3 tyX3_ok nmX3 (X_at_36 d _) rfl 0 (by decide) fl_X3_7 rfl rfl rfl rfl (Nat.le_of_ble_eq_true rfl) (X_sf_36_0 d _ _) dX3_begin_2 rfl ?_
  refine j_st (fun σ1 => ?_)
  refine j_aload_n (pc' := 6) hC 0 dX3_begin_5 rfl rfl rfl ?_
  refine j_iload_n (pc' := 7) hC 2 dX3_begin_6 rfl rfl rfl ?_
  refine j_put (pc' := 10) hC ly_X3 tyX3 tyX3_ok nmX3 (X_at_36 d _) rfl 1 (by decide) fl_X3_13 rfl rfl rfl rfl (Nat.le_of_ble_eq_true rfl) (X_sf_36_1 d _ _) dX3_begin_7 rfl ?_
  refine j_st (fun σ2 => ?_)
  exact j_ret_v hC dX3_begin_10
theorem hyV_X3_next : yX3_next.cls = RX3 ∧ yX3_next.cls ≠ "java/lang/invoke/MethodHandle" ∧ yX3_next.cls ≠ "java/lang/invoke/VarHandle" ∧ (parseMethodDescriptor yX3_next.desc).map (fun d => d.parameters.length) = some 0 := ⟨rfl, by decide +kernel, by decide +kernel, by decide +kernel⟩
noncomputable def fX3_next (σ : jS) : Option (Int32 × jS) :=
  (jst (ju σ 36 0 (((σ.1 36 0) * (1103515245 : Int32)) + (12345 : Int32))) fun (σ1 : jS) => (if (σ1.1 36 1) ≤ ((((σ1.1 36 0)).toUInt32 >>> (((8 : Int32)).toUInt32 &&& Int32.toUInt32 31)).toInt32 - (((σ1.1 36 0)).toUInt32 >>> (((8 : Int32)).toUInt32 &&& Int32.toUInt32 31)).toInt32 / (12 : Int32) * (12 : Int32)) then (some ((0 : Int32), σ1)) else (some ((1 : Int32), σ1))))
set_option maxRecDepth 100000 in
set_option maxHeartbeats 4000000 in
theorem kX3_next (l : Launch) (d : jD) (A : Nat → Prop) (σ : jS) : jMz l yX3_next (jws yX3_next cX3_next 1 (some (.boolean))) { frames := 2, cells := 0, slots := 0, locals := 130 } d wX A [.ref (d.2.1 36)] σ (fX3_next σ) := by
  refine jStart_z (lv0 := [(0, .ref (d.2.1 36))]) (by decide) rfl (Nat.le_of_ble_eq_true rfl) rfl (fun z hC res => ?_)
  unfold fX3_next
  refine j_aload_n (pc' := 1) hC 0 dX3_next_0 rfl rfl rfl ?_
  refine j_aload_n (pc' := 2) hC 0 dX3_next_1 rfl rfl rfl ?_
  refine j_get (pc' := 5) hC ly_X3 (X_at_36 d _) rfl 0 (by decide) fl_X3_7 rfl dX3_next_2 rfl ?_
  refine j_ldc (pc' := 7) (v := (1103515245 : Int32)) hC dX3_next_5 ct_X3_16 rfl ?_
  refine j_imul (pc' := 8) hC dX3_next_7 rfl ?_
  refine j_sipush (pc' := 11) (v := (12345 : Int32)) hC dX3_next_8 (by decide) rfl ?_
  refine j_iadd (pc' := 12) hC dX3_next_11 rfl ?_
  refine j_put (pc' := 15) hC ly_X3 tyX3 tyX3_ok nmX3 (X_at_36 d _) rfl 0 (by decide) fl_X3_7 rfl rfl rfl rfl (Nat.le_of_ble_eq_true rfl) (X_sf_36_0 d _ _) dX3_next_12 rfl ?_
  refine j_st (fun σ1 => ?_)
  refine j_aload_n (pc' := 16) hC 0 dX3_next_15 rfl rfl rfl ?_
  refine j_get (pc' := 19) hC ly_X3 (X_at_36 d _) rfl 0 (by decide) fl_X3_7 rfl dX3_next_16 rfl ?_
  refine j_bipush (pc' := 21) (v := (8 : Int32)) hC dX3_next_19 (by decide) rfl ?_
  refine j_iushr (pc' := 22) hC dX3_next_21 rfl ?_
  refine j_bipush (pc' := 24) (v := (12 : Int32)) hC dX3_next_22 (by decide) rfl ?_
  refine j_irem0 (pc' := 25) hC dX3_next_24 (by decide) rfl ?_
  refine j_aload_n (pc' := 26) hC 0 dX3_next_25 rfl rfl rfl ?_
  refine j_get (pc' := 29) hC ly_X3 (X_at_36 d _) rfl 1 (by decide) fl_X3_13 rfl dX3_next_26 rfl ?_
  refine j_icmp_ge (pc' := 32) (tgt := 36) hC dX3_next_29 (by decide) rfl ?_ ?_
  · refine j_iconst (pc' := 37) (v := (0 : Int32)) hC dX3_next_36 (by decide) rfl ?_
    exact j_ret_z hC (by decide) dX3_next_37
  · refine j_iconst (pc' := 33) (v := (1 : Int32)) hC dX3_next_32 (by decide) rfl ?_
    refine j_goto (tgt := 37) hC dX3_next_33 (by decide) ?_
    exact j_ret_z hC (by decide) dX3_next_37
