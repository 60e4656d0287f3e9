theorem hyV_X8_step : yX8_step.cls = RX8 ∧ yX8_step.cls ≠ "java/lang/invoke/MethodHandle" ∧ yX8_step.cls ≠ "java/lang/invoke/VarHandle" ∧ (parseMethodDescriptor yX8_step.desc).map (fun d => d.parameters.length) = some 2 := ⟨rfl, by decide +kernel, by decide +kernel, by decide +kernel⟩
noncomputable def fX8_step (t : Nat) (σ : jS) (p2 : Int32) : Option (jS) :=
  (Option.bind (fX6_valueOf σ (σ.1 t 1) (0 : Int32)) fun (q1 : Int32) => (Option.bind (fX6_valueOf σ (0 : Int32) (7 : Int32)) fun (q2 : Int32) => (Option.bind (fX6_valueOf σ (σ.1 t 1) (1 : Int32)) fun (q3 : Int32) => (Option.bind (fX6_valueOf σ (σ.1 t 1) (2 : Int32)) fun (q4 : Int32) => (jst (ju σ t 5 (if (if (0 : Int32) < ((((σ.1 t 5) + q2) + q3) - (q1 / (3 : Int32))) then ((((σ.1 t 5) + q2) + q3) - (q1 / (3 : Int32))) else (0 : Int32)) < q4 then (if (0 : Int32) < ((((σ.1 t 5) + q2) + q3) - (q1 / (3 : Int32))) then ((((σ.1 t 5) + q2) + q3) - (q1 / (3 : Int32))) else (0 : Int32)) else q4)) fun (σ5 : jS) => (Option.bind (fX6_valueOf σ5 (σ5.1 t 0) (6 : Int32)) fun (q6 : Int32) => (Option.bind (fX4_lasting σ5 (σ5.1 t 5) q6 q1 (σ5.1 t 3) p2 q2) fun (q7 : (Int32 × jS)) => (jst (ju q7.2 t 7 q7.1) fun (σ8 : jS) => (jst (ju σ8 t 3 ((σ8.1 t 3) + (1 : Int32))) fun (σ9 : jS) => (jst (ju σ9 t 4 ((σ9.1 t 4) + (σ9.1 t 7))) fun (σ10 : jS) => (jst (ju σ10 t 6 (if (σ10.1 t 6) < (σ10.1 t 5) then (σ10.1 t 5) else (σ10.1 t 6))) fun (σ11 : jS) => (some σ11))))))))))))
set_option maxRecDepth 100000 in
set_option maxHeartbeats 4000000 in
theorem kX8_step (l : Launch) (d : jD) (A : Nat → Prop) {t : Nat} (h_t : jTn t) (σ : jS) (p2 : Int32) : jMv l yX8_step (jws yX8_step cX8_step 7 none) { frames := 5, cells := 0, slots := 0, locals := 203 } d wX A [.ref (d.2.1 13), .ref (d.2.1 t), .int p2] σ (fX8_step t σ p2) := by
  refine jStart_v (lv0 := [(0, .ref (d.2.1 13)), (1, .ref (d.2.1 t)), (2, .int p2)]) (by decide) rfl (Nat.le_of_ble_eq_true rfl) rfl (fun z hC res => ?_)
  unfold fX8_step
  refine j_aload_n (pc' := 1) hC 0 dX8_step_0 rfl rfl rfl ?_
  refine j_get (pc' := 4) hC ly_X8 (X_at_13 d _) rfl 0 (by decide) fl_X8_22 rfl dX8_step_1 rfl ?_
  refine j_aload_n (pc' := 5) hC 1 dX8_step_4 rfl rfl rfl ?_
  refine j_get (pc' := 8) hC ly_X10 (X_tn d _ h_t) rfl 1 (by decide) fl_X8_30 rfl dX8_step_5 rfl ?_
  refine j_iconst (pc' := 9) (v := (0 : Int32)) hC dX8_step_8 (by decide) rfl ?_
  refine j_callV_ir (pc' := 12) (As := [.int (σ.1 t 1), .int (0 : Int32)]) (st := []) hC (X_at_1 d _) rfl (kX6_valueOf l d A _ _ _) (jgV ml_X8_34 im_X6_valueOf se_X6_valueOf in_X6 cd_X6_valueOf) rfl rfl rfl hyV_X6_valueOf ⟨Nat.le_of_ble_eq_true rfl, Nat.le_of_ble_eq_true rfl⟩ rfl rfl (Nat.le_of_ble_eq_true rfl) dX8_step_9 rfl (fun q1 => ?_)
  refine j_istore_n (pc' := 13) (lv' := [(3, .int q1), (0, .ref (d.2.1 13)), (1, .ref (d.2.1 t)), (2, .int p2)]) hC dX8_step_12 rfl (by decide) rfl rfl ?_
  refine j_aload_n (pc' := 14) hC 1 dX8_step_13 rfl rfl rfl ?_
  refine j_get (pc' := 17) hC ly_X8 (X_at_13 d _) rfl 0 (by decide) fl_X8_22 rfl dX8_step_14 rfl ?_
  refine j_iconst (pc' := 18) (v := (0 : Int32)) hC dX8_step_17 (by decide) rfl ?_
  refine j_bipush (pc' := 20) (v := (7 : Int32)) hC dX8_step_18 (by decide) rfl ?_
  refine j_callV_ir (pc' := 23) (As := [.int (0 : Int32), .int (7 : Int32)]) (st := []) hC (X_at_1 d _) rfl (kX6_valueOf l d A _ _ _) (jgV ml_X8_34 im_X6_valueOf se_X6_valueOf in_X6 cd_X6_valueOf) rfl rfl rfl hyV_X6_valueOf ⟨Nat.le_of_ble_eq_true rfl, Nat.le_of_ble_eq_true rfl⟩ rfl rfl (Nat.le_of_ble_eq_true rfl) dX8_step_20 rfl (fun q2 => ?_)
  refine j_istore (pc' := 25) (lv' := [(4, .int q2), (3, .int q1), (0, .ref (d.2.1 13)), (1, .ref (d.2.1 t)), (2, .int p2)]) hC dX8_step_23 (by decide) rfl rfl ?_
  refine j_aload_n (pc' := 26) hC 3 dX8_step_25 rfl rfl rfl ?_
  refine j_get (pc' := 29) hC ly_X10 (X_tn d _ h_t) rfl 5 (by decide) fl_X8_40 rfl dX8_step_26 rfl ?_
  refine j_iload (pc' := 31) hC 0 dX8_step_29 rfl rfl ?_
  refine j_iadd (pc' := 32) hC dX8_step_31 rfl ?_
  refine j_aload_n (pc' := 33) hC 2 dX8_step_32 rfl rfl rfl ?_
  refine j_get (pc' := 36) hC ly_X8 (X_at_13 d _) rfl 0 (by decide) fl_X8_22 rfl dX8_step_33 rfl ?_
  refine j_aload_n (pc' := 37) hC 3 dX8_step_36 rfl rfl rfl ?_
  refine j_get (pc' := 40) hC ly_X10 (X_tn d _ h_t) rfl 1 (by decide) fl_X8_30 rfl dX8_step_37 rfl ?_
  refine j_iconst (pc' := 41) (v := (1 : Int32)) hC dX8_step_40 (by decide) rfl ?_
  refine j_callV_ir (pc' := 44) (As := [.int (σ.1 t 1), .int (1 : Int32)]) (st := [.int ((σ.1 t 5) + q2)]) hC (X_at_1 d _) rfl (kX6_valueOf l d A _ _ _) (jgV ml_X8_34 im_X6_valueOf se_X6_valueOf in_X6 cd_X6_valueOf) rfl rfl rfl hyV_X6_valueOf ⟨Nat.le_of_ble_eq_true rfl, Nat.le_of_ble_eq_true rfl⟩ rfl rfl (Nat.le_of_ble_eq_true rfl) dX8_step_41 rfl (fun q3 => ?_)
  refine j_iadd (pc' := 45) hC dX8_step_44 rfl ?_
  refine j_iload_n (pc' := 46) hC 1 dX8_step_45 rfl rfl rfl ?_
  refine j_iconst (pc' := 47) (v := (3 : Int32)) hC dX8_step_46 (by decide) rfl ?_
  refine j_idiv0 (pc' := 48) hC dX8_step_47 (by decide) rfl ?_
  refine j_isub (pc' := 49) hC dX8_step_48 rfl ?_
  refine j_istore (pc' := 51) (lv' := [(5, .int ((((σ.1 t 5) + q2) + q3) - (q1 / (3 : Int32)))), (4, .int q2), (3, .int q1), (0, .ref (d.2.1 13)), (1, .ref (d.2.1 t)), (2, .int p2)]) hC dX8_step_49 (by decide) rfl rfl ?_
  refine j_aload_n (pc' := 52) hC 4 dX8_step_51 rfl rfl rfl ?_
  refine j_aload_n (pc' := 53) hC 3 dX8_step_52 rfl rfl rfl ?_
  refine j_get (pc' := 56) hC ly_X8 (X_at_13 d _) rfl 0 (by decide) fl_X8_22 rfl dX8_step_53 rfl ?_
  refine j_aload_n (pc' := 57) hC 4 dX8_step_56 rfl rfl rfl ?_
  refine j_get (pc' := 60) hC ly_X10 (X_tn d _ h_t) rfl 1 (by decide) fl_X8_30 rfl dX8_step_57 rfl ?_
  refine j_iconst (pc' := 61) (v := (2 : Int32)) hC dX8_step_60 (by decide) rfl ?_
  refine j_callV_ir (pc' := 64) (As := [.int (σ.1 t 1), .int (2 : Int32)]) (st := [.ref (d.2.1 t)]) hC (X_at_1 d _) rfl (kX6_valueOf l d A _ _ _) (jgV ml_X8_34 im_X6_valueOf se_X6_valueOf in_X6 cd_X6_valueOf) rfl rfl rfl hyV_X6_valueOf ⟨Nat.le_of_ble_eq_true rfl, Nat.le_of_ble_eq_true rfl⟩ rfl rfl (Nat.le_of_ble_eq_true rfl) dX8_step_61 rfl (fun q4 => ?_)
  refine j_iconst (pc' := 65) (v := (0 : Int32)) hC dX8_step_64 (by decide) rfl ?_
  refine j_iload (pc' := 67) hC 0 dX8_step_65 rfl rfl ?_
  refine j_mmax (pc' := 70) hC ml_X8_43 st_mmax in_J9 cd_mmax (Nat.le_of_ble_eq_true rfl) (Nat.le_of_ble_eq_true rfl) dX8_step_67 rfl ?_
  refine j_mmin (pc' := 73) hC ml_X8_48 st_mmin in_J9 cd_mmin (Nat.le_of_ble_eq_true rfl) (Nat.le_of_ble_eq_true rfl) dX8_step_70 rfl ?_
  refine j_put (pc' := 76) hC ly_X10 tyX10 tyX10_ok nmX10 (X_tn d _ h_t) rfl 5 (by decide) fl_X8_40 rfl rfl rfl rfl (Nat.le_of_ble_eq_true rfl) (X_tnf_5 d _ _ h_t) dX8_step_73 rfl ?_
  refine j_st (fun σ5 => ?_)
  refine j_aload_n (pc' := 77) hC 3 dX8_step_76 rfl rfl rfl ?_
  refine j_get (pc' := 80) hC ly_X8 (X_at_13 d _) rfl 0 (by decide) fl_X8_22 rfl dX8_step_77 rfl ?_
  refine j_aload_n (pc' := 81) hC 4 dX8_step_80 rfl rfl rfl ?_
  refine j_get (pc' := 84) hC ly_X10 (X_tn d _ h_t) rfl 0 (by decide) fl_X8_51 rfl dX8_step_81 rfl ?_
  refine j_bipush (pc' := 86) (v := (6 : Int32)) hC dX8_step_84 (by decide) rfl ?_
  refine j_callV_ir (pc' := 89) (As := [.int (σ5.1 t 0), .int (6 : Int32)]) (st := []) hC (X_at_1 d _) rfl (kX6_valueOf l d A _ _ _) (jgV ml_X8_34 im_X6_valueOf se_X6_valueOf in_X6 cd_X6_valueOf) rfl rfl rfl hyV_X6_valueOf ⟨Nat.le_of_ble_eq_true rfl, Nat.le_of_ble_eq_true rfl⟩ rfl rfl (Nat.le_of_ble_eq_true rfl) dX8_step_86 rfl (fun q6 => ?_)
  refine j_istore (pc' := 91) (lv' := [(6, .int q6), (5, .int ((((σ.1 t 5) + q2) + q3) - (q1 / (3 : Int32)))), (4, .int q2), (3, .int q1), (0, .ref (d.2.1 13)), (1, .ref (d.2.1 t)), (2, .int p2)]) hC dX8_step_89 (by decide) rfl rfl ?_
  refine j_aload_n (pc' := 92) hC 5 dX8_step_91 rfl rfl rfl ?_
  refine j_aload_n (pc' := 93) hC 4 dX8_step_92 rfl rfl rfl ?_
  refine j_get (pc' := 96) hC ly_X8 (X_at_13 d _) rfl 1 (by decide) fl_X8_26 rfl dX8_step_93 rfl ?_
  refine j_aload_n (pc' := 97) hC 5 dX8_step_96 rfl rfl rfl ?_
  refine j_get (pc' := 100) hC ly_X10 (X_tn d _ h_t) rfl 5 (by decide) fl_X8_40 rfl dX8_step_97 rfl ?_
  refine j_iload (pc' := 102) hC 0 dX8_step_100 rfl rfl ?_
  refine j_iload_n (pc' := 103) hC 3 dX8_step_102 rfl rfl rfl ?_
  refine j_aload_n (pc' := 104) hC 5 dX8_step_103 rfl rfl rfl ?_
  refine j_get (pc' := 107) hC ly_X10 (X_tn d _ h_t) rfl 3 (by decide) fl_X8_54 rfl dX8_step_104 rfl ?_
  refine j_iload_n (pc' := 108) hC 6 dX8_step_107 rfl rfl rfl ?_
  refine j_iload (pc' := 110) hC 2 dX8_step_108 rfl rfl ?_
  refine j_callV_i (pc' := 113) (As := [.int (σ5.1 t 5), .int q6, .int q1, .int (σ5.1 t 3), .int p2, .int q2]) (st := [.ref (d.2.1 t)]) hC (X_at_7 d _) rfl (kX4_lasting l d A _ _ _ _ _ _ _) (jgV ml_X8_57 im_X4_lasting se_X4_lasting in_X4 cd_X4_lasting) rfl rfl rfl hyV_X4_lasting ⟨Nat.le_of_ble_eq_true rfl, Nat.le_of_ble_eq_true rfl⟩ rfl rfl (Nat.le_of_ble_eq_true rfl) dX8_step_110 rfl (fun q7 => ?_)
  refine j_put (pc' := 116) hC ly_X10 tyX10 tyX10_ok nmX10 (X_tn d _ h_t) rfl 7 (by decide) fl_X8_63 rfl rfl rfl rfl (Nat.le_of_ble_eq_true rfl) (X_tnf_7 d _ _ h_t) dX8_step_113 rfl ?_
  refine j_st (fun σ8 => ?_)
  refine j_aload_n (pc' := 117) hC 5 dX8_step_116 rfl rfl rfl ?_
  refine j_dup (pc' := 118) hC rfl dX8_step_117 rfl ?_
  refine j_get (pc' := 121) hC ly_X10 (X_tn d _ h_t) rfl 3 (by decide) fl_X8_54 rfl dX8_step_118 rfl ?_
  refine j_iconst (pc' := 122) (v := (1 : Int32)) hC dX8_step_121 (by decide) rfl ?_
  refine j_iadd (pc' := 123) hC dX8_step_122 rfl ?_
  refine j_put (pc' := 126) hC ly_X10 tyX10 tyX10_ok nmX10 (X_tn d _ h_t) rfl 3 (by decide) fl_X8_54 rfl rfl rfl rfl (Nat.le_of_ble_eq_true rfl) (X_tnf_3 d _ _ h_t) dX8_step_123 rfl ?_
  refine j_st (fun σ9 => ?_)
  refine j_aload_n (pc' := 127) hC 5 dX8_step_126 rfl rfl rfl ?_
  refine j_dup (pc' := 128) hC rfl dX8_step_127 rfl ?_
  refine j_get (pc' := 131) hC ly_X10 (X_tn d _ h_t) rfl 4 (by decide) fl_X8_66 rfl dX8_step_128 rfl ?_
  refine j_aload_n (pc' := 132) hC 5 dX8_step_131 rfl rfl rfl ?_
  refine j_get (pc' := 135) hC ly_X10 (X_tn d _ h_t) rfl 7 (by decide) fl_X8_63 rfl dX8_step_132 rfl ?_
  refine j_iadd (pc' := 136) hC dX8_step_135 rfl ?_
  refine j_put (pc' := 139) hC ly_X10 tyX10 tyX10_ok nmX10 (X_tn d _ h_t) rfl 4 (by decide) fl_X8_66 rfl rfl rfl rfl (Nat.le_of_ble_eq_true rfl) (X_tnf_4 d _ _ h_t) dX8_step_136 rfl ?_
  refine j_st (fun σ10 => ?_)
  refine j_aload_n (pc' := 140) hC 5 dX8_step_139 rfl rfl rfl ?_
  refine j_aload_n (pc' := 141) hC 5 dX8_step_140 rfl rfl rfl ?_
  refine j_get (pc' := 144) hC ly_X10 (X_tn d _ h_t) rfl 6 (by decide) fl_X8_69 rfl dX8_step_141 rfl ?_
  refine j_aload_n (pc' := 145) hC 5 dX8_step_144 rfl rfl rfl ?_
  refine j_get (pc' := 148) hC ly_X10 (X_tn d _ h_t) rfl 5 (by decide) fl_X8_40 rfl dX8_step_145 rfl ?_
  refine j_mmax (pc' := 151) hC ml_X8_43 st_mmax in_J9 cd_mmax (Nat.le_of_ble_eq_true rfl) (Nat.le_of_ble_eq_true rfl) dX8_step_148 rfl ?_
  refine j_put (pc' := 154) hC ly_X10 tyX10 tyX10_ok nmX10 (X_tn d _ h_t) rfl 6 (by decide) fl_X8_69 rfl rfl rfl rfl (Nat.le_of_ble_eq_true rfl) (X_tnf_6 d _ _ h_t) dX8_step_151 rfl ?_
  refine j_st (fun σ11 => ?_)
  exact j_ret_v hC dX8_step_154
theorem hyV_X8_countedOf : yX8_countedOf.cls = RX8 ∧ yX8_countedOf.cls ≠ "java/lang/invoke/MethodHandle" ∧ yX8_countedOf.cls ≠ "java/lang/invoke/VarHandle" ∧ (parseMethodDescriptor yX8_countedOf.desc).map (fun d => d.parameters.length) = some 1 := ⟨rfl, by decide +kernel, by decide +kernel, by decide +kernel⟩
noncomputable def fX8_countedOf (t : Nat) (σ : jS) : Option (Int32) :=
  (Option.bind (fX6_bentFor σ (σ.1 t 2) (σ.1 t 1)) fun (q1 : Int32) => (if q1 = (1 : Int32) then (some ((σ.1 t 3) - ((σ.1 t 3) / (3 : Int32)))) else (if q1 = (2 : Int32) then (some ((σ.1 t 3) + ((σ.1 t 3) / (4 : Int32)))) else (if q1 = (3 : Int32) then (some ((σ.1 t 3) - ((σ.1 t 3) - (σ.1 t 3) / (10 : Int32) * (10 : Int32)))) else (some (σ.1 t 3))))))
set_option maxRecDepth 100000 in
set_option maxHeartbeats 4000000 in
theorem kX8_countedOf (l : Launch) (d : jD) (A : Nat → Prop) {t : Nat} (h_t : jTn t) (σ : jS) : jMir l yX8_countedOf (jws yX8_countedOf cX8_countedOf 3 (some (.int))) { frames := 4, cells := 0, slots := 0, locals := 174 } d wX A [.ref (d.2.1 13), .ref (d.2.1 t)] σ (fX8_countedOf t σ) := by
  refine jStart_ir (lv0 := [(0, .ref (d.2.1 13)), (1, .ref (d.2.1 t))]) (by decide) rfl (Nat.le_of_ble_eq_true rfl) rfl (fun z hC res => ?_)
  unfold fX8_countedOf
  refine j_aload_n (pc' := 1) hC 1 dX8_countedOf_0 rfl rfl rfl ?_
  refine j_get (pc' := 4) hC ly_X10 (X_tn d _ h_t) rfl 3 (by decide) fl_X8_54 rfl dX8_countedOf_1 rfl ?_
  refine j_istore_n (pc' := 5) (lv' := [(2, .int (σ.1 t 3)), (0, .ref (d.2.1 13)), (1, .ref (d.2.1 t))]) hC dX8_countedOf_4 rfl (by decide) rfl rfl ?_
  refine j_aload_n (pc' := 6) hC 1 dX8_countedOf_5 rfl rfl rfl ?_
  refine j_get (pc' := 9) hC ly_X8 (X_at_13 d _) rfl 0 (by decide) fl_X8_22 rfl dX8_countedOf_6 rfl ?_
  refine j_aload_n (pc' := 10) hC 2 dX8_countedOf_9 rfl rfl rfl ?_
  refine j_get (pc' := 13) hC ly_X10 (X_tn d _ h_t) rfl 2 (by decide) fl_X8_72 rfl dX8_countedOf_10 rfl ?_
  refine j_aload_n (pc' := 14) hC 2 dX8_countedOf_13 rfl rfl rfl ?_
  refine j_get (pc' := 17) hC ly_X10 (X_tn d _ h_t) rfl 1 (by decide) fl_X8_30 rfl dX8_countedOf_14 rfl ?_
  refine j_callV_ir (pc' := 20) (As := [.int (σ.1 t 2), .int (σ.1 t 1)]) (st := []) hC (X_at_1 d _) rfl (kX6_bentFor l d A _ _ _) (jgV ml_X8_75 im_X6_bentFor se_X6_bentFor in_X6 cd_X6_bentFor) rfl rfl rfl hyV_X6_bentFor ⟨Nat.le_of_ble_eq_true rfl, Nat.le_of_ble_eq_true rfl⟩ rfl rfl (Nat.le_of_ble_eq_true rfl) dX8_countedOf_17 rfl (fun q1 => ?_)
  refine j_if (fun c0 => ?_) (fun c0 => ?_)
  · refine j_tableIn (tgt := 48) (off := 28) hC dX8_countedOf_20 (by rw [c0]; decide) (by rw [c0]; decide) (by rw [c0]; rfl) (by decide) ?_
    refine j_iload_n (pc' := 49) hC 0 dX8_countedOf_48 rfl rfl rfl ?_
    refine j_iload_n (pc' := 50) hC 0 dX8_countedOf_49 rfl rfl rfl ?_
    refine j_iconst (pc' := 51) (v := (3 : Int32)) hC dX8_countedOf_50 (by decide) rfl ?_
    refine j_idiv0 (pc' := 52) hC dX8_countedOf_51 (by decide) rfl ?_
    refine j_isub (pc' := 53) hC dX8_countedOf_52 rfl ?_
    exact j_ret_ir hC dX8_countedOf_53
  refine j_if (fun c1 => ?_) (fun c1 => ?_)
  · refine j_tableIn (tgt := 54) (off := 34) hC dX8_countedOf_20 (by rw [c1]; decide) (by rw [c1]; decide) (by rw [c1]; rfl) (by decide) ?_
    refine j_iload_n (pc' := 55) hC 0 dX8_countedOf_54 rfl rfl rfl ?_
    refine j_iload_n (pc' := 56) hC 0 dX8_countedOf_55 rfl rfl rfl ?_
    refine j_iconst (pc' := 57) (v := (4 : Int32)) hC dX8_countedOf_56 (by decide) rfl ?_
    refine j_idiv0 (pc' := 58) hC dX8_countedOf_57 (by decide) rfl ?_
    refine j_iadd (pc' := 59) hC dX8_countedOf_58 rfl ?_
    exact j_ret_ir hC dX8_countedOf_59
  refine j_if (fun c2 => ?_) (fun c2 => ?_)
  · refine j_tableIn (tgt := 60) (off := 40) hC dX8_countedOf_20 (by rw [c2]; decide) (by rw [c2]; decide) (by rw [c2]; rfl) (by decide) ?_
    refine j_iload_n (pc' := 61) hC 0 dX8_countedOf_60 rfl rfl rfl ?_
    refine j_iload_n (pc' := 62) hC 0 dX8_countedOf_61 rfl rfl rfl ?_
    refine j_bipush (pc' := 64) (v := (10 : Int32)) hC dX8_countedOf_62 (by decide) rfl ?_
    refine j_irem0 (pc' := 65) hC dX8_countedOf_64 (by decide) rfl ?_
    refine j_isub (pc' := 66) hC dX8_countedOf_65 rfl ?_
    exact j_ret_ir hC dX8_countedOf_66
  refine j_tableOut (tgt := 67) hC dX8_countedOf_20 (by have e0 := lv_neT c0 (a := 1) rfl; have e1 := lv_neT c1 (a := 2) rfl; have e2 := lv_neT c2 (a := 3) rfl; omega) (by decide) ?_
  refine j_iload_n (pc' := 68) hC 0 dX8_countedOf_67 rfl rfl rfl ?_
  exact j_ret_ir hC dX8_countedOf_68
theorem hyV_X8_isOver : yX8_isOver.cls = RX8 ∧ yX8_isOver.cls ≠ "java/lang/invoke/MethodHandle" ∧ yX8_isOver.cls ≠ "java/lang/invoke/VarHandle" ∧ (parseMethodDescriptor yX8_isOver.desc).map (fun d => d.parameters.length) = some 1 := ⟨rfl, by decide +kernel, by decide +kernel, by decide +kernel⟩
noncomputable def fX8_isOver (t : Nat) (σ : jS) : Option (Int32) :=
  (Option.bind (fX6_valueOf σ (0 : Int32) (9 : Int32)) fun (q1 : Int32) => (Option.bind (fX8_countedOf t σ) fun (q2 : Int32) => (Option.bind (fX6_valueOf σ (0 : Int32) (8 : Int32)) fun (q3 : Int32) => (if q3 ≤ q2 then (some (1 : Int32)) else (jlet (fun (a41 : Unit) => (if (σ.1 t 3) < (60 : Int32) then (some (0 : Int32)) else (some (1 : Int32)))) fun (j41 : (Unit → Option (Int32))) => (if q1 ≤ 0 then (j41 ()) else (if q1 ≤ (σ.1 t 4) then (some (1 : Int32)) else (j41 ()))))))))
set_option maxRecDepth 100000 in
set_option maxHeartbeats 4000000 in
theorem kX8_isOver (l : Launch) (d : jD) (A : Nat → Prop) {t : Nat} (h_t : jTn t) (σ : jS) : jMzr l yX8_isOver (jws yX8_isOver cX8_isOver 3 (some (.boolean))) { frames := 5, cells := 0, slots := 0, locals := 196 } d wX A [.ref (d.2.1 13), .ref (d.2.1 t)] σ (fX8_isOver t σ) := by
  refine jStart_zr (lv0 := [(0, .ref (d.2.1 13)), (1, .ref (d.2.1 t))]) (by decide) rfl (Nat.le_of_ble_eq_true rfl) rfl (fun z hC res => ?_)
  unfold fX8_isOver
  refine j_aload_n (pc' := 1) hC 0 dX8_isOver_0 rfl rfl rfl ?_
  refine j_get (pc' := 4) hC ly_X8 (X_at_13 d _) rfl 0 (by decide) fl_X8_22 rfl dX8_isOver_1 rfl ?_
  refine j_iconst (pc' := 5) (v := (0 : Int32)) hC dX8_isOver_4 (by decide) rfl ?_
  refine j_bipush (pc' := 7) (v := (9 : Int32)) hC dX8_isOver_5 (by decide) rfl ?_
  refine j_callV_ir (pc' := 10) (As := [.int (0 : Int32), .int (9 : Int32)]) (st := []) hC (X_at_1 d _) rfl (kX6_valueOf l d A _ _ _) (jgV ml_X8_34 im_X6_valueOf se_X6_valueOf in_X6 cd_X6_valueOf) rfl rfl rfl hyV_X6_valueOf ⟨Nat.le_of_ble_eq_true rfl, Nat.le_of_ble_eq_true rfl⟩ rfl rfl (Nat.le_of_ble_eq_true rfl) dX8_isOver_7 rfl (fun q1 => ?_)
  refine j_istore_n (pc' := 11) (lv' := [(2, .int q1), (0, .ref (d.2.1 13)), (1, .ref (d.2.1 t))]) hC dX8_isOver_10 rfl (by decide) rfl rfl ?_
  refine j_aload_n (pc' := 12) hC 1 dX8_isOver_11 rfl rfl rfl ?_
  refine j_aload_n (pc' := 13) hC 2 dX8_isOver_12 rfl rfl rfl ?_
  refine j_callV_ir (pc' := 16) (As := [.ref (d.2.1 t)]) (st := []) hC (X_at_13 d _) rfl (kX8_countedOf l d A h_t _) (jgV ml_X8_78 im_X8_countedOf se_X8_countedOf in_X8 cd_X8_countedOf) rfl rfl rfl hyV_X8_countedOf ⟨Nat.le_of_ble_eq_true rfl, Nat.le_of_ble_eq_true rfl⟩ rfl rfl (Nat.le_of_ble_eq_true rfl) dX8_isOver_13 rfl (fun q2 => ?_)
  refine j_aload_n (pc' := 17) hC 1 dX8_isOver_16 rfl rfl rfl ?_
  refine j_get (pc' := 20) hC ly_X8 (X_at_13 d _) rfl 0 (by decide) fl_X8_22 rfl dX8_isOver_17 rfl ?_
  refine j_iconst (pc' := 21) (v := (0 : Int32)) hC dX8_isOver_20 (by decide) rfl ?_
  refine j_bipush (pc' := 23) (v := (8 : Int32)) hC dX8_isOver_21 (by decide) rfl ?_
  refine j_callV_ir (pc' := 26) (As := [.int (0 : Int32), .int (8 : Int32)]) (st := [.int q2]) hC (X_at_1 d _) rfl (kX6_valueOf l d A _ _ _) (jgV ml_X8_34 im_X6_valueOf se_X6_valueOf in_X6 cd_X6_valueOf) rfl rfl rfl hyV_X6_valueOf ⟨Nat.le_of_ble_eq_true rfl, Nat.le_of_ble_eq_true rfl⟩ rfl rfl (Nat.le_of_ble_eq_true rfl) dX8_isOver_23 rfl (fun q3 => ?_)
  refine j_icmp_ge (pc' := 29) (tgt := 50) hC dX8_isOver_26 (by decide) rfl ?_ ?_
  · refine j_iconst (pc' := 51) (v := (1 : Int32)) hC dX8_isOver_50 (by decide) rfl ?_
    refine j_goto (tgt := 55) hC dX8_isOver_51 (by decide) ?_
    exact j_ret_zr hC (by decide) dX8_isOver_55
  · refine j_iload_n (pc' := 30) hC 0 dX8_isOver_29 rfl rfl rfl ?_
    refine j_let 41 (fun a41 => σ) (fun a41 => [(1, .ref (d.2.1 t))]) (fun a41 => []) (fun a41 => ?_) (fun j41 hj41 => ?_)
    · refine j_aload_n (pc' := 42) hC 0 dX8_isOver_41 rfl rfl rfl ?_
      refine j_get (pc' := 45) hC ly_X10 (X_tn d _ h_t) rfl 3 (by decide) fl_X8_54 rfl dX8_isOver_42 rfl ?_
      refine j_bipush (pc' := 47) (v := (60 : Int32)) hC dX8_isOver_45 (by decide) rfl ?_
      refine j_icmp_lt (pc' := 50) (tgt := 54) hC dX8_isOver_47 (by decide) rfl ?_ ?_
      · refine j_iconst (pc' := 55) (v := (0 : Int32)) hC dX8_isOver_54 (by decide) rfl ?_
        exact j_ret_zr hC (by decide) dX8_isOver_55
      · refine j_iconst (pc' := 51) (v := (1 : Int32)) hC dX8_isOver_50 (by decide) rfl ?_
        refine j_goto (tgt := 55) hC dX8_isOver_51 (by decide) ?_
        exact j_ret_zr hC (by decide) dX8_isOver_55
    · refine j_if_le (pc' := 33) (tgt := 41) hC dX8_isOver_30 (by decide) rfl ?_ ?_
      · exact j_lv (lv' := [(1, .ref (d.2.1 t))]) [2] rfl (hj41 ())
      · refine j_aload_n (pc' := 34) hC 2 dX8_isOver_33 rfl rfl rfl ?_
        refine j_get (pc' := 37) hC ly_X10 (X_tn d _ h_t) rfl 4 (by decide) fl_X8_66 rfl dX8_isOver_34 rfl ?_
        refine j_iload_n (pc' := 38) hC 0 dX8_isOver_37 rfl rfl rfl ?_
        refine j_icmp_ge (pc' := 41) (tgt := 50) hC dX8_isOver_38 (by decide) rfl ?_ ?_
        · refine j_iconst (pc' := 51) (v := (1 : Int32)) hC dX8_isOver_50 (by decide) rfl ?_
          refine j_goto (tgt := 55) hC dX8_isOver_51 (by decide) ?_
          exact j_ret_zr hC (by decide) dX8_isOver_55
        · exact j_lv (lv' := [(1, .ref (d.2.1 t))]) [2] rfl (hj41 ())
theorem hyV_X8_think : yX8_think.cls = RX8 ∧ yX8_think.cls ≠ "java/lang/invoke/MethodHandle" ∧ yX8_think.cls ≠ "java/lang/invoke/VarHandle" ∧ (parseMethodDescriptor yX8_think.desc).map (fun d => d.parameters.length) = some 4 := ⟨rfl, by decide +kernel, by decide +kernel, by decide +kernel⟩
noncomputable def fX8_think_B13 (p4 : Int32) (s13 : jS × Int32 → Option (jS)) (a : jS × Int32) : Option (jS) :=
  (if (60 : Int32) ≤ a.2 then (some a.1) else (Option.bind (fX8_step 14 a.1 p4) fun (q2 : jS) => (ob a.2 60 (jst (ju q2 15 (a.2).toNatClampNeg (q2.1 14 7)) fun (σ3 : jS) => (Option.bind (fX8_isOver 14 σ3) fun (q4 : Int32) => (if (jb q4) = 0 then (s13 (σ3, (a.2 + (1 : Int32)))) else (some σ3)))))))
noncomputable def fX8_think (σ : jS) (p1 : Int32) (p2 : Int32) (p3 : Int32) (p4 : Int32) : Option (jS) :=
  (Option.bind (fX10_begin 14 σ p1 p2 p3) fun (q1 : jS) => (jloop (fX8_think_B13 p4) jN (q1, (0 : Int32))))
set_option maxRecDepth 100000 in
set_option maxHeartbeats 4000000 in
theorem kX8_think (l : Launch) (d : jD) (A : Nat → Prop) (σ : jS) (p1 : Int32) (p2 : Int32) (p3 : Int32) (p4 : Int32) : jMr l yX8_think (jws yX8_think cX8_think 6 (some (.object "TwentyPushes$Turn"))) { frames := 6, cells := 0, slots := 0, locals := 229 } d wX A [.ref (d.2.1 13), .int p1, .int p2, .int p3, .int p4] σ (fX8_think σ p1 p2 p3 p4) := by
  refine jStart_r (lv0 := [(0, .ref (d.2.1 13)), (1, .int p1), (2, .int p2), (3, .int p3), (4, .int p4)]) (by decide) rfl (Nat.le_of_ble_eq_true rfl) rfl (fun z hC res => ?_)
  unfold fX8_think
  refine j_aload_n (pc' := 1) hC 0 dX8_think_0 rfl rfl rfl ?_
  refine j_get (pc' := 4) hC ly_X8 (X_at_13 d _) rfl 2 (by decide) fl_X8_12 rfl dX8_think_1 rfl ?_
  refine j_iload_n (pc' := 5) hC 1 dX8_think_4 rfl rfl rfl ?_
  refine j_iload_n (pc' := 6) hC 2 dX8_think_5 rfl rfl rfl ?_
  refine j_iload_n (pc' := 7) hC 3 dX8_think_6 rfl rfl rfl ?_
  refine j_callV_v (pc' := 10) (As := [.int p1, .int p2, .int p3]) (st := []) hC (X_at_14 d _) rfl (kX10_begin l d A (Or.inl rfl) _ _ _ _) (jgV ml_X8_82 im_X10_begin se_X10_begin in_X10 cd_X10_begin) rfl rfl rfl hyV_X10_begin ⟨Nat.le_of_ble_eq_true rfl, Nat.le_of_ble_eq_true rfl⟩ rfl rfl (Nat.le_of_ble_eq_true rfl) dX8_think_7 rfl (fun q1 => ?_)
  refine j_iconst (pc' := 11) (v := (0 : Int32)) hC dX8_think_10 (by decide) rfl ?_
  refine j_istore (pc' := 13) (lv' := [(5, .int (0 : Int32)), (0, .ref (d.2.1 13)), (1, .int p1), (2, .int p2), (3, .int p3), (4, .int p4)]) hC dX8_think_11 (by decide) rfl rfl ?_
  refine j_lv (lv' := [(0, .ref (d.2.1 13)), (4, .int p4), (5, .int (0 : Int32))]) [1, 5, 0] rfl ?_
  refine j_loop 13 (fun a => a.1) (fun a => [(0, .ref (d.2.1 13)), (4, .int p4), (5, .int a.2)]) (fun s13 hs13 a => ?_) jN (q1, (0 : Int32))
  unfold fX8_think_B13
  refine j_iload (pc' := 15) hC 2 dX8_think_13 rfl rfl ?_
  refine j_bipush (pc' := 17) (v := (60 : Int32)) hC dX8_think_15 (by decide) rfl ?_
  refine j_icmp_ge (pc' := 20) (tgt := 64) hC dX8_think_17 (by decide) rfl ?_ ?_
  · refine j_aload_n (pc' := 65) hC 0 dX8_think_64 rfl rfl rfl ?_
    refine j_get (pc' := 68) hC ly_X8 (X_at_13 d _) rfl 2 (by decide) fl_X8_12 rfl dX8_think_65 rfl ?_
    exact j_ret_r hC dX8_think_68
  · refine j_aload_n (pc' := 21) hC 0 dX8_think_20 rfl rfl rfl ?_
    refine j_aload_n (pc' := 22) hC 0 dX8_think_21 rfl rfl rfl ?_
    refine j_get (pc' := 25) hC ly_X8 (X_at_13 d _) rfl 2 (by decide) fl_X8_12 rfl dX8_think_22 rfl ?_
    refine j_iload (pc' := 27) hC 1 dX8_think_25 rfl rfl ?_
    refine j_callV_v (pc' := 30) (As := [.ref (d.2.1 14), .int p4]) (st := []) hC (X_at_13 d _) rfl (kX8_step l d A (Or.inl rfl) _ _) (jgV ml_X8_86 im_X8_step se_X8_step in_X8 cd_X8_step) rfl rfl rfl hyV_X8_step ⟨Nat.le_of_ble_eq_true rfl, Nat.le_of_ble_eq_true rfl⟩ rfl rfl (Nat.le_of_ble_eq_true rfl) dX8_think_27 rfl (fun q2 => ?_)
    refine j_aload_n (pc' := 31) hC 0 dX8_think_30 rfl rfl rfl ?_
    refine j_get (pc' := 34) hC ly_X8 (X_at_13 d _) rfl 3 (by decide) fl_X8_18 rfl dX8_think_31 rfl ?_
    refine j_iload (pc' := 36) hC 2 dX8_think_34 rfl rfl ?_
    refine j_aload_n (pc' := 37) hC 0 dX8_think_36 rfl rfl rfl ?_
    refine j_get (pc' := 40) hC ly_X8 (X_at_13 d _) rfl 2 (by decide) fl_X8_12 rfl dX8_think_37 rfl ?_
    refine j_get (pc' := 43) hC ly_X10 (X_at_14 d _) rfl 7 (by decide) fl_X8_63 rfl dX8_think_40 rfl ?_
    refine j_iast (pc' := 44) hC (X_at_15 d _) (X_sa_15 d _ _) dX8_think_43 rfl ?_
    refine j_st (fun σ3 => ?_)
    refine j_aload_n (pc' := 45) hC 0 dX8_think_44 rfl rfl rfl ?_
    refine j_aload_n (pc' := 46) hC 0 dX8_think_45 rfl rfl rfl ?_
    refine j_get (pc' := 49) hC ly_X8 (X_at_13 d _) rfl 2 (by decide) fl_X8_12 rfl dX8_think_46 rfl ?_
    refine j_callV_zr (pc' := 52) (As := [.ref (d.2.1 14)]) (st := []) hC (X_at_13 d _) rfl (kX8_isOver l d A (Or.inl rfl) _) (jgV ml_X8_90 im_X8_isOver se_X8_isOver in_X8 cd_X8_isOver) rfl rfl rfl hyV_X8_isOver ⟨Nat.le_of_ble_eq_true rfl, Nat.le_of_ble_eq_true rfl⟩ rfl rfl (Nat.le_of_ble_eq_true rfl) dX8_think_49 rfl (fun q4 => ?_)
    refine j_if_eq (pc' := 55) (tgt := 58) hC dX8_think_52 (by decide) rfl ?_ ?_
    · refine j_iinc (pc' := 61) (v := (a.2 + (1 : Int32))) (lv' := [(5, .int (a.2 + (1 : Int32))), (0, .ref (d.2.1 13)), (4, .int p4)]) hC 2 dX8_think_58 rfl (by decide) rfl rfl rfl ?_
      refine j_goto (tgt := 13) hC dX8_think_61 (by decide) ?_
      exact j_lv (lv' := [(0, .ref (d.2.1 13)), (4, .int p4), (5, .int (a.2 + (1 : Int32)))]) [1, 2, 0] rfl (hs13 (σ3, (a.2 + (1 : Int32))))
    · refine j_goto (tgt := 64) hC dX8_think_55 (by decide) ?_
      refine j_aload_n (pc' := 65) hC 0 dX8_think_64 rfl rfl rfl ?_
      refine j_get (pc' := 68) hC ly_X8 (X_at_13 d _) rfl 2 (by decide) fl_X8_12 rfl dX8_think_65 rfl ?_
      exact j_ret_r hC dX8_think_68
theorem hyV_X8_heardAt : yX8_heardAt.cls = RX8 ∧ yX8_heardAt.cls ≠ "java/lang/invoke/MethodHandle" ∧ yX8_heardAt.cls ≠ "java/lang/invoke/VarHandle" ∧ (parseMethodDescriptor yX8_heardAt.desc).map (fun d => d.parameters.length) = some 1 := ⟨rfl, by decide +kernel, by decide +kernel, by decide +kernel⟩
noncomputable def fX8_heardAt (σ : jS) (p1 : Int32) : Option (Int32) :=
  (if p1 < 0 then (some (0 : Int32)) else (if (60 : Int32) ≤ p1 then (some (0 : Int32)) else (ob p1 60 (some (σ.1 15 (p1).toNatClampNeg)))))
set_option maxRecDepth 100000 in
set_option maxHeartbeats 4000000 in
theorem kX8_heardAt (l : Launch) (d : jD) (A : Nat → Prop) (σ : jS) (p1 : Int32) : jMir l yX8_heardAt (jws yX8_heardAt cX8_heardAt 2 (some (.int))) { frames := 2, cells := 0, slots := 0, locals := 130 } d wX A [.ref (d.2.1 13), .int p1] σ (fX8_heardAt σ p1) := by
  refine jStart_ir (lv0 := [(0, .ref (d.2.1 13)), (1, .int p1)]) (by decide) rfl (Nat.le_of_ble_eq_true rfl) rfl (fun z hC res => ?_)
  unfold fX8_heardAt
  refine j_iload_n (pc' := 1) hC 1 dX8_heardAt_0 rfl rfl rfl ?_
  refine j_if_lt (pc' := 4) (tgt := 19) hC dX8_heardAt_1 (by decide) rfl ?_ ?_
  · refine j_iconst (pc' := 20) (v := (0 : Int32)) hC dX8_heardAt_19 (by decide) rfl ?_
    exact j_ret_ir hC dX8_heardAt_20
  · refine j_iload_n (pc' := 5) hC 1 dX8_heardAt_4 rfl rfl rfl ?_
    refine j_bipush (pc' := 7) (v := (60 : Int32)) hC dX8_heardAt_5 (by decide) rfl ?_
    refine j_icmp_ge (pc' := 10) (tgt := 19) hC dX8_heardAt_7 (by decide) rfl ?_ ?_
    · refine j_iconst (pc' := 20) (v := (0 : Int32)) hC dX8_heardAt_19 (by decide) rfl ?_
      exact j_ret_ir hC dX8_heardAt_20
    · refine j_aload_n (pc' := 11) hC 0 dX8_heardAt_10 rfl rfl rfl ?_
      refine j_get (pc' := 14) hC ly_X8 (X_at_13 d _) rfl 3 (by decide) fl_X8_18 rfl dX8_heardAt_11 rfl ?_
      refine j_iload_n (pc' := 15) hC 1 dX8_heardAt_14 rfl rfl rfl ?_
      refine j_iald (pc' := 16) hC (X_at_15 d _) dX8_heardAt_15 rfl ?_
      refine j_goto (tgt := 20) hC dX8_heardAt_16 (by decide) ?_
      exact j_ret_ir hC dX8_heardAt_20
