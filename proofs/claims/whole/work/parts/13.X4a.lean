theorem hyV_X4_write : yX4_write.cls = RX4 ∧ yX4_write.cls ≠ "java/lang/invoke/MethodHandle" ∧ yX4_write.cls ≠ "java/lang/invoke/VarHandle" ∧ (parseMethodDescriptor yX4_write.desc).map (fun d => d.parameters.length) = some 1 := ⟨rfl, by decide +kernel, by decide +kernel, by decide +kernel⟩
noncomputable def fX4_write (σ : jS) (p1 : Int32) : Option (Int32 × jS) :=
  (if (σ.1 7 1) < (120 : Int32) then (ob (σ.1 7 1) 120 (jst (ju σ 8 ((σ.1 7 1)).toNatClampNeg (vp_nar .byte (p1.toInt8.toInt32))) fun (σ1 : jS) => (jst (ju σ1 7 1 ((σ1.1 7 1) + (1 : Int32))) fun (σ2 : jS) => (some ((σ2.1 7 1), σ2))))) else (some ((-3 : Int32), σ)))
set_option maxRecDepth 100000 in
set_option maxHeartbeats 4000000 in
theorem kX4_write (l : Launch) (d : jD) (A : Nat → Prop) (σ : jS) (p1 : Int32) : jMi l yX4_write (jws yX4_write cX4_write 2 (some (.int))) { frames := 2, cells := 0, slots := 0, locals := 130 } d wX A [.ref (d.2.1 7), .int p1] σ (fX4_write σ p1) := by
  refine jStart_i (lv0 := [(0, .ref (d.2.1 7)), (1, .int p1)]) (by decide) rfl (Nat.le_of_ble_eq_true rfl) rfl (fun z hC res => ?_)
  unfold fX4_write
  refine j_aload_n (pc' := 1) hC 0 dX4_write_0 rfl rfl rfl ?_
  refine j_get (pc' := 4) hC ly_X4 (X_at_7 d _) rfl 1 (by decide) fl_X4_28 rfl dX4_write_1 rfl ?_
  refine j_bipush (pc' := 6) (v := (120 : Int32)) hC dX4_write_4 (by decide) rfl ?_
  refine j_icmp_lt (pc' := 9) (tgt := 12) hC dX4_write_6 (by decide) rfl ?_ ?_
  · refine j_aload_n (pc' := 13) hC 0 dX4_write_12 rfl rfl rfl ?_
    refine j_get (pc' := 16) hC ly_X4 (X_at_7 d _) rfl 0 (by decide) fl_X4_11 rfl dX4_write_13 rfl ?_
    refine j_aload_n (pc' := 17) hC 0 dX4_write_16 rfl rfl rfl ?_
    refine j_get (pc' := 20) hC ly_X4 (X_at_7 d _) rfl 1 (by decide) fl_X4_28 rfl dX4_write_17 rfl ?_
    refine j_iload_n (pc' := 21) hC 1 dX4_write_20 rfl rfl rfl ?_
    refine j_i2b (pc' := 22) hC dX4_write_21 rfl ?_
    refine j_bast (pc' := 23) hC (X_at_8 d _) (X_sa_8 d _ _) dX4_write_22 rfl ?_
    refine j_st (fun σ1 => ?_)
    refine j_aload_n (pc' := 24) hC 0 dX4_write_23 rfl rfl rfl ?_
    refine j_dup (pc' := 25) hC rfl dX4_write_24 rfl ?_
    refine j_get (pc' := 28) hC ly_X4 (X_at_7 d _) rfl 1 (by decide) fl_X4_28 rfl dX4_write_25 rfl ?_
    refine j_iconst (pc' := 29) (v := (1 : Int32)) hC dX4_write_28 (by decide) rfl ?_
    refine j_iadd (pc' := 30) hC dX4_write_29 rfl ?_
    refine j_put (pc' := 33) hC ly_X4 tyX4 tyX4_ok nmX4 (X_at_7 d _) rfl 1 (by decide) fl_X4_28 rfl rfl rfl rfl (Nat.le_of_ble_eq_true rfl) (X_sf_7_1 d _ _) dX4_write_30 rfl ?_
    refine j_st (fun σ2 => ?_)
    refine j_aload_n (pc' := 34) hC 0 dX4_write_33 rfl rfl rfl ?_
    refine j_get (pc' := 37) hC ly_X4 (X_at_7 d _) rfl 1 (by decide) fl_X4_28 rfl dX4_write_34 rfl ?_
    exact j_ret_i hC dX4_write_37
  · refine j_bipush (pc' := 11) (v := (-3 : Int32)) hC dX4_write_9 (by decide) rfl ?_
    exact j_ret_i hC dX4_write_11
theorem hyV_X4_letter : yX4_letter.cls = RX4 ∧ yX4_letter.cls ≠ "java/lang/invoke/MethodHandle" ∧ yX4_letter.cls ≠ "java/lang/invoke/VarHandle" ∧ (parseMethodDescriptor yX4_letter.desc).map (fun d => d.parameters.length) = some 0 := ⟨rfl, by decide +kernel, by decide +kernel, by decide +kernel⟩
noncomputable def fX4_letter (σ : jS) : Option (Int32) :=
  (if (σ.1 7 2) < 0 then (some (-1 : Int32)) else (if (σ.1 7 1) ≤ (σ.1 7 2) then (some (-1 : Int32)) else (if (120 : Int32) ≤ (σ.1 7 2) then (some (-1 : Int32)) else (ob (σ.1 7 2) 120 (some ((σ.1 8 ((σ.1 7 2)).toNatClampNeg) &&& (255 : Int32)))))))
set_option maxRecDepth 100000 in
set_option maxHeartbeats 4000000 in
theorem kX4_letter (l : Launch) (d : jD) (A : Nat → Prop) (σ : jS) : jMir l yX4_letter (jws yX4_letter cX4_letter 1 (some (.int))) { frames := 2, cells := 0, slots := 0, locals := 130 } d wX A [.ref (d.2.1 7)] σ (fX4_letter σ) := by
  refine jStart_ir (lv0 := [(0, .ref (d.2.1 7))]) (by decide) rfl (Nat.le_of_ble_eq_true rfl) rfl (fun z hC res => ?_)
  unfold fX4_letter
  refine j_aload_n (pc' := 1) hC 0 dX4_letter_0 rfl rfl rfl ?_
  refine j_get (pc' := 4) hC ly_X4 (X_at_7 d _) rfl 2 (by decide) fl_X4_32 rfl dX4_letter_1 rfl ?_
  refine j_if_lt (pc' := 7) (tgt := 43) hC dX4_letter_4 (by decide) rfl ?_ ?_
  · refine j_iconst (pc' := 44) (v := (-1 : Int32)) hC dX4_letter_43 (by decide) rfl ?_
    exact j_ret_ir hC dX4_letter_44
  · refine j_aload_n (pc' := 8) hC 0 dX4_letter_7 rfl rfl rfl ?_
    refine j_get (pc' := 11) hC ly_X4 (X_at_7 d _) rfl 2 (by decide) fl_X4_32 rfl dX4_letter_8 rfl ?_
    refine j_aload_n (pc' := 12) hC 0 dX4_letter_11 rfl rfl rfl ?_
    refine j_get (pc' := 15) hC ly_X4 (X_at_7 d _) rfl 1 (by decide) fl_X4_28 rfl dX4_letter_12 rfl ?_
    refine j_icmp_ge (pc' := 18) (tgt := 43) hC dX4_letter_15 (by decide) rfl ?_ ?_
    · refine j_iconst (pc' := 44) (v := (-1 : Int32)) hC dX4_letter_43 (by decide) rfl ?_
      exact j_ret_ir hC dX4_letter_44
    · refine j_aload_n (pc' := 19) hC 0 dX4_letter_18 rfl rfl rfl ?_
      refine j_get (pc' := 22) hC ly_X4 (X_at_7 d _) rfl 2 (by decide) fl_X4_32 rfl dX4_letter_19 rfl ?_
      refine j_bipush (pc' := 24) (v := (120 : Int32)) hC dX4_letter_22 (by decide) rfl ?_
      refine j_icmp_ge (pc' := 27) (tgt := 43) hC dX4_letter_24 (by decide) rfl ?_ ?_
      · refine j_iconst (pc' := 44) (v := (-1 : Int32)) hC dX4_letter_43 (by decide) rfl ?_
        exact j_ret_ir hC dX4_letter_44
      · refine j_aload_n (pc' := 28) hC 0 dX4_letter_27 rfl rfl rfl ?_
        refine j_get (pc' := 31) hC ly_X4 (X_at_7 d _) rfl 0 (by decide) fl_X4_11 rfl dX4_letter_28 rfl ?_
        refine j_aload_n (pc' := 32) hC 0 dX4_letter_31 rfl rfl rfl ?_
        refine j_get (pc' := 35) hC ly_X4 (X_at_7 d _) rfl 2 (by decide) fl_X4_32 rfl dX4_letter_32 rfl ?_
        refine j_bald (pc' := 36) hC (X_at_8 d _) dX4_letter_35 rfl ?_
        refine j_sipush (pc' := 39) (v := (255 : Int32)) hC dX4_letter_36 (by decide) rfl ?_
        refine j_iand (pc' := 40) hC dX4_letter_39 rfl ?_
        refine j_goto (tgt := 44) hC dX4_letter_40 (by decide) ?_
        exact j_ret_ir hC dX4_letter_44
theorem hyV_X4_draw : yX4_draw.cls = RX4 ∧ yX4_draw.cls ≠ "java/lang/invoke/MethodHandle" ∧ yX4_draw.cls ≠ "java/lang/invoke/VarHandle" ∧ (parseMethodDescriptor yX4_draw.desc).map (fun d => d.parameters.length) = some 1 := ⟨rfl, by decide +kernel, by decide +kernel, by decide +kernel⟩
noncomputable def fX4_draw (σ : jS) (p1 : Int32) : Option (jS) :=
  (if (121 : Int32) ≤ (σ.1 7 4) then (some σ) else (ob (σ.1 7 4) 121 (jst (ju σ 9 ((σ.1 7 4)).toNatClampNeg p1) fun (σ1 : jS) => (jst (ju σ1 7 4 ((σ1.1 7 4) + (1 : Int32))) fun (σ2 : jS) => (some σ2)))))
set_option maxRecDepth 100000 in
set_option maxHeartbeats 4000000 in
theorem kX4_draw (l : Launch) (d : jD) (A : Nat → Prop) (σ : jS) (p1 : Int32) : jMv l yX4_draw (jws yX4_draw cX4_draw 2 none) { frames := 2, cells := 0, slots := 0, locals := 130 } d wX A [.ref (d.2.1 7), .int p1] σ (fX4_draw σ p1) := by
  refine jStart_v (lv0 := [(0, .ref (d.2.1 7)), (1, .int p1)]) (by decide) rfl (Nat.le_of_ble_eq_true rfl) rfl (fun z hC res => ?_)
  unfold fX4_draw
  refine j_aload_n (pc' := 1) hC 0 dX4_draw_0 rfl rfl rfl ?_
  refine j_get (pc' := 4) hC ly_X4 (X_at_7 d _) rfl 4 (by decide) fl_X4_35 rfl dX4_draw_1 rfl ?_
  refine j_bipush (pc' := 6) (v := (121 : Int32)) hC dX4_draw_4 (by decide) rfl ?_
  refine j_icmp_ge (pc' := 9) (tgt := 29) hC dX4_draw_6 (by decide) rfl ?_ ?_
  · exact j_ret_v hC dX4_draw_29
  · refine j_aload_n (pc' := 10) hC 0 dX4_draw_9 rfl rfl rfl ?_
    refine j_get (pc' := 13) hC ly_X4 (X_at_7 d _) rfl 3 (by decide) fl_X4_15 rfl dX4_draw_10 rfl ?_
    refine j_aload_n (pc' := 14) hC 0 dX4_draw_13 rfl rfl rfl ?_
    refine j_get (pc' := 17) hC ly_X4 (X_at_7 d _) rfl 4 (by decide) fl_X4_35 rfl dX4_draw_14 rfl ?_
    refine j_iload_n (pc' := 18) hC 1 dX4_draw_17 rfl rfl rfl ?_
    refine j_iast (pc' := 19) hC (X_at_9 d _) (X_sa_9 d _ _) dX4_draw_18 rfl ?_
    refine j_st (fun σ1 => ?_)
    refine j_aload_n (pc' := 20) hC 0 dX4_draw_19 rfl rfl rfl ?_
    refine j_dup (pc' := 21) hC rfl dX4_draw_20 rfl ?_
    refine j_get (pc' := 24) hC ly_X4 (X_at_7 d _) rfl 4 (by decide) fl_X4_35 rfl dX4_draw_21 rfl ?_
    refine j_iconst (pc' := 25) (v := (1 : Int32)) hC dX4_draw_24 (by decide) rfl ?_
    refine j_iadd (pc' := 26) hC dX4_draw_25 rfl ?_
    refine j_put (pc' := 29) hC ly_X4 tyX4 tyX4_ok nmX4 (X_at_7 d _) rfl 4 (by decide) fl_X4_35 rfl rfl rfl rfl (Nat.le_of_ble_eq_true rfl) (X_sf_7_4 d _ _) dX4_draw_26 rfl ?_
    refine j_st (fun σ2 => ?_)
    exact j_ret_v hC dX4_draw_29
theorem hyS_X4_isDigit : yX4_isDigit.cls ≠ "java/lang/invoke/MethodHandle" ∧ yX4_isDigit.cls ≠ "java/lang/invoke/VarHandle" ∧ (parseMethodDescriptor yX4_isDigit.desc).map (fun d => d.parameters.length) = some 1 := ⟨by decide +kernel, by decide +kernel, by decide +kernel⟩
noncomputable def fX4_isDigit (σ : jS) (p1 : Int32) : Option (Int32) :=
  (if p1 < (48 : Int32) then (some (0 : Int32)) else (if (57 : Int32) < p1 then (some (0 : Int32)) else (some (1 : Int32))))
set_option maxRecDepth 100000 in
set_option maxHeartbeats 4000000 in
theorem kX4_isDigit (l : Launch) (d : jD) (A : Nat → Prop) (σ : jS) (p1 : Int32) : jMzr l yX4_isDigit (jws yX4_isDigit cX4_isDigit 1 (some (.boolean))) { frames := 2, cells := 0, slots := 0, locals := 130 } d wX A [.int p1] σ (fX4_isDigit σ p1) := by
  refine jStart_zr (lv0 := [(0, .int p1)]) (by decide) rfl (Nat.le_of_ble_eq_true rfl) rfl (fun z hC res => ?_)
  unfold fX4_isDigit
  refine j_iload_n (pc' := 1) hC 0 dX4_isDigit_0 rfl rfl rfl ?_
  refine j_bipush (pc' := 3) (v := (48 : Int32)) hC dX4_isDigit_1 (by decide) rfl ?_
  refine j_icmp_lt (pc' := 6) (tgt := 16) hC dX4_isDigit_3 (by decide) rfl ?_ ?_
  · refine j_iconst (pc' := 17) (v := (0 : Int32)) hC dX4_isDigit_16 (by decide) rfl ?_
    exact j_ret_zr hC (by decide) dX4_isDigit_17
  · refine j_iload_n (pc' := 7) hC 0 dX4_isDigit_6 rfl rfl rfl ?_
    refine j_bipush (pc' := 9) (v := (57 : Int32)) hC dX4_isDigit_7 (by decide) rfl ?_
    refine j_icmp_gt (pc' := 12) (tgt := 16) hC dX4_isDigit_9 (by decide) rfl ?_ ?_
    · refine j_iconst (pc' := 17) (v := (0 : Int32)) hC dX4_isDigit_16 (by decide) rfl ?_
      exact j_ret_zr hC (by decide) dX4_isDigit_17
    · refine j_iconst (pc' := 13) (v := (1 : Int32)) hC dX4_isDigit_12 (by decide) rfl ?_
      refine j_goto (tgt := 17) hC dX4_isDigit_13 (by decide) ?_
      exact j_ret_zr hC (by decide) dX4_isDigit_17
theorem hyS_X4_levelOf : yX4_levelOf.cls ≠ "java/lang/invoke/MethodHandle" ∧ yX4_levelOf.cls ≠ "java/lang/invoke/VarHandle" ∧ (parseMethodDescriptor yX4_levelOf.desc).map (fun d => d.parameters.length) = some 1 := ⟨by decide +kernel, by decide +kernel, by decide +kernel⟩
noncomputable def fX4_levelOf (σ : jS) (p1 : Int32) : Option (Int32) :=
  (if p1 = (37 : Int32) then (some (4 : Int32)) else (if p1 = (38 : Int32) then (some (1 : Int32)) else (if p1 = (42 : Int32) then (some (4 : Int32)) else (if p1 = (43 : Int32) then (some (3 : Int32)) else (if p1 = (45 : Int32) then (some (3 : Int32)) else (if p1 = (47 : Int32) then (some (4 : Int32)) else (if p1 = (60 : Int32) then (some (2 : Int32)) else (if p1 = (61 : Int32) then (some (2 : Int32)) else (if p1 = (62 : Int32) then (some (2 : Int32)) else (if p1 = (124 : Int32) then (some (0 : Int32)) else (some (-1 : Int32))))))))))))
set_option maxRecDepth 100000 in
set_option maxHeartbeats 4000000 in
theorem kX4_levelOf (l : Launch) (d : jD) (A : Nat → Prop) (σ : jS) (p1 : Int32) : jMir l yX4_levelOf (jws yX4_levelOf cX4_levelOf 1 (some (.int))) { frames := 2, cells := 0, slots := 0, locals := 130 } d wX A [.int p1] σ (fX4_levelOf σ p1) := by
  refine jStart_ir (lv0 := [(0, .int p1)]) (by decide) rfl (Nat.le_of_ble_eq_true rfl) rfl (fun z hC res => ?_)
  unfold fX4_levelOf
  refine j_iload_n (pc' := 1) hC 0 dX4_levelOf_0 rfl rfl rfl ?_
  refine j_if (fun c0 => ?_) (fun c0 => ?_)
  · refine j_lookup (tgt := 100) (off := 99) hC dX4_levelOf_1 (by decide) (by rw [c0]; rfl) (by decide) ?_
    refine j_iconst (pc' := 101) (v := (4 : Int32)) hC dX4_levelOf_100 (by decide) rfl ?_
    exact j_ret_ir hC dX4_levelOf_101
  refine j_if (fun c1 => ?_) (fun c1 => ?_)
  · refine j_lookup (tgt := 94) (off := 93) hC dX4_levelOf_1 (by decide) (by rw [c1]; rfl) (by decide) ?_
    refine j_iconst (pc' := 95) (v := (1 : Int32)) hC dX4_levelOf_94 (by decide) rfl ?_
    exact j_ret_ir hC dX4_levelOf_95
  refine j_if (fun c2 => ?_) (fun c2 => ?_)
  · refine j_lookup (tgt := 100) (off := 99) hC dX4_levelOf_1 (by decide) (by rw [c2]; rfl) (by decide) ?_
    refine j_iconst (pc' := 101) (v := (4 : Int32)) hC dX4_levelOf_100 (by decide) rfl ?_
    exact j_ret_ir hC dX4_levelOf_101
  refine j_if (fun c3 => ?_) (fun c3 => ?_)
  · refine j_lookup (tgt := 98) (off := 97) hC dX4_levelOf_1 (by decide) (by rw [c3]; rfl) (by decide) ?_
    refine j_iconst (pc' := 99) (v := (3 : Int32)) hC dX4_levelOf_98 (by decide) rfl ?_
    exact j_ret_ir hC dX4_levelOf_99
  refine j_if (fun c4 => ?_) (fun c4 => ?_)
  · refine j_lookup (tgt := 98) (off := 97) hC dX4_levelOf_1 (by decide) (by rw [c4]; rfl) (by decide) ?_
    refine j_iconst (pc' := 99) (v := (3 : Int32)) hC dX4_levelOf_98 (by decide) rfl ?_
    exact j_ret_ir hC dX4_levelOf_99
  refine j_if (fun c5 => ?_) (fun c5 => ?_)
  · refine j_lookup (tgt := 100) (off := 99) hC dX4_levelOf_1 (by decide) (by rw [c5]; rfl) (by decide) ?_
    refine j_iconst (pc' := 101) (v := (4 : Int32)) hC dX4_levelOf_100 (by decide) rfl ?_
    exact j_ret_ir hC dX4_levelOf_101
  refine j_if (fun c6 => ?_) (fun c6 => ?_)
  · refine j_lookup (tgt := 96) (off := 95) hC dX4_levelOf_1 (by decide) (by rw [c6]; rfl) (by decide) ?_
    refine j_iconst (pc' := 97) (v := (2 : Int32)) hC dX4_levelOf_96 (by decide) rfl ?_
    exact j_ret_ir hC dX4_levelOf_97
  refine j_if (fun c7 => ?_) (fun c7 => ?_)
  · refine j_lookup (tgt := 96) (off := 95) hC dX4_levelOf_1 (by decide) (by rw [c7]; rfl) (by decide) ?_
    refine j_iconst (pc' := 97) (v := (2 : Int32)) hC dX4_levelOf_96 (by decide) rfl ?_
    exact j_ret_ir hC dX4_levelOf_97
  refine j_if (fun c8 => ?_) (fun c8 => ?_)
  · refine j_lookup (tgt := 96) (off := 95) hC dX4_levelOf_1 (by decide) (by rw [c8]; rfl) (by decide) ?_
    refine j_iconst (pc' := 97) (v := (2 : Int32)) hC dX4_levelOf_96 (by decide) rfl ?_
    exact j_ret_ir hC dX4_levelOf_97
  refine j_if (fun c9 => ?_) (fun c9 => ?_)
  · refine j_lookup (tgt := 92) (off := 91) hC dX4_levelOf_1 (by decide) (by rw [c9]; rfl) (by decide) ?_
    refine j_iconst (pc' := 93) (v := (0 : Int32)) hC dX4_levelOf_92 (by decide) rfl ?_
    exact j_ret_ir hC dX4_levelOf_93
  refine j_lookup (tgt := 102) (off := 101) hC dX4_levelOf_1 (by decide) (by show Op.lookupswitch.offset ([(37, 99), (38, 93), (42, 99), (43, 97), (45, 97), (47, 99), (60, 95), (61, 95), (62, 95), (124, 91)] : List (Int × Int)) 101 _ = _; rw [lv_osw (a := 37) c0 rfl, lv_osw (a := 38) c1 rfl, lv_osw (a := 42) c2 rfl, lv_osw (a := 43) c3 rfl, lv_osw (a := 45) c4 rfl, lv_osw (a := 47) c5 rfl, lv_osw (a := 60) c6 rfl, lv_osw (a := 61) c7 rfl, lv_osw (a := 62) c8 rfl, lv_osw (a := 124) c9 rfl]; rfl) (by decide) ?_
  refine j_iconst (pc' := 103) (v := (-1 : Int32)) hC dX4_levelOf_102 (by decide) rfl ?_
  exact j_ret_ir hC dX4_levelOf_103
theorem hyV_X4_readNumber : yX4_readNumber.cls = RX4 ∧ yX4_readNumber.cls ≠ "java/lang/invoke/MethodHandle" ∧ yX4_readNumber.cls ≠ "java/lang/invoke/VarHandle" ∧ (parseMethodDescriptor yX4_readNumber.desc).map (fun d => d.parameters.length) = some 0 := ⟨rfl, by decide +kernel, by decide +kernel, by decide +kernel⟩
noncomputable def fX4_readNumber_B4 (j48 : (jS × Int32 → Option (jS))) (s4 : jS × Int32 × Int32 → Option (jS)) (a : jS × Int32 × Int32) : Option (jS) :=
  (if (4 : Int32) ≤ a.2.2 then (j48 (a.1, a.2.1)) else (Option.bind (fX4_letter a.1) fun (q2 : Int32) => (Option.bind (fX4_isDigit a.1 q2) fun (q3 : Int32) => (if (jb q3) = 0 then (j48 (a.1, a.2.1)) else (Option.bind (fX4_letter a.1) fun (q4 : Int32) => (jst (ju a.1 7 2 ((a.1.1 7 2) + (1 : Int32))) fun (σ5 : jS) => (s4 (σ5, (((a.2.1 * (10 : Int32)) + q4) - (48 : Int32)), (a.2.2 + (1 : Int32))))))))))
noncomputable def fX4_readNumber (σ : jS) : Option (jS) :=
  (jlet (fun (a48 : jS × Int32) => (Option.bind (fX4_draw a48.1 ((256 : Int32) + a48.2)) fun (q1 : jS) => (some q1))) fun (j48 : (jS × Int32 → Option (jS))) => (jloop (fX4_readNumber_B4 j48) jN (σ, (0 : Int32), (0 : Int32))))
set_option maxRecDepth 100000 in
set_option maxHeartbeats 4000000 in
theorem kX4_readNumber (l : Launch) (d : jD) (A : Nat → Prop) (σ : jS) : jMv l yX4_readNumber (jws yX4_readNumber cX4_readNumber 3 none) { frames := 3, cells := 0, slots := 0, locals := 151 } d wX A [.ref (d.2.1 7)] σ (fX4_readNumber σ) := by
  refine jStart_v (lv0 := [(0, .ref (d.2.1 7))]) (by decide) rfl (Nat.le_of_ble_eq_true rfl) rfl (fun z hC res => ?_)
  unfold fX4_readNumber
  refine j_iconst (pc' := 1) (v := (0 : Int32)) hC dX4_readNumber_0 (by decide) rfl ?_
  refine j_istore_n (pc' := 2) (lv' := [(1, .int (0 : Int32)), (0, .ref (d.2.1 7))]) hC dX4_readNumber_1 rfl (by decide) rfl rfl ?_
  refine j_iconst (pc' := 3) (v := (0 : Int32)) hC dX4_readNumber_2 (by decide) rfl ?_
  refine j_istore_n (pc' := 4) (lv' := [(2, .int (0 : Int32)), (1, .int (0 : Int32)), (0, .ref (d.2.1 7))]) hC dX4_readNumber_3 rfl (by decide) rfl rfl ?_
  refine j_let 48 (fun a48 => a48.1) (fun a48 => [(0, .ref (d.2.1 7)), (1, .int a48.2)]) (fun a48 => []) (fun a48 => ?_) (fun j48 hj48 => ?_)
  · refine j_aload_n (pc' := 49) hC 0 dX4_readNumber_48 rfl rfl rfl ?_
    refine j_sipush (pc' := 52) (v := (256 : Int32)) hC dX4_readNumber_49 (by decide) rfl ?_
    refine j_iload_n (pc' := 53) hC 1 dX4_readNumber_52 rfl rfl rfl ?_
    refine j_iadd (pc' := 54) hC dX4_readNumber_53 rfl ?_
    refine j_callV_v (pc' := 57) (As := [.int ((256 : Int32) + a48.2)]) (st := []) hC (X_at_7 d _) rfl (kX4_draw l d A _ _) (jgV ml_X4_59 im_X4_draw se_X4_draw in_X4 cd_X4_draw) rfl rfl rfl hyV_X4_draw ⟨Nat.le_of_ble_eq_true rfl, Nat.le_of_ble_eq_true rfl⟩ rfl rfl (Nat.le_of_ble_eq_true rfl) dX4_readNumber_54 rfl (fun q1 => ?_)
    exact j_ret_v hC dX4_readNumber_57
  · refine j_lv (lv' := [(0, .ref (d.2.1 7)), (1, .int (0 : Int32)), (2, .int (0 : Int32))]) [2, 1, 0] rfl ?_
    refine j_loop 4 (fun a => a.1) (fun a => [(0, .ref (d.2.1 7)), (1, .int a.2.1), (2, .int a.2.2)]) (fun s4 hs4 a => ?_) jN (σ, (0 : Int32), (0 : Int32))
    unfold fX4_readNumber_B4
    refine j_iload_n (pc' := 5) hC 2 dX4_readNumber_4 rfl rfl rfl ?_
    refine j_iconst (pc' := 6) (v := (4 : Int32)) hC dX4_readNumber_5 (by decide) rfl ?_
    refine j_icmp_ge (pc' := 9) (tgt := 48) hC dX4_readNumber_6 (by decide) rfl ?_ ?_
    · exact j_lv (lv' := [(0, .ref (d.2.1 7)), (1, .int a.2.1)]) [0, 1] rfl (hj48 (a.1, a.2.1))
    · refine j_aload_n (pc' := 10) hC 0 dX4_readNumber_9 rfl rfl rfl ?_
      refine j_callV_ir (pc' := 13) (As := []) (st := []) hC (X_at_7 d _) rfl (kX4_letter l d A _) (jgV ml_X4_42 im_X4_letter se_X4_letter in_X4 cd_X4_letter) rfl rfl rfl hyV_X4_letter ⟨Nat.le_of_ble_eq_true rfl, Nat.le_of_ble_eq_true rfl⟩ rfl rfl (Nat.le_of_ble_eq_true rfl) dX4_readNumber_10 rfl (fun q2 => ?_)
      refine j_callS_zr (pc' := 16) (As := [.int q2]) (st := []) hC (kX4_isDigit l d A _ _) (jgS ml_X4_71 st_X4_isDigit in_X4 cd_X4_isDigit) rfl rfl rfl hyS_X4_isDigit ⟨Nat.le_of_ble_eq_true rfl, Nat.le_of_ble_eq_true rfl⟩ rfl rfl (Nat.le_of_ble_eq_true rfl) dX4_readNumber_13 rfl (fun q3 => ?_)
      refine j_if_eq (pc' := 19) (tgt := 48) hC dX4_readNumber_16 (by decide) rfl ?_ ?_
      · exact j_lv (lv' := [(0, .ref (d.2.1 7)), (1, .int a.2.1)]) [0, 1] rfl (hj48 (a.1, a.2.1))
      · refine j_iload_n (pc' := 20) hC 1 dX4_readNumber_19 rfl rfl rfl ?_
        refine j_bipush (pc' := 22) (v := (10 : Int32)) hC dX4_readNumber_20 (by decide) rfl ?_
        refine j_imul (pc' := 23) hC dX4_readNumber_22 rfl ?_
        refine j_aload_n (pc' := 24) hC 0 dX4_readNumber_23 rfl rfl rfl ?_
        refine j_callV_ir (pc' := 27) (As := []) (st := [.int (a.2.1 * (10 : Int32))]) hC (X_at_7 d _) rfl (kX4_letter l d A _) (jgV ml_X4_42 im_X4_letter se_X4_letter in_X4 cd_X4_letter) rfl rfl rfl hyV_X4_letter ⟨Nat.le_of_ble_eq_true rfl, Nat.le_of_ble_eq_true rfl⟩ rfl rfl (Nat.le_of_ble_eq_true rfl) dX4_readNumber_24 rfl (fun q4 => ?_)
        refine j_iadd (pc' := 28) hC dX4_readNumber_27 rfl ?_
        refine j_bipush (pc' := 30) (v := (48 : Int32)) hC dX4_readNumber_28 (by decide) rfl ?_
        refine j_isub (pc' := 31) hC dX4_readNumber_30 rfl ?_
        refine j_istore_n (pc' := 32) (lv' := [(1, .int (((a.2.1 * (10 : Int32)) + q4) - (48 : Int32))), (0, .ref (d.2.1 7)), (2, .int a.2.2)]) hC dX4_readNumber_31 rfl (by decide) rfl rfl ?_
        refine j_aload_n (pc' := 33) hC 1 dX4_readNumber_32 rfl rfl rfl ?_
        refine j_dup (pc' := 34) hC rfl dX4_readNumber_33 rfl ?_
        refine j_get (pc' := 37) hC ly_X4 (X_at_7 d _) rfl 2 (by decide) fl_X4_32 rfl dX4_readNumber_34 rfl ?_
        refine j_iconst (pc' := 38) (v := (1 : Int32)) hC dX4_readNumber_37 (by decide) rfl ?_
        refine j_iadd (pc' := 39) hC dX4_readNumber_38 rfl ?_
        refine j_put (pc' := 42) hC ly_X4 tyX4 tyX4_ok nmX4 (X_at_7 d _) rfl 2 (by decide) fl_X4_32 rfl rfl rfl rfl (Nat.le_of_ble_eq_true rfl) (X_sf_7_2 d _ _) dX4_readNumber_39 rfl ?_
        refine j_st (fun σ5 => ?_)
        refine j_iinc (pc' := 45) (v := (a.2.2 + (1 : Int32))) (lv' := [(2, .int (a.2.2 + (1 : Int32))), (1, .int (((a.2.1 * (10 : Int32)) + q4) - (48 : Int32))), (0, .ref (d.2.1 7))]) hC 2 dX4_readNumber_42 rfl (by decide) rfl rfl rfl ?_
        refine j_goto (tgt := 4) hC dX4_readNumber_45 (by decide) ?_
        exact j_lv (lv' := [(0, .ref (d.2.1 7)), (1, .int (((a.2.1 * (10 : Int32)) + q4) - (48 : Int32))), (2, .int (a.2.2 + (1 : Int32)))]) [2, 1, 0] rfl (hs4 (σ5, (((a.2.1 * (10 : Int32)) + q4) - (48 : Int32)), (a.2.2 + (1 : Int32))))
theorem hyV_X4_lay : yX4_lay.cls = RX4 ∧ yX4_lay.cls ≠ "java/lang/invoke/MethodHandle" ∧ yX4_lay.cls ≠ "java/lang/invoke/VarHandle" ∧ (parseMethodDescriptor yX4_lay.desc).map (fun d => d.parameters.length) = some 2 := ⟨rfl, by decide +kernel, by decide +kernel, by decide +kernel⟩
noncomputable def fX4_lay (σ : jS) (p1 : Int32) (p2 : Int32) : Option (Int32 × jS) :=
  (if p1 < 0 then (some (p1, σ)) else (if p1 < (64 : Int32) then (ob p1 64 (jst (ju σ 11 (p1).toNatClampNeg p2) fun (σ1 : jS) => (some ((p1 + (1 : Int32)), σ1)))) else (some (p1, σ))))
set_option maxRecDepth 100000 in
set_option maxHeartbeats 4000000 in
theorem kX4_lay (l : Launch) (d : jD) (A : Nat → Prop) (σ : jS) (p1 : Int32) (p2 : Int32) : jMi l yX4_lay (jws yX4_lay cX4_lay 3 (some (.int))) { frames := 2, cells := 0, slots := 0, locals := 130 } d wX A [.ref (d.2.1 7), .int p1, .int p2] σ (fX4_lay σ p1 p2) := by
  refine jStart_i (lv0 := [(0, .ref (d.2.1 7)), (1, .int p1), (2, .int p2)]) (by decide) rfl (Nat.le_of_ble_eq_true rfl) rfl (fun z hC res => ?_)
  unfold fX4_lay
  refine j_iload_n (pc' := 1) hC 1 dX4_lay_0 rfl rfl rfl ?_
  refine j_if_lt (pc' := 4) (tgt := 10) hC dX4_lay_1 (by decide) rfl ?_ ?_
  · refine j_iload_n (pc' := 11) hC 1 dX4_lay_10 rfl rfl rfl ?_
    exact j_ret_i hC dX4_lay_11
  · refine j_iload_n (pc' := 5) hC 1 dX4_lay_4 rfl rfl rfl ?_
    refine j_bipush (pc' := 7) (v := (64 : Int32)) hC dX4_lay_5 (by decide) rfl ?_
    refine j_icmp_lt (pc' := 10) (tgt := 12) hC dX4_lay_7 (by decide) rfl ?_ ?_
    · refine j_aload_n (pc' := 13) hC 0 dX4_lay_12 rfl rfl rfl ?_
      refine j_get (pc' := 16) hC ly_X4 (X_at_7 d _) rfl 7 (by decide) fl_X4_22 rfl dX4_lay_13 rfl ?_
      refine j_iload_n (pc' := 17) hC 1 dX4_lay_16 rfl rfl rfl ?_
      refine j_iload_n (pc' := 18) hC 2 dX4_lay_17 rfl rfl rfl ?_
      refine j_iast (pc' := 19) hC (X_at_11 d _) (X_sa_11 d _ _) dX4_lay_18 rfl ?_
      refine j_st (fun σ1 => ?_)
      refine j_iload_n (pc' := 20) hC 1 dX4_lay_19 rfl rfl rfl ?_
      refine j_iconst (pc' := 21) (v := (1 : Int32)) hC dX4_lay_20 (by decide) rfl ?_
      refine j_iadd (pc' := 22) hC dX4_lay_21 rfl ?_
      exact j_ret_i hC dX4_lay_22
    · refine j_iload_n (pc' := 11) hC 1 dX4_lay_10 rfl rfl rfl ?_
      exact j_ret_i hC dX4_lay_11
theorem hyV_X4_valueNamed : yX4_valueNamed.cls = RX4 ∧ yX4_valueNamed.cls ≠ "java/lang/invoke/MethodHandle" ∧ yX4_valueNamed.cls ≠ "java/lang/invoke/VarHandle" ∧ (parseMethodDescriptor yX4_valueNamed.desc).map (fun d => d.parameters.length) = some 1 := ⟨rfl, by decide +kernel, by decide +kernel, by decide +kernel⟩
noncomputable def fX4_valueNamed (σ : jS) (p1 : Int32) : Option (Int32) :=
  (if p1 < 0 then (some (0 : Int32)) else (if (6 : Int32) ≤ p1 then (some (0 : Int32)) else (ob p1 6 (some (σ.1 12 (p1).toNatClampNeg)))))
set_option maxRecDepth 100000 in
set_option maxHeartbeats 4000000 in
theorem kX4_valueNamed (l : Launch) (d : jD) (A : Nat → Prop) (σ : jS) (p1 : Int32) : jMir l yX4_valueNamed (jws yX4_valueNamed cX4_valueNamed 2 (some (.int))) { frames := 2, cells := 0, slots := 0, locals := 130 } d wX A [.ref (d.2.1 7), .int p1] σ (fX4_valueNamed σ p1) := by
  refine jStart_ir (lv0 := [(0, .ref (d.2.1 7)), (1, .int p1)]) (by decide) rfl (Nat.le_of_ble_eq_true rfl) rfl (fun z hC res => ?_)
  unfold fX4_valueNamed
  refine j_iload_n (pc' := 1) hC 1 dX4_valueNamed_0 rfl rfl rfl ?_
  refine j_if_lt (pc' := 4) (tgt := 22) hC dX4_valueNamed_1 (by decide) rfl ?_ ?_
  · refine j_iconst (pc' := 23) (v := (0 : Int32)) hC dX4_valueNamed_22 (by decide) rfl ?_
    exact j_ret_ir hC dX4_valueNamed_23
  · refine j_iload_n (pc' := 5) hC 1 dX4_valueNamed_4 rfl rfl rfl ?_
    refine j_aload_n (pc' := 6) hC 0 dX4_valueNamed_5 rfl rfl rfl ?_
    refine j_get (pc' := 9) hC ly_X4 (X_at_7 d _) rfl 8 (by decide) fl_X4_25 rfl dX4_valueNamed_6 rfl ?_
    refine j_alen (pc' := 10) (t0 := 0) (v := (6 : Int32)) hC (X_at_12 d _) rfl rfl dX4_valueNamed_9 rfl ?_
    refine j_icmp_ge (pc' := 13) (tgt := 22) hC dX4_valueNamed_10 (by decide) rfl ?_ ?_
    · refine j_iconst (pc' := 23) (v := (0 : Int32)) hC dX4_valueNamed_22 (by decide) rfl ?_
      exact j_ret_ir hC dX4_valueNamed_23
    · refine j_aload_n (pc' := 14) hC 0 dX4_valueNamed_13 rfl rfl rfl ?_
      refine j_get (pc' := 17) hC ly_X4 (X_at_7 d _) rfl 8 (by decide) fl_X4_25 rfl dX4_valueNamed_14 rfl ?_
      refine j_iload_n (pc' := 18) hC 1 dX4_valueNamed_17 rfl rfl rfl ?_
      refine j_iald (pc' := 19) hC (X_at_12 d _) dX4_valueNamed_18 rfl ?_
      refine j_goto (tgt := 23) hC dX4_valueNamed_19 (by decide) ?_
      exact j_ret_ir hC dX4_valueNamed_23
theorem hyS_X4_joined : yX4_joined.cls ≠ "java/lang/invoke/MethodHandle" ∧ yX4_joined.cls ≠ "java/lang/invoke/VarHandle" ∧ (parseMethodDescriptor yX4_joined.desc).map (fun d => d.parameters.length) = some 3 := ⟨by decide +kernel, by decide +kernel, by decide +kernel⟩
noncomputable def fX4_joined (σ : jS) (p1 : Int32) (p2 : Int32) (p3 : Int32) : Option (Int32) :=
  (if p1 = (37 : Int32) then (if p3 = 0 then (some (0 : Int32)) else (od p3 (some (p2 - p2 / p3 * p3)))) else (if p1 = (38 : Int32) then (if p2 = 0 then (some (0 : Int32)) else (if p3 = 0 then (some (0 : Int32)) else (some (1 : Int32)))) else (if p1 = (42 : Int32) then (some (p2 * p3)) else (if p1 = (43 : Int32) then (some (p2 + p3)) else (if p1 = (45 : Int32) then (some (p2 - p3)) else (if p1 = (47 : Int32) then (if p3 = 0 then (some (0 : Int32)) else (od p3 (some (p2 / p3)))) else (if p1 = (60 : Int32) then (if p3 ≤ p2 then (some (0 : Int32)) else (some (1 : Int32))) else (if p1 = (61 : Int32) then (if p2 = p3 then (some (1 : Int32)) else (some (0 : Int32))) else (if p1 = (62 : Int32) then (if p2 ≤ p3 then (some (0 : Int32)) else (some (1 : Int32))) else (if p1 = (124 : Int32) then (if p2 = 0 then (if p3 = 0 then (some (0 : Int32)) else (some (1 : Int32))) else (some (1 : Int32))) else (some (0 : Int32))))))))))))
set_option maxRecDepth 100000 in
set_option maxHeartbeats 4000000 in
theorem kX4_joined (l : Launch) (d : jD) (A : Nat → Prop) (σ : jS) (p1 : Int32) (p2 : Int32) (p3 : Int32) : jMir l yX4_joined (jws yX4_joined cX4_joined 3 (some (.int))) { frames := 2, cells := 0, slots := 0, locals := 130 } d wX A [.int p1, .int p2, .int p3] σ (fX4_joined σ p1 p2 p3) := by
  refine jStart_ir (lv0 := [(0, .int p1), (1, .int p2), (2, .int p3)]) (by decide) rfl (Nat.le_of_ble_eq_true rfl) rfl (fun z hC res => ?_)
  unfold fX4_joined
  refine j_iload_n (pc' := 1) hC 0 dX4_joined_0 rfl rfl rfl ?_
  refine j_if (fun c0 => ?_) (fun c0 => ?_)
  · refine j_lookup (tgt := 177) (off := 176) hC dX4_joined_1 (by decide) (by rw [c0]; rfl) (by decide) ?_
    refine j_iload_n (pc' := 178) hC 2 dX4_joined_177 rfl rfl rfl ?_
    refine j_if_ne (pc' := 181) (tgt := 185) hC dX4_joined_178 (by decide) rfl ?_ ?_
    · refine j_iload_n (pc' := 186) hC 1 dX4_joined_185 rfl rfl rfl ?_
      refine j_iload_n (pc' := 187) hC 2 dX4_joined_186 rfl rfl rfl ?_
      refine j_irem (pc' := 188) hC dX4_joined_187 rfl ?_
      exact j_ret_ir hC dX4_joined_188
    · refine j_iconst (pc' := 182) (v := (0 : Int32)) hC dX4_joined_181 (by decide) rfl ?_
      refine j_goto (tgt := 188) hC dX4_joined_182 (by decide) ?_
      exact j_ret_ir hC dX4_joined_188
  refine j_if (fun c1 => ?_) (fun c1 => ?_)
  · refine j_lookup (tgt := 106) (off := 105) hC dX4_joined_1 (by decide) (by rw [c1]; rfl) (by decide) ?_
    refine j_iload_n (pc' := 107) hC 1 dX4_joined_106 rfl rfl rfl ?_
    refine j_if_eq (pc' := 110) (tgt := 118) hC dX4_joined_107 (by decide) rfl ?_ ?_
    · refine j_iconst (pc' := 119) (v := (0 : Int32)) hC dX4_joined_118 (by decide) rfl ?_
      exact j_ret_ir hC dX4_joined_119
    · refine j_iload_n (pc' := 111) hC 2 dX4_joined_110 rfl rfl rfl ?_
      refine j_if_eq (pc' := 114) (tgt := 118) hC dX4_joined_111 (by decide) rfl ?_ ?_
      · refine j_iconst (pc' := 119) (v := (0 : Int32)) hC dX4_joined_118 (by decide) rfl ?_
        exact j_ret_ir hC dX4_joined_119
      · refine j_iconst (pc' := 115) (v := (1 : Int32)) hC dX4_joined_114 (by decide) rfl ?_
        refine j_goto (tgt := 119) hC dX4_joined_115 (by decide) ?_
        exact j_ret_ir hC dX4_joined_119
  refine j_if (fun c2 => ?_) (fun c2 => ?_)
  · refine j_lookup (tgt := 161) (off := 160) hC dX4_joined_1 (by decide) (by rw [c2]; rfl) (by decide) ?_
    refine j_iload_n (pc' := 162) hC 1 dX4_joined_161 rfl rfl rfl ?_
    refine j_iload_n (pc' := 163) hC 2 dX4_joined_162 rfl rfl rfl ?_
    refine j_imul (pc' := 164) hC dX4_joined_163 rfl ?_
    exact j_ret_ir hC dX4_joined_164
  refine j_if (fun c3 => ?_) (fun c3 => ?_)
  · refine j_lookup (tgt := 153) (off := 152) hC dX4_joined_1 (by decide) (by rw [c3]; rfl) (by decide) ?_
    refine j_iload_n (pc' := 154) hC 1 dX4_joined_153 rfl rfl rfl ?_
    refine j_iload_n (pc' := 155) hC 2 dX4_joined_154 rfl rfl rfl ?_
    refine j_iadd (pc' := 156) hC dX4_joined_155 rfl ?_
    exact j_ret_ir hC dX4_joined_156
  refine j_if (fun c4 => ?_) (fun c4 => ?_)
  · refine j_lookup (tgt := 157) (off := 156) hC dX4_joined_1 (by decide) (by rw [c4]; rfl) (by decide) ?_
    refine j_iload_n (pc' := 158) hC 1 dX4_joined_157 rfl rfl rfl ?_
    refine j_iload_n (pc' := 159) hC 2 dX4_joined_158 rfl rfl rfl ?_
    refine j_isub (pc' := 160) hC dX4_joined_159 rfl ?_
    exact j_ret_ir hC dX4_joined_160
  refine j_if (fun c5 => ?_) (fun c5 => ?_)
  · refine j_lookup (tgt := 165) (off := 164) hC dX4_joined_1 (by decide) (by rw [c5]; rfl) (by decide) ?_
    refine j_iload_n (pc' := 166) hC 2 dX4_joined_165 rfl rfl rfl ?_
    refine j_if_ne (pc' := 169) (tgt := 173) hC dX4_joined_166 (by decide) rfl ?_ ?_
    · refine j_iload_n (pc' := 174) hC 1 dX4_joined_173 rfl rfl rfl ?_
      refine j_iload_n (pc' := 175) hC 2 dX4_joined_174 rfl rfl rfl ?_
      refine j_idiv (pc' := 176) hC dX4_joined_175 rfl ?_
      exact j_ret_ir hC dX4_joined_176
    · refine j_iconst (pc' := 170) (v := (0 : Int32)) hC dX4_joined_169 (by decide) rfl ?_
      refine j_goto (tgt := 176) hC dX4_joined_170 (by decide) ?_
      exact j_ret_ir hC dX4_joined_176
  refine j_if (fun c6 => ?_) (fun c6 => ?_)
  · refine j_lookup (tgt := 120) (off := 119) hC dX4_joined_1 (by decide) (by rw [c6]; rfl) (by decide) ?_
    refine j_iload_n (pc' := 121) hC 1 dX4_joined_120 rfl rfl rfl ?_
    refine j_iload_n (pc' := 122) hC 2 dX4_joined_121 rfl rfl rfl ?_
    refine j_icmp_ge (pc' := 125) (tgt := 129) hC dX4_joined_122 (by decide) rfl ?_ ?_
    · refine j_iconst (pc' := 130) (v := (0 : Int32)) hC dX4_joined_129 (by decide) rfl ?_
      exact j_ret_ir hC dX4_joined_130
    · refine j_iconst (pc' := 126) (v := (1 : Int32)) hC dX4_joined_125 (by decide) rfl ?_
      refine j_goto (tgt := 130) hC dX4_joined_126 (by decide) ?_
      exact j_ret_ir hC dX4_joined_130
  refine j_if (fun c7 => ?_) (fun c7 => ?_)
  · refine j_lookup (tgt := 131) (off := 130) hC dX4_joined_1 (by decide) (by rw [c7]; rfl) (by decide) ?_
    refine j_iload_n (pc' := 132) hC 1 dX4_joined_131 rfl rfl rfl ?_
    refine j_iload_n (pc' := 133) hC 2 dX4_joined_132 rfl rfl rfl ?_
    refine j_icmp_ne (pc' := 136) (tgt := 140) hC dX4_joined_133 (by decide) rfl ?_ ?_
    · refine j_iconst (pc' := 141) (v := (0 : Int32)) hC dX4_joined_140 (by decide) rfl ?_
      exact j_ret_ir hC dX4_joined_141
    · refine j_iconst (pc' := 137) (v := (1 : Int32)) hC dX4_joined_136 (by decide) rfl ?_
      refine j_goto (tgt := 141) hC dX4_joined_137 (by decide) ?_
      exact j_ret_ir hC dX4_joined_141
  refine j_if (fun c8 => ?_) (fun c8 => ?_)
  · refine j_lookup (tgt := 142) (off := 141) hC dX4_joined_1 (by decide) (by rw [c8]; rfl) (by decide) ?_
    refine j_iload_n (pc' := 143) hC 1 dX4_joined_142 rfl rfl rfl ?_
    refine j_iload_n (pc' := 144) hC 2 dX4_joined_143 rfl rfl rfl ?_
    refine j_icmp_le (pc' := 147) (tgt := 151) hC dX4_joined_144 (by decide) rfl ?_ ?_
    · refine j_iconst (pc' := 152) (v := (0 : Int32)) hC dX4_joined_151 (by decide) rfl ?_
      exact j_ret_ir hC dX4_joined_152
    · refine j_iconst (pc' := 148) (v := (1 : Int32)) hC dX4_joined_147 (by decide) rfl ?_
      refine j_goto (tgt := 152) hC dX4_joined_148 (by decide) ?_
      exact j_ret_ir hC dX4_joined_152
  refine j_if (fun c9 => ?_) (fun c9 => ?_)
  · refine j_lookup (tgt := 92) (off := 91) hC dX4_joined_1 (by decide) (by rw [c9]; rfl) (by decide) ?_
    refine j_iload_n (pc' := 93) hC 1 dX4_joined_92 rfl rfl rfl ?_
    refine j_if_ne (pc' := 96) (tgt := 100) hC dX4_joined_93 (by decide) rfl ?_ ?_
    · refine j_iconst (pc' := 101) (v := (1 : Int32)) hC dX4_joined_100 (by decide) rfl ?_
      refine j_goto (tgt := 105) hC dX4_joined_101 (by decide) ?_
      exact j_ret_ir hC dX4_joined_105
    · refine j_iload_n (pc' := 97) hC 2 dX4_joined_96 rfl rfl rfl ?_
      refine j_if_eq (pc' := 100) (tgt := 104) hC dX4_joined_97 (by decide) rfl ?_ ?_
      · refine j_iconst (pc' := 105) (v := (0 : Int32)) hC dX4_joined_104 (by decide) rfl ?_
        exact j_ret_ir hC dX4_joined_105
      · refine j_iconst (pc' := 101) (v := (1 : Int32)) hC dX4_joined_100 (by decide) rfl ?_
        refine j_goto (tgt := 105) hC dX4_joined_101 (by decide) ?_
        exact j_ret_ir hC dX4_joined_105
  refine j_lookup (tgt := 189) (off := 188) hC dX4_joined_1 (by decide) (by show Op.lookupswitch.offset ([(37, 176), (38, 105), (42, 160), (43, 152), (45, 156), (47, 164), (60, 119), (61, 130), (62, 141), (124, 91)] : List (Int × Int)) 188 _ = _; rw [lv_osw (a := 37) c0 rfl, lv_osw (a := 38) c1 rfl, lv_osw (a := 42) c2 rfl, lv_osw (a := 43) c3 rfl, lv_osw (a := 45) c4 rfl, lv_osw (a := 47) c5 rfl, lv_osw (a := 60) c6 rfl, lv_osw (a := 61) c7 rfl, lv_osw (a := 62) c8 rfl, lv_osw (a := 124) c9 rfl]; rfl) (by decide) ?_
  refine j_iconst (pc' := 190) (v := (0 : Int32)) hC dX4_joined_189 (by decide) rfl ?_
  exact j_ret_ir hC dX4_joined_190
theorem hyV_X4_worth : yX4_worth.cls = RX4 ∧ yX4_worth.cls ≠ "java/lang/invoke/MethodHandle" ∧ yX4_worth.cls ≠ "java/lang/invoke/VarHandle" ∧ (parseMethodDescriptor yX4_worth.desc).map (fun d => d.parameters.length) = some 0 := ⟨rfl, by decide +kernel, by decide +kernel, by decide +kernel⟩
noncomputable def fX4_worth_B6 (s6 : jS × Int32 × Int32 × Int32 → Option (Int32 × jS)) (a : jS × Int32 × Int32 × Int32) : Option (Int32 × jS) :=
  (if (a.1.1 7 6) ≤ a.2.2.2 then (some ((0 : Int32), a.1)) else (ob a.2.2.2 121 (jlet (fun (a220 : jS × Int32 × Int32) => (s6 (a220.1, a220.2.1, a220.2.2, (a.2.2.2 + (1 : Int32))))) fun (j220 : (jS × Int32 × Int32 → Option (Int32 × jS))) => (jlet (fun (a35 : Unit) => (jlet (fun (a59 : Int32) => (Option.bind (fX4_lay a.1 a.2.1 a59) fun (q1 : (Int32 × jS)) => (j220 (q1.2, q1.1, a.2.2.1)))) fun (j59 : (Int32 → Option (Int32 × jS))) => (if 0 ≤ (a.1.1 10 (a.2.2.2).toNatClampNeg) then (j59 ((a.1.1 10 (a.2.2.2).toNatClampNeg) - (256 : Int32))) else (Option.bind (fX4_valueNamed a.1 ((-1 : Int32) - (a.1.1 10 (a.2.2.2).toNatClampNeg))) fun (q2 : Int32) => (j59 q2))))) fun (j35 : (Unit → Option (Int32 × jS))) => (if (a.1.1 10 (a.2.2.2).toNatClampNeg) < 0 then (j35 ()) else (if (a.1.1 10 (a.2.2.2).toNatClampNeg) < (256 : Int32) then (if a.2.1 < (1 : Int32) then (some ((0 : Int32), a.1)) else (if a.2.1 ≤ (64 : Int32) then (ob (a.2.1 - (1 : Int32)) 64 (jlet (fun (a103 : Unit) => (jlet (fun (a117 : Unit) => (jlet (fun (a134 : Int32) => (j220 (a.1, (a.2.1 + (-1 : Int32)), a134))) fun (j134 : (Int32 → Option (Int32 × jS))) => (jlet (fun (a129 : Unit) => (j134 (1 : Int32))) fun (j129 : (Unit → Option (Int32 × jS))) => (if (a.1.1 10 (a.2.2.2).toNatClampNeg) = (59 : Int32) then (j129 ()) else (if (a.1.1 11 ((a.2.1 - (1 : Int32))).toNatClampNeg) = 0 then (j134 (0 : Int32)) else (j129 ())))))) fun (j117 : (Unit → Option (Int32 × jS))) => (if (a.1.1 10 (a.2.2.2).toNatClampNeg) = (59 : Int32) then (j117 ()) else (if (a.1.1 10 (a.2.2.2).toNatClampNeg) = (63 : Int32) then (j117 ()) else (jlet (fun (a155 : Unit) => (jlet (fun (a185 : Int32) => (ob (a.2.1 - (1 : Int32)) 64 (jst (ju a.1 11 ((a.2.1 - (1 : Int32))).toNatClampNeg a185) fun (σ3 : jS) => (j220 (σ3, a.2.1, a.2.2.1))))) fun (j185 : (Int32 → Option (Int32 × jS))) => (if (a.1.1 10 (a.2.2.2).toNatClampNeg) = (126 : Int32) then (j185 (-(a.1.1 11 ((a.2.1 - (1 : Int32))).toNatClampNeg))) else (if (a.1.1 11 ((a.2.1 - (1 : Int32))).toNatClampNeg) = 0 then (j185 (1 : Int32)) else (j185 (0 : Int32)))))) fun (j155 : (Unit → Option (Int32 × jS))) => (if (a.1.1 10 (a.2.2.2).toNatClampNeg) = (33 : Int32) then (j155 ()) else (if (a.1.1 10 (a.2.2.2).toNatClampNeg) = (126 : Int32) then (j155 ()) else (if a.2.1 < (2 : Int32) then (j220 (a.1, a.2.1, a.2.2.1)) else (ob ((a.2.1 + (-1 : Int32)) - (1 : Int32)) 64 (Option.bind (fX4_joined a.1 (a.1.1 10 (a.2.2.2).toNatClampNeg) (a.1.1 11 (((a.2.1 + (-1 : Int32)) - (1 : Int32))).toNatClampNeg) (a.1.1 11 ((a.2.1 - (1 : Int32))).toNatClampNeg)) fun (q4 : Int32) => (ob ((a.2.1 + (-1 : Int32)) - (1 : Int32)) 64 (jst (ju a.1 11 (((a.2.1 + (-1 : Int32)) - (1 : Int32))).toNatClampNeg q4) fun (σ5 : jS) => (j220 (σ5, (a.2.1 + (-1 : Int32)), a.2.2.1)))))))))))))) fun (j103 : (Unit → Option (Int32 × jS))) => (if (a.1.1 10 (a.2.2.2).toNatClampNeg) = (59 : Int32) then (if a.2.2.1 = 0 then (j103 ()) else (some ((a.1.1 11 ((a.2.1 - (1 : Int32))).toNatClampNeg), a.1))) else (j103 ())))) else (some ((0 : Int32), a.1)))) else (j35 ())))))))
noncomputable def fX4_worth (σ : jS) : Option (Int32 × jS) :=
  (jloop (fX4_worth_B6) jN (σ, (0 : Int32), (1 : Int32), (0 : Int32)))
set_option maxRecDepth 100000 in
set_option maxHeartbeats 4000000 in
theorem kX4_worth (l : Launch) (d : jD) (A : Nat → Prop) (σ : jS) : jMi l yX4_worth (jws yX4_worth cX4_worth 6 (some (.int))) { frames := 3, cells := 0, slots := 0, locals := 152 } d wX A [.ref (d.2.1 7)] σ (fX4_worth σ) := by
  refine jStart_i (lv0 := [(0, .ref (d.2.1 7))]) (by decide) rfl (Nat.le_of_ble_eq_true rfl) rfl (fun z hC res => ?_)
  unfold fX4_worth
  refine j_iconst (pc' := 1) (v := (0 : Int32)) hC dX4_worth_0 (by decide) rfl ?_
  refine j_istore_n (pc' := 2) (lv' := [(1, .int (0 : Int32)), (0, .ref (d.2.1 7))]) hC dX4_worth_1 rfl (by decide) rfl rfl ?_
  refine j_iconst (pc' := 3) (v := (1 : Int32)) hC dX4_worth_2 (by decide) rfl ?_
  refine j_istore_n (pc' := 4) (lv' := [(2, .int (1 : Int32)), (1, .int (0 : Int32)), (0, .ref (d.2.1 7))]) hC dX4_worth_3 rfl (by decide) rfl rfl ?_
  refine j_iconst (pc' := 5) (v := (0 : Int32)) hC dX4_worth_4 (by decide) rfl ?_
  refine j_istore_n (pc' := 6) (lv' := [(3, .int (0 : Int32)), (2, .int (1 : Int32)), (1, .int (0 : Int32)), (0, .ref (d.2.1 7))]) hC dX4_worth_5 rfl (by decide) rfl rfl ?_
  refine j_lv (lv' := [(0, .ref (d.2.1 7)), (1, .int (0 : Int32)), (2, .int (1 : Int32)), (3, .int (0 : Int32))]) [3, 2, 1, 0] rfl ?_
  refine j_loop 6 (fun a => a.1) (fun a => [(0, .ref (d.2.1 7)), (1, .int a.2.1), (2, .int a.2.2.1), (3, .int a.2.2.2)]) (fun s6 hs6 a => ?_) jN (σ, (0 : Int32), (1 : Int32), (0 : Int32))
  unfold fX4_worth_B6
  refine j_iload_n (pc' := 7) hC 3 dX4_worth_6 rfl rfl rfl ?_
  refine j_aload_n (pc' := 8) hC 0 dX4_worth_7 rfl rfl rfl ?_
  refine j_get (pc' := 11) hC ly_X4 (X_at_7 d _) rfl 6 (by decide) fl_X4_52 rfl dX4_worth_8 rfl ?_
  refine j_icmp_ge (pc' := 14) (tgt := 226) hC dX4_worth_11 (by decide) rfl ?_ ?_
  · refine j_iconst (pc' := 227) (v := (0 : Int32)) hC dX4_worth_226 (by decide) rfl ?_
    exact j_ret_i hC dX4_worth_227
  · refine j_aload_n (pc' := 15) hC 0 dX4_worth_14 rfl rfl rfl ?_
    refine j_get (pc' := 18) hC ly_X4 (X_at_7 d _) rfl 5 (by decide) fl_X4_19 rfl dX4_worth_15 rfl ?_
    refine j_iload_n (pc' := 19) hC 3 dX4_worth_18 rfl rfl rfl ?_
    refine j_iald (pc' := 20) hC (X_at_10 d _) dX4_worth_19 rfl ?_
    refine j_istore (pc' := 22) (lv' := [(4, .int (a.1.1 10 (a.2.2.2).toNatClampNeg)), (0, .ref (d.2.1 7)), (1, .int a.2.1), (2, .int a.2.2.1), (3, .int a.2.2.2)]) hC dX4_worth_20 (by decide) rfl rfl ?_
    refine j_iload (pc' := 24) hC 0 dX4_worth_22 rfl rfl ?_
    refine j_let 220 (fun a220 => a220.1) (fun a220 => [(0, .ref (d.2.1 7)), (1, .int a220.2.1), (2, .int a220.2.2), (3, .int a.2.2.2)]) (fun a220 => []) (fun a220 => ?_) (fun j220 hj220 => ?_)
    · refine j_iinc (pc' := 223) (v := (a.2.2.2 + (1 : Int32))) (lv' := [(3, .int (a.2.2.2 + (1 : Int32))), (0, .ref (d.2.1 7)), (1, .int a220.2.1), (2, .int a220.2.2)]) hC 3 dX4_worth_220 rfl (by decide) rfl rfl rfl ?_
      refine j_goto (tgt := 6) hC dX4_worth_223 (by decide) ?_
      exact j_lv (lv' := [(0, .ref (d.2.1 7)), (1, .int a220.2.1), (2, .int a220.2.2), (3, .int (a.2.2.2 + (1 : Int32)))]) [1, 2, 3, 0] rfl (hs6 (a220.1, a220.2.1, a220.2.2, (a.2.2.2 + (1 : Int32))))
    · refine j_let 35 (fun a35 => a.1) (fun a35 => [(0, .ref (d.2.1 7)), (1, .int a.2.1), (2, .int a.2.2.1), (3, .int a.2.2.2), (4, .int (a.1.1 10 (a.2.2.2).toNatClampNeg))]) (fun a35 => []) (fun a35 => ?_) (fun j35 hj35 => ?_)
      · refine j_aload_n (pc' := 36) hC 0 dX4_worth_35 rfl rfl rfl ?_
        refine j_iload_n (pc' := 37) hC 1 dX4_worth_36 rfl rfl rfl ?_
        refine j_iload (pc' := 39) hC 4 dX4_worth_37 rfl rfl ?_
        refine j_let 59 (fun a59 => a.1) (fun a59 => [(0, .ref (d.2.1 7)), (2, .int a.2.2.1), (3, .int a.2.2.2)]) (fun a59 => [.int a59, .int a.2.1, .ref (d.2.1 7)]) (fun a59 => ?_) (fun j59 hj59 => ?_)
        · refine j_callV_i (pc' := 62) (As := [.int a.2.1, .int a59]) (st := []) hC (X_at_7 d _) rfl (kX4_lay l d A _ _ _) (jgV ml_X4_102 im_X4_lay se_X4_lay in_X4 cd_X4_lay) rfl rfl rfl hyV_X4_lay ⟨Nat.le_of_ble_eq_true rfl, Nat.le_of_ble_eq_true rfl⟩ rfl rfl (Nat.le_of_ble_eq_true rfl) dX4_worth_59 rfl (fun q1 => ?_)
          refine j_istore_n (pc' := 63) (lv' := [(1, .int q1.1), (0, .ref (d.2.1 7)), (2, .int a.2.2.1), (3, .int a.2.2.2)]) hC dX4_worth_62 rfl (by decide) rfl rfl ?_
          refine j_goto (tgt := 220) hC dX4_worth_63 (by decide) ?_
          exact j_lv (lv' := [(0, .ref (d.2.1 7)), (1, .int q1.1), (2, .int a.2.2.1), (3, .int a.2.2.2)]) [1, 0, 2, 3] rfl (hj220 (q1.2, q1.1, a.2.2.1))
        · refine j_if_ge (pc' := 42) (tgt := 53) hC dX4_worth_39 (by decide) rfl ?_ ?_
          · refine j_iload (pc' := 55) hC 4 dX4_worth_53 rfl rfl ?_
            refine j_sipush (pc' := 58) (v := (256 : Int32)) hC dX4_worth_55 (by decide) rfl ?_
            refine j_isub (pc' := 59) hC dX4_worth_58 rfl ?_
            exact j_lv (lv' := [(0, .ref (d.2.1 7)), (2, .int a.2.2.1), (3, .int a.2.2.2)]) [0, 2, 3] rfl (hj59 ((a.1.1 10 (a.2.2.2).toNatClampNeg) - (256 : Int32)))
          · refine j_aload_n (pc' := 43) hC 0 dX4_worth_42 rfl rfl rfl ?_
            refine j_iconst (pc' := 44) (v := (-1 : Int32)) hC dX4_worth_43 (by decide) rfl ?_
            refine j_iload (pc' := 46) hC 4 dX4_worth_44 rfl rfl ?_
            refine j_isub (pc' := 47) hC dX4_worth_46 rfl ?_
            refine j_callV_ir (pc' := 50) (As := [.int ((-1 : Int32) - (a.1.1 10 (a.2.2.2).toNatClampNeg))]) (st := [.int a.2.1, .ref (d.2.1 7)]) hC (X_at_7 d _) rfl (kX4_valueNamed l d A _ _) (jgV ml_X4_99 im_X4_valueNamed se_X4_valueNamed in_X4 cd_X4_valueNamed) rfl rfl rfl hyV_X4_valueNamed ⟨Nat.le_of_ble_eq_true rfl, Nat.le_of_ble_eq_true rfl⟩ rfl rfl (Nat.le_of_ble_eq_true rfl) dX4_worth_47 rfl (fun q2 => ?_)
            refine j_goto (tgt := 59) hC dX4_worth_50 (by decide) ?_
            exact j_lv (lv' := [(0, .ref (d.2.1 7)), (2, .int a.2.2.1), (3, .int a.2.2.2)]) [0, 2, 3] rfl (hj59 q2)
      · refine j_if_lt (pc' := 27) (tgt := 35) hC dX4_worth_24 (by decide) rfl ?_ ?_
        · exact j_lv (lv' := [(0, .ref (d.2.1 7)), (1, .int a.2.1), (2, .int a.2.2.1), (3, .int a.2.2.2), (4, .int (a.1.1 10 (a.2.2.2).toNatClampNeg))]) [1, 2, 3, 4, 0] rfl (hj35 ())
        · refine j_iload (pc' := 29) hC 0 dX4_worth_27 rfl rfl ?_
          refine j_sipush (pc' := 32) (v := (256 : Int32)) hC dX4_worth_29 (by decide) rfl ?_
          refine j_icmp_lt (pc' := 35) (tgt := 66) hC dX4_worth_32 (by decide) rfl ?_ ?_
          · refine j_iload_n (pc' := 67) hC 2 dX4_worth_66 rfl rfl rfl ?_
            refine j_iconst (pc' := 68) (v := (1 : Int32)) hC dX4_worth_67 (by decide) rfl ?_
            refine j_icmp_lt (pc' := 71) (tgt := 77) hC dX4_worth_68 (by decide) rfl ?_ ?_
            · refine j_iconst (pc' := 78) (v := (0 : Int32)) hC dX4_worth_77 (by decide) rfl ?_
              exact j_ret_i hC dX4_worth_78
            · refine j_iload_n (pc' := 72) hC 2 dX4_worth_71 rfl rfl rfl ?_
              refine j_bipush (pc' := 74) (v := (64 : Int32)) hC dX4_worth_72 (by decide) rfl ?_
              refine j_icmp_le (pc' := 77) (tgt := 79) hC dX4_worth_74 (by decide) rfl ?_ ?_
              · refine j_aload_n (pc' := 80) hC 1 dX4_worth_79 rfl rfl rfl ?_
                refine j_get (pc' := 83) hC ly_X4 (X_at_7 d _) rfl 7 (by decide) fl_X4_22 rfl dX4_worth_80 rfl ?_
                refine j_iload_n (pc' := 84) hC 2 dX4_worth_83 rfl rfl rfl ?_
                refine j_iconst (pc' := 85) (v := (1 : Int32)) hC dX4_worth_84 (by decide) rfl ?_
                refine j_isub (pc' := 86) hC dX4_worth_85 rfl ?_
                refine j_iald (pc' := 87) hC (X_at_11 d _) dX4_worth_86 rfl ?_
                refine j_istore (pc' := 89) (lv' := [(5, .int (a.1.1 11 ((a.2.1 - (1 : Int32))).toNatClampNeg)), (4, .int (a.1.1 10 (a.2.2.2).toNatClampNeg)), (0, .ref (d.2.1 7)), (1, .int a.2.1), (2, .int a.2.2.1), (3, .int a.2.2.2)]) hC dX4_worth_87 (by decide) rfl rfl ?_
                refine j_iload (pc' := 91) hC 1 dX4_worth_89 rfl rfl ?_
                refine j_bipush (pc' := 93) (v := (59 : Int32)) hC dX4_worth_91 (by decide) rfl ?_
                refine j_let 103 (fun a103 => a.1) (fun a103 => [(0, .ref (d.2.1 7)), (1, .int a.2.1), (2, .int a.2.2.1), (3, .int a.2.2.2), (4, .int (a.1.1 10 (a.2.2.2).toNatClampNeg)), (5, .int (a.1.1 11 ((a.2.1 - (1 : Int32))).toNatClampNeg))]) (fun a103 => []) (fun a103 => ?_) (fun j103 hj103 => ?_)
                · refine j_iload (pc' := 105) hC 4 dX4_worth_103 rfl rfl ?_
                  refine j_bipush (pc' := 107) (v := (59 : Int32)) hC dX4_worth_105 (by decide) rfl ?_
                  refine j_let 117 (fun a117 => a.1) (fun a117 => [(0, .ref (d.2.1 7)), (1, .int a.2.1), (3, .int a.2.2.2), (4, .int (a.1.1 10 (a.2.2.2).toNatClampNeg)), (5, .int (a.1.1 11 ((a.2.1 - (1 : Int32))).toNatClampNeg))]) (fun a117 => []) (fun a117 => ?_) (fun j117 hj117 => ?_)
                  · refine j_iload (pc' := 119) hC 3 dX4_worth_117 rfl rfl ?_
                    refine j_bipush (pc' := 121) (v := (59 : Int32)) hC dX4_worth_119 (by decide) rfl ?_
                    refine j_let 134 (fun a134 => a.1) (fun a134 => [(0, .ref (d.2.1 7)), (1, .int a.2.1), (3, .int a.2.2.2)]) (fun a134 => [.int a134]) (fun a134 => ?_) (fun j134 hj134 => ?_)
                    · refine j_istore_n (pc' := 135) (lv' := [(2, .int a134), (0, .ref (d.2.1 7)), (1, .int a.2.1), (3, .int a.2.2.2)]) hC dX4_worth_134 rfl (by decide) rfl rfl ?_
                      refine j_iinc (pc' := 138) (v := (a.2.1 + (-1 : Int32))) (lv' := [(1, .int (a.2.1 + (-1 : Int32))), (2, .int a134), (0, .ref (d.2.1 7)), (3, .int a.2.2.2)]) hC 2 dX4_worth_135 rfl (by decide) rfl rfl rfl ?_
                      refine j_goto (tgt := 220) hC dX4_worth_138 (by decide) ?_
                      exact j_lv (lv' := [(0, .ref (d.2.1 7)), (1, .int (a.2.1 + (-1 : Int32))), (2, .int a134), (3, .int a.2.2.2)]) [2, 0, 1, 3] rfl (hj220 (a.1, (a.2.1 + (-1 : Int32)), a134))
                    · refine j_let 129 (fun a129 => a.1) (fun a129 => [(0, .ref (d.2.1 7)), (1, .int a.2.1), (3, .int a.2.2.2)]) (fun a129 => []) (fun a129 => ?_) (fun j129 hj129 => ?_)
                      · refine j_iconst (pc' := 130) (v := (1 : Int32)) hC dX4_worth_129 (by decide) rfl ?_
                        refine j_goto (tgt := 134) hC dX4_worth_130 (by decide) ?_
                        exact j_lv (lv' := [(0, .ref (d.2.1 7)), (1, .int a.2.1), (3, .int a.2.2.2)]) [0, 1, 2] rfl (hj134 (1 : Int32))
                      · refine j_icmp_eq (pc' := 124) (tgt := 129) hC dX4_worth_121 (by decide) rfl ?_ ?_
                        · exact j_lv (lv' := [(0, .ref (d.2.1 7)), (1, .int a.2.1), (3, .int a.2.2.2)]) [0, 1, 2] rfl (hj129 ())
                        · refine j_iload (pc' := 126) hC 4 dX4_worth_124 rfl rfl ?_
                          refine j_if_eq (pc' := 129) (tgt := 133) hC dX4_worth_126 (by decide) rfl ?_ ?_
                          · refine j_iconst (pc' := 134) (v := (0 : Int32)) hC dX4_worth_133 (by decide) rfl ?_
                            exact j_lv (lv' := [(0, .ref (d.2.1 7)), (1, .int a.2.1), (3, .int a.2.2.2)]) [0, 1, 2] rfl (hj134 (0 : Int32))
                          · exact j_lv (lv' := [(0, .ref (d.2.1 7)), (1, .int a.2.1), (3, .int a.2.2.2)]) [0, 1, 2] rfl (hj129 ())
                  · refine j_icmp_eq (pc' := 110) (tgt := 117) hC dX4_worth_107 (by decide) rfl ?_ ?_
                    · exact j_lv (lv' := [(0, .ref (d.2.1 7)), (1, .int a.2.1), (3, .int a.2.2.2), (4, .int (a.1.1 10 (a.2.2.2).toNatClampNeg)), (5, .int (a.1.1 11 ((a.2.1 - (1 : Int32))).toNatClampNeg))]) [0, 1, 3, 4, 5] rfl (hj117 ())
                    · refine j_iload (pc' := 112) hC 4 dX4_worth_110 rfl rfl ?_
                      refine j_bipush (pc' := 114) (v := (63 : Int32)) hC dX4_worth_112 (by decide) rfl ?_
                      refine j_icmp_ne (pc' := 117) (tgt := 141) hC dX4_worth_114 (by decide) rfl ?_ ?_
                      · refine j_iload (pc' := 143) hC 4 dX4_worth_141 rfl rfl ?_
                        refine j_bipush (pc' := 145) (v := (33 : Int32)) hC dX4_worth_143 (by decide) rfl ?_
                        refine j_let 155 (fun a155 => a.1) (fun a155 => [(0, .ref (d.2.1 7)), (1, .int a.2.1), (2, .int a.2.2.1), (3, .int a.2.2.2), (4, .int (a.1.1 10 (a.2.2.2).toNatClampNeg)), (5, .int (a.1.1 11 ((a.2.1 - (1 : Int32))).toNatClampNeg))]) (fun a155 => []) (fun a155 => ?_) (fun j155 hj155 => ?_)
                        · refine j_aload_n (pc' := 156) hC 0 dX4_worth_155 rfl rfl rfl ?_
                          refine j_get (pc' := 159) hC ly_X4 (X_at_7 d _) rfl 7 (by decide) fl_X4_22 rfl dX4_worth_156 rfl ?_
                          refine j_iload_n (pc' := 160) hC 1 dX4_worth_159 rfl rfl rfl ?_
                          refine j_iconst (pc' := 161) (v := (1 : Int32)) hC dX4_worth_160 (by decide) rfl ?_
                          refine j_isub (pc' := 162) hC dX4_worth_161 rfl ?_
                          refine j_iload (pc' := 164) hC 4 dX4_worth_162 rfl rfl ?_
                          refine j_bipush (pc' := 166) (v := (126 : Int32)) hC dX4_worth_164 (by decide) rfl ?_
                          refine j_let 185 (fun a185 => a.1) (fun a185 => [(0, .ref (d.2.1 7)), (1, .int a.2.1), (2, .int a.2.2.1), (3, .int a.2.2.2)]) (fun a185 => [.int a185, .int (a.2.1 - (1 : Int32)), .ref (d.2.1 11)]) (fun a185 => ?_) (fun j185 hj185 => ?_)
                          · refine j_iast (pc' := 186) hC (X_at_11 d _) (X_sa_11 d _ _) dX4_worth_185 rfl ?_
                            refine j_st (fun σ3 => ?_)
                            refine j_goto (tgt := 220) hC dX4_worth_186 (by decide) ?_
                            exact j_lv (lv' := [(0, .ref (d.2.1 7)), (1, .int a.2.1), (2, .int a.2.2.1), (3, .int a.2.2.2)]) [0, 1, 2, 3] rfl (hj220 (σ3, a.2.1, a.2.2.1))
                          · refine j_icmp_ne (pc' := 169) (tgt := 175) hC dX4_worth_166 (by decide) rfl ?_ ?_
                            · refine j_iload (pc' := 177) hC 5 dX4_worth_175 rfl rfl ?_
                              refine j_if_ne (pc' := 180) (tgt := 184) hC dX4_worth_177 (by decide) rfl ?_ ?_
                              · refine j_iconst (pc' := 185) (v := (0 : Int32)) hC dX4_worth_184 (by decide) rfl ?_
                                exact j_lv (lv' := [(0, .ref (d.2.1 7)), (1, .int a.2.1), (2, .int a.2.2.1), (3, .int a.2.2.2)]) [0, 1, 2, 3] rfl (hj185 (0 : Int32))
                              · refine j_iconst (pc' := 181) (v := (1 : Int32)) hC dX4_worth_180 (by decide) rfl ?_
                                refine j_goto (tgt := 185) hC dX4_worth_181 (by decide) ?_
                                exact j_lv (lv' := [(0, .ref (d.2.1 7)), (1, .int a.2.1), (2, .int a.2.2.1), (3, .int a.2.2.2)]) [0, 1, 2, 3] rfl (hj185 (1 : Int32))
                            · refine j_iload (pc' := 171) hC 5 dX4_worth_169 rfl rfl ?_
                              refine j_ineg (pc' := 172) hC dX4_worth_171 rfl ?_
                              refine j_goto (tgt := 185) hC dX4_worth_172 (by decide) ?_
                              exact j_lv (lv' := [(0, .ref (d.2.1 7)), (1, .int a.2.1), (2, .int a.2.2.1), (3, .int a.2.2.2)]) [0, 1, 2, 3] rfl (hj185 (-(a.1.1 11 ((a.2.1 - (1 : Int32))).toNatClampNeg)))
                        · refine j_icmp_eq (pc' := 148) (tgt := 155) hC dX4_worth_145 (by decide) rfl ?_ ?_
                          · exact j_lv (lv' := [(0, .ref (d.2.1 7)), (1, .int a.2.1), (2, .int a.2.2.1), (3, .int a.2.2.2), (4, .int (a.1.1 10 (a.2.2.2).toNatClampNeg)), (5, .int (a.1.1 11 ((a.2.1 - (1 : Int32))).toNatClampNeg))]) [0, 1, 2, 3, 4, 5] rfl (hj155 ())
                          · refine j_iload (pc' := 150) hC 4 dX4_worth_148 rfl rfl ?_
                            refine j_bipush (pc' := 152) (v := (126 : Int32)) hC dX4_worth_150 (by decide) rfl ?_
                            refine j_icmp_ne (pc' := 155) (tgt := 189) hC dX4_worth_152 (by decide) rfl ?_ ?_
                            · refine j_iload_n (pc' := 190) hC 1 dX4_worth_189 rfl rfl rfl ?_
                              refine j_iconst (pc' := 191) (v := (2 : Int32)) hC dX4_worth_190 (by decide) rfl ?_
                              refine j_icmp_lt (pc' := 194) (tgt := 220) hC dX4_worth_191 (by decide) rfl ?_ ?_
                              · exact j_lv (lv' := [(0, .ref (d.2.1 7)), (1, .int a.2.1), (2, .int a.2.2.1), (3, .int a.2.2.2)]) [0, 1, 2, 3] rfl (hj220 (a.1, a.2.1, a.2.2.1))
                              · refine j_iinc (pc' := 197) (v := (a.2.1 + (-1 : Int32))) (lv' := [(1, .int (a.2.1 + (-1 : Int32))), (0, .ref (d.2.1 7)), (2, .int a.2.2.1), (3, .int a.2.2.2), (4, .int (a.1.1 10 (a.2.2.2).toNatClampNeg)), (5, .int (a.1.1 11 ((a.2.1 - (1 : Int32))).toNatClampNeg))]) hC 1 dX4_worth_194 rfl (by decide) rfl rfl rfl ?_
                                refine j_aload_n (pc' := 198) hC 1 dX4_worth_197 rfl rfl rfl ?_
                                refine j_get (pc' := 201) hC ly_X4 (X_at_7 d _) rfl 7 (by decide) fl_X4_22 rfl dX4_worth_198 rfl ?_
                                refine j_iload_n (pc' := 202) hC 0 dX4_worth_201 rfl rfl rfl ?_
                                refine j_iconst (pc' := 203) (v := (1 : Int32)) hC dX4_worth_202 (by decide) rfl ?_
                                refine j_isub (pc' := 204) hC dX4_worth_203 rfl ?_
                                refine j_iload (pc' := 206) hC 4 dX4_worth_204 rfl rfl ?_
                                refine j_aload_n (pc' := 207) hC 1 dX4_worth_206 rfl rfl rfl ?_
                                refine j_get (pc' := 210) hC ly_X4 (X_at_7 d _) rfl 7 (by decide) fl_X4_22 rfl dX4_worth_207 rfl ?_
                                refine j_iload_n (pc' := 211) hC 0 dX4_worth_210 rfl rfl rfl ?_
                                refine j_iconst (pc' := 212) (v := (1 : Int32)) hC dX4_worth_211 (by decide) rfl ?_
                                refine j_isub (pc' := 213) hC dX4_worth_212 rfl ?_
                                refine j_iald (pc' := 214) hC (X_at_11 d _) dX4_worth_213 rfl ?_
                                refine j_iload (pc' := 216) hC 5 dX4_worth_214 rfl rfl ?_
                                refine j_callS_ir (pc' := 219) (As := [.int (a.1.1 10 (a.2.2.2).toNatClampNeg), .int (a.1.1 11 (((a.2.1 + (-1 : Int32)) - (1 : Int32))).toNatClampNeg), .int (a.1.1 11 ((a.2.1 - (1 : Int32))).toNatClampNeg)]) (st := [.int ((a.2.1 + (-1 : Int32)) - (1 : Int32)), .ref (d.2.1 11)]) hC (kX4_joined l d A _ _ _ _) (jgS ml_X4_105 st_X4_joined in_X4 cd_X4_joined) rfl rfl rfl hyS_X4_joined ⟨Nat.le_of_ble_eq_true rfl, Nat.le_of_ble_eq_true rfl⟩ rfl rfl (Nat.le_of_ble_eq_true rfl) dX4_worth_216 rfl (fun q4 => ?_)
                                refine j_iast (pc' := 220) hC (X_at_11 d _) (X_sa_11 d _ _) dX4_worth_219 rfl ?_
                                refine j_st (fun σ5 => ?_)
                                exact j_lv (lv' := [(0, .ref (d.2.1 7)), (1, .int (a.2.1 + (-1 : Int32))), (2, .int a.2.2.1), (3, .int a.2.2.2)]) [1, 0, 2, 3] rfl (hj220 (σ5, (a.2.1 + (-1 : Int32)), a.2.2.1))
                            · exact j_lv (lv' := [(0, .ref (d.2.1 7)), (1, .int a.2.1), (2, .int a.2.2.1), (3, .int a.2.2.2), (4, .int (a.1.1 10 (a.2.2.2).toNatClampNeg)), (5, .int (a.1.1 11 ((a.2.1 - (1 : Int32))).toNatClampNeg))]) [0, 1, 2, 3, 4, 5] rfl (hj155 ())
                      · exact j_lv (lv' := [(0, .ref (d.2.1 7)), (1, .int a.2.1), (3, .int a.2.2.2), (4, .int (a.1.1 10 (a.2.2.2).toNatClampNeg)), (5, .int (a.1.1 11 ((a.2.1 - (1 : Int32))).toNatClampNeg))]) [0, 1, 3, 4, 5] rfl (hj117 ())
                · refine j_icmp_ne (pc' := 96) (tgt := 103) hC dX4_worth_93 (by decide) rfl ?_ ?_
                  · exact j_lv (lv' := [(0, .ref (d.2.1 7)), (1, .int a.2.1), (2, .int a.2.2.1), (3, .int a.2.2.2), (4, .int (a.1.1 10 (a.2.2.2).toNatClampNeg)), (5, .int (a.1.1 11 ((a.2.1 - (1 : Int32))).toNatClampNeg))]) [2, 3, 4, 5, 1, 0] rfl (hj103 ())
                  · refine j_iload_n (pc' := 97) hC 4 dX4_worth_96 rfl rfl rfl ?_
                    refine j_if_eq (pc' := 100) (tgt := 103) hC dX4_worth_97 (by decide) rfl ?_ ?_
                    · exact j_lv (lv' := [(0, .ref (d.2.1 7)), (1, .int a.2.1), (2, .int a.2.2.1), (3, .int a.2.2.2), (4, .int (a.1.1 10 (a.2.2.2).toNatClampNeg)), (5, .int (a.1.1 11 ((a.2.1 - (1 : Int32))).toNatClampNeg))]) [2, 3, 4, 5, 1, 0] rfl (hj103 ())
                    · refine j_iload (pc' := 102) hC 0 dX4_worth_100 rfl rfl ?_
                      exact j_ret_i hC dX4_worth_102
              · refine j_iconst (pc' := 78) (v := (0 : Int32)) hC dX4_worth_77 (by decide) rfl ?_
                exact j_ret_i hC dX4_worth_78
          · exact j_lv (lv' := [(0, .ref (d.2.1 7)), (1, .int a.2.1), (2, .int a.2.2.1), (3, .int a.2.2.2), (4, .int (a.1.1 10 (a.2.2.2).toNatClampNeg))]) [1, 2, 3, 4, 0] rfl (hj35 ())
theorem hyV_X4_lasting : yX4_lasting.cls = RX4 ∧ yX4_lasting.cls ≠ "java/lang/invoke/MethodHandle" ∧ yX4_lasting.cls ≠ "java/lang/invoke/VarHandle" ∧ (parseMethodDescriptor yX4_lasting.desc).map (fun d => d.parameters.length) = some 6 := ⟨rfl, by decide +kernel, by decide +kernel, by decide +kernel⟩
noncomputable def fX4_lasting (σ : jS) (p1 : Int32) (p2 : Int32) (p3 : Int32) (p4 : Int32) (p5 : Int32) (p6 : Int32) : Option (Int32 × jS) :=
  (if (σ.1 7 6) = 0 then (some (((p2 + (p1 / (3 : Int32))) + (1 : Int32)), σ)) else (ob (0 : Int32) 6 (jst (ju σ 12 ((0 : Int32)).toNatClampNeg p1) fun (σ1 : jS) => (ob (1 : Int32) 6 (jst (ju σ1 12 ((1 : Int32)).toNatClampNeg p2) fun (σ2 : jS) => (ob (2 : Int32) 6 (jst (ju σ2 12 ((2 : Int32)).toNatClampNeg p3) fun (σ3 : jS) => (ob (3 : Int32) 6 (jst (ju σ3 12 ((3 : Int32)).toNatClampNeg p4) fun (σ4 : jS) => (ob (4 : Int32) 6 (jst (ju σ4 12 ((4 : Int32)).toNatClampNeg p5) fun (σ5 : jS) => (ob (5 : Int32) 6 (jst (ju σ5 12 ((5 : Int32)).toNatClampNeg p6) fun (σ6 : jS) => (Option.bind (fX4_worth σ6) fun (q7 : (Int32 × jS)) => (some ((if (1 : Int32) < (if q7.1 < (20 : Int32) then q7.1 else (20 : Int32)) then (if q7.1 < (20 : Int32) then q7.1 else (20 : Int32)) else (1 : Int32)), q7.2))))))))))))))))
set_option maxRecDepth 100000 in
set_option maxHeartbeats 4000000 in
theorem kX4_lasting (l : Launch) (d : jD) (A : Nat → Prop) (σ : jS) (p1 : Int32) (p2 : Int32) (p3 : Int32) (p4 : Int32) (p5 : Int32) (p6 : Int32) : jMi l yX4_lasting (jws yX4_lasting cX4_lasting 7 (some (.int))) { frames := 4, cells := 0, slots := 0, locals := 177 } d wX A [.ref (d.2.1 7), .int p1, .int p2, .int p3, .int p4, .int p5, .int p6] σ (fX4_lasting σ p1 p2 p3 p4 p5 p6) := by
  refine jStart_i (lv0 := [(0, .ref (d.2.1 7)), (1, .int p1), (2, .int p2), (3, .int p3), (4, .int p4), (5, .int p5), (6, .int p6)]) (by decide) rfl (Nat.le_of_ble_eq_true rfl) rfl (fun z hC res => ?_)
  unfold fX4_lasting
  refine j_aload_n (pc' := 1) hC 0 dX4_lasting_0 rfl rfl rfl ?_
  refine j_get (pc' := 4) hC ly_X4 (X_at_7 d _) rfl 6 (by decide) fl_X4_52 rfl dX4_lasting_1 rfl ?_
  refine j_if_ne (pc' := 7) (tgt := 15) hC dX4_lasting_4 (by decide) rfl ?_ ?_
  · refine j_aload_n (pc' := 16) hC 0 dX4_lasting_15 rfl rfl rfl ?_
    refine j_get (pc' := 19) hC ly_X4 (X_at_7 d _) rfl 8 (by decide) fl_X4_25 rfl dX4_lasting_16 rfl ?_
    refine j_iconst (pc' := 20) (v := (0 : Int32)) hC dX4_lasting_19 (by decide) rfl ?_
    refine j_iload_n (pc' := 21) hC 1 dX4_lasting_20 rfl rfl rfl ?_
    refine j_iast (pc' := 22) hC (X_at_12 d _) (X_sa_12 d _ _) dX4_lasting_21 rfl ?_
    refine j_st (fun σ1 => ?_)
    refine j_aload_n (pc' := 23) hC 0 dX4_lasting_22 rfl rfl rfl ?_
    refine j_get (pc' := 26) hC ly_X4 (X_at_7 d _) rfl 8 (by decide) fl_X4_25 rfl dX4_lasting_23 rfl ?_
    refine j_iconst (pc' := 27) (v := (1 : Int32)) hC dX4_lasting_26 (by decide) rfl ?_
    refine j_iload_n (pc' := 28) hC 2 dX4_lasting_27 rfl rfl rfl ?_
    refine j_iast (pc' := 29) hC (X_at_12 d _) (X_sa_12 d _ _) dX4_lasting_28 rfl ?_
    refine j_st (fun σ2 => ?_)
    refine j_aload_n (pc' := 30) hC 0 dX4_lasting_29 rfl rfl rfl ?_
    refine j_get (pc' := 33) hC ly_X4 (X_at_7 d _) rfl 8 (by decide) fl_X4_25 rfl dX4_lasting_30 rfl ?_
    refine j_iconst (pc' := 34) (v := (2 : Int32)) hC dX4_lasting_33 (by decide) rfl ?_
    refine j_iload_n (pc' := 35) hC 3 dX4_lasting_34 rfl rfl rfl ?_
    refine j_iast (pc' := 36) hC (X_at_12 d _) (X_sa_12 d _ _) dX4_lasting_35 rfl ?_
    refine j_st (fun σ3 => ?_)
    refine j_aload_n (pc' := 37) hC 0 dX4_lasting_36 rfl rfl rfl ?_
    refine j_get (pc' := 40) hC ly_X4 (X_at_7 d _) rfl 8 (by decide) fl_X4_25 rfl dX4_lasting_37 rfl ?_
    refine j_iconst (pc' := 41) (v := (3 : Int32)) hC dX4_lasting_40 (by decide) rfl ?_
    refine j_iload (pc' := 43) hC 4 dX4_lasting_41 rfl rfl ?_
    refine j_iast (pc' := 44) hC (X_at_12 d _) (X_sa_12 d _ _) dX4_lasting_43 rfl ?_
    refine j_st (fun σ4 => ?_)
    refine j_aload_n (pc' := 45) hC 0 dX4_lasting_44 rfl rfl rfl ?_
    refine j_get (pc' := 48) hC ly_X4 (X_at_7 d _) rfl 8 (by decide) fl_X4_25 rfl dX4_lasting_45 rfl ?_
    refine j_iconst (pc' := 49) (v := (4 : Int32)) hC dX4_lasting_48 (by decide) rfl ?_
    refine j_iload (pc' := 51) hC 5 dX4_lasting_49 rfl rfl ?_
    refine j_iast (pc' := 52) hC (X_at_12 d _) (X_sa_12 d _ _) dX4_lasting_51 rfl ?_
    refine j_st (fun σ5 => ?_)
    refine j_aload_n (pc' := 53) hC 0 dX4_lasting_52 rfl rfl rfl ?_
    refine j_get (pc' := 56) hC ly_X4 (X_at_7 d _) rfl 8 (by decide) fl_X4_25 rfl dX4_lasting_53 rfl ?_
    refine j_iconst (pc' := 57) (v := (5 : Int32)) hC dX4_lasting_56 (by decide) rfl ?_
    refine j_iload (pc' := 59) hC 6 dX4_lasting_57 rfl rfl ?_
    refine j_iast (pc' := 60) hC (X_at_12 d _) (X_sa_12 d _ _) dX4_lasting_59 rfl ?_
    refine j_st (fun σ6 => ?_)
    refine j_iconst (pc' := 61) (v := (1 : Int32)) hC dX4_lasting_60 (by decide) rfl ?_
    refine j_bipush (pc' := 63) (v := (20 : Int32)) hC dX4_lasting_61 (by decide) rfl ?_
    refine j_aload_n (pc' := 64) hC 0 dX4_lasting_63 rfl rfl rfl ?_
    refine j_callV_i (pc' := 67) (As := []) (st := [.int (20 : Int32), .int (1 : Int32)]) hC (X_at_7 d _) rfl (kX4_worth l d A _) (jgV ml_X4_87 im_X4_worth se_X4_worth in_X4 cd_X4_worth) rfl rfl rfl hyV_X4_worth ⟨Nat.le_of_ble_eq_true rfl, Nat.le_of_ble_eq_true rfl⟩ rfl rfl (Nat.le_of_ble_eq_true rfl) dX4_lasting_64 rfl (fun q7 => ?_)
    refine j_mmin (pc' := 70) hC ml_X4_90 st_mmin in_J9 cd_mmin (Nat.le_of_ble_eq_true rfl) (Nat.le_of_ble_eq_true rfl) dX4_lasting_67 rfl ?_
    refine j_mmax (pc' := 73) hC ml_X4_96 st_mmax in_J9 cd_mmax (Nat.le_of_ble_eq_true rfl) (Nat.le_of_ble_eq_true rfl) dX4_lasting_70 rfl ?_
    exact j_ret_i hC dX4_lasting_73
  · refine j_iload_n (pc' := 8) hC 2 dX4_lasting_7 rfl rfl rfl ?_
    refine j_iload_n (pc' := 9) hC 1 dX4_lasting_8 rfl rfl rfl ?_
    refine j_iconst (pc' := 10) (v := (3 : Int32)) hC dX4_lasting_9 (by decide) rfl ?_
    refine j_idiv0 (pc' := 11) hC dX4_lasting_10 (by decide) rfl ?_
    refine j_iadd (pc' := 12) hC dX4_lasting_11 rfl ?_
    refine j_iconst (pc' := 13) (v := (1 : Int32)) hC dX4_lasting_12 (by decide) rfl ?_
    refine j_iadd (pc' := 14) hC dX4_lasting_13 rfl ?_
    exact j_ret_i hC dX4_lasting_14
