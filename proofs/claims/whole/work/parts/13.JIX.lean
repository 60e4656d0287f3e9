def jTxt : Nat → Int32 := fun j => (([[104, 115, 119, 114, 113, 112]] : List (List Int32)).getD 0 []).getD j 0
theorem hyS_J1_canEncode_9a6ad : yJ1_canEncode_9a6ad.cls ≠ "java/lang/invoke/MethodHandle" ∧ yJ1_canEncode_9a6ad.cls ≠ "java/lang/invoke/VarHandle" ∧ (parseMethodDescriptor yJ1_canEncode_9a6ad.desc).map (fun d => d.parameters.length) = some 1 := ⟨by decide +kernel, by decide +kernel, by decide +kernel⟩
noncomputable def fJ1_canEncode_9a6ad (σ : jS) (p1 : Int32) : Option (Int32) :=
  (if p1 < 0 then (some (0 : Int32)) else (if (255 : Int32) < p1 then (some (0 : Int32)) else (some (1 : Int32))))
set_option maxRecDepth 100000 in
set_option maxHeartbeats 4000000 in
theorem kJ1_canEncode_9a6ad (l : Launch) (d : jD) (A : Nat → Prop) (σ : jS) (p1 : Int32) : jMzr l yJ1_canEncode_9a6ad (jws yJ1_canEncode_9a6ad cJ1_canEncode_9a6ad 1 (some (.boolean))) { frames := 2, cells := 0, slots := 0, locals := 130 } d wX A [.int p1] σ (fJ1_canEncode_9a6ad σ p1) := by
  refine jStart_zr (lv0 := [(0, .int p1)]) (by decide) rfl (Nat.le_of_ble_eq_true rfl) rfl (fun z hC res => ?_)
  unfold fJ1_canEncode_9a6ad
  refine j_iload_n (pc' := 1) hC 0 dJ1_canEncode_9a6ad_0 rfl rfl rfl ?_
  refine j_if_lt (pc' := 4) (tgt := 15) hC dJ1_canEncode_9a6ad_1 (by decide) rfl ?_ ?_
  · refine j_iconst (pc' := 16) (v := (0 : Int32)) hC dJ1_canEncode_9a6ad_15 (by decide) rfl ?_
    exact j_ret_zr hC (by decide) dJ1_canEncode_9a6ad_16
  · refine j_iload_n (pc' := 5) hC 0 dJ1_canEncode_9a6ad_4 rfl rfl rfl ?_
    refine j_sipush (pc' := 8) (v := (255 : Int32)) hC dJ1_canEncode_9a6ad_5 (by decide) rfl ?_
    refine j_icmp_gt (pc' := 11) (tgt := 15) hC dJ1_canEncode_9a6ad_8 (by decide) rfl ?_ ?_
    · refine j_iconst (pc' := 16) (v := (0 : Int32)) hC dJ1_canEncode_9a6ad_15 (by decide) rfl ?_
      exact j_ret_zr hC (by decide) dJ1_canEncode_9a6ad_16
    · refine j_iconst (pc' := 12) (v := (1 : Int32)) hC dJ1_canEncode_9a6ad_11 (by decide) rfl ?_
      refine j_goto (tgt := 16) hC dJ1_canEncode_9a6ad_12 (by decide) ?_
      exact j_ret_zr hC (by decide) dJ1_canEncode_9a6ad_16
theorem hyS_J1_indexOfChar_4cfef : yJ1_indexOfChar_4cfef.cls ≠ "java/lang/invoke/MethodHandle" ∧ yJ1_indexOfChar_4cfef.cls ≠ "java/lang/invoke/VarHandle" ∧ (parseMethodDescriptor yJ1_indexOfChar_4cfef.desc).map (fun d => d.parameters.length) = some 4 := ⟨by decide +kernel, by decide +kernel, by decide +kernel⟩
noncomputable def fJ1_indexOfChar_4cfef_B7 (p2 : Int32) (p4 : Int32) (s7 : Int32 → Option (Int32)) (a : Int32) : Option (Int32) :=
  (if p4 ≤ a then (some (-1 : Int32)) else (ob a 6 (if (jTxt (a).toNatClampNeg) = (p2.toInt8.toInt32) then (some a) else (s7 (a + (1 : Int32))))))
noncomputable def fJ1_indexOfChar_4cfef (σ : jS) (p2 : Int32) (p3 : Int32) (p4 : Int32) : Option (Int32) :=
  (jloop (fJ1_indexOfChar_4cfef_B7 p2 p4) jN p3)
set_option maxRecDepth 100000 in
set_option maxHeartbeats 4000000 in
theorem kJ1_indexOfChar_4cfef (l : Launch) (d : jD) (A : Nat → Prop) (σ : jS) (p2 : Int32) (p3 : Int32) (p4 : Int32) : jMir l yJ1_indexOfChar_4cfef (jws yJ1_indexOfChar_4cfef cJ1_indexOfChar_4cfef 6 (some (.int))) { frames := 2, cells := 0, slots := 0, locals := 130 } d wX A [.ref (d.2.2.2 5), .int p2, .int p3, .int p4] σ (fJ1_indexOfChar_4cfef σ p2 p3 p4) := by
  refine jStart_ir (lv0 := [(0, .ref (d.2.2.2 5)), (1, .int p2), (2, .int p3), (3, .int p4)]) (by decide) rfl (Nat.le_of_ble_eq_true rfl) rfl (fun z hC res => ?_)
  unfold fJ1_indexOfChar_4cfef
  refine j_iload_n (pc' := 1) hC 1 dJ1_indexOfChar_4cfef_0 rfl rfl rfl ?_
  refine j_i2b (pc' := 2) hC dJ1_indexOfChar_4cfef_1 rfl ?_
  refine j_istore (pc' := 4) (lv' := [(4, .int (p2.toInt8.toInt32)), (0, .ref (d.2.2.2 5)), (1, .int p2), (2, .int p3), (3, .int p4)]) hC dJ1_indexOfChar_4cfef_2 (by decide) rfl rfl ?_
  refine j_iload_n (pc' := 5) hC 3 dJ1_indexOfChar_4cfef_4 rfl rfl rfl ?_
  refine j_istore (pc' := 7) (lv' := [(5, .int p3), (4, .int (p2.toInt8.toInt32)), (0, .ref (d.2.2.2 5)), (1, .int p2), (2, .int p3), (3, .int p4)]) hC dJ1_indexOfChar_4cfef_5 (by decide) rfl rfl ?_
  refine j_lv (lv' := [(0, .ref (d.2.2.2 5)), (3, .int p4), (4, .int (p2.toInt8.toInt32)), (5, .int p3)]) [2, 5, 1, 0] rfl ?_
  refine j_loop 7 (fun a => σ) (fun a => [(0, .ref (d.2.2.2 5)), (3, .int p4), (4, .int (p2.toInt8.toInt32)), (5, .int a)]) (fun s7 hs7 a => ?_) jN p3
  unfold fJ1_indexOfChar_4cfef_B7
  refine j_iload (pc' := 9) hC 3 dJ1_indexOfChar_4cfef_7 rfl rfl ?_
  refine j_iload_n (pc' := 10) hC 1 dJ1_indexOfChar_4cfef_9 rfl rfl rfl ?_
  refine j_icmp_ge (pc' := 13) (tgt := 31) hC dJ1_indexOfChar_4cfef_10 (by decide) rfl ?_ ?_
  · refine j_iconst (pc' := 32) (v := (-1 : Int32)) hC dJ1_indexOfChar_4cfef_31 (by decide) rfl ?_
    exact j_ret_ir hC dJ1_indexOfChar_4cfef_32
  · refine j_aload_n (pc' := 14) hC 0 dJ1_indexOfChar_4cfef_13 rfl rfl rfl ?_
    refine j_iload (pc' := 16) hC 3 dJ1_indexOfChar_4cfef_14 rfl rfl ?_
    refine j_tb (pc' := 17) (f := jTxt) hC (hC.2.2.2.2.2.2.1.2.2.2.2.2.1.1 0 (by decide)).2.2.2 dJ1_indexOfChar_4cfef_16 rfl ?_
    refine j_iload (pc' := 19) hC 2 dJ1_indexOfChar_4cfef_17 rfl rfl ?_
    refine j_icmp_ne (pc' := 22) (tgt := 25) hC dJ1_indexOfChar_4cfef_19 (by decide) rfl ?_ ?_
    · refine j_iinc (pc' := 28) (v := (a + (1 : Int32))) (lv' := [(5, .int (a + (1 : Int32))), (0, .ref (d.2.2.2 5)), (3, .int p4), (4, .int (p2.toInt8.toInt32))]) hC 3 dJ1_indexOfChar_4cfef_25 rfl (by decide) rfl rfl rfl ?_
      refine j_goto (tgt := 7) hC dJ1_indexOfChar_4cfef_28 (by decide) ?_
      exact j_lv (lv' := [(0, .ref (d.2.2.2 5)), (3, .int p4), (4, .int (p2.toInt8.toInt32)), (5, .int (a + (1 : Int32)))]) [1, 2, 3, 0] rfl (hs7 (a + (1 : Int32)))
    · refine j_iload (pc' := 24) hC 3 dJ1_indexOfChar_4cfef_22 rfl rfl ?_
      exact j_ret_ir hC dJ1_indexOfChar_4cfef_24
theorem hyS_J1_indexOf_4cfef : yJ1_indexOf_4cfef.cls ≠ "java/lang/invoke/MethodHandle" ∧ yJ1_indexOf_4cfef.cls ≠ "java/lang/invoke/VarHandle" ∧ (parseMethodDescriptor yJ1_indexOf_4cfef.desc).map (fun d => d.parameters.length) = some 4 := ⟨by decide +kernel, by decide +kernel, by decide +kernel⟩
noncomputable def fJ1_indexOf_4cfef (σ : jS) (p2 : Int32) (p3 : Int32) (p4 : Int32) : Option (Int32) :=
  (Option.bind (fJ1_canEncode_9a6ad σ p2) fun (q1 : Int32) => (if (jb q1) = 0 then (some (-1 : Int32)) else (if (if p3 < (0 : Int32) then (0 : Int32) else p3) < (if (6 : Int32) < p4 then (6 : Int32) else p4) then (Option.bind (fJ1_indexOfChar_4cfef σ p2 (if p3 < (0 : Int32) then (0 : Int32) else p3) (if (6 : Int32) < p4 then (6 : Int32) else p4)) fun (q2 : Int32) => (some q2)) else (some (-1 : Int32)))))
set_option maxRecDepth 100000 in
set_option maxHeartbeats 4000000 in
theorem kJ1_indexOf_4cfef (l : Launch) (d : jD) (A : Nat → Prop) (σ : jS) (p2 : Int32) (p3 : Int32) (p4 : Int32) : jMir l yJ1_indexOf_4cfef (jws yJ1_indexOf_4cfef cJ1_indexOf_4cfef 4 (some (.int))) { frames := 3, cells := 0, slots := 0, locals := 155 } d wX A [.ref (d.2.2.2 5), .int p2, .int p3, .int p4] σ (fJ1_indexOf_4cfef σ p2 p3 p4) := by
  refine jStart_ir (lv0 := [(0, .ref (d.2.2.2 5)), (1, .int p2), (2, .int p3), (3, .int p4)]) (by decide) rfl (Nat.le_of_ble_eq_true rfl) rfl (fun z hC res => ?_)
  unfold fJ1_indexOf_4cfef
  refine j_iload_n (pc' := 1) hC 1 dJ1_indexOf_4cfef_0 rfl rfl rfl ?_
  refine j_callS_zr (pc' := 4) (As := [.int p2]) (st := []) hC (kJ1_canEncode_9a6ad l d A _ _) (jgS ml_J1_88 st_J1_canEncode_9a6ad in_J1 cd_J1_canEncode_9a6ad) rfl rfl rfl hyS_J1_canEncode_9a6ad ⟨Nat.le_of_ble_eq_true rfl, Nat.le_of_ble_eq_true rfl⟩ rfl rfl (Nat.le_of_ble_eq_true rfl) dJ1_indexOf_4cfef_1 rfl (fun q1 => ?_)
  refine j_if_ne (pc' := 7) (tgt := 9) hC dJ1_indexOf_4cfef_4 (by decide) rfl ?_ ?_
  · refine j_iload_n (pc' := 10) hC 2 dJ1_indexOf_4cfef_9 rfl rfl rfl ?_
    refine j_iconst (pc' := 11) (v := (0 : Int32)) hC dJ1_indexOf_4cfef_10 (by decide) rfl ?_
    refine j_mmax (pc' := 14) hC ml_J1_92 st_mmax in_J9 cd_mmax (Nat.le_of_ble_eq_true rfl) (Nat.le_of_ble_eq_true rfl) dJ1_indexOf_4cfef_11 rfl ?_
    refine j_istore_n (pc' := 15) (lv' := [(2, .int (if p3 < (0 : Int32) then (0 : Int32) else p3)), (0, .ref (d.2.2.2 5)), (1, .int p2), (3, .int p4)]) hC dJ1_indexOf_4cfef_14 rfl (by decide) rfl rfl ?_
    refine j_iload_n (pc' := 16) hC 3 dJ1_indexOf_4cfef_15 rfl rfl rfl ?_
    refine j_aload_n (pc' := 17) hC 1 dJ1_indexOf_4cfef_16 rfl rfl rfl ?_
    refine j_tlen (pc' := 18) (v := (6 : Int32)) hC (hC.2.2.2.2.2.2.1.2.2.2.2.2.1.1 0 (by decide)).2.2.2 rfl dJ1_indexOf_4cfef_17 rfl ?_
    refine j_mmin (pc' := 21) hC ml_J1_38 st_mmin in_J9 cd_mmin (Nat.le_of_ble_eq_true rfl) (Nat.le_of_ble_eq_true rfl) dJ1_indexOf_4cfef_18 rfl ?_
    refine j_istore_n (pc' := 22) (lv' := [(3, .int (if (6 : Int32) < p4 then (6 : Int32) else p4)), (2, .int (if p3 < (0 : Int32) then (0 : Int32) else p3)), (0, .ref (d.2.2.2 5)), (1, .int p2)]) hC dJ1_indexOf_4cfef_21 rfl (by decide) rfl rfl ?_
    refine j_iload_n (pc' := 23) hC 1 dJ1_indexOf_4cfef_22 rfl rfl rfl ?_
    refine j_iload_n (pc' := 24) hC 0 dJ1_indexOf_4cfef_23 rfl rfl rfl ?_
    refine j_icmp_lt (pc' := 27) (tgt := 29) hC dJ1_indexOf_4cfef_24 (by decide) rfl ?_ ?_
    · refine j_aload_n (pc' := 30) hC 2 dJ1_indexOf_4cfef_29 rfl rfl rfl ?_
      refine j_iload_n (pc' := 31) hC 3 dJ1_indexOf_4cfef_30 rfl rfl rfl ?_
      refine j_iload_n (pc' := 32) hC 1 dJ1_indexOf_4cfef_31 rfl rfl rfl ?_
      refine j_iload_n (pc' := 33) hC 0 dJ1_indexOf_4cfef_32 rfl rfl rfl ?_
      refine j_callS_ir (pc' := 36) (As := [.ref (d.2.2.2 5), .int p2, .int (if p3 < (0 : Int32) then (0 : Int32) else p3), .int (if (6 : Int32) < p4 then (6 : Int32) else p4)]) (st := []) hC (kJ1_indexOfChar_4cfef l d A _ _ _ _) (jgS ml_J1_95 st_J1_indexOfChar_4cfef in_J1 cd_J1_indexOfChar_4cfef) rfl rfl rfl hyS_J1_indexOfChar_4cfef ⟨Nat.le_of_ble_eq_true rfl, Nat.le_of_ble_eq_true rfl⟩ rfl rfl (Nat.le_of_ble_eq_true rfl) dJ1_indexOf_4cfef_33 rfl (fun q2 => ?_)
      exact j_ret_ir hC dJ1_indexOf_4cfef_36
    · refine j_iconst (pc' := 28) (v := (-1 : Int32)) hC dJ1_indexOf_4cfef_27 (by decide) rfl ?_
      exact j_ret_ir hC dJ1_indexOf_4cfef_28
  · refine j_iconst (pc' := 8) (v := (-1 : Int32)) hC dJ1_indexOf_4cfef_7 (by decide) rfl ?_
    exact j_ret_ir hC dJ1_indexOf_4cfef_8
theorem hyV_J0_coder_7d493 : yJ0_coder_7d493.cls = RJ0 ∧ yJ0_coder_7d493.cls ≠ "java/lang/invoke/MethodHandle" ∧ yJ0_coder_7d493.cls ≠ "java/lang/invoke/VarHandle" ∧ (parseMethodDescriptor yJ0_coder_7d493.desc).map (fun d => d.parameters.length) = some 0 := ⟨rfl, by decide +kernel, by decide +kernel, by decide +kernel⟩
noncomputable def fJ0_coder_7d493 (σ : jS) : Option (Int32) :=
  (if (1 : Int32) = 0 then (some (1 : Int32)) else (some (0 : Int32)))
set_option maxRecDepth 100000 in
set_option maxHeartbeats 4000000 in
theorem kJ0_coder_7d493 (l : Launch) (d : jD) (A : Nat → Prop) (σ : jS) : jMbr l yJ0_coder_7d493 (jws yJ0_coder_7d493 cJ0_coder_7d493 1 (some (.byte))) { frames := 2, cells := 0, slots := 0, locals := 130 } d wX A [.ref (d.2.2.2 4)] σ (fJ0_coder_7d493 σ) := by
  refine jStart_br (lv0 := [(0, .ref (d.2.2.2 4))]) (by decide) rfl (Nat.le_of_ble_eq_true rfl) rfl (fun z hC res => ?_)
  unfold fJ0_coder_7d493
  refine j_getsZ (pc' := 3) hC hC.2.2.2.2.2.2.1.2.2.2.2.2.2 fl_J0_38 dJ0_coder_7d493_0 rfl ?_
  refine j_if_eq (pc' := 6) (tgt := 13) hC dJ0_coder_7d493_3 (by decide) rfl ?_ ?_
  · refine j_iconst (pc' := 14) (v := (1 : Int32)) hC dJ0_coder_7d493_13 (by decide) rfl ?_
    exact j_ret_br hC rfl dJ0_coder_7d493_14
  · refine j_aload_n (pc' := 7) hC 0 dJ0_coder_7d493_6 rfl rfl rfl ?_
    refine j_strf (pc' := 10) hC (hC.2.2.2.2.2.2.1.2.2.2.2.2.1.1 0 (by decide)).2.1 fl_J0_15 dJ0_coder_7d493_7 rfl ?_
    refine j_goto (tgt := 14) hC dJ0_coder_7d493_10 (by decide) ?_
    exact j_ret_br hC rfl dJ0_coder_7d493_14
theorem hyV_J0_isLatin1_aae02 : yJ0_isLatin1_aae02.cls = RJ0 ∧ yJ0_isLatin1_aae02.cls ≠ "java/lang/invoke/MethodHandle" ∧ yJ0_isLatin1_aae02.cls ≠ "java/lang/invoke/VarHandle" ∧ (parseMethodDescriptor yJ0_isLatin1_aae02.desc).map (fun d => d.parameters.length) = some 0 := ⟨rfl, by decide +kernel, by decide +kernel, by decide +kernel⟩
noncomputable def fJ0_isLatin1_aae02 (σ : jS) : Option (Int32) :=
  (if (1 : Int32) = 0 then (some (0 : Int32)) else (if (0 : Int32) = 0 then (some (1 : Int32)) else (some (0 : Int32))))
set_option maxRecDepth 100000 in
set_option maxHeartbeats 4000000 in
theorem kJ0_isLatin1_aae02 (l : Launch) (d : jD) (A : Nat → Prop) (σ : jS) : jMzr l yJ0_isLatin1_aae02 (jws yJ0_isLatin1_aae02 cJ0_isLatin1_aae02 1 (some (.boolean))) { frames := 2, cells := 0, slots := 0, locals := 130 } d wX A [.ref (d.2.2.2 4)] σ (fJ0_isLatin1_aae02 σ) := by
  refine jStart_zr (lv0 := [(0, .ref (d.2.2.2 4))]) (by decide) rfl (Nat.le_of_ble_eq_true rfl) rfl (fun z hC res => ?_)
  unfold fJ0_isLatin1_aae02
  refine j_getsZ (pc' := 3) hC hC.2.2.2.2.2.2.1.2.2.2.2.2.2 fl_J0_38 dJ0_isLatin1_aae02_0 rfl ?_
  refine j_if_eq (pc' := 6) (tgt := 17) hC dJ0_isLatin1_aae02_3 (by decide) rfl ?_ ?_
  · refine j_iconst (pc' := 18) (v := (0 : Int32)) hC dJ0_isLatin1_aae02_17 (by decide) rfl ?_
    exact j_ret_zr hC (by decide) dJ0_isLatin1_aae02_18
  · refine j_aload_n (pc' := 7) hC 0 dJ0_isLatin1_aae02_6 rfl rfl rfl ?_
    refine j_strf (pc' := 10) hC (hC.2.2.2.2.2.2.1.2.2.2.2.2.1.1 0 (by decide)).2.1 fl_J0_15 dJ0_isLatin1_aae02_7 rfl ?_
    refine j_if_ne (pc' := 13) (tgt := 17) hC dJ0_isLatin1_aae02_10 (by decide) rfl ?_ ?_
    · refine j_iconst (pc' := 18) (v := (0 : Int32)) hC dJ0_isLatin1_aae02_17 (by decide) rfl ?_
      exact j_ret_zr hC (by decide) dJ0_isLatin1_aae02_18
    · refine j_iconst (pc' := 14) (v := (1 : Int32)) hC dJ0_isLatin1_aae02_13 (by decide) rfl ?_
      refine j_goto (tgt := 18) hC dJ0_isLatin1_aae02_14 (by decide) ?_
      exact j_ret_zr hC (by decide) dJ0_isLatin1_aae02_18
theorem hyV_J0_length_8abf5 : yJ0_length_8abf5.cls = RJ0 ∧ yJ0_length_8abf5.cls ≠ "java/lang/invoke/MethodHandle" ∧ yJ0_length_8abf5.cls ≠ "java/lang/invoke/VarHandle" ∧ (parseMethodDescriptor yJ0_length_8abf5.desc).map (fun d => d.parameters.length) = some 0 := ⟨rfl, by decide +kernel, by decide +kernel, by decide +kernel⟩
noncomputable def fJ0_length_8abf5 (σ : jS) : Option (Int32) :=
  (Option.bind (fJ0_coder_7d493 σ) fun (q1 : Int32) => (some ((6 : Int32) >>> (q1 &&& 31))))
set_option maxRecDepth 100000 in
set_option maxHeartbeats 4000000 in
theorem kJ0_length_8abf5 (l : Launch) (d : jD) (A : Nat → Prop) (σ : jS) : jMir l yJ0_length_8abf5 (jws yJ0_length_8abf5 cJ0_length_8abf5 1 (some (.int))) { frames := 3, cells := 0, slots := 0, locals := 150 } d wX A [.ref (d.2.2.2 4)] σ (fJ0_length_8abf5 σ) := by
  refine jStart_ir (lv0 := [(0, .ref (d.2.2.2 4))]) (by decide) rfl (Nat.le_of_ble_eq_true rfl) rfl (fun z hC res => ?_)
  unfold fJ0_length_8abf5
  refine j_aload_n (pc' := 1) hC 0 dJ0_length_8abf5_0 rfl rfl rfl ?_
  refine j_strf (pc' := 4) hC (hC.2.2.2.2.2.2.1.2.2.2.2.2.1.1 0 (by decide)).2.2.1 fl_J0_9 dJ0_length_8abf5_1 rfl ?_
  refine j_tlen (pc' := 5) (v := (6 : Int32)) hC (hC.2.2.2.2.2.2.1.2.2.2.2.2.1.1 0 (by decide)).2.2.2 rfl dJ0_length_8abf5_4 rfl ?_
  refine j_aload_n (pc' := 6) hC 0 dJ0_length_8abf5_5 rfl rfl rfl ?_
  refine j_callT_br (pc' := 9) (As := []) (st := [.int (6 : Int32)]) hC rfl (kJ0_coder_7d493 l d A _) (jgV ml_J0_335 im_J0_coder_7d493 se_J0_coder_7d493 in_J0 cd_J0_coder_7d493) rfl rfl rfl hyV_J0_coder_7d493 ⟨Nat.le_of_ble_eq_true rfl, Nat.le_of_ble_eq_true rfl⟩ rfl rfl (Nat.le_of_ble_eq_true rfl) dJ0_length_8abf5_6 rfl (fun q1 => ?_)
  refine j_ishr (pc' := 10) hC dJ0_length_8abf5_9 rfl ?_
  exact j_ret_ir hC dJ0_length_8abf5_10
theorem hyV_J0_indexOf_7cf53 : yJ0_indexOf_7cf53.cls = RJ0 ∧ yJ0_indexOf_7cf53.cls ≠ "java/lang/invoke/MethodHandle" ∧ yJ0_indexOf_7cf53.cls ≠ "java/lang/invoke/VarHandle" ∧ (parseMethodDescriptor yJ0_indexOf_7cf53.desc).map (fun d => d.parameters.length) = some 2 := ⟨rfl, by decide +kernel, by decide +kernel, by decide +kernel⟩
noncomputable def fJ0_indexOf_7cf53 (σ : jS) (p1 : Int32) (p2 : Int32) : Option (Int32) :=
  (Option.bind (fJ0_isLatin1_aae02 σ) fun (q1 : Int32) => (if (jb q1) = 0 then (Option.bind (fJ0_length_8abf5 σ) fun (q2 : Int32) => none) else (Option.bind (fJ0_length_8abf5 σ) fun (q3 : Int32) => (Option.bind (fJ1_indexOf_4cfef σ p1 p2 q3) fun (q4 : Int32) => (some q4)))))
set_option maxRecDepth 100000 in
set_option maxHeartbeats 4000000 in
theorem kJ0_indexOf_7cf53 (l : Launch) (d : jD) (A : Nat → Prop) (σ : jS) (p1 : Int32) (p2 : Int32) : jMir l yJ0_indexOf_7cf53 (jws yJ0_indexOf_7cf53 cJ0_indexOf_7cf53 3 (some (.int))) { frames := 4, cells := 0, slots := 0, locals := 178 } d wX A [.ref (d.2.2.2 4), .int p1, .int p2] σ (fJ0_indexOf_7cf53 σ p1 p2) := by
  refine jStart_ir (lv0 := [(0, .ref (d.2.2.2 4)), (1, .int p1), (2, .int p2)]) (by decide) rfl (Nat.le_of_ble_eq_true rfl) rfl (fun z hC res => ?_)
  unfold fJ0_indexOf_7cf53
  refine j_aload_n (pc' := 1) hC 0 dJ0_indexOf_7cf53_0 rfl rfl rfl ?_
  refine j_callT_zr (pc' := 4) (As := []) (st := []) hC rfl (kJ0_isLatin1_aae02 l d A _) (jgV ml_J0_492 im_J0_isLatin1_aae02 se_J0_isLatin1_aae02 in_J0 cd_J0_isLatin1_aae02) rfl rfl rfl hyV_J0_isLatin1_aae02 ⟨Nat.le_of_ble_eq_true rfl, Nat.le_of_ble_eq_true rfl⟩ rfl rfl (Nat.le_of_ble_eq_true rfl) dJ0_indexOf_7cf53_1 rfl (fun q1 => ?_)
  refine j_if_eq (pc' := 7) (tgt := 23) hC dJ0_indexOf_7cf53_4 (by decide) rfl ?_ ?_
  · refine j_aload_n (pc' := 24) hC 0 dJ0_indexOf_7cf53_23 rfl rfl rfl ?_
    refine j_strf (pc' := 27) hC (hC.2.2.2.2.2.2.1.2.2.2.2.2.1.1 0 (by decide)).2.2.1 fl_J0_9 dJ0_indexOf_7cf53_24 rfl ?_
    refine j_iload_n (pc' := 28) hC 1 dJ0_indexOf_7cf53_27 rfl rfl rfl ?_
    refine j_iload_n (pc' := 29) hC 2 dJ0_indexOf_7cf53_28 rfl rfl rfl ?_
    refine j_aload_n (pc' := 30) hC 0 dJ0_indexOf_7cf53_29 rfl rfl rfl ?_
    refine j_callT_ir (pc' := 33) (As := []) (st := [.int p2, .int p1, .ref (d.2.2.2 5)]) hC rfl (kJ0_length_8abf5 l d A _) (jgV ml_J0_505 im_J0_length_8abf5 se_J0_length_8abf5 in_J0 cd_J0_length_8abf5) rfl rfl rfl hyV_J0_length_8abf5 ⟨Nat.le_of_ble_eq_true rfl, Nat.le_of_ble_eq_true rfl⟩ rfl rfl (Nat.le_of_ble_eq_true rfl) dJ0_indexOf_7cf53_30 rfl (fun q2 => ?_)
    exact j_none
  · refine j_aload_n (pc' := 8) hC 0 dJ0_indexOf_7cf53_7 rfl rfl rfl ?_
    refine j_strf (pc' := 11) hC (hC.2.2.2.2.2.2.1.2.2.2.2.2.1.1 0 (by decide)).2.2.1 fl_J0_9 dJ0_indexOf_7cf53_8 rfl ?_
    refine j_iload_n (pc' := 12) hC 1 dJ0_indexOf_7cf53_11 rfl rfl rfl ?_
    refine j_iload_n (pc' := 13) hC 2 dJ0_indexOf_7cf53_12 rfl rfl rfl ?_
    refine j_aload_n (pc' := 14) hC 0 dJ0_indexOf_7cf53_13 rfl rfl rfl ?_
    refine j_callT_ir (pc' := 17) (As := []) (st := [.int p2, .int p1, .ref (d.2.2.2 5)]) hC rfl (kJ0_length_8abf5 l d A _) (jgV ml_J0_505 im_J0_length_8abf5 se_J0_length_8abf5 in_J0 cd_J0_length_8abf5) rfl rfl rfl hyV_J0_length_8abf5 ⟨Nat.le_of_ble_eq_true rfl, Nat.le_of_ble_eq_true rfl⟩ rfl rfl (Nat.le_of_ble_eq_true rfl) dJ0_indexOf_7cf53_14 rfl (fun q3 => ?_)
    refine j_callS_ir (pc' := 20) (As := [.ref (d.2.2.2 5), .int p1, .int p2, .int q3]) (st := []) hC (kJ1_indexOf_4cfef l d A _ _ _ _) (jgS ml_J0_637 st_J1_indexOf_4cfef in_J1 cd_J1_indexOf_4cfef) rfl rfl rfl hyS_J1_indexOf_4cfef ⟨Nat.le_of_ble_eq_true rfl, Nat.le_of_ble_eq_true rfl⟩ rfl rfl (Nat.le_of_ble_eq_true rfl) dJ0_indexOf_7cf53_17 rfl (fun q4 => ?_)
    refine j_goto (tgt := 36) hC dJ0_indexOf_7cf53_20 (by decide) ?_
    exact j_ret_ir hC dJ0_indexOf_7cf53_36
theorem hyV_J0_indexOf_0f7a4 : yJ0_indexOf_0f7a4.cls = RJ0 ∧ yJ0_indexOf_0f7a4.cls ≠ "java/lang/invoke/MethodHandle" ∧ yJ0_indexOf_0f7a4.cls ≠ "java/lang/invoke/VarHandle" ∧ (parseMethodDescriptor yJ0_indexOf_0f7a4.desc).map (fun d => d.parameters.length) = some 1 := ⟨rfl, by decide +kernel, by decide +kernel, by decide +kernel⟩
noncomputable def fJ0_indexOf_0f7a4 (σ : jS) (p1 : Int32) : Option (Int32) :=
  (Option.bind (fJ0_indexOf_7cf53 σ p1 (0 : Int32)) fun (q1 : Int32) => (some q1))
set_option maxRecDepth 100000 in
set_option maxHeartbeats 4000000 in
theorem kJ0_indexOf_0f7a4 (l : Launch) (d : jD) (A : Nat → Prop) (σ : jS) (p1 : Int32) : jMir l yJ0_indexOf_0f7a4 (jws yJ0_indexOf_0f7a4 cJ0_indexOf_0f7a4 2 (some (.int))) { frames := 5, cells := 0, slots := 0, locals := 200 } d wX A [.ref (d.2.2.2 4), .int p1] σ (fJ0_indexOf_0f7a4 σ p1) := by
  refine jStart_ir (lv0 := [(0, .ref (d.2.2.2 4)), (1, .int p1)]) (by decide) rfl (Nat.le_of_ble_eq_true rfl) rfl (fun z hC res => ?_)
  unfold fJ0_indexOf_0f7a4
  refine j_aload_n (pc' := 1) hC 0 dJ0_indexOf_0f7a4_0 rfl rfl rfl ?_
  refine j_iload_n (pc' := 2) hC 1 dJ0_indexOf_0f7a4_1 rfl rfl rfl ?_
  refine j_iconst (pc' := 3) (v := (0 : Int32)) hC dJ0_indexOf_0f7a4_2 (by decide) rfl ?_
  refine j_callT_ir (pc' := 6) (As := [.int p1, .int (0 : Int32)]) (st := []) hC rfl (kJ0_indexOf_7cf53 l d A _ _ _) (jgV ml_J0_633 im_J0_indexOf_7cf53 se_J0_indexOf_7cf53 in_J0 cd_J0_indexOf_7cf53) rfl rfl rfl hyV_J0_indexOf_7cf53 ⟨Nat.le_of_ble_eq_true rfl, Nat.le_of_ble_eq_true rfl⟩ rfl rfl (Nat.le_of_ble_eq_true rfl) dJ0_indexOf_0f7a4_3 rfl (fun q1 => ?_)
  exact j_ret_ir hC dJ0_indexOf_0f7a4_6
theorem jix_b : ∀ k : Nat, k < 256 → ∀ b ∈ ([104, 115, 119, 114, 113, 112] : List Int32), ((b = (nI k).toInt8.toInt32) ↔ (nI k = b)) := by decide +kernel
theorem jix_out {x : Int32} (h : x < 0 ∨ 255 < x) : jIx x = -1 := by
  have e : ∀ b ∈ ([104, 115, 119, 114, 113, 112] : List Int32), ¬ x = b := by
    intro b hb z
    subst z
    revert h
    revert hb x
    decide +kernel
  unfold jIx
  rw [if_neg (e 104 (by decide)), if_neg (e 115 (by decide)), if_neg (e 119 (by decide)), if_neg (e 114 (by decide)), if_neg (e 113 (by decide)), if_neg (e 112 (by decide))]
theorem jix_in {k : Nat} (hk : k < 256) : fJ1_indexOfChar_4cfef (fun _ _ => 0, fun _ _ => 0) (nI k) 0 6 = some (jIx (nI k)) := by
  have hN : ∃ n, jN = n + 7 := ⟨jN - 7, by have := jN_ge; omega⟩
  obtain ⟨n, hn⟩ := hN
  have b := jix_b k hk
  unfold fJ1_indexOfChar_4cfef
  rw [hn]
  have s0 : ∀ s, fJ1_indexOfChar_4cfef_B7 (nI k) 6 s 0 = if (104 : Int32) = (nI k).toInt8.toInt32 then some 0 else s 1 := fun s => rfl
  have s1 : ∀ s, fJ1_indexOfChar_4cfef_B7 (nI k) 6 s 1 = if (115 : Int32) = (nI k).toInt8.toInt32 then some 1 else s 2 := fun s => rfl
  have s2 : ∀ s, fJ1_indexOfChar_4cfef_B7 (nI k) 6 s 2 = if (119 : Int32) = (nI k).toInt8.toInt32 then some 2 else s 3 := fun s => rfl
  have s3 : ∀ s, fJ1_indexOfChar_4cfef_B7 (nI k) 6 s 3 = if (114 : Int32) = (nI k).toInt8.toInt32 then some 3 else s 4 := fun s => rfl
  have s4 : ∀ s, fJ1_indexOfChar_4cfef_B7 (nI k) 6 s 4 = if (113 : Int32) = (nI k).toInt8.toInt32 then some 4 else s 5 := fun s => rfl
  have s5 : ∀ s, fJ1_indexOfChar_4cfef_B7 (nI k) 6 s 5 = if (112 : Int32) = (nI k).toInt8.toInt32 then some 5 else s 6 := fun s => rfl
  have s6 : ∀ s, fJ1_indexOfChar_4cfef_B7 (nI k) 6 s 6 = some (-1) := fun s => rfl
  have js : ∀ (m : Nat) (a : Int32), jloop (fJ1_indexOfChar_4cfef_B7 (nI k) 6) (m + 1) a = fJ1_indexOfChar_4cfef_B7 (nI k) 6 (jloop (fJ1_indexOfChar_4cfef_B7 (nI k) 6) m) a := fun _ _ => rfl
  rw [js (n + 6), s0, js (n + 5), s1, js (n + 4), s2, js (n + 3), s3, js (n + 2), s4, js (n + 1), s5, js n, s6]
  simp only [b 104 (by decide), b 115 (by decide), b 119 (by decide), b 114 (by decide), b 113 (by decide), b 112 (by decide)]
  unfold jIx
  by_cases c0 : nI k = 104
  · rw [if_pos c0, if_pos c0]
  rw [if_neg c0, if_neg c0]
  by_cases c1 : nI k = 115
  · rw [if_pos c1, if_pos c1]
  rw [if_neg c1, if_neg c1]
  by_cases c2 : nI k = 119
  · rw [if_pos c2, if_pos c2]
  rw [if_neg c2, if_neg c2]
  by_cases c3 : nI k = 114
  · rw [if_pos c3, if_pos c3]
  rw [if_neg c3, if_neg c3]
  by_cases c4 : nI k = 113
  · rw [if_pos c4, if_pos c4]
  rw [if_neg c4, if_neg c4]
  by_cases c5 : nI k = 112
  · rw [if_pos c5, if_pos c5]
  rw [if_neg c5, if_neg c5]
theorem jix_ok (σ : jS) (x : Int32) : fJ0_indexOf_0f7a4 σ x = some (jIx x) := by
  have h1 : fJ0_indexOf_0f7a4 σ x = (fJ1_indexOf_4cfef σ x 0 6).bind fun q => some q := by
    have e : fJ0_length_8abf5 σ = some 6 := rfl
    have e2 : fJ0_isLatin1_aae02 σ = some 1 := rfl
    unfold fJ0_indexOf_0f7a4 fJ0_indexOf_7cf53
    rw [e, e2]
    simp only [Option.bind_some]
    rw [if_neg (by decide)]
    cases fJ1_indexOf_4cfef σ x 0 6 <;> rfl
  rw [h1]
  unfold fJ1_indexOf_4cfef fJ1_canEncode_9a6ad
  by_cases a : x < 0
  · rw [if_pos a, jix_out (Or.inl a)]
    rfl
  · rw [if_neg a]
    by_cases b : 255 < x
    · rw [if_pos b, jix_out (Or.inr b)]
      rfl
    · rw [if_neg b]
      have hx : ∃ k : Nat, k < 256 ∧ x = nI k := by
        refine ⟨x.toNatClampNeg, ?_, ?_⟩
        · have h0 : (0 : Int32) ≤ x := Int32.not_lt.mp a
          have h2 := Int32.le_iff_toInt_le.mp (Int32.not_lt.mp b)
          have h3 : x.toInt = x.toNatClampNeg := Int32.toInt_eq_toNatClampNeg h0
          rw [h3, show (255 : Int32).toInt = 255 from rfl] at h2
          omega
        · exact (Int32.ofNat_toNatClampNeg x (Int32.not_lt.mp a)).symm
      obtain ⟨k, hk, rfl⟩ := hx
      have e := jix_in hk
      have e3 : fJ1_indexOfChar_4cfef σ (nI k) 0 6 = fJ1_indexOfChar_4cfef (fun _ _ => 0, fun _ _ => 0) (nI k) 0 6 := rfl
      simp only [Option.bind_some]
      rw [if_neg (by decide), if_pos (by decide)]
      rw [show (if (0 : Int32) < (0 : Int32) then (0 : Int32) else 0) = 0 from rfl, show (if (6 : Int32) < (6 : Int32) then (6 : Int32) else 6) = 6 from rfl, e3, e]
      rfl
theorem kJ0_ix (l : Launch) (d : jD) (A : Nat → Prop) (σ : jS) (x : Int32) : jMir l yJ0_indexOf_0f7a4 (jws yJ0_indexOf_0f7a4 cJ0_indexOf_0f7a4 2 (some .int)) { frames := 5, cells := 0, slots := 0, locals := 200 } d wX A [.ref (d.2.2.2 4), .int x] σ (some (jIx x)) := by
  have h : fJ0_indexOf_0f7a4 σ x = some (jIx x) := jix_ok σ x
  exact h ▸ kJ0_indexOf_0f7a4 l d A σ x
