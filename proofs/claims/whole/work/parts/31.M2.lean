theorem hyS_X12_nameOf : yX12_nameOf.cls ≠ "java/lang/invoke/MethodHandle" ∧ yX12_nameOf.cls ≠ "java/lang/invoke/VarHandle" ∧ (parseMethodDescriptor yX12_nameOf.desc).map (fun d => d.parameters.length) = some 1 := ⟨by decide +kernel, by decide +kernel, by decide +kernel⟩
noncomputable def fX12_nameOf (σ : jS) (p1 : Int32) : Option (Int32) :=
  (if p1 = (104 : Int32) then (some (0 : Int32)) else (if p1 = (112 : Int32) then (some (5 : Int32)) else (if p1 = (113 : Int32) then (some (4 : Int32)) else (if p1 = (114 : Int32) then (some (3 : Int32)) else (if p1 = (115 : Int32) then (some (1 : Int32)) else (if p1 = (119 : Int32) then (some (2 : Int32)) else (some (-1 : Int32))))))))
set_option maxRecDepth 100000 in
set_option maxHeartbeats 4000000 in
theorem kX12_nameOf (l : Launch) (d : jD) (A : Nat → Prop) (σ : jS) (p1 : Int32) : jMir l yX12_nameOf (jws yX12_nameOf cX12_nameOf 1 (some (.int))) { frames := 2, cells := 0, slots := 0, locals := 130 } d wM A [.int p1] σ (fX12_nameOf σ p1) := by
  refine jStart_ir (lv0 := [(0, .int p1)]) (by decide) rfl (Nat.le_of_ble_eq_true rfl) rfl (fun z hC res => ?_)
  unfold fX12_nameOf
  refine j_iload_n (pc' := 1) hC 0 dX12_nameOf_0 rfl rfl rfl ?_
  refine j_if (fun c0 => ?_) (fun c0 => ?_)
  · refine j_tableIn (tgt := 80) (off := 79) hC dX12_nameOf_1 (by rw [c0]; decide) (by rw [c0]; decide) (by rw [c0]; rfl) (by decide) ?_
    refine j_iconst (pc' := 81) (v := (0 : Int32)) hC dX12_nameOf_80 (by decide) rfl ?_
    exact j_ret_ir hC dX12_nameOf_81
  refine j_if (fun c1 => ?_) (fun c1 => ?_)
  · refine j_tableIn (tgt := 90) (off := 89) hC dX12_nameOf_1 (by rw [c1]; decide) (by rw [c1]; decide) (by rw [c1]; rfl) (by decide) ?_
    refine j_iconst (pc' := 91) (v := (5 : Int32)) hC dX12_nameOf_90 (by decide) rfl ?_
    exact j_ret_ir hC dX12_nameOf_91
  refine j_if (fun c2 => ?_) (fun c2 => ?_)
  · refine j_tableIn (tgt := 88) (off := 87) hC dX12_nameOf_1 (by rw [c2]; decide) (by rw [c2]; decide) (by rw [c2]; rfl) (by decide) ?_
    refine j_iconst (pc' := 89) (v := (4 : Int32)) hC dX12_nameOf_88 (by decide) rfl ?_
    exact j_ret_ir hC dX12_nameOf_89
  refine j_if (fun c3 => ?_) (fun c3 => ?_)
  · refine j_tableIn (tgt := 86) (off := 85) hC dX12_nameOf_1 (by rw [c3]; decide) (by rw [c3]; decide) (by rw [c3]; rfl) (by decide) ?_
    refine j_iconst (pc' := 87) (v := (3 : Int32)) hC dX12_nameOf_86 (by decide) rfl ?_
    exact j_ret_ir hC dX12_nameOf_87
  refine j_if (fun c4 => ?_) (fun c4 => ?_)
  · refine j_tableIn (tgt := 82) (off := 81) hC dX12_nameOf_1 (by rw [c4]; decide) (by rw [c4]; decide) (by rw [c4]; rfl) (by decide) ?_
    refine j_iconst (pc' := 83) (v := (1 : Int32)) hC dX12_nameOf_82 (by decide) rfl ?_
    exact j_ret_ir hC dX12_nameOf_83
  refine j_if (fun c5 => ?_) (fun c5 => ?_)
  · refine j_tableIn (tgt := 84) (off := 83) hC dX12_nameOf_1 (by rw [c5]; decide) (by rw [c5]; decide) (by rw [c5]; rfl) (by decide) ?_
    refine j_iconst (pc' := 85) (v := (2 : Int32)) hC dX12_nameOf_84 (by decide) rfl ?_
    exact j_ret_ir hC dX12_nameOf_85
  refine j_tableDef (tgt := 92) hC dX12_nameOf_1 16 [0, 8, 9, 10, 11, 15] (by decide) (by decide) (by intro _ _; have e0 := lv_neT c0 (a := 104) rfl; have e1 := lv_neT c1 (a := 112) rfl; have e2 := lv_neT c2 (a := 113) rfl; have e3 := lv_neT c3 (a := 114) rfl; have e4 := lv_neT c4 (a := 115) rfl; have e5 := lv_neT c5 (a := 119) rfl; simp only [List.mem_cons, List.not_mem_nil, or_false]; omega) (by decide) ?_
  refine j_iconst (pc' := 93) (v := (-1 : Int32)) hC dX12_nameOf_92 (by decide) rfl ?_
  exact j_ret_ir hC dX12_nameOf_93
theorem hyV_X12_opens : yX12_opens.cls = RX12 ∧ yX12_opens.cls ≠ "java/lang/invoke/MethodHandle" ∧ yX12_opens.cls ≠ "java/lang/invoke/VarHandle" ∧ (parseMethodDescriptor yX12_opens.desc).map (fun d => d.parameters.length) = some 0 := ⟨rfl, by decide +kernel, by decide +kernel, by decide +kernel⟩
noncomputable def fX12_opens (σ : jS) : Option (Int32 × jS) :=
  (if (σ.1 0 23) = (6 : Int32) then (Option.bind (fX12_faulty σ) fun (q3 : jS) => (some ((0 : Int32), q3))) else (jst (ju σ 0 23 ((σ.1 0 23) + (1 : Int32))) fun (σ1 : jS) => (jst (ju σ1 0 21 ((σ1.1 0 21) + (1 : Int32))) fun (σ2 : jS) => (some ((1 : Int32), σ2)))))
set_option maxRecDepth 100000 in
set_option maxHeartbeats 4000000 in
theorem kX12_opens (l : Launch) (d : jD) (A : Nat → Prop) (σ : jS) : jMz l yX12_opens (jws yX12_opens cX12_opens 1 (some (.boolean))) { frames := 3, cells := 0, slots := 0, locals := 150 } d wM A [.ref (d.2.1 0)] σ (fX12_opens σ) := by
  refine jStart_z (lv0 := [(0, .ref (d.2.1 0))]) (by decide) rfl (Nat.le_of_ble_eq_true rfl) rfl (fun z hC res => ?_)
  unfold fX12_opens
  refine j_aload_n (pc' := 1) hC 0 dX12_opens_0 rfl rfl rfl ?_
  refine j_get (pc' := 4) hC ly_X12 (M_at_0 d _) rfl 23 (by decide) fl_X12_190 rfl dX12_opens_1 rfl ?_
  refine j_bipush (pc' := 6) (v := (6 : Int32)) hC dX12_opens_4 (by decide) rfl ?_
  refine j_icmp_ne (pc' := 9) (tgt := 15) hC dX12_opens_6 (by decide) rfl ?_ ?_
  · refine j_aload_n (pc' := 16) hC 0 dX12_opens_15 rfl rfl rfl ?_
    refine j_dup (pc' := 17) hC rfl dX12_opens_16 rfl ?_
    refine j_get (pc' := 20) hC ly_X12 (M_at_0 d _) rfl 23 (by decide) fl_X12_190 rfl dX12_opens_17 rfl ?_
    refine j_iconst (pc' := 21) (v := (1 : Int32)) hC dX12_opens_20 (by decide) rfl ?_
    refine j_iadd (pc' := 22) hC dX12_opens_21 rfl ?_
    refine j_put (pc' := 25) hC ly_X12 tyX12 tyX12_ok nmX12 (M_at_0 d _) rfl 23 (by decide) fl_X12_190 rfl rfl rfl rfl (Nat.le_of_ble_eq_true rfl) (M_sf_0_23 d _ _) dX12_opens_22 rfl ?_
    refine j_st (fun σ1 => ?_)
    refine j_aload_n (pc' := 26) hC 0 dX12_opens_25 rfl rfl rfl ?_
    refine j_dup (pc' := 27) hC rfl dX12_opens_26 rfl ?_
    refine j_get (pc' := 30) hC ly_X12 (M_at_0 d _) rfl 21 (by decide) fl_X12_181 rfl dX12_opens_27 rfl ?_
    refine j_iconst (pc' := 31) (v := (1 : Int32)) hC dX12_opens_30 (by decide) rfl ?_
    refine j_iadd (pc' := 32) hC dX12_opens_31 rfl ?_
    refine j_put (pc' := 35) hC ly_X12 tyX12 tyX12_ok nmX12 (M_at_0 d _) rfl 21 (by decide) fl_X12_181 rfl rfl rfl rfl (Nat.le_of_ble_eq_true rfl) (M_sf_0_21 d _ _) dX12_opens_32 rfl ?_
    refine j_st (fun σ2 => ?_)
    refine j_iconst (pc' := 36) (v := (1 : Int32)) hC dX12_opens_35 (by decide) rfl ?_
    exact j_ret_z hC (by decide) dX12_opens_36
  · refine j_aload_n (pc' := 10) hC 0 dX12_opens_9 rfl rfl rfl ?_
    refine j_callV_v (pc' := 13) (As := []) (st := []) hC (M_at_0 d _) rfl (kX12_faulty l d A _) (jgV ml_X12_193 im_X12_faulty se_X12_faulty in_X12 cd_X12_faulty) rfl rfl rfl hyV_X12_faulty ⟨Nat.le_of_ble_eq_true rfl, Nat.le_of_ble_eq_true rfl⟩ rfl rfl (Nat.le_of_ble_eq_true rfl) dX12_opens_10 rfl (fun q3 => ?_)
    refine j_iconst (pc' := 14) (v := (0 : Int32)) hC dX12_opens_13 (by decide) rfl ?_
    exact j_ret_z hC (by decide) dX12_opens_14
theorem hyV_X12_figure : yX12_figure.cls = RX12 ∧ yX12_figure.cls ≠ "java/lang/invoke/MethodHandle" ∧ yX12_figure.cls ≠ "java/lang/invoke/VarHandle" ∧ (parseMethodDescriptor yX12_figure.desc).map (fun d => d.parameters.length) = some 0 := ⟨rfl, by decide +kernel, by decide +kernel, by decide +kernel⟩
noncomputable def fX12_figure_B4 (j52 : (jS × Int32 × Int32 → Option (jS))) (s4 : jS × Int32 × Int32 → Option (jS)) (a : jS × Int32 × Int32) : Option (jS) :=
  (if (4 : Int32) ≤ a.2.2 then (j52 (a.1, a.2.1, a.2.2)) else (Option.bind (fX12_look a.1) fun (q5 : Int32) => (Option.bind (fX12_in a.1 q5 (48 : Int32) (57 : Int32)) fun (q6 : Int32) => (if (jb q6) = 0 then (j52 (a.1, a.2.1, a.2.2)) else (Option.bind (fX12_look a.1) fun (q7 : Int32) => (jst (ju a.1 0 21 ((a.1.1 0 21) + (1 : Int32))) fun (σ8 : jS) => (s4 (σ8, ((((10 : Int32) * a.2.1) + q7) - (48 : Int32)), (a.2.2 + (1 : Int32))))))))))
noncomputable def fX12_figure (σ : jS) : Option (jS) :=
  (jlet (fun (a52 : jS × Int32 × Int32) => (jlet (fun (a74 : jS) => (Option.bind (fX12_addStep a74 (1 : Int32) a52.2.1) fun (q1 : jS) => (some q1))) fun (j74 : (jS → Option (jS))) => (jlet (fun (a70 : Unit) => (Option.bind (fX12_faulty a52.1) fun (q2 : jS) => (j74 q2))) fun (j70 : (Unit → Option (jS))) => (if a52.2.2 = 0 then (j70 ()) else (Option.bind (fX12_look a52.1) fun (q3 : Int32) => (Option.bind (fX12_in a52.1 q3 (48 : Int32) (57 : Int32)) fun (q4 : Int32) => (if (jb q4) = 0 then (j74 a52.1) else (j70 ())))))))) fun (j52 : (jS × Int32 × Int32 → Option (jS))) => (jloop (fX12_figure_B4 j52) jN (σ, (0 : Int32), (0 : Int32))))
set_option maxRecDepth 100000 in
set_option maxHeartbeats 4000000 in
theorem kX12_figure (l : Launch) (d : jD) (A : Nat → Prop) (σ : jS) : jMv l yX12_figure (jws yX12_figure cX12_figure 3 none) { frames := 3, cells := 0, slots := 0, locals := 152 } d wM A [.ref (d.2.1 0)] σ (fX12_figure σ) := by
  refine jStart_v (lv0 := [(0, .ref (d.2.1 0))]) (by decide) rfl (Nat.le_of_ble_eq_true rfl) rfl (fun z hC res => ?_)
  unfold fX12_figure
  refine j_iconst (pc' := 1) (v := (0 : Int32)) hC dX12_figure_0 (by decide) rfl ?_
  refine j_istore_n (pc' := 2) (lv' := [(1, .int (0 : Int32)), (0, .ref (d.2.1 0))]) hC dX12_figure_1 rfl (by decide) rfl rfl ?_
  refine j_iconst (pc' := 3) (v := (0 : Int32)) hC dX12_figure_2 (by decide) rfl ?_
  refine j_istore_n (pc' := 4) (lv' := [(2, .int (0 : Int32)), (1, .int (0 : Int32)), (0, .ref (d.2.1 0))]) hC dX12_figure_3 rfl (by decide) rfl rfl ?_
  refine j_let 52 (fun a52 => a52.1) (fun a52 => [(0, .ref (d.2.1 0)), (1, .int a52.2.1), (2, .int a52.2.2)]) (fun a52 => []) (fun a52 => ?_) (fun j52 hj52 => ?_)
  · refine j_iload_n (pc' := 53) hC 2 dX12_figure_52 rfl rfl rfl ?_
    refine j_let 74 (fun a74 => a74) (fun a74 => [(0, .ref (d.2.1 0)), (1, .int a52.2.1)]) (fun a74 => []) (fun a74 => ?_) (fun j74 hj74 => ?_)
    · refine j_aload_n (pc' := 75) hC 0 dX12_figure_74 rfl rfl rfl ?_
      refine j_iconst (pc' := 76) (v := (1 : Int32)) hC dX12_figure_75 (by decide) rfl ?_
      refine j_iload_n (pc' := 77) hC 1 dX12_figure_76 rfl rfl rfl ?_
      refine j_callV_v (pc' := 80) (As := [.int (1 : Int32), .int a52.2.1]) (st := []) hC (M_at_0 d _) rfl (kX12_addStep l d A _ _ _) (jgV ml_X12_200 im_X12_addStep se_X12_addStep in_X12 cd_X12_addStep) rfl rfl rfl hyV_X12_addStep ⟨Nat.le_of_ble_eq_true rfl, Nat.le_of_ble_eq_true rfl⟩ rfl rfl (Nat.le_of_ble_eq_true rfl) dX12_figure_77 rfl (fun q1 => ?_)
      exact j_ret_v hC dX12_figure_80
    · refine j_let 70 (fun a70 => a52.1) (fun a70 => [(0, .ref (d.2.1 0)), (1, .int a52.2.1)]) (fun a70 => []) (fun a70 => ?_) (fun j70 hj70 => ?_)
      · refine j_aload_n (pc' := 71) hC 0 dX12_figure_70 rfl rfl rfl ?_
        refine j_callV_v (pc' := 74) (As := []) (st := []) hC (M_at_0 d _) rfl (kX12_faulty l d A _) (jgV ml_X12_193 im_X12_faulty se_X12_faulty in_X12 cd_X12_faulty) rfl rfl rfl hyV_X12_faulty ⟨Nat.le_of_ble_eq_true rfl, Nat.le_of_ble_eq_true rfl⟩ rfl rfl (Nat.le_of_ble_eq_true rfl) dX12_figure_71 rfl (fun q2 => ?_)
        exact j_lv (lv' := [(0, .ref (d.2.1 0)), (1, .int a52.2.1)]) [0, 1] rfl (hj74 q2)
      · refine j_if_eq (pc' := 56) (tgt := 70) hC dX12_figure_53 (by decide) rfl ?_ ?_
        · exact j_lv (lv' := [(0, .ref (d.2.1 0)), (1, .int a52.2.1)]) [0, 1] rfl (hj70 ())
        · refine j_aload_n (pc' := 57) hC 0 dX12_figure_56 rfl rfl rfl ?_
          refine j_callV_ir (pc' := 60) (As := []) (st := []) hC (M_at_0 d _) rfl (kX12_look l d A _) (jgV ml_X12_196 im_X12_look se_X12_look in_X12 cd_X12_look) rfl rfl rfl hyV_X12_look ⟨Nat.le_of_ble_eq_true rfl, Nat.le_of_ble_eq_true rfl⟩ rfl rfl (Nat.le_of_ble_eq_true rfl) dX12_figure_57 rfl (fun q3 => ?_)
          refine j_bipush (pc' := 62) (v := (48 : Int32)) hC dX12_figure_60 (by decide) rfl ?_
          refine j_bipush (pc' := 64) (v := (57 : Int32)) hC dX12_figure_62 (by decide) rfl ?_
          refine j_callS_zr (pc' := 67) (As := [.int q3, .int (48 : Int32), .int (57 : Int32)]) (st := []) hC (kX12_in l d A _ _ _ _) (jgS ml_X12_128 st_X12_in in_X12 cd_X12_in) rfl rfl rfl hyS_X12_in ⟨Nat.le_of_ble_eq_true rfl, Nat.le_of_ble_eq_true rfl⟩ rfl rfl (Nat.le_of_ble_eq_true rfl) dX12_figure_64 rfl (fun q4 => ?_)
          refine j_if_eq (pc' := 70) (tgt := 74) hC dX12_figure_67 (by decide) rfl ?_ ?_
          · exact j_lv (lv' := [(0, .ref (d.2.1 0)), (1, .int a52.2.1)]) [0, 1] rfl (hj74 a52.1)
          · exact j_lv (lv' := [(0, .ref (d.2.1 0)), (1, .int a52.2.1)]) [0, 1] rfl (hj70 ())
  · refine j_lv (lv' := [(0, .ref (d.2.1 0)), (1, .int (0 : Int32)), (2, .int (0 : Int32))]) [2, 1, 0] rfl ?_
    refine j_loop 4 (fun a => a.1) (fun a => [(0, .ref (d.2.1 0)), (1, .int a.2.1), (2, .int a.2.2)]) (fun s4 hs4 a => ?_) jN (σ, (0 : Int32), (0 : Int32))
    unfold fX12_figure_B4
    refine j_iload_n (pc' := 5) hC 2 dX12_figure_4 rfl rfl rfl ?_
    refine j_iconst (pc' := 6) (v := (4 : Int32)) hC dX12_figure_5 (by decide) rfl ?_
    refine j_icmp_ge (pc' := 9) (tgt := 52) hC dX12_figure_6 (by decide) rfl ?_ ?_
    · exact j_lv (lv' := [(0, .ref (d.2.1 0)), (1, .int a.2.1), (2, .int a.2.2)]) [0, 1, 2] rfl (hj52 (a.1, a.2.1, a.2.2))
    · refine j_aload_n (pc' := 10) hC 0 dX12_figure_9 rfl rfl rfl ?_
      refine j_callV_ir (pc' := 13) (As := []) (st := []) hC (M_at_0 d _) rfl (kX12_look l d A _) (jgV ml_X12_196 im_X12_look se_X12_look in_X12 cd_X12_look) rfl rfl rfl hyV_X12_look ⟨Nat.le_of_ble_eq_true rfl, Nat.le_of_ble_eq_true rfl⟩ rfl rfl (Nat.le_of_ble_eq_true rfl) dX12_figure_10 rfl (fun q5 => ?_)
      refine j_bipush (pc' := 15) (v := (48 : Int32)) hC dX12_figure_13 (by decide) rfl ?_
      refine j_bipush (pc' := 17) (v := (57 : Int32)) hC dX12_figure_15 (by decide) rfl ?_
      refine j_callS_zr (pc' := 20) (As := [.int q5, .int (48 : Int32), .int (57 : Int32)]) (st := []) hC (kX12_in l d A _ _ _ _) (jgS ml_X12_128 st_X12_in in_X12 cd_X12_in) rfl rfl rfl hyS_X12_in ⟨Nat.le_of_ble_eq_true rfl, Nat.le_of_ble_eq_true rfl⟩ rfl rfl (Nat.le_of_ble_eq_true rfl) dX12_figure_17 rfl (fun q6 => ?_)
      refine j_if_eq (pc' := 23) (tgt := 52) hC dX12_figure_20 (by decide) rfl ?_ ?_
      · exact j_lv (lv' := [(0, .ref (d.2.1 0)), (1, .int a.2.1), (2, .int a.2.2)]) [0, 1, 2] rfl (hj52 (a.1, a.2.1, a.2.2))
      · refine j_bipush (pc' := 25) (v := (10 : Int32)) hC dX12_figure_23 (by decide) rfl ?_
        refine j_iload_n (pc' := 26) hC 1 dX12_figure_25 rfl rfl rfl ?_
        refine j_imul (pc' := 27) hC dX12_figure_26 rfl ?_
        refine j_aload_n (pc' := 28) hC 0 dX12_figure_27 rfl rfl rfl ?_
        refine j_callV_ir (pc' := 31) (As := []) (st := [.int ((10 : Int32) * a.2.1)]) hC (M_at_0 d _) rfl (kX12_look l d A _) (jgV ml_X12_196 im_X12_look se_X12_look in_X12 cd_X12_look) rfl rfl rfl hyV_X12_look ⟨Nat.le_of_ble_eq_true rfl, Nat.le_of_ble_eq_true rfl⟩ rfl rfl (Nat.le_of_ble_eq_true rfl) dX12_figure_28 rfl (fun q7 => ?_)
        refine j_iadd (pc' := 32) hC dX12_figure_31 rfl ?_
        refine j_bipush (pc' := 34) (v := (48 : Int32)) hC dX12_figure_32 (by decide) rfl ?_
        refine j_isub (pc' := 35) hC dX12_figure_34 rfl ?_
        refine j_istore_n (pc' := 36) (lv' := [(1, .int ((((10 : Int32) * a.2.1) + q7) - (48 : Int32))), (0, .ref (d.2.1 0)), (2, .int a.2.2)]) hC dX12_figure_35 rfl (by decide) rfl rfl ?_
        refine j_iinc (pc' := 39) (v := (a.2.2 + (1 : Int32))) (lv' := [(2, .int (a.2.2 + (1 : Int32))), (1, .int ((((10 : Int32) * a.2.1) + q7) - (48 : Int32))), (0, .ref (d.2.1 0))]) hC 2 dX12_figure_36 rfl (by decide) rfl rfl rfl ?_
        refine j_aload_n (pc' := 40) hC 2 dX12_figure_39 rfl rfl rfl ?_
        refine j_dup (pc' := 41) hC rfl dX12_figure_40 rfl ?_
        refine j_get (pc' := 44) hC ly_X12 (M_at_0 d _) rfl 21 (by decide) fl_X12_181 rfl dX12_figure_41 rfl ?_
        refine j_iconst (pc' := 45) (v := (1 : Int32)) hC dX12_figure_44 (by decide) rfl ?_
        refine j_iadd (pc' := 46) hC dX12_figure_45 rfl ?_
        refine j_put (pc' := 49) hC ly_X12 tyX12 tyX12_ok nmX12 (M_at_0 d _) rfl 21 (by decide) fl_X12_181 rfl rfl rfl rfl (Nat.le_of_ble_eq_true rfl) (M_sf_0_21 d _ _) dX12_figure_46 rfl ?_
        refine j_st (fun σ8 => ?_)
        refine j_goto (tgt := 4) hC dX12_figure_49 (by decide) ?_
        exact j_lv (lv' := [(0, .ref (d.2.1 0)), (1, .int ((((10 : Int32) * a.2.1) + q7) - (48 : Int32))), (2, .int (a.2.2 + (1 : Int32)))]) [2, 1, 0] rfl (hs4 (σ8, ((((10 : Int32) * a.2.1) + q7) - (48 : Int32)), (a.2.2 + (1 : Int32))))
theorem hyV_X12_operand : yX12_operand.cls = RX12 ∧ yX12_operand.cls ≠ "java/lang/invoke/MethodHandle" ∧ yX12_operand.cls ≠ "java/lang/invoke/VarHandle" ∧ (parseMethodDescriptor yX12_operand.desc).map (fun d => d.parameters.length) = some 0 := ⟨rfl, by decide +kernel, by decide +kernel, by decide +kernel⟩
noncomputable def bX12_operand (r : (jS → Option (jS)) × (jS → Option (jS)) × (jS → Option (jS)) × (jS → Option (jS)) × (jS → Option (jS)) × (jS → Option (jS))) (σ : jS) : Option (jS) :=
  (Option.bind (fX12_look σ) fun (q1 : Int32) => (Option.bind (fX12_nameOf σ q1) fun (q2 : Int32) => (if q2 < 0 then (jlet (fun (a46 : Unit) => (Option.bind (fX12_opens σ) fun (q3 : (Int32 × jS)) => (if (jb q3.1) = 0 then (some q3.2) else (Option.bind (r.1 q3.2) fun (q4 : jS) => (jst (ju q4 0 23 ((q4.1 0 23) - (1 : Int32))) fun (σ5 : jS) => (jlet (fun (a80 : Int32) => (Option.bind (fX12_addStep σ5 a80 (0 : Int32)) fun (q6 : jS) => (some q6))) fun (j80 : (Int32 → Option (jS))) => (if q1 = (33 : Int32) then (j80 (3 : Int32)) else (j80 (4 : Int32))))))))) fun (j46 : (Unit → Option (jS))) => (if q1 = (33 : Int32) then (j46 ()) else (if q1 = (45 : Int32) then (j46 ()) else (if q1 = (40 : Int32) then (Option.bind (fX12_opens σ) fun (q8 : (Int32 × jS)) => (if (jb q8.1) = 0 then (some q8.2) else (Option.bind (r.2.2.2.2.2 q8.2) fun (q9 : jS) => (if (q9.1 0 22) < 0 then (Option.bind (fX12_look q9) fun (q10 : Int32) => (if q10 = (41 : Int32) then (jst (ju q9 0 21 ((q9.1 0 21) + (1 : Int32))) fun (σ11 : jS) => (jst (ju σ11 0 23 ((σ11.1 0 23) - (1 : Int32))) fun (σ12 : jS) => (some σ12))) else (Option.bind (fX12_faulty q9) fun (q13 : jS) => (some q13)))) else (some q9))))) else (Option.bind (fX12_figure σ) fun (q7 : jS) => (some q7)))))) else (Option.bind (fX12_nameOf σ q1) fun (q14 : Int32) => (Option.bind (fX12_addStep σ (2 : Int32) q14) fun (q15 : jS) => (jst (ju q15 0 21 ((q15.1 0 21) + (1 : Int32))) fun (σ16 : jS) => (some σ16)))))))
theorem hyV_X12_product : yX12_product.cls = RX12 ∧ yX12_product.cls ≠ "java/lang/invoke/MethodHandle" ∧ yX12_product.cls ≠ "java/lang/invoke/VarHandle" ∧ (parseMethodDescriptor yX12_product.desc).map (fun d => d.parameters.length) = some 0 := ⟨rfl, by decide +kernel, by decide +kernel, by decide +kernel⟩
noncomputable def fX12_product_B4 (r : (jS → Option (jS)) × (jS → Option (jS)) × (jS → Option (jS)) × (jS → Option (jS)) × (jS → Option (jS)) × (jS → Option (jS))) (s4 : jS → Option (jS)) (a : jS) : Option (jS) :=
  (if 0 ≤ (a.1 0 22) then (some a) else (Option.bind (fX12_look a) fun (q2 : Int32) => (jlet (fun (a38 : Unit) => (Option.bind (fX12_look a) fun (q3 : Int32) => (jst (ju a 0 21 ((a.1 0 21) + (1 : Int32))) fun (σ4 : jS) => (Option.bind (r.1 σ4) fun (q5 : jS) => (Option.bind (fX12_addStep q5 q3 (0 : Int32)) fun (q6 : jS) => (s4 q6)))))) fun (j38 : (Unit → Option (jS))) => (if q2 = (42 : Int32) then (j38 ()) else (Option.bind (fX12_look a) fun (q7 : Int32) => (if q7 = (47 : Int32) then (j38 ()) else (Option.bind (fX12_look a) fun (q8 : Int32) => (if q8 = (37 : Int32) then (j38 ()) else (some a)))))))))
noncomputable def bX12_product (r : (jS → Option (jS)) × (jS → Option (jS)) × (jS → Option (jS)) × (jS → Option (jS)) × (jS → Option (jS)) × (jS → Option (jS))) (σ : jS) : Option (jS) :=
  (Option.bind (r.1 σ) fun (q1 : jS) => (jloop (fX12_product_B4 r) jN q1))
theorem hyV_X12_sum : yX12_sum.cls = RX12 ∧ yX12_sum.cls ≠ "java/lang/invoke/MethodHandle" ∧ yX12_sum.cls ≠ "java/lang/invoke/VarHandle" ∧ (parseMethodDescriptor yX12_sum.desc).map (fun d => d.parameters.length) = some 0 := ⟨rfl, by decide +kernel, by decide +kernel, by decide +kernel⟩
noncomputable def fX12_sum_B4 (r : (jS → Option (jS)) × (jS → Option (jS)) × (jS → Option (jS)) × (jS → Option (jS)) × (jS → Option (jS)) × (jS → Option (jS))) (s4 : jS → Option (jS)) (a : jS) : Option (jS) :=
  (if 0 ≤ (a.1 0 22) then (some a) else (Option.bind (fX12_look a) fun (q2 : Int32) => (jlet (fun (a29 : Unit) => (Option.bind (fX12_look a) fun (q3 : Int32) => (jst (ju a 0 21 ((a.1 0 21) + (1 : Int32))) fun (σ4 : jS) => (Option.bind (r.2.1 σ4) fun (q5 : jS) => (Option.bind (fX12_addStep q5 q3 (0 : Int32)) fun (q6 : jS) => (s4 q6)))))) fun (j29 : (Unit → Option (jS))) => (if q2 = (43 : Int32) then (j29 ()) else (Option.bind (fX12_look a) fun (q7 : Int32) => (if q7 = (45 : Int32) then (j29 ()) else (some a)))))))
noncomputable def bX12_sum (r : (jS → Option (jS)) × (jS → Option (jS)) × (jS → Option (jS)) × (jS → Option (jS)) × (jS → Option (jS)) × (jS → Option (jS))) (σ : jS) : Option (jS) :=
  (Option.bind (r.2.1 σ) fun (q1 : jS) => (jloop (fX12_sum_B4 r) jN q1))
theorem hyV_X12_compared : yX12_compared.cls = RX12 ∧ yX12_compared.cls ≠ "java/lang/invoke/MethodHandle" ∧ yX12_compared.cls ≠ "java/lang/invoke/VarHandle" ∧ (parseMethodDescriptor yX12_compared.desc).map (fun d => d.parameters.length) = some 0 := ⟨rfl, by decide +kernel, by decide +kernel, by decide +kernel⟩
noncomputable def bX12_compared (r : (jS → Option (jS)) × (jS → Option (jS)) × (jS → Option (jS)) × (jS → Option (jS)) × (jS → Option (jS)) × (jS → Option (jS))) (σ : jS) : Option (jS) :=
  (Option.bind (r.2.2.1 σ) fun (q1 : jS) => (Option.bind (fX12_look q1) fun (q2 : Int32) => (if 0 ≤ (q1.1 0 22) then (some q1) else (jlet (fun (a35 : Unit) => (jst (ju q1 0 21 ((q1.1 0 21) + (1 : Int32))) fun (σ3 : jS) => (Option.bind (r.2.2.1 σ3) fun (q4 : jS) => (Option.bind (fX12_addStep q4 q2 (0 : Int32)) fun (q5 : jS) => (some q5))))) fun (j35 : (Unit → Option (jS))) => (if q2 = (60 : Int32) then (j35 ()) else (if q2 = (61 : Int32) then (j35 ()) else (if q2 = (62 : Int32) then (j35 ()) else (some q1))))))))
theorem hyV_X12_both : yX12_both.cls = RX12 ∧ yX12_both.cls ≠ "java/lang/invoke/MethodHandle" ∧ yX12_both.cls ≠ "java/lang/invoke/VarHandle" ∧ (parseMethodDescriptor yX12_both.desc).map (fun d => d.parameters.length) = some 0 := ⟨rfl, by decide +kernel, by decide +kernel, by decide +kernel⟩
noncomputable def fX12_both_B4 (r : (jS → Option (jS)) × (jS → Option (jS)) × (jS → Option (jS)) × (jS → Option (jS)) × (jS → Option (jS)) × (jS → Option (jS))) (s4 : jS → Option (jS)) (a : jS) : Option (jS) :=
  (if 0 ≤ (a.1 0 22) then (some a) else (Option.bind (fX12_look a) fun (q2 : Int32) => (if q2 = (38 : Int32) then (jst (ju a 0 21 ((a.1 0 21) + (1 : Int32))) fun (σ3 : jS) => (Option.bind (r.2.2.2.1 σ3) fun (q4 : jS) => (Option.bind (fX12_addStep q4 (38 : Int32) (0 : Int32)) fun (q5 : jS) => (s4 q5)))) else (some a))))
noncomputable def bX12_both (r : (jS → Option (jS)) × (jS → Option (jS)) × (jS → Option (jS)) × (jS → Option (jS)) × (jS → Option (jS)) × (jS → Option (jS))) (σ : jS) : Option (jS) :=
  (Option.bind (r.2.2.2.1 σ) fun (q1 : jS) => (jloop (fX12_both_B4 r) jN q1))
theorem hyV_X12_either : yX12_either.cls = RX12 ∧ yX12_either.cls ≠ "java/lang/invoke/MethodHandle" ∧ yX12_either.cls ≠ "java/lang/invoke/VarHandle" ∧ (parseMethodDescriptor yX12_either.desc).map (fun d => d.parameters.length) = some 0 := ⟨rfl, by decide +kernel, by decide +kernel, by decide +kernel⟩
noncomputable def fX12_either_B4 (r : (jS → Option (jS)) × (jS → Option (jS)) × (jS → Option (jS)) × (jS → Option (jS)) × (jS → Option (jS)) × (jS → Option (jS))) (s4 : jS → Option (jS)) (a : jS) : Option (jS) :=
  (if 0 ≤ (a.1 0 22) then (some a) else (Option.bind (fX12_look a) fun (q2 : Int32) => (if q2 = (124 : Int32) then (jst (ju a 0 21 ((a.1 0 21) + (1 : Int32))) fun (σ3 : jS) => (Option.bind (r.2.2.2.2.1 σ3) fun (q4 : jS) => (Option.bind (fX12_addStep q4 (124 : Int32) (0 : Int32)) fun (q5 : jS) => (s4 q5)))) else (some a))))
noncomputable def bX12_either (r : (jS → Option (jS)) × (jS → Option (jS)) × (jS → Option (jS)) × (jS → Option (jS)) × (jS → Option (jS)) × (jS → Option (jS))) (σ : jS) : Option (jS) :=
  (Option.bind (r.2.2.2.2.1 σ) fun (q1 : jS) => (jloop (fX12_either_B4 r) jN q1))
noncomputable def gX12p : Nat → ((jS → Option (jS)) × (jS → Option (jS)) × (jS → Option (jS)) × (jS → Option (jS)) × (jS → Option (jS)) × (jS → Option (jS)))
  | 0 => ((fun _ => none), (fun _ => none), (fun _ => none), (fun _ => none), (fun _ => none), (fun _ => none))
  | n + 1 => (bX12_operand (gX12p n), bX12_product (gX12p n), bX12_sum (gX12p n), bX12_compared (gX12p n), bX12_both (gX12p n), bX12_either (gX12p n))
set_option maxRecDepth 100000 in
set_option maxHeartbeats 8000000 in
theorem kgX12p (l : Launch) (d : jD) (A : Nat → Prop) : ∀ n : Nat, (∀ (σ : jS), jMv l yX12_operand (jws yX12_operand cX12_operand 2 none) { frames := 3 + n, cells := 0, slots := 0, locals := 174 + 21 * n } d wM A [.ref (d.2.1 0)] σ ((gX12p n).1 σ)) ∧ (∀ (σ : jS), jMv l yX12_product (jws yX12_product cX12_product 2 none) { frames := 3 + n, cells := 0, slots := 0, locals := 174 + 21 * n } d wM A [.ref (d.2.1 0)] σ ((gX12p n).2.1 σ)) ∧ (∀ (σ : jS), jMv l yX12_sum (jws yX12_sum cX12_sum 2 none) { frames := 3 + n, cells := 0, slots := 0, locals := 174 + 21 * n } d wM A [.ref (d.2.1 0)] σ ((gX12p n).2.2.1 σ)) ∧ (∀ (σ : jS), jMv l yX12_compared (jws yX12_compared cX12_compared 2 none) { frames := 3 + n, cells := 0, slots := 0, locals := 174 + 21 * n } d wM A [.ref (d.2.1 0)] σ ((gX12p n).2.2.2.1 σ)) ∧ (∀ (σ : jS), jMv l yX12_both (jws yX12_both cX12_both 1 none) { frames := 3 + n, cells := 0, slots := 0, locals := 174 + 21 * n } d wM A [.ref (d.2.1 0)] σ ((gX12p n).2.2.2.2.1 σ)) ∧ (∀ (σ : jS), jMv l yX12_either (jws yX12_either cX12_either 1 none) { frames := 3 + n, cells := 0, slots := 0, locals := 174 + 21 * n } d wM A [.ref (d.2.1 0)] σ ((gX12p n).2.2.2.2.2 σ)) := by
  intro n
  induction n with
  | zero => exact ⟨(fun _  res h => by have h2 : (none : Option (jS)) = some res := h; cases h2), (fun _  res h => by have h2 : (none : Option (jS)) = some res := h; cases h2), (fun _  res h => by have h2 : (none : Option (jS)) = some res := h; cases h2), (fun _  res h => by have h2 : (none : Option (jS)) = some res := h; cases h2), (fun _  res h => by have h2 : (none : Option (jS)) = some res := h; cases h2), (fun _  res h => by have h2 : (none : Option (jS)) = some res := h; cases h2)⟩
  | succ n ih =>
    refine ⟨?_, ?_, ?_, ?_, ?_, ?_⟩
    · intro σ
      refine jStart_v (lv0 := [(0, .ref (d.2.1 0))]) (by decide) rfl (Nat.le_of_ble_eq_true rfl) rfl (fun z hC res => ?_)
      show jJ z d wM A _ _ res σ (bX12_operand (gX12p n) σ) 0 _ _
      unfold bX12_operand
      refine j_aload_n (pc' := 1) hC 0 dX12_operand_0 rfl rfl rfl ?_
      refine j_callV_ir (pc' := 4) (As := []) (st := []) hC (M_at_0 d _) rfl (kX12_look l d A _) (jgV ml_X12_196 im_X12_look se_X12_look in_X12 cd_X12_look) rfl rfl rfl hyV_X12_look ⟨by show 2 + 1 ≤ 3 + (n + 1); omega, by show 8 + (1 + 11) + 130 ≤ 174 + 21 * (n + 1); omega⟩ rfl rfl (Nat.le_of_ble_eq_true rfl) dX12_operand_1 rfl (fun q1 => ?_)
      refine j_istore_n (pc' := 5) (lv' := [(1, .int q1), (0, .ref (d.2.1 0))]) hC dX12_operand_4 rfl (by decide) rfl rfl ?_
      refine j_iload_n (pc' := 6) hC 0 dX12_operand_5 rfl rfl rfl ?_
      refine j_callS_ir (pc' := 9) (As := [.int q1]) (st := []) hC (kX12_nameOf l d A _ _) (jgS ml_X12_204 st_X12_nameOf in_X12 cd_X12_nameOf) rfl rfl rfl hyS_X12_nameOf ⟨by show 2 + 1 ≤ 3 + (n + 1); omega, by show 8 + (1 + 11) + 130 ≤ 174 + 21 * (n + 1); omega⟩ rfl rfl (Nat.le_of_ble_eq_true rfl) dX12_operand_6 rfl (fun q2 => ?_)
      refine j_if_lt (pc' := 12) (tgt := 34) hC dX12_operand_9 (by decide) rfl ?_ ?_
      · refine j_iload_n (pc' := 35) hC 0 dX12_operand_34 rfl rfl rfl ?_
        refine j_bipush (pc' := 37) (v := (33 : Int32)) hC dX12_operand_35 (by decide) rfl ?_
        refine j_let 46 (fun a46 => σ) (fun a46 => [(0, .ref (d.2.1 0)), (1, .int q1)]) (fun a46 => []) (fun a46 => ?_) (fun j46 hj46 => ?_)
        · refine j_aload_n (pc' := 47) hC 0 dX12_operand_46 rfl rfl rfl ?_
          refine j_callV_z (pc' := 50) (As := []) (st := []) hC (M_at_0 d _) rfl (kX12_opens l d A _) (jgV ml_X12_208 im_X12_opens se_X12_opens in_X12 cd_X12_opens) rfl rfl rfl hyV_X12_opens ⟨by show 3 + 1 ≤ 3 + (n + 1); omega, by show 8 + (1 + 11) + 150 ≤ 174 + 21 * (n + 1); omega⟩ rfl rfl (Nat.le_of_ble_eq_true rfl) dX12_operand_47 rfl (fun q3 => ?_)
          refine j_if_ne (pc' := 53) (tgt := 54) hC dX12_operand_50 (by decide) rfl ?_ ?_
          · refine j_aload_n (pc' := 55) hC 0 dX12_operand_54 rfl rfl rfl ?_
            refine j_callV_v (pc' := 58) (As := []) (st := []) hC (M_at_0 d _) rfl (ih.1 _) (jgV ml_X12_212 im_X12_operand se_X12_operand in_X12 cd_X12_operand) rfl rfl rfl hyV_X12_operand ⟨by show 3 + n + 1 ≤ 3 + (n + 1); omega, by show 8 + (2 + 11) + (174 + 21 * n) ≤ 174 + 21 * (n + 1); omega⟩ rfl rfl (Nat.le_of_ble_eq_true rfl) dX12_operand_55 rfl (fun q4 => ?_)
            refine j_aload_n (pc' := 59) hC 0 dX12_operand_58 rfl rfl rfl ?_
            refine j_dup (pc' := 60) hC rfl dX12_operand_59 rfl ?_
            refine j_get (pc' := 63) hC ly_X12 (M_at_0 d _) rfl 23 (by decide) fl_X12_190 rfl dX12_operand_60 rfl ?_
            refine j_iconst (pc' := 64) (v := (1 : Int32)) hC dX12_operand_63 (by decide) rfl ?_
            refine j_isub (pc' := 65) hC dX12_operand_64 rfl ?_
            refine j_put (pc' := 68) hC ly_X12 tyX12 tyX12_ok nmX12 (M_at_0 d _) rfl 23 (by decide) fl_X12_190 rfl rfl rfl rfl (Nat.le_of_ble_eq_true rfl) (M_sf_0_23 d _ _) dX12_operand_65 rfl ?_
            refine j_st (fun σ5 => ?_)
            refine j_aload_n (pc' := 69) hC 0 dX12_operand_68 rfl rfl rfl ?_
            refine j_iload_n (pc' := 70) hC 1 dX12_operand_69 rfl rfl rfl ?_
            refine j_bipush (pc' := 72) (v := (33 : Int32)) hC dX12_operand_70 (by decide) rfl ?_
            refine j_let 80 (fun a80 => σ5) (fun a80 => []) (fun a80 => [.int a80, .ref (d.2.1 0)]) (fun a80 => ?_) (fun j80 hj80 => ?_)
            · refine j_iconst (pc' := 81) (v := (0 : Int32)) hC dX12_operand_80 (by decide) rfl ?_
              refine j_callV_v (pc' := 84) (As := [.int a80, .int (0 : Int32)]) (st := []) hC (M_at_0 d _) rfl (kX12_addStep l d A _ _ _) (jgV ml_X12_200 im_X12_addStep se_X12_addStep in_X12 cd_X12_addStep) rfl rfl rfl hyV_X12_addStep ⟨by show 2 + 1 ≤ 3 + (n + 1); omega, by show 8 + (3 + 11) + 130 ≤ 174 + 21 * (n + 1); omega⟩ rfl rfl (Nat.le_of_ble_eq_true rfl) dX12_operand_81 rfl (fun q6 => ?_)
              refine j_goto (tgt := 154) hC dX12_operand_84 (by decide) ?_
              exact j_ret_v hC dX12_operand_154
            · refine j_icmp_ne (pc' := 75) (tgt := 79) hC dX12_operand_72 (by decide) rfl ?_ ?_
              · refine j_iconst (pc' := 80) (v := (4 : Int32)) hC dX12_operand_79 (by decide) rfl ?_
                exact j_lv (lv' := []) [] rfl (hj80 (4 : Int32))
              · refine j_iconst (pc' := 76) (v := (3 : Int32)) hC dX12_operand_75 (by decide) rfl ?_
                refine j_goto (tgt := 80) hC dX12_operand_76 (by decide) ?_
                exact j_lv (lv' := []) [] rfl (hj80 (3 : Int32))
          · exact j_ret_v hC dX12_operand_53
        · refine j_icmp_eq (pc' := 40) (tgt := 46) hC dX12_operand_37 (by decide) rfl ?_ ?_
          · exact j_lv (lv' := [(0, .ref (d.2.1 0)), (1, .int q1)]) [1, 0] rfl (hj46 ())
          · refine j_iload_n (pc' := 41) hC 0 dX12_operand_40 rfl rfl rfl ?_
            refine j_bipush (pc' := 43) (v := (45 : Int32)) hC dX12_operand_41 (by decide) rfl ?_
            refine j_icmp_ne (pc' := 46) (tgt := 87) hC dX12_operand_43 (by decide) rfl ?_ ?_
            · refine j_iload_n (pc' := 88) hC 0 dX12_operand_87 rfl rfl rfl ?_
              refine j_bipush (pc' := 90) (v := (40 : Int32)) hC dX12_operand_88 (by decide) rfl ?_
              refine j_icmp_ne (pc' := 93) (tgt := 150) hC dX12_operand_90 (by decide) rfl ?_ ?_
              · refine j_aload_n (pc' := 151) hC 1 dX12_operand_150 rfl rfl rfl ?_
                refine j_callV_v (pc' := 154) (As := []) (st := []) hC (M_at_0 d _) rfl (kX12_figure l d A _) (jgV ml_X12_218 im_X12_figure se_X12_figure in_X12 cd_X12_figure) rfl rfl rfl hyV_X12_figure ⟨by show 3 + 1 ≤ 3 + (n + 1); omega, by show 8 + (3 + 11) + 152 ≤ 174 + 21 * (n + 1); omega⟩ rfl rfl (Nat.le_of_ble_eq_true rfl) dX12_operand_151 rfl (fun q7 => ?_)
                exact j_ret_v hC dX12_operand_154
              · refine j_aload_n (pc' := 94) hC 1 dX12_operand_93 rfl rfl rfl ?_
                refine j_callV_z (pc' := 97) (As := []) (st := []) hC (M_at_0 d _) rfl (kX12_opens l d A _) (jgV ml_X12_208 im_X12_opens se_X12_opens in_X12 cd_X12_opens) rfl rfl rfl hyV_X12_opens ⟨by show 3 + 1 ≤ 3 + (n + 1); omega, by show 8 + (1 + 11) + 150 ≤ 174 + 21 * (n + 1); omega⟩ rfl rfl (Nat.le_of_ble_eq_true rfl) dX12_operand_94 rfl (fun q8 => ?_)
                refine j_if_ne (pc' := 100) (tgt := 101) hC dX12_operand_97 (by decide) rfl ?_ ?_
                · refine j_aload_n (pc' := 102) hC 1 dX12_operand_101 rfl rfl rfl ?_
                  refine j_callV_v (pc' := 105) (As := []) (st := []) hC (M_at_0 d _) rfl (ih.2.2.2.2.2 _) (jgV ml_X12_215 im_X12_either se_X12_either in_X12 cd_X12_either) rfl rfl rfl hyV_X12_either ⟨by show 3 + n + 1 ≤ 3 + (n + 1); omega, by show 8 + (1 + 11) + (174 + 21 * n) ≤ 174 + 21 * (n + 1); omega⟩ rfl rfl (Nat.le_of_ble_eq_true rfl) dX12_operand_102 rfl (fun q9 => ?_)
                  refine j_aload_n (pc' := 106) hC 1 dX12_operand_105 rfl rfl rfl ?_
                  refine j_get (pc' := 109) hC ly_X12 (M_at_0 d _) rfl 22 (by decide) fl_X12_184 rfl dX12_operand_106 rfl ?_
                  refine j_if_lt (pc' := 112) (tgt := 113) hC dX12_operand_109 (by decide) rfl ?_ ?_
                  · refine j_aload_n (pc' := 114) hC 1 dX12_operand_113 rfl rfl rfl ?_
                    refine j_callV_ir (pc' := 117) (As := []) (st := []) hC (M_at_0 d _) rfl (kX12_look l d A _) (jgV ml_X12_196 im_X12_look se_X12_look in_X12 cd_X12_look) rfl rfl rfl hyV_X12_look ⟨by show 2 + 1 ≤ 3 + (n + 1); omega, by show 8 + (1 + 11) + 130 ≤ 174 + 21 * (n + 1); omega⟩ rfl rfl (Nat.le_of_ble_eq_true rfl) dX12_operand_114 rfl (fun q10 => ?_)
                    refine j_bipush (pc' := 119) (v := (41 : Int32)) hC dX12_operand_117 (by decide) rfl ?_
                    refine j_icmp_eq (pc' := 122) (tgt := 127) hC dX12_operand_119 (by decide) rfl ?_ ?_
                    · refine j_aload_n (pc' := 128) hC 1 dX12_operand_127 rfl rfl rfl ?_
                      refine j_dup (pc' := 129) hC rfl dX12_operand_128 rfl ?_
                      refine j_get (pc' := 132) hC ly_X12 (M_at_0 d _) rfl 21 (by decide) fl_X12_181 rfl dX12_operand_129 rfl ?_
                      refine j_iconst (pc' := 133) (v := (1 : Int32)) hC dX12_operand_132 (by decide) rfl ?_
                      refine j_iadd (pc' := 134) hC dX12_operand_133 rfl ?_
                      refine j_put (pc' := 137) hC ly_X12 tyX12 tyX12_ok nmX12 (M_at_0 d _) rfl 21 (by decide) fl_X12_181 rfl rfl rfl rfl (Nat.le_of_ble_eq_true rfl) (M_sf_0_21 d _ _) dX12_operand_134 rfl ?_
                      refine j_st (fun σ11 => ?_)
                      refine j_aload_n (pc' := 138) hC 1 dX12_operand_137 rfl rfl rfl ?_
                      refine j_dup (pc' := 139) hC rfl dX12_operand_138 rfl ?_
                      refine j_get (pc' := 142) hC ly_X12 (M_at_0 d _) rfl 23 (by decide) fl_X12_190 rfl dX12_operand_139 rfl ?_
                      refine j_iconst (pc' := 143) (v := (1 : Int32)) hC dX12_operand_142 (by decide) rfl ?_
                      refine j_isub (pc' := 144) hC dX12_operand_143 rfl ?_
                      refine j_put (pc' := 147) hC ly_X12 tyX12 tyX12_ok nmX12 (M_at_0 d _) rfl 23 (by decide) fl_X12_190 rfl rfl rfl rfl (Nat.le_of_ble_eq_true rfl) (M_sf_0_23 d _ _) dX12_operand_144 rfl ?_
                      refine j_st (fun σ12 => ?_)
                      refine j_goto (tgt := 154) hC dX12_operand_147 (by decide) ?_
                      exact j_ret_v hC dX12_operand_154
                    · refine j_aload_n (pc' := 123) hC 1 dX12_operand_122 rfl rfl rfl ?_
                      refine j_callV_v (pc' := 126) (As := []) (st := []) hC (M_at_0 d _) rfl (kX12_faulty l d A _) (jgV ml_X12_193 im_X12_faulty se_X12_faulty in_X12 cd_X12_faulty) rfl rfl rfl hyV_X12_faulty ⟨by show 2 + 1 ≤ 3 + (n + 1); omega, by show 8 + (1 + 11) + 130 ≤ 174 + 21 * (n + 1); omega⟩ rfl rfl (Nat.le_of_ble_eq_true rfl) dX12_operand_123 rfl (fun q13 => ?_)
                      exact j_ret_v hC dX12_operand_126
                  · exact j_ret_v hC dX12_operand_112
                · exact j_ret_v hC dX12_operand_100
            · exact j_lv (lv' := [(0, .ref (d.2.1 0)), (1, .int q1)]) [1, 0] rfl (hj46 ())
      · refine j_aload_n (pc' := 13) hC 1 dX12_operand_12 rfl rfl rfl ?_
        refine j_iconst (pc' := 14) (v := (2 : Int32)) hC dX12_operand_13 (by decide) rfl ?_
        refine j_iload_n (pc' := 15) hC 0 dX12_operand_14 rfl rfl rfl ?_
        refine j_callS_ir (pc' := 18) (As := [.int q1]) (st := [.int (2 : Int32), .ref (d.2.1 0)]) hC (kX12_nameOf l d A _ _) (jgS ml_X12_204 st_X12_nameOf in_X12 cd_X12_nameOf) rfl rfl rfl hyS_X12_nameOf ⟨by show 2 + 1 ≤ 3 + (n + 1); omega, by show 8 + (1 + 11) + 130 ≤ 174 + 21 * (n + 1); omega⟩ rfl rfl (Nat.le_of_ble_eq_true rfl) dX12_operand_15 rfl (fun q14 => ?_)
        refine j_callV_v (pc' := 21) (As := [.int (2 : Int32), .int q14]) (st := []) hC (M_at_0 d _) rfl (kX12_addStep l d A _ _ _) (jgV ml_X12_200 im_X12_addStep se_X12_addStep in_X12 cd_X12_addStep) rfl rfl rfl hyV_X12_addStep ⟨by show 2 + 1 ≤ 3 + (n + 1); omega, by show 8 + (3 + 11) + 130 ≤ 174 + 21 * (n + 1); omega⟩ rfl rfl (Nat.le_of_ble_eq_true rfl) dX12_operand_18 rfl (fun q15 => ?_)
        refine j_aload_n (pc' := 22) hC 1 dX12_operand_21 rfl rfl rfl ?_
        refine j_dup (pc' := 23) hC rfl dX12_operand_22 rfl ?_
        refine j_get (pc' := 26) hC ly_X12 (M_at_0 d _) rfl 21 (by decide) fl_X12_181 rfl dX12_operand_23 rfl ?_
        refine j_iconst (pc' := 27) (v := (1 : Int32)) hC dX12_operand_26 (by decide) rfl ?_
        refine j_iadd (pc' := 28) hC dX12_operand_27 rfl ?_
        refine j_put (pc' := 31) hC ly_X12 tyX12 tyX12_ok nmX12 (M_at_0 d _) rfl 21 (by decide) fl_X12_181 rfl rfl rfl rfl (Nat.le_of_ble_eq_true rfl) (M_sf_0_21 d _ _) dX12_operand_28 rfl ?_
        refine j_st (fun σ16 => ?_)
        refine j_goto (tgt := 154) hC dX12_operand_31 (by decide) ?_
        exact j_ret_v hC dX12_operand_154
    · intro σ
      refine jStart_v (lv0 := [(0, .ref (d.2.1 0))]) (by decide) rfl (Nat.le_of_ble_eq_true rfl) rfl (fun z hC res => ?_)
      show jJ z d wM A _ _ res σ (bX12_product (gX12p n) σ) 0 _ _
      unfold bX12_product
      refine j_aload_n (pc' := 1) hC 0 dX12_product_0 rfl rfl rfl ?_
      refine j_callV_v (pc' := 4) (As := []) (st := []) hC (M_at_0 d _) rfl (ih.1 _) (jgV ml_X12_212 im_X12_operand se_X12_operand in_X12 cd_X12_operand) rfl rfl rfl hyV_X12_operand ⟨by show 3 + n + 1 ≤ 3 + (n + 1); omega, by show 8 + (2 + 11) + (174 + 21 * n) ≤ 174 + 21 * (n + 1); omega⟩ rfl rfl (Nat.le_of_ble_eq_true rfl) dX12_product_1 rfl (fun q1 => ?_)
      refine j_lv (lv' := [(0, .ref (d.2.1 0))]) [0] rfl ?_
      refine j_loop 4 (fun a => a) (fun a => [(0, .ref (d.2.1 0))]) (fun s4 hs4 a => ?_) jN q1
      unfold fX12_product_B4
      refine j_aload_n (pc' := 5) hC 0 dX12_product_4 rfl rfl rfl ?_
      refine j_get (pc' := 8) hC ly_X12 (M_at_0 d _) rfl 22 (by decide) fl_X12_184 rfl dX12_product_5 rfl ?_
      refine j_if_ge (pc' := 11) (tgt := 66) hC dX12_product_8 (by decide) rfl ?_ ?_
      · exact j_ret_v hC dX12_product_66
      · refine j_aload_n (pc' := 12) hC 0 dX12_product_11 rfl rfl rfl ?_
        refine j_callV_ir (pc' := 15) (As := []) (st := []) hC (M_at_0 d _) rfl (kX12_look l d A _) (jgV ml_X12_196 im_X12_look se_X12_look in_X12 cd_X12_look) rfl rfl rfl hyV_X12_look ⟨by show 2 + 1 ≤ 3 + (n + 1); omega, by show 8 + (1 + 11) + 130 ≤ 174 + 21 * (n + 1); omega⟩ rfl rfl (Nat.le_of_ble_eq_true rfl) dX12_product_12 rfl (fun q2 => ?_)
        refine j_bipush (pc' := 17) (v := (42 : Int32)) hC dX12_product_15 (by decide) rfl ?_
        refine j_let 38 (fun a38 => a) (fun a38 => [(0, .ref (d.2.1 0))]) (fun a38 => []) (fun a38 => ?_) (fun j38 hj38 => ?_)
        · refine j_aload_n (pc' := 39) hC 0 dX12_product_38 rfl rfl rfl ?_
          refine j_callV_ir (pc' := 42) (As := []) (st := []) hC (M_at_0 d _) rfl (kX12_look l d A _) (jgV ml_X12_196 im_X12_look se_X12_look in_X12 cd_X12_look) rfl rfl rfl hyV_X12_look ⟨by show 2 + 1 ≤ 3 + (n + 1); omega, by show 8 + (1 + 11) + 130 ≤ 174 + 21 * (n + 1); omega⟩ rfl rfl (Nat.le_of_ble_eq_true rfl) dX12_product_39 rfl (fun q3 => ?_)
          refine j_istore_n (pc' := 43) (lv' := [(1, .int q3), (0, .ref (d.2.1 0))]) hC dX12_product_42 rfl (by decide) rfl rfl ?_
          refine j_aload_n (pc' := 44) hC 1 dX12_product_43 rfl rfl rfl ?_
          refine j_dup (pc' := 45) hC rfl dX12_product_44 rfl ?_
          refine j_get (pc' := 48) hC ly_X12 (M_at_0 d _) rfl 21 (by decide) fl_X12_181 rfl dX12_product_45 rfl ?_
          refine j_iconst (pc' := 49) (v := (1 : Int32)) hC dX12_product_48 (by decide) rfl ?_
          refine j_iadd (pc' := 50) hC dX12_product_49 rfl ?_
          refine j_put (pc' := 53) hC ly_X12 tyX12 tyX12_ok nmX12 (M_at_0 d _) rfl 21 (by decide) fl_X12_181 rfl rfl rfl rfl (Nat.le_of_ble_eq_true rfl) (M_sf_0_21 d _ _) dX12_product_50 rfl ?_
          refine j_st (fun σ4 => ?_)
          refine j_aload_n (pc' := 54) hC 1 dX12_product_53 rfl rfl rfl ?_
          refine j_callV_v (pc' := 57) (As := []) (st := []) hC (M_at_0 d _) rfl (ih.1 _) (jgV ml_X12_212 im_X12_operand se_X12_operand in_X12 cd_X12_operand) rfl rfl rfl hyV_X12_operand ⟨by show 3 + n + 1 ≤ 3 + (n + 1); omega, by show 8 + (2 + 11) + (174 + 21 * n) ≤ 174 + 21 * (n + 1); omega⟩ rfl rfl (Nat.le_of_ble_eq_true rfl) dX12_product_54 rfl (fun q5 => ?_)
          refine j_aload_n (pc' := 58) hC 1 dX12_product_57 rfl rfl rfl ?_
          refine j_iload_n (pc' := 59) hC 0 dX12_product_58 rfl rfl rfl ?_
          refine j_iconst (pc' := 60) (v := (0 : Int32)) hC dX12_product_59 (by decide) rfl ?_
          refine j_callV_v (pc' := 63) (As := [.int q3, .int (0 : Int32)]) (st := []) hC (M_at_0 d _) rfl (kX12_addStep l d A _ _ _) (jgV ml_X12_200 im_X12_addStep se_X12_addStep in_X12 cd_X12_addStep) rfl rfl rfl hyV_X12_addStep ⟨by show 2 + 1 ≤ 3 + (n + 1); omega, by show 8 + (3 + 11) + 130 ≤ 174 + 21 * (n + 1); omega⟩ rfl rfl (Nat.le_of_ble_eq_true rfl) dX12_product_60 rfl (fun q6 => ?_)
          refine j_goto (tgt := 4) hC dX12_product_63 (by decide) ?_
          exact j_lv (lv' := [(0, .ref (d.2.1 0))]) [1] rfl (hs4 q6)
        · refine j_icmp_eq (pc' := 20) (tgt := 38) hC dX12_product_17 (by decide) rfl ?_ ?_
          · exact j_lv (lv' := [(0, .ref (d.2.1 0))]) [0] rfl (hj38 ())
          · refine j_aload_n (pc' := 21) hC 0 dX12_product_20 rfl rfl rfl ?_
            refine j_callV_ir (pc' := 24) (As := []) (st := []) hC (M_at_0 d _) rfl (kX12_look l d A _) (jgV ml_X12_196 im_X12_look se_X12_look in_X12 cd_X12_look) rfl rfl rfl hyV_X12_look ⟨by show 2 + 1 ≤ 3 + (n + 1); omega, by show 8 + (1 + 11) + 130 ≤ 174 + 21 * (n + 1); omega⟩ rfl rfl (Nat.le_of_ble_eq_true rfl) dX12_product_21 rfl (fun q7 => ?_)
            refine j_bipush (pc' := 26) (v := (47 : Int32)) hC dX12_product_24 (by decide) rfl ?_
            refine j_icmp_eq (pc' := 29) (tgt := 38) hC dX12_product_26 (by decide) rfl ?_ ?_
            · exact j_lv (lv' := [(0, .ref (d.2.1 0))]) [0] rfl (hj38 ())
            · refine j_aload_n (pc' := 30) hC 0 dX12_product_29 rfl rfl rfl ?_
              refine j_callV_ir (pc' := 33) (As := []) (st := []) hC (M_at_0 d _) rfl (kX12_look l d A _) (jgV ml_X12_196 im_X12_look se_X12_look in_X12 cd_X12_look) rfl rfl rfl hyV_X12_look ⟨by show 2 + 1 ≤ 3 + (n + 1); omega, by show 8 + (1 + 11) + 130 ≤ 174 + 21 * (n + 1); omega⟩ rfl rfl (Nat.le_of_ble_eq_true rfl) dX12_product_30 rfl (fun q8 => ?_)
              refine j_bipush (pc' := 35) (v := (37 : Int32)) hC dX12_product_33 (by decide) rfl ?_
              refine j_icmp_ne (pc' := 38) (tgt := 66) hC dX12_product_35 (by decide) rfl ?_ ?_
              · exact j_ret_v hC dX12_product_66
              · exact j_lv (lv' := [(0, .ref (d.2.1 0))]) [0] rfl (hj38 ())
    · intro σ
      refine jStart_v (lv0 := [(0, .ref (d.2.1 0))]) (by decide) rfl (Nat.le_of_ble_eq_true rfl) rfl (fun z hC res => ?_)
      show jJ z d wM A _ _ res σ (bX12_sum (gX12p n) σ) 0 _ _
      unfold bX12_sum
      refine j_aload_n (pc' := 1) hC 0 dX12_sum_0 rfl rfl rfl ?_
      refine j_callV_v (pc' := 4) (As := []) (st := []) hC (M_at_0 d _) rfl (ih.2.1 _) (jgV ml_X12_221 im_X12_product se_X12_product in_X12 cd_X12_product) rfl rfl rfl hyV_X12_product ⟨by show 3 + n + 1 ≤ 3 + (n + 1); omega, by show 8 + (2 + 11) + (174 + 21 * n) ≤ 174 + 21 * (n + 1); omega⟩ rfl rfl (Nat.le_of_ble_eq_true rfl) dX12_sum_1 rfl (fun q1 => ?_)
      refine j_lv (lv' := [(0, .ref (d.2.1 0))]) [0] rfl ?_
      refine j_loop 4 (fun a => a) (fun a => [(0, .ref (d.2.1 0))]) (fun s4 hs4 a => ?_) jN q1
      unfold fX12_sum_B4
      refine j_aload_n (pc' := 5) hC 0 dX12_sum_4 rfl rfl rfl ?_
      refine j_get (pc' := 8) hC ly_X12 (M_at_0 d _) rfl 22 (by decide) fl_X12_184 rfl dX12_sum_5 rfl ?_
      refine j_if_ge (pc' := 11) (tgt := 57) hC dX12_sum_8 (by decide) rfl ?_ ?_
      · exact j_ret_v hC dX12_sum_57
      · refine j_aload_n (pc' := 12) hC 0 dX12_sum_11 rfl rfl rfl ?_
        refine j_callV_ir (pc' := 15) (As := []) (st := []) hC (M_at_0 d _) rfl (kX12_look l d A _) (jgV ml_X12_196 im_X12_look se_X12_look in_X12 cd_X12_look) rfl rfl rfl hyV_X12_look ⟨by show 2 + 1 ≤ 3 + (n + 1); omega, by show 8 + (1 + 11) + 130 ≤ 174 + 21 * (n + 1); omega⟩ rfl rfl (Nat.le_of_ble_eq_true rfl) dX12_sum_12 rfl (fun q2 => ?_)
        refine j_bipush (pc' := 17) (v := (43 : Int32)) hC dX12_sum_15 (by decide) rfl ?_
        refine j_let 29 (fun a29 => a) (fun a29 => [(0, .ref (d.2.1 0))]) (fun a29 => []) (fun a29 => ?_) (fun j29 hj29 => ?_)
        · refine j_aload_n (pc' := 30) hC 0 dX12_sum_29 rfl rfl rfl ?_
          refine j_callV_ir (pc' := 33) (As := []) (st := []) hC (M_at_0 d _) rfl (kX12_look l d A _) (jgV ml_X12_196 im_X12_look se_X12_look in_X12 cd_X12_look) rfl rfl rfl hyV_X12_look ⟨by show 2 + 1 ≤ 3 + (n + 1); omega, by show 8 + (1 + 11) + 130 ≤ 174 + 21 * (n + 1); omega⟩ rfl rfl (Nat.le_of_ble_eq_true rfl) dX12_sum_30 rfl (fun q3 => ?_)
          refine j_istore_n (pc' := 34) (lv' := [(1, .int q3), (0, .ref (d.2.1 0))]) hC dX12_sum_33 rfl (by decide) rfl rfl ?_
          refine j_aload_n (pc' := 35) hC 1 dX12_sum_34 rfl rfl rfl ?_
          refine j_dup (pc' := 36) hC rfl dX12_sum_35 rfl ?_
          refine j_get (pc' := 39) hC ly_X12 (M_at_0 d _) rfl 21 (by decide) fl_X12_181 rfl dX12_sum_36 rfl ?_
          refine j_iconst (pc' := 40) (v := (1 : Int32)) hC dX12_sum_39 (by decide) rfl ?_
          refine j_iadd (pc' := 41) hC dX12_sum_40 rfl ?_
          refine j_put (pc' := 44) hC ly_X12 tyX12 tyX12_ok nmX12 (M_at_0 d _) rfl 21 (by decide) fl_X12_181 rfl rfl rfl rfl (Nat.le_of_ble_eq_true rfl) (M_sf_0_21 d _ _) dX12_sum_41 rfl ?_
          refine j_st (fun σ4 => ?_)
          refine j_aload_n (pc' := 45) hC 1 dX12_sum_44 rfl rfl rfl ?_
          refine j_callV_v (pc' := 48) (As := []) (st := []) hC (M_at_0 d _) rfl (ih.2.1 _) (jgV ml_X12_221 im_X12_product se_X12_product in_X12 cd_X12_product) rfl rfl rfl hyV_X12_product ⟨by show 3 + n + 1 ≤ 3 + (n + 1); omega, by show 8 + (2 + 11) + (174 + 21 * n) ≤ 174 + 21 * (n + 1); omega⟩ rfl rfl (Nat.le_of_ble_eq_true rfl) dX12_sum_45 rfl (fun q5 => ?_)
          refine j_aload_n (pc' := 49) hC 1 dX12_sum_48 rfl rfl rfl ?_
          refine j_iload_n (pc' := 50) hC 0 dX12_sum_49 rfl rfl rfl ?_
          refine j_iconst (pc' := 51) (v := (0 : Int32)) hC dX12_sum_50 (by decide) rfl ?_
          refine j_callV_v (pc' := 54) (As := [.int q3, .int (0 : Int32)]) (st := []) hC (M_at_0 d _) rfl (kX12_addStep l d A _ _ _) (jgV ml_X12_200 im_X12_addStep se_X12_addStep in_X12 cd_X12_addStep) rfl rfl rfl hyV_X12_addStep ⟨by show 2 + 1 ≤ 3 + (n + 1); omega, by show 8 + (3 + 11) + 130 ≤ 174 + 21 * (n + 1); omega⟩ rfl rfl (Nat.le_of_ble_eq_true rfl) dX12_sum_51 rfl (fun q6 => ?_)
          refine j_goto (tgt := 4) hC dX12_sum_54 (by decide) ?_
          exact j_lv (lv' := [(0, .ref (d.2.1 0))]) [1] rfl (hs4 q6)
        · refine j_icmp_eq (pc' := 20) (tgt := 29) hC dX12_sum_17 (by decide) rfl ?_ ?_
          · exact j_lv (lv' := [(0, .ref (d.2.1 0))]) [0] rfl (hj29 ())
          · refine j_aload_n (pc' := 21) hC 0 dX12_sum_20 rfl rfl rfl ?_
            refine j_callV_ir (pc' := 24) (As := []) (st := []) hC (M_at_0 d _) rfl (kX12_look l d A _) (jgV ml_X12_196 im_X12_look se_X12_look in_X12 cd_X12_look) rfl rfl rfl hyV_X12_look ⟨by show 2 + 1 ≤ 3 + (n + 1); omega, by show 8 + (1 + 11) + 130 ≤ 174 + 21 * (n + 1); omega⟩ rfl rfl (Nat.le_of_ble_eq_true rfl) dX12_sum_21 rfl (fun q7 => ?_)
            refine j_bipush (pc' := 26) (v := (45 : Int32)) hC dX12_sum_24 (by decide) rfl ?_
            refine j_icmp_ne (pc' := 29) (tgt := 57) hC dX12_sum_26 (by decide) rfl ?_ ?_
            · exact j_ret_v hC dX12_sum_57
            · exact j_lv (lv' := [(0, .ref (d.2.1 0))]) [0] rfl (hj29 ())
    · intro σ
      refine jStart_v (lv0 := [(0, .ref (d.2.1 0))]) (by decide) rfl (Nat.le_of_ble_eq_true rfl) rfl (fun z hC res => ?_)
      show jJ z d wM A _ _ res σ (bX12_compared (gX12p n) σ) 0 _ _
      unfold bX12_compared
      refine j_aload_n (pc' := 1) hC 0 dX12_compared_0 rfl rfl rfl ?_
      refine j_callV_v (pc' := 4) (As := []) (st := []) hC (M_at_0 d _) rfl (ih.2.2.1 _) (jgV ml_X12_224 im_X12_sum se_X12_sum in_X12 cd_X12_sum) rfl rfl rfl hyV_X12_sum ⟨by show 3 + n + 1 ≤ 3 + (n + 1); omega, by show 8 + (2 + 11) + (174 + 21 * n) ≤ 174 + 21 * (n + 1); omega⟩ rfl rfl (Nat.le_of_ble_eq_true rfl) dX12_compared_1 rfl (fun q1 => ?_)
      refine j_aload_n (pc' := 5) hC 0 dX12_compared_4 rfl rfl rfl ?_
      refine j_callV_ir (pc' := 8) (As := []) (st := []) hC (M_at_0 d _) rfl (kX12_look l d A _) (jgV ml_X12_196 im_X12_look se_X12_look in_X12 cd_X12_look) rfl rfl rfl hyV_X12_look ⟨by show 2 + 1 ≤ 3 + (n + 1); omega, by show 8 + (1 + 11) + 130 ≤ 174 + 21 * (n + 1); omega⟩ rfl rfl (Nat.le_of_ble_eq_true rfl) dX12_compared_5 rfl (fun q2 => ?_)
      refine j_istore_n (pc' := 9) (lv' := [(1, .int q2), (0, .ref (d.2.1 0))]) hC dX12_compared_8 rfl (by decide) rfl rfl ?_
      refine j_aload_n (pc' := 10) hC 1 dX12_compared_9 rfl rfl rfl ?_
      refine j_get (pc' := 13) hC ly_X12 (M_at_0 d _) rfl 22 (by decide) fl_X12_184 rfl dX12_compared_10 rfl ?_
      refine j_if_ge (pc' := 16) (tgt := 34) hC dX12_compared_13 (by decide) rfl ?_ ?_
      · exact j_ret_v hC dX12_compared_34
      · refine j_iload_n (pc' := 17) hC 0 dX12_compared_16 rfl rfl rfl ?_
        refine j_bipush (pc' := 19) (v := (60 : Int32)) hC dX12_compared_17 (by decide) rfl ?_
        refine j_let 35 (fun a35 => q1) (fun a35 => [(0, .ref (d.2.1 0)), (1, .int q2)]) (fun a35 => []) (fun a35 => ?_) (fun j35 hj35 => ?_)
        · refine j_aload_n (pc' := 36) hC 0 dX12_compared_35 rfl rfl rfl ?_
          refine j_dup (pc' := 37) hC rfl dX12_compared_36 rfl ?_
          refine j_get (pc' := 40) hC ly_X12 (M_at_0 d _) rfl 21 (by decide) fl_X12_181 rfl dX12_compared_37 rfl ?_
          refine j_iconst (pc' := 41) (v := (1 : Int32)) hC dX12_compared_40 (by decide) rfl ?_
          refine j_iadd (pc' := 42) hC dX12_compared_41 rfl ?_
          refine j_put (pc' := 45) hC ly_X12 tyX12 tyX12_ok nmX12 (M_at_0 d _) rfl 21 (by decide) fl_X12_181 rfl rfl rfl rfl (Nat.le_of_ble_eq_true rfl) (M_sf_0_21 d _ _) dX12_compared_42 rfl ?_
          refine j_st (fun σ3 => ?_)
          refine j_aload_n (pc' := 46) hC 0 dX12_compared_45 rfl rfl rfl ?_
          refine j_callV_v (pc' := 49) (As := []) (st := []) hC (M_at_0 d _) rfl (ih.2.2.1 _) (jgV ml_X12_224 im_X12_sum se_X12_sum in_X12 cd_X12_sum) rfl rfl rfl hyV_X12_sum ⟨by show 3 + n + 1 ≤ 3 + (n + 1); omega, by show 8 + (2 + 11) + (174 + 21 * n) ≤ 174 + 21 * (n + 1); omega⟩ rfl rfl (Nat.le_of_ble_eq_true rfl) dX12_compared_46 rfl (fun q4 => ?_)
          refine j_aload_n (pc' := 50) hC 0 dX12_compared_49 rfl rfl rfl ?_
          refine j_iload_n (pc' := 51) hC 1 dX12_compared_50 rfl rfl rfl ?_
          refine j_iconst (pc' := 52) (v := (0 : Int32)) hC dX12_compared_51 (by decide) rfl ?_
          refine j_callV_v (pc' := 55) (As := [.int q2, .int (0 : Int32)]) (st := []) hC (M_at_0 d _) rfl (kX12_addStep l d A _ _ _) (jgV ml_X12_200 im_X12_addStep se_X12_addStep in_X12 cd_X12_addStep) rfl rfl rfl hyV_X12_addStep ⟨by show 2 + 1 ≤ 3 + (n + 1); omega, by show 8 + (3 + 11) + 130 ≤ 174 + 21 * (n + 1); omega⟩ rfl rfl (Nat.le_of_ble_eq_true rfl) dX12_compared_52 rfl (fun q5 => ?_)
          exact j_ret_v hC dX12_compared_55
        · refine j_icmp_eq (pc' := 22) (tgt := 35) hC dX12_compared_19 (by decide) rfl ?_ ?_
          · exact j_lv (lv' := [(0, .ref (d.2.1 0)), (1, .int q2)]) [1, 0] rfl (hj35 ())
          · refine j_iload_n (pc' := 23) hC 0 dX12_compared_22 rfl rfl rfl ?_
            refine j_bipush (pc' := 25) (v := (61 : Int32)) hC dX12_compared_23 (by decide) rfl ?_
            refine j_icmp_eq (pc' := 28) (tgt := 35) hC dX12_compared_25 (by decide) rfl ?_ ?_
            · exact j_lv (lv' := [(0, .ref (d.2.1 0)), (1, .int q2)]) [1, 0] rfl (hj35 ())
            · refine j_iload_n (pc' := 29) hC 0 dX12_compared_28 rfl rfl rfl ?_
              refine j_bipush (pc' := 31) (v := (62 : Int32)) hC dX12_compared_29 (by decide) rfl ?_
              refine j_icmp_eq (pc' := 34) (tgt := 35) hC dX12_compared_31 (by decide) rfl ?_ ?_
              · exact j_lv (lv' := [(0, .ref (d.2.1 0)), (1, .int q2)]) [1, 0] rfl (hj35 ())
              · exact j_ret_v hC dX12_compared_34
    · intro σ
      refine jStart_v (lv0 := [(0, .ref (d.2.1 0))]) (by decide) rfl (Nat.le_of_ble_eq_true rfl) rfl (fun z hC res => ?_)
      show jJ z d wM A _ _ res σ (bX12_both (gX12p n) σ) 0 _ _
      unfold bX12_both
      refine j_aload_n (pc' := 1) hC 0 dX12_both_0 rfl rfl rfl ?_
      refine j_callV_v (pc' := 4) (As := []) (st := []) hC (M_at_0 d _) rfl (ih.2.2.2.1 _) (jgV ml_X12_227 im_X12_compared se_X12_compared in_X12 cd_X12_compared) rfl rfl rfl hyV_X12_compared ⟨by show 3 + n + 1 ≤ 3 + (n + 1); omega, by show 8 + (2 + 11) + (174 + 21 * n) ≤ 174 + 21 * (n + 1); omega⟩ rfl rfl (Nat.le_of_ble_eq_true rfl) dX12_both_1 rfl (fun q1 => ?_)
      refine j_lv (lv' := [(0, .ref (d.2.1 0))]) [0] rfl ?_
      refine j_loop 4 (fun a => a) (fun a => [(0, .ref (d.2.1 0))]) (fun s4 hs4 a => ?_) jN q1
      unfold fX12_both_B4
      refine j_aload_n (pc' := 5) hC 0 dX12_both_4 rfl rfl rfl ?_
      refine j_get (pc' := 8) hC ly_X12 (M_at_0 d _) rfl 22 (by decide) fl_X12_184 rfl dX12_both_5 rfl ?_
      refine j_if_ge (pc' := 11) (tgt := 44) hC dX12_both_8 (by decide) rfl ?_ ?_
      · exact j_ret_v hC dX12_both_44
      · refine j_aload_n (pc' := 12) hC 0 dX12_both_11 rfl rfl rfl ?_
        refine j_callV_ir (pc' := 15) (As := []) (st := []) hC (M_at_0 d _) rfl (kX12_look l d A _) (jgV ml_X12_196 im_X12_look se_X12_look in_X12 cd_X12_look) rfl rfl rfl hyV_X12_look ⟨by show 2 + 1 ≤ 3 + (n + 1); omega, by show 8 + (1 + 11) + 130 ≤ 174 + 21 * (n + 1); omega⟩ rfl rfl (Nat.le_of_ble_eq_true rfl) dX12_both_12 rfl (fun q2 => ?_)
        refine j_bipush (pc' := 17) (v := (38 : Int32)) hC dX12_both_15 (by decide) rfl ?_
        refine j_icmp_ne (pc' := 20) (tgt := 44) hC dX12_both_17 (by decide) rfl ?_ ?_
        · exact j_ret_v hC dX12_both_44
        · refine j_aload_n (pc' := 21) hC 0 dX12_both_20 rfl rfl rfl ?_
          refine j_dup (pc' := 22) hC rfl dX12_both_21 rfl ?_
          refine j_get (pc' := 25) hC ly_X12 (M_at_0 d _) rfl 21 (by decide) fl_X12_181 rfl dX12_both_22 rfl ?_
          refine j_iconst (pc' := 26) (v := (1 : Int32)) hC dX12_both_25 (by decide) rfl ?_
          refine j_iadd (pc' := 27) hC dX12_both_26 rfl ?_
          refine j_put (pc' := 30) hC ly_X12 tyX12 tyX12_ok nmX12 (M_at_0 d _) rfl 21 (by decide) fl_X12_181 rfl rfl rfl rfl (Nat.le_of_ble_eq_true rfl) (M_sf_0_21 d _ _) dX12_both_27 rfl ?_
          refine j_st (fun σ3 => ?_)
          refine j_aload_n (pc' := 31) hC 0 dX12_both_30 rfl rfl rfl ?_
          refine j_callV_v (pc' := 34) (As := []) (st := []) hC (M_at_0 d _) rfl (ih.2.2.2.1 _) (jgV ml_X12_227 im_X12_compared se_X12_compared in_X12 cd_X12_compared) rfl rfl rfl hyV_X12_compared ⟨by show 3 + n + 1 ≤ 3 + (n + 1); omega, by show 8 + (2 + 11) + (174 + 21 * n) ≤ 174 + 21 * (n + 1); omega⟩ rfl rfl (Nat.le_of_ble_eq_true rfl) dX12_both_31 rfl (fun q4 => ?_)
          refine j_aload_n (pc' := 35) hC 0 dX12_both_34 rfl rfl rfl ?_
          refine j_bipush (pc' := 37) (v := (38 : Int32)) hC dX12_both_35 (by decide) rfl ?_
          refine j_iconst (pc' := 38) (v := (0 : Int32)) hC dX12_both_37 (by decide) rfl ?_
          refine j_callV_v (pc' := 41) (As := [.int (38 : Int32), .int (0 : Int32)]) (st := []) hC (M_at_0 d _) rfl (kX12_addStep l d A _ _ _) (jgV ml_X12_200 im_X12_addStep se_X12_addStep in_X12 cd_X12_addStep) rfl rfl rfl hyV_X12_addStep ⟨by show 2 + 1 ≤ 3 + (n + 1); omega, by show 8 + (3 + 11) + 130 ≤ 174 + 21 * (n + 1); omega⟩ rfl rfl (Nat.le_of_ble_eq_true rfl) dX12_both_38 rfl (fun q5 => ?_)
          refine j_goto (tgt := 4) hC dX12_both_41 (by decide) ?_
          exact j_lv (lv' := [(0, .ref (d.2.1 0))]) [0] rfl (hs4 q5)
    · intro σ
      refine jStart_v (lv0 := [(0, .ref (d.2.1 0))]) (by decide) rfl (Nat.le_of_ble_eq_true rfl) rfl (fun z hC res => ?_)
      show jJ z d wM A _ _ res σ (bX12_either (gX12p n) σ) 0 _ _
      unfold bX12_either
      refine j_aload_n (pc' := 1) hC 0 dX12_either_0 rfl rfl rfl ?_
      refine j_callV_v (pc' := 4) (As := []) (st := []) hC (M_at_0 d _) rfl (ih.2.2.2.2.1 _) (jgV ml_X12_230 im_X12_both se_X12_both in_X12 cd_X12_both) rfl rfl rfl hyV_X12_both ⟨by show 3 + n + 1 ≤ 3 + (n + 1); omega, by show 8 + (1 + 11) + (174 + 21 * n) ≤ 174 + 21 * (n + 1); omega⟩ rfl rfl (Nat.le_of_ble_eq_true rfl) dX12_either_1 rfl (fun q1 => ?_)
      refine j_lv (lv' := [(0, .ref (d.2.1 0))]) [0] rfl ?_
      refine j_loop 4 (fun a => a) (fun a => [(0, .ref (d.2.1 0))]) (fun s4 hs4 a => ?_) jN q1
      unfold fX12_either_B4
      refine j_aload_n (pc' := 5) hC 0 dX12_either_4 rfl rfl rfl ?_
      refine j_get (pc' := 8) hC ly_X12 (M_at_0 d _) rfl 22 (by decide) fl_X12_184 rfl dX12_either_5 rfl ?_
      refine j_if_ge (pc' := 11) (tgt := 44) hC dX12_either_8 (by decide) rfl ?_ ?_
      · exact j_ret_v hC dX12_either_44
      · refine j_aload_n (pc' := 12) hC 0 dX12_either_11 rfl rfl rfl ?_
        refine j_callV_ir (pc' := 15) (As := []) (st := []) hC (M_at_0 d _) rfl (kX12_look l d A _) (jgV ml_X12_196 im_X12_look se_X12_look in_X12 cd_X12_look) rfl rfl rfl hyV_X12_look ⟨by show 2 + 1 ≤ 3 + (n + 1); omega, by show 8 + (1 + 11) + 130 ≤ 174 + 21 * (n + 1); omega⟩ rfl rfl (Nat.le_of_ble_eq_true rfl) dX12_either_12 rfl (fun q2 => ?_)
        refine j_bipush (pc' := 17) (v := (124 : Int32)) hC dX12_either_15 (by decide) rfl ?_
        refine j_icmp_ne (pc' := 20) (tgt := 44) hC dX12_either_17 (by decide) rfl ?_ ?_
        · exact j_ret_v hC dX12_either_44
        · refine j_aload_n (pc' := 21) hC 0 dX12_either_20 rfl rfl rfl ?_
          refine j_dup (pc' := 22) hC rfl dX12_either_21 rfl ?_
          refine j_get (pc' := 25) hC ly_X12 (M_at_0 d _) rfl 21 (by decide) fl_X12_181 rfl dX12_either_22 rfl ?_
          refine j_iconst (pc' := 26) (v := (1 : Int32)) hC dX12_either_25 (by decide) rfl ?_
          refine j_iadd (pc' := 27) hC dX12_either_26 rfl ?_
          refine j_put (pc' := 30) hC ly_X12 tyX12 tyX12_ok nmX12 (M_at_0 d _) rfl 21 (by decide) fl_X12_181 rfl rfl rfl rfl (Nat.le_of_ble_eq_true rfl) (M_sf_0_21 d _ _) dX12_either_27 rfl ?_
          refine j_st (fun σ3 => ?_)
          refine j_aload_n (pc' := 31) hC 0 dX12_either_30 rfl rfl rfl ?_
          refine j_callV_v (pc' := 34) (As := []) (st := []) hC (M_at_0 d _) rfl (ih.2.2.2.2.1 _) (jgV ml_X12_230 im_X12_both se_X12_both in_X12 cd_X12_both) rfl rfl rfl hyV_X12_both ⟨by show 3 + n + 1 ≤ 3 + (n + 1); omega, by show 8 + (1 + 11) + (174 + 21 * n) ≤ 174 + 21 * (n + 1); omega⟩ rfl rfl (Nat.le_of_ble_eq_true rfl) dX12_either_31 rfl (fun q4 => ?_)
          refine j_aload_n (pc' := 35) hC 0 dX12_either_34 rfl rfl rfl ?_
          refine j_bipush (pc' := 37) (v := (124 : Int32)) hC dX12_either_35 (by decide) rfl ?_
          refine j_iconst (pc' := 38) (v := (0 : Int32)) hC dX12_either_37 (by decide) rfl ?_
          refine j_callV_v (pc' := 41) (As := [.int (124 : Int32), .int (0 : Int32)]) (st := []) hC (M_at_0 d _) rfl (kX12_addStep l d A _ _ _) (jgV ml_X12_200 im_X12_addStep se_X12_addStep in_X12 cd_X12_addStep) rfl rfl rfl hyV_X12_addStep ⟨by show 2 + 1 ≤ 3 + (n + 1); omega, by show 8 + (3 + 11) + 130 ≤ 174 + 21 * (n + 1); omega⟩ rfl rfl (Nat.le_of_ble_eq_true rfl) dX12_either_38 rfl (fun q5 => ?_)
          refine j_goto (tgt := 4) hC dX12_either_41 (by decide) ?_
          exact j_lv (lv' := [(0, .ref (d.2.1 0))]) [0] rfl (hs4 q5)
theorem hyV_X12_line : yX12_line.cls = RX12 ∧ yX12_line.cls ≠ "java/lang/invoke/MethodHandle" ∧ yX12_line.cls ≠ "java/lang/invoke/VarHandle" ∧ (parseMethodDescriptor yX12_line.desc).map (fun d => d.parameters.length) = some 0 := ⟨rfl, by decide +kernel, by decide +kernel, by decide +kernel⟩
noncomputable def fX12_line (σ : jS) : Option (jS) :=
  (ob (1 : Int32) 2 (ob ((61 : Int32) + (σ.1 15 ((1 : Int32)).toNatClampNeg)) 122 (jst (ju σ 16 (((61 : Int32) + (σ.1 15 ((1 : Int32)).toNatClampNeg))).toNatClampNeg (vp_nar .short ((σ.1 0 24).toInt16.toInt32))) fun (σ1 : jS) => (Option.bind ((gX12p jG).2.2.2.2.2 σ1) fun (q2 : jS) => (jlet (fun (a66 : jS) => (ob ((61 : Int32) + (σ.1 15 ((1 : Int32)).toNatClampNeg)) 122 (jst (ju a66 17 (((61 : Int32) + (σ.1 15 ((1 : Int32)).toNatClampNeg))).toNatClampNeg (vp_nar .short ((a66.1 0 24).toInt16.toInt32))) fun (σ3 : jS) => (ob (1 : Int32) 2 (ob (1 : Int32) 2 (jst (ju σ3 15 ((1 : Int32)).toNatClampNeg ((σ3.1 15 ((1 : Int32)).toNatClampNeg) + (1 : Int32))) fun (σ4 : jS) => (some σ4))))))) fun (j66 : (jS → Option (jS))) => (if 0 ≤ (q2.1 0 22) then (j66 q2) else (Option.bind (fX12_look q2) fun (q5 : Int32) => (if q5 = (63 : Int32) then (jst (ju q2 0 21 ((q2.1 0 21) + (1 : Int32))) fun (σ6 : jS) => (ob ((61 : Int32) + (σ.1 15 ((1 : Int32)).toNatClampNeg)) 122 (jst (ju σ6 16 (((61 : Int32) + (σ.1 15 ((1 : Int32)).toNatClampNeg))).toNatClampNeg (vp_nar .short ((σ6.1 0 24).toInt16.toInt32))) fun (σ7 : jS) => (Option.bind ((gX12p jG).2.2.2.2.2 σ7) fun (q8 : jS) => (j66 q8))))) else (j66 q2)))))))))
set_option maxRecDepth 100000 in
set_option maxHeartbeats 4000000 in
theorem kX12_line (l : Launch) (d : jD) (A : Nat → Prop) (σ : jS) : jMv l yX12_line (jws yX12_line cX12_line 2 none) { frames := 104, cells := 0, slots := 0, locals := 2294 } d wM A [.ref (d.2.1 0)] σ (fX12_line σ) := by
  refine jStart_v (lv0 := [(0, .ref (d.2.1 0))]) (by decide) rfl (Nat.le_of_ble_eq_true rfl) rfl (fun z hC res => ?_)
  unfold fX12_line
  refine j_bipush (pc' := 2) (v := (61 : Int32)) hC dX12_line_0 (by decide) rfl ?_
  refine j_aload_n (pc' := 3) hC 0 dX12_line_2 rfl rfl rfl ?_
  refine j_get (pc' := 6) hC ly_X12 (M_at_0 d _) rfl 27 (by decide) fl_X12_60 rfl dX12_line_3 rfl ?_
  refine j_iconst (pc' := 7) (v := (1 : Int32)) hC dX12_line_6 (by decide) rfl ?_
  refine j_iald (pc' := 8) hC (M_at_15 d _) dX12_line_7 rfl ?_
  refine j_iadd (pc' := 9) hC dX12_line_8 rfl ?_
  refine j_istore_n (pc' := 10) (lv' := [(1, .int ((61 : Int32) + (σ.1 15 ((1 : Int32)).toNatClampNeg))), (0, .ref (d.2.1 0))]) hC dX12_line_9 rfl (by decide) rfl rfl ?_
  refine j_aload_n (pc' := 11) hC 1 dX12_line_10 rfl rfl rfl ?_
  refine j_get (pc' := 14) hC ly_X12 (M_at_0 d _) rfl 28 (by decide) fl_X12_63 rfl dX12_line_11 rfl ?_
  refine j_iload_n (pc' := 15) hC 0 dX12_line_14 rfl rfl rfl ?_
  refine j_aload_n (pc' := 16) hC 1 dX12_line_15 rfl rfl rfl ?_
  refine j_get (pc' := 19) hC ly_X12 (M_at_0 d _) rfl 24 (by decide) fl_X12_187 rfl dX12_line_16 rfl ?_
  refine j_i2s (pc' := 20) hC dX12_line_19 rfl ?_
  refine j_sast (pc' := 21) hC (M_at_16 d _) (M_sa_16 d _ _) dX12_line_20 rfl ?_
  refine j_st (fun σ1 => ?_)
  refine j_aload_n (pc' := 22) hC 1 dX12_line_21 rfl rfl rfl ?_
  refine j_callV_v (pc' := 25) (As := []) (st := []) hC (M_at_0 d _) rfl ((kgX12p l d A jG).2.2.2.2.2 _) (jgV ml_X12_215 im_X12_either se_X12_either in_X12 cd_X12_either) rfl rfl rfl hyV_X12_either ⟨Nat.le_of_ble_eq_true rfl, Nat.le_of_ble_eq_true rfl⟩ rfl rfl (Nat.le_of_ble_eq_true rfl) dX12_line_22 rfl (fun q2 => ?_)
  refine j_aload_n (pc' := 26) hC 1 dX12_line_25 rfl rfl rfl ?_
  refine j_get (pc' := 29) hC ly_X12 (M_at_0 d _) rfl 22 (by decide) fl_X12_184 rfl dX12_line_26 rfl ?_
  refine j_let 66 (fun a66 => a66) (fun a66 => [(0, .ref (d.2.1 0)), (1, .int ((61 : Int32) + (σ.1 15 ((1 : Int32)).toNatClampNeg)))]) (fun a66 => []) (fun a66 => ?_) (fun j66 hj66 => ?_)
  · refine j_aload_n (pc' := 67) hC 0 dX12_line_66 rfl rfl rfl ?_
    refine j_get (pc' := 70) hC ly_X12 (M_at_0 d _) rfl 29 (by decide) fl_X12_67 rfl dX12_line_67 rfl ?_
    refine j_iload_n (pc' := 71) hC 1 dX12_line_70 rfl rfl rfl ?_
    refine j_aload_n (pc' := 72) hC 0 dX12_line_71 rfl rfl rfl ?_
    refine j_get (pc' := 75) hC ly_X12 (M_at_0 d _) rfl 24 (by decide) fl_X12_187 rfl dX12_line_72 rfl ?_
    refine j_i2s (pc' := 76) hC dX12_line_75 rfl ?_
    refine j_sast (pc' := 77) hC (M_at_17 d _) (M_sa_17 d _ _) dX12_line_76 rfl ?_
    refine j_st (fun σ3 => ?_)
    refine j_aload_n (pc' := 78) hC 0 dX12_line_77 rfl rfl rfl ?_
    refine j_get (pc' := 81) hC ly_X12 (M_at_0 d _) rfl 27 (by decide) fl_X12_60 rfl dX12_line_78 rfl ?_
    refine j_iconst (pc' := 82) (v := (1 : Int32)) hC dX12_line_81 (by decide) rfl ?_
    refine j_dup2 (pc' := 83) hC rfl rfl dX12_line_82 rfl ?_
    refine j_iald (pc' := 84) hC (M_at_15 d _) dX12_line_83 rfl ?_
    refine j_iconst (pc' := 85) (v := (1 : Int32)) hC dX12_line_84 (by decide) rfl ?_
    refine j_iadd (pc' := 86) hC dX12_line_85 rfl ?_
    refine j_iast (pc' := 87) hC (M_at_15 d _) (M_sa_15 d _ _) dX12_line_86 rfl ?_
    refine j_st (fun σ4 => ?_)
    exact j_ret_v hC dX12_line_87
  · refine j_if_ge (pc' := 32) (tgt := 66) hC dX12_line_29 (by decide) rfl ?_ ?_
    · exact j_lv (lv' := [(0, .ref (d.2.1 0)), (1, .int ((61 : Int32) + (σ.1 15 ((1 : Int32)).toNatClampNeg)))]) [1, 0] rfl (hj66 q2)
    · refine j_aload_n (pc' := 33) hC 1 dX12_line_32 rfl rfl rfl ?_
      refine j_callV_ir (pc' := 36) (As := []) (st := []) hC (M_at_0 d _) rfl (kX12_look l d A _) (jgV ml_X12_196 im_X12_look se_X12_look in_X12 cd_X12_look) rfl rfl rfl hyV_X12_look ⟨Nat.le_of_ble_eq_true rfl, Nat.le_of_ble_eq_true rfl⟩ rfl rfl (Nat.le_of_ble_eq_true rfl) dX12_line_33 rfl (fun q5 => ?_)
      refine j_bipush (pc' := 38) (v := (63 : Int32)) hC dX12_line_36 (by decide) rfl ?_
      refine j_icmp_ne (pc' := 41) (tgt := 66) hC dX12_line_38 (by decide) rfl ?_ ?_
      · exact j_lv (lv' := [(0, .ref (d.2.1 0)), (1, .int ((61 : Int32) + (σ.1 15 ((1 : Int32)).toNatClampNeg)))]) [1, 0] rfl (hj66 q2)
      · refine j_aload_n (pc' := 42) hC 1 dX12_line_41 rfl rfl rfl ?_
        refine j_dup (pc' := 43) hC rfl dX12_line_42 rfl ?_
        refine j_get (pc' := 46) hC ly_X12 (M_at_0 d _) rfl 21 (by decide) fl_X12_181 rfl dX12_line_43 rfl ?_
        refine j_iconst (pc' := 47) (v := (1 : Int32)) hC dX12_line_46 (by decide) rfl ?_
        refine j_iadd (pc' := 48) hC dX12_line_47 rfl ?_
        refine j_put (pc' := 51) hC ly_X12 tyX12 tyX12_ok nmX12 (M_at_0 d _) rfl 21 (by decide) fl_X12_181 rfl rfl rfl rfl (Nat.le_of_ble_eq_true rfl) (M_sf_0_21 d _ _) dX12_line_48 rfl ?_
        refine j_st (fun σ6 => ?_)
        refine j_aload_n (pc' := 52) hC 1 dX12_line_51 rfl rfl rfl ?_
        refine j_get (pc' := 55) hC ly_X12 (M_at_0 d _) rfl 28 (by decide) fl_X12_63 rfl dX12_line_52 rfl ?_
        refine j_iload_n (pc' := 56) hC 0 dX12_line_55 rfl rfl rfl ?_
        refine j_aload_n (pc' := 57) hC 1 dX12_line_56 rfl rfl rfl ?_
        refine j_get (pc' := 60) hC ly_X12 (M_at_0 d _) rfl 24 (by decide) fl_X12_187 rfl dX12_line_57 rfl ?_
        refine j_i2s (pc' := 61) hC dX12_line_60 rfl ?_
        refine j_sast (pc' := 62) hC (M_at_16 d _) (M_sa_16 d _ _) dX12_line_61 rfl ?_
        refine j_st (fun σ7 => ?_)
        refine j_aload_n (pc' := 63) hC 1 dX12_line_62 rfl rfl rfl ?_
        refine j_callV_v (pc' := 66) (As := []) (st := []) hC (M_at_0 d _) rfl ((kgX12p l d A jG).2.2.2.2.2 _) (jgV ml_X12_215 im_X12_either se_X12_either in_X12 cd_X12_either) rfl rfl rfl hyV_X12_either ⟨Nat.le_of_ble_eq_true rfl, Nat.le_of_ble_eq_true rfl⟩ rfl rfl (Nat.le_of_ble_eq_true rfl) dX12_line_63 rfl (fun q8 => ?_)
        exact j_lv (lv' := [(0, .ref (d.2.1 0)), (1, .int ((61 : Int32) + (σ.1 15 ((1 : Int32)).toNatClampNeg)))]) [1, 0] rfl (hj66 q8)
theorem hyV_X12_readText : yX12_readText.cls = RX12 ∧ yX12_readText.cls ≠ "java/lang/invoke/MethodHandle" ∧ yX12_readText.cls ≠ "java/lang/invoke/VarHandle" ∧ (parseMethodDescriptor yX12_readText.desc).map (fun d => d.parameters.length) = some 1 := ⟨rfl, by decide +kernel, by decide +kernel, by decide +kernel⟩
noncomputable def fX12_readText_B177 (p1 : Int32) (s177 : jS × Int32 → Option (Int32 × jS)) (a : jS × Int32) : Option (Int32 × jS) :=
  (ob p1 2 (if (a.1.1 15 (p1).toNatClampNeg) ≤ a.2 then (some ((-1 : Int32), a.1)) else (ob ((61 : Int32) + a.2) 122 (ob (((61 : Int32) * p1) + a.2) 122 (jst (ju a.1 16 ((((61 : Int32) * p1) + a.2)).toNatClampNeg (vp_nar .short (a.1.1 16 (((61 : Int32) + a.2)).toNatClampNeg))) fun (σ9 : jS) => (ob ((61 : Int32) + a.2) 122 (ob (((61 : Int32) * p1) + a.2) 122 (jst (ju σ9 17 ((((61 : Int32) * p1) + a.2)).toNatClampNeg (vp_nar .short (σ9.1 17 (((61 : Int32) + a.2)).toNatClampNeg))) fun (σ10 : jS) => (s177 (σ10, (a.2 + (1 : Int32))))))))))))
noncomputable def fX12_readText_B105 (p1 : Int32) (j163 : (jS → Option (Int32 × jS))) (s105 : jS × Int32 → Option (Int32 × jS)) (a : jS × Int32) : Option (Int32 × jS) :=
  (if (a.1.1 0 24) ≤ a.2 then (j163 a.1) else (ob ((130 : Int32) + a.2) 260 (ob (((130 : Int32) * p1) + a.2) 260 (jst (ju a.1 13 ((((130 : Int32) * p1) + a.2)).toNatClampNeg (vp_nar .byte (a.1.1 13 (((130 : Int32) + a.2)).toNatClampNeg))) fun (σ11 : jS) => (ob ((130 : Int32) + a.2) 260 (ob (((130 : Int32) * p1) + a.2) 260 (jst (ju σ11 14 ((((130 : Int32) * p1) + a.2)).toNatClampNeg (σ11.1 14 (((130 : Int32) + a.2)).toNatClampNeg)) fun (σ12 : jS) => (s105 (σ12, (a.2 + (1 : Int32)))))))))))
noncomputable def fX12_readText_B31 (j64 : (jS → Option (Int32 × jS))) (s31 : jS → Option (Int32 × jS)) (a : jS) : Option (Int32 × jS) :=
  (if 0 ≤ (a.1 0 22) then (j64 a) else (Option.bind (fX12_look a) fun (q14 : Int32) => (if q14 = (59 : Int32) then (jst (ju a 0 21 ((a.1 0 21) + (1 : Int32))) fun (σ15 : jS) => (Option.bind (fX12_line σ15) fun (q16 : jS) => (s31 q16))) else (j64 a))))
noncomputable def fX12_readText (σ : jS) (p1 : Int32) : Option (Int32 × jS) :=
  (jst (ju σ 0 21 (0 : Int32)) fun (σ1 : jS) => (jst (ju σ1 0 22 (-1 : Int32)) fun (σ2 : jS) => (jst (ju σ2 0 23 (0 : Int32)) fun (σ3 : jS) => (jst (ju σ3 0 24 (0 : Int32)) fun (σ4 : jS) => (ob (1 : Int32) 2 (jst (ju σ4 15 ((1 : Int32)).toNatClampNeg (0 : Int32)) fun (σ5 : jS) => (Option.bind (fX12_line σ5) fun (q6 : jS) => (jlet (fun (a64 : jS) => (jlet (fun (a86 : jS) => (jst (ju a86 0 20 (0 : Int32)) fun (σ7 : jS) => (if (σ7.1 0 22) < 0 then (jlet (fun (a163 : jS) => (ob (1 : Int32) 2 (ob p1 2 (jst (ju a163 15 (p1).toNatClampNeg (a163.1 15 ((1 : Int32)).toNatClampNeg)) fun (σ8 : jS) => (jloop (fX12_readText_B177 p1) jN (σ8, (0 : Int32))))))) fun (j163 : (jS → Option (Int32 × jS))) => (jloop (fX12_readText_B105 p1 j163) jN (σ7, (0 : Int32)))) else (some ((σ7.1 0 22), σ7))))) fun (j86 : (jS → Option (Int32 × jS))) => (if 0 ≤ (a64.1 0 22) then (j86 a64) else (if (a64.1 0 20) ≤ (a64.1 0 21) then (j86 a64) else (Option.bind (fX12_faulty a64) fun (q13 : jS) => (j86 q13)))))) fun (j64 : (jS → Option (Int32 × jS))) => (jloop (fX12_readText_B31 j64) jN q6)))))))))
set_option maxRecDepth 100000 in
set_option maxHeartbeats 4000000 in
theorem kX12_readText (l : Launch) (d : jD) (A : Nat → Prop) (σ : jS) (p1 : Int32) : jMi l yX12_readText (jws yX12_readText cX12_readText 3 (some (.int))) { frames := 105, cells := 0, slots := 0, locals := 2315 } d wM A [.ref (d.2.1 0), .int p1] σ (fX12_readText σ p1) := by
  refine jStart_i (lv0 := [(0, .ref (d.2.1 0)), (1, .int p1)]) (by decide) rfl (Nat.le_of_ble_eq_true rfl) rfl (fun z hC res => ?_)
  unfold fX12_readText
  refine j_aload_n (pc' := 1) hC 0 dX12_readText_0 rfl rfl rfl ?_
  refine j_iconst (pc' := 2) (v := (0 : Int32)) hC dX12_readText_1 (by decide) rfl ?_
  refine j_put (pc' := 5) hC ly_X12 tyX12 tyX12_ok nmX12 (M_at_0 d _) rfl 21 (by decide) fl_X12_181 rfl rfl rfl rfl (Nat.le_of_ble_eq_true rfl) (M_sf_0_21 d _ _) dX12_readText_2 rfl ?_
  refine j_st (fun σ1 => ?_)
  refine j_aload_n (pc' := 6) hC 0 dX12_readText_5 rfl rfl rfl ?_
  refine j_iconst (pc' := 7) (v := (-1 : Int32)) hC dX12_readText_6 (by decide) rfl ?_
  refine j_put (pc' := 10) hC ly_X12 tyX12 tyX12_ok nmX12 (M_at_0 d _) rfl 22 (by decide) fl_X12_184 rfl rfl rfl rfl (Nat.le_of_ble_eq_true rfl) (M_sf_0_22 d _ _) dX12_readText_7 rfl ?_
  refine j_st (fun σ2 => ?_)
  refine j_aload_n (pc' := 11) hC 0 dX12_readText_10 rfl rfl rfl ?_
  refine j_iconst (pc' := 12) (v := (0 : Int32)) hC dX12_readText_11 (by decide) rfl ?_
  refine j_put (pc' := 15) hC ly_X12 tyX12 tyX12_ok nmX12 (M_at_0 d _) rfl 23 (by decide) fl_X12_190 rfl rfl rfl rfl (Nat.le_of_ble_eq_true rfl) (M_sf_0_23 d _ _) dX12_readText_12 rfl ?_
  refine j_st (fun σ3 => ?_)
  refine j_aload_n (pc' := 16) hC 0 dX12_readText_15 rfl rfl rfl ?_
  refine j_iconst (pc' := 17) (v := (0 : Int32)) hC dX12_readText_16 (by decide) rfl ?_
  refine j_put (pc' := 20) hC ly_X12 tyX12 tyX12_ok nmX12 (M_at_0 d _) rfl 24 (by decide) fl_X12_187 rfl rfl rfl rfl (Nat.le_of_ble_eq_true rfl) (M_sf_0_24 d _ _) dX12_readText_17 rfl ?_
  refine j_st (fun σ4 => ?_)
  refine j_aload_n (pc' := 21) hC 0 dX12_readText_20 rfl rfl rfl ?_
  refine j_get (pc' := 24) hC ly_X12 (M_at_0 d _) rfl 27 (by decide) fl_X12_60 rfl dX12_readText_21 rfl ?_
  refine j_iconst (pc' := 25) (v := (1 : Int32)) hC dX12_readText_24 (by decide) rfl ?_
  refine j_iconst (pc' := 26) (v := (0 : Int32)) hC dX12_readText_25 (by decide) rfl ?_
  refine j_iast (pc' := 27) hC (M_at_15 d _) (M_sa_15 d _ _) dX12_readText_26 rfl ?_
  refine j_st (fun σ5 => ?_)
  refine j_aload_n (pc' := 28) hC 0 dX12_readText_27 rfl rfl rfl ?_
  refine j_callV_v (pc' := 31) (As := []) (st := []) hC (M_at_0 d _) rfl (kX12_line l d A _) (jgV ml_X12_233 im_X12_line se_X12_line in_X12 cd_X12_line) rfl rfl rfl hyV_X12_line ⟨Nat.le_of_ble_eq_true rfl, Nat.le_of_ble_eq_true rfl⟩ rfl rfl (Nat.le_of_ble_eq_true rfl) dX12_readText_28 rfl (fun q6 => ?_)
  refine j_let 64 (fun a64 => a64) (fun a64 => [(0, .ref (d.2.1 0)), (1, .int p1)]) (fun a64 => []) (fun a64 => ?_) (fun j64 hj64 => ?_)
  · refine j_aload_n (pc' := 65) hC 0 dX12_readText_64 rfl rfl rfl ?_
    refine j_get (pc' := 68) hC ly_X12 (M_at_0 d _) rfl 22 (by decide) fl_X12_184 rfl dX12_readText_65 rfl ?_
    refine j_let 86 (fun a86 => a86) (fun a86 => [(0, .ref (d.2.1 0)), (1, .int p1)]) (fun a86 => []) (fun a86 => ?_) (fun j86 hj86 => ?_)
    · refine j_aload_n (pc' := 87) hC 0 dX12_readText_86 rfl rfl rfl ?_
      refine j_iconst (pc' := 88) (v := (0 : Int32)) hC dX12_readText_87 (by decide) rfl ?_
      refine j_put (pc' := 91) hC ly_X12 tyX12 tyX12_ok nmX12 (M_at_0 d _) rfl 20 (by decide) fl_X12_178 rfl rfl rfl rfl (Nat.le_of_ble_eq_true rfl) (M_sf_0_20 d _ _) dX12_readText_88 rfl ?_
      refine j_st (fun σ7 => ?_)
      refine j_aload_n (pc' := 92) hC 0 dX12_readText_91 rfl rfl rfl ?_
      refine j_get (pc' := 95) hC ly_X12 (M_at_0 d _) rfl 22 (by decide) fl_X12_184 rfl dX12_readText_92 rfl ?_
      refine j_if_lt (pc' := 98) (tgt := 103) hC dX12_readText_95 (by decide) rfl ?_ ?_
      · refine j_iconst (pc' := 104) (v := (0 : Int32)) hC dX12_readText_103 (by decide) rfl ?_
        refine j_istore_n (pc' := 105) (lv' := [(2, .int (0 : Int32)), (0, .ref (d.2.1 0)), (1, .int p1)]) hC dX12_readText_104 rfl (by decide) rfl rfl ?_
        refine j_let 163 (fun a163 => a163) (fun a163 => [(0, .ref (d.2.1 0)), (1, .int p1)]) (fun a163 => []) (fun a163 => ?_) (fun j163 hj163 => ?_)
        · refine j_aload_n (pc' := 164) hC 0 dX12_readText_163 rfl rfl rfl ?_
          refine j_get (pc' := 167) hC ly_X12 (M_at_0 d _) rfl 27 (by decide) fl_X12_60 rfl dX12_readText_164 rfl ?_
          refine j_iload_n (pc' := 168) hC 1 dX12_readText_167 rfl rfl rfl ?_
          refine j_aload_n (pc' := 169) hC 0 dX12_readText_168 rfl rfl rfl ?_
          refine j_get (pc' := 172) hC ly_X12 (M_at_0 d _) rfl 27 (by decide) fl_X12_60 rfl dX12_readText_169 rfl ?_
          refine j_iconst (pc' := 173) (v := (1 : Int32)) hC dX12_readText_172 (by decide) rfl ?_
          refine j_iald (pc' := 174) hC (M_at_15 d _) dX12_readText_173 rfl ?_
          refine j_iast (pc' := 175) hC (M_at_15 d _) (M_sa_15 d _ _) dX12_readText_174 rfl ?_
          refine j_st (fun σ8 => ?_)
          refine j_iconst (pc' := 176) (v := (0 : Int32)) hC dX12_readText_175 (by decide) rfl ?_
          refine j_istore_n (pc' := 177) (lv' := [(2, .int (0 : Int32)), (0, .ref (d.2.1 0)), (1, .int p1)]) hC dX12_readText_176 rfl (by decide) rfl rfl ?_
          refine j_lv (lv' := [(0, .ref (d.2.1 0)), (1, .int p1), (2, .int (0 : Int32))]) [1, 2, 0] rfl ?_
          refine j_loop 177 (fun a => a.1) (fun a => [(0, .ref (d.2.1 0)), (1, .int p1), (2, .int a.2)]) (fun s177 hs177 a => ?_) jN (σ8, (0 : Int32))
          unfold fX12_readText_B177
          refine j_iload_n (pc' := 178) hC 2 dX12_readText_177 rfl rfl rfl ?_
          refine j_aload_n (pc' := 179) hC 0 dX12_readText_178 rfl rfl rfl ?_
          refine j_get (pc' := 182) hC ly_X12 (M_at_0 d _) rfl 27 (by decide) fl_X12_60 rfl dX12_readText_179 rfl ?_
          refine j_iload_n (pc' := 183) hC 1 dX12_readText_182 rfl rfl rfl ?_
          refine j_iald (pc' := 184) hC (M_at_15 d _) dX12_readText_183 rfl ?_
          refine j_icmp_ge (pc' := 187) (tgt := 233) hC dX12_readText_184 (by decide) rfl ?_ ?_
          · refine j_iconst (pc' := 234) (v := (-1 : Int32)) hC dX12_readText_233 (by decide) rfl ?_
            exact j_ret_i hC dX12_readText_234
          · refine j_aload_n (pc' := 188) hC 0 dX12_readText_187 rfl rfl rfl ?_
            refine j_get (pc' := 191) hC ly_X12 (M_at_0 d _) rfl 28 (by decide) fl_X12_63 rfl dX12_readText_188 rfl ?_
            refine j_bipush (pc' := 193) (v := (61 : Int32)) hC dX12_readText_191 (by decide) rfl ?_
            refine j_iload_n (pc' := 194) hC 1 dX12_readText_193 rfl rfl rfl ?_
            refine j_imul (pc' := 195) hC dX12_readText_194 rfl ?_
            refine j_iload_n (pc' := 196) hC 2 dX12_readText_195 rfl rfl rfl ?_
            refine j_iadd (pc' := 197) hC dX12_readText_196 rfl ?_
            refine j_aload_n (pc' := 198) hC 0 dX12_readText_197 rfl rfl rfl ?_
            refine j_get (pc' := 201) hC ly_X12 (M_at_0 d _) rfl 28 (by decide) fl_X12_63 rfl dX12_readText_198 rfl ?_
            refine j_bipush (pc' := 203) (v := (61 : Int32)) hC dX12_readText_201 (by decide) rfl ?_
            refine j_iload_n (pc' := 204) hC 2 dX12_readText_203 rfl rfl rfl ?_
            refine j_iadd (pc' := 205) hC dX12_readText_204 rfl ?_
            refine j_sald (pc' := 206) hC (M_at_16 d _) dX12_readText_205 rfl ?_
            refine j_sast (pc' := 207) hC (M_at_16 d _) (M_sa_16 d _ _) dX12_readText_206 rfl ?_
            refine j_st (fun σ9 => ?_)
            refine j_aload_n (pc' := 208) hC 0 dX12_readText_207 rfl rfl rfl ?_
            refine j_get (pc' := 211) hC ly_X12 (M_at_0 d _) rfl 29 (by decide) fl_X12_67 rfl dX12_readText_208 rfl ?_
            refine j_bipush (pc' := 213) (v := (61 : Int32)) hC dX12_readText_211 (by decide) rfl ?_
            refine j_iload_n (pc' := 214) hC 1 dX12_readText_213 rfl rfl rfl ?_
            refine j_imul (pc' := 215) hC dX12_readText_214 rfl ?_
            refine j_iload_n (pc' := 216) hC 2 dX12_readText_215 rfl rfl rfl ?_
            refine j_iadd (pc' := 217) hC dX12_readText_216 rfl ?_
            refine j_aload_n (pc' := 218) hC 0 dX12_readText_217 rfl rfl rfl ?_
            refine j_get (pc' := 221) hC ly_X12 (M_at_0 d _) rfl 29 (by decide) fl_X12_67 rfl dX12_readText_218 rfl ?_
            refine j_bipush (pc' := 223) (v := (61 : Int32)) hC dX12_readText_221 (by decide) rfl ?_
            refine j_iload_n (pc' := 224) hC 2 dX12_readText_223 rfl rfl rfl ?_
            refine j_iadd (pc' := 225) hC dX12_readText_224 rfl ?_
            refine j_sald (pc' := 226) hC (M_at_17 d _) dX12_readText_225 rfl ?_
            refine j_sast (pc' := 227) hC (M_at_17 d _) (M_sa_17 d _ _) dX12_readText_226 rfl ?_
            refine j_st (fun σ10 => ?_)
            refine j_iinc (pc' := 230) (v := (a.2 + (1 : Int32))) (lv' := [(2, .int (a.2 + (1 : Int32))), (0, .ref (d.2.1 0)), (1, .int p1)]) hC 2 dX12_readText_227 rfl (by decide) rfl rfl rfl ?_
            refine j_goto (tgt := 177) hC dX12_readText_230 (by decide) ?_
            exact j_lv (lv' := [(0, .ref (d.2.1 0)), (1, .int p1), (2, .int (a.2 + (1 : Int32)))]) [1, 2, 0] rfl (hs177 (σ10, (a.2 + (1 : Int32))))
        · refine j_lv (lv' := [(0, .ref (d.2.1 0)), (1, .int p1), (2, .int (0 : Int32))]) [1, 2, 0] rfl ?_
          refine j_loop 105 (fun a => a.1) (fun a => [(0, .ref (d.2.1 0)), (1, .int p1), (2, .int a.2)]) (fun s105 hs105 a => ?_) jN (σ7, (0 : Int32))
          unfold fX12_readText_B105
          refine j_iload_n (pc' := 106) hC 2 dX12_readText_105 rfl rfl rfl ?_
          refine j_aload_n (pc' := 107) hC 0 dX12_readText_106 rfl rfl rfl ?_
          refine j_get (pc' := 110) hC ly_X12 (M_at_0 d _) rfl 24 (by decide) fl_X12_187 rfl dX12_readText_107 rfl ?_
          refine j_icmp_ge (pc' := 113) (tgt := 163) hC dX12_readText_110 (by decide) rfl ?_ ?_
          · exact j_lv (lv' := [(0, .ref (d.2.1 0)), (1, .int p1)]) [0, 1] rfl (hj163 a.1)
          · refine j_aload_n (pc' := 114) hC 0 dX12_readText_113 rfl rfl rfl ?_
            refine j_get (pc' := 117) hC ly_X12 (M_at_0 d _) rfl 25 (by decide) fl_X12_54 rfl dX12_readText_114 rfl ?_
            refine j_sipush (pc' := 120) (v := (130 : Int32)) hC dX12_readText_117 (by decide) rfl ?_
            refine j_iload_n (pc' := 121) hC 1 dX12_readText_120 rfl rfl rfl ?_
            refine j_imul (pc' := 122) hC dX12_readText_121 rfl ?_
            refine j_iload_n (pc' := 123) hC 2 dX12_readText_122 rfl rfl rfl ?_
            refine j_iadd (pc' := 124) hC dX12_readText_123 rfl ?_
            refine j_aload_n (pc' := 125) hC 0 dX12_readText_124 rfl rfl rfl ?_
            refine j_get (pc' := 128) hC ly_X12 (M_at_0 d _) rfl 25 (by decide) fl_X12_54 rfl dX12_readText_125 rfl ?_
            refine j_sipush (pc' := 131) (v := (130 : Int32)) hC dX12_readText_128 (by decide) rfl ?_
            refine j_iload_n (pc' := 132) hC 2 dX12_readText_131 rfl rfl rfl ?_
            refine j_iadd (pc' := 133) hC dX12_readText_132 rfl ?_
            refine j_bald (pc' := 134) hC (M_at_13 d _) dX12_readText_133 rfl ?_
            refine j_bast (pc' := 135) hC (M_at_13 d _) (M_sa_13 d _ _) dX12_readText_134 rfl ?_
            refine j_st (fun σ11 => ?_)
            refine j_aload_n (pc' := 136) hC 0 dX12_readText_135 rfl rfl rfl ?_
            refine j_get (pc' := 139) hC ly_X12 (M_at_0 d _) rfl 26 (by decide) fl_X12_57 rfl dX12_readText_136 rfl ?_
            refine j_sipush (pc' := 142) (v := (130 : Int32)) hC dX12_readText_139 (by decide) rfl ?_
            refine j_iload_n (pc' := 143) hC 1 dX12_readText_142 rfl rfl rfl ?_
            refine j_imul (pc' := 144) hC dX12_readText_143 rfl ?_
            refine j_iload_n (pc' := 145) hC 2 dX12_readText_144 rfl rfl rfl ?_
            refine j_iadd (pc' := 146) hC dX12_readText_145 rfl ?_
            refine j_aload_n (pc' := 147) hC 0 dX12_readText_146 rfl rfl rfl ?_
            refine j_get (pc' := 150) hC ly_X12 (M_at_0 d _) rfl 26 (by decide) fl_X12_57 rfl dX12_readText_147 rfl ?_
            refine j_sipush (pc' := 153) (v := (130 : Int32)) hC dX12_readText_150 (by decide) rfl ?_
            refine j_iload_n (pc' := 154) hC 2 dX12_readText_153 rfl rfl rfl ?_
            refine j_iadd (pc' := 155) hC dX12_readText_154 rfl ?_
            refine j_iald (pc' := 156) hC (M_at_14 d _) dX12_readText_155 rfl ?_
            refine j_iast (pc' := 157) hC (M_at_14 d _) (M_sa_14 d _ _) dX12_readText_156 rfl ?_
            refine j_st (fun σ12 => ?_)
            refine j_iinc (pc' := 160) (v := (a.2 + (1 : Int32))) (lv' := [(2, .int (a.2 + (1 : Int32))), (0, .ref (d.2.1 0)), (1, .int p1)]) hC 2 dX12_readText_157 rfl (by decide) rfl rfl rfl ?_
            refine j_goto (tgt := 105) hC dX12_readText_160 (by decide) ?_
            exact j_lv (lv' := [(0, .ref (d.2.1 0)), (1, .int p1), (2, .int (a.2 + (1 : Int32)))]) [1, 2, 0] rfl (hs105 (σ12, (a.2 + (1 : Int32))))
      · refine j_aload_n (pc' := 99) hC 0 dX12_readText_98 rfl rfl rfl ?_
        refine j_get (pc' := 102) hC ly_X12 (M_at_0 d _) rfl 22 (by decide) fl_X12_184 rfl dX12_readText_99 rfl ?_
        exact j_ret_i hC dX12_readText_102
    · refine j_if_ge (pc' := 71) (tgt := 86) hC dX12_readText_68 (by decide) rfl ?_ ?_
      · exact j_lv (lv' := [(0, .ref (d.2.1 0)), (1, .int p1)]) [0, 1] rfl (hj86 a64)
      · refine j_aload_n (pc' := 72) hC 0 dX12_readText_71 rfl rfl rfl ?_
        refine j_get (pc' := 75) hC ly_X12 (M_at_0 d _) rfl 21 (by decide) fl_X12_181 rfl dX12_readText_72 rfl ?_
        refine j_aload_n (pc' := 76) hC 0 dX12_readText_75 rfl rfl rfl ?_
        refine j_get (pc' := 79) hC ly_X12 (M_at_0 d _) rfl 20 (by decide) fl_X12_178 rfl dX12_readText_76 rfl ?_
        refine j_icmp_ge (pc' := 82) (tgt := 86) hC dX12_readText_79 (by decide) rfl ?_ ?_
        · exact j_lv (lv' := [(0, .ref (d.2.1 0)), (1, .int p1)]) [0, 1] rfl (hj86 a64)
        · refine j_aload_n (pc' := 83) hC 0 dX12_readText_82 rfl rfl rfl ?_
          refine j_callV_v (pc' := 86) (As := []) (st := []) hC (M_at_0 d _) rfl (kX12_faulty l d A _) (jgV ml_X12_193 im_X12_faulty se_X12_faulty in_X12 cd_X12_faulty) rfl rfl rfl hyV_X12_faulty ⟨Nat.le_of_ble_eq_true rfl, Nat.le_of_ble_eq_true rfl⟩ rfl rfl (Nat.le_of_ble_eq_true rfl) dX12_readText_83 rfl (fun q13 => ?_)
          exact j_lv (lv' := [(0, .ref (d.2.1 0)), (1, .int p1)]) [0, 1] rfl (hj86 q13)
  · refine j_lv (lv' := [(0, .ref (d.2.1 0)), (1, .int p1)]) [0, 1] rfl ?_
    refine j_loop 31 (fun a => a) (fun a => [(0, .ref (d.2.1 0)), (1, .int p1)]) (fun s31 hs31 a => ?_) jN q6
    unfold fX12_readText_B31
    refine j_aload_n (pc' := 32) hC 0 dX12_readText_31 rfl rfl rfl ?_
    refine j_get (pc' := 35) hC ly_X12 (M_at_0 d _) rfl 22 (by decide) fl_X12_184 rfl dX12_readText_32 rfl ?_
    refine j_if_ge (pc' := 38) (tgt := 64) hC dX12_readText_35 (by decide) rfl ?_ ?_
    · exact j_lv (lv' := [(0, .ref (d.2.1 0)), (1, .int p1)]) [0, 1] rfl (hj64 a)
    · refine j_aload_n (pc' := 39) hC 0 dX12_readText_38 rfl rfl rfl ?_
      refine j_callV_ir (pc' := 42) (As := []) (st := []) hC (M_at_0 d _) rfl (kX12_look l d A _) (jgV ml_X12_196 im_X12_look se_X12_look in_X12 cd_X12_look) rfl rfl rfl hyV_X12_look ⟨Nat.le_of_ble_eq_true rfl, Nat.le_of_ble_eq_true rfl⟩ rfl rfl (Nat.le_of_ble_eq_true rfl) dX12_readText_39 rfl (fun q14 => ?_)
      refine j_bipush (pc' := 44) (v := (59 : Int32)) hC dX12_readText_42 (by decide) rfl ?_
      refine j_icmp_ne (pc' := 47) (tgt := 64) hC dX12_readText_44 (by decide) rfl ?_ ?_
      · exact j_lv (lv' := [(0, .ref (d.2.1 0)), (1, .int p1)]) [0, 1] rfl (hj64 a)
      · refine j_aload_n (pc' := 48) hC 0 dX12_readText_47 rfl rfl rfl ?_
        refine j_dup (pc' := 49) hC rfl dX12_readText_48 rfl ?_
        refine j_get (pc' := 52) hC ly_X12 (M_at_0 d _) rfl 21 (by decide) fl_X12_181 rfl dX12_readText_49 rfl ?_
        refine j_iconst (pc' := 53) (v := (1 : Int32)) hC dX12_readText_52 (by decide) rfl ?_
        refine j_iadd (pc' := 54) hC dX12_readText_53 rfl ?_
        refine j_put (pc' := 57) hC ly_X12 tyX12 tyX12_ok nmX12 (M_at_0 d _) rfl 21 (by decide) fl_X12_181 rfl rfl rfl rfl (Nat.le_of_ble_eq_true rfl) (M_sf_0_21 d _ _) dX12_readText_54 rfl ?_
        refine j_st (fun σ15 => ?_)
        refine j_aload_n (pc' := 58) hC 0 dX12_readText_57 rfl rfl rfl ?_
        refine j_callV_v (pc' := 61) (As := []) (st := []) hC (M_at_0 d _) rfl (kX12_line l d A _) (jgV ml_X12_233 im_X12_line se_X12_line in_X12 cd_X12_line) rfl rfl rfl hyV_X12_line ⟨Nat.le_of_ble_eq_true rfl, Nat.le_of_ble_eq_true rfl⟩ rfl rfl (Nat.le_of_ble_eq_true rfl) dX12_readText_58 rfl (fun q16 => ?_)
        refine j_goto (tgt := 31) hC dX12_readText_61 (by decide) ?_
        exact j_lv (lv' := [(0, .ref (d.2.1 0)), (1, .int p1)]) [0, 1] rfl (hs31 q16)
theorem hyS_X12_twoOf : yX12_twoOf.cls ≠ "java/lang/invoke/MethodHandle" ∧ yX12_twoOf.cls ≠ "java/lang/invoke/VarHandle" ∧ (parseMethodDescriptor yX12_twoOf.desc).map (fun d => d.parameters.length) = some 3 := ⟨by decide +kernel, by decide +kernel, by decide +kernel⟩
noncomputable def fX12_twoOf (σ : jS) (p1 : Int32) (p2 : Int32) (p3 : Int32) : Option (Int32) :=
  (if p1 = (37 : Int32) then (if p3 = 0 then (some (0 : Int32)) else (if p3 = (-1 : Int32) then (some (0 : Int32)) else (od p3 (some (p2 - p2 / p3 * p3))))) else (if p1 = (38 : Int32) then (if p2 = 0 then (some (0 : Int32)) else (if p3 = 0 then (some (0 : Int32)) else (some (1 : Int32)))) else (if p1 = (42 : Int32) then (some (p2 * p3)) else (if p1 = (43 : Int32) then (some (p2 + p3)) else (if p1 = (45 : Int32) then (some (p2 - p3)) else (if p1 = (47 : Int32) then (if p3 = 0 then (some (0 : Int32)) else (if p3 = (-1 : Int32) then (some (-p2)) else (od p3 (some (p2 / p3))))) else (if p1 = (60 : Int32) then (if p3 ≤ p2 then (some (0 : Int32)) else (some (1 : Int32))) else (if p1 = (61 : Int32) then (if p2 = p3 then (some (1 : Int32)) else (some (0 : Int32))) else (if p1 = (62 : Int32) then (if p2 ≤ p3 then (some (0 : Int32)) else (some (1 : Int32))) else (if p2 = 0 then (if p3 = 0 then (some (0 : Int32)) else (some (1 : Int32))) else (some (1 : Int32))))))))))))
set_option maxRecDepth 100000 in
set_option maxHeartbeats 4000000 in
theorem kX12_twoOf (l : Launch) (d : jD) (A : Nat → Prop) (σ : jS) (p1 : Int32) (p2 : Int32) (p3 : Int32) : jMir l yX12_twoOf (jws yX12_twoOf cX12_twoOf 3 (some (.int))) { frames := 2, cells := 0, slots := 0, locals := 130 } d wM A [.int p1, .int p2, .int p3] σ (fX12_twoOf σ p1 p2 p3) := by
  refine jStart_ir (lv0 := [(0, .int p1), (1, .int p2), (2, .int p3)]) (by decide) rfl (Nat.le_of_ble_eq_true rfl) rfl (fun z hC res => ?_)
  unfold fX12_twoOf
  refine j_iload_n (pc' := 1) hC 0 dX12_twoOf_0 rfl rfl rfl ?_
  refine j_if (fun c0 => ?_) (fun c0 => ?_)
  · refine j_tableIn (tgt := 154) (off := 153) hC dX12_twoOf_1 (by rw [c0]; decide) (by rw [c0]; decide) (by rw [c0]; rfl) (by decide) ?_
    refine j_iload_n (pc' := 155) hC 2 dX12_twoOf_154 rfl rfl rfl ?_
    refine j_if_eq (pc' := 158) (tgt := 163) hC dX12_twoOf_155 (by decide) rfl ?_ ?_
    · refine j_iconst (pc' := 164) (v := (0 : Int32)) hC dX12_twoOf_163 (by decide) rfl ?_
      refine j_goto (tgt := 170) hC dX12_twoOf_164 (by decide) ?_
      exact j_ret_ir hC dX12_twoOf_170
    · refine j_iload_n (pc' := 159) hC 2 dX12_twoOf_158 rfl rfl rfl ?_
      refine j_iconst (pc' := 160) (v := (-1 : Int32)) hC dX12_twoOf_159 (by decide) rfl ?_
      refine j_icmp_ne (pc' := 163) (tgt := 167) hC dX12_twoOf_160 (by decide) rfl ?_ ?_
      · refine j_iload_n (pc' := 168) hC 1 dX12_twoOf_167 rfl rfl rfl ?_
        refine j_iload_n (pc' := 169) hC 2 dX12_twoOf_168 rfl rfl rfl ?_
        refine j_irem (pc' := 170) hC dX12_twoOf_169 rfl ?_
        exact j_ret_ir hC dX12_twoOf_170
      · refine j_iconst (pc' := 164) (v := (0 : Int32)) hC dX12_twoOf_163 (by decide) rfl ?_
        refine j_goto (tgt := 170) hC dX12_twoOf_164 (by decide) ?_
        exact j_ret_ir hC dX12_twoOf_170
  refine j_if (fun c1 => ?_) (fun c1 => ?_)
  · refine j_tableIn (tgt := 204) (off := 203) hC dX12_twoOf_1 (by rw [c1]; decide) (by rw [c1]; decide) (by rw [c1]; rfl) (by decide) ?_
    refine j_iload_n (pc' := 205) hC 1 dX12_twoOf_204 rfl rfl rfl ?_
    refine j_if_eq (pc' := 208) (tgt := 216) hC dX12_twoOf_205 (by decide) rfl ?_ ?_
    · refine j_iconst (pc' := 217) (v := (0 : Int32)) hC dX12_twoOf_216 (by decide) rfl ?_
      exact j_ret_ir hC dX12_twoOf_217
    · refine j_iload_n (pc' := 209) hC 2 dX12_twoOf_208 rfl rfl rfl ?_
      refine j_if_eq (pc' := 212) (tgt := 216) hC dX12_twoOf_209 (by decide) rfl ?_ ?_
      · refine j_iconst (pc' := 217) (v := (0 : Int32)) hC dX12_twoOf_216 (by decide) rfl ?_
        exact j_ret_ir hC dX12_twoOf_217
      · refine j_iconst (pc' := 213) (v := (1 : Int32)) hC dX12_twoOf_212 (by decide) rfl ?_
        refine j_goto (tgt := 217) hC dX12_twoOf_213 (by decide) ?_
        exact j_ret_ir hC dX12_twoOf_217
  refine j_if (fun c2 => ?_) (fun c2 => ?_)
  · refine j_tableIn (tgt := 128) (off := 127) hC dX12_twoOf_1 (by rw [c2]; decide) (by rw [c2]; decide) (by rw [c2]; rfl) (by decide) ?_
    refine j_iload_n (pc' := 129) hC 1 dX12_twoOf_128 rfl rfl rfl ?_
    refine j_iload_n (pc' := 130) hC 2 dX12_twoOf_129 rfl rfl rfl ?_
    refine j_imul (pc' := 131) hC dX12_twoOf_130 rfl ?_
    exact j_ret_ir hC dX12_twoOf_131
  refine j_if (fun c3 => ?_) (fun c3 => ?_)
  · refine j_tableIn (tgt := 120) (off := 119) hC dX12_twoOf_1 (by rw [c3]; decide) (by rw [c3]; decide) (by rw [c3]; rfl) (by decide) ?_
    refine j_iload_n (pc' := 121) hC 1 dX12_twoOf_120 rfl rfl rfl ?_
    refine j_iload_n (pc' := 122) hC 2 dX12_twoOf_121 rfl rfl rfl ?_
    refine j_iadd (pc' := 123) hC dX12_twoOf_122 rfl ?_
    exact j_ret_ir hC dX12_twoOf_123
  refine j_if (fun c4 => ?_) (fun c4 => ?_)
  · refine j_tableIn (tgt := 124) (off := 123) hC dX12_twoOf_1 (by rw [c4]; decide) (by rw [c4]; decide) (by rw [c4]; rfl) (by decide) ?_
    refine j_iload_n (pc' := 125) hC 1 dX12_twoOf_124 rfl rfl rfl ?_
    refine j_iload_n (pc' := 126) hC 2 dX12_twoOf_125 rfl rfl rfl ?_
    refine j_isub (pc' := 127) hC dX12_twoOf_126 rfl ?_
    exact j_ret_ir hC dX12_twoOf_127
  refine j_if (fun c5 => ?_) (fun c5 => ?_)
  · refine j_tableIn (tgt := 132) (off := 131) hC dX12_twoOf_1 (by rw [c5]; decide) (by rw [c5]; decide) (by rw [c5]; rfl) (by decide) ?_
    refine j_iload_n (pc' := 133) hC 2 dX12_twoOf_132 rfl rfl rfl ?_
    refine j_if_ne (pc' := 136) (tgt := 140) hC dX12_twoOf_133 (by decide) rfl ?_ ?_
    · refine j_iload_n (pc' := 141) hC 2 dX12_twoOf_140 rfl rfl rfl ?_
      refine j_iconst (pc' := 142) (v := (-1 : Int32)) hC dX12_twoOf_141 (by decide) rfl ?_
      refine j_icmp_ne (pc' := 145) (tgt := 150) hC dX12_twoOf_142 (by decide) rfl ?_ ?_
      · refine j_iload_n (pc' := 151) hC 1 dX12_twoOf_150 rfl rfl rfl ?_
        refine j_iload_n (pc' := 152) hC 2 dX12_twoOf_151 rfl rfl rfl ?_
        refine j_idiv (pc' := 153) hC dX12_twoOf_152 rfl ?_
        exact j_ret_ir hC dX12_twoOf_153
      · refine j_iload_n (pc' := 146) hC 1 dX12_twoOf_145 rfl rfl rfl ?_
        refine j_ineg (pc' := 147) hC dX12_twoOf_146 rfl ?_
        refine j_goto (tgt := 153) hC dX12_twoOf_147 (by decide) ?_
        exact j_ret_ir hC dX12_twoOf_153
    · refine j_iconst (pc' := 137) (v := (0 : Int32)) hC dX12_twoOf_136 (by decide) rfl ?_
      refine j_goto (tgt := 153) hC dX12_twoOf_137 (by decide) ?_
      exact j_ret_ir hC dX12_twoOf_153
  refine j_if (fun c6 => ?_) (fun c6 => ?_)
  · refine j_tableIn (tgt := 171) (off := 170) hC dX12_twoOf_1 (by rw [c6]; decide) (by rw [c6]; decide) (by rw [c6]; rfl) (by decide) ?_
    refine j_iload_n (pc' := 172) hC 1 dX12_twoOf_171 rfl rfl rfl ?_
    refine j_iload_n (pc' := 173) hC 2 dX12_twoOf_172 rfl rfl rfl ?_
    refine j_icmp_ge (pc' := 176) (tgt := 180) hC dX12_twoOf_173 (by decide) rfl ?_ ?_
    · refine j_iconst (pc' := 181) (v := (0 : Int32)) hC dX12_twoOf_180 (by decide) rfl ?_
      exact j_ret_ir hC dX12_twoOf_181
    · refine j_iconst (pc' := 177) (v := (1 : Int32)) hC dX12_twoOf_176 (by decide) rfl ?_
      refine j_goto (tgt := 181) hC dX12_twoOf_177 (by decide) ?_
      exact j_ret_ir hC dX12_twoOf_181
  refine j_if (fun c7 => ?_) (fun c7 => ?_)
  · refine j_tableIn (tgt := 182) (off := 181) hC dX12_twoOf_1 (by rw [c7]; decide) (by rw [c7]; decide) (by rw [c7]; rfl) (by decide) ?_
    refine j_iload_n (pc' := 183) hC 1 dX12_twoOf_182 rfl rfl rfl ?_
    refine j_iload_n (pc' := 184) hC 2 dX12_twoOf_183 rfl rfl rfl ?_
    refine j_icmp_ne (pc' := 187) (tgt := 191) hC dX12_twoOf_184 (by decide) rfl ?_ ?_
    · refine j_iconst (pc' := 192) (v := (0 : Int32)) hC dX12_twoOf_191 (by decide) rfl ?_
      exact j_ret_ir hC dX12_twoOf_192
    · refine j_iconst (pc' := 188) (v := (1 : Int32)) hC dX12_twoOf_187 (by decide) rfl ?_
      refine j_goto (tgt := 192) hC dX12_twoOf_188 (by decide) ?_
      exact j_ret_ir hC dX12_twoOf_192
  refine j_if (fun c8 => ?_) (fun c8 => ?_)
  · refine j_tableIn (tgt := 193) (off := 192) hC dX12_twoOf_1 (by rw [c8]; decide) (by rw [c8]; decide) (by rw [c8]; rfl) (by decide) ?_
    refine j_iload_n (pc' := 194) hC 1 dX12_twoOf_193 rfl rfl rfl ?_
    refine j_iload_n (pc' := 195) hC 2 dX12_twoOf_194 rfl rfl rfl ?_
    refine j_icmp_le (pc' := 198) (tgt := 202) hC dX12_twoOf_195 (by decide) rfl ?_ ?_
    · refine j_iconst (pc' := 203) (v := (0 : Int32)) hC dX12_twoOf_202 (by decide) rfl ?_
      exact j_ret_ir hC dX12_twoOf_203
    · refine j_iconst (pc' := 199) (v := (1 : Int32)) hC dX12_twoOf_198 (by decide) rfl ?_
      refine j_goto (tgt := 203) hC dX12_twoOf_199 (by decide) ?_
      exact j_ret_ir hC dX12_twoOf_203
  refine j_tableDef (tgt := 218) hC dX12_twoOf_1 26 [0, 1, 5, 6, 8, 10, 23, 24, 25] (by decide) (by decide) (by intro _ _; have e0 := lv_neT c0 (a := 37) rfl; have e1 := lv_neT c1 (a := 38) rfl; have e2 := lv_neT c2 (a := 42) rfl; have e3 := lv_neT c3 (a := 43) rfl; have e4 := lv_neT c4 (a := 45) rfl; have e5 := lv_neT c5 (a := 47) rfl; have e6 := lv_neT c6 (a := 60) rfl; have e7 := lv_neT c7 (a := 61) rfl; have e8 := lv_neT c8 (a := 62) rfl; simp only [List.mem_cons, List.not_mem_nil, or_false]; omega) (by decide) ?_
  refine j_iload_n (pc' := 219) hC 1 dX12_twoOf_218 rfl rfl rfl ?_
  refine j_if_ne (pc' := 222) (tgt := 226) hC dX12_twoOf_219 (by decide) rfl ?_ ?_
  · refine j_iconst (pc' := 227) (v := (1 : Int32)) hC dX12_twoOf_226 (by decide) rfl ?_
    refine j_goto (tgt := 231) hC dX12_twoOf_227 (by decide) ?_
    exact j_ret_ir hC dX12_twoOf_231
  · refine j_iload_n (pc' := 223) hC 2 dX12_twoOf_222 rfl rfl rfl ?_
    refine j_if_eq (pc' := 226) (tgt := 230) hC dX12_twoOf_223 (by decide) rfl ?_ ?_
    · refine j_iconst (pc' := 231) (v := (0 : Int32)) hC dX12_twoOf_230 (by decide) rfl ?_
      exact j_ret_ir hC dX12_twoOf_231
    · refine j_iconst (pc' := 227) (v := (1 : Int32)) hC dX12_twoOf_226 (by decide) rfl ?_
      refine j_goto (tgt := 231) hC dX12_twoOf_227 (by decide) ?_
      exact j_ret_ir hC dX12_twoOf_231
theorem hyV_X12_worked : yX12_worked.cls = RX12 ∧ yX12_worked.cls ≠ "java/lang/invoke/MethodHandle" ∧ yX12_worked.cls ≠ "java/lang/invoke/VarHandle" ∧ (parseMethodDescriptor yX12_worked.desc).map (fun d => d.parameters.length) = some 3 := ⟨rfl, by decide +kernel, by decide +kernel, by decide +kernel⟩
noncomputable def fX12_worked_B12 (p1 : Int32) (p3 : Int32) (j188 : (jS → Option (Int32 × jS))) (s12 : jS × Int32 × Int32 → Option (Int32 × jS)) (a : jS × Int32 × Int32) : Option (Int32 × jS) :=
  (if (((130 : Int32) * p1) + p3) ≤ a.2.2 then (j188 a.1) else (ob a.2.2 260 (jlet (fun (a182 : jS × Int32) => (s12 (a182.1, a182.2, (a.2.2 + (1 : Int32))))) fun (j182 : (jS × Int32 → Option (Int32 × jS))) => (jlet (fun (a45 : Unit) => (jlet (fun (a79 : Int32) => (ob a.2.1 130 (jst (ju a.1 19 (a.2.1).toNatClampNeg a79) fun (σ1 : jS) => (j182 (σ1, (a.2.1 + (1 : Int32))))))) fun (j79 : (Int32 → Option (Int32 × jS))) => (if (a.1.1 13 (a.2.2).toNatClampNeg) = (1 : Int32) then (ob a.2.2 260 (j79 (a.1.1 14 (a.2.2).toNatClampNeg))) else (ob a.2.2 260 (ob (a.1.1 14 (a.2.2).toNatClampNeg) 6 (j79 (a.1.1 18 ((a.1.1 14 (a.2.2).toNatClampNeg)).toNatClampNeg))))))) fun (j45 : (Unit → Option (Int32 × jS))) => (if (a.1.1 13 (a.2.2).toNatClampNeg) = (1 : Int32) then (j45 ()) else (if (a.1.1 13 (a.2.2).toNatClampNeg) = (2 : Int32) then (j45 ()) else (if (a.1.1 13 (a.2.2).toNatClampNeg) = (3 : Int32) then (ob (a.2.1 - (1 : Int32)) 130 (jlet (fun (a117 : Int32) => (ob (a.2.1 - (1 : Int32)) 130 (jst (ju a.1 19 ((a.2.1 - (1 : Int32))).toNatClampNeg a117) fun (σ5 : jS) => (j182 (σ5, a.2.1))))) fun (j117 : (Int32 → Option (Int32 × jS))) => (if (a.1.1 19 ((a.2.1 - (1 : Int32))).toNatClampNeg) = 0 then (j117 (1 : Int32)) else (j117 (0 : Int32))))) else (if (a.1.1 13 (a.2.2).toNatClampNeg) = (4 : Int32) then (ob (a.2.1 - (1 : Int32)) 130 (ob (a.2.1 - (1 : Int32)) 130 (jst (ju a.1 19 ((a.2.1 - (1 : Int32))).toNatClampNeg (-(a.1.1 19 ((a.2.1 - (1 : Int32))).toNatClampNeg))) fun (σ4 : jS) => (j182 (σ4, a.2.1))))) else (ob ((a.2.1 + (-1 : Int32)) - (1 : Int32)) 130 (ob (a.2.1 + (-1 : Int32)) 130 (Option.bind (fX12_twoOf a.1 (a.1.1 13 (a.2.2).toNatClampNeg) (a.1.1 19 (((a.2.1 + (-1 : Int32)) - (1 : Int32))).toNatClampNeg) (a.1.1 19 ((a.2.1 + (-1 : Int32))).toNatClampNeg)) fun (q2 : Int32) => (ob ((a.2.1 + (-1 : Int32)) - (1 : Int32)) 130 (jst (ju a.1 19 (((a.2.1 + (-1 : Int32)) - (1 : Int32))).toNatClampNeg q2) fun (σ3 : jS) => (j182 (σ3, (a.2.1 + (-1 : Int32)))))))))))))))))
noncomputable def fX12_worked (σ : jS) (p1 : Int32) (p2 : Int32) (p3 : Int32) : Option (Int32 × jS) :=
  (jlet (fun (a188 : jS) => (ob (0 : Int32) 130 (some ((a188.1 19 ((0 : Int32)).toNatClampNeg), a188)))) fun (j188 : (jS → Option (Int32 × jS))) => (jloop (fX12_worked_B12 p1 p3 j188) jN (σ, (0 : Int32), (((130 : Int32) * p1) + p2))))
set_option maxRecDepth 100000 in
set_option maxHeartbeats 4000000 in
theorem kX12_worked (l : Launch) (d : jD) (A : Nat → Prop) (σ : jS) (p1 : Int32) (p2 : Int32) (p3 : Int32) : jMi l yX12_worked (jws yX12_worked cX12_worked 7 (some (.int))) { frames := 3, cells := 0, slots := 0, locals := 152 } d wM A [.ref (d.2.1 0), .int p1, .int p2, .int p3] σ (fX12_worked σ p1 p2 p3) := by
  refine jStart_i (lv0 := [(0, .ref (d.2.1 0)), (1, .int p1), (2, .int p2), (3, .int p3)]) (by decide) rfl (Nat.le_of_ble_eq_true rfl) rfl (fun z hC res => ?_)
  unfold fX12_worked
  refine j_iconst (pc' := 1) (v := (0 : Int32)) hC dX12_worked_0 (by decide) rfl ?_
  refine j_istore (pc' := 3) (lv' := [(4, .int (0 : Int32)), (0, .ref (d.2.1 0)), (1, .int p1), (2, .int p2), (3, .int p3)]) hC dX12_worked_1 (by decide) rfl rfl ?_
  refine j_sipush (pc' := 6) (v := (130 : Int32)) hC dX12_worked_3 (by decide) rfl ?_
  refine j_iload_n (pc' := 7) hC 2 dX12_worked_6 rfl rfl rfl ?_
  refine j_imul (pc' := 8) hC dX12_worked_7 rfl ?_
  refine j_iload_n (pc' := 9) hC 3 dX12_worked_8 rfl rfl rfl ?_
  refine j_iadd (pc' := 10) hC dX12_worked_9 rfl ?_
  refine j_istore (pc' := 12) (lv' := [(5, .int (((130 : Int32) * p1) + p2)), (4, .int (0 : Int32)), (0, .ref (d.2.1 0)), (1, .int p1), (2, .int p2), (3, .int p3)]) hC dX12_worked_10 (by decide) rfl rfl ?_
  refine j_let 188 (fun a188 => a188) (fun a188 => [(0, .ref (d.2.1 0))]) (fun a188 => []) (fun a188 => ?_) (fun j188 hj188 => ?_)
  · refine j_aload_n (pc' := 189) hC 0 dX12_worked_188 rfl rfl rfl ?_
    refine j_get (pc' := 192) hC ly_X12 (M_at_0 d _) rfl 31 (by decide) fl_X12_73 rfl dX12_worked_189 rfl ?_
    refine j_iconst (pc' := 193) (v := (0 : Int32)) hC dX12_worked_192 (by decide) rfl ?_
    refine j_iald (pc' := 194) hC (M_at_19 d _) dX12_worked_193 rfl ?_
    exact j_ret_i hC dX12_worked_194
  · refine j_lv (lv' := [(0, .ref (d.2.1 0)), (1, .int p1), (3, .int p3), (4, .int (0 : Int32)), (5, .int (((130 : Int32) * p1) + p2))]) [2, 3, 5, 1, 0] rfl ?_
    refine j_loop 12 (fun a => a.1) (fun a => [(0, .ref (d.2.1 0)), (1, .int p1), (3, .int p3), (4, .int a.2.1), (5, .int a.2.2)]) (fun s12 hs12 a => ?_) jN (σ, (0 : Int32), (((130 : Int32) * p1) + p2))
    unfold fX12_worked_B12
    refine j_iload (pc' := 14) hC 4 dX12_worked_12 rfl rfl ?_
    refine j_sipush (pc' := 17) (v := (130 : Int32)) hC dX12_worked_14 (by decide) rfl ?_
    refine j_iload_n (pc' := 18) hC 1 dX12_worked_17 rfl rfl rfl ?_
    refine j_imul (pc' := 19) hC dX12_worked_18 rfl ?_
    refine j_iload_n (pc' := 20) hC 2 dX12_worked_19 rfl rfl rfl ?_
    refine j_iadd (pc' := 21) hC dX12_worked_20 rfl ?_
    refine j_icmp_ge (pc' := 24) (tgt := 188) hC dX12_worked_21 (by decide) rfl ?_ ?_
    · exact j_lv (lv' := [(0, .ref (d.2.1 0))]) [0] rfl (hj188 a.1)
    · refine j_aload_n (pc' := 25) hC 0 dX12_worked_24 rfl rfl rfl ?_
      refine j_get (pc' := 28) hC ly_X12 (M_at_0 d _) rfl 25 (by decide) fl_X12_54 rfl dX12_worked_25 rfl ?_
      refine j_iload (pc' := 30) hC 4 dX12_worked_28 rfl rfl ?_
      refine j_bald (pc' := 31) hC (M_at_13 d _) dX12_worked_30 rfl ?_
      refine j_istore (pc' := 33) (lv' := [(6, .int (a.1.1 13 (a.2.2).toNatClampNeg)), (0, .ref (d.2.1 0)), (1, .int p1), (3, .int p3), (4, .int a.2.1), (5, .int a.2.2)]) hC dX12_worked_31 (by decide) rfl rfl ?_
      refine j_iload (pc' := 35) hC 0 dX12_worked_33 rfl rfl ?_
      refine j_iconst (pc' := 36) (v := (1 : Int32)) hC dX12_worked_35 (by decide) rfl ?_
      refine j_let 182 (fun a182 => a182.1) (fun a182 => [(0, .ref (d.2.1 0)), (1, .int p1), (3, .int p3), (4, .int a182.2), (5, .int a.2.2)]) (fun a182 => []) (fun a182 => ?_) (fun j182 hj182 => ?_)
      · refine j_iinc (pc' := 185) (v := (a.2.2 + (1 : Int32))) (lv' := [(5, .int (a.2.2 + (1 : Int32))), (0, .ref (d.2.1 0)), (1, .int p1), (3, .int p3), (4, .int a182.2)]) hC 4 dX12_worked_182 rfl (by decide) rfl rfl rfl ?_
        refine j_goto (tgt := 12) hC dX12_worked_185 (by decide) ?_
        exact j_lv (lv' := [(0, .ref (d.2.1 0)), (1, .int p1), (3, .int p3), (4, .int a182.2), (5, .int (a.2.2 + (1 : Int32)))]) [1, 2, 3, 4, 0] rfl (hs12 (a182.1, a182.2, (a.2.2 + (1 : Int32))))
      · refine j_let 45 (fun a45 => a.1) (fun a45 => [(0, .ref (d.2.1 0)), (1, .int p1), (3, .int p3), (4, .int a.2.1), (5, .int a.2.2), (6, .int (a.1.1 13 (a.2.2).toNatClampNeg))]) (fun a45 => []) (fun a45 => ?_) (fun j45 hj45 => ?_)
        · refine j_aload_n (pc' := 46) hC 0 dX12_worked_45 rfl rfl rfl ?_
          refine j_get (pc' := 49) hC ly_X12 (M_at_0 d _) rfl 31 (by decide) fl_X12_73 rfl dX12_worked_46 rfl ?_
          refine j_iload (pc' := 51) hC 3 dX12_worked_49 rfl rfl ?_
          refine j_iload (pc' := 53) hC 5 dX12_worked_51 rfl rfl ?_
          refine j_iconst (pc' := 54) (v := (1 : Int32)) hC dX12_worked_53 (by decide) rfl ?_
          refine j_let 79 (fun a79 => a.1) (fun a79 => [(0, .ref (d.2.1 0)), (1, .int p1), (3, .int p3), (4, .int a.2.1), (5, .int a.2.2)]) (fun a79 => [.int a79, .int a.2.1, .ref (d.2.1 19)]) (fun a79 => ?_) (fun j79 hj79 => ?_)
          · refine j_iast (pc' := 80) hC (M_at_19 d _) (M_sa_19 d _ _) dX12_worked_79 rfl ?_
            refine j_st (fun σ1 => ?_)
            refine j_iinc (pc' := 83) (v := (a.2.1 + (1 : Int32))) (lv' := [(4, .int (a.2.1 + (1 : Int32))), (0, .ref (d.2.1 0)), (1, .int p1), (3, .int p3), (5, .int a.2.2)]) hC 3 dX12_worked_80 rfl (by decide) rfl rfl rfl ?_
            refine j_goto (tgt := 182) hC dX12_worked_83 (by decide) ?_
            exact j_lv (lv' := [(0, .ref (d.2.1 0)), (1, .int p1), (3, .int p3), (4, .int (a.2.1 + (1 : Int32))), (5, .int a.2.2)]) [1, 2, 3, 0, 4] rfl (hj182 (σ1, (a.2.1 + (1 : Int32))))
          · refine j_icmp_ne (pc' := 57) (tgt := 67) hC dX12_worked_54 (by decide) rfl ?_ ?_
            · refine j_aload_n (pc' := 68) hC 0 dX12_worked_67 rfl rfl rfl ?_
              refine j_get (pc' := 71) hC ly_X12 (M_at_0 d _) rfl 30 (by decide) fl_X12_70 rfl dX12_worked_68 rfl ?_
              refine j_aload_n (pc' := 72) hC 0 dX12_worked_71 rfl rfl rfl ?_
              refine j_get (pc' := 75) hC ly_X12 (M_at_0 d _) rfl 26 (by decide) fl_X12_57 rfl dX12_worked_72 rfl ?_
              refine j_iload (pc' := 77) hC 4 dX12_worked_75 rfl rfl ?_
              refine j_iald (pc' := 78) hC (M_at_14 d _) dX12_worked_77 rfl ?_
              refine j_iald (pc' := 79) hC (M_at_18 d _) dX12_worked_78 rfl ?_
              exact j_lv (lv' := [(0, .ref (d.2.1 0)), (1, .int p1), (3, .int p3), (4, .int a.2.1), (5, .int a.2.2)]) [0, 1, 2, 3, 4] rfl (hj79 (a.1.1 18 ((a.1.1 14 (a.2.2).toNatClampNeg)).toNatClampNeg))
            · refine j_aload_n (pc' := 58) hC 0 dX12_worked_57 rfl rfl rfl ?_
              refine j_get (pc' := 61) hC ly_X12 (M_at_0 d _) rfl 26 (by decide) fl_X12_57 rfl dX12_worked_58 rfl ?_
              refine j_iload (pc' := 63) hC 4 dX12_worked_61 rfl rfl ?_
              refine j_iald (pc' := 64) hC (M_at_14 d _) dX12_worked_63 rfl ?_
              refine j_goto (tgt := 79) hC dX12_worked_64 (by decide) ?_
              exact j_lv (lv' := [(0, .ref (d.2.1 0)), (1, .int p1), (3, .int p3), (4, .int a.2.1), (5, .int a.2.2)]) [0, 1, 2, 3, 4] rfl (hj79 (a.1.1 14 (a.2.2).toNatClampNeg))
        · refine j_icmp_eq (pc' := 39) (tgt := 45) hC dX12_worked_36 (by decide) rfl ?_ ?_
          · exact j_lv (lv' := [(0, .ref (d.2.1 0)), (1, .int p1), (3, .int p3), (4, .int a.2.1), (5, .int a.2.2), (6, .int (a.1.1 13 (a.2.2).toNatClampNeg))]) [1, 2, 3, 4, 5, 0] rfl (hj45 ())
          · refine j_iload (pc' := 41) hC 0 dX12_worked_39 rfl rfl ?_
            refine j_iconst (pc' := 42) (v := (2 : Int32)) hC dX12_worked_41 (by decide) rfl ?_
            refine j_icmp_ne (pc' := 45) (tgt := 86) hC dX12_worked_42 (by decide) rfl ?_ ?_
            · refine j_iload (pc' := 88) hC 0 dX12_worked_86 rfl rfl ?_
              refine j_iconst (pc' := 89) (v := (3 : Int32)) hC dX12_worked_88 (by decide) rfl ?_
              refine j_icmp_ne (pc' := 92) (tgt := 121) hC dX12_worked_89 (by decide) rfl ?_ ?_
              · refine j_iload (pc' := 123) hC 0 dX12_worked_121 rfl rfl ?_
                refine j_iconst (pc' := 124) (v := (4 : Int32)) hC dX12_worked_123 (by decide) rfl ?_
                refine j_icmp_ne (pc' := 127) (tgt := 149) hC dX12_worked_124 (by decide) rfl ?_ ?_
                · refine j_iinc (pc' := 152) (v := (a.2.1 + (-1 : Int32))) (lv' := [(4, .int (a.2.1 + (-1 : Int32))), (6, .int (a.1.1 13 (a.2.2).toNatClampNeg)), (0, .ref (d.2.1 0)), (1, .int p1), (3, .int p3), (5, .int a.2.2)]) hC 4 dX12_worked_149 rfl (by decide) rfl rfl rfl ?_
                  refine j_aload_n (pc' := 153) hC 2 dX12_worked_152 rfl rfl rfl ?_
                  refine j_get (pc' := 156) hC ly_X12 (M_at_0 d _) rfl 31 (by decide) fl_X12_73 rfl dX12_worked_153 rfl ?_
                  refine j_iload (pc' := 158) hC 0 dX12_worked_156 rfl rfl ?_
                  refine j_iconst (pc' := 159) (v := (1 : Int32)) hC dX12_worked_158 (by decide) rfl ?_
                  refine j_isub (pc' := 160) hC dX12_worked_159 rfl ?_
                  refine j_iload (pc' := 162) hC 1 dX12_worked_160 rfl rfl ?_
                  refine j_aload_n (pc' := 163) hC 2 dX12_worked_162 rfl rfl rfl ?_
                  refine j_get (pc' := 166) hC ly_X12 (M_at_0 d _) rfl 31 (by decide) fl_X12_73 rfl dX12_worked_163 rfl ?_
                  refine j_iload (pc' := 168) hC 0 dX12_worked_166 rfl rfl ?_
                  refine j_iconst (pc' := 169) (v := (1 : Int32)) hC dX12_worked_168 (by decide) rfl ?_
                  refine j_isub (pc' := 170) hC dX12_worked_169 rfl ?_
                  refine j_iald (pc' := 171) hC (M_at_19 d _) dX12_worked_170 rfl ?_
                  refine j_aload_n (pc' := 172) hC 2 dX12_worked_171 rfl rfl rfl ?_
                  refine j_get (pc' := 175) hC ly_X12 (M_at_0 d _) rfl 31 (by decide) fl_X12_73 rfl dX12_worked_172 rfl ?_
                  refine j_iload (pc' := 177) hC 0 dX12_worked_175 rfl rfl ?_
                  refine j_iald (pc' := 178) hC (M_at_19 d _) dX12_worked_177 rfl ?_
                  refine j_callS_ir (pc' := 181) (As := [.int (a.1.1 13 (a.2.2).toNatClampNeg), .int (a.1.1 19 (((a.2.1 + (-1 : Int32)) - (1 : Int32))).toNatClampNeg), .int (a.1.1 19 ((a.2.1 + (-1 : Int32))).toNatClampNeg)]) (st := [.int ((a.2.1 + (-1 : Int32)) - (1 : Int32)), .ref (d.2.1 19)]) hC (kX12_twoOf l d A _ _ _ _) (jgS ml_X12_235 st_X12_twoOf in_X12 cd_X12_twoOf) rfl rfl rfl hyS_X12_twoOf ⟨Nat.le_of_ble_eq_true rfl, Nat.le_of_ble_eq_true rfl⟩ rfl rfl (Nat.le_of_ble_eq_true rfl) dX12_worked_178 rfl (fun q2 => ?_)
                  refine j_iast (pc' := 182) hC (M_at_19 d _) (M_sa_19 d _ _) dX12_worked_181 rfl ?_
                  refine j_st (fun σ3 => ?_)
                  exact j_lv (lv' := [(0, .ref (d.2.1 0)), (1, .int p1), (3, .int p3), (4, .int (a.2.1 + (-1 : Int32))), (5, .int a.2.2)]) [2, 3, 4, 0, 5] rfl (hj182 (σ3, (a.2.1 + (-1 : Int32))))
                · refine j_aload_n (pc' := 128) hC 1 dX12_worked_127 rfl rfl rfl ?_
                  refine j_get (pc' := 131) hC ly_X12 (M_at_0 d _) rfl 31 (by decide) fl_X12_73 rfl dX12_worked_128 rfl ?_
                  refine j_iload (pc' := 133) hC 4 dX12_worked_131 rfl rfl ?_
                  refine j_iconst (pc' := 134) (v := (1 : Int32)) hC dX12_worked_133 (by decide) rfl ?_
                  refine j_isub (pc' := 135) hC dX12_worked_134 rfl ?_
                  refine j_aload_n (pc' := 136) hC 1 dX12_worked_135 rfl rfl rfl ?_
                  refine j_get (pc' := 139) hC ly_X12 (M_at_0 d _) rfl 31 (by decide) fl_X12_73 rfl dX12_worked_136 rfl ?_
                  refine j_iload (pc' := 141) hC 4 dX12_worked_139 rfl rfl ?_
                  refine j_iconst (pc' := 142) (v := (1 : Int32)) hC dX12_worked_141 (by decide) rfl ?_
                  refine j_isub (pc' := 143) hC dX12_worked_142 rfl ?_
                  refine j_iald (pc' := 144) hC (M_at_19 d _) dX12_worked_143 rfl ?_
                  refine j_ineg (pc' := 145) hC dX12_worked_144 rfl ?_
                  refine j_iast (pc' := 146) hC (M_at_19 d _) (M_sa_19 d _ _) dX12_worked_145 rfl ?_
                  refine j_st (fun σ4 => ?_)
                  refine j_goto (tgt := 182) hC dX12_worked_146 (by decide) ?_
                  exact j_lv (lv' := [(0, .ref (d.2.1 0)), (1, .int p1), (3, .int p3), (4, .int a.2.1), (5, .int a.2.2)]) [1, 2, 3, 4, 5] rfl (hj182 (σ4, a.2.1))
              · refine j_aload_n (pc' := 93) hC 1 dX12_worked_92 rfl rfl rfl ?_
                refine j_get (pc' := 96) hC ly_X12 (M_at_0 d _) rfl 31 (by decide) fl_X12_73 rfl dX12_worked_93 rfl ?_
                refine j_iload (pc' := 98) hC 4 dX12_worked_96 rfl rfl ?_
                refine j_iconst (pc' := 99) (v := (1 : Int32)) hC dX12_worked_98 (by decide) rfl ?_
                refine j_isub (pc' := 100) hC dX12_worked_99 rfl ?_
                refine j_aload_n (pc' := 101) hC 1 dX12_worked_100 rfl rfl rfl ?_
                refine j_get (pc' := 104) hC ly_X12 (M_at_0 d _) rfl 31 (by decide) fl_X12_73 rfl dX12_worked_101 rfl ?_
                refine j_iload (pc' := 106) hC 4 dX12_worked_104 rfl rfl ?_
                refine j_iconst (pc' := 107) (v := (1 : Int32)) hC dX12_worked_106 (by decide) rfl ?_
                refine j_isub (pc' := 108) hC dX12_worked_107 rfl ?_
                refine j_iald (pc' := 109) hC (M_at_19 d _) dX12_worked_108 rfl ?_
                refine j_let 117 (fun a117 => a.1) (fun a117 => [(0, .ref (d.2.1 0)), (1, .int p1), (3, .int p3), (4, .int a.2.1), (5, .int a.2.2)]) (fun a117 => [.int a117, .int (a.2.1 - (1 : Int32)), .ref (d.2.1 19)]) (fun a117 => ?_) (fun j117 hj117 => ?_)
                · refine j_iast (pc' := 118) hC (M_at_19 d _) (M_sa_19 d _ _) dX12_worked_117 rfl ?_
                  refine j_st (fun σ5 => ?_)
                  refine j_goto (tgt := 182) hC dX12_worked_118 (by decide) ?_
                  exact j_lv (lv' := [(0, .ref (d.2.1 0)), (1, .int p1), (3, .int p3), (4, .int a.2.1), (5, .int a.2.2)]) [0, 1, 2, 3, 4] rfl (hj182 (σ5, a.2.1))
                · refine j_if_ne (pc' := 112) (tgt := 116) hC dX12_worked_109 (by decide) rfl ?_ ?_
                  · refine j_iconst (pc' := 117) (v := (0 : Int32)) hC dX12_worked_116 (by decide) rfl ?_
                    exact j_lv (lv' := [(0, .ref (d.2.1 0)), (1, .int p1), (3, .int p3), (4, .int a.2.1), (5, .int a.2.2)]) [1, 2, 3, 4, 5] rfl (hj117 (0 : Int32))
                  · refine j_iconst (pc' := 113) (v := (1 : Int32)) hC dX12_worked_112 (by decide) rfl ?_
                    refine j_goto (tgt := 117) hC dX12_worked_113 (by decide) ?_
                    exact j_lv (lv' := [(0, .ref (d.2.1 0)), (1, .int p1), (3, .int p3), (4, .int a.2.1), (5, .int a.2.2)]) [1, 2, 3, 4, 5] rfl (hj117 (1 : Int32))
            · exact j_lv (lv' := [(0, .ref (d.2.1 0)), (1, .int p1), (3, .int p3), (4, .int a.2.1), (5, .int a.2.2), (6, .int (a.1.1 13 (a.2.2).toNatClampNeg))]) [1, 2, 3, 4, 5, 0] rfl (hj45 ())
theorem hyV_X12_gives : yX12_gives.cls = RX12 ∧ yX12_gives.cls ≠ "java/lang/invoke/MethodHandle" ∧ yX12_gives.cls ≠ "java/lang/invoke/VarHandle" ∧ (parseMethodDescriptor yX12_gives.desc).map (fun d => d.parameters.length) = some 1 := ⟨rfl, by decide +kernel, by decide +kernel, by decide +kernel⟩
noncomputable def fX12_gives_B7 (p1 : Int32) (j47 : (jS × Int32 → Option (Int32 × jS))) (s7 : jS × Int32 × Int32 → Option (Int32 × jS)) (a : jS × Int32 × Int32) : Option (Int32 × jS) :=
  (ob p1 2 (if (((61 : Int32) * p1) + (a.1.1 15 (p1).toNatClampNeg)) ≤ a.2.2 then (some ((0 : Int32), a.1)) else (ob a.2.2 122 (if (a.1.1 16 (a.2.2).toNatClampNeg) = a.2.1 then (j47 (a.1, a.2.2)) else (ob a.2.2 122 (Option.bind (fX12_worked a.1 p1 a.2.1 (a.1.1 16 (a.2.2).toNatClampNeg)) fun (q2 : (Int32 × jS)) => (if q2.1 = 0 then (ob a.2.2 122 (s7 (q2.2, (q2.2.1 17 (a.2.2).toNatClampNeg), (a.2.2 + (1 : Int32))))) else (j47 (q2.2, a.2.2)))))))))
noncomputable def fX12_gives (σ : jS) (p1 : Int32) : Option (Int32 × jS) :=
  (jlet (fun (a47 : jS × Int32) => (ob a47.2 122 (ob a47.2 122 (Option.bind (fX12_worked a47.1 p1 (a47.1.1 16 (a47.2).toNatClampNeg) (a47.1.1 17 (a47.2).toNatClampNeg)) fun (q1 : (Int32 × jS)) => (some (q1.1, q1.2)))))) fun (j47 : (jS × Int32 → Option (Int32 × jS))) => (jloop (fX12_gives_B7 p1 j47) jN (σ, (0 : Int32), ((61 : Int32) * p1))))
set_option maxRecDepth 100000 in
set_option maxHeartbeats 4000000 in
theorem kX12_gives (l : Launch) (d : jD) (A : Nat → Prop) (σ : jS) (p1 : Int32) : jMi l yX12_gives (jws yX12_gives cX12_gives 4 (some (.int))) { frames := 4, cells := 0, slots := 0, locals := 178 } d wM A [.ref (d.2.1 0), .int p1] σ (fX12_gives σ p1) := by
  refine jStart_i (lv0 := [(0, .ref (d.2.1 0)), (1, .int p1)]) (by decide) rfl (Nat.le_of_ble_eq_true rfl) rfl (fun z hC res => ?_)
  unfold fX12_gives
  refine j_iconst (pc' := 1) (v := (0 : Int32)) hC dX12_gives_0 (by decide) rfl ?_
  refine j_istore_n (pc' := 2) (lv' := [(2, .int (0 : Int32)), (0, .ref (d.2.1 0)), (1, .int p1)]) hC dX12_gives_1 rfl (by decide) rfl rfl ?_
  refine j_bipush (pc' := 4) (v := (61 : Int32)) hC dX12_gives_2 (by decide) rfl ?_
  refine j_iload_n (pc' := 5) hC 2 dX12_gives_4 rfl rfl rfl ?_
  refine j_imul (pc' := 6) hC dX12_gives_5 rfl ?_
  refine j_istore_n (pc' := 7) (lv' := [(3, .int ((61 : Int32) * p1)), (2, .int (0 : Int32)), (0, .ref (d.2.1 0)), (1, .int p1)]) hC dX12_gives_6 rfl (by decide) rfl rfl ?_
  refine j_let 47 (fun a47 => a47.1) (fun a47 => [(0, .ref (d.2.1 0)), (1, .int p1), (3, .int a47.2)]) (fun a47 => []) (fun a47 => ?_) (fun j47 hj47 => ?_)
  · refine j_aload_n (pc' := 48) hC 0 dX12_gives_47 rfl rfl rfl ?_
    refine j_iload_n (pc' := 49) hC 1 dX12_gives_48 rfl rfl rfl ?_
    refine j_aload_n (pc' := 50) hC 0 dX12_gives_49 rfl rfl rfl ?_
    refine j_get (pc' := 53) hC ly_X12 (M_at_0 d _) rfl 28 (by decide) fl_X12_63 rfl dX12_gives_50 rfl ?_
    refine j_iload_n (pc' := 54) hC 2 dX12_gives_53 rfl rfl rfl ?_
    refine j_sald (pc' := 55) hC (M_at_16 d _) dX12_gives_54 rfl ?_
    refine j_aload_n (pc' := 56) hC 0 dX12_gives_55 rfl rfl rfl ?_
    refine j_get (pc' := 59) hC ly_X12 (M_at_0 d _) rfl 29 (by decide) fl_X12_67 rfl dX12_gives_56 rfl ?_
    refine j_iload_n (pc' := 60) hC 2 dX12_gives_59 rfl rfl rfl ?_
    refine j_sald (pc' := 61) hC (M_at_17 d _) dX12_gives_60 rfl ?_
    refine j_callV_i (pc' := 64) (As := [.int p1, .int (a47.1.1 16 (a47.2).toNatClampNeg), .int (a47.1.1 17 (a47.2).toNatClampNeg)]) (st := []) hC (M_at_0 d _) rfl (kX12_worked l d A _ _ _ _) (jgV ml_X12_238 im_X12_worked se_X12_worked in_X12 cd_X12_worked) rfl rfl rfl hyV_X12_worked ⟨Nat.le_of_ble_eq_true rfl, Nat.le_of_ble_eq_true rfl⟩ rfl rfl (Nat.le_of_ble_eq_true rfl) dX12_gives_61 rfl (fun q1 => ?_)
    exact j_ret_i hC dX12_gives_64
  · refine j_lv (lv' := [(0, .ref (d.2.1 0)), (1, .int p1), (2, .int (0 : Int32)), (3, .int ((61 : Int32) * p1))]) [2, 3, 1, 0] rfl ?_
    refine j_loop 7 (fun a => a.1) (fun a => [(0, .ref (d.2.1 0)), (1, .int p1), (2, .int a.2.1), (3, .int a.2.2)]) (fun s7 hs7 a => ?_) jN (σ, (0 : Int32), ((61 : Int32) * p1))
    unfold fX12_gives_B7
    refine j_iload_n (pc' := 8) hC 3 dX12_gives_7 rfl rfl rfl ?_
    refine j_bipush (pc' := 10) (v := (61 : Int32)) hC dX12_gives_8 (by decide) rfl ?_
    refine j_iload_n (pc' := 11) hC 1 dX12_gives_10 rfl rfl rfl ?_
    refine j_imul (pc' := 12) hC dX12_gives_11 rfl ?_
    refine j_aload_n (pc' := 13) hC 0 dX12_gives_12 rfl rfl rfl ?_
    refine j_get (pc' := 16) hC ly_X12 (M_at_0 d _) rfl 27 (by decide) fl_X12_60 rfl dX12_gives_13 rfl ?_
    refine j_iload_n (pc' := 17) hC 1 dX12_gives_16 rfl rfl rfl ?_
    refine j_iald (pc' := 18) hC (M_at_15 d _) dX12_gives_17 rfl ?_
    refine j_iadd (pc' := 19) hC dX12_gives_18 rfl ?_
    refine j_icmp_ge (pc' := 22) (tgt := 78) hC dX12_gives_19 (by decide) rfl ?_ ?_
    · refine j_iconst (pc' := 79) (v := (0 : Int32)) hC dX12_gives_78 (by decide) rfl ?_
      exact j_ret_i hC dX12_gives_79
    · refine j_aload_n (pc' := 23) hC 0 dX12_gives_22 rfl rfl rfl ?_
      refine j_get (pc' := 26) hC ly_X12 (M_at_0 d _) rfl 28 (by decide) fl_X12_63 rfl dX12_gives_23 rfl ?_
      refine j_iload_n (pc' := 27) hC 3 dX12_gives_26 rfl rfl rfl ?_
      refine j_sald (pc' := 28) hC (M_at_16 d _) dX12_gives_27 rfl ?_
      refine j_iload_n (pc' := 29) hC 2 dX12_gives_28 rfl rfl rfl ?_
      refine j_icmp_eq (pc' := 32) (tgt := 47) hC dX12_gives_29 (by decide) rfl ?_ ?_
      · exact j_lv (lv' := [(0, .ref (d.2.1 0)), (1, .int p1), (3, .int a.2.2)]) [0, 1, 3] rfl (hj47 (a.1, a.2.2))
      · refine j_aload_n (pc' := 33) hC 0 dX12_gives_32 rfl rfl rfl ?_
        refine j_iload_n (pc' := 34) hC 1 dX12_gives_33 rfl rfl rfl ?_
        refine j_iload_n (pc' := 35) hC 2 dX12_gives_34 rfl rfl rfl ?_
        refine j_aload_n (pc' := 36) hC 0 dX12_gives_35 rfl rfl rfl ?_
        refine j_get (pc' := 39) hC ly_X12 (M_at_0 d _) rfl 28 (by decide) fl_X12_63 rfl dX12_gives_36 rfl ?_
        refine j_iload_n (pc' := 40) hC 3 dX12_gives_39 rfl rfl rfl ?_
        refine j_sald (pc' := 41) hC (M_at_16 d _) dX12_gives_40 rfl ?_
        refine j_callV_i (pc' := 44) (As := [.int p1, .int a.2.1, .int (a.1.1 16 (a.2.2).toNatClampNeg)]) (st := []) hC (M_at_0 d _) rfl (kX12_worked l d A _ _ _ _) (jgV ml_X12_238 im_X12_worked se_X12_worked in_X12 cd_X12_worked) rfl rfl rfl hyV_X12_worked ⟨Nat.le_of_ble_eq_true rfl, Nat.le_of_ble_eq_true rfl⟩ rfl rfl (Nat.le_of_ble_eq_true rfl) dX12_gives_41 rfl (fun q2 => ?_)
        refine j_if_eq (pc' := 47) (tgt := 65) hC dX12_gives_44 (by decide) rfl ?_ ?_
        · refine j_aload_n (pc' := 66) hC 0 dX12_gives_65 rfl rfl rfl ?_
          refine j_get (pc' := 69) hC ly_X12 (M_at_0 d _) rfl 29 (by decide) fl_X12_67 rfl dX12_gives_66 rfl ?_
          refine j_iload_n (pc' := 70) hC 3 dX12_gives_69 rfl rfl rfl ?_
          refine j_sald (pc' := 71) hC (M_at_17 d _) dX12_gives_70 rfl ?_
          refine j_istore_n (pc' := 72) (lv' := [(2, .int (q2.2.1 17 (a.2.2).toNatClampNeg)), (0, .ref (d.2.1 0)), (1, .int p1), (3, .int a.2.2)]) hC dX12_gives_71 rfl (by decide) rfl rfl ?_
          refine j_iinc (pc' := 75) (v := (a.2.2 + (1 : Int32))) (lv' := [(3, .int (a.2.2 + (1 : Int32))), (2, .int (q2.2.1 17 (a.2.2).toNatClampNeg)), (0, .ref (d.2.1 0)), (1, .int p1)]) hC 3 dX12_gives_72 rfl (by decide) rfl rfl rfl ?_
          refine j_goto (tgt := 7) hC dX12_gives_75 (by decide) ?_
          exact j_lv (lv' := [(0, .ref (d.2.1 0)), (1, .int p1), (2, .int (q2.2.1 17 (a.2.2).toNatClampNeg)), (3, .int (a.2.2 + (1 : Int32)))]) [2, 3, 1, 0] rfl (hs7 (q2.2, (q2.2.1 17 (a.2.2).toNatClampNeg), (a.2.2 + (1 : Int32))))
        · exact j_lv (lv' := [(0, .ref (d.2.1 0)), (1, .int p1), (3, .int a.2.2)]) [0, 1, 3] rfl (hj47 (q2.2, a.2.2))
theorem hyV_X12_law : yX12_law.cls = RX12 ∧ yX12_law.cls ≠ "java/lang/invoke/MethodHandle" ∧ yX12_law.cls ≠ "java/lang/invoke/VarHandle" ∧ (parseMethodDescriptor yX12_law.desc).map (fun d => d.parameters.length) = some 0 := ⟨rfl, by decide +kernel, by decide +kernel, by decide +kernel⟩
noncomputable def fX12_law (σ : jS) : Option (Int32 × jS) :=
  (Option.bind (fX12_readText σ (0 : Int32)) fun (q1 : (Int32 × jS)) => (if q1.1 < 0 then (jst (ju q1.2 0 32 (1 : Int32)) fun (σ2 : jS) => (some ((1 : Int32), σ2))) else (some (((-100 : Int32) - q1.1), q1.2))))
set_option maxRecDepth 100000 in
set_option maxHeartbeats 4000000 in
theorem kX12_law (l : Launch) (d : jD) (A : Nat → Prop) (σ : jS) : jMi l yX12_law (jws yX12_law cX12_law 2 (some (.int))) { frames := 106, cells := 0, slots := 0, locals := 2337 } d wM A [.ref (d.2.1 0)] σ (fX12_law σ) := by
  refine jStart_i (lv0 := [(0, .ref (d.2.1 0))]) (by decide) rfl (Nat.le_of_ble_eq_true rfl) rfl (fun z hC res => ?_)
  unfold fX12_law
  refine j_aload_n (pc' := 1) hC 0 dX12_law_0 rfl rfl rfl ?_
  refine j_iconst (pc' := 2) (v := (0 : Int32)) hC dX12_law_1 (by decide) rfl ?_
  refine j_callV_i (pc' := 5) (As := [.int (0 : Int32)]) (st := []) hC (M_at_0 d _) rfl (kX12_readText l d A _ _) (jgV ml_X12_241 im_X12_readText se_X12_readText in_X12 cd_X12_readText) rfl rfl rfl hyV_X12_readText ⟨Nat.le_of_ble_eq_true rfl, Nat.le_of_ble_eq_true rfl⟩ rfl rfl (Nat.le_of_ble_eq_true rfl) dX12_law_2 rfl (fun q1 => ?_)
  refine j_istore_n (pc' := 6) (lv' := [(1, .int q1.1), (0, .ref (d.2.1 0))]) hC dX12_law_5 rfl (by decide) rfl rfl ?_
  refine j_iload_n (pc' := 7) hC 0 dX12_law_6 rfl rfl rfl ?_
  refine j_if_lt (pc' := 10) (tgt := 15) hC dX12_law_7 (by decide) rfl ?_ ?_
  · refine j_aload_n (pc' := 16) hC 1 dX12_law_15 rfl rfl rfl ?_
    refine j_iconst (pc' := 17) (v := (1 : Int32)) hC dX12_law_16 (by decide) rfl ?_
    refine j_topeq (show (1 : Int32) = jb (1 : Int32) by decide) ?_
    refine j_put (pc' := 20) hC ly_X12 tyX12 tyX12_ok nmX12 (M_at_0 d _) rfl 32 (by decide) fl_X12_244 rfl rfl (jb_nar _) (jb_fit _) (Nat.le_of_ble_eq_true rfl) (M_sf_0_32 d _ _) dX12_law_17 rfl ?_
    refine j_st (fun σ2 => ?_)
    refine j_iconst (pc' := 21) (v := (1 : Int32)) hC dX12_law_20 (by decide) rfl ?_
    exact j_ret_i hC dX12_law_21
  · refine j_bipush (pc' := 12) (v := (-100 : Int32)) hC dX12_law_10 (by decide) rfl ?_
    refine j_iload_n (pc' := 13) hC 0 dX12_law_12 rfl rfl rfl ?_
    refine j_isub (pc' := 14) hC dX12_law_13 rfl ?_
    exact j_ret_i hC dX12_law_14
theorem hyV_X12_bentOf : yX12_bentOf.cls = RX12 ∧ yX12_bentOf.cls ≠ "java/lang/invoke/MethodHandle" ∧ yX12_bentOf.cls ≠ "java/lang/invoke/VarHandle" ∧ (parseMethodDescriptor yX12_bentOf.desc).map (fun d => d.parameters.length) = some 2 := ⟨rfl, by decide +kernel, by decide +kernel, by decide +kernel⟩
noncomputable def fX12_bentOf (σ : jS) (p1 : Int32) (p2 : Int32) : Option (Int32) :=
  (if p2 = (9 : Int32) then (some (0 : Int32)) else (ob p2 9 (if (σ.1 6 (p2).toNatClampNeg) = p1 then (some (1 : Int32)) else (ob p2 9 (some (σ.1 5 (p2).toNatClampNeg))))))
set_option maxRecDepth 100000 in
set_option maxHeartbeats 4000000 in
theorem kX12_bentOf (l : Launch) (d : jD) (A : Nat → Prop) (σ : jS) (p1 : Int32) (p2 : Int32) : jMir l yX12_bentOf (jws yX12_bentOf cX12_bentOf 3 (some (.int))) { frames := 2, cells := 0, slots := 0, locals := 130 } d wM A [.ref (d.2.1 0), .int p1, .int p2] σ (fX12_bentOf σ p1 p2) := by
  refine jStart_ir (lv0 := [(0, .ref (d.2.1 0)), (1, .int p1), (2, .int p2)]) (by decide) rfl (Nat.le_of_ble_eq_true rfl) rfl (fun z hC res => ?_)
  unfold fX12_bentOf
  refine j_iload_n (pc' := 1) hC 2 dX12_bentOf_0 rfl rfl rfl ?_
  refine j_bipush (pc' := 3) (v := (9 : Int32)) hC dX12_bentOf_1 (by decide) rfl ?_
  refine j_icmp_ne (pc' := 6) (tgt := 10) hC dX12_bentOf_3 (by decide) rfl ?_ ?_
  · refine j_aload_n (pc' := 11) hC 0 dX12_bentOf_10 rfl rfl rfl ?_
    refine j_get (pc' := 14) hC ly_X12 (M_at_0 d _) rfl 7 (by decide) fl_X12_25 rfl dX12_bentOf_11 rfl ?_
    refine j_iload_n (pc' := 15) hC 2 dX12_bentOf_14 rfl rfl rfl ?_
    refine j_iald (pc' := 16) hC (M_at_6 d _) dX12_bentOf_15 rfl ?_
    refine j_iload_n (pc' := 17) hC 1 dX12_bentOf_16 rfl rfl rfl ?_
    refine j_icmp_ne (pc' := 20) (tgt := 24) hC dX12_bentOf_17 (by decide) rfl ?_ ?_
    · refine j_aload_n (pc' := 25) hC 0 dX12_bentOf_24 rfl rfl rfl ?_
      refine j_get (pc' := 28) hC ly_X12 (M_at_0 d _) rfl 6 (by decide) fl_X12_22 rfl dX12_bentOf_25 rfl ?_
      refine j_iload_n (pc' := 29) hC 2 dX12_bentOf_28 rfl rfl rfl ?_
      refine j_iald (pc' := 30) hC (M_at_5 d _) dX12_bentOf_29 rfl ?_
      exact j_ret_ir hC dX12_bentOf_30
    · refine j_iconst (pc' := 21) (v := (1 : Int32)) hC dX12_bentOf_20 (by decide) rfl ?_
      refine j_goto (tgt := 30) hC dX12_bentOf_21 (by decide) ?_
      exact j_ret_ir hC dX12_bentOf_30
  · refine j_iconst (pc' := 7) (v := (0 : Int32)) hC dX12_bentOf_6 (by decide) rfl ?_
    refine j_goto (tgt := 30) hC dX12_bentOf_7 (by decide) ?_
    exact j_ret_ir hC dX12_bentOf_30
theorem hyS_X12_countedBy : yX12_countedBy.cls ≠ "java/lang/invoke/MethodHandle" ∧ yX12_countedBy.cls ≠ "java/lang/invoke/VarHandle" ∧ (parseMethodDescriptor yX12_countedBy.desc).map (fun d => d.parameters.length) = some 2 := ⟨by decide +kernel, by decide +kernel, by decide +kernel⟩
noncomputable def fX12_countedBy (σ : jS) (p1 : Int32) (p2 : Int32) : Option (Int32) :=
  (if p1 = (1 : Int32) then (some (p2 - (p2 / (3 : Int32)))) else (if p1 = (2 : Int32) then (some (p2 + (p2 / (4 : Int32)))) else (if p1 = (3 : Int32) then (some ((p2 / (10 : Int32)) * (10 : Int32))) else (some p2))))
set_option maxRecDepth 100000 in
set_option maxHeartbeats 4000000 in
theorem kX12_countedBy (l : Launch) (d : jD) (A : Nat → Prop) (σ : jS) (p1 : Int32) (p2 : Int32) : jMir l yX12_countedBy (jws yX12_countedBy cX12_countedBy 2 (some (.int))) { frames := 2, cells := 0, slots := 0, locals := 130 } d wM A [.int p1, .int p2] σ (fX12_countedBy σ p1 p2) := by
  refine jStart_ir (lv0 := [(0, .int p1), (1, .int p2)]) (by decide) rfl (Nat.le_of_ble_eq_true rfl) rfl (fun z hC res => ?_)
  unfold fX12_countedBy
  refine j_iload_n (pc' := 1) hC 0 dX12_countedBy_0 rfl rfl rfl ?_
  refine j_if (fun c0 => ?_) (fun c0 => ?_)
  · refine j_tableIn (tgt := 28) (off := 27) hC dX12_countedBy_1 (by rw [c0]; decide) (by rw [c0]; decide) (by rw [c0]; rfl) (by decide) ?_
    refine j_iload_n (pc' := 29) hC 1 dX12_countedBy_28 rfl rfl rfl ?_
    refine j_iload_n (pc' := 30) hC 1 dX12_countedBy_29 rfl rfl rfl ?_
    refine j_iconst (pc' := 31) (v := (3 : Int32)) hC dX12_countedBy_30 (by decide) rfl ?_
    refine j_idiv0 (pc' := 32) hC dX12_countedBy_31 (by decide) rfl ?_
    refine j_isub (pc' := 33) hC dX12_countedBy_32 rfl ?_
    exact j_ret_ir hC dX12_countedBy_33
  refine j_if (fun c1 => ?_) (fun c1 => ?_)
  · refine j_tableIn (tgt := 34) (off := 33) hC dX12_countedBy_1 (by rw [c1]; decide) (by rw [c1]; decide) (by rw [c1]; rfl) (by decide) ?_
    refine j_iload_n (pc' := 35) hC 1 dX12_countedBy_34 rfl rfl rfl ?_
    refine j_iload_n (pc' := 36) hC 1 dX12_countedBy_35 rfl rfl rfl ?_
    refine j_iconst (pc' := 37) (v := (4 : Int32)) hC dX12_countedBy_36 (by decide) rfl ?_
    refine j_idiv0 (pc' := 38) hC dX12_countedBy_37 (by decide) rfl ?_
    refine j_iadd (pc' := 39) hC dX12_countedBy_38 rfl ?_
    exact j_ret_ir hC dX12_countedBy_39
  refine j_if (fun c2 => ?_) (fun c2 => ?_)
  · refine j_tableIn (tgt := 40) (off := 39) hC dX12_countedBy_1 (by rw [c2]; decide) (by rw [c2]; decide) (by rw [c2]; rfl) (by decide) ?_
    refine j_iload_n (pc' := 41) hC 1 dX12_countedBy_40 rfl rfl rfl ?_
    refine j_bipush (pc' := 43) (v := (10 : Int32)) hC dX12_countedBy_41 (by decide) rfl ?_
    refine j_idiv0 (pc' := 44) hC dX12_countedBy_43 (by decide) rfl ?_
    refine j_bipush (pc' := 46) (v := (10 : Int32)) hC dX12_countedBy_44 (by decide) rfl ?_
    refine j_imul (pc' := 47) hC dX12_countedBy_46 rfl ?_
    exact j_ret_ir hC dX12_countedBy_47
  refine j_tableOut (tgt := 48) hC dX12_countedBy_1 (by have e0 := lv_neT c0 (a := 1) rfl; have e1 := lv_neT c1 (a := 2) rfl; have e2 := lv_neT c2 (a := 3) rfl; omega) (by decide) ?_
  refine j_iload_n (pc' := 49) hC 1 dX12_countedBy_48 rfl rfl rfl ?_
  exact j_ret_ir hC dX12_countedBy_49
theorem hyV_X12_goRound : yX12_goRound.cls = RX12 ∧ yX12_goRound.cls ≠ "java/lang/invoke/MethodHandle" ∧ yX12_goRound.cls ≠ "java/lang/invoke/VarHandle" ∧ (parseMethodDescriptor yX12_goRound.desc).map (fun d => d.parameters.length) = some 3 := ⟨rfl, by decide +kernel, by decide +kernel, by decide +kernel⟩
noncomputable def fX12_goRound (σ : jS) (p1 : Int32) (p2 : Int32) (p3 : Int32) : Option (Int32 × jS) :=
  (ob p2 9 (ob p2 9 (jst ((((σ.1 0 33) + (σ.1 0 9)) + (σ.1 3 (p2).toNatClampNeg)) - ((σ.1 2 (p2).toNatClampNeg) / (3 : Int32))) fun (y1 : Int32) => (jlet (fun (a59 : Int32) => (jst (ju σ 0 33 a59) fun (σ2 : jS) => (jlet (fun (a81 : jS) => (ob p1 3 (jst (((a81.1 1 (p1).toNatClampNeg) + ((a81.1 0 33) / (3 : Int32))) + (1 : Int32)) fun (y3 : Int32) => (jlet (fun (a173 : jS × Int32) => (jst (ju a173.1 0 34 ((a173.1.1 0 34) + (1 : Int32))) fun (σ4 : jS) => (jlet (fun (a207 : Int32) => (jst (ju σ4 0 35 ((σ4.1 0 35) + a207)) fun (σ5 : jS) => (some (a207, σ5)))) fun (j207 : (Int32 → Option (Int32 × jS))) => (if (1 : Int32) ≤ a173.2 then (if a173.2 ≤ (20 : Int32) then (j207 a173.2) else (j207 (20 : Int32))) else (j207 (1 : Int32)))))) fun (j173 : (jS × Int32 → Option (Int32 × jS))) => (if (jb (a81.1 0 32)) = 0 then (j173 (a81, y3)) else (ob (0 : Int32) 6 (jst (ju a81 18 ((0 : Int32)).toNatClampNeg (a81.1 0 33)) fun (σ6 : jS) => (ob p1 3 (ob (1 : Int32) 6 (jst (ju σ6 18 ((1 : Int32)).toNatClampNeg (σ6.1 1 (p1).toNatClampNeg)) fun (σ7 : jS) => (ob p2 9 (ob (2 : Int32) 6 (jst (ju σ7 18 ((2 : Int32)).toNatClampNeg (σ7.1 2 (p2).toNatClampNeg)) fun (σ8 : jS) => (ob (3 : Int32) 6 (jst (ju σ8 18 ((3 : Int32)).toNatClampNeg (σ8.1 0 34)) fun (σ9 : jS) => (ob (4 : Int32) 6 (jst (ju σ9 18 ((4 : Int32)).toNatClampNeg p3) fun (σ10 : jS) => (ob (5 : Int32) 6 (jst (ju σ10 18 ((5 : Int32)).toNatClampNeg (σ10.1 0 9)) fun (σ11 : jS) => (Option.bind (fX12_gives σ11 (0 : Int32)) fun (q12 : (Int32 × jS)) => (j173 (q12.2, q12.1)))))))))))))))))))))) fun (j81 : (jS → Option (Int32 × jS))) => (if (σ2.1 0 33) ≤ (σ2.1 0 36) then (j81 σ2) else (jst (ju σ2 0 36 (σ2.1 0 33)) fun (σ13 : jS) => (j81 σ13)))))) fun (j59 : (Int32 → Option (Int32 × jS))) => (if 0 ≤ y1 then (ob p2 9 (if y1 ≤ (σ.1 4 (p2).toNatClampNeg) then (j59 y1) else (ob p2 9 (j59 (σ.1 4 (p2).toNatClampNeg))))) else (j59 (0 : Int32)))))))
set_option maxRecDepth 100000 in
set_option maxHeartbeats 4000000 in
theorem kX12_goRound (l : Launch) (d : jD) (A : Nat → Prop) (σ : jS) (p1 : Int32) (p2 : Int32) (p3 : Int32) : jMi l yX12_goRound (jws yX12_goRound cX12_goRound 7 (some (.int))) { frames := 5, cells := 0, slots := 0, locals := 201 } d wM A [.ref (d.2.1 0), .int p1, .int p2, .int p3] σ (fX12_goRound σ p1 p2 p3) := by
  refine jStart_i (lv0 := [(0, .ref (d.2.1 0)), (1, .int p1), (2, .int p2), (3, .int p3)]) (by decide) rfl (Nat.le_of_ble_eq_true rfl) rfl (fun z hC res => ?_)
  unfold fX12_goRound
  refine j_aload_n (pc' := 1) hC 0 dX12_goRound_0 rfl rfl rfl ?_
  refine j_get (pc' := 4) hC ly_X12 (M_at_0 d _) rfl 33 (by decide) fl_X12_248 rfl dX12_goRound_1 rfl ?_
  refine j_aload_n (pc' := 5) hC 0 dX12_goRound_4 rfl rfl rfl ?_
  refine j_get (pc' := 8) hC ly_X12 (M_at_0 d _) rfl 9 (by decide) fl_X12_31 rfl dX12_goRound_5 rfl ?_
  refine j_iadd (pc' := 9) hC dX12_goRound_8 rfl ?_
  refine j_aload_n (pc' := 10) hC 0 dX12_goRound_9 rfl rfl rfl ?_
  refine j_get (pc' := 13) hC ly_X12 (M_at_0 d _) rfl 4 (by decide) fl_X12_16 rfl dX12_goRound_10 rfl ?_
  refine j_iload_n (pc' := 14) hC 2 dX12_goRound_13 rfl rfl rfl ?_
  refine j_iald (pc' := 15) hC (M_at_3 d _) dX12_goRound_14 rfl ?_
  refine j_iadd (pc' := 16) hC dX12_goRound_15 rfl ?_
  refine j_aload_n (pc' := 17) hC 0 dX12_goRound_16 rfl rfl rfl ?_
  refine j_get (pc' := 20) hC ly_X12 (M_at_0 d _) rfl 3 (by decide) fl_X12_13 rfl dX12_goRound_17 rfl ?_
  refine j_iload_n (pc' := 21) hC 2 dX12_goRound_20 rfl rfl rfl ?_
  refine j_iald (pc' := 22) hC (M_at_2 d _) dX12_goRound_21 rfl ?_
  refine j_iconst (pc' := 23) (v := (3 : Int32)) hC dX12_goRound_22 (by decide) rfl ?_
  refine j_idiv0 (pc' := 24) hC dX12_goRound_23 (by decide) rfl ?_
  refine j_isub (pc' := 25) hC dX12_goRound_24 rfl ?_
  refine j_top (fun y1 => ?_)
  refine j_istore (pc' := 27) (lv' := [(4, .int y1), (0, .ref (d.2.1 0)), (1, .int p1), (2, .int p2), (3, .int p3)]) hC dX12_goRound_25 (by decide) rfl rfl ?_
  refine j_aload_n (pc' := 28) hC 1 dX12_goRound_27 rfl rfl rfl ?_
  refine j_iload (pc' := 30) hC 0 dX12_goRound_28 rfl rfl ?_
  refine j_let 59 (fun a59 => σ) (fun a59 => [(0, .ref (d.2.1 0)), (1, .int p1), (2, .int p2), (3, .int p3)]) (fun a59 => [.int a59, .ref (d.2.1 0)]) (fun a59 => ?_) (fun j59 hj59 => ?_)
  · refine j_put (pc' := 62) hC ly_X12 tyX12 tyX12_ok nmX12 (M_at_0 d _) rfl 33 (by decide) fl_X12_248 rfl rfl rfl rfl (Nat.le_of_ble_eq_true rfl) (M_sf_0_33 d _ _) dX12_goRound_59 rfl ?_
    refine j_st (fun σ2 => ?_)
    refine j_aload_n (pc' := 63) hC 0 dX12_goRound_62 rfl rfl rfl ?_
    refine j_get (pc' := 66) hC ly_X12 (M_at_0 d _) rfl 33 (by decide) fl_X12_248 rfl dX12_goRound_63 rfl ?_
    refine j_aload_n (pc' := 67) hC 0 dX12_goRound_66 rfl rfl rfl ?_
    refine j_get (pc' := 70) hC ly_X12 (M_at_0 d _) rfl 36 (by decide) fl_X12_251 rfl dX12_goRound_67 rfl ?_
    refine j_let 81 (fun a81 => a81) (fun a81 => [(0, .ref (d.2.1 0)), (1, .int p1), (2, .int p2), (3, .int p3)]) (fun a81 => []) (fun a81 => ?_) (fun j81 hj81 => ?_)
    · refine j_aload_n (pc' := 82) hC 0 dX12_goRound_81 rfl rfl rfl ?_
      refine j_get (pc' := 85) hC ly_X12 (M_at_0 d _) rfl 1 (by decide) fl_X12_7 rfl dX12_goRound_82 rfl ?_
      refine j_iload_n (pc' := 86) hC 1 dX12_goRound_85 rfl rfl rfl ?_
      refine j_iald (pc' := 87) hC (M_at_1 d _) dX12_goRound_86 rfl ?_
      refine j_aload_n (pc' := 88) hC 0 dX12_goRound_87 rfl rfl rfl ?_
      refine j_get (pc' := 91) hC ly_X12 (M_at_0 d _) rfl 33 (by decide) fl_X12_248 rfl dX12_goRound_88 rfl ?_
      refine j_iconst (pc' := 92) (v := (3 : Int32)) hC dX12_goRound_91 (by decide) rfl ?_
      refine j_idiv0 (pc' := 93) hC dX12_goRound_92 (by decide) rfl ?_
      refine j_iadd (pc' := 94) hC dX12_goRound_93 rfl ?_
      refine j_iconst (pc' := 95) (v := (1 : Int32)) hC dX12_goRound_94 (by decide) rfl ?_
      refine j_iadd (pc' := 96) hC dX12_goRound_95 rfl ?_
      refine j_top (fun y3 => ?_)
      refine j_istore (pc' := 98) (lv' := [(5, .int y3), (0, .ref (d.2.1 0)), (1, .int p1), (2, .int p2), (3, .int p3)]) hC dX12_goRound_96 (by decide) rfl rfl ?_
      refine j_aload_n (pc' := 99) hC 1 dX12_goRound_98 rfl rfl rfl ?_
      refine j_get (pc' := 102) hC ly_X12 (M_at_0 d _) rfl 32 (by decide) fl_X12_244 rfl dX12_goRound_99 rfl ?_
      refine j_let 173 (fun a173 => a173.1) (fun a173 => [(0, .ref (d.2.1 0)), (5, .int a173.2)]) (fun a173 => []) (fun a173 => ?_) (fun j173 hj173 => ?_)
      · refine j_aload_n (pc' := 174) hC 0 dX12_goRound_173 rfl rfl rfl ?_
        refine j_dup (pc' := 175) hC rfl dX12_goRound_174 rfl ?_
        refine j_get (pc' := 178) hC ly_X12 (M_at_0 d _) rfl 34 (by decide) fl_X12_254 rfl dX12_goRound_175 rfl ?_
        refine j_iconst (pc' := 179) (v := (1 : Int32)) hC dX12_goRound_178 (by decide) rfl ?_
        refine j_iadd (pc' := 180) hC dX12_goRound_179 rfl ?_
        refine j_put (pc' := 183) hC ly_X12 tyX12 tyX12_ok nmX12 (M_at_0 d _) rfl 34 (by decide) fl_X12_254 rfl rfl rfl rfl (Nat.le_of_ble_eq_true rfl) (M_sf_0_34 d _ _) dX12_goRound_180 rfl ?_
        refine j_st (fun σ4 => ?_)
        refine j_iload (pc' := 185) hC 1 dX12_goRound_183 rfl rfl ?_
        refine j_iconst (pc' := 186) (v := (1 : Int32)) hC dX12_goRound_185 (by decide) rfl ?_
        refine j_let 207 (fun a207 => σ4) (fun a207 => [(0, .ref (d.2.1 0))]) (fun a207 => [.int a207]) (fun a207 => ?_) (fun j207 hj207 => ?_)
        · refine j_istore (pc' := 209) (lv' := [(6, .int a207), (0, .ref (d.2.1 0))]) hC dX12_goRound_207 (by decide) rfl rfl ?_
          refine j_aload_n (pc' := 210) hC 1 dX12_goRound_209 rfl rfl rfl ?_
          refine j_dup (pc' := 211) hC rfl dX12_goRound_210 rfl ?_
          refine j_get (pc' := 214) hC ly_X12 (M_at_0 d _) rfl 35 (by decide) fl_X12_260 rfl dX12_goRound_211 rfl ?_
          refine j_iload (pc' := 216) hC 0 dX12_goRound_214 rfl rfl ?_
          refine j_iadd (pc' := 217) hC dX12_goRound_216 rfl ?_
          refine j_put (pc' := 220) hC ly_X12 tyX12 tyX12_ok nmX12 (M_at_0 d _) rfl 35 (by decide) fl_X12_260 rfl rfl rfl rfl (Nat.le_of_ble_eq_true rfl) (M_sf_0_35 d _ _) dX12_goRound_217 rfl ?_
          refine j_st (fun σ5 => ?_)
          refine j_iload (pc' := 222) hC 0 dX12_goRound_220 rfl rfl ?_
          exact j_ret_i hC dX12_goRound_222
        · refine j_icmp_ge (pc' := 189) (tgt := 193) hC dX12_goRound_186 (by decide) rfl ?_ ?_
          · refine j_iload (pc' := 195) hC 1 dX12_goRound_193 rfl rfl ?_
            refine j_bipush (pc' := 197) (v := (20 : Int32)) hC dX12_goRound_195 (by decide) rfl ?_
            refine j_icmp_le (pc' := 200) (tgt := 205) hC dX12_goRound_197 (by decide) rfl ?_ ?_
            · refine j_iload (pc' := 207) hC 1 dX12_goRound_205 rfl rfl ?_
              exact j_lv (lv' := [(0, .ref (d.2.1 0))]) [0] rfl (hj207 a173.2)
            · refine j_bipush (pc' := 202) (v := (20 : Int32)) hC dX12_goRound_200 (by decide) rfl ?_
              refine j_goto (tgt := 207) hC dX12_goRound_202 (by decide) ?_
              exact j_lv (lv' := [(0, .ref (d.2.1 0))]) [0] rfl (hj207 (20 : Int32))
          · refine j_iconst (pc' := 190) (v := (1 : Int32)) hC dX12_goRound_189 (by decide) rfl ?_
            refine j_goto (tgt := 207) hC dX12_goRound_190 (by decide) ?_
            exact j_lv (lv' := [(0, .ref (d.2.1 0))]) [0] rfl (hj207 (1 : Int32))
      · refine j_if_eq (pc' := 105) (tgt := 173) hC dX12_goRound_102 (by decide) rfl ?_ ?_
        · exact j_lv (lv' := [(0, .ref (d.2.1 0)), (5, .int y3)]) [1, 0] rfl (hj173 (a81, y3))
        · refine j_aload_n (pc' := 106) hC 1 dX12_goRound_105 rfl rfl rfl ?_
          refine j_get (pc' := 109) hC ly_X12 (M_at_0 d _) rfl 30 (by decide) fl_X12_70 rfl dX12_goRound_106 rfl ?_
          refine j_iconst (pc' := 110) (v := (0 : Int32)) hC dX12_goRound_109 (by decide) rfl ?_
          refine j_aload_n (pc' := 111) hC 1 dX12_goRound_110 rfl rfl rfl ?_
          refine j_get (pc' := 114) hC ly_X12 (M_at_0 d _) rfl 33 (by decide) fl_X12_248 rfl dX12_goRound_111 rfl ?_
          refine j_iast (pc' := 115) hC (M_at_18 d _) (M_sa_18 d _ _) dX12_goRound_114 rfl ?_
          refine j_st (fun σ6 => ?_)
          refine j_aload_n (pc' := 116) hC 1 dX12_goRound_115 rfl rfl rfl ?_
          refine j_get (pc' := 119) hC ly_X12 (M_at_0 d _) rfl 30 (by decide) fl_X12_70 rfl dX12_goRound_116 rfl ?_
          refine j_iconst (pc' := 120) (v := (1 : Int32)) hC dX12_goRound_119 (by decide) rfl ?_
          refine j_aload_n (pc' := 121) hC 1 dX12_goRound_120 rfl rfl rfl ?_
          refine j_get (pc' := 124) hC ly_X12 (M_at_0 d _) rfl 1 (by decide) fl_X12_7 rfl dX12_goRound_121 rfl ?_
          refine j_iload_n (pc' := 125) hC 2 dX12_goRound_124 rfl rfl rfl ?_
          refine j_iald (pc' := 126) hC (M_at_1 d _) dX12_goRound_125 rfl ?_
          refine j_iast (pc' := 127) hC (M_at_18 d _) (M_sa_18 d _ _) dX12_goRound_126 rfl ?_
          refine j_st (fun σ7 => ?_)
          refine j_aload_n (pc' := 128) hC 1 dX12_goRound_127 rfl rfl rfl ?_
          refine j_get (pc' := 131) hC ly_X12 (M_at_0 d _) rfl 30 (by decide) fl_X12_70 rfl dX12_goRound_128 rfl ?_
          refine j_iconst (pc' := 132) (v := (2 : Int32)) hC dX12_goRound_131 (by decide) rfl ?_
          refine j_aload_n (pc' := 133) hC 1 dX12_goRound_132 rfl rfl rfl ?_
          refine j_get (pc' := 136) hC ly_X12 (M_at_0 d _) rfl 3 (by decide) fl_X12_13 rfl dX12_goRound_133 rfl ?_
          refine j_iload_n (pc' := 137) hC 3 dX12_goRound_136 rfl rfl rfl ?_
          refine j_iald (pc' := 138) hC (M_at_2 d _) dX12_goRound_137 rfl ?_
          refine j_iast (pc' := 139) hC (M_at_18 d _) (M_sa_18 d _ _) dX12_goRound_138 rfl ?_
          refine j_st (fun σ8 => ?_)
          refine j_aload_n (pc' := 140) hC 1 dX12_goRound_139 rfl rfl rfl ?_
          refine j_get (pc' := 143) hC ly_X12 (M_at_0 d _) rfl 30 (by decide) fl_X12_70 rfl dX12_goRound_140 rfl ?_
          refine j_iconst (pc' := 144) (v := (3 : Int32)) hC dX12_goRound_143 (by decide) rfl ?_
          refine j_aload_n (pc' := 145) hC 1 dX12_goRound_144 rfl rfl rfl ?_
          refine j_get (pc' := 148) hC ly_X12 (M_at_0 d _) rfl 34 (by decide) fl_X12_254 rfl dX12_goRound_145 rfl ?_
          refine j_iast (pc' := 149) hC (M_at_18 d _) (M_sa_18 d _ _) dX12_goRound_148 rfl ?_
          refine j_st (fun σ9 => ?_)
          refine j_aload_n (pc' := 150) hC 1 dX12_goRound_149 rfl rfl rfl ?_
          refine j_get (pc' := 153) hC ly_X12 (M_at_0 d _) rfl 30 (by decide) fl_X12_70 rfl dX12_goRound_150 rfl ?_
          refine j_iconst (pc' := 154) (v := (4 : Int32)) hC dX12_goRound_153 (by decide) rfl ?_
          refine j_iload_n (pc' := 155) hC 4 dX12_goRound_154 rfl rfl rfl ?_
          refine j_iast (pc' := 156) hC (M_at_18 d _) (M_sa_18 d _ _) dX12_goRound_155 rfl ?_
          refine j_st (fun σ10 => ?_)
          refine j_aload_n (pc' := 157) hC 1 dX12_goRound_156 rfl rfl rfl ?_
          refine j_get (pc' := 160) hC ly_X12 (M_at_0 d _) rfl 30 (by decide) fl_X12_70 rfl dX12_goRound_157 rfl ?_
          refine j_iconst (pc' := 161) (v := (5 : Int32)) hC dX12_goRound_160 (by decide) rfl ?_
          refine j_aload_n (pc' := 162) hC 1 dX12_goRound_161 rfl rfl rfl ?_
          refine j_get (pc' := 165) hC ly_X12 (M_at_0 d _) rfl 9 (by decide) fl_X12_31 rfl dX12_goRound_162 rfl ?_
          refine j_iast (pc' := 166) hC (M_at_18 d _) (M_sa_18 d _ _) dX12_goRound_165 rfl ?_
          refine j_st (fun σ11 => ?_)
          refine j_aload_n (pc' := 167) hC 1 dX12_goRound_166 rfl rfl rfl ?_
          refine j_iconst (pc' := 168) (v := (0 : Int32)) hC dX12_goRound_167 (by decide) rfl ?_
          refine j_callV_i (pc' := 171) (As := [.int (0 : Int32)]) (st := []) hC (M_at_0 d _) rfl (kX12_gives l d A _ _) (jgV ml_X12_257 im_X12_gives se_X12_gives in_X12 cd_X12_gives) rfl rfl rfl hyV_X12_gives ⟨Nat.le_of_ble_eq_true rfl, Nat.le_of_ble_eq_true rfl⟩ rfl rfl (Nat.le_of_ble_eq_true rfl) dX12_goRound_168 rfl (fun q12 => ?_)
          refine j_istore (pc' := 173) (lv' := [(5, .int q12.1), (0, .ref (d.2.1 0)), (1, .int p1), (2, .int p2), (3, .int p3)]) hC dX12_goRound_171 (by decide) rfl rfl ?_
          exact j_lv (lv' := [(0, .ref (d.2.1 0)), (5, .int q12.1)]) [1, 0] rfl (hj173 (q12.2, q12.1))
    · refine j_icmp_le (pc' := 73) (tgt := 81) hC dX12_goRound_70 (by decide) rfl ?_ ?_
      · exact j_lv (lv' := [(0, .ref (d.2.1 0)), (1, .int p1), (2, .int p2), (3, .int p3)]) [0, 1, 2, 3] rfl (hj81 σ2)
      · refine j_aload_n (pc' := 74) hC 0 dX12_goRound_73 rfl rfl rfl ?_
        refine j_aload_n (pc' := 75) hC 0 dX12_goRound_74 rfl rfl rfl ?_
        refine j_get (pc' := 78) hC ly_X12 (M_at_0 d _) rfl 33 (by decide) fl_X12_248 rfl dX12_goRound_75 rfl ?_
        refine j_put (pc' := 81) hC ly_X12 tyX12 tyX12_ok nmX12 (M_at_0 d _) rfl 36 (by decide) fl_X12_251 rfl rfl rfl rfl (Nat.le_of_ble_eq_true rfl) (M_sf_0_36 d _ _) dX12_goRound_78 rfl ?_
        refine j_st (fun σ13 => ?_)
        exact j_lv (lv' := [(0, .ref (d.2.1 0)), (1, .int p1), (2, .int p2), (3, .int p3)]) [0, 1, 2, 3] rfl (hj81 σ13)
  · refine j_if_ge (pc' := 33) (tgt := 37) hC dX12_goRound_30 (by decide) rfl ?_ ?_
    · refine j_iload (pc' := 39) hC 0 dX12_goRound_37 rfl rfl ?_
      refine j_aload_n (pc' := 40) hC 1 dX12_goRound_39 rfl rfl rfl ?_
      refine j_get (pc' := 43) hC ly_X12 (M_at_0 d _) rfl 5 (by decide) fl_X12_19 rfl dX12_goRound_40 rfl ?_
      refine j_iload_n (pc' := 44) hC 3 dX12_goRound_43 rfl rfl rfl ?_
      refine j_iald (pc' := 45) hC (M_at_4 d _) dX12_goRound_44 rfl ?_
      refine j_icmp_le (pc' := 48) (tgt := 57) hC dX12_goRound_45 (by decide) rfl ?_ ?_
      · refine j_iload (pc' := 59) hC 0 dX12_goRound_57 rfl rfl ?_
        exact j_lv (lv' := [(0, .ref (d.2.1 0)), (1, .int p1), (2, .int p2), (3, .int p3)]) [1, 2, 3, 4] rfl (hj59 y1)
      · refine j_aload_n (pc' := 49) hC 1 dX12_goRound_48 rfl rfl rfl ?_
        refine j_get (pc' := 52) hC ly_X12 (M_at_0 d _) rfl 5 (by decide) fl_X12_19 rfl dX12_goRound_49 rfl ?_
        refine j_iload_n (pc' := 53) hC 3 dX12_goRound_52 rfl rfl rfl ?_
        refine j_iald (pc' := 54) hC (M_at_4 d _) dX12_goRound_53 rfl ?_
        refine j_goto (tgt := 59) hC dX12_goRound_54 (by decide) ?_
        exact j_lv (lv' := [(0, .ref (d.2.1 0)), (1, .int p1), (2, .int p2), (3, .int p3)]) [1, 2, 3, 4] rfl (hj59 (σ.1 4 (p2).toNatClampNeg))
    · refine j_iconst (pc' := 34) (v := (0 : Int32)) hC dX12_goRound_33 (by decide) rfl ?_
      refine j_goto (tgt := 59) hC dX12_goRound_34 (by decide) ?_
      exact j_lv (lv' := [(0, .ref (d.2.1 0)), (1, .int p1), (2, .int p2), (3, .int p3)]) [1, 2, 3, 4] rfl (hj59 (0 : Int32))
theorem hyV_X12_isOver : yX12_isOver.cls = RX12 ∧ yX12_isOver.cls ≠ "java/lang/invoke/MethodHandle" ∧ yX12_isOver.cls ≠ "java/lang/invoke/VarHandle" ∧ (parseMethodDescriptor yX12_isOver.desc).map (fun d => d.parameters.length) = some 1 := ⟨rfl, by decide +kernel, by decide +kernel, by decide +kernel⟩
noncomputable def fX12_isOver (σ : jS) (p1 : Int32) : Option (Int32) :=
  (if (60 : Int32) ≤ (σ.1 0 34) then (some (1 : Int32)) else (Option.bind (fX12_countedBy σ p1 (σ.1 0 34)) fun (q1 : Int32) => (if (σ.1 0 10) ≤ q1 then (some (1 : Int32)) else (if (σ.1 0 11) ≤ 0 then (some (0 : Int32)) else (if (σ.1 0 35) < (σ.1 0 11) then (some (0 : Int32)) else (some (1 : Int32)))))))
set_option maxRecDepth 100000 in
set_option maxHeartbeats 4000000 in
theorem kX12_isOver (l : Launch) (d : jD) (A : Nat → Prop) (σ : jS) (p1 : Int32) : jMzr l yX12_isOver (jws yX12_isOver cX12_isOver 2 (some (.boolean))) { frames := 3, cells := 0, slots := 0, locals := 151 } d wM A [.ref (d.2.1 0), .int p1] σ (fX12_isOver σ p1) := by
  refine jStart_zr (lv0 := [(0, .ref (d.2.1 0)), (1, .int p1)]) (by decide) rfl (Nat.le_of_ble_eq_true rfl) rfl (fun z hC res => ?_)
  unfold fX12_isOver
  refine j_aload_n (pc' := 1) hC 0 dX12_isOver_0 rfl rfl rfl ?_
  refine j_get (pc' := 4) hC ly_X12 (M_at_0 d _) rfl 34 (by decide) fl_X12_254 rfl dX12_isOver_1 rfl ?_
  refine j_bipush (pc' := 6) (v := (60 : Int32)) hC dX12_isOver_4 (by decide) rfl ?_
  refine j_icmp_ge (pc' := 9) (tgt := 42) hC dX12_isOver_6 (by decide) rfl ?_ ?_
  · refine j_iconst (pc' := 43) (v := (1 : Int32)) hC dX12_isOver_42 (by decide) rfl ?_
    refine j_goto (tgt := 47) hC dX12_isOver_43 (by decide) ?_
    exact j_ret_zr hC (by decide) dX12_isOver_47
  · refine j_iload_n (pc' := 10) hC 1 dX12_isOver_9 rfl rfl rfl ?_
    refine j_aload_n (pc' := 11) hC 0 dX12_isOver_10 rfl rfl rfl ?_
    refine j_get (pc' := 14) hC ly_X12 (M_at_0 d _) rfl 34 (by decide) fl_X12_254 rfl dX12_isOver_11 rfl ?_
    refine j_callS_ir (pc' := 17) (As := [.int p1, .int (σ.1 0 34)]) (st := []) hC (kX12_countedBy l d A _ _ _) (jgS ml_X12_263 st_X12_countedBy in_X12 cd_X12_countedBy) rfl rfl rfl hyS_X12_countedBy ⟨Nat.le_of_ble_eq_true rfl, Nat.le_of_ble_eq_true rfl⟩ rfl rfl (Nat.le_of_ble_eq_true rfl) dX12_isOver_14 rfl (fun q1 => ?_)
    refine j_aload_n (pc' := 18) hC 0 dX12_isOver_17 rfl rfl rfl ?_
    refine j_get (pc' := 21) hC ly_X12 (M_at_0 d _) rfl 10 (by decide) fl_X12_35 rfl dX12_isOver_18 rfl ?_
    refine j_icmp_ge (pc' := 24) (tgt := 42) hC dX12_isOver_21 (by decide) rfl ?_ ?_
    · refine j_iconst (pc' := 43) (v := (1 : Int32)) hC dX12_isOver_42 (by decide) rfl ?_
      refine j_goto (tgt := 47) hC dX12_isOver_43 (by decide) ?_
      exact j_ret_zr hC (by decide) dX12_isOver_47
    · refine j_aload_n (pc' := 25) hC 0 dX12_isOver_24 rfl rfl rfl ?_
      refine j_get (pc' := 28) hC ly_X12 (M_at_0 d _) rfl 11 (by decide) fl_X12_142 rfl dX12_isOver_25 rfl ?_
      refine j_if_le (pc' := 31) (tgt := 46) hC dX12_isOver_28 (by decide) rfl ?_ ?_
      · refine j_iconst (pc' := 47) (v := (0 : Int32)) hC dX12_isOver_46 (by decide) rfl ?_
        exact j_ret_zr hC (by decide) dX12_isOver_47
      · refine j_aload_n (pc' := 32) hC 0 dX12_isOver_31 rfl rfl rfl ?_
        refine j_get (pc' := 35) hC ly_X12 (M_at_0 d _) rfl 35 (by decide) fl_X12_260 rfl dX12_isOver_32 rfl ?_
        refine j_aload_n (pc' := 36) hC 0 dX12_isOver_35 rfl rfl rfl ?_
        refine j_get (pc' := 39) hC ly_X12 (M_at_0 d _) rfl 11 (by decide) fl_X12_142 rfl dX12_isOver_36 rfl ?_
        refine j_icmp_lt (pc' := 42) (tgt := 46) hC dX12_isOver_39 (by decide) rfl ?_ ?_
        · refine j_iconst (pc' := 47) (v := (0 : Int32)) hC dX12_isOver_46 (by decide) rfl ?_
          exact j_ret_zr hC (by decide) dX12_isOver_47
        · refine j_iconst (pc' := 43) (v := (1 : Int32)) hC dX12_isOver_42 (by decide) rfl ?_
          refine j_goto (tgt := 47) hC dX12_isOver_43 (by decide) ?_
          exact j_ret_zr hC (by decide) dX12_isOver_47
theorem hyV_X12_beginTurn : yX12_beginTurn.cls = RX12 ∧ yX12_beginTurn.cls ≠ "java/lang/invoke/MethodHandle" ∧ yX12_beginTurn.cls ≠ "java/lang/invoke/VarHandle" ∧ (parseMethodDescriptor yX12_beginTurn.desc).map (fun d => d.parameters.length) = some 0 := ⟨rfl, by decide +kernel, by decide +kernel, by decide +kernel⟩
noncomputable def fX12_beginTurn (σ : jS) : Option (jS) :=
  (jst (ju σ 0 33 (0 : Int32)) fun (σ1 : jS) => (jst (ju σ1 0 34 (0 : Int32)) fun (σ2 : jS) => (jst (ju σ2 0 35 (0 : Int32)) fun (σ3 : jS) => (jst (ju σ3 0 36 (0 : Int32)) fun (σ4 : jS) => (some σ4)))))
set_option maxRecDepth 100000 in
set_option maxHeartbeats 4000000 in
theorem kX12_beginTurn (l : Launch) (d : jD) (A : Nat → Prop) (σ : jS) : jMv l yX12_beginTurn (jws yX12_beginTurn cX12_beginTurn 1 none) { frames := 2, cells := 0, slots := 0, locals := 130 } d wM A [.ref (d.2.1 0)] σ (fX12_beginTurn σ) := by
  refine jStart_v (lv0 := [(0, .ref (d.2.1 0))]) (by decide) rfl (Nat.le_of_ble_eq_true rfl) rfl (fun z hC res => ?_)
  unfold fX12_beginTurn
  refine j_aload_n (pc' := 1) hC 0 dX12_beginTurn_0 rfl rfl rfl ?_
  refine j_iconst (pc' := 2) (v := (0 : Int32)) hC dX12_beginTurn_1 (by decide) rfl ?_
  refine j_put (pc' := 5) hC ly_X12 tyX12 tyX12_ok nmX12 (M_at_0 d _) rfl 33 (by decide) fl_X12_248 rfl rfl rfl rfl (Nat.le_of_ble_eq_true rfl) (M_sf_0_33 d _ _) dX12_beginTurn_2 rfl ?_
  refine j_st (fun σ1 => ?_)
  refine j_aload_n (pc' := 6) hC 0 dX12_beginTurn_5 rfl rfl rfl ?_
  refine j_iconst (pc' := 7) (v := (0 : Int32)) hC dX12_beginTurn_6 (by decide) rfl ?_
  refine j_put (pc' := 10) hC ly_X12 tyX12 tyX12_ok nmX12 (M_at_0 d _) rfl 34 (by decide) fl_X12_254 rfl rfl rfl rfl (Nat.le_of_ble_eq_true rfl) (M_sf_0_34 d _ _) dX12_beginTurn_7 rfl ?_
  refine j_st (fun σ2 => ?_)
  refine j_aload_n (pc' := 11) hC 0 dX12_beginTurn_10 rfl rfl rfl ?_
  refine j_iconst (pc' := 12) (v := (0 : Int32)) hC dX12_beginTurn_11 (by decide) rfl ?_
  refine j_put (pc' := 15) hC ly_X12 tyX12 tyX12_ok nmX12 (M_at_0 d _) rfl 35 (by decide) fl_X12_260 rfl rfl rfl rfl (Nat.le_of_ble_eq_true rfl) (M_sf_0_35 d _ _) dX12_beginTurn_12 rfl ?_
  refine j_st (fun σ3 => ?_)
  refine j_aload_n (pc' := 16) hC 0 dX12_beginTurn_15 rfl rfl rfl ?_
  refine j_iconst (pc' := 17) (v := (0 : Int32)) hC dX12_beginTurn_16 (by decide) rfl ?_
  refine j_put (pc' := 20) hC ly_X12 tyX12 tyX12_ok nmX12 (M_at_0 d _) rfl 36 (by decide) fl_X12_251 rfl rfl rfl rfl (Nat.le_of_ble_eq_true rfl) (M_sf_0_36 d _ _) dX12_beginTurn_17 rfl ?_
  refine j_st (fun σ4 => ?_)
  exact j_ret_v hC dX12_beginTurn_20
theorem hyV_X12_goTurn : yX12_goTurn.cls = RX12 ∧ yX12_goTurn.cls ≠ "java/lang/invoke/MethodHandle" ∧ yX12_goTurn.cls ≠ "java/lang/invoke/VarHandle" ∧ (parseMethodDescriptor yX12_goTurn.desc).map (fun d => d.parameters.length) = some 4 := ⟨rfl, by decide +kernel, by decide +kernel, by decide +kernel⟩
noncomputable def fX12_goTurn_B12 (p1 : Int32) (p2 : Int32) (p4 : Int32) (q2 : Int32) (s12 : jS → Option (jS)) (a : jS) : Option (jS) :=
  (Option.bind (fX12_goRound a p1 p2 p4) fun (q3 : (Int32 × jS)) => (Option.bind (fX12_isOver q3.2 q2) fun (q4 : Int32) => (if (jb q4) = 0 then (s12 q3.2) else (some q3.2))))
noncomputable def fX12_goTurn (σ : jS) (p1 : Int32) (p2 : Int32) (p3 : Int32) (p4 : Int32) : Option (jS) :=
  (Option.bind (fX12_beginTurn σ) fun (q1 : jS) => (Option.bind (fX12_bentOf q1 p2 p3) fun (q2 : Int32) => (jloop (fX12_goTurn_B12 p1 p2 p4 q2) jN q1)))
set_option maxRecDepth 100000 in
set_option maxHeartbeats 4000000 in
theorem kX12_goTurn (l : Launch) (d : jD) (A : Nat → Prop) (σ : jS) (p1 : Int32) (p2 : Int32) (p3 : Int32) (p4 : Int32) : jMv l yX12_goTurn (jws yX12_goTurn cX12_goTurn 6 none) { frames := 6, cells := 0, slots := 0, locals := 227 } d wM A [.ref (d.2.1 0), .int p1, .int p2, .int p3, .int p4] σ (fX12_goTurn σ p1 p2 p3 p4) := by
  refine jStart_v (lv0 := [(0, .ref (d.2.1 0)), (1, .int p1), (2, .int p2), (3, .int p3), (4, .int p4)]) (by decide) rfl (Nat.le_of_ble_eq_true rfl) rfl (fun z hC res => ?_)
  unfold fX12_goTurn
  refine j_aload_n (pc' := 1) hC 0 dX12_goTurn_0 rfl rfl rfl ?_
  refine j_callV_v (pc' := 4) (As := []) (st := []) hC (M_at_0 d _) rfl (kX12_beginTurn l d A _) (jgV ml_X12_266 im_X12_beginTurn se_X12_beginTurn in_X12 cd_X12_beginTurn) rfl rfl rfl hyV_X12_beginTurn ⟨Nat.le_of_ble_eq_true rfl, Nat.le_of_ble_eq_true rfl⟩ rfl rfl (Nat.le_of_ble_eq_true rfl) dX12_goTurn_1 rfl (fun q1 => ?_)
  refine j_aload_n (pc' := 5) hC 0 dX12_goTurn_4 rfl rfl rfl ?_
  refine j_iload_n (pc' := 6) hC 2 dX12_goTurn_5 rfl rfl rfl ?_
  refine j_iload_n (pc' := 7) hC 3 dX12_goTurn_6 rfl rfl rfl ?_
  refine j_callV_ir (pc' := 10) (As := [.int p2, .int p3]) (st := []) hC (M_at_0 d _) rfl (kX12_bentOf l d A _ _ _) (jgV ml_X12_269 im_X12_bentOf se_X12_bentOf in_X12 cd_X12_bentOf) rfl rfl rfl hyV_X12_bentOf ⟨Nat.le_of_ble_eq_true rfl, Nat.le_of_ble_eq_true rfl⟩ rfl rfl (Nat.le_of_ble_eq_true rfl) dX12_goTurn_7 rfl (fun q2 => ?_)
  refine j_istore (pc' := 12) (lv' := [(5, .int q2), (0, .ref (d.2.1 0)), (1, .int p1), (2, .int p2), (3, .int p3), (4, .int p4)]) hC dX12_goTurn_10 (by decide) rfl rfl ?_
  refine j_lv (lv' := [(0, .ref (d.2.1 0)), (1, .int p1), (2, .int p2), (4, .int p4), (5, .int q2)]) [1, 2, 3, 5, 0] rfl ?_
  refine j_loop 12 (fun a => a) (fun a => [(0, .ref (d.2.1 0)), (1, .int p1), (2, .int p2), (4, .int p4), (5, .int q2)]) (fun s12 hs12 a => ?_) jN q1
  unfold fX12_goTurn_B12
  refine j_aload_n (pc' := 13) hC 0 dX12_goTurn_12 rfl rfl rfl ?_
  refine j_iload_n (pc' := 14) hC 1 dX12_goTurn_13 rfl rfl rfl ?_
  refine j_iload_n (pc' := 15) hC 2 dX12_goTurn_14 rfl rfl rfl ?_
  refine j_iload (pc' := 17) hC 3 dX12_goTurn_15 rfl rfl ?_
  refine j_callV_i (pc' := 20) (As := [.int p1, .int p2, .int p4]) (st := []) hC (M_at_0 d _) rfl (kX12_goRound l d A _ _ _ _) (jgV ml_X12_272 im_X12_goRound se_X12_goRound in_X12 cd_X12_goRound) rfl rfl rfl hyV_X12_goRound ⟨Nat.le_of_ble_eq_true rfl, Nat.le_of_ble_eq_true rfl⟩ rfl rfl (Nat.le_of_ble_eq_true rfl) dX12_goTurn_17 rfl (fun q3 => ?_)
  refine j_pop (pc' := 21) hC rfl dX12_goTurn_20 rfl ?_
  refine j_aload_n (pc' := 22) hC 0 dX12_goTurn_21 rfl rfl rfl ?_
  refine j_iload (pc' := 24) hC 4 dX12_goTurn_22 rfl rfl ?_
  refine j_callV_zr (pc' := 27) (As := [.int q2]) (st := []) hC (M_at_0 d _) rfl (kX12_isOver l d A _ _) (jgV ml_X12_275 im_X12_isOver se_X12_isOver in_X12 cd_X12_isOver) rfl rfl rfl hyV_X12_isOver ⟨Nat.le_of_ble_eq_true rfl, Nat.le_of_ble_eq_true rfl⟩ rfl rfl (Nat.le_of_ble_eq_true rfl) dX12_goTurn_24 rfl (fun q4 => ?_)
  refine j_if_eq (pc' := 30) (tgt := 12) hC dX12_goTurn_27 (by decide) rfl ?_ ?_
  · exact j_lv (lv' := [(0, .ref (d.2.1 0)), (1, .int p1), (2, .int p2), (4, .int p4), (5, .int q2)]) [0, 1, 2, 3, 4] rfl (hs12 q3.2)
  · exact j_ret_v hC dX12_goTurn_30
theorem hyV_X12_areThree : yX12_areThree.cls = RX12 ∧ yX12_areThree.cls ≠ "java/lang/invoke/MethodHandle" ∧ yX12_areThree.cls ≠ "java/lang/invoke/VarHandle" ∧ (parseMethodDescriptor yX12_areThree.desc).map (fun d => d.parameters.length) = some 1 := ⟨rfl, by decide +kernel, by decide +kernel, by decide +kernel⟩
noncomputable def fX12_areThree (σ : jS) (p1 : Int32) : Option (Int32) :=
  (if p1 < 0 then (some (0 : Int32)) else (Option.bind (fX12_isSwing σ (p1 / (100 : Int32))) fun (q1 : Int32) => (if (jb q1) = 0 then (some (0 : Int32)) else (Option.bind (fX12_isChild σ ((p1 / (10 : Int32)) - (p1 / (10 : Int32)) / (10 : Int32) * (10 : Int32))) fun (q2 : Int32) => (if (jb q2) = 0 then (some (0 : Int32)) else (if (p1 - p1 / (10 : Int32) * (10 : Int32)) = (9 : Int32) then (some (1 : Int32)) else (Option.bind (fX12_isChild σ (p1 - p1 / (10 : Int32) * (10 : Int32))) fun (q3 : Int32) => (if (jb q3) = 0 then (some (0 : Int32)) else (if (p1 - p1 / (10 : Int32) * (10 : Int32)) = ((p1 / (10 : Int32)) - (p1 / (10 : Int32)) / (10 : Int32) * (10 : Int32)) then (some (0 : Int32)) else (some (1 : Int32)))))))))))
set_option maxRecDepth 100000 in
set_option maxHeartbeats 4000000 in
theorem kX12_areThree (l : Launch) (d : jD) (A : Nat → Prop) (σ : jS) (p1 : Int32) : jMzr l yX12_areThree (jws yX12_areThree cX12_areThree 2 (some (.boolean))) { frames := 4, cells := 0, slots := 0, locals := 173 } d wM A [.ref (d.2.1 0), .int p1] σ (fX12_areThree σ p1) := by
  refine jStart_zr (lv0 := [(0, .ref (d.2.1 0)), (1, .int p1)]) (by decide) rfl (Nat.le_of_ble_eq_true rfl) rfl (fun z hC res => ?_)
  unfold fX12_areThree
  refine j_iload_n (pc' := 1) hC 1 dX12_areThree_0 rfl rfl rfl ?_
  refine j_if_lt (pc' := 4) (tgt := 66) hC dX12_areThree_1 (by decide) rfl ?_ ?_
  · refine j_iconst (pc' := 67) (v := (0 : Int32)) hC dX12_areThree_66 (by decide) rfl ?_
    exact j_ret_zr hC (by decide) dX12_areThree_67
  · refine j_iload_n (pc' := 5) hC 1 dX12_areThree_4 rfl rfl rfl ?_
    refine j_bipush (pc' := 7) (v := (100 : Int32)) hC dX12_areThree_5 (by decide) rfl ?_
    refine j_idiv0 (pc' := 8) hC dX12_areThree_7 (by decide) rfl ?_
    refine j_callS_zr (pc' := 11) (As := [.int (p1 / (100 : Int32))]) (st := []) hC (kX12_isSwing l d A _ _) (jgS ml_X12_165 st_X12_isSwing in_X12 cd_X12_isSwing) rfl rfl rfl hyS_X12_isSwing ⟨Nat.le_of_ble_eq_true rfl, Nat.le_of_ble_eq_true rfl⟩ rfl rfl (Nat.le_of_ble_eq_true rfl) dX12_areThree_8 rfl (fun q1 => ?_)
    refine j_if_eq (pc' := 14) (tgt := 66) hC dX12_areThree_11 (by decide) rfl ?_ ?_
    · refine j_iconst (pc' := 67) (v := (0 : Int32)) hC dX12_areThree_66 (by decide) rfl ?_
      exact j_ret_zr hC (by decide) dX12_areThree_67
    · refine j_aload_n (pc' := 15) hC 0 dX12_areThree_14 rfl rfl rfl ?_
      refine j_iload_n (pc' := 16) hC 1 dX12_areThree_15 rfl rfl rfl ?_
      refine j_bipush (pc' := 18) (v := (10 : Int32)) hC dX12_areThree_16 (by decide) rfl ?_
      refine j_idiv0 (pc' := 19) hC dX12_areThree_18 (by decide) rfl ?_
      refine j_bipush (pc' := 21) (v := (10 : Int32)) hC dX12_areThree_19 (by decide) rfl ?_
      refine j_irem0 (pc' := 22) hC dX12_areThree_21 (by decide) rfl ?_
      refine j_callV_zr (pc' := 25) (As := [.int ((p1 / (10 : Int32)) - (p1 / (10 : Int32)) / (10 : Int32) * (10 : Int32))]) (st := []) hC (M_at_0 d _) rfl (kX12_isChild l d A _ _) (jgV ml_X12_162 im_X12_isChild se_X12_isChild in_X12 cd_X12_isChild) rfl rfl rfl hyV_X12_isChild ⟨Nat.le_of_ble_eq_true rfl, Nat.le_of_ble_eq_true rfl⟩ rfl rfl (Nat.le_of_ble_eq_true rfl) dX12_areThree_22 rfl (fun q2 => ?_)
      refine j_if_eq (pc' := 28) (tgt := 66) hC dX12_areThree_25 (by decide) rfl ?_ ?_
      · refine j_iconst (pc' := 67) (v := (0 : Int32)) hC dX12_areThree_66 (by decide) rfl ?_
        exact j_ret_zr hC (by decide) dX12_areThree_67
      · refine j_iload_n (pc' := 29) hC 1 dX12_areThree_28 rfl rfl rfl ?_
        refine j_bipush (pc' := 31) (v := (10 : Int32)) hC dX12_areThree_29 (by decide) rfl ?_
        refine j_irem0 (pc' := 32) hC dX12_areThree_31 (by decide) rfl ?_
        refine j_bipush (pc' := 34) (v := (9 : Int32)) hC dX12_areThree_32 (by decide) rfl ?_
        refine j_icmp_eq (pc' := 37) (tgt := 62) hC dX12_areThree_34 (by decide) rfl ?_ ?_
        · refine j_iconst (pc' := 63) (v := (1 : Int32)) hC dX12_areThree_62 (by decide) rfl ?_
          refine j_goto (tgt := 67) hC dX12_areThree_63 (by decide) ?_
          exact j_ret_zr hC (by decide) dX12_areThree_67
        · refine j_aload_n (pc' := 38) hC 0 dX12_areThree_37 rfl rfl rfl ?_
          refine j_iload_n (pc' := 39) hC 1 dX12_areThree_38 rfl rfl rfl ?_
          refine j_bipush (pc' := 41) (v := (10 : Int32)) hC dX12_areThree_39 (by decide) rfl ?_
          refine j_irem0 (pc' := 42) hC dX12_areThree_41 (by decide) rfl ?_
          refine j_callV_zr (pc' := 45) (As := [.int (p1 - p1 / (10 : Int32) * (10 : Int32))]) (st := []) hC (M_at_0 d _) rfl (kX12_isChild l d A _ _) (jgV ml_X12_162 im_X12_isChild se_X12_isChild in_X12 cd_X12_isChild) rfl rfl rfl hyV_X12_isChild ⟨Nat.le_of_ble_eq_true rfl, Nat.le_of_ble_eq_true rfl⟩ rfl rfl (Nat.le_of_ble_eq_true rfl) dX12_areThree_42 rfl (fun q3 => ?_)
          refine j_if_eq (pc' := 48) (tgt := 66) hC dX12_areThree_45 (by decide) rfl ?_ ?_
          · refine j_iconst (pc' := 67) (v := (0 : Int32)) hC dX12_areThree_66 (by decide) rfl ?_
            exact j_ret_zr hC (by decide) dX12_areThree_67
          · refine j_iload_n (pc' := 49) hC 1 dX12_areThree_48 rfl rfl rfl ?_
            refine j_bipush (pc' := 51) (v := (10 : Int32)) hC dX12_areThree_49 (by decide) rfl ?_
            refine j_irem0 (pc' := 52) hC dX12_areThree_51 (by decide) rfl ?_
            refine j_iload_n (pc' := 53) hC 1 dX12_areThree_52 rfl rfl rfl ?_
            refine j_bipush (pc' := 55) (v := (10 : Int32)) hC dX12_areThree_53 (by decide) rfl ?_
            refine j_idiv0 (pc' := 56) hC dX12_areThree_55 (by decide) rfl ?_
            refine j_bipush (pc' := 58) (v := (10 : Int32)) hC dX12_areThree_56 (by decide) rfl ?_
            refine j_irem0 (pc' := 59) hC dX12_areThree_58 (by decide) rfl ?_
            refine j_icmp_eq (pc' := 62) (tgt := 66) hC dX12_areThree_59 (by decide) rfl ?_ ?_
            · refine j_iconst (pc' := 67) (v := (0 : Int32)) hC dX12_areThree_66 (by decide) rfl ?_
              exact j_ret_zr hC (by decide) dX12_areThree_67
            · refine j_iconst (pc' := 63) (v := (1 : Int32)) hC dX12_areThree_62 (by decide) rfl ?_
              refine j_goto (tgt := 67) hC dX12_areThree_63 (by decide) ?_
              exact j_ret_zr hC (by decide) dX12_areThree_67
theorem hyS_X12_areWaiting : yX12_areWaiting.cls ≠ "java/lang/invoke/MethodHandle" ∧ yX12_areWaiting.cls ≠ "java/lang/invoke/VarHandle" ∧ (parseMethodDescriptor yX12_areWaiting.desc).map (fun d => d.parameters.length) = some 1 := ⟨by decide +kernel, by decide +kernel, by decide +kernel⟩
noncomputable def fX12_areWaiting (σ : jS) (p1 : Int32) : Option (Int32) :=
  (Option.bind (fX12_in σ p1 (0 : Int32) (8 : Int32)) fun (q1 : Int32) => (some q1))
set_option maxRecDepth 100000 in
set_option maxHeartbeats 4000000 in
theorem kX12_areWaiting (l : Launch) (d : jD) (A : Nat → Prop) (σ : jS) (p1 : Int32) : jMzr l yX12_areWaiting (jws yX12_areWaiting cX12_areWaiting 1 (some (.boolean))) { frames := 3, cells := 0, slots := 0, locals := 152 } d wM A [.int p1] σ (fX12_areWaiting σ p1) := by
  refine jStart_zr (lv0 := [(0, .int p1)]) (by decide) rfl (Nat.le_of_ble_eq_true rfl) rfl (fun z hC res => ?_)
  unfold fX12_areWaiting
  refine j_iload_n (pc' := 1) hC 0 dX12_areWaiting_0 rfl rfl rfl ?_
  refine j_iconst (pc' := 2) (v := (0 : Int32)) hC dX12_areWaiting_1 (by decide) rfl ?_
  refine j_bipush (pc' := 4) (v := (8 : Int32)) hC dX12_areWaiting_2 (by decide) rfl ?_
  refine j_callS_zr (pc' := 7) (As := [.int p1, .int (0 : Int32), .int (8 : Int32)]) (st := []) hC (kX12_in l d A _ _ _ _) (jgS ml_X12_128 st_X12_in in_X12 cd_X12_in) rfl rfl rfl hyS_X12_in ⟨Nat.le_of_ble_eq_true rfl, Nat.le_of_ble_eq_true rfl⟩ rfl rfl (Nat.le_of_ble_eq_true rfl) dX12_areWaiting_4 rfl (fun q1 => ?_)
  exact j_ret_zr hC rfl dX12_areWaiting_7
theorem hyV_X12_turnOf : yX12_turnOf.cls = RX12 ∧ yX12_turnOf.cls ≠ "java/lang/invoke/MethodHandle" ∧ yX12_turnOf.cls ≠ "java/lang/invoke/VarHandle" ∧ (parseMethodDescriptor yX12_turnOf.desc).map (fun d => d.parameters.length) = some 2 := ⟨rfl, by decide +kernel, by decide +kernel, by decide +kernel⟩
noncomputable def fX12_turnOf (σ : jS) (p1 : Int32) (p2 : Int32) : Option (jS) :=
  (Option.bind (fX12_goTurn σ (p1 / (100 : Int32)) ((p1 / (10 : Int32)) - (p1 / (10 : Int32)) / (10 : Int32) * (10 : Int32)) (p1 - p1 / (10 : Int32) * (10 : Int32)) p2) fun (q1 : jS) => (some q1))
set_option maxRecDepth 100000 in
set_option maxHeartbeats 4000000 in
theorem kX12_turnOf (l : Launch) (d : jD) (A : Nat → Prop) (σ : jS) (p1 : Int32) (p2 : Int32) : jMv l yX12_turnOf (jws yX12_turnOf cX12_turnOf 3 none) { frames := 7, cells := 0, slots := 0, locals := 252 } d wM A [.ref (d.2.1 0), .int p1, .int p2] σ (fX12_turnOf σ p1 p2) := by
  refine jStart_v (lv0 := [(0, .ref (d.2.1 0)), (1, .int p1), (2, .int p2)]) (by decide) rfl (Nat.le_of_ble_eq_true rfl) rfl (fun z hC res => ?_)
  unfold fX12_turnOf
  refine j_aload_n (pc' := 1) hC 0 dX12_turnOf_0 rfl rfl rfl ?_
  refine j_iload_n (pc' := 2) hC 1 dX12_turnOf_1 rfl rfl rfl ?_
  refine j_bipush (pc' := 4) (v := (100 : Int32)) hC dX12_turnOf_2 (by decide) rfl ?_
  refine j_idiv0 (pc' := 5) hC dX12_turnOf_4 (by decide) rfl ?_
  refine j_iload_n (pc' := 6) hC 1 dX12_turnOf_5 rfl rfl rfl ?_
  refine j_bipush (pc' := 8) (v := (10 : Int32)) hC dX12_turnOf_6 (by decide) rfl ?_
  refine j_idiv0 (pc' := 9) hC dX12_turnOf_8 (by decide) rfl ?_
  refine j_bipush (pc' := 11) (v := (10 : Int32)) hC dX12_turnOf_9 (by decide) rfl ?_
  refine j_irem0 (pc' := 12) hC dX12_turnOf_11 (by decide) rfl ?_
  refine j_iload_n (pc' := 13) hC 1 dX12_turnOf_12 rfl rfl rfl ?_
  refine j_bipush (pc' := 15) (v := (10 : Int32)) hC dX12_turnOf_13 (by decide) rfl ?_
  refine j_irem0 (pc' := 16) hC dX12_turnOf_15 (by decide) rfl ?_
  refine j_iload_n (pc' := 17) hC 2 dX12_turnOf_16 rfl rfl rfl ?_
  refine j_callV_v (pc' := 20) (As := [.int (p1 / (100 : Int32)), .int ((p1 / (10 : Int32)) - (p1 / (10 : Int32)) / (10 : Int32) * (10 : Int32)), .int (p1 - p1 / (10 : Int32) * (10 : Int32)), .int p2]) (st := []) hC (M_at_0 d _) rfl (kX12_goTurn l d A _ _ _ _ _) (jgV ml_X12_278 im_X12_goTurn se_X12_goTurn in_X12 cd_X12_goTurn) rfl rfl rfl hyV_X12_goTurn ⟨Nat.le_of_ble_eq_true rfl, Nat.le_of_ble_eq_true rfl⟩ rfl rfl (Nat.le_of_ble_eq_true rfl) dX12_turnOf_17 rfl (fun q1 => ?_)
  exact j_ret_v hC dX12_turnOf_20
theorem hyV_X12_turn : yX12_turn.cls = RX12 ∧ yX12_turn.cls ≠ "java/lang/invoke/MethodHandle" ∧ yX12_turn.cls ≠ "java/lang/invoke/VarHandle" ∧ (parseMethodDescriptor yX12_turn.desc).map (fun d => d.parameters.length) = some 3 := ⟨rfl, by decide +kernel, by decide +kernel, by decide +kernel⟩
noncomputable def fX12_turn (σ : jS) (p1 : Int32) (p2 : Int32) (p3 : Int32) : Option (Int32 × jS) :=
  (Option.bind (fX12_areThree σ p1) fun (q1 : Int32) => (if (jb q1) = 0 then (some ((-1 : Int32), σ)) else (Option.bind (fX12_areWaiting σ p2) fun (q2 : Int32) => (if (jb q2) = 0 then (some ((-1 : Int32), σ)) else (Option.bind (fX12_in σ p3 (0 : Int32) (3 : Int32)) fun (q3 : Int32) => (if (jb q3) = 0 then (some ((-1 : Int32), σ)) else (Option.bind (fX12_turnOf σ p1 p2) fun (q4 : jS) => (if p3 = (0 : Int32) then (some ((q4.1 0 34), q4)) else (if p3 = (1 : Int32) then (some ((q4.1 0 35), q4)) else (if p3 = (2 : Int32) then (some ((q4.1 0 36), q4)) else (Option.bind (fX12_bentOf q4 ((p1 / (10 : Int32)) - (p1 / (10 : Int32)) / (10 : Int32) * (10 : Int32)) (p1 - p1 / (10 : Int32) * (10 : Int32))) fun (q5 : Int32) => (Option.bind (fX12_countedBy q4 q5 (q4.1 0 34)) fun (q6 : Int32) => (some (q6, q4))))))))))))))
set_option maxRecDepth 100000 in
set_option maxHeartbeats 4000000 in
theorem kX12_turn (l : Launch) (d : jD) (A : Nat → Prop) (σ : jS) (p1 : Int32) (p2 : Int32) (p3 : Int32) : jMi l yX12_turn (jws yX12_turn cX12_turn 4 (some (.int))) { frames := 8, cells := 0, slots := 0, locals := 274 } d wM A [.ref (d.2.1 0), .int p1, .int p2, .int p3] σ (fX12_turn σ p1 p2 p3) := by
  refine jStart_i (lv0 := [(0, .ref (d.2.1 0)), (1, .int p1), (2, .int p2), (3, .int p3)]) (by decide) rfl (Nat.le_of_ble_eq_true rfl) rfl (fun z hC res => ?_)
  unfold fX12_turn
  refine j_aload_n (pc' := 1) hC 0 dX12_turn_0 rfl rfl rfl ?_
  refine j_iload_n (pc' := 2) hC 1 dX12_turn_1 rfl rfl rfl ?_
  refine j_callV_zr (pc' := 5) (As := [.int p1]) (st := []) hC (M_at_0 d _) rfl (kX12_areThree l d A _ _) (jgV ml_X12_282 im_X12_areThree se_X12_areThree in_X12 cd_X12_areThree) rfl rfl rfl hyV_X12_areThree ⟨Nat.le_of_ble_eq_true rfl, Nat.le_of_ble_eq_true rfl⟩ rfl rfl (Nat.le_of_ble_eq_true rfl) dX12_turn_2 rfl (fun q1 => ?_)
  refine j_if_eq (pc' := 8) (tgt := 24) hC dX12_turn_5 (by decide) rfl ?_ ?_
  · refine j_iconst (pc' := 25) (v := (-1 : Int32)) hC dX12_turn_24 (by decide) rfl ?_
    exact j_ret_i hC dX12_turn_25
  · refine j_iload_n (pc' := 9) hC 2 dX12_turn_8 rfl rfl rfl ?_
    refine j_callS_zr (pc' := 12) (As := [.int p2]) (st := []) hC (kX12_areWaiting l d A _ _) (jgS ml_X12_285 st_X12_areWaiting in_X12 cd_X12_areWaiting) rfl rfl rfl hyS_X12_areWaiting ⟨Nat.le_of_ble_eq_true rfl, Nat.le_of_ble_eq_true rfl⟩ rfl rfl (Nat.le_of_ble_eq_true rfl) dX12_turn_9 rfl (fun q2 => ?_)
    refine j_if_eq (pc' := 15) (tgt := 24) hC dX12_turn_12 (by decide) rfl ?_ ?_
    · refine j_iconst (pc' := 25) (v := (-1 : Int32)) hC dX12_turn_24 (by decide) rfl ?_
      exact j_ret_i hC dX12_turn_25
    · refine j_iload_n (pc' := 16) hC 3 dX12_turn_15 rfl rfl rfl ?_
      refine j_iconst (pc' := 17) (v := (0 : Int32)) hC dX12_turn_16 (by decide) rfl ?_
      refine j_iconst (pc' := 18) (v := (3 : Int32)) hC dX12_turn_17 (by decide) rfl ?_
      refine j_callS_zr (pc' := 21) (As := [.int p3, .int (0 : Int32), .int (3 : Int32)]) (st := []) hC (kX12_in l d A _ _ _ _) (jgS ml_X12_128 st_X12_in in_X12 cd_X12_in) rfl rfl rfl hyS_X12_in ⟨Nat.le_of_ble_eq_true rfl, Nat.le_of_ble_eq_true rfl⟩ rfl rfl (Nat.le_of_ble_eq_true rfl) dX12_turn_18 rfl (fun q3 => ?_)
      refine j_if_ne (pc' := 24) (tgt := 26) hC dX12_turn_21 (by decide) rfl ?_ ?_
      · refine j_aload_n (pc' := 27) hC 0 dX12_turn_26 rfl rfl rfl ?_
        refine j_iload_n (pc' := 28) hC 1 dX12_turn_27 rfl rfl rfl ?_
        refine j_iload_n (pc' := 29) hC 2 dX12_turn_28 rfl rfl rfl ?_
        refine j_callV_v (pc' := 32) (As := [.int p1, .int p2]) (st := []) hC (M_at_0 d _) rfl (kX12_turnOf l d A _ _ _) (jgV ml_X12_288 im_X12_turnOf se_X12_turnOf in_X12 cd_X12_turnOf) rfl rfl rfl hyV_X12_turnOf ⟨Nat.le_of_ble_eq_true rfl, Nat.le_of_ble_eq_true rfl⟩ rfl rfl (Nat.le_of_ble_eq_true rfl) dX12_turn_29 rfl (fun q4 => ?_)
        refine j_iload_n (pc' := 33) hC 3 dX12_turn_32 rfl rfl rfl ?_
        refine j_if (fun c0 => ?_) (fun c0 => ?_)
        · refine j_tableIn (tgt := 60) (off := 27) hC dX12_turn_33 (by rw [c0]; decide) (by rw [c0]; decide) (by rw [c0]; rfl) (by decide) ?_
          refine j_aload_n (pc' := 61) hC 0 dX12_turn_60 rfl rfl rfl ?_
          refine j_get (pc' := 64) hC ly_X12 (M_at_0 d _) rfl 34 (by decide) fl_X12_254 rfl dX12_turn_61 rfl ?_
          exact j_ret_i hC dX12_turn_64
        refine j_if (fun c1 => ?_) (fun c1 => ?_)
        · refine j_tableIn (tgt := 65) (off := 32) hC dX12_turn_33 (by rw [c1]; decide) (by rw [c1]; decide) (by rw [c1]; rfl) (by decide) ?_
          refine j_aload_n (pc' := 66) hC 0 dX12_turn_65 rfl rfl rfl ?_
          refine j_get (pc' := 69) hC ly_X12 (M_at_0 d _) rfl 35 (by decide) fl_X12_260 rfl dX12_turn_66 rfl ?_
          exact j_ret_i hC dX12_turn_69
        refine j_if (fun c2 => ?_) (fun c2 => ?_)
        · refine j_tableIn (tgt := 70) (off := 37) hC dX12_turn_33 (by rw [c2]; decide) (by rw [c2]; decide) (by rw [c2]; rfl) (by decide) ?_
          refine j_aload_n (pc' := 71) hC 0 dX12_turn_70 rfl rfl rfl ?_
          refine j_get (pc' := 74) hC ly_X12 (M_at_0 d _) rfl 36 (by decide) fl_X12_251 rfl dX12_turn_71 rfl ?_
          exact j_ret_i hC dX12_turn_74
        refine j_tableOut (tgt := 75) hC dX12_turn_33 (by have e0 := lv_neT c0 (a := 0) rfl; have e1 := lv_neT c1 (a := 1) rfl; have e2 := lv_neT c2 (a := 2) rfl; omega) (by decide) ?_
        refine j_aload_n (pc' := 76) hC 0 dX12_turn_75 rfl rfl rfl ?_
        refine j_iload_n (pc' := 77) hC 1 dX12_turn_76 rfl rfl rfl ?_
        refine j_bipush (pc' := 79) (v := (10 : Int32)) hC dX12_turn_77 (by decide) rfl ?_
        refine j_idiv0 (pc' := 80) hC dX12_turn_79 (by decide) rfl ?_
        refine j_bipush (pc' := 82) (v := (10 : Int32)) hC dX12_turn_80 (by decide) rfl ?_
        refine j_irem0 (pc' := 83) hC dX12_turn_82 (by decide) rfl ?_
        refine j_iload_n (pc' := 84) hC 1 dX12_turn_83 rfl rfl rfl ?_
        refine j_bipush (pc' := 86) (v := (10 : Int32)) hC dX12_turn_84 (by decide) rfl ?_
        refine j_irem0 (pc' := 87) hC dX12_turn_86 (by decide) rfl ?_
        refine j_callV_ir (pc' := 90) (As := [.int ((p1 / (10 : Int32)) - (p1 / (10 : Int32)) / (10 : Int32) * (10 : Int32)), .int (p1 - p1 / (10 : Int32) * (10 : Int32))]) (st := []) hC (M_at_0 d _) rfl (kX12_bentOf l d A _ _ _) (jgV ml_X12_269 im_X12_bentOf se_X12_bentOf in_X12 cd_X12_bentOf) rfl rfl rfl hyV_X12_bentOf ⟨Nat.le_of_ble_eq_true rfl, Nat.le_of_ble_eq_true rfl⟩ rfl rfl (Nat.le_of_ble_eq_true rfl) dX12_turn_87 rfl (fun q5 => ?_)
        refine j_aload_n (pc' := 91) hC 0 dX12_turn_90 rfl rfl rfl ?_
        refine j_get (pc' := 94) hC ly_X12 (M_at_0 d _) rfl 34 (by decide) fl_X12_254 rfl dX12_turn_91 rfl ?_
        refine j_callS_ir (pc' := 97) (As := [.int q5, .int (q4.1 0 34)]) (st := []) hC (kX12_countedBy l d A _ _ _) (jgS ml_X12_263 st_X12_countedBy in_X12 cd_X12_countedBy) rfl rfl rfl hyS_X12_countedBy ⟨Nat.le_of_ble_eq_true rfl, Nat.le_of_ble_eq_true rfl⟩ rfl rfl (Nat.le_of_ble_eq_true rfl) dX12_turn_94 rfl (fun q6 => ?_)
        exact j_ret_i hC dX12_turn_97
      · refine j_iconst (pc' := 25) (v := (-1 : Int32)) hC dX12_turn_24 (by decide) rfl ?_
        exact j_ret_i hC dX12_turn_25
