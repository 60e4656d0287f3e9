theorem hyV_X7_swap : yX7_swap.cls = RX7 ∧ yX7_swap.cls ≠ "java/lang/invoke/MethodHandle" ∧ yX7_swap.cls ≠ "java/lang/invoke/VarHandle" ∧ (parseMethodDescriptor yX7_swap.desc).map (fun d => d.parameters.length) = some 2 := ⟨rfl, by decide +kernel, by decide +kernel, by decide +kernel⟩
noncomputable def fX7_swap (σ : jS) (p1 : Int32) (p2 : Int32) : Option (jS) :=
  (ob p1 5 (ob p2 5 (ob p1 5 (jst (ju σ 34 (p1).toNatClampNeg (σ.1 34 (p2).toNatClampNeg)) fun (σ1 : jS) => (ob p2 5 (jst (ju σ1 34 (p2).toNatClampNeg (σ.1 34 (p1).toNatClampNeg)) fun (σ2 : jS) => (some σ2)))))))
set_option maxRecDepth 100000 in
set_option maxHeartbeats 4000000 in
theorem kX7_swap (l : Launch) (d : jD) (A : Nat → Prop) (σ : jS) (p1 : Int32) (p2 : Int32) : jMv l yX7_swap (jws yX7_swap cX7_swap 4 none) { frames := 2, cells := 0, slots := 0, locals := 130 } d wX A [.ref (d.2.1 32), .int p1, .int p2] σ (fX7_swap σ p1 p2) := by
  refine jStart_v (lv0 := [(0, .ref (d.2.1 32)), (1, .int p1), (2, .int p2)]) (by decide) rfl (Nat.le_of_ble_eq_true rfl) rfl (fun z hC res => ?_)
  unfold fX7_swap
  refine j_aload_n (pc' := 1) hC 0 dX7_swap_0 rfl rfl rfl ?_
  refine j_get (pc' := 4) hC ly_X7 (X_at_32 d _) rfl 1 (by decide) fl_X7_13 rfl dX7_swap_1 rfl ?_
  refine j_iload_n (pc' := 5) hC 1 dX7_swap_4 rfl rfl rfl ?_
  refine j_iald (pc' := 6) hC (X_at_34 d _) dX7_swap_5 rfl ?_
  refine j_istore_n (pc' := 7) (lv' := [(3, .int (σ.1 34 (p1).toNatClampNeg)), (0, .ref (d.2.1 32)), (1, .int p1), (2, .int p2)]) hC dX7_swap_6 rfl (by decide) rfl rfl ?_
  refine j_aload_n (pc' := 8) hC 1 dX7_swap_7 rfl rfl rfl ?_
  refine j_get (pc' := 11) hC ly_X7 (X_at_32 d _) rfl 1 (by decide) fl_X7_13 rfl dX7_swap_8 rfl ?_
  refine j_iload_n (pc' := 12) hC 2 dX7_swap_11 rfl rfl rfl ?_
  refine j_aload_n (pc' := 13) hC 1 dX7_swap_12 rfl rfl rfl ?_
  refine j_get (pc' := 16) hC ly_X7 (X_at_32 d _) rfl 1 (by decide) fl_X7_13 rfl dX7_swap_13 rfl ?_
  refine j_iload_n (pc' := 17) hC 3 dX7_swap_16 rfl rfl rfl ?_
  refine j_iald (pc' := 18) hC (X_at_34 d _) dX7_swap_17 rfl ?_
  refine j_iast (pc' := 19) hC (X_at_34 d _) (X_sa_34 d _ _) dX7_swap_18 rfl ?_
  refine j_st (fun σ1 => ?_)
  refine j_aload_n (pc' := 20) hC 1 dX7_swap_19 rfl rfl rfl ?_
  refine j_get (pc' := 23) hC ly_X7 (X_at_32 d _) rfl 1 (by decide) fl_X7_13 rfl dX7_swap_20 rfl ?_
  refine j_iload_n (pc' := 24) hC 3 dX7_swap_23 rfl rfl rfl ?_
  refine j_iload_n (pc' := 25) hC 0 dX7_swap_24 rfl rfl rfl ?_
  refine j_iast (pc' := 26) hC (X_at_34 d _) (X_sa_34 d _ _) dX7_swap_25 rfl ?_
  refine j_st (fun σ2 => ?_)
  exact j_ret_v hC dX7_swap_26
theorem hyV_X7_waitsTogether : yX7_waitsTogether.cls = RX7 ∧ yX7_waitsTogether.cls ≠ "java/lang/invoke/MethodHandle" ∧ yX7_waitsTogether.cls ≠ "java/lang/invoke/VarHandle" ∧ (parseMethodDescriptor yX7_waitsTogether.desc).map (fun d => d.parameters.length) = some 0 := ⟨rfl, by decide +kernel, by decide +kernel, by decide +kernel⟩
noncomputable def fX7_waitsTogether_B4 (σ : jS) (s4 : Int32 × Int32 → Option (Int32)) (a : Int32 × Int32) : Option (Int32) :=
  (if (σ.1 32 3) ≤ (a.2 + (1 : Int32)) then (some a.1) else (ob a.2 5 (ob (a.2 + (1 : Int32)) 5 (ob (((σ.1 34 (a.2).toNatClampNeg) * (5 : Int32)) + (σ.1 34 ((a.2 + (1 : Int32))).toNatClampNeg)) 25 (jst (a.1 + ((((σ.1 32 3) - (1 : Int32)) - a.2) * (σ.1 33 ((((σ.1 34 (a.2).toNatClampNeg) * (5 : Int32)) + (σ.1 34 ((a.2 + (1 : Int32))).toNatClampNeg))).toNatClampNeg))) fun (y1 : Int32) => (s4 (y1, (a.2 + (1 : Int32)))))))))
noncomputable def fX7_waitsTogether (σ : jS) : Option (Int32) :=
  (jloop (fX7_waitsTogether_B4 σ) jN ((0 : Int32), (0 : Int32)))
set_option maxRecDepth 100000 in
set_option maxHeartbeats 4000000 in
theorem kX7_waitsTogether (l : Launch) (d : jD) (A : Nat → Prop) (σ : jS) : jMir l yX7_waitsTogether (jws yX7_waitsTogether cX7_waitsTogether 3 (some (.int))) { frames := 2, cells := 0, slots := 0, locals := 130 } d wX A [.ref (d.2.1 32)] σ (fX7_waitsTogether σ) := by
  refine jStart_ir (lv0 := [(0, .ref (d.2.1 32))]) (by decide) rfl (Nat.le_of_ble_eq_true rfl) rfl (fun z hC res => ?_)
  unfold fX7_waitsTogether
  refine j_iconst (pc' := 1) (v := (0 : Int32)) hC dX7_waitsTogether_0 (by decide) rfl ?_
  refine j_istore_n (pc' := 2) (lv' := [(1, .int (0 : Int32)), (0, .ref (d.2.1 32))]) hC dX7_waitsTogether_1 rfl (by decide) rfl rfl ?_
  refine j_iconst (pc' := 3) (v := (0 : Int32)) hC dX7_waitsTogether_2 (by decide) rfl ?_
  refine j_istore_n (pc' := 4) (lv' := [(2, .int (0 : Int32)), (1, .int (0 : Int32)), (0, .ref (d.2.1 32))]) hC dX7_waitsTogether_3 rfl (by decide) rfl rfl ?_
  refine j_lv (lv' := [(0, .ref (d.2.1 32)), (1, .int (0 : Int32)), (2, .int (0 : Int32))]) [2, 1, 0] rfl ?_
  refine j_loop 4 (fun a => σ) (fun a => [(0, .ref (d.2.1 32)), (1, .int a.1), (2, .int a.2)]) (fun s4 hs4 a => ?_) jN ((0 : Int32), (0 : Int32))
  unfold fX7_waitsTogether_B4
  refine j_iload_n (pc' := 5) hC 2 dX7_waitsTogether_4 rfl rfl rfl ?_
  refine j_iconst (pc' := 6) (v := (1 : Int32)) hC dX7_waitsTogether_5 (by decide) rfl ?_
  refine j_iadd (pc' := 7) hC dX7_waitsTogether_6 rfl ?_
  refine j_aload_n (pc' := 8) hC 0 dX7_waitsTogether_7 rfl rfl rfl ?_
  refine j_get (pc' := 11) hC ly_X7 (X_at_32 d _) rfl 3 (by decide) fl_X7_25 rfl dX7_waitsTogether_8 rfl ?_
  refine j_icmp_ge (pc' := 14) (tgt := 54) hC dX7_waitsTogether_11 (by decide) rfl ?_ ?_
  · refine j_iload_n (pc' := 55) hC 1 dX7_waitsTogether_54 rfl rfl rfl ?_
    exact j_ret_ir hC dX7_waitsTogether_55
  · refine j_iload_n (pc' := 15) hC 1 dX7_waitsTogether_14 rfl rfl rfl ?_
    refine j_aload_n (pc' := 16) hC 0 dX7_waitsTogether_15 rfl rfl rfl ?_
    refine j_get (pc' := 19) hC ly_X7 (X_at_32 d _) rfl 3 (by decide) fl_X7_25 rfl dX7_waitsTogether_16 rfl ?_
    refine j_iconst (pc' := 20) (v := (1 : Int32)) hC dX7_waitsTogether_19 (by decide) rfl ?_
    refine j_isub (pc' := 21) hC dX7_waitsTogether_20 rfl ?_
    refine j_iload_n (pc' := 22) hC 2 dX7_waitsTogether_21 rfl rfl rfl ?_
    refine j_isub (pc' := 23) hC dX7_waitsTogether_22 rfl ?_
    refine j_aload_n (pc' := 24) hC 0 dX7_waitsTogether_23 rfl rfl rfl ?_
    refine j_get (pc' := 27) hC ly_X7 (X_at_32 d _) rfl 0 (by decide) fl_X7_9 rfl dX7_waitsTogether_24 rfl ?_
    refine j_aload_n (pc' := 28) hC 0 dX7_waitsTogether_27 rfl rfl rfl ?_
    refine j_get (pc' := 31) hC ly_X7 (X_at_32 d _) rfl 1 (by decide) fl_X7_13 rfl dX7_waitsTogether_28 rfl ?_
    refine j_iload_n (pc' := 32) hC 2 dX7_waitsTogether_31 rfl rfl rfl ?_
    refine j_iald (pc' := 33) hC (X_at_34 d _) dX7_waitsTogether_32 rfl ?_
    refine j_iconst (pc' := 34) (v := (5 : Int32)) hC dX7_waitsTogether_33 (by decide) rfl ?_
    refine j_imul (pc' := 35) hC dX7_waitsTogether_34 rfl ?_
    refine j_aload_n (pc' := 36) hC 0 dX7_waitsTogether_35 rfl rfl rfl ?_
    refine j_get (pc' := 39) hC ly_X7 (X_at_32 d _) rfl 1 (by decide) fl_X7_13 rfl dX7_waitsTogether_36 rfl ?_
    refine j_iload_n (pc' := 40) hC 2 dX7_waitsTogether_39 rfl rfl rfl ?_
    refine j_iconst (pc' := 41) (v := (1 : Int32)) hC dX7_waitsTogether_40 (by decide) rfl ?_
    refine j_iadd (pc' := 42) hC dX7_waitsTogether_41 rfl ?_
    refine j_iald (pc' := 43) hC (X_at_34 d _) dX7_waitsTogether_42 rfl ?_
    refine j_iadd (pc' := 44) hC dX7_waitsTogether_43 rfl ?_
    refine j_iald (pc' := 45) hC (X_at_33 d _) dX7_waitsTogether_44 rfl ?_
    refine j_imul (pc' := 46) hC dX7_waitsTogether_45 rfl ?_
    refine j_iadd (pc' := 47) hC dX7_waitsTogether_46 rfl ?_
    refine j_top (fun y1 => ?_)
    refine j_istore_n (pc' := 48) (lv' := [(1, .int y1), (0, .ref (d.2.1 32)), (2, .int a.2)]) hC dX7_waitsTogether_47 rfl (by decide) rfl rfl ?_
    refine j_iinc (pc' := 51) (v := (a.2 + (1 : Int32))) (lv' := [(2, .int (a.2 + (1 : Int32))), (1, .int y1), (0, .ref (d.2.1 32))]) hC 2 dX7_waitsTogether_48 rfl (by decide) rfl rfl rfl ?_
    refine j_goto (tgt := 4) hC dX7_waitsTogether_51 (by decide) ?_
    exact j_lv (lv' := [(0, .ref (d.2.1 32)), (1, .int y1), (2, .int (a.2 + (1 : Int32)))]) [2, 1, 0] rfl (hs4 (y1, (a.2 + (1 : Int32))))
theorem hyV_X7_goOn : yX7_goOn.cls = RX7 ∧ yX7_goOn.cls ≠ "java/lang/invoke/MethodHandle" ∧ yX7_goOn.cls ≠ "java/lang/invoke/VarHandle" ∧ (parseMethodDescriptor yX7_goOn.desc).map (fun d => d.parameters.length) = some 0 := ⟨rfl, by decide +kernel, by decide +kernel, by decide +kernel⟩
noncomputable def fX7_goOn_B91 (s91 : jS × Int32 × Int32 → Option (Int32 × jS)) (a : jS × Int32 × Int32) : Option (Int32 × jS) :=
  (if a.2.2 ≤ a.2.1 then (some ((1 : Int32), a.1)) else (Option.bind (fX7_swap a.1 a.2.1 a.2.2) fun (q2 : jS) => (s91 (q2, (a.2.1 + (1 : Int32)), (a.2.2 + (-1 : Int32))))))
noncomputable def fX7_goOn_B47 (σ : jS) (a34 : Int32) (j73 : (Int32 → Option (Int32 × jS))) (s47 : Int32 → Option (Int32 × jS)) (a : Int32) : Option (Int32 × jS) :=
  (if a ≤ a34 then (j73 a) else (ob a 5 (ob a34 5 (if (σ.1 34 (a34).toNatClampNeg) ≤ (σ.1 34 (a).toNatClampNeg) then (j73 a) else (s47 (a + (-1 : Int32)))))))
noncomputable def fX7_goOn_B7 (σ : jS) (j34 : (Int32 → Option (Int32 × jS))) (s7 : Int32 → Option (Int32 × jS)) (a : Int32) : Option (Int32 × jS) :=
  (if a < 0 then (j34 a) else (ob a 5 (ob (a + (1 : Int32)) 5 (if (σ.1 34 (a).toNatClampNeg) ≤ (σ.1 34 ((a + (1 : Int32))).toNatClampNeg) then (j34 a) else (s7 (a + (-1 : Int32)))))))
noncomputable def fX7_goOn (σ : jS) : Option (Int32 × jS) :=
  (jlet (fun (a34 : Int32) => (if 0 ≤ a34 then (jlet (fun (a73 : Int32) => (Option.bind (fX7_swap σ a34 a73) fun (q1 : jS) => (jloop (fX7_goOn_B91) jN (q1, (a34 + (1 : Int32)), ((q1.1 32 3) - (1 : Int32)))))) fun (j73 : (Int32 → Option (Int32 × jS))) => (jloop (fX7_goOn_B47 σ a34 j73) jN ((σ.1 32 3) - (1 : Int32)))) else (some ((0 : Int32), σ)))) fun (j34 : (Int32 → Option (Int32 × jS))) => (jloop (fX7_goOn_B7 σ j34) jN ((σ.1 32 3) - (2 : Int32))))
set_option maxRecDepth 100000 in
set_option maxHeartbeats 4000000 in
theorem kX7_goOn (l : Launch) (d : jD) (A : Nat → Prop) (σ : jS) : jMz l yX7_goOn (jws yX7_goOn cX7_goOn 5 (some (.boolean))) { frames := 3, cells := 0, slots := 0, locals := 153 } d wX A [.ref (d.2.1 32)] σ (fX7_goOn σ) := by
  refine jStart_z (lv0 := [(0, .ref (d.2.1 32))]) (by decide) rfl (Nat.le_of_ble_eq_true rfl) rfl (fun z hC res => ?_)
  unfold fX7_goOn
  refine j_aload_n (pc' := 1) hC 0 dX7_goOn_0 rfl rfl rfl ?_
  refine j_get (pc' := 4) hC ly_X7 (X_at_32 d _) rfl 3 (by decide) fl_X7_25 rfl dX7_goOn_1 rfl ?_
  refine j_iconst (pc' := 5) (v := (2 : Int32)) hC dX7_goOn_4 (by decide) rfl ?_
  refine j_isub (pc' := 6) hC dX7_goOn_5 rfl ?_
  refine j_istore_n (pc' := 7) (lv' := [(1, .int ((σ.1 32 3) - (2 : Int32))), (0, .ref (d.2.1 32))]) hC dX7_goOn_6 rfl (by decide) rfl rfl ?_
  refine j_let 34 (fun a34 => σ) (fun a34 => [(0, .ref (d.2.1 32)), (1, .int a34)]) (fun a34 => []) (fun a34 => ?_) (fun j34 hj34 => ?_)
  · refine j_iload_n (pc' := 35) hC 1 dX7_goOn_34 rfl rfl rfl ?_
    refine j_if_ge (pc' := 38) (tgt := 40) hC dX7_goOn_35 (by decide) rfl ?_ ?_
    · refine j_aload_n (pc' := 41) hC 0 dX7_goOn_40 rfl rfl rfl ?_
      refine j_get (pc' := 44) hC ly_X7 (X_at_32 d _) rfl 3 (by decide) fl_X7_25 rfl dX7_goOn_41 rfl ?_
      refine j_iconst (pc' := 45) (v := (1 : Int32)) hC dX7_goOn_44 (by decide) rfl ?_
      refine j_isub (pc' := 46) hC dX7_goOn_45 rfl ?_
      refine j_istore_n (pc' := 47) (lv' := [(2, .int ((σ.1 32 3) - (1 : Int32))), (0, .ref (d.2.1 32)), (1, .int a34)]) hC dX7_goOn_46 rfl (by decide) rfl rfl ?_
      refine j_let 73 (fun a73 => σ) (fun a73 => [(0, .ref (d.2.1 32)), (1, .int a34), (2, .int a73)]) (fun a73 => []) (fun a73 => ?_) (fun j73 hj73 => ?_)
      · refine j_aload_n (pc' := 74) hC 0 dX7_goOn_73 rfl rfl rfl ?_
        refine j_iload_n (pc' := 75) hC 1 dX7_goOn_74 rfl rfl rfl ?_
        refine j_iload_n (pc' := 76) hC 2 dX7_goOn_75 rfl rfl rfl ?_
        refine j_callV_v (pc' := 79) (As := [.int a34, .int a73]) (st := []) hC (X_at_32 d _) rfl (kX7_swap l d A _ _ _) (jgV ml_X7_46 im_X7_swap se_X7_swap in_X7 cd_X7_swap) rfl rfl rfl hyV_X7_swap ⟨Nat.le_of_ble_eq_true rfl, Nat.le_of_ble_eq_true rfl⟩ rfl rfl (Nat.le_of_ble_eq_true rfl) dX7_goOn_76 rfl (fun q1 => ?_)
        refine j_iload_n (pc' := 80) hC 1 dX7_goOn_79 rfl rfl rfl ?_
        refine j_iconst (pc' := 81) (v := (1 : Int32)) hC dX7_goOn_80 (by decide) rfl ?_
        refine j_iadd (pc' := 82) hC dX7_goOn_81 rfl ?_
        refine j_istore_n (pc' := 83) (lv' := [(3, .int (a34 + (1 : Int32))), (0, .ref (d.2.1 32)), (1, .int a34), (2, .int a73)]) hC dX7_goOn_82 rfl (by decide) rfl rfl ?_
        refine j_aload_n (pc' := 84) hC 1 dX7_goOn_83 rfl rfl rfl ?_
        refine j_get (pc' := 87) hC ly_X7 (X_at_32 d _) rfl 3 (by decide) fl_X7_25 rfl dX7_goOn_84 rfl ?_
        refine j_iconst (pc' := 88) (v := (1 : Int32)) hC dX7_goOn_87 (by decide) rfl ?_
        refine j_isub (pc' := 89) hC dX7_goOn_88 rfl ?_
        refine j_istore (pc' := 91) (lv' := [(4, .int ((q1.1 32 3) - (1 : Int32))), (3, .int (a34 + (1 : Int32))), (0, .ref (d.2.1 32)), (1, .int a34), (2, .int a73)]) hC dX7_goOn_89 (by decide) rfl rfl ?_
        refine j_lv (lv' := [(0, .ref (d.2.1 32)), (3, .int (a34 + (1 : Int32))), (4, .int ((q1.1 32 3) - (1 : Int32)))]) [2, 1, 0] rfl ?_
        refine j_loop 91 (fun a => a.1) (fun a => [(0, .ref (d.2.1 32)), (3, .int a.2.1), (4, .int a.2.2)]) (fun s91 hs91 a => ?_) jN (q1, (a34 + (1 : Int32)), ((q1.1 32 3) - (1 : Int32)))
        unfold fX7_goOn_B91
        refine j_iload_n (pc' := 92) hC 1 dX7_goOn_91 rfl rfl rfl ?_
        refine j_iload (pc' := 94) hC 2 dX7_goOn_92 rfl rfl ?_
        refine j_icmp_ge (pc' := 97) (tgt := 113) hC dX7_goOn_94 (by decide) rfl ?_ ?_
        · refine j_iconst (pc' := 114) (v := (1 : Int32)) hC dX7_goOn_113 (by decide) rfl ?_
          exact j_ret_z hC (by decide) dX7_goOn_114
        · refine j_aload_n (pc' := 98) hC 0 dX7_goOn_97 rfl rfl rfl ?_
          refine j_iload_n (pc' := 99) hC 1 dX7_goOn_98 rfl rfl rfl ?_
          refine j_iload (pc' := 101) hC 2 dX7_goOn_99 rfl rfl ?_
          refine j_callV_v (pc' := 104) (As := [.int a.2.1, .int a.2.2]) (st := []) hC (X_at_32 d _) rfl (kX7_swap l d A _ _ _) (jgV ml_X7_46 im_X7_swap se_X7_swap in_X7 cd_X7_swap) rfl rfl rfl hyV_X7_swap ⟨Nat.le_of_ble_eq_true rfl, Nat.le_of_ble_eq_true rfl⟩ rfl rfl (Nat.le_of_ble_eq_true rfl) dX7_goOn_101 rfl (fun q2 => ?_)
          refine j_iinc (pc' := 107) (v := (a.2.1 + (1 : Int32))) (lv' := [(3, .int (a.2.1 + (1 : Int32))), (0, .ref (d.2.1 32)), (4, .int a.2.2)]) hC 1 dX7_goOn_104 rfl (by decide) rfl rfl rfl ?_
          refine j_iinc (pc' := 110) (v := (a.2.2 + (-1 : Int32))) (lv' := [(4, .int (a.2.2 + (-1 : Int32))), (3, .int (a.2.1 + (1 : Int32))), (0, .ref (d.2.1 32))]) hC 2 dX7_goOn_107 rfl (by decide) rfl rfl rfl ?_
          refine j_goto (tgt := 91) hC dX7_goOn_110 (by decide) ?_
          exact j_lv (lv' := [(0, .ref (d.2.1 32)), (3, .int (a.2.1 + (1 : Int32))), (4, .int (a.2.2 + (-1 : Int32)))]) [2, 1, 0] rfl (hs91 (q2, (a.2.1 + (1 : Int32)), (a.2.2 + (-1 : Int32))))
      · refine j_lv (lv' := [(0, .ref (d.2.1 32)), (1, .int a34), (2, .int ((σ.1 32 3) - (1 : Int32)))]) [1, 2, 0] rfl ?_
        refine j_loop 47 (fun a => σ) (fun a => [(0, .ref (d.2.1 32)), (1, .int a34), (2, .int a)]) (fun s47 hs47 a => ?_) jN ((σ.1 32 3) - (1 : Int32))
        unfold fX7_goOn_B47
        refine j_iload_n (pc' := 48) hC 2 dX7_goOn_47 rfl rfl rfl ?_
        refine j_iload_n (pc' := 49) hC 1 dX7_goOn_48 rfl rfl rfl ?_
        refine j_icmp_le (pc' := 52) (tgt := 73) hC dX7_goOn_49 (by decide) rfl ?_ ?_
        · exact j_lv (lv' := [(0, .ref (d.2.1 32)), (1, .int a34), (2, .int a)]) [0, 1, 2] rfl (hj73 a)
        · refine j_aload_n (pc' := 53) hC 0 dX7_goOn_52 rfl rfl rfl ?_
          refine j_get (pc' := 56) hC ly_X7 (X_at_32 d _) rfl 1 (by decide) fl_X7_13 rfl dX7_goOn_53 rfl ?_
          refine j_iload_n (pc' := 57) hC 2 dX7_goOn_56 rfl rfl rfl ?_
          refine j_iald (pc' := 58) hC (X_at_34 d _) dX7_goOn_57 rfl ?_
          refine j_aload_n (pc' := 59) hC 0 dX7_goOn_58 rfl rfl rfl ?_
          refine j_get (pc' := 62) hC ly_X7 (X_at_32 d _) rfl 1 (by decide) fl_X7_13 rfl dX7_goOn_59 rfl ?_
          refine j_iload_n (pc' := 63) hC 1 dX7_goOn_62 rfl rfl rfl ?_
          refine j_iald (pc' := 64) hC (X_at_34 d _) dX7_goOn_63 rfl ?_
          refine j_icmp_ge (pc' := 67) (tgt := 73) hC dX7_goOn_64 (by decide) rfl ?_ ?_
          · exact j_lv (lv' := [(0, .ref (d.2.1 32)), (1, .int a34), (2, .int a)]) [0, 1, 2] rfl (hj73 a)
          · refine j_iinc (pc' := 70) (v := (a + (-1 : Int32))) (lv' := [(2, .int (a + (-1 : Int32))), (0, .ref (d.2.1 32)), (1, .int a34)]) hC 2 dX7_goOn_67 rfl (by decide) rfl rfl rfl ?_
            refine j_goto (tgt := 47) hC dX7_goOn_70 (by decide) ?_
            exact j_lv (lv' := [(0, .ref (d.2.1 32)), (1, .int a34), (2, .int (a + (-1 : Int32)))]) [1, 2, 0] rfl (hs47 (a + (-1 : Int32)))
    · refine j_iconst (pc' := 39) (v := (0 : Int32)) hC dX7_goOn_38 (by decide) rfl ?_
      exact j_ret_z hC (by decide) dX7_goOn_39
  · refine j_lv (lv' := [(0, .ref (d.2.1 32)), (1, .int ((σ.1 32 3) - (2 : Int32)))]) [1, 0] rfl ?_
    refine j_loop 7 (fun a => σ) (fun a => [(0, .ref (d.2.1 32)), (1, .int a)]) (fun s7 hs7 a => ?_) jN ((σ.1 32 3) - (2 : Int32))
    unfold fX7_goOn_B7
    refine j_iload_n (pc' := 8) hC 1 dX7_goOn_7 rfl rfl rfl ?_
    refine j_if_lt (pc' := 11) (tgt := 34) hC dX7_goOn_8 (by decide) rfl ?_ ?_
    · exact j_lv (lv' := [(0, .ref (d.2.1 32)), (1, .int a)]) [0, 1] rfl (hj34 a)
    · refine j_aload_n (pc' := 12) hC 0 dX7_goOn_11 rfl rfl rfl ?_
      refine j_get (pc' := 15) hC ly_X7 (X_at_32 d _) rfl 1 (by decide) fl_X7_13 rfl dX7_goOn_12 rfl ?_
      refine j_iload_n (pc' := 16) hC 1 dX7_goOn_15 rfl rfl rfl ?_
      refine j_iald (pc' := 17) hC (X_at_34 d _) dX7_goOn_16 rfl ?_
      refine j_aload_n (pc' := 18) hC 0 dX7_goOn_17 rfl rfl rfl ?_
      refine j_get (pc' := 21) hC ly_X7 (X_at_32 d _) rfl 1 (by decide) fl_X7_13 rfl dX7_goOn_18 rfl ?_
      refine j_iload_n (pc' := 22) hC 1 dX7_goOn_21 rfl rfl rfl ?_
      refine j_iconst (pc' := 23) (v := (1 : Int32)) hC dX7_goOn_22 (by decide) rfl ?_
      refine j_iadd (pc' := 24) hC dX7_goOn_23 rfl ?_
      refine j_iald (pc' := 25) hC (X_at_34 d _) dX7_goOn_24 rfl ?_
      refine j_icmp_le (pc' := 28) (tgt := 34) hC dX7_goOn_25 (by decide) rfl ?_ ?_
      · exact j_lv (lv' := [(0, .ref (d.2.1 32)), (1, .int a)]) [0, 1] rfl (hj34 a)
      · refine j_iinc (pc' := 31) (v := (a + (-1 : Int32))) (lv' := [(1, .int (a + (-1 : Int32))), (0, .ref (d.2.1 32))]) hC 1 dX7_goOn_28 rfl (by decide) rfl rfl rfl ?_
        refine j_goto (tgt := 7) hC dX7_goOn_31 (by decide) ?_
        exact j_lv (lv' := [(0, .ref (d.2.1 32)), (1, .int (a + (-1 : Int32)))]) [1, 0] rfl (hs7 (a + (-1 : Int32)))
theorem hyV_X7_begin : yX7_begin.cls = RX7 ∧ yX7_begin.cls ≠ "java/lang/invoke/MethodHandle" ∧ yX7_begin.cls ≠ "java/lang/invoke/VarHandle" ∧ (parseMethodDescriptor yX7_begin.desc).map (fun d => d.parameters.length) = some 1 := ⟨rfl, by decide +kernel, by decide +kernel, by decide +kernel⟩
noncomputable def fX7_begin_B11 (s11 : jS × Int32 → Option (jS)) (a : jS × Int32) : Option (jS) :=
  (if (a.1.1 32 3) ≤ a.2 then (some a.1) else (ob a.2 5 (jst (ju a.1 34 (a.2).toNatClampNeg a.2) fun (σ2 : jS) => (s11 (σ2, (a.2 + (1 : Int32)))))))
noncomputable def fX7_begin (σ : jS) (p1 : Int32) : Option (jS) :=
  (jst (ju σ 32 3 (if (5 : Int32) < p1 then (5 : Int32) else p1)) fun (σ1 : jS) => (jloop (fX7_begin_B11) jN (σ1, (0 : Int32))))
set_option maxRecDepth 100000 in
set_option maxHeartbeats 4000000 in
theorem kX7_begin (l : Launch) (d : jD) (A : Nat → Prop) (σ : jS) (p1 : Int32) : jMv l yX7_begin (jws yX7_begin cX7_begin 3 none) { frames := 2, cells := 0, slots := 0, locals := 130 } d wX A [.ref (d.2.1 32), .int p1] σ (fX7_begin σ p1) := by
  refine jStart_v (lv0 := [(0, .ref (d.2.1 32)), (1, .int p1)]) (by decide) rfl (Nat.le_of_ble_eq_true rfl) rfl (fun z hC res => ?_)
  unfold fX7_begin
  refine j_aload_n (pc' := 1) hC 0 dX7_begin_0 rfl rfl rfl ?_
  refine j_iload_n (pc' := 2) hC 1 dX7_begin_1 rfl rfl rfl ?_
  refine j_iconst (pc' := 3) (v := (5 : Int32)) hC dX7_begin_2 (by decide) rfl ?_
  refine j_mmin (pc' := 6) hC ml_X7_19 st_mmin in_J9 cd_mmin (Nat.le_of_ble_eq_true rfl) (Nat.le_of_ble_eq_true rfl) dX7_begin_3 rfl ?_
  refine j_put (pc' := 9) hC ly_X7 tyX7 tyX7_ok nmX7 (X_at_32 d _) rfl 3 (by decide) fl_X7_25 rfl rfl rfl rfl (Nat.le_of_ble_eq_true rfl) (X_sf_32_3 d _ _) dX7_begin_6 rfl ?_
  refine j_st (fun σ1 => ?_)
  refine j_iconst (pc' := 10) (v := (0 : Int32)) hC dX7_begin_9 (by decide) rfl ?_
  refine j_istore_n (pc' := 11) (lv' := [(2, .int (0 : Int32)), (0, .ref (d.2.1 32)), (1, .int p1)]) hC dX7_begin_10 rfl (by decide) rfl rfl ?_
  refine j_lv (lv' := [(0, .ref (d.2.1 32)), (2, .int (0 : Int32))]) [1, 0] rfl ?_
  refine j_loop 11 (fun a => a.1) (fun a => [(0, .ref (d.2.1 32)), (2, .int a.2)]) (fun s11 hs11 a => ?_) jN (σ1, (0 : Int32))
  unfold fX7_begin_B11
  refine j_iload_n (pc' := 12) hC 1 dX7_begin_11 rfl rfl rfl ?_
  refine j_aload_n (pc' := 13) hC 0 dX7_begin_12 rfl rfl rfl ?_
  refine j_get (pc' := 16) hC ly_X7 (X_at_32 d _) rfl 3 (by decide) fl_X7_25 rfl dX7_begin_13 rfl ?_
  refine j_icmp_ge (pc' := 19) (tgt := 32) hC dX7_begin_16 (by decide) rfl ?_ ?_
  · exact j_ret_v hC dX7_begin_32
  · refine j_aload_n (pc' := 20) hC 0 dX7_begin_19 rfl rfl rfl ?_
    refine j_get (pc' := 23) hC ly_X7 (X_at_32 d _) rfl 1 (by decide) fl_X7_13 rfl dX7_begin_20 rfl ?_
    refine j_iload_n (pc' := 24) hC 1 dX7_begin_23 rfl rfl rfl ?_
    refine j_iload_n (pc' := 25) hC 1 dX7_begin_24 rfl rfl rfl ?_
    refine j_iast (pc' := 26) hC (X_at_34 d _) (X_sa_34 d _ _) dX7_begin_25 rfl ?_
    refine j_st (fun σ2 => ?_)
    refine j_iinc (pc' := 29) (v := (a.2 + (1 : Int32))) (lv' := [(2, .int (a.2 + (1 : Int32))), (0, .ref (d.2.1 32))]) hC 1 dX7_begin_26 rfl (by decide) rfl rfl rfl ?_
    refine j_goto (tgt := 11) hC dX7_begin_29 (by decide) ?_
    exact j_lv (lv' := [(0, .ref (d.2.1 32)), (2, .int (a.2 + (1 : Int32)))]) [1, 0] rfl (hs11 (σ2, (a.2 + (1 : Int32))))
theorem hyV_X7_seek : yX7_seek.cls = RX7 ∧ yX7_seek.cls ≠ "java/lang/invoke/MethodHandle" ∧ yX7_seek.cls ≠ "java/lang/invoke/VarHandle" ∧ (parseMethodDescriptor yX7_seek.desc).map (fun d => d.parameters.length) = some 0 := ⟨rfl, by decide +kernel, by decide +kernel, by decide +kernel⟩
noncomputable def fX7_seek_B4 (s4 : jS × Int32 × Int32 → Option (jS)) (a : jS × Int32 × Int32) : Option (jS) :=
  (if (120 : Int32) ≤ a.2.2 then (some a.1) else (if a.2.1 = 0 then (some a.1) else (Option.bind (fX7_waitsTogether a.1) fun (q1 : Int32) => (jlet (fun (a53 : jS) => (Option.bind (fX7_goOn a53) fun (q2 : (Int32 × jS)) => (s4 (q2.2, (jb q2.1), (a.2.2 + (1 : Int32)))))) fun (j53 : (jS → Option (jS))) => (jlet (fun (a31 : Unit) => (jst (ju a.1 32 4 q1) fun (σ3 : jS) => (ocp (0 : Int32) (0 : Int32) (σ3.1 32 3) 5 5 (jst (jc σ3 35 (va_cpy (σ3.1 34) (σ3.1 35) ((0 : Int32)).toNatClampNeg ((0 : Int32)).toNatClampNeg ((σ3.1 32 3)).toNatClampNeg)) fun (σ4 : jS) => (j53 σ4))))) fun (j31 : (Unit → Option (jS))) => (if a.2.2 = 0 then (j31 ()) else (if (a.1.1 32 4) ≤ q1 then (j53 a.1) else (j31 ()))))))))
noncomputable def fX7_seek (σ : jS) : Option (jS) :=
  (jloop (fX7_seek_B4) jN (σ, (1 : Int32), (0 : Int32)))
set_option maxRecDepth 100000 in
set_option maxHeartbeats 4000000 in
theorem kX7_seek (l : Launch) (d : jD) (A : Nat → Prop) (σ : jS) : jMv l yX7_seek (jws yX7_seek cX7_seek 4 none) { frames := 4, cells := 0, slots := 0, locals := 177 } d wX A [.ref (d.2.1 32)] σ (fX7_seek σ) := by
  refine jStart_v (lv0 := [(0, .ref (d.2.1 32))]) (by decide) rfl (Nat.le_of_ble_eq_true rfl) rfl (fun z hC res => ?_)
  unfold fX7_seek
  refine j_iconst (pc' := 1) (v := (1 : Int32)) hC dX7_seek_0 (by decide) rfl ?_
  refine j_istore_n (pc' := 2) (lv' := [(1, .int (1 : Int32)), (0, .ref (d.2.1 32))]) hC dX7_seek_1 rfl (by decide) rfl rfl ?_
  refine j_iconst (pc' := 3) (v := (0 : Int32)) hC dX7_seek_2 (by decide) rfl ?_
  refine j_istore_n (pc' := 4) (lv' := [(2, .int (0 : Int32)), (1, .int (1 : Int32)), (0, .ref (d.2.1 32))]) hC dX7_seek_3 rfl (by decide) rfl rfl ?_
  refine j_lv (lv' := [(0, .ref (d.2.1 32)), (1, .int (1 : Int32)), (2, .int (0 : Int32))]) [2, 1, 0] rfl ?_
  refine j_loop 4 (fun a => a.1) (fun a => [(0, .ref (d.2.1 32)), (1, .int a.2.1), (2, .int a.2.2)]) (fun s4 hs4 a => ?_) jN (σ, (1 : Int32), (0 : Int32))
  unfold fX7_seek_B4
  refine j_iload_n (pc' := 5) hC 2 dX7_seek_4 rfl rfl rfl ?_
  refine j_bipush (pc' := 7) (v := (120 : Int32)) hC dX7_seek_5 (by decide) rfl ?_
  refine j_icmp_ge (pc' := 10) (tgt := 64) hC dX7_seek_7 (by decide) rfl ?_ ?_
  · exact j_ret_v hC dX7_seek_64
  · refine j_iload_n (pc' := 11) hC 1 dX7_seek_10 rfl rfl rfl ?_
    refine j_if_eq (pc' := 14) (tgt := 64) hC dX7_seek_11 (by decide) rfl ?_ ?_
    · exact j_ret_v hC dX7_seek_64
    · refine j_aload_n (pc' := 15) hC 0 dX7_seek_14 rfl rfl rfl ?_
      refine j_callV_ir (pc' := 18) (As := []) (st := []) hC (X_at_32 d _) rfl (kX7_waitsTogether l d A _) (jgV ml_X7_29 im_X7_waitsTogether se_X7_waitsTogether in_X7 cd_X7_waitsTogether) rfl rfl rfl hyV_X7_waitsTogether ⟨Nat.le_of_ble_eq_true rfl, Nat.le_of_ble_eq_true rfl⟩ rfl rfl (Nat.le_of_ble_eq_true rfl) dX7_seek_15 rfl (fun q1 => ?_)
      refine j_istore_n (pc' := 19) (lv' := [(3, .int q1), (0, .ref (d.2.1 32)), (1, .int a.2.1), (2, .int a.2.2)]) hC dX7_seek_18 rfl (by decide) rfl rfl ?_
      refine j_iload_n (pc' := 20) hC 3 dX7_seek_19 rfl rfl rfl ?_
      refine j_let 53 (fun a53 => a53) (fun a53 => [(0, .ref (d.2.1 32)), (2, .int a.2.2)]) (fun a53 => []) (fun a53 => ?_) (fun j53 hj53 => ?_)
      · refine j_aload_n (pc' := 54) hC 0 dX7_seek_53 rfl rfl rfl ?_
        refine j_callV_z (pc' := 57) (As := []) (st := []) hC (X_at_32 d _) rfl (kX7_goOn l d A _) (jgV ml_X7_42 im_X7_goOn se_X7_goOn in_X7 cd_X7_goOn) rfl rfl rfl hyV_X7_goOn ⟨Nat.le_of_ble_eq_true rfl, Nat.le_of_ble_eq_true rfl⟩ rfl rfl (Nat.le_of_ble_eq_true rfl) dX7_seek_54 rfl (fun q2 => ?_)
        refine j_istore_n (pc' := 58) (lv' := [(1, .int (jb q2.1)), (0, .ref (d.2.1 32)), (2, .int a.2.2)]) hC dX7_seek_57 rfl (by decide) rfl rfl ?_
        refine j_iinc (pc' := 61) (v := (a.2.2 + (1 : Int32))) (lv' := [(2, .int (a.2.2 + (1 : Int32))), (1, .int (jb q2.1)), (0, .ref (d.2.1 32))]) hC 2 dX7_seek_58 rfl (by decide) rfl rfl rfl ?_
        refine j_goto (tgt := 4) hC dX7_seek_61 (by decide) ?_
        exact j_lv (lv' := [(0, .ref (d.2.1 32)), (1, .int (jb q2.1)), (2, .int (a.2.2 + (1 : Int32)))]) [2, 1, 0] rfl (hs4 (q2.2, (jb q2.1), (a.2.2 + (1 : Int32))))
      · refine j_let 31 (fun a31 => a.1) (fun a31 => [(0, .ref (d.2.1 32)), (2, .int a.2.2), (3, .int q1)]) (fun a31 => []) (fun a31 => ?_) (fun j31 hj31 => ?_)
        · refine j_aload_n (pc' := 32) hC 0 dX7_seek_31 rfl rfl rfl ?_
          refine j_iload_n (pc' := 33) hC 2 dX7_seek_32 rfl rfl rfl ?_
          refine j_put (pc' := 36) hC ly_X7 tyX7 tyX7_ok nmX7 (X_at_32 d _) rfl 4 (by decide) fl_X7_33 rfl rfl rfl rfl (Nat.le_of_ble_eq_true rfl) (X_sf_32_4 d _ _) dX7_seek_33 rfl ?_
          refine j_st (fun σ3 => ?_)
          refine j_aload_n (pc' := 37) hC 0 dX7_seek_36 rfl rfl rfl ?_
          refine j_get (pc' := 40) hC ly_X7 (X_at_32 d _) rfl 1 (by decide) fl_X7_13 rfl dX7_seek_37 rfl ?_
          refine j_iconst (pc' := 41) (v := (0 : Int32)) hC dX7_seek_40 (by decide) rfl ?_
          refine j_aload_n (pc' := 42) hC 0 dX7_seek_41 rfl rfl rfl ?_
          refine j_get (pc' := 45) hC ly_X7 (X_at_32 d _) rfl 2 (by decide) fl_X7_16 rfl dX7_seek_42 rfl ?_
          refine j_iconst (pc' := 46) (v := (0 : Int32)) hC dX7_seek_45 (by decide) rfl ?_
          refine j_aload_n (pc' := 47) hC 0 dX7_seek_46 rfl rfl rfl ?_
          refine j_get (pc' := 50) hC ly_X7 (X_at_32 d _) rfl 3 (by decide) fl_X7_25 rfl dX7_seek_47 rfl ?_
          refine j_copyi (pc' := 53) hC ml_X7_36 na_acopy st_acopy in_J10 (X_at_34 d _) (X_at_35 d _) (X_sa_35 d _ _) (Nat.le_of_ble_eq_true rfl) (Nat.le_of_ble_eq_true rfl) dX7_seek_50 rfl ?_
          refine j_st (fun σ4 => ?_)
          exact j_lv (lv' := [(0, .ref (d.2.1 32)), (2, .int a.2.2)]) [0, 1] rfl (hj53 σ4)
        · refine j_if_eq (pc' := 23) (tgt := 31) hC dX7_seek_20 (by decide) rfl ?_ ?_
          · exact j_lv (lv' := [(0, .ref (d.2.1 32)), (2, .int a.2.2), (3, .int q1)]) [1, 3, 0] rfl (hj31 ())
          · refine j_iload_n (pc' := 24) hC 0 dX7_seek_23 rfl rfl rfl ?_
            refine j_aload_n (pc' := 25) hC 1 dX7_seek_24 rfl rfl rfl ?_
            refine j_get (pc' := 28) hC ly_X7 (X_at_32 d _) rfl 4 (by decide) fl_X7_33 rfl dX7_seek_25 rfl ?_
            refine j_icmp_ge (pc' := 31) (tgt := 53) hC dX7_seek_28 (by decide) rfl ?_ ?_
            · exact j_lv (lv' := [(0, .ref (d.2.1 32)), (2, .int a.2.2)]) [1, 3] rfl (hj53 a.1)
            · exact j_lv (lv' := [(0, .ref (d.2.1 32)), (2, .int a.2.2), (3, .int q1)]) [1, 3, 0] rfl (hj31 ())
theorem hyV_X7_foundAt : yX7_foundAt.cls = RX7 ∧ yX7_foundAt.cls ≠ "java/lang/invoke/MethodHandle" ∧ yX7_foundAt.cls ≠ "java/lang/invoke/VarHandle" ∧ (parseMethodDescriptor yX7_foundAt.desc).map (fun d => d.parameters.length) = some 1 := ⟨rfl, by decide +kernel, by decide +kernel, by decide +kernel⟩
noncomputable def fX7_foundAt (σ : jS) (p1 : Int32) : Option (Int32) :=
  (if p1 < 0 then (some (0 : Int32)) else (if (σ.1 32 3) ≤ p1 then (some (0 : Int32)) else (ob p1 5 (some (σ.1 35 (p1).toNatClampNeg)))))
set_option maxRecDepth 100000 in
set_option maxHeartbeats 4000000 in
theorem kX7_foundAt (l : Launch) (d : jD) (A : Nat → Prop) (σ : jS) (p1 : Int32) : jMir l yX7_foundAt (jws yX7_foundAt cX7_foundAt 2 (some (.int))) { frames := 2, cells := 0, slots := 0, locals := 130 } d wX A [.ref (d.2.1 32), .int p1] σ (fX7_foundAt σ p1) := by
  refine jStart_ir (lv0 := [(0, .ref (d.2.1 32)), (1, .int p1)]) (by decide) rfl (Nat.le_of_ble_eq_true rfl) rfl (fun z hC res => ?_)
  unfold fX7_foundAt
  refine j_iload_n (pc' := 1) hC 1 dX7_foundAt_0 rfl rfl rfl ?_
  refine j_if_lt (pc' := 4) (tgt := 21) hC dX7_foundAt_1 (by decide) rfl ?_ ?_
  · refine j_iconst (pc' := 22) (v := (0 : Int32)) hC dX7_foundAt_21 (by decide) rfl ?_
    exact j_ret_ir hC dX7_foundAt_22
  · refine j_iload_n (pc' := 5) hC 1 dX7_foundAt_4 rfl rfl rfl ?_
    refine j_aload_n (pc' := 6) hC 0 dX7_foundAt_5 rfl rfl rfl ?_
    refine j_get (pc' := 9) hC ly_X7 (X_at_32 d _) rfl 3 (by decide) fl_X7_25 rfl dX7_foundAt_6 rfl ?_
    refine j_icmp_ge (pc' := 12) (tgt := 21) hC dX7_foundAt_9 (by decide) rfl ?_ ?_
    · refine j_iconst (pc' := 22) (v := (0 : Int32)) hC dX7_foundAt_21 (by decide) rfl ?_
      exact j_ret_ir hC dX7_foundAt_22
    · refine j_aload_n (pc' := 13) hC 0 dX7_foundAt_12 rfl rfl rfl ?_
      refine j_get (pc' := 16) hC ly_X7 (X_at_32 d _) rfl 2 (by decide) fl_X7_16 rfl dX7_foundAt_13 rfl ?_
      refine j_iload_n (pc' := 17) hC 1 dX7_foundAt_16 rfl rfl rfl ?_
      refine j_iald (pc' := 18) hC (X_at_35 d _) dX7_foundAt_17 rfl ?_
      refine j_goto (tgt := 22) hC dX7_foundAt_18 (by decide) ?_
      exact j_ret_ir hC dX7_foundAt_22
