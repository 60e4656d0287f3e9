theorem hyV_X12_longest : yX12_longest.cls = RX12 ∧ yX12_longest.cls ≠ "java/lang/invoke/MethodHandle" ∧ yX12_longest.cls ≠ "java/lang/invoke/VarHandle" ∧ (parseMethodDescriptor yX12_longest.desc).map (fun d => d.parameters.length) = some 2 := ⟨rfl, by decide +kernel, by decide +kernel, by decide +kernel⟩
noncomputable def fX12_longest_B42 (p1 : Int32) (p2 : Int32) (y3 : Int32) (j91 : (jS × Int32 → Option (Int32 × jS))) (s42 : jS × Int32 × Int32 × Int32 → Option (Int32 × jS)) (a : jS × Int32 × Int32 × Int32) : Option (Int32 × jS) :=
  (if (9 : Int32) < a.2.2.2 then (j91 (a.1, a.2.1)) else (ob y3 9 (jst (ju a.1 4 (y3).toNatClampNeg a.2.2.2) fun (σ5 : jS) => (Option.bind (fX12_turnOf σ5 p1 p2) fun (q6 : jS) => (jlet (fun (a85 : Int32 × Int32) => (s42 (q6, a85.1, a85.2, (a.2.2.2 + (1 : Int32))))) fun (j85 : (Int32 × Int32 → Option (Int32 × jS))) => (if a.2.2.1 < (q6.1 0 35) then (j85 (a.2.2.2, (q6.1 0 35))) else (j85 (a.2.1, a.2.2.1))))))))
noncomputable def fX12_longest (σ : jS) (p1 : Int32) (p2 : Int32) : Option (Int32 × jS) :=
  (Option.bind (fX12_areThree σ p1) fun (q1 : Int32) => (if (jb q1) = 0 then (some ((-1 : Int32), σ)) else (Option.bind (fX12_areWaiting σ p2) fun (q2 : Int32) => (if (jb q2) = 0 then (some ((-1 : Int32), σ)) else (jst ((p1 / (10 : Int32)) - (p1 / (10 : Int32)) / (10 : Int32) * (10 : Int32)) fun (y3 : Int32) => (ob y3 9 (jlet (fun (a91 : jS × Int32) => (ob y3 9 (jst (ju a91.1 4 (y3).toNatClampNeg (σ.1 4 (y3).toNatClampNeg)) fun (σ4 : jS) => (some (a91.2, σ4))))) fun (j91 : (jS × Int32 → Option (Int32 × jS))) => (jloop (fX12_longest_B42 p1 p2 y3 j91) jN (σ, (0 : Int32), (-1 : Int32), (0 : Int32))))))))))
set_option maxRecDepth 100000 in
set_option maxHeartbeats 4000000 in
theorem kX12_longest (l : Launch) (d : jD) (A : Nat → Prop) (σ : jS) (p1 : Int32) (p2 : Int32) : jMi l yX12_longest (jws yX12_longest cX12_longest 8 (some (.int))) { frames := 8, cells := 0, slots := 0, locals := 274 } d wM A [.ref (d.2.1 0), .int p1, .int p2] σ (fX12_longest σ p1 p2) := by
  refine jStart_i (lv0 := [(0, .ref (d.2.1 0)), (1, .int p1), (2, .int p2)]) (by decide) rfl (Nat.le_of_ble_eq_true rfl) rfl (fun z hC res => ?_)
  unfold fX12_longest
  refine j_aload_n (pc' := 1) hC 0 dX12_longest_0 rfl rfl rfl ?_
  refine j_iload_n (pc' := 2) hC 1 dX12_longest_1 rfl rfl rfl ?_
  refine j_callV_zr (pc' := 5) (As := [.int p1]) (st := []) hC (M_at_0 d _) rfl (kX12_areThree l d A _ _) (jgV ml_X12_282 im_X12_areThree se_X12_areThree in_X12 cd_X12_areThree) rfl rfl rfl hyV_X12_areThree ⟨Nat.le_of_ble_eq_true rfl, Nat.le_of_ble_eq_true rfl⟩ rfl rfl (Nat.le_of_ble_eq_true rfl) dX12_longest_2 rfl (fun q1 => ?_)
  refine j_if_eq (pc' := 8) (tgt := 15) hC dX12_longest_5 (by decide) rfl ?_ ?_
  · refine j_iconst (pc' := 16) (v := (-1 : Int32)) hC dX12_longest_15 (by decide) rfl ?_
    exact j_ret_i hC dX12_longest_16
  · refine j_iload_n (pc' := 9) hC 2 dX12_longest_8 rfl rfl rfl ?_
    refine j_callS_zr (pc' := 12) (As := [.int p2]) (st := []) hC (kX12_areWaiting l d A _ _) (jgS ml_X12_285 st_X12_areWaiting in_X12 cd_X12_areWaiting) rfl rfl rfl hyS_X12_areWaiting ⟨Nat.le_of_ble_eq_true rfl, Nat.le_of_ble_eq_true rfl⟩ rfl rfl (Nat.le_of_ble_eq_true rfl) dX12_longest_9 rfl (fun q2 => ?_)
    refine j_if_ne (pc' := 15) (tgt := 17) hC dX12_longest_12 (by decide) rfl ?_ ?_
    · refine j_iload_n (pc' := 18) hC 1 dX12_longest_17 rfl rfl rfl ?_
      refine j_bipush (pc' := 20) (v := (10 : Int32)) hC dX12_longest_18 (by decide) rfl ?_
      refine j_idiv0 (pc' := 21) hC dX12_longest_20 (by decide) rfl ?_
      refine j_bipush (pc' := 23) (v := (10 : Int32)) hC dX12_longest_21 (by decide) rfl ?_
      refine j_irem0 (pc' := 24) hC dX12_longest_23 (by decide) rfl ?_
      refine j_top (fun y3 => ?_)
      refine j_istore_n (pc' := 25) (lv' := [(3, .int y3), (0, .ref (d.2.1 0)), (1, .int p1), (2, .int p2)]) hC dX12_longest_24 rfl (by decide) rfl rfl ?_
      refine j_aload_n (pc' := 26) hC 1 dX12_longest_25 rfl rfl rfl ?_
      refine j_get (pc' := 29) hC ly_X12 (M_at_0 d _) rfl 5 (by decide) fl_X12_19 rfl dX12_longest_26 rfl ?_
      refine j_iload_n (pc' := 30) hC 0 dX12_longest_29 rfl rfl rfl ?_
      refine j_iald (pc' := 31) hC (M_at_4 d _) dX12_longest_30 rfl ?_
      refine j_istore (pc' := 33) (lv' := [(4, .int (σ.1 4 (y3).toNatClampNeg)), (3, .int y3), (0, .ref (d.2.1 0)), (1, .int p1), (2, .int p2)]) hC dX12_longest_31 (by decide) rfl rfl ?_
      refine j_iconst (pc' := 34) (v := (0 : Int32)) hC dX12_longest_33 (by decide) rfl ?_
      refine j_istore (pc' := 36) (lv' := [(5, .int (0 : Int32)), (4, .int (σ.1 4 (y3).toNatClampNeg)), (3, .int y3), (0, .ref (d.2.1 0)), (1, .int p1), (2, .int p2)]) hC dX12_longest_34 (by decide) rfl rfl ?_
      refine j_iconst (pc' := 37) (v := (-1 : Int32)) hC dX12_longest_36 (by decide) rfl ?_
      refine j_istore (pc' := 39) (lv' := [(6, .int (-1 : Int32)), (5, .int (0 : Int32)), (4, .int (σ.1 4 (y3).toNatClampNeg)), (3, .int y3), (0, .ref (d.2.1 0)), (1, .int p1), (2, .int p2)]) hC dX12_longest_37 (by decide) rfl rfl ?_
      refine j_iconst (pc' := 40) (v := (0 : Int32)) hC dX12_longest_39 (by decide) rfl ?_
      refine j_istore (pc' := 42) (lv' := [(7, .int (0 : Int32)), (6, .int (-1 : Int32)), (5, .int (0 : Int32)), (4, .int (σ.1 4 (y3).toNatClampNeg)), (3, .int y3), (0, .ref (d.2.1 0)), (1, .int p1), (2, .int p2)]) hC dX12_longest_40 (by decide) rfl rfl ?_
      refine j_let 91 (fun a91 => a91.1) (fun a91 => [(0, .ref (d.2.1 0)), (3, .int y3), (4, .int (σ.1 4 (y3).toNatClampNeg)), (5, .int a91.2)]) (fun a91 => []) (fun a91 => ?_) (fun j91 hj91 => ?_)
      · refine j_aload_n (pc' := 92) hC 0 dX12_longest_91 rfl rfl rfl ?_
        refine j_get (pc' := 95) hC ly_X12 (M_at_0 d _) rfl 5 (by decide) fl_X12_19 rfl dX12_longest_92 rfl ?_
        refine j_iload_n (pc' := 96) hC 1 dX12_longest_95 rfl rfl rfl ?_
        refine j_iload (pc' := 98) hC 2 dX12_longest_96 rfl rfl ?_
        refine j_iast (pc' := 99) hC (M_at_4 d _) (M_sa_4 d _ _) dX12_longest_98 rfl ?_
        refine j_st (fun σ4 => ?_)
        refine j_iload (pc' := 101) hC 3 dX12_longest_99 rfl rfl ?_
        exact j_ret_i hC dX12_longest_101
      · refine j_lv (lv' := [(0, .ref (d.2.1 0)), (1, .int p1), (2, .int p2), (3, .int y3), (4, .int (σ.1 4 (y3).toNatClampNeg)), (5, .int (0 : Int32)), (6, .int (-1 : Int32)), (7, .int (0 : Int32))]) [5, 6, 7, 4, 3, 2, 1, 0] rfl ?_
        refine j_loop 42 (fun a => a.1) (fun a => [(0, .ref (d.2.1 0)), (1, .int p1), (2, .int p2), (3, .int y3), (4, .int (σ.1 4 (y3).toNatClampNeg)), (5, .int a.2.1), (6, .int a.2.2.1), (7, .int a.2.2.2)]) (fun s42 hs42 a => ?_) jN (σ, (0 : Int32), (-1 : Int32), (0 : Int32))
        unfold fX12_longest_B42
        refine j_iload (pc' := 44) hC 7 dX12_longest_42 rfl rfl ?_
        refine j_bipush (pc' := 46) (v := (9 : Int32)) hC dX12_longest_44 (by decide) rfl ?_
        refine j_icmp_gt (pc' := 49) (tgt := 91) hC dX12_longest_46 (by decide) rfl ?_ ?_
        · exact j_lv (lv' := [(0, .ref (d.2.1 0)), (3, .int y3), (4, .int (σ.1 4 (y3).toNatClampNeg)), (5, .int a.2.1)]) [0, 3, 4, 5] rfl (hj91 (a.1, a.2.1))
        · refine j_aload_n (pc' := 50) hC 0 dX12_longest_49 rfl rfl rfl ?_
          refine j_get (pc' := 53) hC ly_X12 (M_at_0 d _) rfl 5 (by decide) fl_X12_19 rfl dX12_longest_50 rfl ?_
          refine j_iload_n (pc' := 54) hC 3 dX12_longest_53 rfl rfl rfl ?_
          refine j_iload (pc' := 56) hC 7 dX12_longest_54 rfl rfl ?_
          refine j_iast (pc' := 57) hC (M_at_4 d _) (M_sa_4 d _ _) dX12_longest_56 rfl ?_
          refine j_st (fun σ5 => ?_)
          refine j_aload_n (pc' := 58) hC 0 dX12_longest_57 rfl rfl rfl ?_
          refine j_iload_n (pc' := 59) hC 1 dX12_longest_58 rfl rfl rfl ?_
          refine j_iload_n (pc' := 60) hC 2 dX12_longest_59 rfl rfl rfl ?_
          refine j_callV_v (pc' := 63) (As := [.int p1, .int p2]) (st := []) hC (M_at_0 d _) rfl (kX12_turnOf l d A _ _ _) (jgV ml_X12_288 im_X12_turnOf se_X12_turnOf in_X12 cd_X12_turnOf) rfl rfl rfl hyV_X12_turnOf ⟨Nat.le_of_ble_eq_true rfl, Nat.le_of_ble_eq_true rfl⟩ rfl rfl (Nat.le_of_ble_eq_true rfl) dX12_longest_60 rfl (fun q6 => ?_)
          refine j_aload_n (pc' := 64) hC 0 dX12_longest_63 rfl rfl rfl ?_
          refine j_get (pc' := 67) hC ly_X12 (M_at_0 d _) rfl 35 (by decide) fl_X12_260 rfl dX12_longest_64 rfl ?_
          refine j_iload (pc' := 69) hC 6 dX12_longest_67 rfl rfl ?_
          refine j_let 85 (fun a85 => q6) (fun a85 => [(0, .ref (d.2.1 0)), (1, .int p1), (2, .int p2), (3, .int y3), (4, .int (σ.1 4 (y3).toNatClampNeg)), (5, .int a85.1), (6, .int a85.2), (7, .int a.2.2.2)]) (fun a85 => []) (fun a85 => ?_) (fun j85 hj85 => ?_)
          · refine j_iinc (pc' := 88) (v := (a.2.2.2 + (1 : Int32))) (lv' := [(7, .int (a.2.2.2 + (1 : Int32))), (0, .ref (d.2.1 0)), (1, .int p1), (2, .int p2), (3, .int y3), (4, .int (σ.1 4 (y3).toNatClampNeg)), (5, .int a85.1), (6, .int a85.2)]) hC 7 dX12_longest_85 rfl (by decide) rfl rfl rfl ?_
            refine j_goto (tgt := 42) hC dX12_longest_88 (by decide) ?_
            exact j_lv (lv' := [(0, .ref (d.2.1 0)), (1, .int p1), (2, .int p2), (3, .int y3), (4, .int (σ.1 4 (y3).toNatClampNeg)), (5, .int a85.1), (6, .int a85.2), (7, .int (a.2.2.2 + (1 : Int32)))]) [1, 2, 3, 4, 5, 6, 7, 0] rfl (hs42 (q6, a85.1, a85.2, (a.2.2.2 + (1 : Int32))))
          · refine j_icmp_gt (pc' := 72) (tgt := 75) hC dX12_longest_69 (by decide) rfl ?_ ?_
            · refine j_aload_n (pc' := 76) hC 0 dX12_longest_75 rfl rfl rfl ?_
              refine j_get (pc' := 79) hC ly_X12 (M_at_0 d _) rfl 35 (by decide) fl_X12_260 rfl dX12_longest_76 rfl ?_
              refine j_istore (pc' := 81) (lv' := [(6, .int (q6.1 0 35)), (0, .ref (d.2.1 0)), (1, .int p1), (2, .int p2), (3, .int y3), (4, .int (σ.1 4 (y3).toNatClampNeg)), (5, .int a.2.1), (7, .int a.2.2.2)]) hC dX12_longest_79 (by decide) rfl rfl ?_
              refine j_iload (pc' := 83) hC 7 dX12_longest_81 rfl rfl ?_
              refine j_istore (pc' := 85) (lv' := [(5, .int a.2.2.2), (6, .int (q6.1 0 35)), (0, .ref (d.2.1 0)), (1, .int p1), (2, .int p2), (3, .int y3), (4, .int (σ.1 4 (y3).toNatClampNeg)), (7, .int a.2.2.2)]) hC dX12_longest_83 (by decide) rfl rfl ?_
              exact j_lv (lv' := [(0, .ref (d.2.1 0)), (1, .int p1), (2, .int p2), (3, .int y3), (4, .int (σ.1 4 (y3).toNatClampNeg)), (5, .int a.2.2.2), (6, .int (q6.1 0 35)), (7, .int a.2.2.2)]) [2, 3, 4, 5, 6, 0, 1, 7] rfl (hj85 (a.2.2.2, (q6.1 0 35)))
            · refine j_goto (tgt := 85) hC dX12_longest_72 (by decide) ?_
              exact j_lv (lv' := [(0, .ref (d.2.1 0)), (1, .int p1), (2, .int p2), (3, .int y3), (4, .int (σ.1 4 (y3).toNatClampNeg)), (5, .int a.2.1), (6, .int a.2.2.1), (7, .int a.2.2.2)]) [0, 1, 2, 3, 4, 5, 6, 7] rfl (hj85 (a.2.1, a.2.2.1))
    · refine j_iconst (pc' := 16) (v := (-1 : Int32)) hC dX12_longest_15 (by decide) rfl ?_
      exact j_ret_i hC dX12_longest_16
theorem hyV_X12_counter : yX12_counter.cls = RX12 ∧ yX12_counter.cls ≠ "java/lang/invoke/MethodHandle" ∧ yX12_counter.cls ≠ "java/lang/invoke/VarHandle" ∧ (parseMethodDescriptor yX12_counter.desc).map (fun d => d.parameters.length) = some 2 := ⟨rfl, by decide +kernel, by decide +kernel, by decide +kernel⟩
noncomputable def fX12_counter_B25 (p1 : Int32) (p2 : Int32) (s25 : jS × Int32 × Int32 × Int32 → Option (Int32 × jS)) (a : jS × Int32 × Int32 × Int32) : Option (Int32 × jS) :=
  (if (9 : Int32) < a.2.2.2 then (some (a.2.1, a.1)) else (jlet (fun (a102 : jS × Int32 × Int32) => (s25 (a102.1, a102.2.1, a102.2.2, (a.2.2.2 + (1 : Int32))))) fun (j102 : (jS × Int32 × Int32 → Option (Int32 × jS))) => (jlet (fun (a48 : Unit) => (if a.2.2.2 = ((p1 / (10 : Int32)) - (p1 / (10 : Int32)) / (10 : Int32) * (10 : Int32)) then (j102 (a.1, a.2.1, a.2.2.1)) else (Option.bind (fX12_goTurn a.1 (p1 / (100 : Int32)) ((p1 / (10 : Int32)) - (p1 / (10 : Int32)) / (10 : Int32) * (10 : Int32)) a.2.2.2 p2) fun (q3 : jS) => (if a.2.2.1 < (q3.1 0 35) then (j102 (q3, a.2.2.2, (q3.1 0 35))) else (j102 (q3, a.2.1, a.2.2.1)))))) fun (j48 : (Unit → Option (Int32 × jS))) => (if a.2.2.2 = (9 : Int32) then (j48 ()) else (Option.bind (fX12_isChild a.1 a.2.2.2) fun (q4 : Int32) => (if (jb q4) = 0 then (j102 (a.1, a.2.1, a.2.2.1)) else (j48 ())))))))
noncomputable def fX12_counter (σ : jS) (p1 : Int32) (p2 : Int32) : Option (Int32 × jS) :=
  (Option.bind (fX12_areThree σ p1) fun (q1 : Int32) => (if (jb q1) = 0 then (some ((-1 : Int32), σ)) else (Option.bind (fX12_areWaiting σ p2) fun (q2 : Int32) => (if (jb q2) = 0 then (some ((-1 : Int32), σ)) else (jloop (fX12_counter_B25 p1 p2) jN (σ, (-1 : Int32), (-1 : Int32), (0 : Int32)))))))
set_option maxRecDepth 100000 in
set_option maxHeartbeats 4000000 in
theorem kX12_counter (l : Launch) (d : jD) (A : Nat → Prop) (σ : jS) (p1 : Int32) (p2 : Int32) : jMi l yX12_counter (jws yX12_counter cX12_counter 6 (some (.int))) { frames := 7, cells := 0, slots := 0, locals := 252 } d wM A [.ref (d.2.1 0), .int p1, .int p2] σ (fX12_counter σ p1 p2) := by
  refine jStart_i (lv0 := [(0, .ref (d.2.1 0)), (1, .int p1), (2, .int p2)]) (by decide) rfl (Nat.le_of_ble_eq_true rfl) rfl (fun z hC res => ?_)
  unfold fX12_counter
  refine j_aload_n (pc' := 1) hC 0 dX12_counter_0 rfl rfl rfl ?_
  refine j_iload_n (pc' := 2) hC 1 dX12_counter_1 rfl rfl rfl ?_
  refine j_callV_zr (pc' := 5) (As := [.int p1]) (st := []) hC (M_at_0 d _) rfl (kX12_areThree l d A _ _) (jgV ml_X12_282 im_X12_areThree se_X12_areThree in_X12 cd_X12_areThree) rfl rfl rfl hyV_X12_areThree ⟨Nat.le_of_ble_eq_true rfl, Nat.le_of_ble_eq_true rfl⟩ rfl rfl (Nat.le_of_ble_eq_true rfl) dX12_counter_2 rfl (fun q1 => ?_)
  refine j_if_eq (pc' := 8) (tgt := 15) hC dX12_counter_5 (by decide) rfl ?_ ?_
  · refine j_iconst (pc' := 16) (v := (-1 : Int32)) hC dX12_counter_15 (by decide) rfl ?_
    exact j_ret_i hC dX12_counter_16
  · refine j_iload_n (pc' := 9) hC 2 dX12_counter_8 rfl rfl rfl ?_
    refine j_callS_zr (pc' := 12) (As := [.int p2]) (st := []) hC (kX12_areWaiting l d A _ _) (jgS ml_X12_285 st_X12_areWaiting in_X12 cd_X12_areWaiting) rfl rfl rfl hyS_X12_areWaiting ⟨Nat.le_of_ble_eq_true rfl, Nat.le_of_ble_eq_true rfl⟩ rfl rfl (Nat.le_of_ble_eq_true rfl) dX12_counter_9 rfl (fun q2 => ?_)
    refine j_if_ne (pc' := 15) (tgt := 17) hC dX12_counter_12 (by decide) rfl ?_ ?_
    · refine j_iconst (pc' := 18) (v := (-1 : Int32)) hC dX12_counter_17 (by decide) rfl ?_
      refine j_istore_n (pc' := 19) (lv' := [(3, .int (-1 : Int32)), (0, .ref (d.2.1 0)), (1, .int p1), (2, .int p2)]) hC dX12_counter_18 rfl (by decide) rfl rfl ?_
      refine j_iconst (pc' := 20) (v := (-1 : Int32)) hC dX12_counter_19 (by decide) rfl ?_
      refine j_istore (pc' := 22) (lv' := [(4, .int (-1 : Int32)), (3, .int (-1 : Int32)), (0, .ref (d.2.1 0)), (1, .int p1), (2, .int p2)]) hC dX12_counter_20 (by decide) rfl rfl ?_
      refine j_iconst (pc' := 23) (v := (0 : Int32)) hC dX12_counter_22 (by decide) rfl ?_
      refine j_istore (pc' := 25) (lv' := [(5, .int (0 : Int32)), (4, .int (-1 : Int32)), (3, .int (-1 : Int32)), (0, .ref (d.2.1 0)), (1, .int p1), (2, .int p2)]) hC dX12_counter_23 (by decide) rfl rfl ?_
      refine j_lv (lv' := [(0, .ref (d.2.1 0)), (1, .int p1), (2, .int p2), (3, .int (-1 : Int32)), (4, .int (-1 : Int32)), (5, .int (0 : Int32))]) [3, 4, 5, 2, 1, 0] rfl ?_
      refine j_loop 25 (fun a => a.1) (fun a => [(0, .ref (d.2.1 0)), (1, .int p1), (2, .int p2), (3, .int a.2.1), (4, .int a.2.2.1), (5, .int a.2.2.2)]) (fun s25 hs25 a => ?_) jN (σ, (-1 : Int32), (-1 : Int32), (0 : Int32))
      unfold fX12_counter_B25
      refine j_iload (pc' := 27) hC 5 dX12_counter_25 rfl rfl ?_
      refine j_bipush (pc' := 29) (v := (9 : Int32)) hC dX12_counter_27 (by decide) rfl ?_
      refine j_icmp_gt (pc' := 32) (tgt := 108) hC dX12_counter_29 (by decide) rfl ?_ ?_
      · refine j_iload_n (pc' := 109) hC 3 dX12_counter_108 rfl rfl rfl ?_
        exact j_ret_i hC dX12_counter_109
      · refine j_iload (pc' := 34) hC 5 dX12_counter_32 rfl rfl ?_
        refine j_bipush (pc' := 36) (v := (9 : Int32)) hC dX12_counter_34 (by decide) rfl ?_
        refine j_let 102 (fun a102 => a102.1) (fun a102 => [(0, .ref (d.2.1 0)), (1, .int p1), (2, .int p2), (3, .int a102.2.1), (4, .int a102.2.2), (5, .int a.2.2.2)]) (fun a102 => []) (fun a102 => ?_) (fun j102 hj102 => ?_)
        · refine j_iinc (pc' := 105) (v := (a.2.2.2 + (1 : Int32))) (lv' := [(5, .int (a.2.2.2 + (1 : Int32))), (0, .ref (d.2.1 0)), (1, .int p1), (2, .int p2), (3, .int a102.2.1), (4, .int a102.2.2)]) hC 5 dX12_counter_102 rfl (by decide) rfl rfl rfl ?_
          refine j_goto (tgt := 25) hC dX12_counter_105 (by decide) ?_
          exact j_lv (lv' := [(0, .ref (d.2.1 0)), (1, .int p1), (2, .int p2), (3, .int a102.2.1), (4, .int a102.2.2), (5, .int (a.2.2.2 + (1 : Int32)))]) [1, 2, 3, 4, 5, 0] rfl (hs25 (a102.1, a102.2.1, a102.2.2, (a.2.2.2 + (1 : Int32))))
        · refine j_let 48 (fun a48 => a.1) (fun a48 => [(0, .ref (d.2.1 0)), (1, .int p1), (2, .int p2), (3, .int a.2.1), (4, .int a.2.2.1), (5, .int a.2.2.2)]) (fun a48 => []) (fun a48 => ?_) (fun j48 hj48 => ?_)
          · refine j_iload (pc' := 50) hC 5 dX12_counter_48 rfl rfl ?_
            refine j_iload_n (pc' := 51) hC 1 dX12_counter_50 rfl rfl rfl ?_
            refine j_bipush (pc' := 53) (v := (10 : Int32)) hC dX12_counter_51 (by decide) rfl ?_
            refine j_idiv0 (pc' := 54) hC dX12_counter_53 (by decide) rfl ?_
            refine j_bipush (pc' := 56) (v := (10 : Int32)) hC dX12_counter_54 (by decide) rfl ?_
            refine j_irem0 (pc' := 57) hC dX12_counter_56 (by decide) rfl ?_
            refine j_icmp_ne (pc' := 60) (tgt := 63) hC dX12_counter_57 (by decide) rfl ?_ ?_
            · refine j_aload_n (pc' := 64) hC 0 dX12_counter_63 rfl rfl rfl ?_
              refine j_iload_n (pc' := 65) hC 1 dX12_counter_64 rfl rfl rfl ?_
              refine j_bipush (pc' := 67) (v := (100 : Int32)) hC dX12_counter_65 (by decide) rfl ?_
              refine j_idiv0 (pc' := 68) hC dX12_counter_67 (by decide) rfl ?_
              refine j_iload_n (pc' := 69) hC 1 dX12_counter_68 rfl rfl rfl ?_
              refine j_bipush (pc' := 71) (v := (10 : Int32)) hC dX12_counter_69 (by decide) rfl ?_
              refine j_idiv0 (pc' := 72) hC dX12_counter_71 (by decide) rfl ?_
              refine j_bipush (pc' := 74) (v := (10 : Int32)) hC dX12_counter_72 (by decide) rfl ?_
              refine j_irem0 (pc' := 75) hC dX12_counter_74 (by decide) rfl ?_
              refine j_iload (pc' := 77) hC 5 dX12_counter_75 rfl rfl ?_
              refine j_iload_n (pc' := 78) hC 2 dX12_counter_77 rfl rfl rfl ?_
              refine j_callV_v (pc' := 81) (As := [.int (p1 / (100 : Int32)), .int ((p1 / (10 : Int32)) - (p1 / (10 : Int32)) / (10 : Int32) * (10 : Int32)), .int a.2.2.2, .int p2]) (st := []) hC (M_at_0 d _) rfl (kX12_goTurn l d A _ _ _ _ _) (jgV ml_X12_278 im_X12_goTurn se_X12_goTurn in_X12 cd_X12_goTurn) rfl rfl rfl hyV_X12_goTurn ⟨Nat.le_of_ble_eq_true rfl, Nat.le_of_ble_eq_true rfl⟩ rfl rfl (Nat.le_of_ble_eq_true rfl) dX12_counter_78 rfl (fun q3 => ?_)
              refine j_aload_n (pc' := 82) hC 0 dX12_counter_81 rfl rfl rfl ?_
              refine j_get (pc' := 85) hC ly_X12 (M_at_0 d _) rfl 35 (by decide) fl_X12_260 rfl dX12_counter_82 rfl ?_
              refine j_iload (pc' := 87) hC 4 dX12_counter_85 rfl rfl ?_
              refine j_icmp_gt (pc' := 90) (tgt := 93) hC dX12_counter_87 (by decide) rfl ?_ ?_
              · refine j_aload_n (pc' := 94) hC 0 dX12_counter_93 rfl rfl rfl ?_
                refine j_get (pc' := 97) hC ly_X12 (M_at_0 d _) rfl 35 (by decide) fl_X12_260 rfl dX12_counter_94 rfl ?_
                refine j_istore (pc' := 99) (lv' := [(4, .int (q3.1 0 35)), (0, .ref (d.2.1 0)), (1, .int p1), (2, .int p2), (3, .int a.2.1), (5, .int a.2.2.2)]) hC dX12_counter_97 (by decide) rfl rfl ?_
                refine j_iload (pc' := 101) hC 5 dX12_counter_99 rfl rfl ?_
                refine j_istore_n (pc' := 102) (lv' := [(3, .int a.2.2.2), (4, .int (q3.1 0 35)), (0, .ref (d.2.1 0)), (1, .int p1), (2, .int p2), (5, .int a.2.2.2)]) hC dX12_counter_101 rfl (by decide) rfl rfl ?_
                exact j_lv (lv' := [(0, .ref (d.2.1 0)), (1, .int p1), (2, .int p2), (3, .int a.2.2.2), (4, .int (q3.1 0 35)), (5, .int a.2.2.2)]) [2, 3, 4, 0, 1, 5] rfl (hj102 (q3, a.2.2.2, (q3.1 0 35)))
              · refine j_goto (tgt := 102) hC dX12_counter_90 (by decide) ?_
                exact j_lv (lv' := [(0, .ref (d.2.1 0)), (1, .int p1), (2, .int p2), (3, .int a.2.1), (4, .int a.2.2.1), (5, .int a.2.2.2)]) [0, 1, 2, 3, 4, 5] rfl (hj102 (q3, a.2.1, a.2.2.1))
            · refine j_goto (tgt := 102) hC dX12_counter_60 (by decide) ?_
              exact j_lv (lv' := [(0, .ref (d.2.1 0)), (1, .int p1), (2, .int p2), (3, .int a.2.1), (4, .int a.2.2.1), (5, .int a.2.2.2)]) [0, 1, 2, 3, 4, 5] rfl (hj102 (a.1, a.2.1, a.2.2.1))
          · refine j_icmp_eq (pc' := 39) (tgt := 48) hC dX12_counter_36 (by decide) rfl ?_ ?_
            · exact j_lv (lv' := [(0, .ref (d.2.1 0)), (1, .int p1), (2, .int p2), (3, .int a.2.1), (4, .int a.2.2.1), (5, .int a.2.2.2)]) [0, 1, 2, 3, 4, 5] rfl (hj48 ())
            · refine j_aload_n (pc' := 40) hC 0 dX12_counter_39 rfl rfl rfl ?_
              refine j_iload (pc' := 42) hC 5 dX12_counter_40 rfl rfl ?_
              refine j_callV_zr (pc' := 45) (As := [.int a.2.2.2]) (st := []) hC (M_at_0 d _) rfl (kX12_isChild l d A _ _) (jgV ml_X12_162 im_X12_isChild se_X12_isChild in_X12 cd_X12_isChild) rfl rfl rfl hyV_X12_isChild ⟨Nat.le_of_ble_eq_true rfl, Nat.le_of_ble_eq_true rfl⟩ rfl rfl (Nat.le_of_ble_eq_true rfl) dX12_counter_42 rfl (fun q4 => ?_)
              refine j_if_eq (pc' := 48) (tgt := 102) hC dX12_counter_45 (by decide) rfl ?_ ?_
              · exact j_lv (lv' := [(0, .ref (d.2.1 0)), (1, .int p1), (2, .int p2), (3, .int a.2.1), (4, .int a.2.2.1), (5, .int a.2.2.2)]) [0, 1, 2, 3, 4, 5] rfl (hj102 (a.1, a.2.1, a.2.2.1))
              · exact j_lv (lv' := [(0, .ref (d.2.1 0)), (1, .int p1), (2, .int p2), (3, .int a.2.1), (4, .int a.2.2.1), (5, .int a.2.2.2)]) [0, 1, 2, 3, 4, 5] rfl (hj48 ())
    · refine j_iconst (pc' := 16) (v := (-1 : Int32)) hC dX12_counter_15 (by decide) rfl ?_
      exact j_ret_i hC dX12_counter_16
theorem hyV_X12_unfair : yX12_unfair.cls = RX12 ∧ yX12_unfair.cls ≠ "java/lang/invoke/MethodHandle" ∧ yX12_unfair.cls ≠ "java/lang/invoke/VarHandle" ∧ (parseMethodDescriptor yX12_unfair.desc).map (fun d => d.parameters.length) = some 2 := ⟨rfl, by decide +kernel, by decide +kernel, by decide +kernel⟩
noncomputable def fX12_unfair (σ : jS) (p1 : Int32) (p2 : Int32) : Option (Int32 × jS) :=
  (Option.bind (fX12_areThree σ p1) fun (q1 : Int32) => (if (jb q1) = 0 then (some ((-2000000000 : Int32), σ)) else (Option.bind (fX12_areWaiting σ p2) fun (q2 : Int32) => (if (jb q2) = 0 then (some ((-2000000000 : Int32), σ)) else (Option.bind (fX12_turnOf σ p1 p2) fun (q3 : jS) => (some (((q3.1 0 34) - (q3.1 0 10)), q3)))))))
set_option maxRecDepth 100000 in
set_option maxHeartbeats 4000000 in
theorem kX12_unfair (l : Launch) (d : jD) (A : Nat → Prop) (σ : jS) (p1 : Int32) (p2 : Int32) : jMi l yX12_unfair (jws yX12_unfair cX12_unfair 3 (some (.int))) { frames := 8, cells := 0, slots := 0, locals := 274 } d wM A [.ref (d.2.1 0), .int p1, .int p2] σ (fX12_unfair σ p1 p2) := by
  refine jStart_i (lv0 := [(0, .ref (d.2.1 0)), (1, .int p1), (2, .int p2)]) (by decide) rfl (Nat.le_of_ble_eq_true rfl) rfl (fun z hC res => ?_)
  unfold fX12_unfair
  refine j_aload_n (pc' := 1) hC 0 dX12_unfair_0 rfl rfl rfl ?_
  refine j_iload_n (pc' := 2) hC 1 dX12_unfair_1 rfl rfl rfl ?_
  refine j_callV_zr (pc' := 5) (As := [.int p1]) (st := []) hC (M_at_0 d _) rfl (kX12_areThree l d A _ _) (jgV ml_X12_282 im_X12_areThree se_X12_areThree in_X12 cd_X12_areThree) rfl rfl rfl hyV_X12_areThree ⟨Nat.le_of_ble_eq_true rfl, Nat.le_of_ble_eq_true rfl⟩ rfl rfl (Nat.le_of_ble_eq_true rfl) dX12_unfair_2 rfl (fun q1 => ?_)
  refine j_if_eq (pc' := 8) (tgt := 15) hC dX12_unfair_5 (by decide) rfl ?_ ?_
  · refine j_ldcw (pc' := 18) (v := (-2000000000 : Int32)) hC dX12_unfair_15 ct_X12_291 rfl ?_
    exact j_ret_i hC dX12_unfair_18
  · refine j_iload_n (pc' := 9) hC 2 dX12_unfair_8 rfl rfl rfl ?_
    refine j_callS_zr (pc' := 12) (As := [.int p2]) (st := []) hC (kX12_areWaiting l d A _ _) (jgS ml_X12_285 st_X12_areWaiting in_X12 cd_X12_areWaiting) rfl rfl rfl hyS_X12_areWaiting ⟨Nat.le_of_ble_eq_true rfl, Nat.le_of_ble_eq_true rfl⟩ rfl rfl (Nat.le_of_ble_eq_true rfl) dX12_unfair_9 rfl (fun q2 => ?_)
    refine j_if_ne (pc' := 15) (tgt := 19) hC dX12_unfair_12 (by decide) rfl ?_ ?_
    · refine j_aload_n (pc' := 20) hC 0 dX12_unfair_19 rfl rfl rfl ?_
      refine j_iload_n (pc' := 21) hC 1 dX12_unfair_20 rfl rfl rfl ?_
      refine j_iload_n (pc' := 22) hC 2 dX12_unfair_21 rfl rfl rfl ?_
      refine j_callV_v (pc' := 25) (As := [.int p1, .int p2]) (st := []) hC (M_at_0 d _) rfl (kX12_turnOf l d A _ _ _) (jgV ml_X12_288 im_X12_turnOf se_X12_turnOf in_X12 cd_X12_turnOf) rfl rfl rfl hyV_X12_turnOf ⟨Nat.le_of_ble_eq_true rfl, Nat.le_of_ble_eq_true rfl⟩ rfl rfl (Nat.le_of_ble_eq_true rfl) dX12_unfair_22 rfl (fun q3 => ?_)
      refine j_aload_n (pc' := 26) hC 0 dX12_unfair_25 rfl rfl rfl ?_
      refine j_get (pc' := 29) hC ly_X12 (M_at_0 d _) rfl 34 (by decide) fl_X12_254 rfl dX12_unfair_26 rfl ?_
      refine j_aload_n (pc' := 30) hC 0 dX12_unfair_29 rfl rfl rfl ?_
      refine j_get (pc' := 33) hC ly_X12 (M_at_0 d _) rfl 10 (by decide) fl_X12_35 rfl dX12_unfair_30 rfl ?_
      refine j_isub (pc' := 34) hC dX12_unfair_33 rfl ?_
      exact j_ret_i hC dX12_unfair_34
    · refine j_ldcw (pc' := 18) (v := (-2000000000 : Int32)) hC dX12_unfair_15 ct_X12_291 rfl ?_
      exact j_ret_i hC dX12_unfair_18
theorem hyV_X12_layLine : yX12_layLine.cls = RX12 ∧ yX12_layLine.cls ≠ "java/lang/invoke/MethodHandle" ∧ yX12_layLine.cls ≠ "java/lang/invoke/VarHandle" ∧ (parseMethodDescriptor yX12_layLine.desc).map (fun d => d.parameters.length) = some 1 := ⟨rfl, by decide +kernel, by decide +kernel, by decide +kernel⟩
noncomputable def fX12_layLine_B7 (p1 : Int32) (s7 : jS × Int32 → Option (jS)) (a : jS × Int32) : Option (jS) :=
  (if (a.1.1 0 2) ≤ a.2 then (some a.1) else (ob a.2 9 (jlet (fun (a48 : jS) => (s7 (a48, (a.2 + (1 : Int32))))) fun (j48 : (jS → Option (jS))) => (if (a.1.1 7 (a.2).toNatClampNeg) = p1 then (ob (a.1.1 0 42) 9 (jst (ju a.1 24 ((a.1.1 0 42)).toNatClampNeg a.2) fun (σ2 : jS) => (jst (ju σ2 0 42 ((σ2.1 0 42) + (1 : Int32))) fun (σ3 : jS) => (j48 σ3)))) else (j48 a.1)))))
noncomputable def fX12_layLine (σ : jS) (p1 : Int32) : Option (jS) :=
  (jst (ju σ 0 42 (0 : Int32)) fun (σ1 : jS) => (jloop (fX12_layLine_B7 p1) jN (σ1, (0 : Int32))))
set_option maxRecDepth 100000 in
set_option maxHeartbeats 4000000 in
theorem kX12_layLine (l : Launch) (d : jD) (A : Nat → Prop) (σ : jS) (p1 : Int32) : jMv l yX12_layLine (jws yX12_layLine cX12_layLine 3 none) { frames := 2, cells := 0, slots := 0, locals := 130 } d wM A [.ref (d.2.1 0), .int p1] σ (fX12_layLine σ p1) := by
  refine jStart_v (lv0 := [(0, .ref (d.2.1 0)), (1, .int p1)]) (by decide) rfl (Nat.le_of_ble_eq_true rfl) rfl (fun z hC res => ?_)
  unfold fX12_layLine
  refine j_aload_n (pc' := 1) hC 0 dX12_layLine_0 rfl rfl rfl ?_
  refine j_iconst (pc' := 2) (v := (0 : Int32)) hC dX12_layLine_1 (by decide) rfl ?_
  refine j_put (pc' := 5) hC ly_X12 tyX12 tyX12_ok nmX12 (M_at_0 d _) rfl 42 (by decide) fl_X12_292 rfl rfl rfl rfl (Nat.le_of_ble_eq_true rfl) (M_sf_0_42 d _ _) dX12_layLine_2 rfl ?_
  refine j_st (fun σ1 => ?_)
  refine j_iconst (pc' := 6) (v := (0 : Int32)) hC dX12_layLine_5 (by decide) rfl ?_
  refine j_istore_n (pc' := 7) (lv' := [(2, .int (0 : Int32)), (0, .ref (d.2.1 0)), (1, .int p1)]) hC dX12_layLine_6 rfl (by decide) rfl rfl ?_
  refine j_lv (lv' := [(0, .ref (d.2.1 0)), (1, .int p1), (2, .int (0 : Int32))]) [1, 2, 0] rfl ?_
  refine j_loop 7 (fun a => a.1) (fun a => [(0, .ref (d.2.1 0)), (1, .int p1), (2, .int a.2)]) (fun s7 hs7 a => ?_) jN (σ1, (0 : Int32))
  unfold fX12_layLine_B7
  refine j_iload_n (pc' := 8) hC 2 dX12_layLine_7 rfl rfl rfl ?_
  refine j_aload_n (pc' := 9) hC 0 dX12_layLine_8 rfl rfl rfl ?_
  refine j_get (pc' := 12) hC ly_X12 (M_at_0 d _) rfl 2 (by decide) fl_X12_125 rfl dX12_layLine_9 rfl ?_
  refine j_icmp_ge (pc' := 15) (tgt := 54) hC dX12_layLine_12 (by decide) rfl ?_ ?_
  · exact j_ret_v hC dX12_layLine_54
  · refine j_aload_n (pc' := 16) hC 0 dX12_layLine_15 rfl rfl rfl ?_
    refine j_get (pc' := 19) hC ly_X12 (M_at_0 d _) rfl 8 (by decide) fl_X12_28 rfl dX12_layLine_16 rfl ?_
    refine j_iload_n (pc' := 20) hC 2 dX12_layLine_19 rfl rfl rfl ?_
    refine j_iald (pc' := 21) hC (M_at_7 d _) dX12_layLine_20 rfl ?_
    refine j_iload_n (pc' := 22) hC 1 dX12_layLine_21 rfl rfl rfl ?_
    refine j_let 48 (fun a48 => a48) (fun a48 => [(0, .ref (d.2.1 0)), (1, .int p1), (2, .int a.2)]) (fun a48 => []) (fun a48 => ?_) (fun j48 hj48 => ?_)
    · refine j_iinc (pc' := 51) (v := (a.2 + (1 : Int32))) (lv' := [(2, .int (a.2 + (1 : Int32))), (0, .ref (d.2.1 0)), (1, .int p1)]) hC 2 dX12_layLine_48 rfl (by decide) rfl rfl rfl ?_
      refine j_goto (tgt := 7) hC dX12_layLine_51 (by decide) ?_
      exact j_lv (lv' := [(0, .ref (d.2.1 0)), (1, .int p1), (2, .int (a.2 + (1 : Int32)))]) [1, 2, 0] rfl (hs7 (a48, (a.2 + (1 : Int32))))
    · refine j_icmp_eq (pc' := 25) (tgt := 28) hC dX12_layLine_22 (by decide) rfl ?_ ?_
      · refine j_aload_n (pc' := 29) hC 0 dX12_layLine_28 rfl rfl rfl ?_
        refine j_get (pc' := 32) hC ly_X12 (M_at_0 d _) rfl 41 (by decide) fl_X12_88 rfl dX12_layLine_29 rfl ?_
        refine j_aload_n (pc' := 33) hC 0 dX12_layLine_32 rfl rfl rfl ?_
        refine j_get (pc' := 36) hC ly_X12 (M_at_0 d _) rfl 42 (by decide) fl_X12_292 rfl dX12_layLine_33 rfl ?_
        refine j_iload_n (pc' := 37) hC 2 dX12_layLine_36 rfl rfl rfl ?_
        refine j_iast (pc' := 38) hC (M_at_24 d _) (M_sa_24 d _ _) dX12_layLine_37 rfl ?_
        refine j_st (fun σ2 => ?_)
        refine j_aload_n (pc' := 39) hC 0 dX12_layLine_38 rfl rfl rfl ?_
        refine j_dup (pc' := 40) hC rfl dX12_layLine_39 rfl ?_
        refine j_get (pc' := 43) hC ly_X12 (M_at_0 d _) rfl 42 (by decide) fl_X12_292 rfl dX12_layLine_40 rfl ?_
        refine j_iconst (pc' := 44) (v := (1 : Int32)) hC dX12_layLine_43 (by decide) rfl ?_
        refine j_iadd (pc' := 45) hC dX12_layLine_44 rfl ?_
        refine j_put (pc' := 48) hC ly_X12 tyX12 tyX12_ok nmX12 (M_at_0 d _) rfl 42 (by decide) fl_X12_292 rfl rfl rfl rfl (Nat.le_of_ble_eq_true rfl) (M_sf_0_42 d _ _) dX12_layLine_45 rfl ?_
        refine j_st (fun σ3 => ?_)
        exact j_lv (lv' := [(0, .ref (d.2.1 0)), (1, .int p1), (2, .int a.2)]) [0, 1, 2] rfl (hj48 σ3)
      · refine j_goto (tgt := 48) hC dX12_layLine_25 (by decide) ?_
        exact j_lv (lv' := [(0, .ref (d.2.1 0)), (1, .int p1), (2, .int a.2)]) [0, 1, 2] rfl (hj48 a.1)
theorem hyV_X12_beginAfternoon : yX12_beginAfternoon.cls = RX12 ∧ yX12_beginAfternoon.cls ≠ "java/lang/invoke/MethodHandle" ∧ yX12_beginAfternoon.cls ≠ "java/lang/invoke/VarHandle" ∧ (parseMethodDescriptor yX12_beginAfternoon.desc).map (fun d => d.parameters.length) = some 0 := ⟨rfl, by decide +kernel, by decide +kernel, by decide +kernel⟩
noncomputable def fX12_beginAfternoon_B38 (s38 : jS × Int32 → Option (jS)) (a : jS × Int32) : Option (jS) :=
  (if (3 : Int32) ≤ a.2 then (some a.1) else (ob a.2 3 (jst (ju a.1 23 (a.2).toNatClampNeg (0 : Int32)) fun (σ1 : jS) => (s38 (σ1, (a.2 + (1 : Int32)))))))
noncomputable def fX12_beginAfternoon_B2 (j36 : (jS → Option (jS))) (s2 : jS × Int32 → Option (jS)) (a : jS × Int32) : Option (jS) :=
  (if (9 : Int32) ≤ a.2 then (j36 a.1) else (ob a.2 9 (jst (ju a.1 20 (a.2).toNatClampNeg (0 : Int32)) fun (σ2 : jS) => (ob a.2 9 (jst (ju σ2 21 (a.2).toNatClampNeg (-2 : Int32)) fun (σ3 : jS) => (ob a.2 9 (jst (ju σ3 22 (a.2).toNatClampNeg (0 : Int32)) fun (σ4 : jS) => (s2 (σ4, (a.2 + (1 : Int32)))))))))))
noncomputable def fX12_beginAfternoon (σ : jS) : Option (jS) :=
  (jlet (fun (a36 : jS) => (jloop (fX12_beginAfternoon_B38) jN (a36, (0 : Int32)))) fun (j36 : (jS → Option (jS))) => (jloop (fX12_beginAfternoon_B2 j36) jN (σ, (0 : Int32))))
set_option maxRecDepth 100000 in
set_option maxHeartbeats 4000000 in
theorem kX12_beginAfternoon (l : Launch) (d : jD) (A : Nat → Prop) (σ : jS) : jMv l yX12_beginAfternoon (jws yX12_beginAfternoon cX12_beginAfternoon 2 none) { frames := 2, cells := 0, slots := 0, locals := 130 } d wM A [.ref (d.2.1 0)] σ (fX12_beginAfternoon σ) := by
  refine jStart_v (lv0 := [(0, .ref (d.2.1 0))]) (by decide) rfl (Nat.le_of_ble_eq_true rfl) rfl (fun z hC res => ?_)
  unfold fX12_beginAfternoon
  refine j_iconst (pc' := 1) (v := (0 : Int32)) hC dX12_beginAfternoon_0 (by decide) rfl ?_
  refine j_istore_n (pc' := 2) (lv' := [(1, .int (0 : Int32)), (0, .ref (d.2.1 0))]) hC dX12_beginAfternoon_1 rfl (by decide) rfl rfl ?_
  refine j_let 36 (fun a36 => a36) (fun a36 => [(0, .ref (d.2.1 0))]) (fun a36 => []) (fun a36 => ?_) (fun j36 hj36 => ?_)
  · refine j_iconst (pc' := 37) (v := (0 : Int32)) hC dX12_beginAfternoon_36 (by decide) rfl ?_
    refine j_istore_n (pc' := 38) (lv' := [(1, .int (0 : Int32)), (0, .ref (d.2.1 0))]) hC dX12_beginAfternoon_37 rfl (by decide) rfl rfl ?_
    refine j_lv (lv' := [(0, .ref (d.2.1 0)), (1, .int (0 : Int32))]) [1, 0] rfl ?_
    refine j_loop 38 (fun a => a.1) (fun a => [(0, .ref (d.2.1 0)), (1, .int a.2)]) (fun s38 hs38 a => ?_) jN (a36, (0 : Int32))
    unfold fX12_beginAfternoon_B38
    refine j_iload_n (pc' := 39) hC 1 dX12_beginAfternoon_38 rfl rfl rfl ?_
    refine j_iconst (pc' := 40) (v := (3 : Int32)) hC dX12_beginAfternoon_39 (by decide) rfl ?_
    refine j_icmp_ge (pc' := 43) (tgt := 56) hC dX12_beginAfternoon_40 (by decide) rfl ?_ ?_
    · exact j_ret_v hC dX12_beginAfternoon_56
    · refine j_aload_n (pc' := 44) hC 0 dX12_beginAfternoon_43 rfl rfl rfl ?_
      refine j_get (pc' := 47) hC ly_X12 (M_at_0 d _) rfl 40 (by decide) fl_X12_85 rfl dX12_beginAfternoon_44 rfl ?_
      refine j_iload_n (pc' := 48) hC 1 dX12_beginAfternoon_47 rfl rfl rfl ?_
      refine j_iconst (pc' := 49) (v := (0 : Int32)) hC dX12_beginAfternoon_48 (by decide) rfl ?_
      refine j_iast (pc' := 50) hC (M_at_23 d _) (M_sa_23 d _ _) dX12_beginAfternoon_49 rfl ?_
      refine j_st (fun σ1 => ?_)
      refine j_iinc (pc' := 53) (v := (a.2 + (1 : Int32))) (lv' := [(1, .int (a.2 + (1 : Int32))), (0, .ref (d.2.1 0))]) hC 1 dX12_beginAfternoon_50 rfl (by decide) rfl rfl rfl ?_
      refine j_goto (tgt := 38) hC dX12_beginAfternoon_53 (by decide) ?_
      exact j_lv (lv' := [(0, .ref (d.2.1 0)), (1, .int (a.2 + (1 : Int32)))]) [1, 0] rfl (hs38 (σ1, (a.2 + (1 : Int32))))
  · refine j_lv (lv' := [(0, .ref (d.2.1 0)), (1, .int (0 : Int32))]) [1, 0] rfl ?_
    refine j_loop 2 (fun a => a.1) (fun a => [(0, .ref (d.2.1 0)), (1, .int a.2)]) (fun s2 hs2 a => ?_) jN (σ, (0 : Int32))
    unfold fX12_beginAfternoon_B2
    refine j_iload_n (pc' := 3) hC 1 dX12_beginAfternoon_2 rfl rfl rfl ?_
    refine j_bipush (pc' := 5) (v := (9 : Int32)) hC dX12_beginAfternoon_3 (by decide) rfl ?_
    refine j_icmp_ge (pc' := 8) (tgt := 36) hC dX12_beginAfternoon_5 (by decide) rfl ?_ ?_
    · exact j_lv (lv' := [(0, .ref (d.2.1 0))]) [0] rfl (hj36 a.1)
    · refine j_aload_n (pc' := 9) hC 0 dX12_beginAfternoon_8 rfl rfl rfl ?_
      refine j_get (pc' := 12) hC ly_X12 (M_at_0 d _) rfl 37 (by decide) fl_X12_76 rfl dX12_beginAfternoon_9 rfl ?_
      refine j_iload_n (pc' := 13) hC 1 dX12_beginAfternoon_12 rfl rfl rfl ?_
      refine j_iconst (pc' := 14) (v := (0 : Int32)) hC dX12_beginAfternoon_13 (by decide) rfl ?_
      refine j_iast (pc' := 15) hC (M_at_20 d _) (M_sa_20 d _ _) dX12_beginAfternoon_14 rfl ?_
      refine j_st (fun σ2 => ?_)
      refine j_aload_n (pc' := 16) hC 0 dX12_beginAfternoon_15 rfl rfl rfl ?_
      refine j_get (pc' := 19) hC ly_X12 (M_at_0 d _) rfl 38 (by decide) fl_X12_79 rfl dX12_beginAfternoon_16 rfl ?_
      refine j_iload_n (pc' := 20) hC 1 dX12_beginAfternoon_19 rfl rfl rfl ?_
      refine j_bipush (pc' := 22) (v := (-2 : Int32)) hC dX12_beginAfternoon_20 (by decide) rfl ?_
      refine j_iast (pc' := 23) hC (M_at_21 d _) (M_sa_21 d _ _) dX12_beginAfternoon_22 rfl ?_
      refine j_st (fun σ3 => ?_)
      refine j_aload_n (pc' := 24) hC 0 dX12_beginAfternoon_23 rfl rfl rfl ?_
      refine j_get (pc' := 27) hC ly_X12 (M_at_0 d _) rfl 39 (by decide) fl_X12_82 rfl dX12_beginAfternoon_24 rfl ?_
      refine j_iload_n (pc' := 28) hC 1 dX12_beginAfternoon_27 rfl rfl rfl ?_
      refine j_iconst (pc' := 29) (v := (0 : Int32)) hC dX12_beginAfternoon_28 (by decide) rfl ?_
      refine j_iast (pc' := 30) hC (M_at_22 d _) (M_sa_22 d _ _) dX12_beginAfternoon_29 rfl ?_
      refine j_st (fun σ4 => ?_)
      refine j_iinc (pc' := 33) (v := (a.2 + (1 : Int32))) (lv' := [(1, .int (a.2 + (1 : Int32))), (0, .ref (d.2.1 0))]) hC 1 dX12_beginAfternoon_30 rfl (by decide) rfl rfl rfl ?_
      refine j_goto (tgt := 2) hC dX12_beginAfternoon_33 (by decide) ?_
      exact j_lv (lv' := [(0, .ref (d.2.1 0)), (1, .int (a.2 + (1 : Int32)))]) [1, 0] rfl (hs2 (σ4, (a.2 + (1 : Int32))))
theorem hyV_X12_toEnd : yX12_toEnd.cls = RX12 ∧ yX12_toEnd.cls ≠ "java/lang/invoke/MethodHandle" ∧ yX12_toEnd.cls ≠ "java/lang/invoke/VarHandle" ∧ (parseMethodDescriptor yX12_toEnd.desc).map (fun d => d.parameters.length) = some 1 := ⟨rfl, by decide +kernel, by decide +kernel, by decide +kernel⟩
noncomputable def fX12_toEnd_B9 (j39 : (jS → Option (jS))) (s9 : jS × Int32 → Option (jS)) (a : jS × Int32) : Option (jS) :=
  (if (a.1.1 0 42) ≤ (a.2 + (1 : Int32)) then (j39 a.1) else (ob (a.2 + (1 : Int32)) 9 (ob a.2 9 (jst (ju a.1 24 (a.2).toNatClampNeg (a.1.1 24 ((a.2 + (1 : Int32))).toNatClampNeg)) fun (σ2 : jS) => (s9 (σ2, (a.2 + (1 : Int32))))))))
noncomputable def fX12_toEnd (σ : jS) (p1 : Int32) : Option (jS) :=
  (ob p1 9 (jlet (fun (a39 : jS) => (ob ((a39.1 0 42) - (1 : Int32)) 9 (jst (ju a39 24 (((a39.1 0 42) - (1 : Int32))).toNatClampNeg (σ.1 24 (p1).toNatClampNeg)) fun (σ1 : jS) => (some σ1)))) fun (j39 : (jS → Option (jS))) => (jloop (fX12_toEnd_B9 j39) jN (σ, p1))))
set_option maxRecDepth 100000 in
set_option maxHeartbeats 4000000 in
theorem kX12_toEnd (l : Launch) (d : jD) (A : Nat → Prop) (σ : jS) (p1 : Int32) : jMv l yX12_toEnd (jws yX12_toEnd cX12_toEnd 4 none) { frames := 2, cells := 0, slots := 0, locals := 130 } d wM A [.ref (d.2.1 0), .int p1] σ (fX12_toEnd σ p1) := by
  refine jStart_v (lv0 := [(0, .ref (d.2.1 0)), (1, .int p1)]) (by decide) rfl (Nat.le_of_ble_eq_true rfl) rfl (fun z hC res => ?_)
  unfold fX12_toEnd
  refine j_aload_n (pc' := 1) hC 0 dX12_toEnd_0 rfl rfl rfl ?_
  refine j_get (pc' := 4) hC ly_X12 (M_at_0 d _) rfl 41 (by decide) fl_X12_88 rfl dX12_toEnd_1 rfl ?_
  refine j_iload_n (pc' := 5) hC 1 dX12_toEnd_4 rfl rfl rfl ?_
  refine j_iald (pc' := 6) hC (M_at_24 d _) dX12_toEnd_5 rfl ?_
  refine j_istore_n (pc' := 7) (lv' := [(2, .int (σ.1 24 (p1).toNatClampNeg)), (0, .ref (d.2.1 0)), (1, .int p1)]) hC dX12_toEnd_6 rfl (by decide) rfl rfl ?_
  refine j_iload_n (pc' := 8) hC 2 dX12_toEnd_7 rfl rfl rfl ?_
  refine j_istore_n (pc' := 9) (lv' := [(3, .int p1), (2, .int (σ.1 24 (p1).toNatClampNeg)), (0, .ref (d.2.1 0)), (1, .int p1)]) hC dX12_toEnd_8 rfl (by decide) rfl rfl ?_
  refine j_let 39 (fun a39 => a39) (fun a39 => [(0, .ref (d.2.1 0)), (2, .int (σ.1 24 (p1).toNatClampNeg))]) (fun a39 => []) (fun a39 => ?_) (fun j39 hj39 => ?_)
  · refine j_aload_n (pc' := 40) hC 0 dX12_toEnd_39 rfl rfl rfl ?_
    refine j_get (pc' := 43) hC ly_X12 (M_at_0 d _) rfl 41 (by decide) fl_X12_88 rfl dX12_toEnd_40 rfl ?_
    refine j_aload_n (pc' := 44) hC 0 dX12_toEnd_43 rfl rfl rfl ?_
    refine j_get (pc' := 47) hC ly_X12 (M_at_0 d _) rfl 42 (by decide) fl_X12_292 rfl dX12_toEnd_44 rfl ?_
    refine j_iconst (pc' := 48) (v := (1 : Int32)) hC dX12_toEnd_47 (by decide) rfl ?_
    refine j_isub (pc' := 49) hC dX12_toEnd_48 rfl ?_
    refine j_iload_n (pc' := 50) hC 1 dX12_toEnd_49 rfl rfl rfl ?_
    refine j_iast (pc' := 51) hC (M_at_24 d _) (M_sa_24 d _ _) dX12_toEnd_50 rfl ?_
    refine j_st (fun σ1 => ?_)
    exact j_ret_v hC dX12_toEnd_51
  · refine j_lv (lv' := [(0, .ref (d.2.1 0)), (2, .int (σ.1 24 (p1).toNatClampNeg)), (3, .int p1)]) [2, 1, 0] rfl ?_
    refine j_loop 9 (fun a => a.1) (fun a => [(0, .ref (d.2.1 0)), (2, .int (σ.1 24 (p1).toNatClampNeg)), (3, .int a.2)]) (fun s9 hs9 a => ?_) jN (σ, p1)
    unfold fX12_toEnd_B9
    refine j_iload_n (pc' := 10) hC 2 dX12_toEnd_9 rfl rfl rfl ?_
    refine j_iconst (pc' := 11) (v := (1 : Int32)) hC dX12_toEnd_10 (by decide) rfl ?_
    refine j_iadd (pc' := 12) hC dX12_toEnd_11 rfl ?_
    refine j_aload_n (pc' := 13) hC 0 dX12_toEnd_12 rfl rfl rfl ?_
    refine j_get (pc' := 16) hC ly_X12 (M_at_0 d _) rfl 42 (by decide) fl_X12_292 rfl dX12_toEnd_13 rfl ?_
    refine j_icmp_ge (pc' := 19) (tgt := 39) hC dX12_toEnd_16 (by decide) rfl ?_ ?_
    · exact j_lv (lv' := [(0, .ref (d.2.1 0)), (2, .int (σ.1 24 (p1).toNatClampNeg))]) [0, 1] rfl (hj39 a.1)
    · refine j_aload_n (pc' := 20) hC 0 dX12_toEnd_19 rfl rfl rfl ?_
      refine j_get (pc' := 23) hC ly_X12 (M_at_0 d _) rfl 41 (by decide) fl_X12_88 rfl dX12_toEnd_20 rfl ?_
      refine j_iload_n (pc' := 24) hC 2 dX12_toEnd_23 rfl rfl rfl ?_
      refine j_aload_n (pc' := 25) hC 0 dX12_toEnd_24 rfl rfl rfl ?_
      refine j_get (pc' := 28) hC ly_X12 (M_at_0 d _) rfl 41 (by decide) fl_X12_88 rfl dX12_toEnd_25 rfl ?_
      refine j_iload_n (pc' := 29) hC 2 dX12_toEnd_28 rfl rfl rfl ?_
      refine j_iconst (pc' := 30) (v := (1 : Int32)) hC dX12_toEnd_29 (by decide) rfl ?_
      refine j_iadd (pc' := 31) hC dX12_toEnd_30 rfl ?_
      refine j_iald (pc' := 32) hC (M_at_24 d _) dX12_toEnd_31 rfl ?_
      refine j_iast (pc' := 33) hC (M_at_24 d _) (M_sa_24 d _ _) dX12_toEnd_32 rfl ?_
      refine j_st (fun σ2 => ?_)
      refine j_iinc (pc' := 36) (v := (a.2 + (1 : Int32))) (lv' := [(3, .int (a.2 + (1 : Int32))), (0, .ref (d.2.1 0)), (2, .int (σ.1 24 (p1).toNatClampNeg))]) hC 2 dX12_toEnd_33 rfl (by decide) rfl rfl rfl ?_
      refine j_goto (tgt := 9) hC dX12_toEnd_36 (by decide) ?_
      exact j_lv (lv' := [(0, .ref (d.2.1 0)), (2, .int (σ.1 24 (p1).toNatClampNeg)), (3, .int (a.2 + (1 : Int32)))]) [1, 2, 0] rfl (hs9 (σ2, (a.2 + (1 : Int32))))
theorem hyV_X12_goHead : yX12_goHead.cls = RX12 ∧ yX12_goHead.cls ≠ "java/lang/invoke/MethodHandle" ∧ yX12_goHead.cls ≠ "java/lang/invoke/VarHandle" ∧ (parseMethodDescriptor yX12_goHead.desc).map (fun d => d.parameters.length) = some 2 := ⟨rfl, by decide +kernel, by decide +kernel, by decide +kernel⟩
noncomputable def fX12_goHead (σ : jS) (p1 : Int32) (p2 : Int32) : Option (Int32 × jS) :=
  (ob (0 : Int32) 9 (jlet (fun (a29 : Int32) => (Option.bind (fX12_goTurn σ p1 (σ.1 24 ((0 : Int32)).toNatClampNeg) a29 ((σ.1 0 42) - (1 : Int32))) fun (q1 : jS) => (ob p1 3 (if ((q1.1 23 (p1).toNatClampNeg) + (q1.1 0 35)) ≤ p2 then (ob (σ.1 24 ((0 : Int32)).toNatClampNeg) 9 (jlet (fun (a76 : jS) => (ob (σ.1 24 ((0 : Int32)).toNatClampNeg) 9 (ob (σ.1 24 ((0 : Int32)).toNatClampNeg) 9 (jst (ju a76 20 ((σ.1 24 ((0 : Int32)).toNatClampNeg)).toNatClampNeg ((a76.1 20 ((σ.1 24 ((0 : Int32)).toNatClampNeg)).toNatClampNeg) + (1 : Int32))) fun (σ2 : jS) => (ob (σ.1 24 ((0 : Int32)).toNatClampNeg) 9 (ob (σ.1 24 ((0 : Int32)).toNatClampNeg) 9 (jst (ju σ2 22 ((σ.1 24 ((0 : Int32)).toNatClampNeg)).toNatClampNeg ((σ2.1 22 ((σ.1 24 ((0 : Int32)).toNatClampNeg)).toNatClampNeg) + (σ2.1 0 34))) fun (σ3 : jS) => (ob p1 3 (ob p1 3 (jst (ju σ3 23 (p1).toNatClampNeg ((σ3.1 23 (p1).toNatClampNeg) + (σ3.1 0 35))) fun (σ4 : jS) => (Option.bind (fX12_toEnd σ4 (0 : Int32)) fun (q5 : jS) => (some ((1 : Int32), q5))))))))))))) fun (j76 : (jS → Option (Int32 × jS))) => (if (q1.1 20 ((σ.1 24 ((0 : Int32)).toNatClampNeg)).toNatClampNeg) = 0 then (ob p1 3 (ob (σ.1 24 ((0 : Int32)).toNatClampNeg) 9 (jst (ju q1 21 ((σ.1 24 ((0 : Int32)).toNatClampNeg)).toNatClampNeg (q1.1 23 (p1).toNatClampNeg)) fun (σ6 : jS) => (j76 σ6)))) else (j76 q1)))) else (some ((0 : Int32), q1)))))) fun (j29 : (Int32 → Option (Int32 × jS))) => (if (σ.1 0 42) ≤ (1 : Int32) then (j29 (9 : Int32)) else (ob (1 : Int32) 9 (j29 (σ.1 24 ((1 : Int32)).toNatClampNeg))))))
set_option maxRecDepth 100000 in
set_option maxHeartbeats 4000000 in
theorem kX12_goHead (l : Launch) (d : jD) (A : Nat → Prop) (σ : jS) (p1 : Int32) (p2 : Int32) : jMz l yX12_goHead (jws yX12_goHead cX12_goHead 4 (some (.boolean))) { frames := 7, cells := 0, slots := 0, locals := 252 } d wM A [.ref (d.2.1 0), .int p1, .int p2] σ (fX12_goHead σ p1 p2) := by
  refine jStart_z (lv0 := [(0, .ref (d.2.1 0)), (1, .int p1), (2, .int p2)]) (by decide) rfl (Nat.le_of_ble_eq_true rfl) rfl (fun z hC res => ?_)
  unfold fX12_goHead
  refine j_aload_n (pc' := 1) hC 0 dX12_goHead_0 rfl rfl rfl ?_
  refine j_get (pc' := 4) hC ly_X12 (M_at_0 d _) rfl 41 (by decide) fl_X12_88 rfl dX12_goHead_1 rfl ?_
  refine j_iconst (pc' := 5) (v := (0 : Int32)) hC dX12_goHead_4 (by decide) rfl ?_
  refine j_iald (pc' := 6) hC (M_at_24 d _) dX12_goHead_5 rfl ?_
  refine j_istore_n (pc' := 7) (lv' := [(3, .int (σ.1 24 ((0 : Int32)).toNatClampNeg)), (0, .ref (d.2.1 0)), (1, .int p1), (2, .int p2)]) hC dX12_goHead_6 rfl (by decide) rfl rfl ?_
  refine j_aload_n (pc' := 8) hC 1 dX12_goHead_7 rfl rfl rfl ?_
  refine j_iload_n (pc' := 9) hC 2 dX12_goHead_8 rfl rfl rfl ?_
  refine j_iload_n (pc' := 10) hC 0 dX12_goHead_9 rfl rfl rfl ?_
  refine j_aload_n (pc' := 11) hC 1 dX12_goHead_10 rfl rfl rfl ?_
  refine j_get (pc' := 14) hC ly_X12 (M_at_0 d _) rfl 42 (by decide) fl_X12_292 rfl dX12_goHead_11 rfl ?_
  refine j_iconst (pc' := 15) (v := (1 : Int32)) hC dX12_goHead_14 (by decide) rfl ?_
  refine j_let 29 (fun a29 => σ) (fun a29 => [(0, .ref (d.2.1 0)), (1, .int p1), (2, .int p2), (3, .int (σ.1 24 ((0 : Int32)).toNatClampNeg))]) (fun a29 => [.int a29, .int (σ.1 24 ((0 : Int32)).toNatClampNeg), .int p1, .ref (d.2.1 0)]) (fun a29 => ?_) (fun j29 hj29 => ?_)
  · refine j_aload_n (pc' := 30) hC 0 dX12_goHead_29 rfl rfl rfl ?_
    refine j_get (pc' := 33) hC ly_X12 (M_at_0 d _) rfl 42 (by decide) fl_X12_292 rfl dX12_goHead_30 rfl ?_
    refine j_iconst (pc' := 34) (v := (1 : Int32)) hC dX12_goHead_33 (by decide) rfl ?_
    refine j_isub (pc' := 35) hC dX12_goHead_34 rfl ?_
    refine j_callV_v (pc' := 38) (As := [.int p1, .int (σ.1 24 ((0 : Int32)).toNatClampNeg), .int a29, .int ((σ.1 0 42) - (1 : Int32))]) (st := []) hC (M_at_0 d _) rfl (kX12_goTurn l d A _ _ _ _ _) (jgV ml_X12_278 im_X12_goTurn se_X12_goTurn in_X12 cd_X12_goTurn) rfl rfl rfl hyV_X12_goTurn ⟨Nat.le_of_ble_eq_true rfl, Nat.le_of_ble_eq_true rfl⟩ rfl rfl (Nat.le_of_ble_eq_true rfl) dX12_goHead_35 rfl (fun q1 => ?_)
    refine j_aload_n (pc' := 39) hC 0 dX12_goHead_38 rfl rfl rfl ?_
    refine j_get (pc' := 42) hC ly_X12 (M_at_0 d _) rfl 40 (by decide) fl_X12_85 rfl dX12_goHead_39 rfl ?_
    refine j_iload_n (pc' := 43) hC 1 dX12_goHead_42 rfl rfl rfl ?_
    refine j_iald (pc' := 44) hC (M_at_23 d _) dX12_goHead_43 rfl ?_
    refine j_aload_n (pc' := 45) hC 0 dX12_goHead_44 rfl rfl rfl ?_
    refine j_get (pc' := 48) hC ly_X12 (M_at_0 d _) rfl 35 (by decide) fl_X12_260 rfl dX12_goHead_45 rfl ?_
    refine j_iadd (pc' := 49) hC dX12_goHead_48 rfl ?_
    refine j_iload_n (pc' := 50) hC 2 dX12_goHead_49 rfl rfl rfl ?_
    refine j_icmp_le (pc' := 53) (tgt := 55) hC dX12_goHead_50 (by decide) rfl ?_ ?_
    · refine j_aload_n (pc' := 56) hC 0 dX12_goHead_55 rfl rfl rfl ?_
      refine j_get (pc' := 59) hC ly_X12 (M_at_0 d _) rfl 37 (by decide) fl_X12_76 rfl dX12_goHead_56 rfl ?_
      refine j_iload_n (pc' := 60) hC 3 dX12_goHead_59 rfl rfl rfl ?_
      refine j_iald (pc' := 61) hC (M_at_20 d _) dX12_goHead_60 rfl ?_
      refine j_let 76 (fun a76 => a76) (fun a76 => [(0, .ref (d.2.1 0)), (1, .int p1), (3, .int (σ.1 24 ((0 : Int32)).toNatClampNeg))]) (fun a76 => []) (fun a76 => ?_) (fun j76 hj76 => ?_)
      · refine j_aload_n (pc' := 77) hC 0 dX12_goHead_76 rfl rfl rfl ?_
        refine j_get (pc' := 80) hC ly_X12 (M_at_0 d _) rfl 37 (by decide) fl_X12_76 rfl dX12_goHead_77 rfl ?_
        refine j_iload_n (pc' := 81) hC 2 dX12_goHead_80 rfl rfl rfl ?_
        refine j_dup2 (pc' := 82) hC rfl rfl dX12_goHead_81 rfl ?_
        refine j_iald (pc' := 83) hC (M_at_20 d _) dX12_goHead_82 rfl ?_
        refine j_iconst (pc' := 84) (v := (1 : Int32)) hC dX12_goHead_83 (by decide) rfl ?_
        refine j_iadd (pc' := 85) hC dX12_goHead_84 rfl ?_
        refine j_iast (pc' := 86) hC (M_at_20 d _) (M_sa_20 d _ _) dX12_goHead_85 rfl ?_
        refine j_st (fun σ2 => ?_)
        refine j_aload_n (pc' := 87) hC 0 dX12_goHead_86 rfl rfl rfl ?_
        refine j_get (pc' := 90) hC ly_X12 (M_at_0 d _) rfl 39 (by decide) fl_X12_82 rfl dX12_goHead_87 rfl ?_
        refine j_iload_n (pc' := 91) hC 2 dX12_goHead_90 rfl rfl rfl ?_
        refine j_dup2 (pc' := 92) hC rfl rfl dX12_goHead_91 rfl ?_
        refine j_iald (pc' := 93) hC (M_at_22 d _) dX12_goHead_92 rfl ?_
        refine j_aload_n (pc' := 94) hC 0 dX12_goHead_93 rfl rfl rfl ?_
        refine j_get (pc' := 97) hC ly_X12 (M_at_0 d _) rfl 34 (by decide) fl_X12_254 rfl dX12_goHead_94 rfl ?_
        refine j_iadd (pc' := 98) hC dX12_goHead_97 rfl ?_
        refine j_iast (pc' := 99) hC (M_at_22 d _) (M_sa_22 d _ _) dX12_goHead_98 rfl ?_
        refine j_st (fun σ3 => ?_)
        refine j_aload_n (pc' := 100) hC 0 dX12_goHead_99 rfl rfl rfl ?_
        refine j_get (pc' := 103) hC ly_X12 (M_at_0 d _) rfl 40 (by decide) fl_X12_85 rfl dX12_goHead_100 rfl ?_
        refine j_iload_n (pc' := 104) hC 1 dX12_goHead_103 rfl rfl rfl ?_
        refine j_dup2 (pc' := 105) hC rfl rfl dX12_goHead_104 rfl ?_
        refine j_iald (pc' := 106) hC (M_at_23 d _) dX12_goHead_105 rfl ?_
        refine j_aload_n (pc' := 107) hC 0 dX12_goHead_106 rfl rfl rfl ?_
        refine j_get (pc' := 110) hC ly_X12 (M_at_0 d _) rfl 35 (by decide) fl_X12_260 rfl dX12_goHead_107 rfl ?_
        refine j_iadd (pc' := 111) hC dX12_goHead_110 rfl ?_
        refine j_iast (pc' := 112) hC (M_at_23 d _) (M_sa_23 d _ _) dX12_goHead_111 rfl ?_
        refine j_st (fun σ4 => ?_)
        refine j_aload_n (pc' := 113) hC 0 dX12_goHead_112 rfl rfl rfl ?_
        refine j_iconst (pc' := 114) (v := (0 : Int32)) hC dX12_goHead_113 (by decide) rfl ?_
        refine j_callV_v (pc' := 117) (As := [.int (0 : Int32)]) (st := []) hC (M_at_0 d _) rfl (kX12_toEnd l d A _ _) (jgV ml_X12_295 im_X12_toEnd se_X12_toEnd in_X12 cd_X12_toEnd) rfl rfl rfl hyV_X12_toEnd ⟨Nat.le_of_ble_eq_true rfl, Nat.le_of_ble_eq_true rfl⟩ rfl rfl (Nat.le_of_ble_eq_true rfl) dX12_goHead_114 rfl (fun q5 => ?_)
        refine j_iconst (pc' := 118) (v := (1 : Int32)) hC dX12_goHead_117 (by decide) rfl ?_
        exact j_ret_z hC (by decide) dX12_goHead_118
      · refine j_if_ne (pc' := 64) (tgt := 76) hC dX12_goHead_61 (by decide) rfl ?_ ?_
        · exact j_lv (lv' := [(0, .ref (d.2.1 0)), (1, .int p1), (3, .int (σ.1 24 ((0 : Int32)).toNatClampNeg))]) [0, 1, 3] rfl (hj76 q1)
        · refine j_aload_n (pc' := 65) hC 0 dX12_goHead_64 rfl rfl rfl ?_
          refine j_get (pc' := 68) hC ly_X12 (M_at_0 d _) rfl 38 (by decide) fl_X12_79 rfl dX12_goHead_65 rfl ?_
          refine j_iload_n (pc' := 69) hC 3 dX12_goHead_68 rfl rfl rfl ?_
          refine j_aload_n (pc' := 70) hC 0 dX12_goHead_69 rfl rfl rfl ?_
          refine j_get (pc' := 73) hC ly_X12 (M_at_0 d _) rfl 40 (by decide) fl_X12_85 rfl dX12_goHead_70 rfl ?_
          refine j_iload_n (pc' := 74) hC 1 dX12_goHead_73 rfl rfl rfl ?_
          refine j_iald (pc' := 75) hC (M_at_23 d _) dX12_goHead_74 rfl ?_
          refine j_iast (pc' := 76) hC (M_at_21 d _) (M_sa_21 d _ _) dX12_goHead_75 rfl ?_
          refine j_st (fun σ6 => ?_)
          exact j_lv (lv' := [(0, .ref (d.2.1 0)), (1, .int p1), (3, .int (σ.1 24 ((0 : Int32)).toNatClampNeg))]) [0, 1, 3] rfl (hj76 σ6)
    · refine j_iconst (pc' := 54) (v := (0 : Int32)) hC dX12_goHead_53 (by decide) rfl ?_
      exact j_ret_z hC (by decide) dX12_goHead_54
  · refine j_icmp_le (pc' := 18) (tgt := 27) hC dX12_goHead_15 (by decide) rfl ?_ ?_
    · refine j_bipush (pc' := 29) (v := (9 : Int32)) hC dX12_goHead_27 (by decide) rfl ?_
      exact j_lv (lv' := [(0, .ref (d.2.1 0)), (1, .int p1), (2, .int p2), (3, .int (σ.1 24 ((0 : Int32)).toNatClampNeg))]) [1, 2, 3, 0] rfl (hj29 (9 : Int32))
    · refine j_aload_n (pc' := 19) hC 1 dX12_goHead_18 rfl rfl rfl ?_
      refine j_get (pc' := 22) hC ly_X12 (M_at_0 d _) rfl 41 (by decide) fl_X12_88 rfl dX12_goHead_19 rfl ?_
      refine j_iconst (pc' := 23) (v := (1 : Int32)) hC dX12_goHead_22 (by decide) rfl ?_
      refine j_iald (pc' := 24) hC (M_at_24 d _) dX12_goHead_23 rfl ?_
      refine j_goto (tgt := 29) hC dX12_goHead_24 (by decide) ?_
      exact j_lv (lv' := [(0, .ref (d.2.1 0)), (1, .int p1), (2, .int p2), (3, .int (σ.1 24 ((0 : Int32)).toNatClampNeg))]) [1, 2, 3, 0] rfl (hj29 (σ.1 24 ((1 : Int32)).toNatClampNeg))
theorem hyV_X12_goSwing : yX12_goSwing.cls = RX12 ∧ yX12_goSwing.cls ≠ "java/lang/invoke/MethodHandle" ∧ yX12_goSwing.cls ≠ "java/lang/invoke/VarHandle" ∧ (parseMethodDescriptor yX12_goSwing.desc).map (fun d => d.parameters.length) = some 2 := ⟨rfl, by decide +kernel, by decide +kernel, by decide +kernel⟩
noncomputable def fX12_goSwing_B13 (p1 : Int32) (p2 : Int32) (s13 : jS × Int32 → Option (jS)) (a : jS × Int32) : Option (jS) :=
  (if a.2 = 0 then (some a.1) else (Option.bind (fX12_goHead a.1 p1 p2) fun (q1 : (Int32 × jS)) => (s13 (q1.2, (jb q1.1)))))
noncomputable def fX12_goSwing (σ : jS) (p1 : Int32) (p2 : Int32) : Option (jS) :=
  (jlet (fun (a12 : Int32) => (jloop (fX12_goSwing_B13 p1 p2) jN (σ, a12))) fun (j12 : (Int32 → Option (jS))) => (if (σ.1 0 42) ≤ 0 then (j12 (0 : Int32)) else (j12 (1 : Int32))))
set_option maxRecDepth 100000 in
set_option maxHeartbeats 4000000 in
theorem kX12_goSwing (l : Launch) (d : jD) (A : Nat → Prop) (σ : jS) (p1 : Int32) (p2 : Int32) : jMv l yX12_goSwing (jws yX12_goSwing cX12_goSwing 4 none) { frames := 8, cells := 0, slots := 0, locals := 275 } d wM A [.ref (d.2.1 0), .int p1, .int p2] σ (fX12_goSwing σ p1 p2) := by
  refine jStart_v (lv0 := [(0, .ref (d.2.1 0)), (1, .int p1), (2, .int p2)]) (by decide) rfl (Nat.le_of_ble_eq_true rfl) rfl (fun z hC res => ?_)
  unfold fX12_goSwing
  refine j_aload_n (pc' := 1) hC 0 dX12_goSwing_0 rfl rfl rfl ?_
  refine j_get (pc' := 4) hC ly_X12 (M_at_0 d _) rfl 42 (by decide) fl_X12_292 rfl dX12_goSwing_1 rfl ?_
  refine j_let 12 (fun a12 => σ) (fun a12 => [(0, .ref (d.2.1 0)), (1, .int p1), (2, .int p2)]) (fun a12 => [.int a12]) (fun a12 => ?_) (fun j12 hj12 => ?_)
  · refine j_istore_n (pc' := 13) (lv' := [(3, .int a12), (0, .ref (d.2.1 0)), (1, .int p1), (2, .int p2)]) hC dX12_goSwing_12 rfl (by decide) rfl rfl ?_
    refine j_lv (lv' := [(0, .ref (d.2.1 0)), (1, .int p1), (2, .int p2), (3, .int a12)]) [1, 2, 3, 0] rfl ?_
    refine j_loop 13 (fun a => a.1) (fun a => [(0, .ref (d.2.1 0)), (1, .int p1), (2, .int p2), (3, .int a.2)]) (fun s13 hs13 a => ?_) jN (σ, a12)
    unfold fX12_goSwing_B13
    refine j_iload_n (pc' := 14) hC 3 dX12_goSwing_13 rfl rfl rfl ?_
    refine j_if_eq (pc' := 17) (tgt := 27) hC dX12_goSwing_14 (by decide) rfl ?_ ?_
    · exact j_ret_v hC dX12_goSwing_27
    · refine j_aload_n (pc' := 18) hC 0 dX12_goSwing_17 rfl rfl rfl ?_
      refine j_iload_n (pc' := 19) hC 1 dX12_goSwing_18 rfl rfl rfl ?_
      refine j_iload_n (pc' := 20) hC 2 dX12_goSwing_19 rfl rfl rfl ?_
      refine j_callV_z (pc' := 23) (As := [.int p1, .int p2]) (st := []) hC (M_at_0 d _) rfl (kX12_goHead l d A _ _ _) (jgV ml_X12_299 im_X12_goHead se_X12_goHead in_X12 cd_X12_goHead) rfl rfl rfl hyV_X12_goHead ⟨Nat.le_of_ble_eq_true rfl, Nat.le_of_ble_eq_true rfl⟩ rfl rfl (Nat.le_of_ble_eq_true rfl) dX12_goSwing_20 rfl (fun q1 => ?_)
      refine j_istore_n (pc' := 24) (lv' := [(3, .int (jb q1.1)), (0, .ref (d.2.1 0)), (1, .int p1), (2, .int p2)]) hC dX12_goSwing_23 rfl (by decide) rfl rfl ?_
      refine j_goto (tgt := 13) hC dX12_goSwing_24 (by decide) ?_
      exact j_lv (lv' := [(0, .ref (d.2.1 0)), (1, .int p1), (2, .int p2), (3, .int (jb q1.1))]) [1, 2, 3, 0] rfl (hs13 (q1.2, (jb q1.1)))
  · refine j_if_le (pc' := 7) (tgt := 11) hC dX12_goSwing_4 (by decide) rfl ?_ ?_
    · refine j_iconst (pc' := 12) (v := (0 : Int32)) hC dX12_goSwing_11 (by decide) rfl ?_
      exact j_lv (lv' := [(0, .ref (d.2.1 0)), (1, .int p1), (2, .int p2)]) [0, 1, 2] rfl (hj12 (0 : Int32))
    · refine j_iconst (pc' := 8) (v := (1 : Int32)) hC dX12_goSwing_7 (by decide) rfl ?_
      refine j_goto (tgt := 12) hC dX12_goSwing_8 (by decide) ?_
      exact j_lv (lv' := [(0, .ref (d.2.1 0)), (1, .int p1), (2, .int p2)]) [0, 1, 2] rfl (hj12 (1 : Int32))
theorem hyV_X12_goAfternoon : yX12_goAfternoon.cls = RX12 ∧ yX12_goAfternoon.cls ≠ "java/lang/invoke/MethodHandle" ∧ yX12_goAfternoon.cls ≠ "java/lang/invoke/VarHandle" ∧ (parseMethodDescriptor yX12_goAfternoon.desc).map (fun d => d.parameters.length) = some 1 := ⟨rfl, by decide +kernel, by decide +kernel, by decide +kernel⟩
noncomputable def fX12_goAfternoon_B6 (p1 : Int32) (s6 : jS × Int32 → Option (jS)) (a : jS × Int32) : Option (jS) :=
  (if (3 : Int32) ≤ a.2 then (some a.1) else (Option.bind (fX12_layLine a.1 a.2) fun (q2 : jS) => (Option.bind (fX12_goSwing q2 a.2 p1) fun (q3 : jS) => (s6 (q3, (a.2 + (1 : Int32)))))))
noncomputable def fX12_goAfternoon (σ : jS) (p1 : Int32) : Option (jS) :=
  (Option.bind (fX12_beginAfternoon σ) fun (q1 : jS) => (jloop (fX12_goAfternoon_B6 p1) jN (q1, (0 : Int32))))
set_option maxRecDepth 100000 in
set_option maxHeartbeats 4000000 in
theorem kX12_goAfternoon (l : Launch) (d : jD) (A : Nat → Prop) (σ : jS) (p1 : Int32) : jMv l yX12_goAfternoon (jws yX12_goAfternoon cX12_goAfternoon 3 none) { frames := 9, cells := 0, slots := 0, locals := 298 } d wM A [.ref (d.2.1 0), .int p1] σ (fX12_goAfternoon σ p1) := by
  refine jStart_v (lv0 := [(0, .ref (d.2.1 0)), (1, .int p1)]) (by decide) rfl (Nat.le_of_ble_eq_true rfl) rfl (fun z hC res => ?_)
  unfold fX12_goAfternoon
  refine j_aload_n (pc' := 1) hC 0 dX12_goAfternoon_0 rfl rfl rfl ?_
  refine j_callV_v (pc' := 4) (As := []) (st := []) hC (M_at_0 d _) rfl (kX12_beginAfternoon l d A _) (jgV ml_X12_302 im_X12_beginAfternoon se_X12_beginAfternoon in_X12 cd_X12_beginAfternoon) rfl rfl rfl hyV_X12_beginAfternoon ⟨Nat.le_of_ble_eq_true rfl, Nat.le_of_ble_eq_true rfl⟩ rfl rfl (Nat.le_of_ble_eq_true rfl) dX12_goAfternoon_1 rfl (fun q1 => ?_)
  refine j_iconst (pc' := 5) (v := (0 : Int32)) hC dX12_goAfternoon_4 (by decide) rfl ?_
  refine j_istore_n (pc' := 6) (lv' := [(2, .int (0 : Int32)), (0, .ref (d.2.1 0)), (1, .int p1)]) hC dX12_goAfternoon_5 rfl (by decide) rfl rfl ?_
  refine j_lv (lv' := [(0, .ref (d.2.1 0)), (1, .int p1), (2, .int (0 : Int32))]) [1, 2, 0] rfl ?_
  refine j_loop 6 (fun a => a.1) (fun a => [(0, .ref (d.2.1 0)), (1, .int p1), (2, .int a.2)]) (fun s6 hs6 a => ?_) jN (q1, (0 : Int32))
  unfold fX12_goAfternoon_B6
  refine j_iload_n (pc' := 7) hC 2 dX12_goAfternoon_6 rfl rfl rfl ?_
  refine j_iconst (pc' := 8) (v := (3 : Int32)) hC dX12_goAfternoon_7 (by decide) rfl ?_
  refine j_icmp_ge (pc' := 11) (tgt := 28) hC dX12_goAfternoon_8 (by decide) rfl ?_ ?_
  · exact j_ret_v hC dX12_goAfternoon_28
  · refine j_aload_n (pc' := 12) hC 0 dX12_goAfternoon_11 rfl rfl rfl ?_
    refine j_iload_n (pc' := 13) hC 2 dX12_goAfternoon_12 rfl rfl rfl ?_
    refine j_callV_v (pc' := 16) (As := [.int a.2]) (st := []) hC (M_at_0 d _) rfl (kX12_layLine l d A _ _) (jgV ml_X12_305 im_X12_layLine se_X12_layLine in_X12 cd_X12_layLine) rfl rfl rfl hyV_X12_layLine ⟨Nat.le_of_ble_eq_true rfl, Nat.le_of_ble_eq_true rfl⟩ rfl rfl (Nat.le_of_ble_eq_true rfl) dX12_goAfternoon_13 rfl (fun q2 => ?_)
    refine j_aload_n (pc' := 17) hC 0 dX12_goAfternoon_16 rfl rfl rfl ?_
    refine j_iload_n (pc' := 18) hC 2 dX12_goAfternoon_17 rfl rfl rfl ?_
    refine j_iload_n (pc' := 19) hC 1 dX12_goAfternoon_18 rfl rfl rfl ?_
    refine j_callV_v (pc' := 22) (As := [.int a.2, .int p1]) (st := []) hC (M_at_0 d _) rfl (kX12_goSwing l d A _ _ _) (jgV ml_X12_308 im_X12_goSwing se_X12_goSwing in_X12 cd_X12_goSwing) rfl rfl rfl hyV_X12_goSwing ⟨Nat.le_of_ble_eq_true rfl, Nat.le_of_ble_eq_true rfl⟩ rfl rfl (Nat.le_of_ble_eq_true rfl) dX12_goAfternoon_19 rfl (fun q3 => ?_)
    refine j_iinc (pc' := 25) (v := (a.2 + (1 : Int32))) (lv' := [(2, .int (a.2 + (1 : Int32))), (0, .ref (d.2.1 0)), (1, .int p1)]) hC 2 dX12_goAfternoon_22 rfl (by decide) rfl rfl rfl ?_
    refine j_goto (tgt := 6) hC dX12_goAfternoon_25 (by decide) ?_
    exact j_lv (lv' := [(0, .ref (d.2.1 0)), (1, .int p1), (2, .int (a.2 + (1 : Int32)))]) [1, 2, 0] rfl (hs6 (q3, (a.2 + (1 : Int32))))
theorem hyS_X12_isBell : yX12_isBell.cls ≠ "java/lang/invoke/MethodHandle" ∧ yX12_isBell.cls ≠ "java/lang/invoke/VarHandle" ∧ (parseMethodDescriptor yX12_isBell.desc).map (fun d => d.parameters.length) = some 1 := ⟨by decide +kernel, by decide +kernel, by decide +kernel⟩
noncomputable def fX12_isBell (σ : jS) (p1 : Int32) : Option (Int32) :=
  (Option.bind (fX12_in σ p1 (1 : Int32) (3600 : Int32)) fun (q1 : Int32) => (some q1))
set_option maxRecDepth 100000 in
set_option maxHeartbeats 4000000 in
theorem kX12_isBell (l : Launch) (d : jD) (A : Nat → Prop) (σ : jS) (p1 : Int32) : jMzr l yX12_isBell (jws yX12_isBell cX12_isBell 1 (some (.boolean))) { frames := 3, cells := 0, slots := 0, locals := 152 } d wM A [.int p1] σ (fX12_isBell σ p1) := by
  refine jStart_zr (lv0 := [(0, .int p1)]) (by decide) rfl (Nat.le_of_ble_eq_true rfl) rfl (fun z hC res => ?_)
  unfold fX12_isBell
  refine j_iload_n (pc' := 1) hC 0 dX12_isBell_0 rfl rfl rfl ?_
  refine j_iconst (pc' := 2) (v := (1 : Int32)) hC dX12_isBell_1 (by decide) rfl ?_
  refine j_sipush (pc' := 5) (v := (3600 : Int32)) hC dX12_isBell_2 (by decide) rfl ?_
  refine j_callS_zr (pc' := 8) (As := [.int p1, .int (1 : Int32), .int (3600 : Int32)]) (st := []) hC (kX12_in l d A _ _ _ _) (jgS ml_X12_128 st_X12_in in_X12 cd_X12_in) rfl rfl rfl hyS_X12_in ⟨Nat.le_of_ble_eq_true rfl, Nat.le_of_ble_eq_true rfl⟩ rfl rfl (Nat.le_of_ble_eq_true rfl) dX12_isBell_5 rfl (fun q1 => ?_)
  exact j_ret_zr hC rfl dX12_isBell_8
theorem hyV_X12_afternoon : yX12_afternoon.cls = RX12 ∧ yX12_afternoon.cls ≠ "java/lang/invoke/MethodHandle" ∧ yX12_afternoon.cls ≠ "java/lang/invoke/VarHandle" ∧ (parseMethodDescriptor yX12_afternoon.desc).map (fun d => d.parameters.length) = some 3 := ⟨rfl, by decide +kernel, by decide +kernel, by decide +kernel⟩
noncomputable def fX12_afternoon (σ : jS) (p1 : Int32) (p2 : Int32) (p3 : Int32) : Option (Int32 × jS) :=
  (Option.bind (fX12_isBell σ p1) fun (q1 : Int32) => (if (jb q1) = 0 then (some ((-1 : Int32), σ)) else (Option.bind (fX12_isChild σ p2) fun (q2 : Int32) => (if (jb q2) = 0 then (some ((-1 : Int32), σ)) else (Option.bind (fX12_in σ p3 (0 : Int32) (2 : Int32)) fun (q3 : Int32) => (if (jb q3) = 0 then (some ((-1 : Int32), σ)) else (Option.bind (fX12_goAfternoon σ p1) fun (q4 : jS) => (if p3 = 0 then (ob p2 9 (some ((q4.1 20 (p2).toNatClampNeg), q4))) else (if p3 = (1 : Int32) then (ob p2 9 (some ((q4.1 21 (p2).toNatClampNeg), q4))) else (ob p2 9 (some ((q4.1 22 (p2).toNatClampNeg), q4))))))))))))
set_option maxRecDepth 100000 in
set_option maxHeartbeats 4000000 in
theorem kX12_afternoon (l : Launch) (d : jD) (A : Nat → Prop) (σ : jS) (p1 : Int32) (p2 : Int32) (p3 : Int32) : jMi l yX12_afternoon (jws yX12_afternoon cX12_afternoon 4 (some (.int))) { frames := 10, cells := 0, slots := 0, locals := 320 } d wM A [.ref (d.2.1 0), .int p1, .int p2, .int p3] σ (fX12_afternoon σ p1 p2 p3) := by
  refine jStart_i (lv0 := [(0, .ref (d.2.1 0)), (1, .int p1), (2, .int p2), (3, .int p3)]) (by decide) rfl (Nat.le_of_ble_eq_true rfl) rfl (fun z hC res => ?_)
  unfold fX12_afternoon
  refine j_iload_n (pc' := 1) hC 1 dX12_afternoon_0 rfl rfl rfl ?_
  refine j_callS_zr (pc' := 4) (As := [.int p1]) (st := []) hC (kX12_isBell l d A _ _) (jgS ml_X12_311 st_X12_isBell in_X12 cd_X12_isBell) rfl rfl rfl hyS_X12_isBell ⟨Nat.le_of_ble_eq_true rfl, Nat.le_of_ble_eq_true rfl⟩ rfl rfl (Nat.le_of_ble_eq_true rfl) dX12_afternoon_1 rfl (fun q1 => ?_)
  refine j_if_eq (pc' := 7) (tgt := 24) hC dX12_afternoon_4 (by decide) rfl ?_ ?_
  · refine j_iconst (pc' := 25) (v := (-1 : Int32)) hC dX12_afternoon_24 (by decide) rfl ?_
    exact j_ret_i hC dX12_afternoon_25
  · refine j_aload_n (pc' := 8) hC 0 dX12_afternoon_7 rfl rfl rfl ?_
    refine j_iload_n (pc' := 9) hC 2 dX12_afternoon_8 rfl rfl rfl ?_
    refine j_callV_zr (pc' := 12) (As := [.int p2]) (st := []) hC (M_at_0 d _) rfl (kX12_isChild l d A _ _) (jgV ml_X12_162 im_X12_isChild se_X12_isChild in_X12 cd_X12_isChild) rfl rfl rfl hyV_X12_isChild ⟨Nat.le_of_ble_eq_true rfl, Nat.le_of_ble_eq_true rfl⟩ rfl rfl (Nat.le_of_ble_eq_true rfl) dX12_afternoon_9 rfl (fun q2 => ?_)
    refine j_if_eq (pc' := 15) (tgt := 24) hC dX12_afternoon_12 (by decide) rfl ?_ ?_
    · refine j_iconst (pc' := 25) (v := (-1 : Int32)) hC dX12_afternoon_24 (by decide) rfl ?_
      exact j_ret_i hC dX12_afternoon_25
    · refine j_iload_n (pc' := 16) hC 3 dX12_afternoon_15 rfl rfl rfl ?_
      refine j_iconst (pc' := 17) (v := (0 : Int32)) hC dX12_afternoon_16 (by decide) rfl ?_
      refine j_iconst (pc' := 18) (v := (2 : Int32)) hC dX12_afternoon_17 (by decide) rfl ?_
      refine j_callS_zr (pc' := 21) (As := [.int p3, .int (0 : Int32), .int (2 : Int32)]) (st := []) hC (kX12_in l d A _ _ _ _) (jgS ml_X12_128 st_X12_in in_X12 cd_X12_in) rfl rfl rfl hyS_X12_in ⟨Nat.le_of_ble_eq_true rfl, Nat.le_of_ble_eq_true rfl⟩ rfl rfl (Nat.le_of_ble_eq_true rfl) dX12_afternoon_18 rfl (fun q3 => ?_)
      refine j_if_ne (pc' := 24) (tgt := 26) hC dX12_afternoon_21 (by decide) rfl ?_ ?_
      · refine j_aload_n (pc' := 27) hC 0 dX12_afternoon_26 rfl rfl rfl ?_
        refine j_iload_n (pc' := 28) hC 1 dX12_afternoon_27 rfl rfl rfl ?_
        refine j_callV_v (pc' := 31) (As := [.int p1]) (st := []) hC (M_at_0 d _) rfl (kX12_goAfternoon l d A _ _) (jgV ml_X12_314 im_X12_goAfternoon se_X12_goAfternoon in_X12 cd_X12_goAfternoon) rfl rfl rfl hyV_X12_goAfternoon ⟨Nat.le_of_ble_eq_true rfl, Nat.le_of_ble_eq_true rfl⟩ rfl rfl (Nat.le_of_ble_eq_true rfl) dX12_afternoon_28 rfl (fun q4 => ?_)
        refine j_iload_n (pc' := 32) hC 3 dX12_afternoon_31 rfl rfl rfl ?_
        refine j_if_ne (pc' := 35) (tgt := 44) hC dX12_afternoon_32 (by decide) rfl ?_ ?_
        · refine j_iload_n (pc' := 45) hC 3 dX12_afternoon_44 rfl rfl rfl ?_
          refine j_iconst (pc' := 46) (v := (1 : Int32)) hC dX12_afternoon_45 (by decide) rfl ?_
          refine j_icmp_ne (pc' := 49) (tgt := 58) hC dX12_afternoon_46 (by decide) rfl ?_ ?_
          · refine j_aload_n (pc' := 59) hC 0 dX12_afternoon_58 rfl rfl rfl ?_
            refine j_get (pc' := 62) hC ly_X12 (M_at_0 d _) rfl 39 (by decide) fl_X12_82 rfl dX12_afternoon_59 rfl ?_
            refine j_iload_n (pc' := 63) hC 2 dX12_afternoon_62 rfl rfl rfl ?_
            refine j_iald (pc' := 64) hC (M_at_22 d _) dX12_afternoon_63 rfl ?_
            exact j_ret_i hC dX12_afternoon_64
          · refine j_aload_n (pc' := 50) hC 0 dX12_afternoon_49 rfl rfl rfl ?_
            refine j_get (pc' := 53) hC ly_X12 (M_at_0 d _) rfl 38 (by decide) fl_X12_79 rfl dX12_afternoon_50 rfl ?_
            refine j_iload_n (pc' := 54) hC 2 dX12_afternoon_53 rfl rfl rfl ?_
            refine j_iald (pc' := 55) hC (M_at_21 d _) dX12_afternoon_54 rfl ?_
            refine j_goto (tgt := 64) hC dX12_afternoon_55 (by decide) ?_
            exact j_ret_i hC dX12_afternoon_64
        · refine j_aload_n (pc' := 36) hC 0 dX12_afternoon_35 rfl rfl rfl ?_
          refine j_get (pc' := 39) hC ly_X12 (M_at_0 d _) rfl 37 (by decide) fl_X12_76 rfl dX12_afternoon_36 rfl ?_
          refine j_iload_n (pc' := 40) hC 2 dX12_afternoon_39 rfl rfl rfl ?_
          refine j_iald (pc' := 41) hC (M_at_20 d _) dX12_afternoon_40 rfl ?_
          refine j_goto (tgt := 64) hC dX12_afternoon_41 (by decide) ?_
          exact j_ret_i hC dX12_afternoon_64
      · refine j_iconst (pc' := 25) (v := (-1 : Int32)) hC dX12_afternoon_24 (by decide) rfl ?_
        exact j_ret_i hC dX12_afternoon_25
theorem hyV_X12_been : yX12_been.cls = RX12 ∧ yX12_been.cls ≠ "java/lang/invoke/MethodHandle" ∧ yX12_been.cls ≠ "java/lang/invoke/VarHandle" ∧ (parseMethodDescriptor yX12_been.desc).map (fun d => d.parameters.length) = some 2 := ⟨rfl, by decide +kernel, by decide +kernel, by decide +kernel⟩
noncomputable def fX12_been_B42 (q2 : jS) (s42 : Int32 × Int32 → Option (Int32 × jS)) (a : Int32 × Int32) : Option (Int32 × jS) :=
  (if (q2.1 0 2) ≤ a.2 then (some (a.1, q2)) else (ob a.2 9 (jlet (fun (a68 : Int32) => (s42 (a68, (a.2 + (1 : Int32))))) fun (j68 : (Int32 → Option (Int32 × jS))) => (if (q2.1 20 (a.2).toNatClampNeg) = 0 then (j68 (a.1 ||| ((1 : Int32) <<< (a.2 &&& 31)))) else (j68 a.1)))))
noncomputable def fX12_been (σ : jS) (p1 : Int32) (p2 : Int32) : Option (Int32 × jS) :=
  (Option.bind (fX12_isBell σ p1) fun (q1 : Int32) => (if (jb q1) = 0 then (some ((-1 : Int32), σ)) else (jlet (fun (a21 : Unit) => (Option.bind (fX12_goAfternoon σ p1) fun (q2 : jS) => (if p2 < 0 then (jloop (fX12_been_B42 q2) jN ((0 : Int32), (0 : Int32))) else (ob p2 3 (some ((q2.1 23 (p2).toNatClampNeg), q2)))))) fun (j21 : (Unit → Option (Int32 × jS))) => (if p2 = (-1 : Int32) then (j21 ()) else (Option.bind (fX12_isSwing σ p2) fun (q3 : Int32) => (if (jb q3) = 0 then (some ((-1 : Int32), σ)) else (j21 ())))))))
set_option maxRecDepth 100000 in
set_option maxHeartbeats 4000000 in
theorem kX12_been (l : Launch) (d : jD) (A : Nat → Prop) (σ : jS) (p1 : Int32) (p2 : Int32) : jMi l yX12_been (jws yX12_been cX12_been 5 (some (.int))) { frames := 10, cells := 0, slots := 0, locals := 320 } d wM A [.ref (d.2.1 0), .int p1, .int p2] σ (fX12_been σ p1 p2) := by
  refine jStart_i (lv0 := [(0, .ref (d.2.1 0)), (1, .int p1), (2, .int p2)]) (by decide) rfl (Nat.le_of_ble_eq_true rfl) rfl (fun z hC res => ?_)
  unfold fX12_been
  refine j_iload_n (pc' := 1) hC 1 dX12_been_0 rfl rfl rfl ?_
  refine j_callS_zr (pc' := 4) (As := [.int p1]) (st := []) hC (kX12_isBell l d A _ _) (jgS ml_X12_311 st_X12_isBell in_X12 cd_X12_isBell) rfl rfl rfl hyS_X12_isBell ⟨Nat.le_of_ble_eq_true rfl, Nat.le_of_ble_eq_true rfl⟩ rfl rfl (Nat.le_of_ble_eq_true rfl) dX12_been_1 rfl (fun q1 => ?_)
  refine j_if_eq (pc' := 7) (tgt := 19) hC dX12_been_4 (by decide) rfl ?_ ?_
  · refine j_iconst (pc' := 20) (v := (-1 : Int32)) hC dX12_been_19 (by decide) rfl ?_
    exact j_ret_i hC dX12_been_20
  · refine j_iload_n (pc' := 8) hC 2 dX12_been_7 rfl rfl rfl ?_
    refine j_iconst (pc' := 9) (v := (-1 : Int32)) hC dX12_been_8 (by decide) rfl ?_
    refine j_let 21 (fun a21 => σ) (fun a21 => [(0, .ref (d.2.1 0)), (1, .int p1), (2, .int p2)]) (fun a21 => []) (fun a21 => ?_) (fun j21 hj21 => ?_)
    · refine j_aload_n (pc' := 22) hC 0 dX12_been_21 rfl rfl rfl ?_
      refine j_iload_n (pc' := 23) hC 1 dX12_been_22 rfl rfl rfl ?_
      refine j_callV_v (pc' := 26) (As := [.int p1]) (st := []) hC (M_at_0 d _) rfl (kX12_goAfternoon l d A _ _) (jgV ml_X12_314 im_X12_goAfternoon se_X12_goAfternoon in_X12 cd_X12_goAfternoon) rfl rfl rfl hyV_X12_goAfternoon ⟨Nat.le_of_ble_eq_true rfl, Nat.le_of_ble_eq_true rfl⟩ rfl rfl (Nat.le_of_ble_eq_true rfl) dX12_been_23 rfl (fun q2 => ?_)
      refine j_iload_n (pc' := 27) hC 2 dX12_been_26 rfl rfl rfl ?_
      refine j_if_lt (pc' := 30) (tgt := 37) hC dX12_been_27 (by decide) rfl ?_ ?_
      · refine j_iconst (pc' := 38) (v := (0 : Int32)) hC dX12_been_37 (by decide) rfl ?_
        refine j_istore_n (pc' := 39) (lv' := [(3, .int (0 : Int32)), (0, .ref (d.2.1 0)), (1, .int p1), (2, .int p2)]) hC dX12_been_38 rfl (by decide) rfl rfl ?_
        refine j_iconst (pc' := 40) (v := (0 : Int32)) hC dX12_been_39 (by decide) rfl ?_
        refine j_istore (pc' := 42) (lv' := [(4, .int (0 : Int32)), (3, .int (0 : Int32)), (0, .ref (d.2.1 0)), (1, .int p1), (2, .int p2)]) hC dX12_been_40 (by decide) rfl rfl ?_
        refine j_lv (lv' := [(0, .ref (d.2.1 0)), (3, .int (0 : Int32)), (4, .int (0 : Int32))]) [2, 1, 0] rfl ?_
        refine j_loop 42 (fun a => q2) (fun a => [(0, .ref (d.2.1 0)), (3, .int a.1), (4, .int a.2)]) (fun s42 hs42 a => ?_) jN ((0 : Int32), (0 : Int32))
        unfold fX12_been_B42
        refine j_iload (pc' := 44) hC 2 dX12_been_42 rfl rfl ?_
        refine j_aload_n (pc' := 45) hC 0 dX12_been_44 rfl rfl rfl ?_
        refine j_get (pc' := 48) hC ly_X12 (M_at_0 d _) rfl 2 (by decide) fl_X12_125 rfl dX12_been_45 rfl ?_
        refine j_icmp_ge (pc' := 51) (tgt := 74) hC dX12_been_48 (by decide) rfl ?_ ?_
        · refine j_iload_n (pc' := 75) hC 1 dX12_been_74 rfl rfl rfl ?_
          exact j_ret_i hC dX12_been_75
        · refine j_aload_n (pc' := 52) hC 0 dX12_been_51 rfl rfl rfl ?_
          refine j_get (pc' := 55) hC ly_X12 (M_at_0 d _) rfl 37 (by decide) fl_X12_76 rfl dX12_been_52 rfl ?_
          refine j_iload (pc' := 57) hC 2 dX12_been_55 rfl rfl ?_
          refine j_iald (pc' := 58) hC (M_at_20 d _) dX12_been_57 rfl ?_
          refine j_let 68 (fun a68 => q2) (fun a68 => [(0, .ref (d.2.1 0)), (3, .int a68), (4, .int a.2)]) (fun a68 => []) (fun a68 => ?_) (fun j68 hj68 => ?_)
          · refine j_iinc (pc' := 71) (v := (a.2 + (1 : Int32))) (lv' := [(4, .int (a.2 + (1 : Int32))), (0, .ref (d.2.1 0)), (3, .int a68)]) hC 2 dX12_been_68 rfl (by decide) rfl rfl rfl ?_
            refine j_goto (tgt := 42) hC dX12_been_71 (by decide) ?_
            exact j_lv (lv' := [(0, .ref (d.2.1 0)), (3, .int a68), (4, .int (a.2 + (1 : Int32)))]) [1, 2, 0] rfl (hs42 (a68, (a.2 + (1 : Int32))))
          · refine j_if_ne (pc' := 61) (tgt := 68) hC dX12_been_58 (by decide) rfl ?_ ?_
            · exact j_lv (lv' := [(0, .ref (d.2.1 0)), (3, .int a.1), (4, .int a.2)]) [0, 1, 2] rfl (hj68 a.1)
            · refine j_iload_n (pc' := 62) hC 1 dX12_been_61 rfl rfl rfl ?_
              refine j_iconst (pc' := 63) (v := (1 : Int32)) hC dX12_been_62 (by decide) rfl ?_
              refine j_iload (pc' := 65) hC 2 dX12_been_63 rfl rfl ?_
              refine j_ishl (pc' := 66) hC dX12_been_65 rfl ?_
              refine j_ior (pc' := 67) hC dX12_been_66 rfl ?_
              refine j_istore_n (pc' := 68) (lv' := [(3, .int (a.1 ||| ((1 : Int32) <<< (a.2 &&& 31)))), (0, .ref (d.2.1 0)), (4, .int a.2)]) hC dX12_been_67 rfl (by decide) rfl rfl ?_
              exact j_lv (lv' := [(0, .ref (d.2.1 0)), (3, .int (a.1 ||| ((1 : Int32) <<< (a.2 &&& 31)))), (4, .int a.2)]) [1, 0, 2] rfl (hj68 (a.1 ||| ((1 : Int32) <<< (a.2 &&& 31))))
      · refine j_aload_n (pc' := 31) hC 0 dX12_been_30 rfl rfl rfl ?_
        refine j_get (pc' := 34) hC ly_X12 (M_at_0 d _) rfl 40 (by decide) fl_X12_85 rfl dX12_been_31 rfl ?_
        refine j_iload_n (pc' := 35) hC 2 dX12_been_34 rfl rfl rfl ?_
        refine j_iald (pc' := 36) hC (M_at_23 d _) dX12_been_35 rfl ?_
        exact j_ret_i hC dX12_been_36
    · refine j_icmp_eq (pc' := 12) (tgt := 21) hC dX12_been_9 (by decide) rfl ?_ ?_
      · exact j_lv (lv' := [(0, .ref (d.2.1 0)), (1, .int p1), (2, .int p2)]) [0, 1, 2] rfl (hj21 ())
      · refine j_iload_n (pc' := 13) hC 2 dX12_been_12 rfl rfl rfl ?_
        refine j_callS_zr (pc' := 16) (As := [.int p2]) (st := []) hC (kX12_isSwing l d A _ _) (jgS ml_X12_165 st_X12_isSwing in_X12 cd_X12_isSwing) rfl rfl rfl hyS_X12_isSwing ⟨Nat.le_of_ble_eq_true rfl, Nat.le_of_ble_eq_true rfl⟩ rfl rfl (Nat.le_of_ble_eq_true rfl) dX12_been_13 rfl (fun q3 => ?_)
        refine j_if_ne (pc' := 19) (tgt := 21) hC dX12_been_16 (by decide) rfl ?_ ?_
        · exact j_lv (lv' := [(0, .ref (d.2.1 0)), (1, .int p1), (2, .int p2)]) [0, 1, 2] rfl (hj21 ())
        · refine j_iconst (pc' := 20) (v := (-1 : Int32)) hC dX12_been_19 (by decide) rfl ?_
          exact j_ret_i hC dX12_been_20
theorem hyV_X12_join : yX12_join.cls = RX12 ∧ yX12_join.cls ≠ "java/lang/invoke/MethodHandle" ∧ yX12_join.cls ≠ "java/lang/invoke/VarHandle" ∧ (parseMethodDescriptor yX12_join.desc).map (fun d => d.parameters.length) = some 3 := ⟨rfl, by decide +kernel, by decide +kernel, by decide +kernel⟩
noncomputable def fX12_join_B45 (p1 : Int32) (p2 : Int32) (j110 : (jS × Int32 × Int32 → Option (Int32 × jS))) (s45 : jS × Int32 × Int32 × Int32 → Option (Int32 × jS)) (a : jS × Int32 × Int32 × Int32) : Option (Int32 × jS) :=
  (if (3 : Int32) ≤ a.2.2.2 then (j110 (a.1, a.2.1, a.2.2.1)) else (ob p2 9 (jst (ju a.1 7 (p2).toNatClampNeg a.2.2.2) fun (σ5 : jS) => (Option.bind (fX12_goAfternoon σ5 p1) fun (q6 : jS) => (ob p2 9 (jlet (fun (a104 : Int32 × Int32) => (s45 (q6, a104.1, a104.2, (a.2.2.2 + (1 : Int32))))) fun (j104 : (Int32 × Int32 → Option (Int32 × jS))) => (if (q6.1 21 (p2).toNatClampNeg) < 0 then (j104 (a.2.1, a.2.2.1)) else (jlet (fun (a92 : Unit) => (ob p2 9 (j104 (a.2.2.2, (q6.1 21 (p2).toNatClampNeg))))) fun (j92 : (Unit → Option (Int32 × jS))) => (if a.2.1 < 0 then (j92 ()) else (ob p2 9 (if (q6.1 21 (p2).toNatClampNeg) < a.2.2.1 then (j92 ()) else (j104 (a.2.1, a.2.2.1)))))))))))))
noncomputable def fX12_join (σ : jS) (p1 : Int32) (p2 : Int32) (p3 : Int32) : Option (Int32 × jS) :=
  (Option.bind (fX12_isBell σ p1) fun (q1 : Int32) => (if (jb q1) = 0 then (some ((-1 : Int32), σ)) else (Option.bind (fX12_isChild σ p2) fun (q2 : Int32) => (if (jb q2) = 0 then (some ((-1 : Int32), σ)) else (Option.bind (fX12_in σ p3 (0 : Int32) (1 : Int32)) fun (q3 : Int32) => (if (jb q3) = 0 then (some ((-1 : Int32), σ)) else (ob p2 9 (jlet (fun (a110 : jS × Int32 × Int32) => (ob p2 9 (jst (ju a110.1 7 (p2).toNatClampNeg (σ.1 7 (p2).toNatClampNeg)) fun (σ4 : jS) => (if p3 = 0 then (some (a110.2.1, σ4)) else (some (a110.2.2, σ4)))))) fun (j110 : (jS × Int32 × Int32 → Option (Int32 × jS))) => (jloop (fX12_join_B45 p1 p2 j110) jN (σ, (-2 : Int32), (-2 : Int32), (0 : Int32)))))))))))
set_option maxRecDepth 100000 in
set_option maxHeartbeats 4000000 in
theorem kX12_join (l : Launch) (d : jD) (A : Nat → Prop) (σ : jS) (p1 : Int32) (p2 : Int32) (p3 : Int32) : jMi l yX12_join (jws yX12_join cX12_join 8 (some (.int))) { frames := 10, cells := 0, slots := 0, locals := 320 } d wM A [.ref (d.2.1 0), .int p1, .int p2, .int p3] σ (fX12_join σ p1 p2 p3) := by
  refine jStart_i (lv0 := [(0, .ref (d.2.1 0)), (1, .int p1), (2, .int p2), (3, .int p3)]) (by decide) rfl (Nat.le_of_ble_eq_true rfl) rfl (fun z hC res => ?_)
  unfold fX12_join
  refine j_iload_n (pc' := 1) hC 1 dX12_join_0 rfl rfl rfl ?_
  refine j_callS_zr (pc' := 4) (As := [.int p1]) (st := []) hC (kX12_isBell l d A _ _) (jgS ml_X12_311 st_X12_isBell in_X12 cd_X12_isBell) rfl rfl rfl hyS_X12_isBell ⟨Nat.le_of_ble_eq_true rfl, Nat.le_of_ble_eq_true rfl⟩ rfl rfl (Nat.le_of_ble_eq_true rfl) dX12_join_1 rfl (fun q1 => ?_)
  refine j_if_eq (pc' := 7) (tgt := 24) hC dX12_join_4 (by decide) rfl ?_ ?_
  · refine j_iconst (pc' := 25) (v := (-1 : Int32)) hC dX12_join_24 (by decide) rfl ?_
    exact j_ret_i hC dX12_join_25
  · refine j_aload_n (pc' := 8) hC 0 dX12_join_7 rfl rfl rfl ?_
    refine j_iload_n (pc' := 9) hC 2 dX12_join_8 rfl rfl rfl ?_
    refine j_callV_zr (pc' := 12) (As := [.int p2]) (st := []) hC (M_at_0 d _) rfl (kX12_isChild l d A _ _) (jgV ml_X12_162 im_X12_isChild se_X12_isChild in_X12 cd_X12_isChild) rfl rfl rfl hyV_X12_isChild ⟨Nat.le_of_ble_eq_true rfl, Nat.le_of_ble_eq_true rfl⟩ rfl rfl (Nat.le_of_ble_eq_true rfl) dX12_join_9 rfl (fun q2 => ?_)
    refine j_if_eq (pc' := 15) (tgt := 24) hC dX12_join_12 (by decide) rfl ?_ ?_
    · refine j_iconst (pc' := 25) (v := (-1 : Int32)) hC dX12_join_24 (by decide) rfl ?_
      exact j_ret_i hC dX12_join_25
    · refine j_iload_n (pc' := 16) hC 3 dX12_join_15 rfl rfl rfl ?_
      refine j_iconst (pc' := 17) (v := (0 : Int32)) hC dX12_join_16 (by decide) rfl ?_
      refine j_iconst (pc' := 18) (v := (1 : Int32)) hC dX12_join_17 (by decide) rfl ?_
      refine j_callS_zr (pc' := 21) (As := [.int p3, .int (0 : Int32), .int (1 : Int32)]) (st := []) hC (kX12_in l d A _ _ _ _) (jgS ml_X12_128 st_X12_in in_X12 cd_X12_in) rfl rfl rfl hyS_X12_in ⟨Nat.le_of_ble_eq_true rfl, Nat.le_of_ble_eq_true rfl⟩ rfl rfl (Nat.le_of_ble_eq_true rfl) dX12_join_18 rfl (fun q3 => ?_)
      refine j_if_ne (pc' := 24) (tgt := 26) hC dX12_join_21 (by decide) rfl ?_ ?_
      · refine j_aload_n (pc' := 27) hC 0 dX12_join_26 rfl rfl rfl ?_
        refine j_get (pc' := 30) hC ly_X12 (M_at_0 d _) rfl 8 (by decide) fl_X12_28 rfl dX12_join_27 rfl ?_
        refine j_iload_n (pc' := 31) hC 2 dX12_join_30 rfl rfl rfl ?_
        refine j_iald (pc' := 32) hC (M_at_7 d _) dX12_join_31 rfl ?_
        refine j_istore (pc' := 34) (lv' := [(4, .int (σ.1 7 (p2).toNatClampNeg)), (0, .ref (d.2.1 0)), (1, .int p1), (2, .int p2), (3, .int p3)]) hC dX12_join_32 (by decide) rfl rfl ?_
        refine j_bipush (pc' := 36) (v := (-2 : Int32)) hC dX12_join_34 (by decide) rfl ?_
        refine j_istore (pc' := 38) (lv' := [(5, .int (-2 : Int32)), (4, .int (σ.1 7 (p2).toNatClampNeg)), (0, .ref (d.2.1 0)), (1, .int p1), (2, .int p2), (3, .int p3)]) hC dX12_join_36 (by decide) rfl rfl ?_
        refine j_bipush (pc' := 40) (v := (-2 : Int32)) hC dX12_join_38 (by decide) rfl ?_
        refine j_istore (pc' := 42) (lv' := [(6, .int (-2 : Int32)), (5, .int (-2 : Int32)), (4, .int (σ.1 7 (p2).toNatClampNeg)), (0, .ref (d.2.1 0)), (1, .int p1), (2, .int p2), (3, .int p3)]) hC dX12_join_40 (by decide) rfl rfl ?_
        refine j_iconst (pc' := 43) (v := (0 : Int32)) hC dX12_join_42 (by decide) rfl ?_
        refine j_istore (pc' := 45) (lv' := [(7, .int (0 : Int32)), (6, .int (-2 : Int32)), (5, .int (-2 : Int32)), (4, .int (σ.1 7 (p2).toNatClampNeg)), (0, .ref (d.2.1 0)), (1, .int p1), (2, .int p2), (3, .int p3)]) hC dX12_join_43 (by decide) rfl rfl ?_
        refine j_let 110 (fun a110 => a110.1) (fun a110 => [(0, .ref (d.2.1 0)), (2, .int p2), (3, .int p3), (4, .int (σ.1 7 (p2).toNatClampNeg)), (5, .int a110.2.1), (6, .int a110.2.2)]) (fun a110 => []) (fun a110 => ?_) (fun j110 hj110 => ?_)
        · refine j_aload_n (pc' := 111) hC 0 dX12_join_110 rfl rfl rfl ?_
          refine j_get (pc' := 114) hC ly_X12 (M_at_0 d _) rfl 8 (by decide) fl_X12_28 rfl dX12_join_111 rfl ?_
          refine j_iload_n (pc' := 115) hC 1 dX12_join_114 rfl rfl rfl ?_
          refine j_iload (pc' := 117) hC 3 dX12_join_115 rfl rfl ?_
          refine j_iast (pc' := 118) hC (M_at_7 d _) (M_sa_7 d _ _) dX12_join_117 rfl ?_
          refine j_st (fun σ4 => ?_)
          refine j_iload_n (pc' := 119) hC 2 dX12_join_118 rfl rfl rfl ?_
          refine j_if_ne (pc' := 122) (tgt := 127) hC dX12_join_119 (by decide) rfl ?_ ?_
          · refine j_iload (pc' := 129) hC 5 dX12_join_127 rfl rfl ?_
            exact j_ret_i hC dX12_join_129
          · refine j_iload (pc' := 124) hC 4 dX12_join_122 rfl rfl ?_
            refine j_goto (tgt := 129) hC dX12_join_124 (by decide) ?_
            exact j_ret_i hC dX12_join_129
        · refine j_lv (lv' := [(0, .ref (d.2.1 0)), (1, .int p1), (2, .int p2), (3, .int p3), (4, .int (σ.1 7 (p2).toNatClampNeg)), (5, .int (-2 : Int32)), (6, .int (-2 : Int32)), (7, .int (0 : Int32))]) [4, 5, 6, 7, 3, 2, 1, 0] rfl ?_
          refine j_loop 45 (fun a => a.1) (fun a => [(0, .ref (d.2.1 0)), (1, .int p1), (2, .int p2), (3, .int p3), (4, .int (σ.1 7 (p2).toNatClampNeg)), (5, .int a.2.1), (6, .int a.2.2.1), (7, .int a.2.2.2)]) (fun s45 hs45 a => ?_) jN (σ, (-2 : Int32), (-2 : Int32), (0 : Int32))
          unfold fX12_join_B45
          refine j_iload (pc' := 47) hC 7 dX12_join_45 rfl rfl ?_
          refine j_iconst (pc' := 48) (v := (3 : Int32)) hC dX12_join_47 (by decide) rfl ?_
          refine j_icmp_ge (pc' := 51) (tgt := 110) hC dX12_join_48 (by decide) rfl ?_ ?_
          · exact j_lv (lv' := [(0, .ref (d.2.1 0)), (2, .int p2), (3, .int p3), (4, .int (σ.1 7 (p2).toNatClampNeg)), (5, .int a.2.1), (6, .int a.2.2.1)]) [0, 2, 3, 4, 5, 6] rfl (hj110 (a.1, a.2.1, a.2.2.1))
          · refine j_aload_n (pc' := 52) hC 0 dX12_join_51 rfl rfl rfl ?_
            refine j_get (pc' := 55) hC ly_X12 (M_at_0 d _) rfl 8 (by decide) fl_X12_28 rfl dX12_join_52 rfl ?_
            refine j_iload_n (pc' := 56) hC 2 dX12_join_55 rfl rfl rfl ?_
            refine j_iload (pc' := 58) hC 7 dX12_join_56 rfl rfl ?_
            refine j_iast (pc' := 59) hC (M_at_7 d _) (M_sa_7 d _ _) dX12_join_58 rfl ?_
            refine j_st (fun σ5 => ?_)
            refine j_aload_n (pc' := 60) hC 0 dX12_join_59 rfl rfl rfl ?_
            refine j_iload_n (pc' := 61) hC 1 dX12_join_60 rfl rfl rfl ?_
            refine j_callV_v (pc' := 64) (As := [.int p1]) (st := []) hC (M_at_0 d _) rfl (kX12_goAfternoon l d A _ _) (jgV ml_X12_314 im_X12_goAfternoon se_X12_goAfternoon in_X12 cd_X12_goAfternoon) rfl rfl rfl hyV_X12_goAfternoon ⟨Nat.le_of_ble_eq_true rfl, Nat.le_of_ble_eq_true rfl⟩ rfl rfl (Nat.le_of_ble_eq_true rfl) dX12_join_61 rfl (fun q6 => ?_)
            refine j_aload_n (pc' := 65) hC 0 dX12_join_64 rfl rfl rfl ?_
            refine j_get (pc' := 68) hC ly_X12 (M_at_0 d _) rfl 38 (by decide) fl_X12_79 rfl dX12_join_65 rfl ?_
            refine j_iload_n (pc' := 69) hC 2 dX12_join_68 rfl rfl rfl ?_
            refine j_iald (pc' := 70) hC (M_at_21 d _) dX12_join_69 rfl ?_
            refine j_let 104 (fun a104 => q6) (fun a104 => [(0, .ref (d.2.1 0)), (1, .int p1), (2, .int p2), (3, .int p3), (4, .int (σ.1 7 (p2).toNatClampNeg)), (5, .int a104.1), (6, .int a104.2), (7, .int a.2.2.2)]) (fun a104 => []) (fun a104 => ?_) (fun j104 hj104 => ?_)
            · refine j_iinc (pc' := 107) (v := (a.2.2.2 + (1 : Int32))) (lv' := [(7, .int (a.2.2.2 + (1 : Int32))), (0, .ref (d.2.1 0)), (1, .int p1), (2, .int p2), (3, .int p3), (4, .int (σ.1 7 (p2).toNatClampNeg)), (5, .int a104.1), (6, .int a104.2)]) hC 7 dX12_join_104 rfl (by decide) rfl rfl rfl ?_
              refine j_goto (tgt := 45) hC dX12_join_107 (by decide) ?_
              exact j_lv (lv' := [(0, .ref (d.2.1 0)), (1, .int p1), (2, .int p2), (3, .int p3), (4, .int (σ.1 7 (p2).toNatClampNeg)), (5, .int a104.1), (6, .int a104.2), (7, .int (a.2.2.2 + (1 : Int32)))]) [1, 2, 3, 4, 5, 6, 7, 0] rfl (hs45 (q6, a104.1, a104.2, (a.2.2.2 + (1 : Int32))))
            · refine j_if_lt (pc' := 73) (tgt := 104) hC dX12_join_70 (by decide) rfl ?_ ?_
              · exact j_lv (lv' := [(0, .ref (d.2.1 0)), (1, .int p1), (2, .int p2), (3, .int p3), (4, .int (σ.1 7 (p2).toNatClampNeg)), (5, .int a.2.1), (6, .int a.2.2.1), (7, .int a.2.2.2)]) [0, 1, 2, 3, 4, 5, 6, 7] rfl (hj104 (a.2.1, a.2.2.1))
              · refine j_iload (pc' := 75) hC 5 dX12_join_73 rfl rfl ?_
                refine j_let 92 (fun a92 => q6) (fun a92 => [(0, .ref (d.2.1 0)), (1, .int p1), (2, .int p2), (3, .int p3), (4, .int (σ.1 7 (p2).toNatClampNeg)), (7, .int a.2.2.2)]) (fun a92 => []) (fun a92 => ?_) (fun j92 hj92 => ?_)
                · refine j_iload (pc' := 94) hC 5 dX12_join_92 rfl rfl ?_
                  refine j_istore (pc' := 96) (lv' := [(5, .int a.2.2.2), (0, .ref (d.2.1 0)), (1, .int p1), (2, .int p2), (3, .int p3), (4, .int (σ.1 7 (p2).toNatClampNeg)), (7, .int a.2.2.2)]) hC dX12_join_94 (by decide) rfl rfl ?_
                  refine j_aload_n (pc' := 97) hC 1 dX12_join_96 rfl rfl rfl ?_
                  refine j_get (pc' := 100) hC ly_X12 (M_at_0 d _) rfl 38 (by decide) fl_X12_79 rfl dX12_join_97 rfl ?_
                  refine j_iload_n (pc' := 101) hC 3 dX12_join_100 rfl rfl rfl ?_
                  refine j_iald (pc' := 102) hC (M_at_21 d _) dX12_join_101 rfl ?_
                  refine j_istore (pc' := 104) (lv' := [(6, .int (q6.1 21 (p2).toNatClampNeg)), (5, .int a.2.2.2), (0, .ref (d.2.1 0)), (1, .int p1), (2, .int p2), (3, .int p3), (4, .int (σ.1 7 (p2).toNatClampNeg)), (7, .int a.2.2.2)]) hC dX12_join_102 (by decide) rfl rfl ?_
                  exact j_lv (lv' := [(0, .ref (d.2.1 0)), (1, .int p1), (2, .int p2), (3, .int p3), (4, .int (σ.1 7 (p2).toNatClampNeg)), (5, .int a.2.2.2), (6, .int (q6.1 21 (p2).toNatClampNeg)), (7, .int a.2.2.2)]) [2, 3, 4, 5, 6, 1, 0, 7] rfl (hj104 (a.2.2.2, (q6.1 21 (p2).toNatClampNeg)))
                · refine j_if_lt (pc' := 78) (tgt := 92) hC dX12_join_75 (by decide) rfl ?_ ?_
                  · exact j_lv (lv' := [(0, .ref (d.2.1 0)), (1, .int p1), (2, .int p2), (3, .int p3), (4, .int (σ.1 7 (p2).toNatClampNeg)), (7, .int a.2.2.2)]) [0, 1, 2, 3, 4, 7] rfl (hj92 ())
                  · refine j_aload_n (pc' := 79) hC 0 dX12_join_78 rfl rfl rfl ?_
                    refine j_get (pc' := 82) hC ly_X12 (M_at_0 d _) rfl 38 (by decide) fl_X12_79 rfl dX12_join_79 rfl ?_
                    refine j_iload_n (pc' := 83) hC 2 dX12_join_82 rfl rfl rfl ?_
                    refine j_iald (pc' := 84) hC (M_at_21 d _) dX12_join_83 rfl ?_
                    refine j_iload (pc' := 86) hC 6 dX12_join_84 rfl rfl ?_
                    refine j_icmp_lt (pc' := 89) (tgt := 92) hC dX12_join_86 (by decide) rfl ?_ ?_
                    · exact j_lv (lv' := [(0, .ref (d.2.1 0)), (1, .int p1), (2, .int p2), (3, .int p3), (4, .int (σ.1 7 (p2).toNatClampNeg)), (7, .int a.2.2.2)]) [0, 1, 2, 3, 4, 7] rfl (hj92 ())
                    · refine j_goto (tgt := 104) hC dX12_join_89 (by decide) ?_
                      exact j_lv (lv' := [(0, .ref (d.2.1 0)), (1, .int p1), (2, .int p2), (3, .int p3), (4, .int (σ.1 7 (p2).toNatClampNeg)), (5, .int a.2.1), (6, .int a.2.2.1), (7, .int a.2.2.2)]) [0, 1, 2, 3, 4, 5, 6, 7] rfl (hj104 (a.2.1, a.2.2.1))
      · refine j_iconst (pc' := 25) (v := (-1 : Int32)) hC dX12_join_24 (by decide) rfl ?_
        exact j_ret_i hC dX12_join_25
theorem hyV_X12_haveAll : yX12_haveAll.cls = RX12 ∧ yX12_haveAll.cls ≠ "java/lang/invoke/MethodHandle" ∧ yX12_haveAll.cls ≠ "java/lang/invoke/VarHandle" ∧ (parseMethodDescriptor yX12_haveAll.desc).map (fun d => d.parameters.length) = some 1 := ⟨rfl, by decide +kernel, by decide +kernel, by decide +kernel⟩
noncomputable def fX12_haveAll_B7 (q1 : jS) (s7 : Int32 → Option (Int32 × jS)) (a : Int32) : Option (Int32 × jS) :=
  (if (q1.1 0 2) ≤ a then (some ((1 : Int32), q1)) else (ob a 9 (jlet (fun (a36 : Unit) => (s7 (a + (1 : Int32)))) fun (j36 : (Unit → Option (Int32 × jS))) => (if (3 : Int32) ≤ (q1.1 7 (a).toNatClampNeg) then (j36 ()) else (ob a 9 (if (q1.1 20 (a).toNatClampNeg) = 0 then (some ((0 : Int32), q1)) else (j36 ())))))))
noncomputable def fX12_haveAll (σ : jS) (p1 : Int32) : Option (Int32 × jS) :=
  (Option.bind (fX12_goAfternoon σ p1) fun (q1 : jS) => (jloop (fX12_haveAll_B7 q1) jN (0 : Int32)))
set_option maxRecDepth 100000 in
set_option maxHeartbeats 4000000 in
theorem kX12_haveAll (l : Launch) (d : jD) (A : Nat → Prop) (σ : jS) (p1 : Int32) : jMz l yX12_haveAll (jws yX12_haveAll cX12_haveAll 3 (some (.boolean))) { frames := 10, cells := 0, slots := 0, locals := 320 } d wM A [.ref (d.2.1 0), .int p1] σ (fX12_haveAll σ p1) := by
  refine jStart_z (lv0 := [(0, .ref (d.2.1 0)), (1, .int p1)]) (by decide) rfl (Nat.le_of_ble_eq_true rfl) rfl (fun z hC res => ?_)
  unfold fX12_haveAll
  refine j_aload_n (pc' := 1) hC 0 dX12_haveAll_0 rfl rfl rfl ?_
  refine j_iload_n (pc' := 2) hC 1 dX12_haveAll_1 rfl rfl rfl ?_
  refine j_callV_v (pc' := 5) (As := [.int p1]) (st := []) hC (M_at_0 d _) rfl (kX12_goAfternoon l d A _ _) (jgV ml_X12_314 im_X12_goAfternoon se_X12_goAfternoon in_X12 cd_X12_goAfternoon) rfl rfl rfl hyV_X12_goAfternoon ⟨Nat.le_of_ble_eq_true rfl, Nat.le_of_ble_eq_true rfl⟩ rfl rfl (Nat.le_of_ble_eq_true rfl) dX12_haveAll_2 rfl (fun q1 => ?_)
  refine j_iconst (pc' := 6) (v := (0 : Int32)) hC dX12_haveAll_5 (by decide) rfl ?_
  refine j_istore_n (pc' := 7) (lv' := [(2, .int (0 : Int32)), (0, .ref (d.2.1 0)), (1, .int p1)]) hC dX12_haveAll_6 rfl (by decide) rfl rfl ?_
  refine j_lv (lv' := [(0, .ref (d.2.1 0)), (2, .int (0 : Int32))]) [1, 0] rfl ?_
  refine j_loop 7 (fun a => q1) (fun a => [(0, .ref (d.2.1 0)), (2, .int a)]) (fun s7 hs7 a => ?_) jN (0 : Int32)
  unfold fX12_haveAll_B7
  refine j_iload_n (pc' := 8) hC 1 dX12_haveAll_7 rfl rfl rfl ?_
  refine j_aload_n (pc' := 9) hC 0 dX12_haveAll_8 rfl rfl rfl ?_
  refine j_get (pc' := 12) hC ly_X12 (M_at_0 d _) rfl 2 (by decide) fl_X12_125 rfl dX12_haveAll_9 rfl ?_
  refine j_icmp_ge (pc' := 15) (tgt := 42) hC dX12_haveAll_12 (by decide) rfl ?_ ?_
  · refine j_iconst (pc' := 43) (v := (1 : Int32)) hC dX12_haveAll_42 (by decide) rfl ?_
    exact j_ret_z hC (by decide) dX12_haveAll_43
  · refine j_aload_n (pc' := 16) hC 0 dX12_haveAll_15 rfl rfl rfl ?_
    refine j_get (pc' := 19) hC ly_X12 (M_at_0 d _) rfl 8 (by decide) fl_X12_28 rfl dX12_haveAll_16 rfl ?_
    refine j_iload_n (pc' := 20) hC 1 dX12_haveAll_19 rfl rfl rfl ?_
    refine j_iald (pc' := 21) hC (M_at_7 d _) dX12_haveAll_20 rfl ?_
    refine j_iconst (pc' := 22) (v := (3 : Int32)) hC dX12_haveAll_21 (by decide) rfl ?_
    refine j_let 36 (fun a36 => q1) (fun a36 => [(0, .ref (d.2.1 0)), (2, .int a)]) (fun a36 => []) (fun a36 => ?_) (fun j36 hj36 => ?_)
    · refine j_iinc (pc' := 39) (v := (a + (1 : Int32))) (lv' := [(2, .int (a + (1 : Int32))), (0, .ref (d.2.1 0))]) hC 1 dX12_haveAll_36 rfl (by decide) rfl rfl rfl ?_
      refine j_goto (tgt := 7) hC dX12_haveAll_39 (by decide) ?_
      exact j_lv (lv' := [(0, .ref (d.2.1 0)), (2, .int (a + (1 : Int32)))]) [1, 0] rfl (hs7 (a + (1 : Int32)))
    · refine j_icmp_ge (pc' := 25) (tgt := 36) hC dX12_haveAll_22 (by decide) rfl ?_ ?_
      · exact j_lv (lv' := [(0, .ref (d.2.1 0)), (2, .int a)]) [0, 1] rfl (hj36 ())
      · refine j_aload_n (pc' := 26) hC 0 dX12_haveAll_25 rfl rfl rfl ?_
        refine j_get (pc' := 29) hC ly_X12 (M_at_0 d _) rfl 37 (by decide) fl_X12_76 rfl dX12_haveAll_26 rfl ?_
        refine j_iload_n (pc' := 30) hC 1 dX12_haveAll_29 rfl rfl rfl ?_
        refine j_iald (pc' := 31) hC (M_at_20 d _) dX12_haveAll_30 rfl ?_
        refine j_if_ne (pc' := 34) (tgt := 36) hC dX12_haveAll_31 (by decide) rfl ?_ ?_
        · exact j_lv (lv' := [(0, .ref (d.2.1 0)), (2, .int a)]) [0, 1] rfl (hj36 ())
        · refine j_iconst (pc' := 35) (v := (0 : Int32)) hC dX12_haveAll_34 (by decide) rfl ?_
          exact j_ret_z hC (by decide) dX12_haveAll_35
theorem hyV_X12_each : yX12_each.cls = RX12 ∧ yX12_each.cls ≠ "java/lang/invoke/MethodHandle" ∧ yX12_each.cls ≠ "java/lang/invoke/VarHandle" ∧ (parseMethodDescriptor yX12_each.desc).map (fun d => d.parameters.length) = some 1 := ⟨rfl, by decide +kernel, by decide +kernel, by decide +kernel⟩
noncomputable def fX12_each_B23 (σ : jS) (p1 : Int32) (s23 : jS × Int32 → Option (Int32 × jS)) (a : jS × Int32) : Option (Int32 × jS) :=
  (if (a.1.1 0 10) < (1 : Int32) then (jst (ju a.1 0 10 (σ.1 0 10)) fun (σ3 : jS) => (some (a.2, σ3))) else (if 0 ≤ a.2 then (jst (ju a.1 0 10 (σ.1 0 10)) fun (σ4 : jS) => (some (a.2, σ4))) else (Option.bind (fX12_haveAll a.1 p1) fun (q5 : (Int32 × jS)) => (jlet (fun (a48 : Int32) => (jst (ju q5.2 0 10 ((q5.2.1 0 10) - (1 : Int32))) fun (σ6 : jS) => (s23 (σ6, a48)))) fun (j48 : (Int32 → Option (Int32 × jS))) => (if (jb q5.1) = 0 then (j48 a.2) else (j48 (q5.2.1 0 10)))))))
noncomputable def fX12_each (σ : jS) (p1 : Int32) : Option (Int32 × jS) :=
  (Option.bind (fX12_isBell σ p1) fun (q1 : Int32) => (if (jb q1) = 0 then (some ((-1 : Int32), σ)) else (jst (ju σ 0 10 (30 : Int32)) fun (σ2 : jS) => (jloop (fX12_each_B23 σ p1) jN (σ2, (-2 : Int32))))))
set_option maxRecDepth 100000 in
set_option maxHeartbeats 4000000 in
theorem kX12_each (l : Launch) (d : jD) (A : Nat → Prop) (σ : jS) (p1 : Int32) : jMi l yX12_each (jws yX12_each cX12_each 4 (some (.int))) { frames := 11, cells := 0, slots := 0, locals := 342 } d wM A [.ref (d.2.1 0), .int p1] σ (fX12_each σ p1) := by
  refine jStart_i (lv0 := [(0, .ref (d.2.1 0)), (1, .int p1)]) (by decide) rfl (Nat.le_of_ble_eq_true rfl) rfl (fun z hC res => ?_)
  unfold fX12_each
  refine j_iload_n (pc' := 1) hC 1 dX12_each_0 rfl rfl rfl ?_
  refine j_callS_zr (pc' := 4) (As := [.int p1]) (st := []) hC (kX12_isBell l d A _ _) (jgS ml_X12_311 st_X12_isBell in_X12 cd_X12_isBell) rfl rfl rfl hyS_X12_isBell ⟨Nat.le_of_ble_eq_true rfl, Nat.le_of_ble_eq_true rfl⟩ rfl rfl (Nat.le_of_ble_eq_true rfl) dX12_each_1 rfl (fun q1 => ?_)
  refine j_if_ne (pc' := 7) (tgt := 9) hC dX12_each_4 (by decide) rfl ?_ ?_
  · refine j_aload_n (pc' := 10) hC 0 dX12_each_9 rfl rfl rfl ?_
    refine j_get (pc' := 13) hC ly_X12 (M_at_0 d _) rfl 10 (by decide) fl_X12_35 rfl dX12_each_10 rfl ?_
    refine j_istore_n (pc' := 14) (lv' := [(2, .int (σ.1 0 10)), (0, .ref (d.2.1 0)), (1, .int p1)]) hC dX12_each_13 rfl (by decide) rfl rfl ?_
    refine j_bipush (pc' := 16) (v := (-2 : Int32)) hC dX12_each_14 (by decide) rfl ?_
    refine j_istore_n (pc' := 17) (lv' := [(3, .int (-2 : Int32)), (2, .int (σ.1 0 10)), (0, .ref (d.2.1 0)), (1, .int p1)]) hC dX12_each_16 rfl (by decide) rfl rfl ?_
    refine j_aload_n (pc' := 18) hC 2 dX12_each_17 rfl rfl rfl ?_
    refine j_bipush (pc' := 20) (v := (30 : Int32)) hC dX12_each_18 (by decide) rfl ?_
    refine j_put (pc' := 23) hC ly_X12 tyX12 tyX12_ok nmX12 (M_at_0 d _) rfl 10 (by decide) fl_X12_35 rfl rfl rfl rfl (Nat.le_of_ble_eq_true rfl) (M_sf_0_10 d _ _) dX12_each_20 rfl ?_
    refine j_st (fun σ2 => ?_)
    refine j_lv (lv' := [(0, .ref (d.2.1 0)), (1, .int p1), (2, .int (σ.1 0 10)), (3, .int (-2 : Int32))]) [2, 3, 1, 0] rfl ?_
    refine j_loop 23 (fun a => a.1) (fun a => [(0, .ref (d.2.1 0)), (1, .int p1), (2, .int (σ.1 0 10)), (3, .int a.2)]) (fun s23 hs23 a => ?_) jN (σ2, (-2 : Int32))
    unfold fX12_each_B23
    refine j_aload_n (pc' := 24) hC 0 dX12_each_23 rfl rfl rfl ?_
    refine j_get (pc' := 27) hC ly_X12 (M_at_0 d _) rfl 10 (by decide) fl_X12_35 rfl dX12_each_24 rfl ?_
    refine j_iconst (pc' := 28) (v := (1 : Int32)) hC dX12_each_27 (by decide) rfl ?_
    refine j_icmp_lt (pc' := 31) (tgt := 61) hC dX12_each_28 (by decide) rfl ?_ ?_
    · refine j_aload_n (pc' := 62) hC 0 dX12_each_61 rfl rfl rfl ?_
      refine j_iload_n (pc' := 63) hC 2 dX12_each_62 rfl rfl rfl ?_
      refine j_put (pc' := 66) hC ly_X12 tyX12 tyX12_ok nmX12 (M_at_0 d _) rfl 10 (by decide) fl_X12_35 rfl rfl rfl rfl (Nat.le_of_ble_eq_true rfl) (M_sf_0_10 d _ _) dX12_each_63 rfl ?_
      refine j_st (fun σ3 => ?_)
      refine j_iload_n (pc' := 67) hC 3 dX12_each_66 rfl rfl rfl ?_
      exact j_ret_i hC dX12_each_67
    · refine j_iload_n (pc' := 32) hC 3 dX12_each_31 rfl rfl rfl ?_
      refine j_if_ge (pc' := 35) (tgt := 61) hC dX12_each_32 (by decide) rfl ?_ ?_
      · refine j_aload_n (pc' := 62) hC 0 dX12_each_61 rfl rfl rfl ?_
        refine j_iload_n (pc' := 63) hC 2 dX12_each_62 rfl rfl rfl ?_
        refine j_put (pc' := 66) hC ly_X12 tyX12 tyX12_ok nmX12 (M_at_0 d _) rfl 10 (by decide) fl_X12_35 rfl rfl rfl rfl (Nat.le_of_ble_eq_true rfl) (M_sf_0_10 d _ _) dX12_each_63 rfl ?_
        refine j_st (fun σ4 => ?_)
        refine j_iload_n (pc' := 67) hC 3 dX12_each_66 rfl rfl rfl ?_
        exact j_ret_i hC dX12_each_67
      · refine j_aload_n (pc' := 36) hC 0 dX12_each_35 rfl rfl rfl ?_
        refine j_iload_n (pc' := 37) hC 1 dX12_each_36 rfl rfl rfl ?_
        refine j_callV_z (pc' := 40) (As := [.int p1]) (st := []) hC (M_at_0 d _) rfl (kX12_haveAll l d A _ _) (jgV ml_X12_317 im_X12_haveAll se_X12_haveAll in_X12 cd_X12_haveAll) rfl rfl rfl hyV_X12_haveAll ⟨Nat.le_of_ble_eq_true rfl, Nat.le_of_ble_eq_true rfl⟩ rfl rfl (Nat.le_of_ble_eq_true rfl) dX12_each_37 rfl (fun q5 => ?_)
        refine j_let 48 (fun a48 => q5.2) (fun a48 => [(0, .ref (d.2.1 0)), (1, .int p1), (2, .int (σ.1 0 10)), (3, .int a48)]) (fun a48 => []) (fun a48 => ?_) (fun j48 hj48 => ?_)
        · refine j_aload_n (pc' := 49) hC 0 dX12_each_48 rfl rfl rfl ?_
          refine j_dup (pc' := 50) hC rfl dX12_each_49 rfl ?_
          refine j_get (pc' := 53) hC ly_X12 (M_at_0 d _) rfl 10 (by decide) fl_X12_35 rfl dX12_each_50 rfl ?_
          refine j_iconst (pc' := 54) (v := (1 : Int32)) hC dX12_each_53 (by decide) rfl ?_
          refine j_isub (pc' := 55) hC dX12_each_54 rfl ?_
          refine j_put (pc' := 58) hC ly_X12 tyX12 tyX12_ok nmX12 (M_at_0 d _) rfl 10 (by decide) fl_X12_35 rfl rfl rfl rfl (Nat.le_of_ble_eq_true rfl) (M_sf_0_10 d _ _) dX12_each_55 rfl ?_
          refine j_st (fun σ6 => ?_)
          refine j_goto (tgt := 23) hC dX12_each_58 (by decide) ?_
          exact j_lv (lv' := [(0, .ref (d.2.1 0)), (1, .int p1), (2, .int (σ.1 0 10)), (3, .int a48)]) [0, 1, 2, 3] rfl (hs23 (σ6, a48))
        · refine j_if_eq (pc' := 43) (tgt := 48) hC dX12_each_40 (by decide) rfl ?_ ?_
          · exact j_lv (lv' := [(0, .ref (d.2.1 0)), (1, .int p1), (2, .int (σ.1 0 10)), (3, .int a.2)]) [0, 1, 2, 3] rfl (hj48 a.2)
          · refine j_aload_n (pc' := 44) hC 0 dX12_each_43 rfl rfl rfl ?_
            refine j_get (pc' := 47) hC ly_X12 (M_at_0 d _) rfl 10 (by decide) fl_X12_35 rfl dX12_each_44 rfl ?_
            refine j_istore_n (pc' := 48) (lv' := [(3, .int (q5.2.1 0 10)), (0, .ref (d.2.1 0)), (1, .int p1), (2, .int (σ.1 0 10))]) hC dX12_each_47 rfl (by decide) rfl rfl ?_
            exact j_lv (lv' := [(0, .ref (d.2.1 0)), (1, .int p1), (2, .int (σ.1 0 10)), (3, .int (q5.2.1 0 10))]) [1, 2, 3, 0] rfl (hj48 (q5.2.1 0 10))
  · refine j_iconst (pc' := 8) (v := (-1 : Int32)) hC dX12_each_7 (by decide) rfl ?_
    exact j_ret_i hC dX12_each_8
theorem hyV_X12_waitsOf : yX12_waitsOf.cls = RX12 ∧ yX12_waitsOf.cls ≠ "java/lang/invoke/MethodHandle" ∧ yX12_waitsOf.cls ≠ "java/lang/invoke/VarHandle" ∧ (parseMethodDescriptor yX12_waitsOf.desc).map (fun d => d.parameters.length) = some 1 := ⟨rfl, by decide +kernel, by decide +kernel, by decide +kernel⟩
noncomputable def fX12_waitsOf_B7 (p1 : Int32) (s7 : jS × Int32 × Int32 × Int32 → Option (Int32 × jS)) (a : jS × Int32 × Int32 × Int32) : Option (Int32 × jS) :=
  (if (a.1.1 0 42) ≤ a.2.2.2 then (some (a.2.2.1, a.1)) else (ob a.2.2.2 9 (jlet (fun (a56 : Int32) => (Option.bind (fX12_goTurn a.1 p1 (a.1.1 24 (a.2.2.2).toNatClampNeg) a56 ((a.1.1 0 42) - (1 : Int32))) fun (q1 : jS) => (s7 (q1, (a.2.1 + (q1.1 0 35)), (a.2.2.1 + a.2.1), (a.2.2.2 + (1 : Int32)))))) fun (j56 : (Int32 → Option (Int32 × jS))) => (if (a.1.1 0 42) = (1 : Int32) then (j56 (9 : Int32)) else (od (a.1.1 0 42) (ob ((a.2.2.2 + (1 : Int32)) - (a.2.2.2 + (1 : Int32)) / (a.1.1 0 42) * (a.1.1 0 42)) 9 (j56 (a.1.1 24 (((a.2.2.2 + (1 : Int32)) - (a.2.2.2 + (1 : Int32)) / (a.1.1 0 42) * (a.1.1 0 42))).toNatClampNeg))))))))
noncomputable def fX12_waitsOf (σ : jS) (p1 : Int32) : Option (Int32 × jS) :=
  (jloop (fX12_waitsOf_B7 p1) jN (σ, (0 : Int32), (0 : Int32), (0 : Int32)))
set_option maxRecDepth 100000 in
set_option maxHeartbeats 4000000 in
theorem kX12_waitsOf (l : Launch) (d : jD) (A : Nat → Prop) (σ : jS) (p1 : Int32) : jMi l yX12_waitsOf (jws yX12_waitsOf cX12_waitsOf 5 (some (.int))) { frames := 7, cells := 0, slots := 0, locals := 252 } d wM A [.ref (d.2.1 0), .int p1] σ (fX12_waitsOf σ p1) := by
  refine jStart_i (lv0 := [(0, .ref (d.2.1 0)), (1, .int p1)]) (by decide) rfl (Nat.le_of_ble_eq_true rfl) rfl (fun z hC res => ?_)
  unfold fX12_waitsOf
  refine j_iconst (pc' := 1) (v := (0 : Int32)) hC dX12_waitsOf_0 (by decide) rfl ?_
  refine j_istore_n (pc' := 2) (lv' := [(2, .int (0 : Int32)), (0, .ref (d.2.1 0)), (1, .int p1)]) hC dX12_waitsOf_1 rfl (by decide) rfl rfl ?_
  refine j_iconst (pc' := 3) (v := (0 : Int32)) hC dX12_waitsOf_2 (by decide) rfl ?_
  refine j_istore_n (pc' := 4) (lv' := [(3, .int (0 : Int32)), (2, .int (0 : Int32)), (0, .ref (d.2.1 0)), (1, .int p1)]) hC dX12_waitsOf_3 rfl (by decide) rfl rfl ?_
  refine j_iconst (pc' := 5) (v := (0 : Int32)) hC dX12_waitsOf_4 (by decide) rfl ?_
  refine j_istore (pc' := 7) (lv' := [(4, .int (0 : Int32)), (3, .int (0 : Int32)), (2, .int (0 : Int32)), (0, .ref (d.2.1 0)), (1, .int p1)]) hC dX12_waitsOf_5 (by decide) rfl rfl ?_
  refine j_lv (lv' := [(0, .ref (d.2.1 0)), (1, .int p1), (2, .int (0 : Int32)), (3, .int (0 : Int32)), (4, .int (0 : Int32))]) [3, 4, 2, 1, 0] rfl ?_
  refine j_loop 7 (fun a => a.1) (fun a => [(0, .ref (d.2.1 0)), (1, .int p1), (2, .int a.2.1), (3, .int a.2.2.1), (4, .int a.2.2.2)]) (fun s7 hs7 a => ?_) jN (σ, (0 : Int32), (0 : Int32), (0 : Int32))
  unfold fX12_waitsOf_B7
  refine j_iload (pc' := 9) hC 4 dX12_waitsOf_7 rfl rfl ?_
  refine j_aload_n (pc' := 10) hC 0 dX12_waitsOf_9 rfl rfl rfl ?_
  refine j_get (pc' := 13) hC ly_X12 (M_at_0 d _) rfl 42 (by decide) fl_X12_292 rfl dX12_waitsOf_10 rfl ?_
  refine j_icmp_ge (pc' := 16) (tgt := 78) hC dX12_waitsOf_13 (by decide) rfl ?_ ?_
  · refine j_iload_n (pc' := 79) hC 3 dX12_waitsOf_78 rfl rfl rfl ?_
    exact j_ret_i hC dX12_waitsOf_79
  · refine j_iload_n (pc' := 17) hC 3 dX12_waitsOf_16 rfl rfl rfl ?_
    refine j_iload_n (pc' := 18) hC 2 dX12_waitsOf_17 rfl rfl rfl ?_
    refine j_iadd (pc' := 19) hC dX12_waitsOf_18 rfl ?_
    refine j_istore_n (pc' := 20) (lv' := [(3, .int (a.2.2.1 + a.2.1)), (0, .ref (d.2.1 0)), (1, .int p1), (2, .int a.2.1), (4, .int a.2.2.2)]) hC dX12_waitsOf_19 rfl (by decide) rfl rfl ?_
    refine j_aload_n (pc' := 21) hC 1 dX12_waitsOf_20 rfl rfl rfl ?_
    refine j_iload_n (pc' := 22) hC 2 dX12_waitsOf_21 rfl rfl rfl ?_
    refine j_aload_n (pc' := 23) hC 1 dX12_waitsOf_22 rfl rfl rfl ?_
    refine j_get (pc' := 26) hC ly_X12 (M_at_0 d _) rfl 41 (by decide) fl_X12_88 rfl dX12_waitsOf_23 rfl ?_
    refine j_iload (pc' := 28) hC 4 dX12_waitsOf_26 rfl rfl ?_
    refine j_iald (pc' := 29) hC (M_at_24 d _) dX12_waitsOf_28 rfl ?_
    refine j_aload_n (pc' := 30) hC 1 dX12_waitsOf_29 rfl rfl rfl ?_
    refine j_get (pc' := 33) hC ly_X12 (M_at_0 d _) rfl 42 (by decide) fl_X12_292 rfl dX12_waitsOf_30 rfl ?_
    refine j_iconst (pc' := 34) (v := (1 : Int32)) hC dX12_waitsOf_33 (by decide) rfl ?_
    refine j_let 56 (fun a56 => a.1) (fun a56 => [(0, .ref (d.2.1 0)), (1, .int p1), (2, .int a.2.1), (3, .int (a.2.2.1 + a.2.1)), (4, .int a.2.2.2)]) (fun a56 => [.int a56, .int (a.1.1 24 (a.2.2.2).toNatClampNeg), .int p1, .ref (d.2.1 0)]) (fun a56 => ?_) (fun j56 hj56 => ?_)
    · refine j_aload_n (pc' := 57) hC 0 dX12_waitsOf_56 rfl rfl rfl ?_
      refine j_get (pc' := 60) hC ly_X12 (M_at_0 d _) rfl 42 (by decide) fl_X12_292 rfl dX12_waitsOf_57 rfl ?_
      refine j_iconst (pc' := 61) (v := (1 : Int32)) hC dX12_waitsOf_60 (by decide) rfl ?_
      refine j_isub (pc' := 62) hC dX12_waitsOf_61 rfl ?_
      refine j_callV_v (pc' := 65) (As := [.int p1, .int (a.1.1 24 (a.2.2.2).toNatClampNeg), .int a56, .int ((a.1.1 0 42) - (1 : Int32))]) (st := []) hC (M_at_0 d _) rfl (kX12_goTurn l d A _ _ _ _ _) (jgV ml_X12_278 im_X12_goTurn se_X12_goTurn in_X12 cd_X12_goTurn) rfl rfl rfl hyV_X12_goTurn ⟨Nat.le_of_ble_eq_true rfl, Nat.le_of_ble_eq_true rfl⟩ rfl rfl (Nat.le_of_ble_eq_true rfl) dX12_waitsOf_62 rfl (fun q1 => ?_)
      refine j_iload_n (pc' := 66) hC 2 dX12_waitsOf_65 rfl rfl rfl ?_
      refine j_aload_n (pc' := 67) hC 0 dX12_waitsOf_66 rfl rfl rfl ?_
      refine j_get (pc' := 70) hC ly_X12 (M_at_0 d _) rfl 35 (by decide) fl_X12_260 rfl dX12_waitsOf_67 rfl ?_
      refine j_iadd (pc' := 71) hC dX12_waitsOf_70 rfl ?_
      refine j_istore_n (pc' := 72) (lv' := [(2, .int (a.2.1 + (q1.1 0 35))), (0, .ref (d.2.1 0)), (1, .int p1), (3, .int (a.2.2.1 + a.2.1)), (4, .int a.2.2.2)]) hC dX12_waitsOf_71 rfl (by decide) rfl rfl ?_
      refine j_iinc (pc' := 75) (v := (a.2.2.2 + (1 : Int32))) (lv' := [(4, .int (a.2.2.2 + (1 : Int32))), (2, .int (a.2.1 + (q1.1 0 35))), (0, .ref (d.2.1 0)), (1, .int p1), (3, .int (a.2.2.1 + a.2.1))]) hC 4 dX12_waitsOf_72 rfl (by decide) rfl rfl rfl ?_
      refine j_goto (tgt := 7) hC dX12_waitsOf_75 (by decide) ?_
      exact j_lv (lv' := [(0, .ref (d.2.1 0)), (1, .int p1), (2, .int (a.2.1 + (q1.1 0 35))), (3, .int (a.2.2.1 + a.2.1)), (4, .int (a.2.2.2 + (1 : Int32)))]) [2, 3, 1, 4, 0] rfl (hs7 (q1, (a.2.1 + (q1.1 0 35)), (a.2.2.1 + a.2.1), (a.2.2.2 + (1 : Int32))))
    · refine j_icmp_ne (pc' := 37) (tgt := 42) hC dX12_waitsOf_34 (by decide) rfl ?_ ?_
      · refine j_aload_n (pc' := 43) hC 1 dX12_waitsOf_42 rfl rfl rfl ?_
        refine j_get (pc' := 46) hC ly_X12 (M_at_0 d _) rfl 41 (by decide) fl_X12_88 rfl dX12_waitsOf_43 rfl ?_
        refine j_iload (pc' := 48) hC 4 dX12_waitsOf_46 rfl rfl ?_
        refine j_iconst (pc' := 49) (v := (1 : Int32)) hC dX12_waitsOf_48 (by decide) rfl ?_
        refine j_iadd (pc' := 50) hC dX12_waitsOf_49 rfl ?_
        refine j_aload_n (pc' := 51) hC 1 dX12_waitsOf_50 rfl rfl rfl ?_
        refine j_get (pc' := 54) hC ly_X12 (M_at_0 d _) rfl 42 (by decide) fl_X12_292 rfl dX12_waitsOf_51 rfl ?_
        refine j_irem (pc' := 55) hC dX12_waitsOf_54 rfl ?_
        refine j_iald (pc' := 56) hC (M_at_24 d _) dX12_waitsOf_55 rfl ?_
        exact j_lv (lv' := [(0, .ref (d.2.1 0)), (1, .int p1), (2, .int a.2.1), (3, .int (a.2.2.1 + a.2.1)), (4, .int a.2.2.2)]) [1, 2, 3, 0, 4] rfl (hj56 (a.1.1 24 (((a.2.2.2 + (1 : Int32)) - (a.2.2.2 + (1 : Int32)) / (a.1.1 0 42) * (a.1.1 0 42))).toNatClampNeg))
      · refine j_bipush (pc' := 39) (v := (9 : Int32)) hC dX12_waitsOf_37 (by decide) rfl ?_
        refine j_goto (tgt := 56) hC dX12_waitsOf_39 (by decide) ?_
        exact j_lv (lv' := [(0, .ref (d.2.1 0)), (1, .int p1), (2, .int a.2.1), (3, .int (a.2.2.1 + a.2.1)), (4, .int a.2.2.2)]) [1, 2, 3, 0, 4] rfl (hj56 (9 : Int32))
theorem hyV_X12_goOrders : yX12_goOrders.cls = RX12 ∧ yX12_goOrders.cls ≠ "java/lang/invoke/MethodHandle" ∧ yX12_goOrders.cls ≠ "java/lang/invoke/VarHandle" ∧ (parseMethodDescriptor yX12_goOrders.desc).map (fun d => d.parameters.length) = some 3 := ⟨rfl, by decide +kernel, by decide +kernel, by decide +kernel⟩
noncomputable def fX12_goOrders_B74 (p1 : Int32) (p2 : Int32) (p3 : Int32) (r : (jS → Int32 → Int32 → Int32 → Option (jS))) (s74 : jS × Int32 → Option (jS)) (a : jS × Int32) : Option (jS) :=
  (if (a.1.1 0 42) ≤ a.2 then (some a.1) else (jlet (fun (a123 : jS) => (s74 (a123, (a.2 + (1 : Int32))))) fun (j123 : (jS → Option (jS))) => (if ((p3 >>> (a.2 &&& 31)) &&& (1 : Int32)) = (1 : Int32) then (j123 a.1) else (ob a.2 9 (ob p2 9 (jst (ju a.1 24 (p2).toNatClampNeg (a.1.1 25 (a.2).toNatClampNeg)) fun (σ1 : jS) => (Option.bind (r σ1 p1 (p2 + (1 : Int32)) (p3 ||| ((1 : Int32) <<< (a.2 &&& 31)))) fun (q2 : jS) => (j123 q2))))))))
noncomputable def fX12_goOrders_B41 (s41 : jS × Int32 → Option (jS)) (a : jS × Int32) : Option (jS) :=
  (if (a.1.1 0 42) ≤ a.2 then (some a.1) else (ob a.2 9 (ob a.2 9 (jst (ju a.1 26 (a.2).toNatClampNeg (a.1.1 24 (a.2).toNatClampNeg)) fun (σ5 : jS) => (s41 (σ5, (a.2 + (1 : Int32))))))))
noncomputable def bX12_goOrders (r : (jS → Int32 → Int32 → Int32 → Option (jS))) (σ : jS) (p1 : Int32) (p2 : Int32) (p3 : Int32) : Option (jS) :=
  (if p2 = (σ.1 0 42) then (Option.bind (fX12_waitsOf σ p1) fun (q3 : (Int32 × jS)) => (jlet (fun (a32 : Unit) => (jst (ju q3.2 0 45 q3.1) fun (σ4 : jS) => (jloop (fX12_goOrders_B41) jN (σ4, (0 : Int32))))) fun (j32 : (Unit → Option (jS))) => (if (q3.2.1 0 45) < 0 then (j32 ()) else (if q3.1 < (q3.2.1 0 45) then (j32 ()) else (some q3.2))))) else (jloop (fX12_goOrders_B74 p1 p2 p3 r) jN (σ, (0 : Int32))))
noncomputable def gX12o : Nat → (jS → Int32 → Int32 → Int32 → Option (jS))
  | 0 => (fun _ _ _ _ => none)
  | n + 1 => bX12_goOrders (gX12o n)
set_option maxRecDepth 100000 in
set_option maxHeartbeats 8000000 in
theorem kgX12o (l : Launch) (d : jD) (A : Nat → Prop) : ∀ n : Nat, (∀ (σ : jS) (p1 : Int32) (p2 : Int32) (p3 : Int32), jMv l yX12_goOrders (jws yX12_goOrders cX12_goOrders 6 none) { frames := 7 + n, cells := 0, slots := 0, locals := 276 + 25 * n } d wM A [.ref (d.2.1 0), .int p1, .int p2, .int p3] σ ((gX12o n) σ p1 p2 p3)) := by
  intro n
  induction n with
  | zero => exact (fun _ _ _ _  res h => by have h2 : (none : Option (jS)) = some res := h; cases h2)
  | succ n ih =>
    · intro σ p1 p2 p3
      refine jStart_v (lv0 := [(0, .ref (d.2.1 0)), (1, .int p1), (2, .int p2), (3, .int p3)]) (by decide) rfl (Nat.le_of_ble_eq_true rfl) rfl (fun z hC res => ?_)
      show jJ z d wM A _ _ res σ (bX12_goOrders (gX12o n) σ p1 p2 p3) 0 _ _
      unfold bX12_goOrders
      refine j_iload_n (pc' := 1) hC 2 dX12_goOrders_0 rfl rfl rfl ?_
      refine j_aload_n (pc' := 2) hC 0 dX12_goOrders_1 rfl rfl rfl ?_
      refine j_get (pc' := 5) hC ly_X12 (M_at_0 d _) rfl 42 (by decide) fl_X12_292 rfl dX12_goOrders_2 rfl ?_
      refine j_icmp_ne (pc' := 8) (tgt := 71) hC dX12_goOrders_5 (by decide) rfl ?_ ?_
      · refine j_iconst (pc' := 72) (v := (0 : Int32)) hC dX12_goOrders_71 (by decide) rfl ?_
        refine j_istore (pc' := 74) (lv' := [(4, .int (0 : Int32)), (0, .ref (d.2.1 0)), (1, .int p1), (2, .int p2), (3, .int p3)]) hC dX12_goOrders_72 (by decide) rfl rfl ?_
        refine j_lv (lv' := [(0, .ref (d.2.1 0)), (1, .int p1), (2, .int p2), (3, .int p3), (4, .int (0 : Int32))]) [1, 2, 3, 4, 0] rfl ?_
        refine j_loop 74 (fun a => a.1) (fun a => [(0, .ref (d.2.1 0)), (1, .int p1), (2, .int p2), (3, .int p3), (4, .int a.2)]) (fun s74 hs74 a => ?_) jN (σ, (0 : Int32))
        unfold fX12_goOrders_B74
        refine j_iload (pc' := 76) hC 4 dX12_goOrders_74 rfl rfl ?_
        refine j_aload_n (pc' := 77) hC 0 dX12_goOrders_76 rfl rfl rfl ?_
        refine j_get (pc' := 80) hC ly_X12 (M_at_0 d _) rfl 42 (by decide) fl_X12_292 rfl dX12_goOrders_77 rfl ?_
        refine j_icmp_ge (pc' := 83) (tgt := 129) hC dX12_goOrders_80 (by decide) rfl ?_ ?_
        · exact j_ret_v hC dX12_goOrders_129
        · refine j_iload_n (pc' := 84) hC 3 dX12_goOrders_83 rfl rfl rfl ?_
          refine j_iload (pc' := 86) hC 4 dX12_goOrders_84 rfl rfl ?_
          refine j_ishr (pc' := 87) hC dX12_goOrders_86 rfl ?_
          refine j_iconst (pc' := 88) (v := (1 : Int32)) hC dX12_goOrders_87 (by decide) rfl ?_
          refine j_iand (pc' := 89) hC dX12_goOrders_88 rfl ?_
          refine j_iconst (pc' := 90) (v := (1 : Int32)) hC dX12_goOrders_89 (by decide) rfl ?_
          refine j_let 123 (fun a123 => a123) (fun a123 => [(0, .ref (d.2.1 0)), (1, .int p1), (2, .int p2), (3, .int p3), (4, .int a.2)]) (fun a123 => []) (fun a123 => ?_) (fun j123 hj123 => ?_)
          · refine j_iinc (pc' := 126) (v := (a.2 + (1 : Int32))) (lv' := [(4, .int (a.2 + (1 : Int32))), (0, .ref (d.2.1 0)), (1, .int p1), (2, .int p2), (3, .int p3)]) hC 4 dX12_goOrders_123 rfl (by decide) rfl rfl rfl ?_
            refine j_goto (tgt := 74) hC dX12_goOrders_126 (by decide) ?_
            exact j_lv (lv' := [(0, .ref (d.2.1 0)), (1, .int p1), (2, .int p2), (3, .int p3), (4, .int (a.2 + (1 : Int32)))]) [1, 2, 3, 4, 0] rfl (hs74 (a123, (a.2 + (1 : Int32))))
          · refine j_icmp_ne (pc' := 93) (tgt := 96) hC dX12_goOrders_90 (by decide) rfl ?_ ?_
            · refine j_aload_n (pc' := 97) hC 0 dX12_goOrders_96 rfl rfl rfl ?_
              refine j_get (pc' := 100) hC ly_X12 (M_at_0 d _) rfl 41 (by decide) fl_X12_88 rfl dX12_goOrders_97 rfl ?_
              refine j_iload_n (pc' := 101) hC 2 dX12_goOrders_100 rfl rfl rfl ?_
              refine j_aload_n (pc' := 102) hC 0 dX12_goOrders_101 rfl rfl rfl ?_
              refine j_get (pc' := 105) hC ly_X12 (M_at_0 d _) rfl 43 (by decide) fl_X12_91 rfl dX12_goOrders_102 rfl ?_
              refine j_iload (pc' := 107) hC 4 dX12_goOrders_105 rfl rfl ?_
              refine j_iald (pc' := 108) hC (M_at_25 d _) dX12_goOrders_107 rfl ?_
              refine j_iast (pc' := 109) hC (M_at_24 d _) (M_sa_24 d _ _) dX12_goOrders_108 rfl ?_
              refine j_st (fun σ1 => ?_)
              refine j_aload_n (pc' := 110) hC 0 dX12_goOrders_109 rfl rfl rfl ?_
              refine j_iload_n (pc' := 111) hC 1 dX12_goOrders_110 rfl rfl rfl ?_
              refine j_iload_n (pc' := 112) hC 2 dX12_goOrders_111 rfl rfl rfl ?_
              refine j_iconst (pc' := 113) (v := (1 : Int32)) hC dX12_goOrders_112 (by decide) rfl ?_
              refine j_iadd (pc' := 114) hC dX12_goOrders_113 rfl ?_
              refine j_iload_n (pc' := 115) hC 3 dX12_goOrders_114 rfl rfl rfl ?_
              refine j_iconst (pc' := 116) (v := (1 : Int32)) hC dX12_goOrders_115 (by decide) rfl ?_
              refine j_iload (pc' := 118) hC 4 dX12_goOrders_116 rfl rfl ?_
              refine j_ishl (pc' := 119) hC dX12_goOrders_118 rfl ?_
              refine j_ior (pc' := 120) hC dX12_goOrders_119 rfl ?_
              refine j_callV_v (pc' := 123) (As := [.int p1, .int (p2 + (1 : Int32)), .int (p3 ||| ((1 : Int32) <<< (a.2 &&& 31)))]) (st := []) hC (M_at_0 d _) rfl (ih _ _ _ _) (jgV ml_X12_326 im_X12_goOrders se_X12_goOrders in_X12 cd_X12_goOrders) rfl rfl rfl hyV_X12_goOrders ⟨by show 7 + n + 1 ≤ 7 + (n + 1); omega, by show 8 + (6 + 11) + (276 + 25 * n) ≤ 276 + 25 * (n + 1); omega⟩ rfl rfl (Nat.le_of_ble_eq_true rfl) dX12_goOrders_120 rfl (fun q2 => ?_)
              exact j_lv (lv' := [(0, .ref (d.2.1 0)), (1, .int p1), (2, .int p2), (3, .int p3), (4, .int a.2)]) [0, 1, 2, 3, 4] rfl (hj123 q2)
            · refine j_goto (tgt := 123) hC dX12_goOrders_93 (by decide) ?_
              exact j_lv (lv' := [(0, .ref (d.2.1 0)), (1, .int p1), (2, .int p2), (3, .int p3), (4, .int a.2)]) [0, 1, 2, 3, 4] rfl (hj123 a.1)
      · refine j_aload_n (pc' := 9) hC 0 dX12_goOrders_8 rfl rfl rfl ?_
        refine j_iload_n (pc' := 10) hC 1 dX12_goOrders_9 rfl rfl rfl ?_
        refine j_callV_i (pc' := 13) (As := [.int p1]) (st := []) hC (M_at_0 d _) rfl (kX12_waitsOf l d A _ _) (jgV ml_X12_320 im_X12_waitsOf se_X12_waitsOf in_X12 cd_X12_waitsOf) rfl rfl rfl hyV_X12_waitsOf ⟨by show 7 + 1 ≤ 7 + (n + 1); omega, by show 8 + (5 + 11) + 252 ≤ 276 + 25 * (n + 1); omega⟩ rfl rfl (Nat.le_of_ble_eq_true rfl) dX12_goOrders_10 rfl (fun q3 => ?_)
        refine j_istore (pc' := 15) (lv' := [(4, .int q3.1), (0, .ref (d.2.1 0)), (1, .int p1), (2, .int p2), (3, .int p3)]) hC dX12_goOrders_13 (by decide) rfl rfl ?_
        refine j_aload_n (pc' := 16) hC 1 dX12_goOrders_15 rfl rfl rfl ?_
        refine j_get (pc' := 19) hC ly_X12 (M_at_0 d _) rfl 45 (by decide) fl_X12_323 rfl dX12_goOrders_16 rfl ?_
        refine j_let 32 (fun a32 => q3.2) (fun a32 => [(0, .ref (d.2.1 0)), (4, .int q3.1)]) (fun a32 => []) (fun a32 => ?_) (fun j32 hj32 => ?_)
        · refine j_aload_n (pc' := 33) hC 0 dX12_goOrders_32 rfl rfl rfl ?_
          refine j_iload (pc' := 35) hC 1 dX12_goOrders_33 rfl rfl ?_
          refine j_put (pc' := 38) hC ly_X12 tyX12 tyX12_ok nmX12 (M_at_0 d _) rfl 45 (by decide) fl_X12_323 rfl rfl rfl rfl (Nat.le_of_ble_eq_true rfl) (M_sf_0_45 d _ _) dX12_goOrders_35 rfl ?_
          refine j_st (fun σ4 => ?_)
          refine j_iconst (pc' := 39) (v := (0 : Int32)) hC dX12_goOrders_38 (by decide) rfl ?_
          refine j_istore (pc' := 41) (lv' := [(5, .int (0 : Int32)), (0, .ref (d.2.1 0)), (4, .int q3.1)]) hC dX12_goOrders_39 (by decide) rfl rfl ?_
          refine j_lv (lv' := [(0, .ref (d.2.1 0)), (5, .int (0 : Int32))]) [1, 0] rfl ?_
          refine j_loop 41 (fun a => a.1) (fun a => [(0, .ref (d.2.1 0)), (5, .int a.2)]) (fun s41 hs41 a => ?_) jN (σ4, (0 : Int32))
          unfold fX12_goOrders_B41
          refine j_iload (pc' := 43) hC 1 dX12_goOrders_41 rfl rfl ?_
          refine j_aload_n (pc' := 44) hC 0 dX12_goOrders_43 rfl rfl rfl ?_
          refine j_get (pc' := 47) hC ly_X12 (M_at_0 d _) rfl 42 (by decide) fl_X12_292 rfl dX12_goOrders_44 rfl ?_
          refine j_icmp_ge (pc' := 50) (tgt := 70) hC dX12_goOrders_47 (by decide) rfl ?_ ?_
          · exact j_ret_v hC dX12_goOrders_70
          · refine j_aload_n (pc' := 51) hC 0 dX12_goOrders_50 rfl rfl rfl ?_
            refine j_get (pc' := 54) hC ly_X12 (M_at_0 d _) rfl 44 (by decide) fl_X12_94 rfl dX12_goOrders_51 rfl ?_
            refine j_iload (pc' := 56) hC 1 dX12_goOrders_54 rfl rfl ?_
            refine j_aload_n (pc' := 57) hC 0 dX12_goOrders_56 rfl rfl rfl ?_
            refine j_get (pc' := 60) hC ly_X12 (M_at_0 d _) rfl 41 (by decide) fl_X12_88 rfl dX12_goOrders_57 rfl ?_
            refine j_iload (pc' := 62) hC 1 dX12_goOrders_60 rfl rfl ?_
            refine j_iald (pc' := 63) hC (M_at_24 d _) dX12_goOrders_62 rfl ?_
            refine j_iast (pc' := 64) hC (M_at_26 d _) (M_sa_26 d _ _) dX12_goOrders_63 rfl ?_
            refine j_st (fun σ5 => ?_)
            refine j_iinc (pc' := 67) (v := (a.2 + (1 : Int32))) (lv' := [(5, .int (a.2 + (1 : Int32))), (0, .ref (d.2.1 0))]) hC 1 dX12_goOrders_64 rfl (by decide) rfl rfl rfl ?_
            refine j_goto (tgt := 41) hC dX12_goOrders_67 (by decide) ?_
            exact j_lv (lv' := [(0, .ref (d.2.1 0)), (5, .int (a.2 + (1 : Int32)))]) [1, 0] rfl (hs41 (σ5, (a.2 + (1 : Int32))))
        · refine j_if_lt (pc' := 22) (tgt := 32) hC dX12_goOrders_19 (by decide) rfl ?_ ?_
          · exact j_lv (lv' := [(0, .ref (d.2.1 0)), (4, .int q3.1)]) [1, 0] rfl (hj32 ())
          · refine j_iload (pc' := 24) hC 0 dX12_goOrders_22 rfl rfl ?_
            refine j_aload_n (pc' := 25) hC 1 dX12_goOrders_24 rfl rfl rfl ?_
            refine j_get (pc' := 28) hC ly_X12 (M_at_0 d _) rfl 45 (by decide) fl_X12_323 rfl dX12_goOrders_25 rfl ?_
            refine j_icmp_lt (pc' := 31) (tgt := 32) hC dX12_goOrders_28 (by decide) rfl ?_ ?_
            · exact j_lv (lv' := [(0, .ref (d.2.1 0)), (4, .int q3.1)]) [1, 0] rfl (hj32 ())
            · exact j_ret_v hC dX12_goOrders_31
theorem hyV_X12_order : yX12_order.cls = RX12 ∧ yX12_order.cls ≠ "java/lang/invoke/MethodHandle" ∧ yX12_order.cls ≠ "java/lang/invoke/VarHandle" ∧ (parseMethodDescriptor yX12_order.desc).map (fun d => d.parameters.length) = some 2 := ⟨rfl, by decide +kernel, by decide +kernel, by decide +kernel⟩
noncomputable def fX12_order_B43 (j69 : (jS → Option (Int32 × jS))) (s43 : jS × Int32 → Option (Int32 × jS)) (a : jS × Int32) : Option (Int32 × jS) :=
  (if (a.1.1 0 42) ≤ a.2 then (j69 a.1) else (ob a.2 9 (ob a.2 9 (jst (ju a.1 25 (a.2).toNatClampNeg (a.1.1 24 (a.2).toNatClampNeg)) fun (σ6 : jS) => (s43 (σ6, (a.2 + (1 : Int32))))))))
noncomputable def fX12_order (σ : jS) (p1 : Int32) (p2 : Int32) : Option (Int32 × jS) :=
  (Option.bind (fX12_isSwing σ p1) fun (q1 : Int32) => (if (jb q1) = 0 then (some ((-1 : Int32), σ)) else (Option.bind (fX12_layLine σ p1) fun (q2 : jS) => (Option.bind (fX12_in q2 p2 (-1 : Int32) ((q2.1 0 42) - (1 : Int32))) fun (q3 : Int32) => (if (jb q3) = 0 then (some ((-1 : Int32), q2)) else (if (q2.1 0 42) ≤ (5 : Int32) then (jlet (fun (a69 : jS) => (jst (ju a69 0 45 (-1 : Int32)) fun (σ4 : jS) => (Option.bind ((gX12o jG) σ4 p1 (0 : Int32) (0 : Int32)) fun (q5 : jS) => (if 0 ≤ p2 then (ob p2 9 (some ((q5.1 26 (p2).toNatClampNeg), q5))) else (some ((q5.1 0 45), q5)))))) fun (j69 : (jS → Option (Int32 × jS))) => (jloop (fX12_order_B43 j69) jN (q2, (0 : Int32)))) else (some ((-5 : Int32), q2))))))))
set_option maxRecDepth 100000 in
set_option maxHeartbeats 4000000 in
theorem kX12_order (l : Launch) (d : jD) (A : Nat → Prop) (σ : jS) (p1 : Int32) (p2 : Int32) : jMi l yX12_order (jws yX12_order cX12_order 4 (some (.int))) { frames := 108, cells := 0, slots := 0, locals := 2801 } d wM A [.ref (d.2.1 0), .int p1, .int p2] σ (fX12_order σ p1 p2) := by
  refine jStart_i (lv0 := [(0, .ref (d.2.1 0)), (1, .int p1), (2, .int p2)]) (by decide) rfl (Nat.le_of_ble_eq_true rfl) rfl (fun z hC res => ?_)
  unfold fX12_order
  refine j_iload_n (pc' := 1) hC 1 dX12_order_0 rfl rfl rfl ?_
  refine j_callS_zr (pc' := 4) (As := [.int p1]) (st := []) hC (kX12_isSwing l d A _ _) (jgS ml_X12_165 st_X12_isSwing in_X12 cd_X12_isSwing) rfl rfl rfl hyS_X12_isSwing ⟨Nat.le_of_ble_eq_true rfl, Nat.le_of_ble_eq_true rfl⟩ rfl rfl (Nat.le_of_ble_eq_true rfl) dX12_order_1 rfl (fun q1 => ?_)
  refine j_if_ne (pc' := 7) (tgt := 9) hC dX12_order_4 (by decide) rfl ?_ ?_
  · refine j_aload_n (pc' := 10) hC 0 dX12_order_9 rfl rfl rfl ?_
    refine j_iload_n (pc' := 11) hC 1 dX12_order_10 rfl rfl rfl ?_
    refine j_callV_v (pc' := 14) (As := [.int p1]) (st := []) hC (M_at_0 d _) rfl (kX12_layLine l d A _ _) (jgV ml_X12_305 im_X12_layLine se_X12_layLine in_X12 cd_X12_layLine) rfl rfl rfl hyV_X12_layLine ⟨Nat.le_of_ble_eq_true rfl, Nat.le_of_ble_eq_true rfl⟩ rfl rfl (Nat.le_of_ble_eq_true rfl) dX12_order_11 rfl (fun q2 => ?_)
    refine j_iload_n (pc' := 15) hC 2 dX12_order_14 rfl rfl rfl ?_
    refine j_iconst (pc' := 16) (v := (-1 : Int32)) hC dX12_order_15 (by decide) rfl ?_
    refine j_aload_n (pc' := 17) hC 0 dX12_order_16 rfl rfl rfl ?_
    refine j_get (pc' := 20) hC ly_X12 (M_at_0 d _) rfl 42 (by decide) fl_X12_292 rfl dX12_order_17 rfl ?_
    refine j_iconst (pc' := 21) (v := (1 : Int32)) hC dX12_order_20 (by decide) rfl ?_
    refine j_isub (pc' := 22) hC dX12_order_21 rfl ?_
    refine j_callS_zr (pc' := 25) (As := [.int p2, .int (-1 : Int32), .int ((q2.1 0 42) - (1 : Int32))]) (st := []) hC (kX12_in l d A _ _ _ _) (jgS ml_X12_128 st_X12_in in_X12 cd_X12_in) rfl rfl rfl hyS_X12_in ⟨Nat.le_of_ble_eq_true rfl, Nat.le_of_ble_eq_true rfl⟩ rfl rfl (Nat.le_of_ble_eq_true rfl) dX12_order_22 rfl (fun q3 => ?_)
    refine j_if_ne (pc' := 28) (tgt := 30) hC dX12_order_25 (by decide) rfl ?_ ?_
    · refine j_aload_n (pc' := 31) hC 0 dX12_order_30 rfl rfl rfl ?_
      refine j_get (pc' := 34) hC ly_X12 (M_at_0 d _) rfl 42 (by decide) fl_X12_292 rfl dX12_order_31 rfl ?_
      refine j_iconst (pc' := 35) (v := (5 : Int32)) hC dX12_order_34 (by decide) rfl ?_
      refine j_icmp_le (pc' := 38) (tgt := 41) hC dX12_order_35 (by decide) rfl ?_ ?_
      · refine j_iconst (pc' := 42) (v := (0 : Int32)) hC dX12_order_41 (by decide) rfl ?_
        refine j_istore_n (pc' := 43) (lv' := [(3, .int (0 : Int32)), (0, .ref (d.2.1 0)), (1, .int p1), (2, .int p2)]) hC dX12_order_42 rfl (by decide) rfl rfl ?_
        refine j_let 69 (fun a69 => a69) (fun a69 => [(0, .ref (d.2.1 0)), (1, .int p1), (2, .int p2)]) (fun a69 => []) (fun a69 => ?_) (fun j69 hj69 => ?_)
        · refine j_aload_n (pc' := 70) hC 0 dX12_order_69 rfl rfl rfl ?_
          refine j_iconst (pc' := 71) (v := (-1 : Int32)) hC dX12_order_70 (by decide) rfl ?_
          refine j_put (pc' := 74) hC ly_X12 tyX12 tyX12_ok nmX12 (M_at_0 d _) rfl 45 (by decide) fl_X12_323 rfl rfl rfl rfl (Nat.le_of_ble_eq_true rfl) (M_sf_0_45 d _ _) dX12_order_71 rfl ?_
          refine j_st (fun σ4 => ?_)
          refine j_aload_n (pc' := 75) hC 0 dX12_order_74 rfl rfl rfl ?_
          refine j_iload_n (pc' := 76) hC 1 dX12_order_75 rfl rfl rfl ?_
          refine j_iconst (pc' := 77) (v := (0 : Int32)) hC dX12_order_76 (by decide) rfl ?_
          refine j_iconst (pc' := 78) (v := (0 : Int32)) hC dX12_order_77 (by decide) rfl ?_
          refine j_callV_v (pc' := 81) (As := [.int p1, .int (0 : Int32), .int (0 : Int32)]) (st := []) hC (M_at_0 d _) rfl ((kgX12o l d A jG) _ _ _ _) (jgV ml_X12_326 im_X12_goOrders se_X12_goOrders in_X12 cd_X12_goOrders) rfl rfl rfl hyV_X12_goOrders ⟨Nat.le_of_ble_eq_true rfl, Nat.le_of_ble_eq_true rfl⟩ rfl rfl (Nat.le_of_ble_eq_true rfl) dX12_order_78 rfl (fun q5 => ?_)
          refine j_iload_n (pc' := 82) hC 2 dX12_order_81 rfl rfl rfl ?_
          refine j_if_ge (pc' := 85) (tgt := 92) hC dX12_order_82 (by decide) rfl ?_ ?_
          · refine j_aload_n (pc' := 93) hC 0 dX12_order_92 rfl rfl rfl ?_
            refine j_get (pc' := 96) hC ly_X12 (M_at_0 d _) rfl 44 (by decide) fl_X12_94 rfl dX12_order_93 rfl ?_
            refine j_iload_n (pc' := 97) hC 2 dX12_order_96 rfl rfl rfl ?_
            refine j_iald (pc' := 98) hC (M_at_26 d _) dX12_order_97 rfl ?_
            exact j_ret_i hC dX12_order_98
          · refine j_aload_n (pc' := 86) hC 0 dX12_order_85 rfl rfl rfl ?_
            refine j_get (pc' := 89) hC ly_X12 (M_at_0 d _) rfl 45 (by decide) fl_X12_323 rfl dX12_order_86 rfl ?_
            refine j_goto (tgt := 98) hC dX12_order_89 (by decide) ?_
            exact j_ret_i hC dX12_order_98
        · refine j_lv (lv' := [(0, .ref (d.2.1 0)), (1, .int p1), (2, .int p2), (3, .int (0 : Int32))]) [1, 2, 3, 0] rfl ?_
          refine j_loop 43 (fun a => a.1) (fun a => [(0, .ref (d.2.1 0)), (1, .int p1), (2, .int p2), (3, .int a.2)]) (fun s43 hs43 a => ?_) jN (q2, (0 : Int32))
          unfold fX12_order_B43
          refine j_iload_n (pc' := 44) hC 3 dX12_order_43 rfl rfl rfl ?_
          refine j_aload_n (pc' := 45) hC 0 dX12_order_44 rfl rfl rfl ?_
          refine j_get (pc' := 48) hC ly_X12 (M_at_0 d _) rfl 42 (by decide) fl_X12_292 rfl dX12_order_45 rfl ?_
          refine j_icmp_ge (pc' := 51) (tgt := 69) hC dX12_order_48 (by decide) rfl ?_ ?_
          · exact j_lv (lv' := [(0, .ref (d.2.1 0)), (1, .int p1), (2, .int p2)]) [0, 1, 2] rfl (hj69 a.1)
          · refine j_aload_n (pc' := 52) hC 0 dX12_order_51 rfl rfl rfl ?_
            refine j_get (pc' := 55) hC ly_X12 (M_at_0 d _) rfl 43 (by decide) fl_X12_91 rfl dX12_order_52 rfl ?_
            refine j_iload_n (pc' := 56) hC 3 dX12_order_55 rfl rfl rfl ?_
            refine j_aload_n (pc' := 57) hC 0 dX12_order_56 rfl rfl rfl ?_
            refine j_get (pc' := 60) hC ly_X12 (M_at_0 d _) rfl 41 (by decide) fl_X12_88 rfl dX12_order_57 rfl ?_
            refine j_iload_n (pc' := 61) hC 3 dX12_order_60 rfl rfl rfl ?_
            refine j_iald (pc' := 62) hC (M_at_24 d _) dX12_order_61 rfl ?_
            refine j_iast (pc' := 63) hC (M_at_25 d _) (M_sa_25 d _ _) dX12_order_62 rfl ?_
            refine j_st (fun σ6 => ?_)
            refine j_iinc (pc' := 66) (v := (a.2 + (1 : Int32))) (lv' := [(3, .int (a.2 + (1 : Int32))), (0, .ref (d.2.1 0)), (1, .int p1), (2, .int p2)]) hC 3 dX12_order_63 rfl (by decide) rfl rfl rfl ?_
            refine j_goto (tgt := 43) hC dX12_order_66 (by decide) ?_
            exact j_lv (lv' := [(0, .ref (d.2.1 0)), (1, .int p1), (2, .int p2), (3, .int (a.2 + (1 : Int32)))]) [1, 2, 3, 0] rfl (hs43 (σ6, (a.2 + (1 : Int32))))
      · refine j_bipush (pc' := 40) (v := (-5 : Int32)) hC dX12_order_38 (by decide) rfl ?_
        exact j_ret_i hC dX12_order_40
    · refine j_iconst (pc' := 29) (v := (-1 : Int32)) hC dX12_order_28 (by decide) rfl ?_
      exact j_ret_i hC dX12_order_29
  · refine j_iconst (pc' := 8) (v := (-1 : Int32)) hC dX12_order_7 (by decide) rfl ?_
    exact j_ret_i hC dX12_order_8
theorem hyV_X12_thereFrom : yX12_thereFrom.cls = RX12 ∧ yX12_thereFrom.cls ≠ "java/lang/invoke/MethodHandle" ∧ yX12_thereFrom.cls ≠ "java/lang/invoke/VarHandle" ∧ (parseMethodDescriptor yX12_thereFrom.desc).map (fun d => d.parameters.length) = some 2 := ⟨rfl, by decide +kernel, by decide +kernel, by decide +kernel⟩
noncomputable def fX12_thereFrom_B2 (σ : jS) (p2 : Int32) (s2 : Int32 → Option (Int32)) (a : Int32) : Option (Int32) :=
  (if (σ.1 0 42) ≤ a then (some (-1 : Int32)) else (ob a 9 (if (σ.1 24 (a).toNatClampNeg) = p2 then (s2 (a + (1 : Int32))) else (some a))))
noncomputable def fX12_thereFrom (σ : jS) (p1 : Int32) (p2 : Int32) : Option (Int32) :=
  (jloop (fX12_thereFrom_B2 σ p2) jN p1)
set_option maxRecDepth 100000 in
set_option maxHeartbeats 4000000 in
theorem kX12_thereFrom (l : Launch) (d : jD) (A : Nat → Prop) (σ : jS) (p1 : Int32) (p2 : Int32) : jMir l yX12_thereFrom (jws yX12_thereFrom cX12_thereFrom 4 (some (.int))) { frames := 2, cells := 0, slots := 0, locals := 130 } d wM A [.ref (d.2.1 0), .int p1, .int p2] σ (fX12_thereFrom σ p1 p2) := by
  refine jStart_ir (lv0 := [(0, .ref (d.2.1 0)), (1, .int p1), (2, .int p2)]) (by decide) rfl (Nat.le_of_ble_eq_true rfl) rfl (fun z hC res => ?_)
  unfold fX12_thereFrom
  refine j_iload_n (pc' := 1) hC 1 dX12_thereFrom_0 rfl rfl rfl ?_
  refine j_istore_n (pc' := 2) (lv' := [(3, .int p1), (0, .ref (d.2.1 0)), (1, .int p1), (2, .int p2)]) hC dX12_thereFrom_1 rfl (by decide) rfl rfl ?_
  refine j_lv (lv' := [(0, .ref (d.2.1 0)), (2, .int p2), (3, .int p1)]) [1, 3, 0] rfl ?_
  refine j_loop 2 (fun a => σ) (fun a => [(0, .ref (d.2.1 0)), (2, .int p2), (3, .int a)]) (fun s2 hs2 a => ?_) jN p1
  unfold fX12_thereFrom_B2
  refine j_iload_n (pc' := 3) hC 2 dX12_thereFrom_2 rfl rfl rfl ?_
  refine j_aload_n (pc' := 4) hC 0 dX12_thereFrom_3 rfl rfl rfl ?_
  refine j_get (pc' := 7) hC ly_X12 (M_at_0 d _) rfl 42 (by decide) fl_X12_292 rfl dX12_thereFrom_4 rfl ?_
  refine j_icmp_ge (pc' := 10) (tgt := 28) hC dX12_thereFrom_7 (by decide) rfl ?_ ?_
  · refine j_iconst (pc' := 29) (v := (-1 : Int32)) hC dX12_thereFrom_28 (by decide) rfl ?_
    exact j_ret_ir hC dX12_thereFrom_29
  · refine j_aload_n (pc' := 11) hC 0 dX12_thereFrom_10 rfl rfl rfl ?_
    refine j_get (pc' := 14) hC ly_X12 (M_at_0 d _) rfl 41 (by decide) fl_X12_88 rfl dX12_thereFrom_11 rfl ?_
    refine j_iload_n (pc' := 15) hC 2 dX12_thereFrom_14 rfl rfl rfl ?_
    refine j_iald (pc' := 16) hC (M_at_24 d _) dX12_thereFrom_15 rfl ?_
    refine j_iload_n (pc' := 17) hC 1 dX12_thereFrom_16 rfl rfl rfl ?_
    refine j_icmp_eq (pc' := 20) (tgt := 22) hC dX12_thereFrom_17 (by decide) rfl ?_ ?_
    · refine j_iinc (pc' := 25) (v := (a + (1 : Int32))) (lv' := [(3, .int (a + (1 : Int32))), (0, .ref (d.2.1 0)), (2, .int p2)]) hC 2 dX12_thereFrom_22 rfl (by decide) rfl rfl rfl ?_
      refine j_goto (tgt := 2) hC dX12_thereFrom_25 (by decide) ?_
      exact j_lv (lv' := [(0, .ref (d.2.1 0)), (2, .int p2), (3, .int (a + (1 : Int32)))]) [1, 2, 0] rfl (hs2 (a + (1 : Int32)))
    · refine j_iload_n (pc' := 21) hC 2 dX12_thereFrom_20 rfl rfl rfl ?_
      exact j_ret_ir hC dX12_thereFrom_21
theorem hyV_X12_held : yX12_held.cls = RX12 ∧ yX12_held.cls ≠ "java/lang/invoke/MethodHandle" ∧ yX12_held.cls ≠ "java/lang/invoke/VarHandle" ∧ (parseMethodDescriptor yX12_held.desc).map (fun d => d.parameters.length) = some 2 := ⟨rfl, by decide +kernel, by decide +kernel, by decide +kernel⟩
noncomputable def fX12_held_B61 (σ : jS) (p1 : Int32) (p2 : Int32) (s61 : jS × Int32 × Int32 × Int32 → Option (Int32 × jS)) (a : jS × Int32 × Int32 × Int32) : Option (Int32 × jS) :=
  (jlet (fun (a81 : Int32) => (Option.bind (fX12_thereFrom a.1 (0 : Int32) a81) fun (q4 : Int32) => (if 0 ≤ q4 then (jlet (fun (a118 : Int32) => (Option.bind (fX12_thereFrom a.1 (q4 + (1 : Int32)) a81) fun (q5 : Int32) => (ob q4 9 (jlet (fun (a184 : Int32) => (Option.bind (fX12_goTurn a.1 (σ.1 7 ((p2 / (10 : Int32))).toNatClampNeg) (a.1.1 24 (q4).toNatClampNeg) a184 (a118 - (1 : Int32))) fun (q6 : jS) => (if (a.2.1 + (q6.1 0 35)) ≤ p1 then (jlet (fun (a230 : Int32 × Int32) => (Option.bind (fX12_toEnd q6 q4) fun (q7 : jS) => (s61 (q7, (a.2.1 + (q6.1 0 35)), a230.1, a230.2)))) fun (j230 : (Int32 × Int32 → Option (Int32 × jS))) => (if (a.1.1 24 (q4).toNatClampNeg) = (p2 / (10 : Int32)) then (j230 ((a.2.2.1 + (1 : Int32)), a.2.2.2)) else (if a.2.2.1 = (1 : Int32) then (j230 (a.2.2.1, (a.2.2.2 + (1 : Int32)))) else (j230 (a.2.2.1, a.2.2.2))))) else (some (a.2.2.1, q6))))) fun (j184 : (Int32 → Option (Int32 × jS))) => (if 0 ≤ q5 then (ob q5 9 (j184 (a.1.1 24 (q5).toNatClampNeg))) else (if a118 ≤ (1 : Int32) then (j184 (9 : Int32)) else (Option.bind (fX12_thereFrom a.1 (0 : Int32) a81) fun (q8 : Int32) => (ob q8 9 (j184 (a.1.1 24 (q8).toNatClampNeg)))))))))) fun (j118 : (Int32 → Option (Int32 × jS))) => (if 0 ≤ a81 then (j118 ((a.1.1 0 42) - (1 : Int32))) else (j118 (a.1.1 0 42)))) else (some (a.2.2.1, a.1))))) fun (j81 : (Int32 → Option (Int32 × jS))) => (jlet (fun (a80 : Unit) => (j81 (-1 : Int32))) fun (j80 : (Unit → Option (Int32 × jS))) => (if a.2.2.1 = (1 : Int32) then (if (p2 - p2 / (10 : Int32) * (10 : Int32)) ≤ a.2.2.2 then (j80 ()) else (j81 (p2 / (10 : Int32)))) else (j80 ()))))
noncomputable def fX12_held (σ : jS) (p1 : Int32) (p2 : Int32) : Option (Int32 × jS) :=
  (Option.bind (fX12_isBell σ p1) fun (q1 : Int32) => (if (jb q1) = 0 then (some ((-1 : Int32), σ)) else (if p2 < 0 then (some ((-1 : Int32), σ)) else (Option.bind (fX12_isChild σ (p2 / (10 : Int32))) fun (q2 : Int32) => (if (jb q2) = 0 then (some ((-1 : Int32), σ)) else (ob (p2 / (10 : Int32)) 9 (if (σ.1 7 ((p2 / (10 : Int32))).toNatClampNeg) = (3 : Int32) then (some ((-5 : Int32), σ)) else (Option.bind (fX12_layLine σ (σ.1 7 ((p2 / (10 : Int32))).toNatClampNeg)) fun (q3 : jS) => (jloop (fX12_held_B61 σ p1 p2) jN (q3, (0 : Int32), (0 : Int32), (0 : Int32)))))))))))
set_option maxRecDepth 100000 in
set_option maxHeartbeats 4000000 in
theorem kX12_held (l : Launch) (d : jD) (A : Nat → Prop) (σ : jS) (p1 : Int32) (p2 : Int32) : jMi l yX12_held (jws yX12_held cX12_held 13 (some (.int))) { frames := 7, cells := 0, slots := 0, locals := 252 } d wM A [.ref (d.2.1 0), .int p1, .int p2] σ (fX12_held σ p1 p2) := by
  refine jStart_i (lv0 := [(0, .ref (d.2.1 0)), (1, .int p1), (2, .int p2)]) (by decide) rfl (Nat.le_of_ble_eq_true rfl) rfl (fun z hC res => ?_)
  unfold fX12_held
  refine j_iload_n (pc' := 1) hC 1 dX12_held_0 rfl rfl rfl ?_
  refine j_callS_zr (pc' := 4) (As := [.int p1]) (st := []) hC (kX12_isBell l d A _ _) (jgS ml_X12_311 st_X12_isBell in_X12 cd_X12_isBell) rfl rfl rfl hyS_X12_isBell ⟨Nat.le_of_ble_eq_true rfl, Nat.le_of_ble_eq_true rfl⟩ rfl rfl (Nat.le_of_ble_eq_true rfl) dX12_held_1 rfl (fun q1 => ?_)
  refine j_if_eq (pc' := 7) (tgt := 22) hC dX12_held_4 (by decide) rfl ?_ ?_
  · refine j_iconst (pc' := 23) (v := (-1 : Int32)) hC dX12_held_22 (by decide) rfl ?_
    exact j_ret_i hC dX12_held_23
  · refine j_iload_n (pc' := 8) hC 2 dX12_held_7 rfl rfl rfl ?_
    refine j_if_lt (pc' := 11) (tgt := 22) hC dX12_held_8 (by decide) rfl ?_ ?_
    · refine j_iconst (pc' := 23) (v := (-1 : Int32)) hC dX12_held_22 (by decide) rfl ?_
      exact j_ret_i hC dX12_held_23
    · refine j_aload_n (pc' := 12) hC 0 dX12_held_11 rfl rfl rfl ?_
      refine j_iload_n (pc' := 13) hC 2 dX12_held_12 rfl rfl rfl ?_
      refine j_bipush (pc' := 15) (v := (10 : Int32)) hC dX12_held_13 (by decide) rfl ?_
      refine j_idiv0 (pc' := 16) hC dX12_held_15 (by decide) rfl ?_
      refine j_callV_zr (pc' := 19) (As := [.int (p2 / (10 : Int32))]) (st := []) hC (M_at_0 d _) rfl (kX12_isChild l d A _ _) (jgV ml_X12_162 im_X12_isChild se_X12_isChild in_X12 cd_X12_isChild) rfl rfl rfl hyV_X12_isChild ⟨Nat.le_of_ble_eq_true rfl, Nat.le_of_ble_eq_true rfl⟩ rfl rfl (Nat.le_of_ble_eq_true rfl) dX12_held_16 rfl (fun q2 => ?_)
      refine j_if_ne (pc' := 22) (tgt := 24) hC dX12_held_19 (by decide) rfl ?_ ?_
      · refine j_iload_n (pc' := 25) hC 2 dX12_held_24 rfl rfl rfl ?_
        refine j_bipush (pc' := 27) (v := (10 : Int32)) hC dX12_held_25 (by decide) rfl ?_
        refine j_idiv0 (pc' := 28) hC dX12_held_27 (by decide) rfl ?_
        refine j_istore_n (pc' := 29) (lv' := [(3, .int (p2 / (10 : Int32))), (0, .ref (d.2.1 0)), (1, .int p1), (2, .int p2)]) hC dX12_held_28 rfl (by decide) rfl rfl ?_
        refine j_aload_n (pc' := 30) hC 1 dX12_held_29 rfl rfl rfl ?_
        refine j_get (pc' := 33) hC ly_X12 (M_at_0 d _) rfl 8 (by decide) fl_X12_28 rfl dX12_held_30 rfl ?_
        refine j_iload_n (pc' := 34) hC 0 dX12_held_33 rfl rfl rfl ?_
        refine j_iald (pc' := 35) hC (M_at_7 d _) dX12_held_34 rfl ?_
        refine j_istore (pc' := 37) (lv' := [(4, .int (σ.1 7 ((p2 / (10 : Int32))).toNatClampNeg)), (3, .int (p2 / (10 : Int32))), (0, .ref (d.2.1 0)), (1, .int p1), (2, .int p2)]) hC dX12_held_35 (by decide) rfl rfl ?_
        refine j_iload (pc' := 39) hC 0 dX12_held_37 rfl rfl ?_
        refine j_iconst (pc' := 40) (v := (3 : Int32)) hC dX12_held_39 (by decide) rfl ?_
        refine j_icmp_ne (pc' := 43) (tgt := 46) hC dX12_held_40 (by decide) rfl ?_ ?_
        · refine j_aload_n (pc' := 47) hC 2 dX12_held_46 rfl rfl rfl ?_
          refine j_iload (pc' := 49) hC 0 dX12_held_47 rfl rfl ?_
          refine j_callV_v (pc' := 52) (As := [.int (σ.1 7 ((p2 / (10 : Int32))).toNatClampNeg)]) (st := []) hC (M_at_0 d _) rfl (kX12_layLine l d A _ _) (jgV ml_X12_305 im_X12_layLine se_X12_layLine in_X12 cd_X12_layLine) rfl rfl rfl hyV_X12_layLine ⟨Nat.le_of_ble_eq_true rfl, Nat.le_of_ble_eq_true rfl⟩ rfl rfl (Nat.le_of_ble_eq_true rfl) dX12_held_49 rfl (fun q3 => ?_)
          refine j_iconst (pc' := 53) (v := (0 : Int32)) hC dX12_held_52 (by decide) rfl ?_
          refine j_istore (pc' := 55) (lv' := [(5, .int (0 : Int32)), (4, .int (σ.1 7 ((p2 / (10 : Int32))).toNatClampNeg)), (3, .int (p2 / (10 : Int32))), (0, .ref (d.2.1 0)), (1, .int p1), (2, .int p2)]) hC dX12_held_53 (by decide) rfl rfl ?_
          refine j_iconst (pc' := 56) (v := (0 : Int32)) hC dX12_held_55 (by decide) rfl ?_
          refine j_istore (pc' := 58) (lv' := [(6, .int (0 : Int32)), (5, .int (0 : Int32)), (4, .int (σ.1 7 ((p2 / (10 : Int32))).toNatClampNeg)), (3, .int (p2 / (10 : Int32))), (0, .ref (d.2.1 0)), (1, .int p1), (2, .int p2)]) hC dX12_held_56 (by decide) rfl rfl ?_
          refine j_iconst (pc' := 59) (v := (0 : Int32)) hC dX12_held_58 (by decide) rfl ?_
          refine j_istore (pc' := 61) (lv' := [(7, .int (0 : Int32)), (6, .int (0 : Int32)), (5, .int (0 : Int32)), (4, .int (σ.1 7 ((p2 / (10 : Int32))).toNatClampNeg)), (3, .int (p2 / (10 : Int32))), (0, .ref (d.2.1 0)), (1, .int p1), (2, .int p2)]) hC dX12_held_59 (by decide) rfl rfl ?_
          refine j_lv (lv' := [(0, .ref (d.2.1 0)), (1, .int p1), (2, .int p2), (3, .int (p2 / (10 : Int32))), (4, .int (σ.1 7 ((p2 / (10 : Int32))).toNatClampNeg)), (5, .int (0 : Int32)), (6, .int (0 : Int32)), (7, .int (0 : Int32))]) [5, 6, 7, 4, 3, 2, 1, 0] rfl ?_
          refine j_loop 61 (fun a => a.1) (fun a => [(0, .ref (d.2.1 0)), (1, .int p1), (2, .int p2), (3, .int (p2 / (10 : Int32))), (4, .int (σ.1 7 ((p2 / (10 : Int32))).toNatClampNeg)), (5, .int a.2.1), (6, .int a.2.2.1), (7, .int a.2.2.2)]) (fun s61 hs61 a => ?_) jN (q3, (0 : Int32), (0 : Int32), (0 : Int32))
          unfold fX12_held_B61
          refine j_iload (pc' := 63) hC 6 dX12_held_61 rfl rfl ?_
          refine j_iconst (pc' := 64) (v := (1 : Int32)) hC dX12_held_63 (by decide) rfl ?_
          refine j_let 81 (fun a81 => a.1) (fun a81 => [(0, .ref (d.2.1 0)), (1, .int p1), (2, .int p2), (3, .int (p2 / (10 : Int32))), (4, .int (σ.1 7 ((p2 / (10 : Int32))).toNatClampNeg)), (5, .int a.2.1), (6, .int a.2.2.1), (7, .int a.2.2.2)]) (fun a81 => [.int a81]) (fun a81 => ?_) (fun j81 hj81 => ?_)
          · refine j_istore (pc' := 83) (lv' := [(8, .int a81), (0, .ref (d.2.1 0)), (1, .int p1), (2, .int p2), (3, .int (p2 / (10 : Int32))), (4, .int (σ.1 7 ((p2 / (10 : Int32))).toNatClampNeg)), (5, .int a.2.1), (6, .int a.2.2.1), (7, .int a.2.2.2)]) hC dX12_held_81 (by decide) rfl rfl ?_
            refine j_aload_n (pc' := 84) hC 1 dX12_held_83 rfl rfl rfl ?_
            refine j_iconst (pc' := 85) (v := (0 : Int32)) hC dX12_held_84 (by decide) rfl ?_
            refine j_iload (pc' := 87) hC 0 dX12_held_85 rfl rfl ?_
            refine j_callV_ir (pc' := 90) (As := [.int (0 : Int32), .int a81]) (st := []) hC (M_at_0 d _) rfl (kX12_thereFrom l d A _ _ _) (jgV ml_X12_329 im_X12_thereFrom se_X12_thereFrom in_X12 cd_X12_thereFrom) rfl rfl rfl hyV_X12_thereFrom ⟨Nat.le_of_ble_eq_true rfl, Nat.le_of_ble_eq_true rfl⟩ rfl rfl (Nat.le_of_ble_eq_true rfl) dX12_held_87 rfl (fun q4 => ?_)
            refine j_istore (pc' := 92) (lv' := [(9, .int q4), (8, .int a81), (0, .ref (d.2.1 0)), (1, .int p1), (2, .int p2), (3, .int (p2 / (10 : Int32))), (4, .int (σ.1 7 ((p2 / (10 : Int32))).toNatClampNeg)), (5, .int a.2.1), (6, .int a.2.2.1), (7, .int a.2.2.2)]) hC dX12_held_90 (by decide) rfl rfl ?_
            refine j_iload (pc' := 94) hC 0 dX12_held_92 rfl rfl ?_
            refine j_if_ge (pc' := 97) (tgt := 100) hC dX12_held_94 (by decide) rfl ?_ ?_
            · refine j_iload (pc' := 102) hC 1 dX12_held_100 rfl rfl ?_
              refine j_let 118 (fun a118 => a.1) (fun a118 => [(0, .ref (d.2.1 0)), (1, .int p1), (2, .int p2), (3, .int (p2 / (10 : Int32))), (4, .int (σ.1 7 ((p2 / (10 : Int32))).toNatClampNeg)), (5, .int a.2.1), (6, .int a.2.2.1), (7, .int a.2.2.2), (8, .int a81), (9, .int q4)]) (fun a118 => [.int a118]) (fun a118 => ?_) (fun j118 hj118 => ?_)
              · refine j_istore (pc' := 120) (lv' := [(10, .int a118), (0, .ref (d.2.1 0)), (1, .int p1), (2, .int p2), (3, .int (p2 / (10 : Int32))), (4, .int (σ.1 7 ((p2 / (10 : Int32))).toNatClampNeg)), (5, .int a.2.1), (6, .int a.2.2.1), (7, .int a.2.2.2), (8, .int a81), (9, .int q4)]) hC dX12_held_118 (by decide) rfl rfl ?_
                refine j_aload_n (pc' := 121) hC 1 dX12_held_120 rfl rfl rfl ?_
                refine j_iload (pc' := 123) hC 10 dX12_held_121 rfl rfl ?_
                refine j_iconst (pc' := 124) (v := (1 : Int32)) hC dX12_held_123 (by decide) rfl ?_
                refine j_iadd (pc' := 125) hC dX12_held_124 rfl ?_
                refine j_iload (pc' := 127) hC 9 dX12_held_125 rfl rfl ?_
                refine j_callV_ir (pc' := 130) (As := [.int (q4 + (1 : Int32)), .int a81]) (st := []) hC (M_at_0 d _) rfl (kX12_thereFrom l d A _ _ _) (jgV ml_X12_329 im_X12_thereFrom se_X12_thereFrom in_X12 cd_X12_thereFrom) rfl rfl rfl hyV_X12_thereFrom ⟨Nat.le_of_ble_eq_true rfl, Nat.le_of_ble_eq_true rfl⟩ rfl rfl (Nat.le_of_ble_eq_true rfl) dX12_held_127 rfl (fun q5 => ?_)
                refine j_istore (pc' := 132) (lv' := [(11, .int q5), (10, .int a118), (0, .ref (d.2.1 0)), (1, .int p1), (2, .int p2), (3, .int (p2 / (10 : Int32))), (4, .int (σ.1 7 ((p2 / (10 : Int32))).toNatClampNeg)), (5, .int a.2.1), (6, .int a.2.2.1), (7, .int a.2.2.2), (8, .int a81), (9, .int q4)]) hC dX12_held_130 (by decide) rfl rfl ?_
                refine j_aload_n (pc' := 133) hC 2 dX12_held_132 rfl rfl rfl ?_
                refine j_get (pc' := 136) hC ly_X12 (M_at_0 d _) rfl 41 (by decide) fl_X12_88 rfl dX12_held_133 rfl ?_
                refine j_iload (pc' := 138) hC 11 dX12_held_136 rfl rfl ?_
                refine j_iald (pc' := 139) hC (M_at_24 d _) dX12_held_138 rfl ?_
                refine j_istore (pc' := 141) (lv' := [(12, .int (a.1.1 24 (q4).toNatClampNeg)), (11, .int q5), (10, .int a118), (0, .ref (d.2.1 0)), (1, .int p1), (2, .int p2), (3, .int (p2 / (10 : Int32))), (4, .int (σ.1 7 ((p2 / (10 : Int32))).toNatClampNeg)), (5, .int a.2.1), (6, .int a.2.2.1), (7, .int a.2.2.2), (8, .int a81), (9, .int q4)]) hC dX12_held_139 (by decide) rfl rfl ?_
                refine j_aload_n (pc' := 142) hC 3 dX12_held_141 rfl rfl rfl ?_
                refine j_iload (pc' := 144) hC 7 dX12_held_142 rfl rfl ?_
                refine j_iload (pc' := 146) hC 0 dX12_held_144 rfl rfl ?_
                refine j_iload (pc' := 148) hC 1 dX12_held_146 rfl rfl ?_
                refine j_let 184 (fun a184 => a.1) (fun a184 => [(0, .ref (d.2.1 0)), (1, .int p1), (2, .int p2), (3, .int (p2 / (10 : Int32))), (4, .int (σ.1 7 ((p2 / (10 : Int32))).toNatClampNeg)), (5, .int a.2.1), (6, .int a.2.2.1), (7, .int a.2.2.2), (9, .int q4), (10, .int a118), (12, .int (a.1.1 24 (q4).toNatClampNeg))]) (fun a184 => [.int a184, .int (a.1.1 24 (q4).toNatClampNeg), .int (σ.1 7 ((p2 / (10 : Int32))).toNatClampNeg), .ref (d.2.1 0)]) (fun a184 => ?_) (fun j184 hj184 => ?_)
                · refine j_iload (pc' := 186) hC 9 dX12_held_184 rfl rfl ?_
                  refine j_iconst (pc' := 187) (v := (1 : Int32)) hC dX12_held_186 (by decide) rfl ?_
                  refine j_isub (pc' := 188) hC dX12_held_187 rfl ?_
                  refine j_callV_v (pc' := 191) (As := [.int (σ.1 7 ((p2 / (10 : Int32))).toNatClampNeg), .int (a.1.1 24 (q4).toNatClampNeg), .int a184, .int (a118 - (1 : Int32))]) (st := []) hC (M_at_0 d _) rfl (kX12_goTurn l d A _ _ _ _ _) (jgV ml_X12_278 im_X12_goTurn se_X12_goTurn in_X12 cd_X12_goTurn) rfl rfl rfl hyV_X12_goTurn ⟨Nat.le_of_ble_eq_true rfl, Nat.le_of_ble_eq_true rfl⟩ rfl rfl (Nat.le_of_ble_eq_true rfl) dX12_held_188 rfl (fun q6 => ?_)
                  refine j_iload (pc' := 193) hC 5 dX12_held_191 rfl rfl ?_
                  refine j_aload_n (pc' := 194) hC 0 dX12_held_193 rfl rfl rfl ?_
                  refine j_get (pc' := 197) hC ly_X12 (M_at_0 d _) rfl 35 (by decide) fl_X12_260 rfl dX12_held_194 rfl ?_
                  refine j_iadd (pc' := 198) hC dX12_held_197 rfl ?_
                  refine j_istore (pc' := 200) (lv' := [(5, .int (a.2.1 + (q6.1 0 35))), (0, .ref (d.2.1 0)), (1, .int p1), (2, .int p2), (3, .int (p2 / (10 : Int32))), (4, .int (σ.1 7 ((p2 / (10 : Int32))).toNatClampNeg)), (6, .int a.2.2.1), (7, .int a.2.2.2), (9, .int q4), (10, .int a118), (12, .int (a.1.1 24 (q4).toNatClampNeg))]) hC dX12_held_198 (by decide) rfl rfl ?_
                  refine j_iload (pc' := 202) hC 0 dX12_held_200 rfl rfl ?_
                  refine j_iload_n (pc' := 203) hC 2 dX12_held_202 rfl rfl rfl ?_
                  refine j_icmp_le (pc' := 206) (tgt := 209) hC dX12_held_203 (by decide) rfl ?_ ?_
                  · refine j_iload (pc' := 211) hC 10 dX12_held_209 rfl rfl ?_
                    refine j_iload_n (pc' := 212) hC 4 dX12_held_211 rfl rfl rfl ?_
                    refine j_let 230 (fun a230 => q6) (fun a230 => [(0, .ref (d.2.1 0)), (1, .int p1), (2, .int p2), (3, .int (p2 / (10 : Int32))), (4, .int (σ.1 7 ((p2 / (10 : Int32))).toNatClampNeg)), (5, .int (a.2.1 + (q6.1 0 35))), (6, .int a230.1), (7, .int a230.2), (9, .int q4)]) (fun a230 => []) (fun a230 => ?_) (fun j230 hj230 => ?_)
                    · refine j_aload_n (pc' := 231) hC 0 dX12_held_230 rfl rfl rfl ?_
                      refine j_iload (pc' := 233) hC 8 dX12_held_231 rfl rfl ?_
                      refine j_callV_v (pc' := 236) (As := [.int q4]) (st := []) hC (M_at_0 d _) rfl (kX12_toEnd l d A _ _) (jgV ml_X12_295 im_X12_toEnd se_X12_toEnd in_X12 cd_X12_toEnd) rfl rfl rfl hyV_X12_toEnd ⟨Nat.le_of_ble_eq_true rfl, Nat.le_of_ble_eq_true rfl⟩ rfl rfl (Nat.le_of_ble_eq_true rfl) dX12_held_233 rfl (fun q7 => ?_)
                      refine j_goto (tgt := 61) hC dX12_held_236 (by decide) ?_
                      exact j_lv (lv' := [(0, .ref (d.2.1 0)), (1, .int p1), (2, .int p2), (3, .int (p2 / (10 : Int32))), (4, .int (σ.1 7 ((p2 / (10 : Int32))).toNatClampNeg)), (5, .int (a.2.1 + (q6.1 0 35))), (6, .int a230.1), (7, .int a230.2)]) [0, 1, 2, 3, 4, 5, 6, 7] rfl (hs61 (q7, (a.2.1 + (q6.1 0 35)), a230.1, a230.2))
                    · refine j_icmp_ne (pc' := 215) (tgt := 221) hC dX12_held_212 (by decide) rfl ?_ ?_
                      · refine j_iload (pc' := 223) hC 6 dX12_held_221 rfl rfl ?_
                        refine j_iconst (pc' := 224) (v := (1 : Int32)) hC dX12_held_223 (by decide) rfl ?_
                        refine j_icmp_ne (pc' := 227) (tgt := 230) hC dX12_held_224 (by decide) rfl ?_ ?_
                        · exact j_lv (lv' := [(0, .ref (d.2.1 0)), (1, .int p1), (2, .int p2), (3, .int (p2 / (10 : Int32))), (4, .int (σ.1 7 ((p2 / (10 : Int32))).toNatClampNeg)), (5, .int (a.2.1 + (q6.1 0 35))), (6, .int a.2.2.1), (7, .int a.2.2.2), (9, .int q4)]) [1, 2, 3, 4, 5, 0, 6, 7, 8] rfl (hj230 (a.2.2.1, a.2.2.2))
                        · refine j_iinc (pc' := 230) (v := (a.2.2.2 + (1 : Int32))) (lv' := [(7, .int (a.2.2.2 + (1 : Int32))), (5, .int (a.2.1 + (q6.1 0 35))), (0, .ref (d.2.1 0)), (1, .int p1), (2, .int p2), (3, .int (p2 / (10 : Int32))), (4, .int (σ.1 7 ((p2 / (10 : Int32))).toNatClampNeg)), (6, .int a.2.2.1), (9, .int q4), (10, .int a118), (12, .int (a.1.1 24 (q4).toNatClampNeg))]) hC 7 dX12_held_227 rfl (by decide) rfl rfl rfl ?_
                          exact j_lv (lv' := [(0, .ref (d.2.1 0)), (1, .int p1), (2, .int p2), (3, .int (p2 / (10 : Int32))), (4, .int (σ.1 7 ((p2 / (10 : Int32))).toNatClampNeg)), (5, .int (a.2.1 + (q6.1 0 35))), (6, .int a.2.2.1), (7, .int (a.2.2.2 + (1 : Int32))), (9, .int q4)]) [2, 3, 4, 5, 6, 1, 7, 0, 8] rfl (hj230 (a.2.2.1, (a.2.2.2 + (1 : Int32))))
                      · refine j_iinc (pc' := 218) (v := (a.2.2.1 + (1 : Int32))) (lv' := [(6, .int (a.2.2.1 + (1 : Int32))), (5, .int (a.2.1 + (q6.1 0 35))), (0, .ref (d.2.1 0)), (1, .int p1), (2, .int p2), (3, .int (p2 / (10 : Int32))), (4, .int (σ.1 7 ((p2 / (10 : Int32))).toNatClampNeg)), (7, .int a.2.2.2), (9, .int q4), (10, .int a118), (12, .int (a.1.1 24 (q4).toNatClampNeg))]) hC 6 dX12_held_215 rfl (by decide) rfl rfl rfl ?_
                        refine j_goto (tgt := 230) hC dX12_held_218 (by decide) ?_
                        exact j_lv (lv' := [(0, .ref (d.2.1 0)), (1, .int p1), (2, .int p2), (3, .int (p2 / (10 : Int32))), (4, .int (σ.1 7 ((p2 / (10 : Int32))).toNatClampNeg)), (5, .int (a.2.1 + (q6.1 0 35))), (6, .int (a.2.2.1 + (1 : Int32))), (7, .int a.2.2.2), (9, .int q4)]) [2, 3, 4, 5, 6, 1, 0, 7, 8] rfl (hj230 ((a.2.2.1 + (1 : Int32)), a.2.2.2))
                  · refine j_iload (pc' := 208) hC 6 dX12_held_206 rfl rfl ?_
                    exact j_ret_i hC dX12_held_208
                · refine j_if_ge (pc' := 151) (tgt := 177) hC dX12_held_148 (by decide) rfl ?_ ?_
                  · refine j_aload_n (pc' := 178) hC 3 dX12_held_177 rfl rfl rfl ?_
                    refine j_get (pc' := 181) hC ly_X12 (M_at_0 d _) rfl 41 (by decide) fl_X12_88 rfl dX12_held_178 rfl ?_
                    refine j_iload (pc' := 183) hC 1 dX12_held_181 rfl rfl ?_
                    refine j_iald (pc' := 184) hC (M_at_24 d _) dX12_held_183 rfl ?_
                    exact j_lv (lv' := [(0, .ref (d.2.1 0)), (1, .int p1), (2, .int p2), (3, .int (p2 / (10 : Int32))), (4, .int (σ.1 7 ((p2 / (10 : Int32))).toNatClampNeg)), (5, .int a.2.1), (6, .int a.2.2.1), (7, .int a.2.2.2), (9, .int q4), (10, .int a118), (12, .int (a.1.1 24 (q4).toNatClampNeg))]) [3, 4, 5, 6, 7, 8, 9, 10, 12, 2, 0] rfl (hj184 (a.1.1 24 (q5).toNatClampNeg))
                  · refine j_iload (pc' := 153) hC 2 dX12_held_151 rfl rfl ?_
                    refine j_iconst (pc' := 154) (v := (1 : Int32)) hC dX12_held_153 (by decide) rfl ?_
                    refine j_icmp_le (pc' := 157) (tgt := 172) hC dX12_held_154 (by decide) rfl ?_ ?_
                    · refine j_bipush (pc' := 174) (v := (9 : Int32)) hC dX12_held_172 (by decide) rfl ?_
                      refine j_goto (tgt := 184) hC dX12_held_174 (by decide) ?_
                      exact j_lv (lv' := [(0, .ref (d.2.1 0)), (1, .int p1), (2, .int p2), (3, .int (p2 / (10 : Int32))), (4, .int (σ.1 7 ((p2 / (10 : Int32))).toNatClampNeg)), (5, .int a.2.1), (6, .int a.2.2.1), (7, .int a.2.2.2), (9, .int q4), (10, .int a118), (12, .int (a.1.1 24 (q4).toNatClampNeg))]) [3, 4, 5, 6, 7, 8, 9, 10, 12, 2, 0] rfl (hj184 (9 : Int32))
                    · refine j_aload_n (pc' := 158) hC 3 dX12_held_157 rfl rfl rfl ?_
                      refine j_get (pc' := 161) hC ly_X12 (M_at_0 d _) rfl 41 (by decide) fl_X12_88 rfl dX12_held_158 rfl ?_
                      refine j_aload_n (pc' := 162) hC 3 dX12_held_161 rfl rfl rfl ?_
                      refine j_iconst (pc' := 163) (v := (0 : Int32)) hC dX12_held_162 (by decide) rfl ?_
                      refine j_iload (pc' := 165) hC 11 dX12_held_163 rfl rfl ?_
                      refine j_callV_ir (pc' := 168) (As := [.int (0 : Int32), .int a81]) (st := [.ref (d.2.1 24), .int (a.1.1 24 (q4).toNatClampNeg), .int (σ.1 7 ((p2 / (10 : Int32))).toNatClampNeg), .ref (d.2.1 0)]) hC (M_at_0 d _) rfl (kX12_thereFrom l d A _ _ _) (jgV ml_X12_329 im_X12_thereFrom se_X12_thereFrom in_X12 cd_X12_thereFrom) rfl rfl rfl hyV_X12_thereFrom ⟨Nat.le_of_ble_eq_true rfl, Nat.le_of_ble_eq_true rfl⟩ rfl rfl (Nat.le_of_ble_eq_true rfl) dX12_held_165 rfl (fun q8 => ?_)
                      refine j_iald (pc' := 169) hC (M_at_24 d _) dX12_held_168 rfl ?_
                      refine j_goto (tgt := 184) hC dX12_held_169 (by decide) ?_
                      exact j_lv (lv' := [(0, .ref (d.2.1 0)), (1, .int p1), (2, .int p2), (3, .int (p2 / (10 : Int32))), (4, .int (σ.1 7 ((p2 / (10 : Int32))).toNatClampNeg)), (5, .int a.2.1), (6, .int a.2.2.1), (7, .int a.2.2.2), (9, .int q4), (10, .int a118), (12, .int (a.1.1 24 (q4).toNatClampNeg))]) [3, 4, 5, 6, 7, 8, 9, 10, 12, 2, 0] rfl (hj184 (a.1.1 24 (q8).toNatClampNeg))
              · refine j_if_ge (pc' := 105) (tgt := 112) hC dX12_held_102 (by decide) rfl ?_ ?_
                · refine j_aload_n (pc' := 113) hC 2 dX12_held_112 rfl rfl rfl ?_
                  refine j_get (pc' := 116) hC ly_X12 (M_at_0 d _) rfl 42 (by decide) fl_X12_292 rfl dX12_held_113 rfl ?_
                  refine j_iconst (pc' := 117) (v := (1 : Int32)) hC dX12_held_116 (by decide) rfl ?_
                  refine j_isub (pc' := 118) hC dX12_held_117 rfl ?_
                  exact j_lv (lv' := [(0, .ref (d.2.1 0)), (1, .int p1), (2, .int p2), (3, .int (p2 / (10 : Int32))), (4, .int (σ.1 7 ((p2 / (10 : Int32))).toNatClampNeg)), (5, .int a.2.1), (6, .int a.2.2.1), (7, .int a.2.2.2), (8, .int a81), (9, .int q4)]) [2, 3, 4, 5, 6, 7, 8, 9, 1, 0] rfl (hj118 ((a.1.1 0 42) - (1 : Int32)))
                · refine j_aload_n (pc' := 106) hC 2 dX12_held_105 rfl rfl rfl ?_
                  refine j_get (pc' := 109) hC ly_X12 (M_at_0 d _) rfl 42 (by decide) fl_X12_292 rfl dX12_held_106 rfl ?_
                  refine j_goto (tgt := 118) hC dX12_held_109 (by decide) ?_
                  exact j_lv (lv' := [(0, .ref (d.2.1 0)), (1, .int p1), (2, .int p2), (3, .int (p2 / (10 : Int32))), (4, .int (σ.1 7 ((p2 / (10 : Int32))).toNatClampNeg)), (5, .int a.2.1), (6, .int a.2.2.1), (7, .int a.2.2.2), (8, .int a81), (9, .int q4)]) [2, 3, 4, 5, 6, 7, 8, 9, 1, 0] rfl (hj118 (a.1.1 0 42))
            · refine j_iload (pc' := 99) hC 8 dX12_held_97 rfl rfl ?_
              exact j_ret_i hC dX12_held_99
          · refine j_let 80 (fun a80 => a.1) (fun a80 => [(0, .ref (d.2.1 0)), (1, .int p1), (2, .int p2), (3, .int (p2 / (10 : Int32))), (4, .int (σ.1 7 ((p2 / (10 : Int32))).toNatClampNeg)), (5, .int a.2.1), (6, .int a.2.2.1), (7, .int a.2.2.2)]) (fun a80 => []) (fun a80 => ?_) (fun j80 hj80 => ?_)
            · refine j_iconst (pc' := 81) (v := (-1 : Int32)) hC dX12_held_80 (by decide) rfl ?_
              exact j_lv (lv' := [(0, .ref (d.2.1 0)), (1, .int p1), (2, .int p2), (3, .int (p2 / (10 : Int32))), (4, .int (σ.1 7 ((p2 / (10 : Int32))).toNatClampNeg)), (5, .int a.2.1), (6, .int a.2.2.1), (7, .int a.2.2.2)]) [0, 1, 2, 3, 4, 5, 6, 7] rfl (hj81 (-1 : Int32))
            · refine j_icmp_ne (pc' := 67) (tgt := 80) hC dX12_held_64 (by decide) rfl ?_ ?_
              · exact j_lv (lv' := [(0, .ref (d.2.1 0)), (1, .int p1), (2, .int p2), (3, .int (p2 / (10 : Int32))), (4, .int (σ.1 7 ((p2 / (10 : Int32))).toNatClampNeg)), (5, .int a.2.1), (6, .int a.2.2.1), (7, .int a.2.2.2)]) [0, 1, 2, 3, 4, 5, 6, 7] rfl (hj80 ())
              · refine j_iload (pc' := 69) hC 7 dX12_held_67 rfl rfl ?_
                refine j_iload_n (pc' := 70) hC 2 dX12_held_69 rfl rfl rfl ?_
                refine j_bipush (pc' := 72) (v := (10 : Int32)) hC dX12_held_70 (by decide) rfl ?_
                refine j_irem0 (pc' := 73) hC dX12_held_72 (by decide) rfl ?_
                refine j_icmp_ge (pc' := 76) (tgt := 80) hC dX12_held_73 (by decide) rfl ?_ ?_
                · exact j_lv (lv' := [(0, .ref (d.2.1 0)), (1, .int p1), (2, .int p2), (3, .int (p2 / (10 : Int32))), (4, .int (σ.1 7 ((p2 / (10 : Int32))).toNatClampNeg)), (5, .int a.2.1), (6, .int a.2.2.1), (7, .int a.2.2.2)]) [0, 1, 2, 3, 4, 5, 6, 7] rfl (hj80 ())
                · refine j_iload_n (pc' := 77) hC 3 dX12_held_76 rfl rfl rfl ?_
                  refine j_goto (tgt := 81) hC dX12_held_77 (by decide) ?_
                  exact j_lv (lv' := [(0, .ref (d.2.1 0)), (1, .int p1), (2, .int p2), (3, .int (p2 / (10 : Int32))), (4, .int (σ.1 7 ((p2 / (10 : Int32))).toNatClampNeg)), (5, .int a.2.1), (6, .int a.2.2.1), (7, .int a.2.2.2)]) [0, 1, 2, 3, 4, 5, 6, 7] rfl (hj81 (p2 / (10 : Int32)))
        · refine j_bipush (pc' := 45) (v := (-5 : Int32)) hC dX12_held_43 (by decide) rfl ?_
          exact j_ret_i hC dX12_held_45
      · refine j_iconst (pc' := 23) (v := (-1 : Int32)) hC dX12_held_22 (by decide) rfl ?_
        exact j_ret_i hC dX12_held_23
