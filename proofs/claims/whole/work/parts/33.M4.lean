theorem hyV_X12_trade : yX12_trade.cls = RX12 ∧ yX12_trade.cls ≠ "java/lang/invoke/MethodHandle" ∧ yX12_trade.cls ≠ "java/lang/invoke/VarHandle" ∧ (parseMethodDescriptor yX12_trade.desc).map (fun d => d.parameters.length) = some 2 := ⟨rfl, by decide +kernel, by decide +kernel, by decide +kernel⟩
noncomputable def fX12_trade_B114 (p2 : Int32) (j175 : (jS → Option (Int32 × jS))) (s114 : jS × Int32 → Option (Int32 × jS)) (a : jS × Int32) : Option (Int32 × jS) :=
  (if (a.1.1 0 42) ≤ a.2 then (j175 a.1) else (ob a.2 9 (jlet (fun (a168 : Int32) => (ob a.2 9 (jst (ju a.1 24 (a.2).toNatClampNeg a168) fun (σ8 : jS) => (s114 (σ8, (a.2 + (1 : Int32))))))) fun (j168 : (Int32 → Option (Int32 × jS))) => (if (a.1.1 24 (a.2).toNatClampNeg) = (p2 / (10 : Int32)) then (j168 (p2 - p2 / (10 : Int32) * (10 : Int32))) else (ob a.2 9 (if (a.1.1 24 (a.2).toNatClampNeg) = (p2 - p2 / (10 : Int32) * (10 : Int32)) then (j168 (p2 / (10 : Int32))) else (ob a.2 9 (j168 (a.1.1 24 (a.2).toNatClampNeg)))))))))
noncomputable def fX12_trade (σ : jS) (p1 : Int32) (p2 : Int32) : Option (Int32 × jS) :=
  (Option.bind (fX12_isBell σ p1) fun (q1 : Int32) => (if (jb q1) = 0 then (some ((-2000000000 : Int32), σ)) else (if p2 < 0 then (some ((-2000000000 : Int32), σ)) else (Option.bind (fX12_isChild σ (p2 / (10 : Int32))) fun (q2 : Int32) => (if (jb q2) = 0 then (some ((-2000000000 : Int32), σ)) else (Option.bind (fX12_isChild σ (p2 - p2 / (10 : Int32) * (10 : Int32))) fun (q3 : Int32) => (if (jb q3) = 0 then (some ((-2000000000 : Int32), σ)) else (if (p2 / (10 : Int32)) = (p2 - p2 / (10 : Int32) * (10 : Int32)) then (some ((-2000000000 : Int32), σ)) else (ob (p2 / (10 : Int32)) 9 (if (σ.1 7 ((p2 / (10 : Int32))).toNatClampNeg) = (3 : Int32) then (some ((-5 : Int32), σ)) else (ob (p2 - p2 / (10 : Int32) * (10 : Int32)) 9 (if (σ.1 7 ((p2 - p2 / (10 : Int32) * (10 : Int32))).toNatClampNeg) = (σ.1 7 ((p2 / (10 : Int32))).toNatClampNeg) then (Option.bind (fX12_goAfternoon σ p1) fun (q4 : jS) => (ob (p2 / (10 : Int32)) 9 (Option.bind (fX12_beginAfternoon q4) fun (q5 : jS) => (Option.bind (fX12_layLine q5 (σ.1 7 ((p2 / (10 : Int32))).toNatClampNeg)) fun (q6 : jS) => (jlet (fun (a175 : jS) => (Option.bind (fX12_goSwing a175 (σ.1 7 ((p2 / (10 : Int32))).toNatClampNeg) p1) fun (q7 : jS) => (if (q4.1 21 ((p2 / (10 : Int32))).toNatClampNeg) < 0 then (some ((-2 : Int32), q7)) else (ob (p2 / (10 : Int32)) 9 (if 0 ≤ (q7.1 21 ((p2 / (10 : Int32))).toNatClampNeg) then (ob (p2 / (10 : Int32)) 9 (some (((q4.1 21 ((p2 / (10 : Int32))).toNatClampNeg) - (q7.1 21 ((p2 / (10 : Int32))).toNatClampNeg)), q7))) else (some ((-2 : Int32), q7))))))) fun (j175 : (jS → Option (Int32 × jS))) => (jloop (fX12_trade_B114 p2 j175) jN (q6, (0 : Int32)))))))) else (some ((-5 : Int32), σ))))))))))))))
set_option maxRecDepth 100000 in
set_option maxHeartbeats 4000000 in
theorem kX12_trade (l : Launch) (d : jD) (A : Nat → Prop) (σ : jS) (p1 : Int32) (p2 : Int32) : jMi l yX12_trade (jws yX12_trade cX12_trade 8 (some (.int))) { frames := 10, cells := 0, slots := 0, locals := 320 } d wM A [.ref (d.2.1 0), .int p1, .int p2] σ (fX12_trade σ p1 p2) := by
  refine jStart_i (lv0 := [(0, .ref (d.2.1 0)), (1, .int p1), (2, .int p2)]) (by decide) rfl (Nat.le_of_ble_eq_true rfl) rfl (fun z hC res => ?_)
  unfold fX12_trade
  refine j_iload_n (pc' := 1) hC 1 dX12_trade_0 rfl rfl rfl ?_
  refine j_callS_zr (pc' := 4) (As := [.int p1]) (st := []) hC (kX12_isBell l d A _ _) (jgS ml_X12_311 st_X12_isBell in_X12 cd_X12_isBell) rfl rfl rfl hyS_X12_isBell ⟨Nat.le_of_ble_eq_true rfl, Nat.le_of_ble_eq_true rfl⟩ rfl rfl (Nat.le_of_ble_eq_true rfl) dX12_trade_1 rfl (fun q1 => ?_)
  refine j_if_eq (pc' := 7) (tgt := 44) hC dX12_trade_4 (by decide) rfl ?_ ?_
  · refine j_ldcw (pc' := 47) (v := (-2000000000 : Int32)) hC dX12_trade_44 ct_X12_291 rfl ?_
    exact j_ret_i hC dX12_trade_47
  · refine j_iload_n (pc' := 8) hC 2 dX12_trade_7 rfl rfl rfl ?_
    refine j_if_lt (pc' := 11) (tgt := 44) hC dX12_trade_8 (by decide) rfl ?_ ?_
    · refine j_ldcw (pc' := 47) (v := (-2000000000 : Int32)) hC dX12_trade_44 ct_X12_291 rfl ?_
      exact j_ret_i hC dX12_trade_47
    · refine j_aload_n (pc' := 12) hC 0 dX12_trade_11 rfl rfl rfl ?_
      refine j_iload_n (pc' := 13) hC 2 dX12_trade_12 rfl rfl rfl ?_
      refine j_bipush (pc' := 15) (v := (10 : Int32)) hC dX12_trade_13 (by decide) rfl ?_
      refine j_idiv0 (pc' := 16) hC dX12_trade_15 (by decide) rfl ?_
      refine j_callV_zr (pc' := 19) (As := [.int (p2 / (10 : Int32))]) (st := []) hC (M_at_0 d _) rfl (kX12_isChild l d A _ _) (jgV ml_X12_162 im_X12_isChild se_X12_isChild in_X12 cd_X12_isChild) rfl rfl rfl hyV_X12_isChild ⟨Nat.le_of_ble_eq_true rfl, Nat.le_of_ble_eq_true rfl⟩ rfl rfl (Nat.le_of_ble_eq_true rfl) dX12_trade_16 rfl (fun q2 => ?_)
      refine j_if_eq (pc' := 22) (tgt := 44) hC dX12_trade_19 (by decide) rfl ?_ ?_
      · refine j_ldcw (pc' := 47) (v := (-2000000000 : Int32)) hC dX12_trade_44 ct_X12_291 rfl ?_
        exact j_ret_i hC dX12_trade_47
      · refine j_aload_n (pc' := 23) hC 0 dX12_trade_22 rfl rfl rfl ?_
        refine j_iload_n (pc' := 24) hC 2 dX12_trade_23 rfl rfl rfl ?_
        refine j_bipush (pc' := 26) (v := (10 : Int32)) hC dX12_trade_24 (by decide) rfl ?_
        refine j_irem0 (pc' := 27) hC dX12_trade_26 (by decide) rfl ?_
        refine j_callV_zr (pc' := 30) (As := [.int (p2 - p2 / (10 : Int32) * (10 : Int32))]) (st := []) hC (M_at_0 d _) rfl (kX12_isChild l d A _ _) (jgV ml_X12_162 im_X12_isChild se_X12_isChild in_X12 cd_X12_isChild) rfl rfl rfl hyV_X12_isChild ⟨Nat.le_of_ble_eq_true rfl, Nat.le_of_ble_eq_true rfl⟩ rfl rfl (Nat.le_of_ble_eq_true rfl) dX12_trade_27 rfl (fun q3 => ?_)
        refine j_if_eq (pc' := 33) (tgt := 44) hC dX12_trade_30 (by decide) rfl ?_ ?_
        · refine j_ldcw (pc' := 47) (v := (-2000000000 : Int32)) hC dX12_trade_44 ct_X12_291 rfl ?_
          exact j_ret_i hC dX12_trade_47
        · refine j_iload_n (pc' := 34) hC 2 dX12_trade_33 rfl rfl rfl ?_
          refine j_bipush (pc' := 36) (v := (10 : Int32)) hC dX12_trade_34 (by decide) rfl ?_
          refine j_idiv0 (pc' := 37) hC dX12_trade_36 (by decide) rfl ?_
          refine j_iload_n (pc' := 38) hC 2 dX12_trade_37 rfl rfl rfl ?_
          refine j_bipush (pc' := 40) (v := (10 : Int32)) hC dX12_trade_38 (by decide) rfl ?_
          refine j_irem0 (pc' := 41) hC dX12_trade_40 (by decide) rfl ?_
          refine j_icmp_ne (pc' := 44) (tgt := 48) hC dX12_trade_41 (by decide) rfl ?_ ?_
          · refine j_iload_n (pc' := 49) hC 2 dX12_trade_48 rfl rfl rfl ?_
            refine j_bipush (pc' := 51) (v := (10 : Int32)) hC dX12_trade_49 (by decide) rfl ?_
            refine j_idiv0 (pc' := 52) hC dX12_trade_51 (by decide) rfl ?_
            refine j_istore_n (pc' := 53) (lv' := [(3, .int (p2 / (10 : Int32))), (0, .ref (d.2.1 0)), (1, .int p1), (2, .int p2)]) hC dX12_trade_52 rfl (by decide) rfl rfl ?_
            refine j_iload_n (pc' := 54) hC 3 dX12_trade_53 rfl rfl rfl ?_
            refine j_bipush (pc' := 56) (v := (10 : Int32)) hC dX12_trade_54 (by decide) rfl ?_
            refine j_irem0 (pc' := 57) hC dX12_trade_56 (by decide) rfl ?_
            refine j_istore (pc' := 59) (lv' := [(4, .int (p2 - p2 / (10 : Int32) * (10 : Int32))), (3, .int (p2 / (10 : Int32))), (0, .ref (d.2.1 0)), (1, .int p1), (2, .int p2)]) hC dX12_trade_57 (by decide) rfl rfl ?_
            refine j_aload_n (pc' := 60) hC 2 dX12_trade_59 rfl rfl rfl ?_
            refine j_get (pc' := 63) hC ly_X12 (M_at_0 d _) rfl 8 (by decide) fl_X12_28 rfl dX12_trade_60 rfl ?_
            refine j_iload_n (pc' := 64) hC 1 dX12_trade_63 rfl rfl rfl ?_
            refine j_iald (pc' := 65) hC (M_at_7 d _) dX12_trade_64 rfl ?_
            refine j_istore (pc' := 67) (lv' := [(5, .int (σ.1 7 ((p2 / (10 : Int32))).toNatClampNeg)), (4, .int (p2 - p2 / (10 : Int32) * (10 : Int32))), (3, .int (p2 / (10 : Int32))), (0, .ref (d.2.1 0)), (1, .int p1), (2, .int p2)]) hC dX12_trade_65 (by decide) rfl rfl ?_
            refine j_iload (pc' := 69) hC 0 dX12_trade_67 rfl rfl ?_
            refine j_iconst (pc' := 70) (v := (3 : Int32)) hC dX12_trade_69 (by decide) rfl ?_
            refine j_icmp_eq (pc' := 73) (tgt := 85) hC dX12_trade_70 (by decide) rfl ?_ ?_
            · refine j_bipush (pc' := 87) (v := (-5 : Int32)) hC dX12_trade_85 (by decide) rfl ?_
              exact j_ret_i hC dX12_trade_87
            · refine j_aload_n (pc' := 74) hC 3 dX12_trade_73 rfl rfl rfl ?_
              refine j_get (pc' := 77) hC ly_X12 (M_at_0 d _) rfl 8 (by decide) fl_X12_28 rfl dX12_trade_74 rfl ?_
              refine j_iload (pc' := 79) hC 1 dX12_trade_77 rfl rfl ?_
              refine j_iald (pc' := 80) hC (M_at_7 d _) dX12_trade_79 rfl ?_
              refine j_iload (pc' := 82) hC 0 dX12_trade_80 rfl rfl ?_
              refine j_icmp_eq (pc' := 85) (tgt := 88) hC dX12_trade_82 (by decide) rfl ?_ ?_
              · refine j_aload_n (pc' := 89) hC 3 dX12_trade_88 rfl rfl rfl ?_
                refine j_iload_n (pc' := 90) hC 4 dX12_trade_89 rfl rfl rfl ?_
                refine j_callV_v (pc' := 93) (As := [.int p1]) (st := []) hC (M_at_0 d _) rfl (kX12_goAfternoon l d A _ _) (jgV ml_X12_314 im_X12_goAfternoon se_X12_goAfternoon in_X12 cd_X12_goAfternoon) rfl rfl rfl hyV_X12_goAfternoon ⟨Nat.le_of_ble_eq_true rfl, Nat.le_of_ble_eq_true rfl⟩ rfl rfl (Nat.le_of_ble_eq_true rfl) dX12_trade_90 rfl (fun q4 => ?_)
                refine j_aload_n (pc' := 94) hC 3 dX12_trade_93 rfl rfl rfl ?_
                refine j_get (pc' := 97) hC ly_X12 (M_at_0 d _) rfl 38 (by decide) fl_X12_79 rfl dX12_trade_94 rfl ?_
                refine j_iload_n (pc' := 98) hC 2 dX12_trade_97 rfl rfl rfl ?_
                refine j_iald (pc' := 99) hC (M_at_21 d _) dX12_trade_98 rfl ?_
                refine j_istore (pc' := 101) (lv' := [(6, .int (q4.1 21 ((p2 / (10 : Int32))).toNatClampNeg)), (5, .int (σ.1 7 ((p2 / (10 : Int32))).toNatClampNeg)), (4, .int (p2 - p2 / (10 : Int32) * (10 : Int32))), (3, .int (p2 / (10 : Int32))), (0, .ref (d.2.1 0)), (1, .int p1), (2, .int p2)]) hC dX12_trade_99 (by decide) rfl rfl ?_
                refine j_aload_n (pc' := 102) hC 4 dX12_trade_101 rfl rfl rfl ?_
                refine j_callV_v (pc' := 105) (As := []) (st := []) hC (M_at_0 d _) rfl (kX12_beginAfternoon l d A _) (jgV ml_X12_302 im_X12_beginAfternoon se_X12_beginAfternoon in_X12 cd_X12_beginAfternoon) rfl rfl rfl hyV_X12_beginAfternoon ⟨Nat.le_of_ble_eq_true rfl, Nat.le_of_ble_eq_true rfl⟩ rfl rfl (Nat.le_of_ble_eq_true rfl) dX12_trade_102 rfl (fun q5 => ?_)
                refine j_aload_n (pc' := 106) hC 4 dX12_trade_105 rfl rfl rfl ?_
                refine j_iload (pc' := 108) hC 1 dX12_trade_106 rfl rfl ?_
                refine j_callV_v (pc' := 111) (As := [.int (σ.1 7 ((p2 / (10 : Int32))).toNatClampNeg)]) (st := []) hC (M_at_0 d _) rfl (kX12_layLine l d A _ _) (jgV ml_X12_305 im_X12_layLine se_X12_layLine in_X12 cd_X12_layLine) rfl rfl rfl hyV_X12_layLine ⟨Nat.le_of_ble_eq_true rfl, Nat.le_of_ble_eq_true rfl⟩ rfl rfl (Nat.le_of_ble_eq_true rfl) dX12_trade_108 rfl (fun q6 => ?_)
                refine j_iconst (pc' := 112) (v := (0 : Int32)) hC dX12_trade_111 (by decide) rfl ?_
                refine j_istore (pc' := 114) (lv' := [(7, .int (0 : Int32)), (6, .int (q4.1 21 ((p2 / (10 : Int32))).toNatClampNeg)), (5, .int (σ.1 7 ((p2 / (10 : Int32))).toNatClampNeg)), (4, .int (p2 - p2 / (10 : Int32) * (10 : Int32))), (3, .int (p2 / (10 : Int32))), (0, .ref (d.2.1 0)), (1, .int p1), (2, .int p2)]) hC dX12_trade_112 (by decide) rfl rfl ?_
                refine j_let 175 (fun a175 => a175) (fun a175 => [(0, .ref (d.2.1 0)), (1, .int p1), (3, .int (p2 / (10 : Int32))), (5, .int (σ.1 7 ((p2 / (10 : Int32))).toNatClampNeg)), (6, .int (q4.1 21 ((p2 / (10 : Int32))).toNatClampNeg))]) (fun a175 => []) (fun a175 => ?_) (fun j175 hj175 => ?_)
                · refine j_aload_n (pc' := 176) hC 0 dX12_trade_175 rfl rfl rfl ?_
                  refine j_iload (pc' := 178) hC 3 dX12_trade_176 rfl rfl ?_
                  refine j_iload_n (pc' := 179) hC 1 dX12_trade_178 rfl rfl rfl ?_
                  refine j_callV_v (pc' := 182) (As := [.int (σ.1 7 ((p2 / (10 : Int32))).toNatClampNeg), .int p1]) (st := []) hC (M_at_0 d _) rfl (kX12_goSwing l d A _ _ _) (jgV ml_X12_308 im_X12_goSwing se_X12_goSwing in_X12 cd_X12_goSwing) rfl rfl rfl hyV_X12_goSwing ⟨Nat.le_of_ble_eq_true rfl, Nat.le_of_ble_eq_true rfl⟩ rfl rfl (Nat.le_of_ble_eq_true rfl) dX12_trade_179 rfl (fun q7 => ?_)
                  refine j_iload (pc' := 184) hC 4 dX12_trade_182 rfl rfl ?_
                  refine j_if_lt (pc' := 187) (tgt := 196) hC dX12_trade_184 (by decide) rfl ?_ ?_
                  · refine j_bipush (pc' := 198) (v := (-2 : Int32)) hC dX12_trade_196 (by decide) rfl ?_
                    refine j_goto (tgt := 210) hC dX12_trade_198 (by decide) ?_
                    exact j_ret_i hC dX12_trade_210
                  · refine j_aload_n (pc' := 188) hC 0 dX12_trade_187 rfl rfl rfl ?_
                    refine j_get (pc' := 191) hC ly_X12 (M_at_0 d _) rfl 38 (by decide) fl_X12_79 rfl dX12_trade_188 rfl ?_
                    refine j_iload_n (pc' := 192) hC 2 dX12_trade_191 rfl rfl rfl ?_
                    refine j_iald (pc' := 193) hC (M_at_21 d _) dX12_trade_192 rfl ?_
                    refine j_if_ge (pc' := 196) (tgt := 201) hC dX12_trade_193 (by decide) rfl ?_ ?_
                    · refine j_iload (pc' := 203) hC 4 dX12_trade_201 rfl rfl ?_
                      refine j_aload_n (pc' := 204) hC 0 dX12_trade_203 rfl rfl rfl ?_
                      refine j_get (pc' := 207) hC ly_X12 (M_at_0 d _) rfl 38 (by decide) fl_X12_79 rfl dX12_trade_204 rfl ?_
                      refine j_iload_n (pc' := 208) hC 2 dX12_trade_207 rfl rfl rfl ?_
                      refine j_iald (pc' := 209) hC (M_at_21 d _) dX12_trade_208 rfl ?_
                      refine j_isub (pc' := 210) hC dX12_trade_209 rfl ?_
                      exact j_ret_i hC dX12_trade_210
                    · refine j_bipush (pc' := 198) (v := (-2 : Int32)) hC dX12_trade_196 (by decide) rfl ?_
                      refine j_goto (tgt := 210) hC dX12_trade_198 (by decide) ?_
                      exact j_ret_i hC dX12_trade_210
                · refine j_lv (lv' := [(0, .ref (d.2.1 0)), (1, .int p1), (3, .int (p2 / (10 : Int32))), (4, .int (p2 - p2 / (10 : Int32) * (10 : Int32))), (5, .int (σ.1 7 ((p2 / (10 : Int32))).toNatClampNeg)), (6, .int (q4.1 21 ((p2 / (10 : Int32))).toNatClampNeg)), (7, .int (0 : Int32))]) [5, 6, 4, 3, 2, 1, 0] rfl ?_
                  refine j_loop 114 (fun a => a.1) (fun a => [(0, .ref (d.2.1 0)), (1, .int p1), (3, .int (p2 / (10 : Int32))), (4, .int (p2 - p2 / (10 : Int32) * (10 : Int32))), (5, .int (σ.1 7 ((p2 / (10 : Int32))).toNatClampNeg)), (6, .int (q4.1 21 ((p2 / (10 : Int32))).toNatClampNeg)), (7, .int a.2)]) (fun s114 hs114 a => ?_) jN (q6, (0 : Int32))
                  unfold fX12_trade_B114
                  refine j_iload (pc' := 116) hC 6 dX12_trade_114 rfl rfl ?_
                  refine j_aload_n (pc' := 117) hC 0 dX12_trade_116 rfl rfl rfl ?_
                  refine j_get (pc' := 120) hC ly_X12 (M_at_0 d _) rfl 42 (by decide) fl_X12_292 rfl dX12_trade_117 rfl ?_
                  refine j_icmp_ge (pc' := 123) (tgt := 175) hC dX12_trade_120 (by decide) rfl ?_ ?_
                  · exact j_lv (lv' := [(0, .ref (d.2.1 0)), (1, .int p1), (3, .int (p2 / (10 : Int32))), (5, .int (σ.1 7 ((p2 / (10 : Int32))).toNatClampNeg)), (6, .int (q4.1 21 ((p2 / (10 : Int32))).toNatClampNeg))]) [0, 1, 2, 4, 5] rfl (hj175 a.1)
                  · refine j_aload_n (pc' := 124) hC 0 dX12_trade_123 rfl rfl rfl ?_
                    refine j_get (pc' := 127) hC ly_X12 (M_at_0 d _) rfl 41 (by decide) fl_X12_88 rfl dX12_trade_124 rfl ?_
                    refine j_iload (pc' := 129) hC 6 dX12_trade_127 rfl rfl ?_
                    refine j_aload_n (pc' := 130) hC 0 dX12_trade_129 rfl rfl rfl ?_
                    refine j_get (pc' := 133) hC ly_X12 (M_at_0 d _) rfl 41 (by decide) fl_X12_88 rfl dX12_trade_130 rfl ?_
                    refine j_iload (pc' := 135) hC 6 dX12_trade_133 rfl rfl ?_
                    refine j_iald (pc' := 136) hC (M_at_24 d _) dX12_trade_135 rfl ?_
                    refine j_iload_n (pc' := 137) hC 2 dX12_trade_136 rfl rfl rfl ?_
                    refine j_let 168 (fun a168 => a.1) (fun a168 => [(0, .ref (d.2.1 0)), (1, .int p1), (3, .int (p2 / (10 : Int32))), (4, .int (p2 - p2 / (10 : Int32) * (10 : Int32))), (5, .int (σ.1 7 ((p2 / (10 : Int32))).toNatClampNeg)), (6, .int (q4.1 21 ((p2 / (10 : Int32))).toNatClampNeg)), (7, .int a.2)]) (fun a168 => [.int a168, .int a.2, .ref (d.2.1 24)]) (fun a168 => ?_) (fun j168 hj168 => ?_)
                    · refine j_iast (pc' := 169) hC (M_at_24 d _) (M_sa_24 d _ _) dX12_trade_168 rfl ?_
                      refine j_st (fun σ8 => ?_)
                      refine j_iinc (pc' := 172) (v := (a.2 + (1 : Int32))) (lv' := [(7, .int (a.2 + (1 : Int32))), (0, .ref (d.2.1 0)), (1, .int p1), (3, .int (p2 / (10 : Int32))), (4, .int (p2 - p2 / (10 : Int32) * (10 : Int32))), (5, .int (σ.1 7 ((p2 / (10 : Int32))).toNatClampNeg)), (6, .int (q4.1 21 ((p2 / (10 : Int32))).toNatClampNeg))]) hC 6 dX12_trade_169 rfl (by decide) rfl rfl rfl ?_
                      refine j_goto (tgt := 114) hC dX12_trade_172 (by decide) ?_
                      exact j_lv (lv' := [(0, .ref (d.2.1 0)), (1, .int p1), (3, .int (p2 / (10 : Int32))), (4, .int (p2 - p2 / (10 : Int32) * (10 : Int32))), (5, .int (σ.1 7 ((p2 / (10 : Int32))).toNatClampNeg)), (6, .int (q4.1 21 ((p2 / (10 : Int32))).toNatClampNeg)), (7, .int (a.2 + (1 : Int32)))]) [1, 2, 3, 4, 5, 6, 0] rfl (hs114 (σ8, (a.2 + (1 : Int32))))
                    · refine j_icmp_ne (pc' := 140) (tgt := 145) hC dX12_trade_137 (by decide) rfl ?_ ?_
                      · refine j_aload_n (pc' := 146) hC 0 dX12_trade_145 rfl rfl rfl ?_
                        refine j_get (pc' := 149) hC ly_X12 (M_at_0 d _) rfl 41 (by decide) fl_X12_88 rfl dX12_trade_146 rfl ?_
                        refine j_iload (pc' := 151) hC 6 dX12_trade_149 rfl rfl ?_
                        refine j_iald (pc' := 152) hC (M_at_24 d _) dX12_trade_151 rfl ?_
                        refine j_iload (pc' := 154) hC 3 dX12_trade_152 rfl rfl ?_
                        refine j_icmp_ne (pc' := 157) (tgt := 161) hC dX12_trade_154 (by decide) rfl ?_ ?_
                        · refine j_aload_n (pc' := 162) hC 0 dX12_trade_161 rfl rfl rfl ?_
                          refine j_get (pc' := 165) hC ly_X12 (M_at_0 d _) rfl 41 (by decide) fl_X12_88 rfl dX12_trade_162 rfl ?_
                          refine j_iload (pc' := 167) hC 6 dX12_trade_165 rfl rfl ?_
                          refine j_iald (pc' := 168) hC (M_at_24 d _) dX12_trade_167 rfl ?_
                          exact j_lv (lv' := [(0, .ref (d.2.1 0)), (1, .int p1), (3, .int (p2 / (10 : Int32))), (4, .int (p2 - p2 / (10 : Int32) * (10 : Int32))), (5, .int (σ.1 7 ((p2 / (10 : Int32))).toNatClampNeg)), (6, .int (q4.1 21 ((p2 / (10 : Int32))).toNatClampNeg)), (7, .int a.2)]) [0, 1, 2, 3, 4, 5, 6] rfl (hj168 (a.1.1 24 (a.2).toNatClampNeg))
                        · refine j_iload_n (pc' := 158) hC 2 dX12_trade_157 rfl rfl rfl ?_
                          refine j_goto (tgt := 168) hC dX12_trade_158 (by decide) ?_
                          exact j_lv (lv' := [(0, .ref (d.2.1 0)), (1, .int p1), (3, .int (p2 / (10 : Int32))), (4, .int (p2 - p2 / (10 : Int32) * (10 : Int32))), (5, .int (σ.1 7 ((p2 / (10 : Int32))).toNatClampNeg)), (6, .int (q4.1 21 ((p2 / (10 : Int32))).toNatClampNeg)), (7, .int a.2)]) [0, 1, 2, 3, 4, 5, 6] rfl (hj168 (p2 / (10 : Int32)))
                      · refine j_iload (pc' := 142) hC 3 dX12_trade_140 rfl rfl ?_
                        refine j_goto (tgt := 168) hC dX12_trade_142 (by decide) ?_
                        exact j_lv (lv' := [(0, .ref (d.2.1 0)), (1, .int p1), (3, .int (p2 / (10 : Int32))), (4, .int (p2 - p2 / (10 : Int32) * (10 : Int32))), (5, .int (σ.1 7 ((p2 / (10 : Int32))).toNatClampNeg)), (6, .int (q4.1 21 ((p2 / (10 : Int32))).toNatClampNeg)), (7, .int a.2)]) [0, 1, 2, 3, 4, 5, 6] rfl (hj168 (p2 - p2 / (10 : Int32) * (10 : Int32)))
              · refine j_bipush (pc' := 87) (v := (-5 : Int32)) hC dX12_trade_85 (by decide) rfl ?_
                exact j_ret_i hC dX12_trade_87
          · refine j_ldcw (pc' := 47) (v := (-2000000000 : Int32)) hC dX12_trade_44 ct_X12_291 rfl ?_
            exact j_ret_i hC dX12_trade_47
theorem hyV_X12_drawn : yX12_drawn.cls = RX12 ∧ yX12_drawn.cls ≠ "java/lang/invoke/MethodHandle" ∧ yX12_drawn.cls ≠ "java/lang/invoke/VarHandle" ∧ (parseMethodDescriptor yX12_drawn.desc).map (fun d => d.parameters.length) = some 4 := ⟨rfl, by decide +kernel, by decide +kernel, by decide +kernel⟩
noncomputable def fX12_drawn_B165 (p4 : Int32) (a162 : jS × Int32) (j204 : (Int32 → Option (Int32 × jS))) (s165 : Int32 × Int32 → Option (Int32 × jS)) (a_ : Int32 × Int32) : Option (Int32 × jS) :=
  (if (a162.1.1 0 2) ≤ a_.2 then (j204 a_.1) else (jlet (fun (a198 : Int32) => (s165 (a198, (a_.2 + (1 : Int32))))) fun (j198 : (Int32 → Option (Int32 × jS))) => (jlet (fun (a186 : Unit) => (ob a_.2 9 (j198 (a_.1 + (a162.1.1 20 (a_.2).toNatClampNeg))))) fun (j186 : (Unit → Option (Int32 × jS))) => (if p4 < 0 then (j186 ()) else (if a_.2 = p4 then (j186 ()) else (j198 a_.1))))))
noncomputable def fX12_drawn_B85 (p3 : Int32) (a_ : jS × Int32 × Int32) (j156 : (jS × Int32 → Option (Int32 × jS))) (s85 : jS × Int32 × Int32 × Int32 → Option (Int32 × jS)) (a__ : jS × Int32 × Int32 × Int32) : Option (Int32 × jS) :=
  (if (3600 : Int32) ≤ a__.2.2.2 then (j156 (a__.1, a__.2.1)) else (if a__.2.2.1 = 0 then (j156 (a__.1, a__.2.1)) else (jlet (fun (a150 : jS × Int32) => (s85 (a150.1, ((a__.2.1 * (1103515245 : Int32)) + (12345 : Int32)), a150.2, (a__.2.2.2 + (1 : Int32))))) fun (j150 : (jS × Int32 → Option (Int32 × jS))) => (jlet (fun (a141 : Unit) => (Option.bind (fX12_goHead a__.1 a_.2.2 p3) fun (q5 : (Int32 × jS)) => (j150 (q5.2, (jb q5.1))))) fun (j141 : (Unit → Option (Int32 × jS))) => (if (a__.1.1 0 12) ≤ (((((a__.2.1 * (1103515245 : Int32)) + (12345 : Int32))).toUInt32 >>> (((8 : Int32)).toUInt32 &&& Int32.toUInt32 31)).toInt32 - ((((a__.2.1 * (1103515245 : Int32)) + (12345 : Int32))).toUInt32 >>> (((8 : Int32)).toUInt32 &&& Int32.toUInt32 31)).toInt32 / (12 : Int32) * (12 : Int32)) then (j141 ()) else (if (a__.1.1 0 42) ≤ (1 : Int32) then (j141 ()) else (Option.bind (fX12_toEnd a__.1 (0 : Int32)) fun (q6 : jS) => (j150 (q6, a__.2.2.1)))))))))
noncomputable def fX12_drawn_B56 (p3 : Int32) (j162 : (jS × Int32 → Option (Int32 × jS))) (s56 : jS × Int32 × Int32 → Option (Int32 × jS)) (a_ : jS × Int32 × Int32) : Option (Int32 × jS) :=
  (if (3 : Int32) ≤ a_.2.2 then (j162 (a_.1, a_.2.1)) else (Option.bind (fX12_layLine a_.1 a_.2.2) fun (q4 : jS) => (jlet (fun (a80 : Int32) => (jlet (fun (a156 : jS × Int32) => (s56 (a156.1, a156.2, (a_.2.2 + (1 : Int32))))) fun (j156 : (jS × Int32 → Option (Int32 × jS))) => (jloop (fX12_drawn_B85 p3 a_ j156) jN (q4, a_.2.1, a80, (0 : Int32))))) fun (j80 : (Int32 → Option (Int32 × jS))) => (if (q4.1 0 42) ≤ 0 then (j80 (0 : Int32)) else (j80 (1 : Int32))))))
noncomputable def fX12_drawn_B43 (p2 : Int32) (p3 : Int32) (p4 : Int32) (s43 : jS × Int32 × Int32 × Int32 → Option (Int32 × jS)) (a : jS × Int32 × Int32 × Int32) : Option (Int32 × jS) :=
  (if p2 ≤ a.2.2.2 then (some (a.2.2.1, a.1)) else (Option.bind (fX12_beginAfternoon a.1) fun (q3 : jS) => (jlet (fun (a162 : jS × Int32) => (jlet (fun (a204 : Int32) => (s43 (a162.1, a162.2, a204, (a.2.2.2 + (1 : Int32))))) fun (j204 : (Int32 → Option (Int32 × jS))) => (jloop (fX12_drawn_B165 p4 a162 j204) jN (a.2.2.1, (0 : Int32))))) fun (j162 : (jS × Int32 → Option (Int32 × jS))) => (jloop (fX12_drawn_B56 p3 j162) jN (q3, a.2.1, (0 : Int32))))))
noncomputable def fX12_drawn (σ : jS) (p1 : Int32) (p2 : Int32) (p3 : Int32) (p4 : Int32) : Option (Int32 × jS) :=
  (Option.bind (fX12_in σ p2 (1 : Int32) (10 : Int32)) fun (q1 : Int32) => (if (jb q1) = 0 then (some ((-1 : Int32), σ)) else (Option.bind (fX12_isBell σ p3) fun (q2 : Int32) => (if (jb q2) = 0 then (some ((-1 : Int32), σ)) else (jlet (fun (a34 : Unit) => (jloop (fX12_drawn_B43 p2 p3 p4) jN (σ, p1, (0 : Int32), (0 : Int32)))) fun (j34 : (Unit → Option (Int32 × jS))) => (if p4 = (-1 : Int32) then (j34 ()) else (Option.bind (fX12_isChild σ p4) fun (q7 : Int32) => (if (jb q7) = 0 then (some ((-1 : Int32), σ)) else (j34 ())))))))))
set_option maxRecDepth 100000 in
set_option maxHeartbeats 4000000 in
theorem kX12_drawn (l : Launch) (d : jD) (A : Nat → Prop) (σ : jS) (p1 : Int32) (p2 : Int32) (p3 : Int32) (p4 : Int32) : jMi l yX12_drawn (jws yX12_drawn cX12_drawn 11 (some (.int))) { frames := 8, cells := 0, slots := 0, locals := 275 } d wM A [.ref (d.2.1 0), .int p1, .int p2, .int p3, .int p4] σ (fX12_drawn σ p1 p2 p3 p4) := by
  refine jStart_i (lv0 := [(0, .ref (d.2.1 0)), (1, .int p1), (2, .int p2), (3, .int p3), (4, .int p4)]) (by decide) rfl (Nat.le_of_ble_eq_true rfl) rfl (fun z hC res => ?_)
  unfold fX12_drawn
  refine j_iload_n (pc' := 1) hC 2 dX12_drawn_0 rfl rfl rfl ?_
  refine j_iconst (pc' := 2) (v := (1 : Int32)) hC dX12_drawn_1 (by decide) rfl ?_
  refine j_bipush (pc' := 4) (v := (10 : Int32)) hC dX12_drawn_2 (by decide) rfl ?_
  refine j_callS_zr (pc' := 7) (As := [.int p2, .int (1 : Int32), .int (10 : Int32)]) (st := []) hC (kX12_in l d A _ _ _ _) (jgS ml_X12_128 st_X12_in in_X12 cd_X12_in) rfl rfl rfl hyS_X12_in ⟨Nat.le_of_ble_eq_true rfl, Nat.le_of_ble_eq_true rfl⟩ rfl rfl (Nat.le_of_ble_eq_true rfl) dX12_drawn_4 rfl (fun q1 => ?_)
  refine j_if_eq (pc' := 10) (tgt := 32) hC dX12_drawn_7 (by decide) rfl ?_ ?_
  · refine j_iconst (pc' := 33) (v := (-1 : Int32)) hC dX12_drawn_32 (by decide) rfl ?_
    exact j_ret_i hC dX12_drawn_33
  · refine j_iload_n (pc' := 11) hC 3 dX12_drawn_10 rfl rfl rfl ?_
    refine j_callS_zr (pc' := 14) (As := [.int p3]) (st := []) hC (kX12_isBell l d A _ _) (jgS ml_X12_311 st_X12_isBell in_X12 cd_X12_isBell) rfl rfl rfl hyS_X12_isBell ⟨Nat.le_of_ble_eq_true rfl, Nat.le_of_ble_eq_true rfl⟩ rfl rfl (Nat.le_of_ble_eq_true rfl) dX12_drawn_11 rfl (fun q2 => ?_)
    refine j_if_eq (pc' := 17) (tgt := 32) hC dX12_drawn_14 (by decide) rfl ?_ ?_
    · refine j_iconst (pc' := 33) (v := (-1 : Int32)) hC dX12_drawn_32 (by decide) rfl ?_
      exact j_ret_i hC dX12_drawn_33
    · refine j_iload (pc' := 19) hC 4 dX12_drawn_17 rfl rfl ?_
      refine j_iconst (pc' := 20) (v := (-1 : Int32)) hC dX12_drawn_19 (by decide) rfl ?_
      refine j_let 34 (fun a34 => σ) (fun a34 => [(0, .ref (d.2.1 0)), (1, .int p1), (2, .int p2), (3, .int p3), (4, .int p4)]) (fun a34 => []) (fun a34 => ?_) (fun j34 hj34 => ?_)
      · refine j_iload_n (pc' := 35) hC 1 dX12_drawn_34 rfl rfl rfl ?_
        refine j_istore (pc' := 37) (lv' := [(5, .int p1), (0, .ref (d.2.1 0)), (1, .int p1), (2, .int p2), (3, .int p3), (4, .int p4)]) hC dX12_drawn_35 (by decide) rfl rfl ?_
        refine j_iconst (pc' := 38) (v := (0 : Int32)) hC dX12_drawn_37 (by decide) rfl ?_
        refine j_istore (pc' := 40) (lv' := [(6, .int (0 : Int32)), (5, .int p1), (0, .ref (d.2.1 0)), (1, .int p1), (2, .int p2), (3, .int p3), (4, .int p4)]) hC dX12_drawn_38 (by decide) rfl rfl ?_
        refine j_iconst (pc' := 41) (v := (0 : Int32)) hC dX12_drawn_40 (by decide) rfl ?_
        refine j_istore (pc' := 43) (lv' := [(7, .int (0 : Int32)), (6, .int (0 : Int32)), (5, .int p1), (0, .ref (d.2.1 0)), (1, .int p1), (2, .int p2), (3, .int p3), (4, .int p4)]) hC dX12_drawn_41 (by decide) rfl rfl ?_
        refine j_lv (lv' := [(0, .ref (d.2.1 0)), (2, .int p2), (3, .int p3), (4, .int p4), (5, .int p1), (6, .int (0 : Int32)), (7, .int (0 : Int32))]) [3, 5, 6, 7, 2, 1, 0] rfl ?_
        refine j_loop 43 (fun a => a.1) (fun a => [(0, .ref (d.2.1 0)), (2, .int p2), (3, .int p3), (4, .int p4), (5, .int a.2.1), (6, .int a.2.2.1), (7, .int a.2.2.2)]) (fun s43 hs43 a => ?_) jN (σ, p1, (0 : Int32), (0 : Int32))
        unfold fX12_drawn_B43
        refine j_iload (pc' := 45) hC 6 dX12_drawn_43 rfl rfl ?_
        refine j_iload_n (pc' := 46) hC 1 dX12_drawn_45 rfl rfl rfl ?_
        refine j_icmp_ge (pc' := 49) (tgt := 210) hC dX12_drawn_46 (by decide) rfl ?_ ?_
        · refine j_iload (pc' := 212) hC 5 dX12_drawn_210 rfl rfl ?_
          exact j_ret_i hC dX12_drawn_212
        · refine j_aload_n (pc' := 50) hC 0 dX12_drawn_49 rfl rfl rfl ?_
          refine j_callV_v (pc' := 53) (As := []) (st := []) hC (M_at_0 d _) rfl (kX12_beginAfternoon l d A _) (jgV ml_X12_302 im_X12_beginAfternoon se_X12_beginAfternoon in_X12 cd_X12_beginAfternoon) rfl rfl rfl hyV_X12_beginAfternoon ⟨Nat.le_of_ble_eq_true rfl, Nat.le_of_ble_eq_true rfl⟩ rfl rfl (Nat.le_of_ble_eq_true rfl) dX12_drawn_50 rfl (fun q3 => ?_)
          refine j_iconst (pc' := 54) (v := (0 : Int32)) hC dX12_drawn_53 (by decide) rfl ?_
          refine j_istore (pc' := 56) (lv' := [(8, .int (0 : Int32)), (0, .ref (d.2.1 0)), (2, .int p2), (3, .int p3), (4, .int p4), (5, .int a.2.1), (6, .int a.2.2.1), (7, .int a.2.2.2)]) hC dX12_drawn_54 (by decide) rfl rfl ?_
          refine j_let 162 (fun a162 => a162.1) (fun a162 => [(0, .ref (d.2.1 0)), (2, .int p2), (3, .int p3), (4, .int p4), (5, .int a162.2), (6, .int a.2.2.1), (7, .int a.2.2.2)]) (fun a162 => []) (fun a162 => ?_) (fun j162 hj162 => ?_)
          · refine j_iconst (pc' := 163) (v := (0 : Int32)) hC dX12_drawn_162 (by decide) rfl ?_
            refine j_istore (pc' := 165) (lv' := [(8, .int (0 : Int32)), (0, .ref (d.2.1 0)), (2, .int p2), (3, .int p3), (4, .int p4), (5, .int a162.2), (6, .int a.2.2.1), (7, .int a.2.2.2)]) hC dX12_drawn_163 (by decide) rfl rfl ?_
            refine j_let 204 (fun a204 => a162.1) (fun a204 => [(0, .ref (d.2.1 0)), (2, .int p2), (3, .int p3), (4, .int p4), (5, .int a162.2), (6, .int a204), (7, .int a.2.2.2)]) (fun a204 => []) (fun a204 => ?_) (fun j204 hj204 => ?_)
            · refine j_iinc (pc' := 207) (v := (a.2.2.2 + (1 : Int32))) (lv' := [(7, .int (a.2.2.2 + (1 : Int32))), (0, .ref (d.2.1 0)), (2, .int p2), (3, .int p3), (4, .int p4), (5, .int a162.2), (6, .int a204)]) hC 6 dX12_drawn_204 rfl (by decide) rfl rfl rfl ?_
              refine j_goto (tgt := 43) hC dX12_drawn_207 (by decide) ?_
              exact j_lv (lv' := [(0, .ref (d.2.1 0)), (2, .int p2), (3, .int p3), (4, .int p4), (5, .int a162.2), (6, .int a204), (7, .int (a.2.2.2 + (1 : Int32)))]) [1, 2, 3, 4, 5, 6, 0] rfl (hs43 (a162.1, a162.2, a204, (a.2.2.2 + (1 : Int32))))
            · refine j_lv (lv' := [(0, .ref (d.2.1 0)), (2, .int p2), (3, .int p3), (4, .int p4), (5, .int a162.2), (6, .int a.2.2.1), (7, .int a.2.2.2), (8, .int (0 : Int32))]) [1, 2, 3, 4, 5, 6, 7, 0] rfl ?_
              refine j_loop 165 (fun a_ => a162.1) (fun a_ => [(0, .ref (d.2.1 0)), (2, .int p2), (3, .int p3), (4, .int p4), (5, .int a162.2), (6, .int a_.1), (7, .int a.2.2.2), (8, .int a_.2)]) (fun s165 hs165 a_ => ?_) jN (a.2.2.1, (0 : Int32))
              unfold fX12_drawn_B165
              refine j_iload (pc' := 167) hC 7 dX12_drawn_165 rfl rfl ?_
              refine j_aload_n (pc' := 168) hC 0 dX12_drawn_167 rfl rfl rfl ?_
              refine j_get (pc' := 171) hC ly_X12 (M_at_0 d _) rfl 2 (by decide) fl_X12_125 rfl dX12_drawn_168 rfl ?_
              refine j_icmp_ge (pc' := 174) (tgt := 204) hC dX12_drawn_171 (by decide) rfl ?_ ?_
              · exact j_lv (lv' := [(0, .ref (d.2.1 0)), (2, .int p2), (3, .int p3), (4, .int p4), (5, .int a162.2), (6, .int a_.1), (7, .int a.2.2.2)]) [0, 1, 2, 3, 4, 5, 6] rfl (hj204 a_.1)
              · refine j_iload (pc' := 176) hC 3 dX12_drawn_174 rfl rfl ?_
                refine j_let 198 (fun a198 => a162.1) (fun a198 => [(0, .ref (d.2.1 0)), (2, .int p2), (3, .int p3), (4, .int p4), (5, .int a162.2), (6, .int a198), (7, .int a.2.2.2), (8, .int a_.2)]) (fun a198 => []) (fun a198 => ?_) (fun j198 hj198 => ?_)
                · refine j_iinc (pc' := 201) (v := (a_.2 + (1 : Int32))) (lv' := [(8, .int (a_.2 + (1 : Int32))), (0, .ref (d.2.1 0)), (2, .int p2), (3, .int p3), (4, .int p4), (5, .int a162.2), (6, .int a198), (7, .int a.2.2.2)]) hC 7 dX12_drawn_198 rfl (by decide) rfl rfl rfl ?_
                  refine j_goto (tgt := 165) hC dX12_drawn_201 (by decide) ?_
                  exact j_lv (lv' := [(0, .ref (d.2.1 0)), (2, .int p2), (3, .int p3), (4, .int p4), (5, .int a162.2), (6, .int a198), (7, .int a.2.2.2), (8, .int (a_.2 + (1 : Int32)))]) [1, 2, 3, 4, 5, 6, 7, 0] rfl (hs165 (a198, (a_.2 + (1 : Int32))))
                · refine j_let 186 (fun a186 => a162.1) (fun a186 => [(0, .ref (d.2.1 0)), (2, .int p2), (3, .int p3), (4, .int p4), (5, .int a162.2), (6, .int a_.1), (7, .int a.2.2.2), (8, .int a_.2)]) (fun a186 => []) (fun a186 => ?_) (fun j186 hj186 => ?_)
                  · refine j_iload (pc' := 188) hC 5 dX12_drawn_186 rfl rfl ?_
                    refine j_aload_n (pc' := 189) hC 0 dX12_drawn_188 rfl rfl rfl ?_
                    refine j_get (pc' := 192) hC ly_X12 (M_at_0 d _) rfl 37 (by decide) fl_X12_76 rfl dX12_drawn_189 rfl ?_
                    refine j_iload (pc' := 194) hC 7 dX12_drawn_192 rfl rfl ?_
                    refine j_iald (pc' := 195) hC (M_at_20 d _) dX12_drawn_194 rfl ?_
                    refine j_iadd (pc' := 196) hC dX12_drawn_195 rfl ?_
                    refine j_istore (pc' := 198) (lv' := [(6, .int (a_.1 + (a162.1.1 20 (a_.2).toNatClampNeg))), (0, .ref (d.2.1 0)), (2, .int p2), (3, .int p3), (4, .int p4), (5, .int a162.2), (7, .int a.2.2.2), (8, .int a_.2)]) hC dX12_drawn_196 (by decide) rfl rfl ?_
                    exact j_lv (lv' := [(0, .ref (d.2.1 0)), (2, .int p2), (3, .int p3), (4, .int p4), (5, .int a162.2), (6, .int (a_.1 + (a162.1.1 20 (a_.2).toNatClampNeg))), (7, .int a.2.2.2), (8, .int a_.2)]) [1, 2, 3, 4, 5, 0, 6, 7] rfl (hj198 (a_.1 + (a162.1.1 20 (a_.2).toNatClampNeg)))
                  · refine j_if_lt (pc' := 179) (tgt := 186) hC dX12_drawn_176 (by decide) rfl ?_ ?_
                    · exact j_lv (lv' := [(0, .ref (d.2.1 0)), (2, .int p2), (3, .int p3), (4, .int p4), (5, .int a162.2), (6, .int a_.1), (7, .int a.2.2.2), (8, .int a_.2)]) [0, 1, 2, 3, 4, 5, 6, 7] rfl (hj186 ())
                    · refine j_iload (pc' := 181) hC 7 dX12_drawn_179 rfl rfl ?_
                      refine j_iload (pc' := 183) hC 3 dX12_drawn_181 rfl rfl ?_
                      refine j_icmp_ne (pc' := 186) (tgt := 198) hC dX12_drawn_183 (by decide) rfl ?_ ?_
                      · exact j_lv (lv' := [(0, .ref (d.2.1 0)), (2, .int p2), (3, .int p3), (4, .int p4), (5, .int a162.2), (6, .int a_.1), (7, .int a.2.2.2), (8, .int a_.2)]) [0, 1, 2, 3, 4, 5, 6, 7] rfl (hj198 a_.1)
                      · exact j_lv (lv' := [(0, .ref (d.2.1 0)), (2, .int p2), (3, .int p3), (4, .int p4), (5, .int a162.2), (6, .int a_.1), (7, .int a.2.2.2), (8, .int a_.2)]) [0, 1, 2, 3, 4, 5, 6, 7] rfl (hj186 ())
          · refine j_lv (lv' := [(0, .ref (d.2.1 0)), (2, .int p2), (3, .int p3), (4, .int p4), (5, .int a.2.1), (6, .int a.2.2.1), (7, .int a.2.2.2), (8, .int (0 : Int32))]) [1, 2, 3, 4, 5, 6, 7, 0] rfl ?_
            refine j_loop 56 (fun a_ => a_.1) (fun a_ => [(0, .ref (d.2.1 0)), (2, .int p2), (3, .int p3), (4, .int p4), (5, .int a_.2.1), (6, .int a.2.2.1), (7, .int a.2.2.2), (8, .int a_.2.2)]) (fun s56 hs56 a_ => ?_) jN (q3, a.2.1, (0 : Int32))
            unfold fX12_drawn_B56
            refine j_iload (pc' := 58) hC 7 dX12_drawn_56 rfl rfl ?_
            refine j_iconst (pc' := 59) (v := (3 : Int32)) hC dX12_drawn_58 (by decide) rfl ?_
            refine j_icmp_ge (pc' := 62) (tgt := 162) hC dX12_drawn_59 (by decide) rfl ?_ ?_
            · exact j_lv (lv' := [(0, .ref (d.2.1 0)), (2, .int p2), (3, .int p3), (4, .int p4), (5, .int a_.2.1), (6, .int a.2.2.1), (7, .int a.2.2.2)]) [0, 1, 2, 3, 4, 5, 6] rfl (hj162 (a_.1, a_.2.1))
            · refine j_aload_n (pc' := 63) hC 0 dX12_drawn_62 rfl rfl rfl ?_
              refine j_iload (pc' := 65) hC 7 dX12_drawn_63 rfl rfl ?_
              refine j_callV_v (pc' := 68) (As := [.int a_.2.2]) (st := []) hC (M_at_0 d _) rfl (kX12_layLine l d A _ _) (jgV ml_X12_305 im_X12_layLine se_X12_layLine in_X12 cd_X12_layLine) rfl rfl rfl hyV_X12_layLine ⟨Nat.le_of_ble_eq_true rfl, Nat.le_of_ble_eq_true rfl⟩ rfl rfl (Nat.le_of_ble_eq_true rfl) dX12_drawn_65 rfl (fun q4 => ?_)
              refine j_aload_n (pc' := 69) hC 0 dX12_drawn_68 rfl rfl rfl ?_
              refine j_get (pc' := 72) hC ly_X12 (M_at_0 d _) rfl 42 (by decide) fl_X12_292 rfl dX12_drawn_69 rfl ?_
              refine j_let 80 (fun a80 => q4) (fun a80 => [(0, .ref (d.2.1 0)), (2, .int p2), (3, .int p3), (4, .int p4), (5, .int a_.2.1), (6, .int a.2.2.1), (7, .int a.2.2.2), (8, .int a_.2.2)]) (fun a80 => [.int a80]) (fun a80 => ?_) (fun j80 hj80 => ?_)
              · refine j_istore (pc' := 82) (lv' := [(9, .int a80), (0, .ref (d.2.1 0)), (2, .int p2), (3, .int p3), (4, .int p4), (5, .int a_.2.1), (6, .int a.2.2.1), (7, .int a.2.2.2), (8, .int a_.2.2)]) hC dX12_drawn_80 (by decide) rfl rfl ?_
                refine j_iconst (pc' := 83) (v := (0 : Int32)) hC dX12_drawn_82 (by decide) rfl ?_
                refine j_istore (pc' := 85) (lv' := [(10, .int (0 : Int32)), (9, .int a80), (0, .ref (d.2.1 0)), (2, .int p2), (3, .int p3), (4, .int p4), (5, .int a_.2.1), (6, .int a.2.2.1), (7, .int a.2.2.2), (8, .int a_.2.2)]) hC dX12_drawn_83 (by decide) rfl rfl ?_
                refine j_let 156 (fun a156 => a156.1) (fun a156 => [(0, .ref (d.2.1 0)), (2, .int p2), (3, .int p3), (4, .int p4), (5, .int a156.2), (6, .int a.2.2.1), (7, .int a.2.2.2), (8, .int a_.2.2)]) (fun a156 => []) (fun a156 => ?_) (fun j156 hj156 => ?_)
                · refine j_iinc (pc' := 159) (v := (a_.2.2 + (1 : Int32))) (lv' := [(8, .int (a_.2.2 + (1 : Int32))), (0, .ref (d.2.1 0)), (2, .int p2), (3, .int p3), (4, .int p4), (5, .int a156.2), (6, .int a.2.2.1), (7, .int a.2.2.2)]) hC 7 dX12_drawn_156 rfl (by decide) rfl rfl rfl ?_
                  refine j_goto (tgt := 56) hC dX12_drawn_159 (by decide) ?_
                  exact j_lv (lv' := [(0, .ref (d.2.1 0)), (2, .int p2), (3, .int p3), (4, .int p4), (5, .int a156.2), (6, .int a.2.2.1), (7, .int a.2.2.2), (8, .int (a_.2.2 + (1 : Int32)))]) [1, 2, 3, 4, 5, 6, 7, 0] rfl (hs56 (a156.1, a156.2, (a_.2.2 + (1 : Int32))))
                · refine j_lv (lv' := [(0, .ref (d.2.1 0)), (2, .int p2), (3, .int p3), (4, .int p4), (5, .int a_.2.1), (6, .int a.2.2.1), (7, .int a.2.2.2), (8, .int a_.2.2), (9, .int a80), (10, .int (0 : Int32))]) [2, 3, 4, 5, 6, 7, 8, 9, 1, 0] rfl ?_
                  refine j_loop 85 (fun a__ => a__.1) (fun a__ => [(0, .ref (d.2.1 0)), (2, .int p2), (3, .int p3), (4, .int p4), (5, .int a__.2.1), (6, .int a.2.2.1), (7, .int a.2.2.2), (8, .int a_.2.2), (9, .int a__.2.2.1), (10, .int a__.2.2.2)]) (fun s85 hs85 a__ => ?_) jN (q4, a_.2.1, a80, (0 : Int32))
                  unfold fX12_drawn_B85
                  refine j_iload (pc' := 87) hC 9 dX12_drawn_85 rfl rfl ?_
                  refine j_sipush (pc' := 90) (v := (3600 : Int32)) hC dX12_drawn_87 (by decide) rfl ?_
                  refine j_icmp_ge (pc' := 93) (tgt := 156) hC dX12_drawn_90 (by decide) rfl ?_ ?_
                  · exact j_lv (lv' := [(0, .ref (d.2.1 0)), (2, .int p2), (3, .int p3), (4, .int p4), (5, .int a__.2.1), (6, .int a.2.2.1), (7, .int a.2.2.2), (8, .int a_.2.2)]) [0, 1, 2, 3, 4, 5, 6, 7] rfl (hj156 (a__.1, a__.2.1))
                  · refine j_iload (pc' := 95) hC 8 dX12_drawn_93 rfl rfl ?_
                    refine j_if_eq (pc' := 98) (tgt := 156) hC dX12_drawn_95 (by decide) rfl ?_ ?_
                    · exact j_lv (lv' := [(0, .ref (d.2.1 0)), (2, .int p2), (3, .int p3), (4, .int p4), (5, .int a__.2.1), (6, .int a.2.2.1), (7, .int a.2.2.2), (8, .int a_.2.2)]) [0, 1, 2, 3, 4, 5, 6, 7] rfl (hj156 (a__.1, a__.2.1))
                    · refine j_iload (pc' := 100) hC 4 dX12_drawn_98 rfl rfl ?_
                      refine j_ldcw (pc' := 103) (v := (1103515245 : Int32)) hC dX12_drawn_100 ct_X12_332 rfl ?_
                      refine j_imul (pc' := 104) hC dX12_drawn_103 rfl ?_
                      refine j_sipush (pc' := 107) (v := (12345 : Int32)) hC dX12_drawn_104 (by decide) rfl ?_
                      refine j_iadd (pc' := 108) hC dX12_drawn_107 rfl ?_
                      refine j_istore (pc' := 110) (lv' := [(5, .int ((a__.2.1 * (1103515245 : Int32)) + (12345 : Int32))), (0, .ref (d.2.1 0)), (2, .int p2), (3, .int p3), (4, .int p4), (6, .int a.2.2.1), (7, .int a.2.2.2), (8, .int a_.2.2), (9, .int a__.2.2.1), (10, .int a__.2.2.2)]) hC dX12_drawn_108 (by decide) rfl rfl ?_
                      refine j_iload (pc' := 112) hC 0 dX12_drawn_110 rfl rfl ?_
                      refine j_bipush (pc' := 114) (v := (8 : Int32)) hC dX12_drawn_112 (by decide) rfl ?_
                      refine j_iushr (pc' := 115) hC dX12_drawn_114 rfl ?_
                      refine j_bipush (pc' := 117) (v := (12 : Int32)) hC dX12_drawn_115 (by decide) rfl ?_
                      refine j_irem0 (pc' := 118) hC dX12_drawn_117 (by decide) rfl ?_
                      refine j_aload_n (pc' := 119) hC 1 dX12_drawn_118 rfl rfl rfl ?_
                      refine j_get (pc' := 122) hC ly_X12 (M_at_0 d _) rfl 12 (by decide) fl_X12_145 rfl dX12_drawn_119 rfl ?_
                      refine j_let 150 (fun a150 => a150.1) (fun a150 => [(0, .ref (d.2.1 0)), (2, .int p2), (3, .int p3), (4, .int p4), (5, .int ((a__.2.1 * (1103515245 : Int32)) + (12345 : Int32))), (6, .int a.2.2.1), (7, .int a.2.2.2), (8, .int a_.2.2), (9, .int a150.2), (10, .int a__.2.2.2)]) (fun a150 => []) (fun a150 => ?_) (fun j150 hj150 => ?_)
                      · refine j_iinc (pc' := 153) (v := (a__.2.2.2 + (1 : Int32))) (lv' := [(10, .int (a__.2.2.2 + (1 : Int32))), (0, .ref (d.2.1 0)), (2, .int p2), (3, .int p3), (4, .int p4), (5, .int ((a__.2.1 * (1103515245 : Int32)) + (12345 : Int32))), (6, .int a.2.2.1), (7, .int a.2.2.2), (8, .int a_.2.2), (9, .int a150.2)]) hC 9 dX12_drawn_150 rfl (by decide) rfl rfl rfl ?_
                        refine j_goto (tgt := 85) hC dX12_drawn_153 (by decide) ?_
                        exact j_lv (lv' := [(0, .ref (d.2.1 0)), (2, .int p2), (3, .int p3), (4, .int p4), (5, .int ((a__.2.1 * (1103515245 : Int32)) + (12345 : Int32))), (6, .int a.2.2.1), (7, .int a.2.2.2), (8, .int a_.2.2), (9, .int a150.2), (10, .int (a__.2.2.2 + (1 : Int32)))]) [1, 2, 3, 4, 5, 6, 7, 8, 9, 0] rfl (hs85 (a150.1, ((a__.2.1 * (1103515245 : Int32)) + (12345 : Int32)), a150.2, (a__.2.2.2 + (1 : Int32))))
                      · refine j_let 141 (fun a141 => a__.1) (fun a141 => [(0, .ref (d.2.1 0)), (2, .int p2), (3, .int p3), (4, .int p4), (5, .int ((a__.2.1 * (1103515245 : Int32)) + (12345 : Int32))), (6, .int a.2.2.1), (7, .int a.2.2.2), (8, .int a_.2.2), (10, .int a__.2.2.2)]) (fun a141 => []) (fun a141 => ?_) (fun j141 hj141 => ?_)
                        · refine j_aload_n (pc' := 142) hC 0 dX12_drawn_141 rfl rfl rfl ?_
                          refine j_iload (pc' := 144) hC 7 dX12_drawn_142 rfl rfl ?_
                          refine j_iload_n (pc' := 145) hC 2 dX12_drawn_144 rfl rfl rfl ?_
                          refine j_callV_z (pc' := 148) (As := [.int a_.2.2, .int p3]) (st := []) hC (M_at_0 d _) rfl (kX12_goHead l d A _ _ _) (jgV ml_X12_299 im_X12_goHead se_X12_goHead in_X12 cd_X12_goHead) rfl rfl rfl hyV_X12_goHead ⟨Nat.le_of_ble_eq_true rfl, Nat.le_of_ble_eq_true rfl⟩ rfl rfl (Nat.le_of_ble_eq_true rfl) dX12_drawn_145 rfl (fun q5 => ?_)
                          refine j_istore (pc' := 150) (lv' := [(9, .int (jb q5.1)), (0, .ref (d.2.1 0)), (2, .int p2), (3, .int p3), (4, .int p4), (5, .int ((a__.2.1 * (1103515245 : Int32)) + (12345 : Int32))), (6, .int a.2.2.1), (7, .int a.2.2.2), (8, .int a_.2.2), (10, .int a__.2.2.2)]) hC dX12_drawn_148 (by decide) rfl rfl ?_
                          exact j_lv (lv' := [(0, .ref (d.2.1 0)), (2, .int p2), (3, .int p3), (4, .int p4), (5, .int ((a__.2.1 * (1103515245 : Int32)) + (12345 : Int32))), (6, .int a.2.2.1), (7, .int a.2.2.2), (8, .int a_.2.2), (9, .int (jb q5.1)), (10, .int a__.2.2.2)]) [1, 2, 3, 4, 5, 6, 7, 8, 0, 9] rfl (hj150 (q5.2, (jb q5.1)))
                        · refine j_icmp_ge (pc' := 125) (tgt := 141) hC dX12_drawn_122 (by decide) rfl ?_ ?_
                          · exact j_lv (lv' := [(0, .ref (d.2.1 0)), (2, .int p2), (3, .int p3), (4, .int p4), (5, .int ((a__.2.1 * (1103515245 : Int32)) + (12345 : Int32))), (6, .int a.2.2.1), (7, .int a.2.2.2), (8, .int a_.2.2), (10, .int a__.2.2.2)]) [1, 2, 3, 4, 0, 5, 6, 7, 9] rfl (hj141 ())
                          · refine j_aload_n (pc' := 126) hC 1 dX12_drawn_125 rfl rfl rfl ?_
                            refine j_get (pc' := 129) hC ly_X12 (M_at_0 d _) rfl 42 (by decide) fl_X12_292 rfl dX12_drawn_126 rfl ?_
                            refine j_iconst (pc' := 130) (v := (1 : Int32)) hC dX12_drawn_129 (by decide) rfl ?_
                            refine j_icmp_le (pc' := 133) (tgt := 141) hC dX12_drawn_130 (by decide) rfl ?_ ?_
                            · exact j_lv (lv' := [(0, .ref (d.2.1 0)), (2, .int p2), (3, .int p3), (4, .int p4), (5, .int ((a__.2.1 * (1103515245 : Int32)) + (12345 : Int32))), (6, .int a.2.2.1), (7, .int a.2.2.2), (8, .int a_.2.2), (10, .int a__.2.2.2)]) [1, 2, 3, 4, 0, 5, 6, 7, 9] rfl (hj141 ())
                            · refine j_aload_n (pc' := 134) hC 1 dX12_drawn_133 rfl rfl rfl ?_
                              refine j_iconst (pc' := 135) (v := (0 : Int32)) hC dX12_drawn_134 (by decide) rfl ?_
                              refine j_callV_v (pc' := 138) (As := [.int (0 : Int32)]) (st := []) hC (M_at_0 d _) rfl (kX12_toEnd l d A _ _) (jgV ml_X12_295 im_X12_toEnd se_X12_toEnd in_X12 cd_X12_toEnd) rfl rfl rfl hyV_X12_toEnd ⟨Nat.le_of_ble_eq_true rfl, Nat.le_of_ble_eq_true rfl⟩ rfl rfl (Nat.le_of_ble_eq_true rfl) dX12_drawn_135 rfl (fun q6 => ?_)
                              refine j_goto (tgt := 150) hC dX12_drawn_138 (by decide) ?_
                              exact j_lv (lv' := [(0, .ref (d.2.1 0)), (2, .int p2), (3, .int p3), (4, .int p4), (5, .int ((a__.2.1 * (1103515245 : Int32)) + (12345 : Int32))), (6, .int a.2.2.1), (7, .int a.2.2.2), (8, .int a_.2.2), (9, .int a__.2.2.1), (10, .int a__.2.2.2)]) [1, 2, 3, 4, 0, 5, 6, 7, 8, 9] rfl (hj150 (q6, a__.2.2.1))
              · refine j_if_le (pc' := 75) (tgt := 79) hC dX12_drawn_72 (by decide) rfl ?_ ?_
                · refine j_iconst (pc' := 80) (v := (0 : Int32)) hC dX12_drawn_79 (by decide) rfl ?_
                  exact j_lv (lv' := [(0, .ref (d.2.1 0)), (2, .int p2), (3, .int p3), (4, .int p4), (5, .int a_.2.1), (6, .int a.2.2.1), (7, .int a.2.2.2), (8, .int a_.2.2)]) [0, 1, 2, 3, 4, 5, 6, 7] rfl (hj80 (0 : Int32))
                · refine j_iconst (pc' := 76) (v := (1 : Int32)) hC dX12_drawn_75 (by decide) rfl ?_
                  refine j_goto (tgt := 80) hC dX12_drawn_76 (by decide) ?_
                  exact j_lv (lv' := [(0, .ref (d.2.1 0)), (2, .int p2), (3, .int p3), (4, .int p4), (5, .int a_.2.1), (6, .int a.2.2.1), (7, .int a.2.2.2), (8, .int a_.2.2)]) [0, 1, 2, 3, 4, 5, 6, 7] rfl (hj80 (1 : Int32))
      · refine j_icmp_eq (pc' := 23) (tgt := 34) hC dX12_drawn_20 (by decide) rfl ?_ ?_
        · exact j_lv (lv' := [(0, .ref (d.2.1 0)), (1, .int p1), (2, .int p2), (3, .int p3), (4, .int p4)]) [0, 1, 2, 3, 4] rfl (hj34 ())
        · refine j_aload_n (pc' := 24) hC 0 dX12_drawn_23 rfl rfl rfl ?_
          refine j_iload (pc' := 26) hC 4 dX12_drawn_24 rfl rfl ?_
          refine j_callV_zr (pc' := 29) (As := [.int p4]) (st := []) hC (M_at_0 d _) rfl (kX12_isChild l d A _ _) (jgV ml_X12_162 im_X12_isChild se_X12_isChild in_X12 cd_X12_isChild) rfl rfl rfl hyV_X12_isChild ⟨Nat.le_of_ble_eq_true rfl, Nat.le_of_ble_eq_true rfl⟩ rfl rfl (Nat.le_of_ble_eq_true rfl) dX12_drawn_26 rfl (fun q7 => ?_)
          refine j_if_ne (pc' := 32) (tgt := 34) hC dX12_drawn_29 (by decide) rfl ?_ ?_
          · exact j_lv (lv' := [(0, .ref (d.2.1 0)), (1, .int p1), (2, .int p2), (3, .int p3), (4, .int p4)]) [0, 1, 2, 3, 4] rfl (hj34 ())
          · refine j_iconst (pc' := 33) (v := (-1 : Int32)) hC dX12_drawn_32 (by decide) rfl ?_
            exact j_ret_i hC dX12_drawn_33
theorem hyV_X12_rowFault : yX12_rowFault.cls = RX12 ∧ yX12_rowFault.cls ≠ "java/lang/invoke/MethodHandle" ∧ yX12_rowFault.cls ≠ "java/lang/invoke/VarHandle" ∧ (parseMethodDescriptor yX12_rowFault.desc).map (fun d => d.parameters.length) = some 1 := ⟨rfl, by decide +kernel, by decide +kernel, by decide +kernel⟩
noncomputable def fX12_rowFault (σ : jS) (p1 : Int32) : Option (Int32) :=
  (ob p1 6 (if (σ.1 31 (p1).toNatClampNeg) = (-1 : Int32) then (some (-11 : Int32)) else (ob p1 6 (if (σ.1 31 (p1).toNatClampNeg) = (-2 : Int32) then (some (0 : Int32)) else (some (-12 : Int32))))))
set_option maxRecDepth 100000 in
set_option maxHeartbeats 4000000 in
theorem kX12_rowFault (l : Launch) (d : jD) (A : Nat → Prop) (σ : jS) (p1 : Int32) : jMir l yX12_rowFault (jws yX12_rowFault cX12_rowFault 2 (some (.int))) { frames := 2, cells := 0, slots := 0, locals := 130 } d wM A [.ref (d.2.1 0), .int p1] σ (fX12_rowFault σ p1) := by
  refine jStart_ir (lv0 := [(0, .ref (d.2.1 0)), (1, .int p1)]) (by decide) rfl (Nat.le_of_ble_eq_true rfl) rfl (fun z hC res => ?_)
  unfold fX12_rowFault
  refine j_aload_n (pc' := 1) hC 0 dX12_rowFault_0 rfl rfl rfl ?_
  refine j_get (pc' := 4) hC ly_X12 (M_at_0 d _) rfl 53 (by decide) fl_X12_109 rfl dX12_rowFault_1 rfl ?_
  refine j_iload_n (pc' := 5) hC 1 dX12_rowFault_4 rfl rfl rfl ?_
  refine j_iald (pc' := 6) hC (M_at_31 d _) dX12_rowFault_5 rfl ?_
  refine j_iconst (pc' := 7) (v := (-1 : Int32)) hC dX12_rowFault_6 (by decide) rfl ?_
  refine j_icmp_ne (pc' := 10) (tgt := 15) hC dX12_rowFault_7 (by decide) rfl ?_ ?_
  · refine j_aload_n (pc' := 16) hC 0 dX12_rowFault_15 rfl rfl rfl ?_
    refine j_get (pc' := 19) hC ly_X12 (M_at_0 d _) rfl 53 (by decide) fl_X12_109 rfl dX12_rowFault_16 rfl ?_
    refine j_iload_n (pc' := 20) hC 1 dX12_rowFault_19 rfl rfl rfl ?_
    refine j_iald (pc' := 21) hC (M_at_31 d _) dX12_rowFault_20 rfl ?_
    refine j_bipush (pc' := 23) (v := (-2 : Int32)) hC dX12_rowFault_21 (by decide) rfl ?_
    refine j_icmp_ne (pc' := 26) (tgt := 30) hC dX12_rowFault_23 (by decide) rfl ?_ ?_
    · refine j_bipush (pc' := 32) (v := (-12 : Int32)) hC dX12_rowFault_30 (by decide) rfl ?_
      exact j_ret_ir hC dX12_rowFault_32
    · refine j_iconst (pc' := 27) (v := (0 : Int32)) hC dX12_rowFault_26 (by decide) rfl ?_
      refine j_goto (tgt := 32) hC dX12_rowFault_27 (by decide) ?_
      exact j_ret_ir hC dX12_rowFault_32
  · refine j_bipush (pc' := 12) (v := (-11 : Int32)) hC dX12_rowFault_10 (by decide) rfl ?_
    refine j_goto (tgt := 32) hC dX12_rowFault_12 (by decide) ?_
    exact j_ret_ir hC dX12_rowFault_32
theorem hyV_X12_wrongIn : yX12_wrongIn.cls = RX12 ∧ yX12_wrongIn.cls ≠ "java/lang/invoke/MethodHandle" ∧ yX12_wrongIn.cls ≠ "java/lang/invoke/VarHandle" ∧ (parseMethodDescriptor yX12_wrongIn.desc).map (fun d => d.parameters.length) = some 5 := ⟨rfl, by decide +kernel, by decide +kernel, by decide +kernel⟩
noncomputable def fX12_wrongIn_B19 (p1 : Int32) (p2 : Int32) (p3 : Int32) (p5 : Int32) (q2 : Int32) (s19 : jS × Int32 × Int32 → Option (Int32 × jS)) (a : jS × Int32 × Int32) : Option (Int32 × jS) :=
  (jlet (fun (a35 : Unit) => (if a.2.1 = 0 then (ob p1 6 (if (a.1.1 32 (p1).toNatClampNeg) ≤ a.2.2 then (some (a.2.2, a.1)) else (Option.bind (fX12_goRound a.1 p2 p3 p5) fun (q3 : (Int32 × jS)) => (ob (((60 : Int32) * p1) + a.2.2) 360 (if (lg_cmp (q3.1.toInt64) (q3.2.2 33 ((((60 : Int32) * p1) + a.2.2)).toNatClampNeg)) = 0 then (Option.bind (fX12_isOver q3.2 q2) fun (q4 : Int32) => (s19 (q3.2, (jb q4), (a.2.2 + (1 : Int32))))) else (some (a.2.2, q3.2))))))) else (some (a.2.2, a.1)))) fun (j35 : (Unit → Option (Int32 × jS))) => (if a.2.1 = 0 then (j35 ()) else (ob p1 6 (if (a.1.1 32 (p1).toNatClampNeg) ≤ a.2.2 then (some ((-2 : Int32), a.1)) else (j35 ())))))
noncomputable def fX12_wrongIn (σ : jS) (p1 : Int32) (p2 : Int32) (p3 : Int32) (p4 : Int32) (p5 : Int32) : Option (Int32 × jS) :=
  (Option.bind (fX12_beginTurn σ) fun (q1 : jS) => (Option.bind (fX12_bentOf q1 p3 p4) fun (q2 : Int32) => (jloop (fX12_wrongIn_B19 p1 p2 p3 p5 q2) jN (q1, (0 : Int32), (0 : Int32)))))
set_option maxRecDepth 100000 in
set_option maxHeartbeats 4000000 in
theorem kX12_wrongIn (l : Launch) (d : jD) (A : Nat → Prop) (σ : jS) (p1 : Int32) (p2 : Int32) (p3 : Int32) (p4 : Int32) (p5 : Int32) : jMi l yX12_wrongIn (jws yX12_wrongIn cX12_wrongIn 9 (some (.int))) { frames := 6, cells := 0, slots := 0, locals := 227 } d wM A [.ref (d.2.1 0), .int p1, .int p2, .int p3, .int p4, .int p5] σ (fX12_wrongIn σ p1 p2 p3 p4 p5) := by
  refine jStart_i (lv0 := [(0, .ref (d.2.1 0)), (1, .int p1), (2, .int p2), (3, .int p3), (4, .int p4), (5, .int p5)]) (by decide) rfl (Nat.le_of_ble_eq_true rfl) rfl (fun z hC res => ?_)
  unfold fX12_wrongIn
  refine j_aload_n (pc' := 1) hC 0 dX12_wrongIn_0 rfl rfl rfl ?_
  refine j_callV_v (pc' := 4) (As := []) (st := []) hC (M_at_0 d _) rfl (kX12_beginTurn l d A _) (jgV ml_X12_266 im_X12_beginTurn se_X12_beginTurn in_X12 cd_X12_beginTurn) rfl rfl rfl hyV_X12_beginTurn ⟨Nat.le_of_ble_eq_true rfl, Nat.le_of_ble_eq_true rfl⟩ rfl rfl (Nat.le_of_ble_eq_true rfl) dX12_wrongIn_1 rfl (fun q1 => ?_)
  refine j_aload_n (pc' := 5) hC 0 dX12_wrongIn_4 rfl rfl rfl ?_
  refine j_iload_n (pc' := 6) hC 3 dX12_wrongIn_5 rfl rfl rfl ?_
  refine j_iload (pc' := 8) hC 4 dX12_wrongIn_6 rfl rfl ?_
  refine j_callV_ir (pc' := 11) (As := [.int p3, .int p4]) (st := []) hC (M_at_0 d _) rfl (kX12_bentOf l d A _ _ _) (jgV ml_X12_269 im_X12_bentOf se_X12_bentOf in_X12 cd_X12_bentOf) rfl rfl rfl hyV_X12_bentOf ⟨Nat.le_of_ble_eq_true rfl, Nat.le_of_ble_eq_true rfl⟩ rfl rfl (Nat.le_of_ble_eq_true rfl) dX12_wrongIn_8 rfl (fun q2 => ?_)
  refine j_istore (pc' := 13) (lv' := [(6, .int q2), (0, .ref (d.2.1 0)), (1, .int p1), (2, .int p2), (3, .int p3), (4, .int p4), (5, .int p5)]) hC dX12_wrongIn_11 (by decide) rfl rfl ?_
  refine j_iconst (pc' := 14) (v := (0 : Int32)) hC dX12_wrongIn_13 (by decide) rfl ?_
  refine j_istore (pc' := 16) (lv' := [(7, .int (0 : Int32)), (6, .int q2), (0, .ref (d.2.1 0)), (1, .int p1), (2, .int p2), (3, .int p3), (4, .int p4), (5, .int p5)]) hC dX12_wrongIn_14 (by decide) rfl rfl ?_
  refine j_iconst (pc' := 17) (v := (0 : Int32)) hC dX12_wrongIn_16 (by decide) rfl ?_
  refine j_istore (pc' := 19) (lv' := [(8, .int (0 : Int32)), (7, .int (0 : Int32)), (6, .int q2), (0, .ref (d.2.1 0)), (1, .int p1), (2, .int p2), (3, .int p3), (4, .int p4), (5, .int p5)]) hC dX12_wrongIn_17 (by decide) rfl rfl ?_
  refine j_lv (lv' := [(0, .ref (d.2.1 0)), (1, .int p1), (2, .int p2), (3, .int p3), (5, .int p5), (6, .int q2), (7, .int (0 : Int32)), (8, .int (0 : Int32))]) [3, 4, 5, 6, 8, 2, 1, 0] rfl ?_
  refine j_loop 19 (fun a => a.1) (fun a => [(0, .ref (d.2.1 0)), (1, .int p1), (2, .int p2), (3, .int p3), (5, .int p5), (6, .int q2), (7, .int a.2.1), (8, .int a.2.2)]) (fun s19 hs19 a => ?_) jN (q1, (0 : Int32), (0 : Int32))
  unfold fX12_wrongIn_B19
  refine j_iload (pc' := 21) hC 6 dX12_wrongIn_19 rfl rfl ?_
  refine j_let 35 (fun a35 => a.1) (fun a35 => [(0, .ref (d.2.1 0)), (1, .int p1), (2, .int p2), (3, .int p3), (5, .int p5), (6, .int q2), (7, .int a.2.1), (8, .int a.2.2)]) (fun a35 => []) (fun a35 => ?_) (fun j35 hj35 => ?_)
  · refine j_iload (pc' := 37) hC 6 dX12_wrongIn_35 rfl rfl ?_
    refine j_if_ne (pc' := 40) (tgt := 76) hC dX12_wrongIn_37 (by decide) rfl ?_ ?_
    · refine j_iload (pc' := 78) hC 7 dX12_wrongIn_76 rfl rfl ?_
      exact j_ret_i hC dX12_wrongIn_78
    · refine j_iload (pc' := 42) hC 7 dX12_wrongIn_40 rfl rfl ?_
      refine j_aload_n (pc' := 43) hC 0 dX12_wrongIn_42 rfl rfl rfl ?_
      refine j_get (pc' := 46) hC ly_X12 (M_at_0 d _) rfl 54 (by decide) fl_X12_112 rfl dX12_wrongIn_43 rfl ?_
      refine j_iload_n (pc' := 47) hC 1 dX12_wrongIn_46 rfl rfl rfl ?_
      refine j_iald (pc' := 48) hC (M_at_32 d _) dX12_wrongIn_47 rfl ?_
      refine j_icmp_ge (pc' := 51) (tgt := 76) hC dX12_wrongIn_48 (by decide) rfl ?_ ?_
      · refine j_iload (pc' := 78) hC 7 dX12_wrongIn_76 rfl rfl ?_
        exact j_ret_i hC dX12_wrongIn_78
      · refine j_aload_n (pc' := 52) hC 0 dX12_wrongIn_51 rfl rfl rfl ?_
        refine j_iload_n (pc' := 53) hC 2 dX12_wrongIn_52 rfl rfl rfl ?_
        refine j_iload_n (pc' := 54) hC 3 dX12_wrongIn_53 rfl rfl rfl ?_
        refine j_iload (pc' := 56) hC 4 dX12_wrongIn_54 rfl rfl ?_
        refine j_callV_i (pc' := 59) (As := [.int p2, .int p3, .int p5]) (st := []) hC (M_at_0 d _) rfl (kX12_goRound l d A _ _ _ _) (jgV ml_X12_272 im_X12_goRound se_X12_goRound in_X12 cd_X12_goRound) rfl rfl rfl hyV_X12_goRound ⟨Nat.le_of_ble_eq_true rfl, Nat.le_of_ble_eq_true rfl⟩ rfl rfl (Nat.le_of_ble_eq_true rfl) dX12_wrongIn_56 rfl (fun q3 => ?_)
        refine j_i2l (pc' := 60) hC dX12_wrongIn_59 rfl ?_
        refine j_aload_n (pc' := 61) hC 0 dX12_wrongIn_60 rfl rfl rfl ?_
        refine j_get (pc' := 64) hC ly_X12 (M_at_0 d _) rfl 55 (by decide) fl_X12_115 rfl dX12_wrongIn_61 rfl ?_
        refine j_bipush (pc' := 66) (v := (60 : Int32)) hC dX12_wrongIn_64 (by decide) rfl ?_
        refine j_iload_n (pc' := 67) hC 1 dX12_wrongIn_66 rfl rfl rfl ?_
        refine j_imul (pc' := 68) hC dX12_wrongIn_67 rfl ?_
        refine j_iload (pc' := 70) hC 7 dX12_wrongIn_68 rfl rfl ?_
        refine j_iadd (pc' := 71) hC dX12_wrongIn_70 rfl ?_
        refine j_lald (pc' := 72) hC (M_at_33 d _) dX12_wrongIn_71 rfl ?_
        refine j_lcmp (pc' := 73) hC dX12_wrongIn_72 rfl ?_
        refine j_if_eq (pc' := 76) (tgt := 79) hC dX12_wrongIn_73 (by decide) rfl ?_ ?_
        · refine j_aload_n (pc' := 80) hC 0 dX12_wrongIn_79 rfl rfl rfl ?_
          refine j_iload (pc' := 82) hC 5 dX12_wrongIn_80 rfl rfl ?_
          refine j_callV_zr (pc' := 85) (As := [.int q2]) (st := []) hC (M_at_0 d _) rfl (kX12_isOver l d A _ _) (jgV ml_X12_275 im_X12_isOver se_X12_isOver in_X12 cd_X12_isOver) rfl rfl rfl hyV_X12_isOver ⟨Nat.le_of_ble_eq_true rfl, Nat.le_of_ble_eq_true rfl⟩ rfl rfl (Nat.le_of_ble_eq_true rfl) dX12_wrongIn_82 rfl (fun q4 => ?_)
          refine j_istore (pc' := 87) (lv' := [(7, .int (jb q4)), (0, .ref (d.2.1 0)), (1, .int p1), (2, .int p2), (3, .int p3), (5, .int p5), (6, .int q2), (8, .int a.2.2)]) hC dX12_wrongIn_85 (by decide) rfl rfl ?_
          refine j_iinc (pc' := 90) (v := (a.2.2 + (1 : Int32))) (lv' := [(8, .int (a.2.2 + (1 : Int32))), (7, .int (jb q4)), (0, .ref (d.2.1 0)), (1, .int p1), (2, .int p2), (3, .int p3), (5, .int p5), (6, .int q2)]) hC 7 dX12_wrongIn_87 rfl (by decide) rfl rfl rfl ?_
          refine j_goto (tgt := 19) hC dX12_wrongIn_90 (by decide) ?_
          exact j_lv (lv' := [(0, .ref (d.2.1 0)), (1, .int p1), (2, .int p2), (3, .int p3), (5, .int p5), (6, .int q2), (7, .int (jb q4)), (8, .int (a.2.2 + (1 : Int32)))]) [2, 3, 4, 5, 6, 7, 1, 0] rfl (hs19 (q3.2, (jb q4), (a.2.2 + (1 : Int32))))
        · refine j_iload (pc' := 78) hC 7 dX12_wrongIn_76 rfl rfl ?_
          exact j_ret_i hC dX12_wrongIn_78
  · refine j_if_eq (pc' := 24) (tgt := 35) hC dX12_wrongIn_21 (by decide) rfl ?_ ?_
    · exact j_lv (lv' := [(0, .ref (d.2.1 0)), (1, .int p1), (2, .int p2), (3, .int p3), (5, .int p5), (6, .int q2), (7, .int a.2.1), (8, .int a.2.2)]) [0, 1, 2, 3, 4, 5, 6, 7] rfl (hj35 ())
    · refine j_iload (pc' := 26) hC 7 dX12_wrongIn_24 rfl rfl ?_
      refine j_aload_n (pc' := 27) hC 0 dX12_wrongIn_26 rfl rfl rfl ?_
      refine j_get (pc' := 30) hC ly_X12 (M_at_0 d _) rfl 54 (by decide) fl_X12_112 rfl dX12_wrongIn_27 rfl ?_
      refine j_iload_n (pc' := 31) hC 1 dX12_wrongIn_30 rfl rfl rfl ?_
      refine j_iald (pc' := 32) hC (M_at_32 d _) dX12_wrongIn_31 rfl ?_
      refine j_icmp_ge (pc' := 35) (tgt := 93) hC dX12_wrongIn_32 (by decide) rfl ?_ ?_
      · refine j_bipush (pc' := 95) (v := (-2 : Int32)) hC dX12_wrongIn_93 (by decide) rfl ?_
        exact j_ret_i hC dX12_wrongIn_95
      · exact j_lv (lv' := [(0, .ref (d.2.1 0)), (1, .int p1), (2, .int p2), (3, .int p3), (5, .int p5), (6, .int q2), (7, .int a.2.1), (8, .int a.2.2)]) [0, 1, 2, 3, 4, 5, 6, 7] rfl (hj35 ())
theorem hyV_X12_judge : yX12_judge.cls = RX12 ∧ yX12_judge.cls ≠ "java/lang/invoke/MethodHandle" ∧ yX12_judge.cls ≠ "java/lang/invoke/VarHandle" ∧ (parseMethodDescriptor yX12_judge.desc).map (fun d => d.parameters.length) = some 3 := ⟨rfl, by decide +kernel, by decide +kernel, by decide +kernel⟩
noncomputable def fX12_judge (σ : jS) (p1 : Int32) (p2 : Int32) (p3 : Int32) : Option (Int32 × jS) :=
  (Option.bind (fX12_isShelf σ p1) fun (q1 : Int32) => (if (jb q1) = 0 then (some ((-1 : Int32), σ)) else (Option.bind (fX12_areThree σ p2) fun (q2 : Int32) => (if (jb q2) = 0 then (some ((-1 : Int32), σ)) else (Option.bind (fX12_areWaiting σ p3) fun (q3 : Int32) => (if (jb q3) = 0 then (some ((-1 : Int32), σ)) else (Option.bind (fX12_rowFault σ p1) fun (q4 : Int32) => (if 0 ≤ q4 then (Option.bind (fX12_wrongIn σ p1 (p2 / (100 : Int32)) ((p2 / (10 : Int32)) - (p2 / (10 : Int32)) / (10 : Int32) * (10 : Int32)) (p2 - p2 / (10 : Int32) * (10 : Int32)) p3) fun (q5 : (Int32 × jS)) => (some (q5.1, q5.2))) else (Option.bind (fX12_rowFault σ p1) fun (q6 : Int32) => (some (q6, σ)))))))))))
set_option maxRecDepth 100000 in
set_option maxHeartbeats 4000000 in
theorem kX12_judge (l : Launch) (d : jD) (A : Nat → Prop) (σ : jS) (p1 : Int32) (p2 : Int32) (p3 : Int32) : jMi l yX12_judge (jws yX12_judge cX12_judge 4 (some (.int))) { frames := 7, cells := 0, slots := 0, locals := 255 } d wM A [.ref (d.2.1 0), .int p1, .int p2, .int p3] σ (fX12_judge σ p1 p2 p3) := by
  refine jStart_i (lv0 := [(0, .ref (d.2.1 0)), (1, .int p1), (2, .int p2), (3, .int p3)]) (by decide) rfl (Nat.le_of_ble_eq_true rfl) rfl (fun z hC res => ?_)
  unfold fX12_judge
  refine j_iload_n (pc' := 1) hC 1 dX12_judge_0 rfl rfl rfl ?_
  refine j_callS_zr (pc' := 4) (As := [.int p1]) (st := []) hC (kX12_isShelf l d A _ _) (jgS ml_X12_136 st_X12_isShelf in_X12 cd_X12_isShelf) rfl rfl rfl hyS_X12_isShelf ⟨Nat.le_of_ble_eq_true rfl, Nat.le_of_ble_eq_true rfl⟩ rfl rfl (Nat.le_of_ble_eq_true rfl) dX12_judge_1 rfl (fun q1 => ?_)
  refine j_if_eq (pc' := 7) (tgt := 22) hC dX12_judge_4 (by decide) rfl ?_ ?_
  · refine j_iconst (pc' := 23) (v := (-1 : Int32)) hC dX12_judge_22 (by decide) rfl ?_
    exact j_ret_i hC dX12_judge_23
  · refine j_aload_n (pc' := 8) hC 0 dX12_judge_7 rfl rfl rfl ?_
    refine j_iload_n (pc' := 9) hC 2 dX12_judge_8 rfl rfl rfl ?_
    refine j_callV_zr (pc' := 12) (As := [.int p2]) (st := []) hC (M_at_0 d _) rfl (kX12_areThree l d A _ _) (jgV ml_X12_282 im_X12_areThree se_X12_areThree in_X12 cd_X12_areThree) rfl rfl rfl hyV_X12_areThree ⟨Nat.le_of_ble_eq_true rfl, Nat.le_of_ble_eq_true rfl⟩ rfl rfl (Nat.le_of_ble_eq_true rfl) dX12_judge_9 rfl (fun q2 => ?_)
    refine j_if_eq (pc' := 15) (tgt := 22) hC dX12_judge_12 (by decide) rfl ?_ ?_
    · refine j_iconst (pc' := 23) (v := (-1 : Int32)) hC dX12_judge_22 (by decide) rfl ?_
      exact j_ret_i hC dX12_judge_23
    · refine j_iload_n (pc' := 16) hC 3 dX12_judge_15 rfl rfl rfl ?_
      refine j_callS_zr (pc' := 19) (As := [.int p3]) (st := []) hC (kX12_areWaiting l d A _ _) (jgS ml_X12_285 st_X12_areWaiting in_X12 cd_X12_areWaiting) rfl rfl rfl hyS_X12_areWaiting ⟨Nat.le_of_ble_eq_true rfl, Nat.le_of_ble_eq_true rfl⟩ rfl rfl (Nat.le_of_ble_eq_true rfl) dX12_judge_16 rfl (fun q3 => ?_)
      refine j_if_ne (pc' := 22) (tgt := 24) hC dX12_judge_19 (by decide) rfl ?_ ?_
      · refine j_aload_n (pc' := 25) hC 0 dX12_judge_24 rfl rfl rfl ?_
        refine j_iload_n (pc' := 26) hC 1 dX12_judge_25 rfl rfl rfl ?_
        refine j_callV_ir (pc' := 29) (As := [.int p1]) (st := []) hC (M_at_0 d _) rfl (kX12_rowFault l d A _ _) (jgV ml_X12_333 im_X12_rowFault se_X12_rowFault in_X12 cd_X12_rowFault) rfl rfl rfl hyV_X12_rowFault ⟨Nat.le_of_ble_eq_true rfl, Nat.le_of_ble_eq_true rfl⟩ rfl rfl (Nat.le_of_ble_eq_true rfl) dX12_judge_26 rfl (fun q4 => ?_)
        refine j_if_ge (pc' := 32) (tgt := 40) hC dX12_judge_29 (by decide) rfl ?_ ?_
        · refine j_aload_n (pc' := 41) hC 0 dX12_judge_40 rfl rfl rfl ?_
          refine j_iload_n (pc' := 42) hC 1 dX12_judge_41 rfl rfl rfl ?_
          refine j_iload_n (pc' := 43) hC 2 dX12_judge_42 rfl rfl rfl ?_
          refine j_bipush (pc' := 45) (v := (100 : Int32)) hC dX12_judge_43 (by decide) rfl ?_
          refine j_idiv0 (pc' := 46) hC dX12_judge_45 (by decide) rfl ?_
          refine j_iload_n (pc' := 47) hC 2 dX12_judge_46 rfl rfl rfl ?_
          refine j_bipush (pc' := 49) (v := (10 : Int32)) hC dX12_judge_47 (by decide) rfl ?_
          refine j_idiv0 (pc' := 50) hC dX12_judge_49 (by decide) rfl ?_
          refine j_bipush (pc' := 52) (v := (10 : Int32)) hC dX12_judge_50 (by decide) rfl ?_
          refine j_irem0 (pc' := 53) hC dX12_judge_52 (by decide) rfl ?_
          refine j_iload_n (pc' := 54) hC 2 dX12_judge_53 rfl rfl rfl ?_
          refine j_bipush (pc' := 56) (v := (10 : Int32)) hC dX12_judge_54 (by decide) rfl ?_
          refine j_irem0 (pc' := 57) hC dX12_judge_56 (by decide) rfl ?_
          refine j_iload_n (pc' := 58) hC 3 dX12_judge_57 rfl rfl rfl ?_
          refine j_callV_i (pc' := 61) (As := [.int p1, .int (p2 / (100 : Int32)), .int ((p2 / (10 : Int32)) - (p2 / (10 : Int32)) / (10 : Int32) * (10 : Int32)), .int (p2 - p2 / (10 : Int32) * (10 : Int32)), .int p3]) (st := []) hC (M_at_0 d _) rfl (kX12_wrongIn l d A _ _ _ _ _ _) (jgV ml_X12_336 im_X12_wrongIn se_X12_wrongIn in_X12 cd_X12_wrongIn) rfl rfl rfl hyV_X12_wrongIn ⟨Nat.le_of_ble_eq_true rfl, Nat.le_of_ble_eq_true rfl⟩ rfl rfl (Nat.le_of_ble_eq_true rfl) dX12_judge_58 rfl (fun q5 => ?_)
          exact j_ret_i hC dX12_judge_61
        · refine j_aload_n (pc' := 33) hC 0 dX12_judge_32 rfl rfl rfl ?_
          refine j_iload_n (pc' := 34) hC 1 dX12_judge_33 rfl rfl rfl ?_
          refine j_callV_ir (pc' := 37) (As := [.int p1]) (st := []) hC (M_at_0 d _) rfl (kX12_rowFault l d A _ _) (jgV ml_X12_333 im_X12_rowFault se_X12_rowFault in_X12 cd_X12_rowFault) rfl rfl rfl hyV_X12_rowFault ⟨Nat.le_of_ble_eq_true rfl, Nat.le_of_ble_eq_true rfl⟩ rfl rfl (Nat.le_of_ble_eq_true rfl) dX12_judge_34 rfl (fun q6 => ?_)
          refine j_goto (tgt := 61) hC dX12_judge_37 (by decide) ?_
          exact j_ret_i hC dX12_judge_61
      · refine j_iconst (pc' := 23) (v := (-1 : Int32)) hC dX12_judge_22 (by decide) rfl ?_
        exact j_ret_i hC dX12_judge_23
theorem hyV_X12_who : yX12_who.cls = RX12 ∧ yX12_who.cls ≠ "java/lang/invoke/MethodHandle" ∧ yX12_who.cls ≠ "java/lang/invoke/VarHandle" ∧ (parseMethodDescriptor yX12_who.desc).map (fun d => d.parameters.length) = some 3 := ⟨rfl, by decide +kernel, by decide +kernel, by decide +kernel⟩
noncomputable def fX12_who_B70 (p1 : Int32) (p2 : Int32) (p3 : Int32) (s70 : jS × Int32 × Int32 → Option (Int32 × jS)) (a : jS × Int32 × Int32) : Option (Int32 × jS) :=
  (if (a.1.1 0 2) ≤ a.2.2 then (some (a.2.1, a.1)) else (jlet (fun (a118 : jS × Int32) => (s70 (a118.1, a118.2, (a.2.2 + (1 : Int32))))) fun (j118 : (jS × Int32 → Option (Int32 × jS))) => (if a.2.2 = (p2 - p2 / (10 : Int32) * (10 : Int32)) then (j118 (a.1, a.2.1)) else (Option.bind (fX12_wrongIn a.1 p1 (p2 / (10 : Int32)) a.2.2 (p2 - p2 / (10 : Int32) * (10 : Int32)) p3) fun (q5 : (Int32 × jS)) => (if q5.1 = (-2 : Int32) then (j118 (q5.2, (a.2.1 ||| ((1 : Int32) <<< (a.2.2 &&& 31))))) else (j118 (q5.2, a.2.1)))))))
noncomputable def fX12_who (σ : jS) (p1 : Int32) (p2 : Int32) (p3 : Int32) : Option (Int32 × jS) :=
  (Option.bind (fX12_isShelf σ p1) fun (q1 : Int32) => (if (jb q1) = 0 then (some ((-1 : Int32), σ)) else (if p2 < 0 then (some ((-1 : Int32), σ)) else (Option.bind (fX12_isSwing σ (p2 / (10 : Int32))) fun (q2 : Int32) => (if (jb q2) = 0 then (some ((-1 : Int32), σ)) else (jlet (fun (a41 : Unit) => (Option.bind (fX12_areWaiting σ p3) fun (q3 : Int32) => (if (jb q3) = 0 then (some ((-1 : Int32), σ)) else (Option.bind (fX12_rowFault σ p1) fun (q4 : Int32) => (if 0 ≤ q4 then (jloop (fX12_who_B70 p1 p2 p3) jN (σ, (0 : Int32), (0 : Int32))) else (Option.bind (fX12_rowFault σ p1) fun (q6 : Int32) => (some (q6, σ)))))))) fun (j41 : (Unit → Option (Int32 × jS))) => (if (p2 - p2 / (10 : Int32) * (10 : Int32)) = (9 : Int32) then (j41 ()) else (Option.bind (fX12_isChild σ (p2 - p2 / (10 : Int32) * (10 : Int32))) fun (q7 : Int32) => (if (jb q7) = 0 then (some ((-1 : Int32), σ)) else (j41 ()))))))))))
set_option maxRecDepth 100000 in
set_option maxHeartbeats 4000000 in
theorem kX12_who (l : Launch) (d : jD) (A : Nat → Prop) (σ : jS) (p1 : Int32) (p2 : Int32) (p3 : Int32) : jMi l yX12_who (jws yX12_who cX12_who 6 (some (.int))) { frames := 7, cells := 0, slots := 0, locals := 255 } d wM A [.ref (d.2.1 0), .int p1, .int p2, .int p3] σ (fX12_who σ p1 p2 p3) := by
  refine jStart_i (lv0 := [(0, .ref (d.2.1 0)), (1, .int p1), (2, .int p2), (3, .int p3)]) (by decide) rfl (Nat.le_of_ble_eq_true rfl) rfl (fun z hC res => ?_)
  unfold fX12_who
  refine j_iload_n (pc' := 1) hC 1 dX12_who_0 rfl rfl rfl ?_
  refine j_callS_zr (pc' := 4) (As := [.int p1]) (st := []) hC (kX12_isShelf l d A _ _) (jgS ml_X12_136 st_X12_isShelf in_X12 cd_X12_isShelf) rfl rfl rfl hyS_X12_isShelf ⟨Nat.le_of_ble_eq_true rfl, Nat.le_of_ble_eq_true rfl⟩ rfl rfl (Nat.le_of_ble_eq_true rfl) dX12_who_1 rfl (fun q1 => ?_)
  refine j_if_eq (pc' := 7) (tgt := 48) hC dX12_who_4 (by decide) rfl ?_ ?_
  · refine j_iconst (pc' := 49) (v := (-1 : Int32)) hC dX12_who_48 (by decide) rfl ?_
    exact j_ret_i hC dX12_who_49
  · refine j_iload_n (pc' := 8) hC 2 dX12_who_7 rfl rfl rfl ?_
    refine j_if_lt (pc' := 11) (tgt := 48) hC dX12_who_8 (by decide) rfl ?_ ?_
    · refine j_iconst (pc' := 49) (v := (-1 : Int32)) hC dX12_who_48 (by decide) rfl ?_
      exact j_ret_i hC dX12_who_49
    · refine j_iload_n (pc' := 12) hC 2 dX12_who_11 rfl rfl rfl ?_
      refine j_bipush (pc' := 14) (v := (10 : Int32)) hC dX12_who_12 (by decide) rfl ?_
      refine j_idiv0 (pc' := 15) hC dX12_who_14 (by decide) rfl ?_
      refine j_callS_zr (pc' := 18) (As := [.int (p2 / (10 : Int32))]) (st := []) hC (kX12_isSwing l d A _ _) (jgS ml_X12_165 st_X12_isSwing in_X12 cd_X12_isSwing) rfl rfl rfl hyS_X12_isSwing ⟨Nat.le_of_ble_eq_true rfl, Nat.le_of_ble_eq_true rfl⟩ rfl rfl (Nat.le_of_ble_eq_true rfl) dX12_who_15 rfl (fun q2 => ?_)
      refine j_if_eq (pc' := 21) (tgt := 48) hC dX12_who_18 (by decide) rfl ?_ ?_
      · refine j_iconst (pc' := 49) (v := (-1 : Int32)) hC dX12_who_48 (by decide) rfl ?_
        exact j_ret_i hC dX12_who_49
      · refine j_iload_n (pc' := 22) hC 2 dX12_who_21 rfl rfl rfl ?_
        refine j_bipush (pc' := 24) (v := (10 : Int32)) hC dX12_who_22 (by decide) rfl ?_
        refine j_irem0 (pc' := 25) hC dX12_who_24 (by decide) rfl ?_
        refine j_bipush (pc' := 27) (v := (9 : Int32)) hC dX12_who_25 (by decide) rfl ?_
        refine j_let 41 (fun a41 => σ) (fun a41 => [(0, .ref (d.2.1 0)), (1, .int p1), (2, .int p2), (3, .int p3)]) (fun a41 => []) (fun a41 => ?_) (fun j41 hj41 => ?_)
        · refine j_iload_n (pc' := 42) hC 3 dX12_who_41 rfl rfl rfl ?_
          refine j_callS_zr (pc' := 45) (As := [.int p3]) (st := []) hC (kX12_areWaiting l d A _ _) (jgS ml_X12_285 st_X12_areWaiting in_X12 cd_X12_areWaiting) rfl rfl rfl hyS_X12_areWaiting ⟨Nat.le_of_ble_eq_true rfl, Nat.le_of_ble_eq_true rfl⟩ rfl rfl (Nat.le_of_ble_eq_true rfl) dX12_who_42 rfl (fun q3 => ?_)
          refine j_if_ne (pc' := 48) (tgt := 50) hC dX12_who_45 (by decide) rfl ?_ ?_
          · refine j_aload_n (pc' := 51) hC 0 dX12_who_50 rfl rfl rfl ?_
            refine j_iload_n (pc' := 52) hC 1 dX12_who_51 rfl rfl rfl ?_
            refine j_callV_ir (pc' := 55) (As := [.int p1]) (st := []) hC (M_at_0 d _) rfl (kX12_rowFault l d A _ _) (jgV ml_X12_333 im_X12_rowFault se_X12_rowFault in_X12 cd_X12_rowFault) rfl rfl rfl hyV_X12_rowFault ⟨Nat.le_of_ble_eq_true rfl, Nat.le_of_ble_eq_true rfl⟩ rfl rfl (Nat.le_of_ble_eq_true rfl) dX12_who_52 rfl (fun q4 => ?_)
            refine j_if_ge (pc' := 58) (tgt := 64) hC dX12_who_55 (by decide) rfl ?_ ?_
            · refine j_iconst (pc' := 65) (v := (0 : Int32)) hC dX12_who_64 (by decide) rfl ?_
              refine j_istore (pc' := 67) (lv' := [(4, .int (0 : Int32)), (0, .ref (d.2.1 0)), (1, .int p1), (2, .int p2), (3, .int p3)]) hC dX12_who_65 (by decide) rfl rfl ?_
              refine j_iconst (pc' := 68) (v := (0 : Int32)) hC dX12_who_67 (by decide) rfl ?_
              refine j_istore (pc' := 70) (lv' := [(5, .int (0 : Int32)), (4, .int (0 : Int32)), (0, .ref (d.2.1 0)), (1, .int p1), (2, .int p2), (3, .int p3)]) hC dX12_who_68 (by decide) rfl rfl ?_
              refine j_lv (lv' := [(0, .ref (d.2.1 0)), (1, .int p1), (2, .int p2), (3, .int p3), (4, .int (0 : Int32)), (5, .int (0 : Int32))]) [2, 3, 4, 5, 1, 0] rfl ?_
              refine j_loop 70 (fun a => a.1) (fun a => [(0, .ref (d.2.1 0)), (1, .int p1), (2, .int p2), (3, .int p3), (4, .int a.2.1), (5, .int a.2.2)]) (fun s70 hs70 a => ?_) jN (σ, (0 : Int32), (0 : Int32))
              unfold fX12_who_B70
              refine j_iload (pc' := 72) hC 5 dX12_who_70 rfl rfl ?_
              refine j_aload_n (pc' := 73) hC 0 dX12_who_72 rfl rfl rfl ?_
              refine j_get (pc' := 76) hC ly_X12 (M_at_0 d _) rfl 2 (by decide) fl_X12_125 rfl dX12_who_73 rfl ?_
              refine j_icmp_ge (pc' := 79) (tgt := 124) hC dX12_who_76 (by decide) rfl ?_ ?_
              · refine j_iload (pc' := 126) hC 4 dX12_who_124 rfl rfl ?_
                exact j_ret_i hC dX12_who_126
              · refine j_iload (pc' := 81) hC 5 dX12_who_79 rfl rfl ?_
                refine j_iload_n (pc' := 82) hC 2 dX12_who_81 rfl rfl rfl ?_
                refine j_bipush (pc' := 84) (v := (10 : Int32)) hC dX12_who_82 (by decide) rfl ?_
                refine j_irem0 (pc' := 85) hC dX12_who_84 (by decide) rfl ?_
                refine j_let 118 (fun a118 => a118.1) (fun a118 => [(0, .ref (d.2.1 0)), (1, .int p1), (2, .int p2), (3, .int p3), (4, .int a118.2), (5, .int a.2.2)]) (fun a118 => []) (fun a118 => ?_) (fun j118 hj118 => ?_)
                · refine j_iinc (pc' := 121) (v := (a.2.2 + (1 : Int32))) (lv' := [(5, .int (a.2.2 + (1 : Int32))), (0, .ref (d.2.1 0)), (1, .int p1), (2, .int p2), (3, .int p3), (4, .int a118.2)]) hC 5 dX12_who_118 rfl (by decide) rfl rfl rfl ?_
                  refine j_goto (tgt := 70) hC dX12_who_121 (by decide) ?_
                  exact j_lv (lv' := [(0, .ref (d.2.1 0)), (1, .int p1), (2, .int p2), (3, .int p3), (4, .int a118.2), (5, .int (a.2.2 + (1 : Int32)))]) [1, 2, 3, 4, 5, 0] rfl (hs70 (a118.1, a118.2, (a.2.2 + (1 : Int32))))
                · refine j_icmp_eq (pc' := 88) (tgt := 118) hC dX12_who_85 (by decide) rfl ?_ ?_
                  · exact j_lv (lv' := [(0, .ref (d.2.1 0)), (1, .int p1), (2, .int p2), (3, .int p3), (4, .int a.2.1), (5, .int a.2.2)]) [0, 1, 2, 3, 4, 5] rfl (hj118 (a.1, a.2.1))
                  · refine j_aload_n (pc' := 89) hC 0 dX12_who_88 rfl rfl rfl ?_
                    refine j_iload_n (pc' := 90) hC 1 dX12_who_89 rfl rfl rfl ?_
                    refine j_iload_n (pc' := 91) hC 2 dX12_who_90 rfl rfl rfl ?_
                    refine j_bipush (pc' := 93) (v := (10 : Int32)) hC dX12_who_91 (by decide) rfl ?_
                    refine j_idiv0 (pc' := 94) hC dX12_who_93 (by decide) rfl ?_
                    refine j_iload (pc' := 96) hC 5 dX12_who_94 rfl rfl ?_
                    refine j_iload_n (pc' := 97) hC 2 dX12_who_96 rfl rfl rfl ?_
                    refine j_bipush (pc' := 99) (v := (10 : Int32)) hC dX12_who_97 (by decide) rfl ?_
                    refine j_irem0 (pc' := 100) hC dX12_who_99 (by decide) rfl ?_
                    refine j_iload_n (pc' := 101) hC 3 dX12_who_100 rfl rfl rfl ?_
                    refine j_callV_i (pc' := 104) (As := [.int p1, .int (p2 / (10 : Int32)), .int a.2.2, .int (p2 - p2 / (10 : Int32) * (10 : Int32)), .int p3]) (st := []) hC (M_at_0 d _) rfl (kX12_wrongIn l d A _ _ _ _ _ _) (jgV ml_X12_336 im_X12_wrongIn se_X12_wrongIn in_X12 cd_X12_wrongIn) rfl rfl rfl hyV_X12_wrongIn ⟨Nat.le_of_ble_eq_true rfl, Nat.le_of_ble_eq_true rfl⟩ rfl rfl (Nat.le_of_ble_eq_true rfl) dX12_who_101 rfl (fun q5 => ?_)
                    refine j_bipush (pc' := 106) (v := (-2 : Int32)) hC dX12_who_104 (by decide) rfl ?_
                    refine j_icmp_ne (pc' := 109) (tgt := 118) hC dX12_who_106 (by decide) rfl ?_ ?_
                    · exact j_lv (lv' := [(0, .ref (d.2.1 0)), (1, .int p1), (2, .int p2), (3, .int p3), (4, .int a.2.1), (5, .int a.2.2)]) [0, 1, 2, 3, 4, 5] rfl (hj118 (q5.2, a.2.1))
                    · refine j_iload (pc' := 111) hC 4 dX12_who_109 rfl rfl ?_
                      refine j_iconst (pc' := 112) (v := (1 : Int32)) hC dX12_who_111 (by decide) rfl ?_
                      refine j_iload (pc' := 114) hC 5 dX12_who_112 rfl rfl ?_
                      refine j_ishl (pc' := 115) hC dX12_who_114 rfl ?_
                      refine j_ior (pc' := 116) hC dX12_who_115 rfl ?_
                      refine j_istore (pc' := 118) (lv' := [(4, .int (a.2.1 ||| ((1 : Int32) <<< (a.2.2 &&& 31)))), (0, .ref (d.2.1 0)), (1, .int p1), (2, .int p2), (3, .int p3), (5, .int a.2.2)]) hC dX12_who_116 (by decide) rfl rfl ?_
                      exact j_lv (lv' := [(0, .ref (d.2.1 0)), (1, .int p1), (2, .int p2), (3, .int p3), (4, .int (a.2.1 ||| ((1 : Int32) <<< (a.2.2 &&& 31)))), (5, .int a.2.2)]) [1, 2, 3, 4, 0, 5] rfl (hj118 (q5.2, (a.2.1 ||| ((1 : Int32) <<< (a.2.2 &&& 31)))))
            · refine j_aload_n (pc' := 59) hC 0 dX12_who_58 rfl rfl rfl ?_
              refine j_iload_n (pc' := 60) hC 1 dX12_who_59 rfl rfl rfl ?_
              refine j_callV_ir (pc' := 63) (As := [.int p1]) (st := []) hC (M_at_0 d _) rfl (kX12_rowFault l d A _ _) (jgV ml_X12_333 im_X12_rowFault se_X12_rowFault in_X12 cd_X12_rowFault) rfl rfl rfl hyV_X12_rowFault ⟨Nat.le_of_ble_eq_true rfl, Nat.le_of_ble_eq_true rfl⟩ rfl rfl (Nat.le_of_ble_eq_true rfl) dX12_who_60 rfl (fun q6 => ?_)
              exact j_ret_i hC dX12_who_63
          · refine j_iconst (pc' := 49) (v := (-1 : Int32)) hC dX12_who_48 (by decide) rfl ?_
            exact j_ret_i hC dX12_who_49
        · refine j_icmp_eq (pc' := 30) (tgt := 41) hC dX12_who_27 (by decide) rfl ?_ ?_
          · exact j_lv (lv' := [(0, .ref (d.2.1 0)), (1, .int p1), (2, .int p2), (3, .int p3)]) [0, 1, 2, 3] rfl (hj41 ())
          · refine j_aload_n (pc' := 31) hC 0 dX12_who_30 rfl rfl rfl ?_
            refine j_iload_n (pc' := 32) hC 2 dX12_who_31 rfl rfl rfl ?_
            refine j_bipush (pc' := 34) (v := (10 : Int32)) hC dX12_who_32 (by decide) rfl ?_
            refine j_irem0 (pc' := 35) hC dX12_who_34 (by decide) rfl ?_
            refine j_callV_zr (pc' := 38) (As := [.int (p2 - p2 / (10 : Int32) * (10 : Int32))]) (st := []) hC (M_at_0 d _) rfl (kX12_isChild l d A _ _) (jgV ml_X12_162 im_X12_isChild se_X12_isChild in_X12 cd_X12_isChild) rfl rfl rfl hyV_X12_isChild ⟨Nat.le_of_ble_eq_true rfl, Nat.le_of_ble_eq_true rfl⟩ rfl rfl (Nat.le_of_ble_eq_true rfl) dX12_who_35 rfl (fun q7 => ?_)
            refine j_if_eq (pc' := 41) (tgt := 48) hC dX12_who_38 (by decide) rfl ?_ ?_
            · refine j_iconst (pc' := 49) (v := (-1 : Int32)) hC dX12_who_48 (by decide) rfl ?_
              exact j_ret_i hC dX12_who_49
            · exact j_lv (lv' := [(0, .ref (d.2.1 0)), (1, .int p1), (2, .int p2), (3, .int p3)]) [0, 1, 2, 3] rfl (hj41 ())
theorem hyV_X12_sure : yX12_sure.cls = RX12 ∧ yX12_sure.cls ≠ "java/lang/invoke/MethodHandle" ∧ yX12_sure.cls ≠ "java/lang/invoke/VarHandle" ∧ (parseMethodDescriptor yX12_sure.desc).map (fun d => d.parameters.length) = some 3 := ⟨rfl, by decide +kernel, by decide +kernel, by decide +kernel⟩
noncomputable def fX12_sure_B53 (p1 : Int32) (p2 : Int32) (p3 : Int32) (y5 : Int32) (s53 : jS × Int32 × Int32 → Option (Int32 × jS)) (a : jS × Int32 × Int32) : Option (Int32 × jS) :=
  (if (9 : Int32) < a.2.2 then (some (a.2.1, a.1)) else (jlet (fun (a111 : jS × Int32) => (s53 (a111.1, a111.2, (a.2.2 + (1 : Int32))))) fun (j111 : (jS × Int32 → Option (Int32 × jS))) => (jlet (fun (a83 : Unit) => (Option.bind (fX12_wrongIn a.1 p1 (p2 / (100 : Int32)) y5 a.2.2 p3) fun (q6 : (Int32 × jS)) => (if q6.1 = (-2 : Int32) then (j111 (q6.2, (a.2.1 ||| ((1 : Int32) <<< (a.2.2 &&& 31))))) else (j111 (q6.2, a.2.1))))) fun (j83 : (Unit → Option (Int32 × jS))) => (if a.2.2 = (9 : Int32) then (j83 ()) else (Option.bind (fX12_isChild a.1 a.2.2) fun (q7 : Int32) => (if (jb q7) = 0 then (j111 (a.1, a.2.1)) else (if a.2.2 = y5 then (j111 (a.1, a.2.1)) else (j83 ()))))))))
noncomputable def fX12_sure (σ : jS) (p1 : Int32) (p2 : Int32) (p3 : Int32) : Option (Int32 × jS) :=
  (Option.bind (fX12_isShelf σ p1) fun (q1 : Int32) => (if (jb q1) = 0 then (some ((-1 : Int32), σ)) else (Option.bind (fX12_areThree σ p2) fun (q2 : Int32) => (if (jb q2) = 0 then (some ((-1 : Int32), σ)) else (Option.bind (fX12_areWaiting σ p3) fun (q3 : Int32) => (if (jb q3) = 0 then (some ((-1 : Int32), σ)) else (Option.bind (fX12_rowFault σ p1) fun (q4 : Int32) => (if 0 ≤ q4 then (jst ((p2 / (10 : Int32)) - (p2 / (10 : Int32)) / (10 : Int32) * (10 : Int32)) fun (y5 : Int32) => (jloop (fX12_sure_B53 p1 p2 p3 y5) jN (σ, (0 : Int32), (0 : Int32)))) else (Option.bind (fX12_rowFault σ p1) fun (q8 : Int32) => (some (q8, σ)))))))))))
set_option maxRecDepth 100000 in
set_option maxHeartbeats 4000000 in
theorem kX12_sure (l : Launch) (d : jD) (A : Nat → Prop) (σ : jS) (p1 : Int32) (p2 : Int32) (p3 : Int32) : jMi l yX12_sure (jws yX12_sure cX12_sure 7 (some (.int))) { frames := 7, cells := 0, slots := 0, locals := 255 } d wM A [.ref (d.2.1 0), .int p1, .int p2, .int p3] σ (fX12_sure σ p1 p2 p3) := by
  refine jStart_i (lv0 := [(0, .ref (d.2.1 0)), (1, .int p1), (2, .int p2), (3, .int p3)]) (by decide) rfl (Nat.le_of_ble_eq_true rfl) rfl (fun z hC res => ?_)
  unfold fX12_sure
  refine j_iload_n (pc' := 1) hC 1 dX12_sure_0 rfl rfl rfl ?_
  refine j_callS_zr (pc' := 4) (As := [.int p1]) (st := []) hC (kX12_isShelf l d A _ _) (jgS ml_X12_136 st_X12_isShelf in_X12 cd_X12_isShelf) rfl rfl rfl hyS_X12_isShelf ⟨Nat.le_of_ble_eq_true rfl, Nat.le_of_ble_eq_true rfl⟩ rfl rfl (Nat.le_of_ble_eq_true rfl) dX12_sure_1 rfl (fun q1 => ?_)
  refine j_if_eq (pc' := 7) (tgt := 22) hC dX12_sure_4 (by decide) rfl ?_ ?_
  · refine j_iconst (pc' := 23) (v := (-1 : Int32)) hC dX12_sure_22 (by decide) rfl ?_
    exact j_ret_i hC dX12_sure_23
  · refine j_aload_n (pc' := 8) hC 0 dX12_sure_7 rfl rfl rfl ?_
    refine j_iload_n (pc' := 9) hC 2 dX12_sure_8 rfl rfl rfl ?_
    refine j_callV_zr (pc' := 12) (As := [.int p2]) (st := []) hC (M_at_0 d _) rfl (kX12_areThree l d A _ _) (jgV ml_X12_282 im_X12_areThree se_X12_areThree in_X12 cd_X12_areThree) rfl rfl rfl hyV_X12_areThree ⟨Nat.le_of_ble_eq_true rfl, Nat.le_of_ble_eq_true rfl⟩ rfl rfl (Nat.le_of_ble_eq_true rfl) dX12_sure_9 rfl (fun q2 => ?_)
    refine j_if_eq (pc' := 15) (tgt := 22) hC dX12_sure_12 (by decide) rfl ?_ ?_
    · refine j_iconst (pc' := 23) (v := (-1 : Int32)) hC dX12_sure_22 (by decide) rfl ?_
      exact j_ret_i hC dX12_sure_23
    · refine j_iload_n (pc' := 16) hC 3 dX12_sure_15 rfl rfl rfl ?_
      refine j_callS_zr (pc' := 19) (As := [.int p3]) (st := []) hC (kX12_areWaiting l d A _ _) (jgS ml_X12_285 st_X12_areWaiting in_X12 cd_X12_areWaiting) rfl rfl rfl hyS_X12_areWaiting ⟨Nat.le_of_ble_eq_true rfl, Nat.le_of_ble_eq_true rfl⟩ rfl rfl (Nat.le_of_ble_eq_true rfl) dX12_sure_16 rfl (fun q3 => ?_)
      refine j_if_ne (pc' := 22) (tgt := 24) hC dX12_sure_19 (by decide) rfl ?_ ?_
      · refine j_aload_n (pc' := 25) hC 0 dX12_sure_24 rfl rfl rfl ?_
        refine j_iload_n (pc' := 26) hC 1 dX12_sure_25 rfl rfl rfl ?_
        refine j_callV_ir (pc' := 29) (As := [.int p1]) (st := []) hC (M_at_0 d _) rfl (kX12_rowFault l d A _ _) (jgV ml_X12_333 im_X12_rowFault se_X12_rowFault in_X12 cd_X12_rowFault) rfl rfl rfl hyV_X12_rowFault ⟨Nat.le_of_ble_eq_true rfl, Nat.le_of_ble_eq_true rfl⟩ rfl rfl (Nat.le_of_ble_eq_true rfl) dX12_sure_26 rfl (fun q4 => ?_)
        refine j_if_ge (pc' := 32) (tgt := 38) hC dX12_sure_29 (by decide) rfl ?_ ?_
        · refine j_iload_n (pc' := 39) hC 2 dX12_sure_38 rfl rfl rfl ?_
          refine j_bipush (pc' := 41) (v := (10 : Int32)) hC dX12_sure_39 (by decide) rfl ?_
          refine j_idiv0 (pc' := 42) hC dX12_sure_41 (by decide) rfl ?_
          refine j_bipush (pc' := 44) (v := (10 : Int32)) hC dX12_sure_42 (by decide) rfl ?_
          refine j_irem0 (pc' := 45) hC dX12_sure_44 (by decide) rfl ?_
          refine j_top (fun y5 => ?_)
          refine j_istore (pc' := 47) (lv' := [(4, .int y5), (0, .ref (d.2.1 0)), (1, .int p1), (2, .int p2), (3, .int p3)]) hC dX12_sure_45 (by decide) rfl rfl ?_
          refine j_iconst (pc' := 48) (v := (0 : Int32)) hC dX12_sure_47 (by decide) rfl ?_
          refine j_istore (pc' := 50) (lv' := [(5, .int (0 : Int32)), (4, .int y5), (0, .ref (d.2.1 0)), (1, .int p1), (2, .int p2), (3, .int p3)]) hC dX12_sure_48 (by decide) rfl rfl ?_
          refine j_iconst (pc' := 51) (v := (0 : Int32)) hC dX12_sure_50 (by decide) rfl ?_
          refine j_istore (pc' := 53) (lv' := [(6, .int (0 : Int32)), (5, .int (0 : Int32)), (4, .int y5), (0, .ref (d.2.1 0)), (1, .int p1), (2, .int p2), (3, .int p3)]) hC dX12_sure_51 (by decide) rfl rfl ?_
          refine j_lv (lv' := [(0, .ref (d.2.1 0)), (1, .int p1), (2, .int p2), (3, .int p3), (4, .int y5), (5, .int (0 : Int32)), (6, .int (0 : Int32))]) [3, 4, 5, 6, 2, 1, 0] rfl ?_
          refine j_loop 53 (fun a => a.1) (fun a => [(0, .ref (d.2.1 0)), (1, .int p1), (2, .int p2), (3, .int p3), (4, .int y5), (5, .int a.2.1), (6, .int a.2.2)]) (fun s53 hs53 a => ?_) jN (σ, (0 : Int32), (0 : Int32))
          unfold fX12_sure_B53
          refine j_iload (pc' := 55) hC 6 dX12_sure_53 rfl rfl ?_
          refine j_bipush (pc' := 57) (v := (9 : Int32)) hC dX12_sure_55 (by decide) rfl ?_
          refine j_icmp_gt (pc' := 60) (tgt := 117) hC dX12_sure_57 (by decide) rfl ?_ ?_
          · refine j_iload (pc' := 119) hC 5 dX12_sure_117 rfl rfl ?_
            exact j_ret_i hC dX12_sure_119
          · refine j_iload (pc' := 62) hC 6 dX12_sure_60 rfl rfl ?_
            refine j_bipush (pc' := 64) (v := (9 : Int32)) hC dX12_sure_62 (by decide) rfl ?_
            refine j_let 111 (fun a111 => a111.1) (fun a111 => [(0, .ref (d.2.1 0)), (1, .int p1), (2, .int p2), (3, .int p3), (4, .int y5), (5, .int a111.2), (6, .int a.2.2)]) (fun a111 => []) (fun a111 => ?_) (fun j111 hj111 => ?_)
            · refine j_iinc (pc' := 114) (v := (a.2.2 + (1 : Int32))) (lv' := [(6, .int (a.2.2 + (1 : Int32))), (0, .ref (d.2.1 0)), (1, .int p1), (2, .int p2), (3, .int p3), (4, .int y5), (5, .int a111.2)]) hC 6 dX12_sure_111 rfl (by decide) rfl rfl rfl ?_
              refine j_goto (tgt := 53) hC dX12_sure_114 (by decide) ?_
              exact j_lv (lv' := [(0, .ref (d.2.1 0)), (1, .int p1), (2, .int p2), (3, .int p3), (4, .int y5), (5, .int a111.2), (6, .int (a.2.2 + (1 : Int32)))]) [1, 2, 3, 4, 5, 6, 0] rfl (hs53 (a111.1, a111.2, (a.2.2 + (1 : Int32))))
            · refine j_let 83 (fun a83 => a.1) (fun a83 => [(0, .ref (d.2.1 0)), (1, .int p1), (2, .int p2), (3, .int p3), (4, .int y5), (5, .int a.2.1), (6, .int a.2.2)]) (fun a83 => []) (fun a83 => ?_) (fun j83 hj83 => ?_)
              · refine j_aload_n (pc' := 84) hC 0 dX12_sure_83 rfl rfl rfl ?_
                refine j_iload_n (pc' := 85) hC 1 dX12_sure_84 rfl rfl rfl ?_
                refine j_iload_n (pc' := 86) hC 2 dX12_sure_85 rfl rfl rfl ?_
                refine j_bipush (pc' := 88) (v := (100 : Int32)) hC dX12_sure_86 (by decide) rfl ?_
                refine j_idiv0 (pc' := 89) hC dX12_sure_88 (by decide) rfl ?_
                refine j_iload (pc' := 91) hC 4 dX12_sure_89 rfl rfl ?_
                refine j_iload (pc' := 93) hC 6 dX12_sure_91 rfl rfl ?_
                refine j_iload_n (pc' := 94) hC 3 dX12_sure_93 rfl rfl rfl ?_
                refine j_callV_i (pc' := 97) (As := [.int p1, .int (p2 / (100 : Int32)), .int y5, .int a.2.2, .int p3]) (st := []) hC (M_at_0 d _) rfl (kX12_wrongIn l d A _ _ _ _ _ _) (jgV ml_X12_336 im_X12_wrongIn se_X12_wrongIn in_X12 cd_X12_wrongIn) rfl rfl rfl hyV_X12_wrongIn ⟨Nat.le_of_ble_eq_true rfl, Nat.le_of_ble_eq_true rfl⟩ rfl rfl (Nat.le_of_ble_eq_true rfl) dX12_sure_94 rfl (fun q6 => ?_)
                refine j_bipush (pc' := 99) (v := (-2 : Int32)) hC dX12_sure_97 (by decide) rfl ?_
                refine j_icmp_ne (pc' := 102) (tgt := 111) hC dX12_sure_99 (by decide) rfl ?_ ?_
                · exact j_lv (lv' := [(0, .ref (d.2.1 0)), (1, .int p1), (2, .int p2), (3, .int p3), (4, .int y5), (5, .int a.2.1), (6, .int a.2.2)]) [0, 1, 2, 3, 4, 5, 6] rfl (hj111 (q6.2, a.2.1))
                · refine j_iload (pc' := 104) hC 5 dX12_sure_102 rfl rfl ?_
                  refine j_iconst (pc' := 105) (v := (1 : Int32)) hC dX12_sure_104 (by decide) rfl ?_
                  refine j_iload (pc' := 107) hC 6 dX12_sure_105 rfl rfl ?_
                  refine j_ishl (pc' := 108) hC dX12_sure_107 rfl ?_
                  refine j_ior (pc' := 109) hC dX12_sure_108 rfl ?_
                  refine j_istore (pc' := 111) (lv' := [(5, .int (a.2.1 ||| ((1 : Int32) <<< (a.2.2 &&& 31)))), (0, .ref (d.2.1 0)), (1, .int p1), (2, .int p2), (3, .int p3), (4, .int y5), (6, .int a.2.2)]) hC dX12_sure_109 (by decide) rfl rfl ?_
                  exact j_lv (lv' := [(0, .ref (d.2.1 0)), (1, .int p1), (2, .int p2), (3, .int p3), (4, .int y5), (5, .int (a.2.1 ||| ((1 : Int32) <<< (a.2.2 &&& 31)))), (6, .int a.2.2)]) [1, 2, 3, 4, 5, 0, 6] rfl (hj111 (q6.2, (a.2.1 ||| ((1 : Int32) <<< (a.2.2 &&& 31)))))
              · refine j_icmp_eq (pc' := 67) (tgt := 83) hC dX12_sure_64 (by decide) rfl ?_ ?_
                · exact j_lv (lv' := [(0, .ref (d.2.1 0)), (1, .int p1), (2, .int p2), (3, .int p3), (4, .int y5), (5, .int a.2.1), (6, .int a.2.2)]) [0, 1, 2, 3, 4, 5, 6] rfl (hj83 ())
                · refine j_aload_n (pc' := 68) hC 0 dX12_sure_67 rfl rfl rfl ?_
                  refine j_iload (pc' := 70) hC 6 dX12_sure_68 rfl rfl ?_
                  refine j_callV_zr (pc' := 73) (As := [.int a.2.2]) (st := []) hC (M_at_0 d _) rfl (kX12_isChild l d A _ _) (jgV ml_X12_162 im_X12_isChild se_X12_isChild in_X12 cd_X12_isChild) rfl rfl rfl hyV_X12_isChild ⟨Nat.le_of_ble_eq_true rfl, Nat.le_of_ble_eq_true rfl⟩ rfl rfl (Nat.le_of_ble_eq_true rfl) dX12_sure_70 rfl (fun q7 => ?_)
                  refine j_if_eq (pc' := 76) (tgt := 111) hC dX12_sure_73 (by decide) rfl ?_ ?_
                  · exact j_lv (lv' := [(0, .ref (d.2.1 0)), (1, .int p1), (2, .int p2), (3, .int p3), (4, .int y5), (5, .int a.2.1), (6, .int a.2.2)]) [0, 1, 2, 3, 4, 5, 6] rfl (hj111 (a.1, a.2.1))
                  · refine j_iload (pc' := 78) hC 6 dX12_sure_76 rfl rfl ?_
                    refine j_iload (pc' := 80) hC 4 dX12_sure_78 rfl rfl ?_
                    refine j_icmp_eq (pc' := 83) (tgt := 111) hC dX12_sure_80 (by decide) rfl ?_ ?_
                    · exact j_lv (lv' := [(0, .ref (d.2.1 0)), (1, .int p1), (2, .int p2), (3, .int p3), (4, .int y5), (5, .int a.2.1), (6, .int a.2.2)]) [0, 1, 2, 3, 4, 5, 6] rfl (hj111 (a.1, a.2.1))
                    · exact j_lv (lv' := [(0, .ref (d.2.1 0)), (1, .int p1), (2, .int p2), (3, .int p3), (4, .int y5), (5, .int a.2.1), (6, .int a.2.2)]) [0, 1, 2, 3, 4, 5, 6] rfl (hj83 ())
        · refine j_aload_n (pc' := 33) hC 0 dX12_sure_32 rfl rfl rfl ?_
          refine j_iload_n (pc' := 34) hC 1 dX12_sure_33 rfl rfl rfl ?_
          refine j_callV_ir (pc' := 37) (As := [.int p1]) (st := []) hC (M_at_0 d _) rfl (kX12_rowFault l d A _ _) (jgV ml_X12_333 im_X12_rowFault se_X12_rowFault in_X12 cd_X12_rowFault) rfl rfl rfl hyV_X12_rowFault ⟨Nat.le_of_ble_eq_true rfl, Nat.le_of_ble_eq_true rfl⟩ rfl rfl (Nat.le_of_ble_eq_true rfl) dX12_sure_34 rfl (fun q8 => ?_)
          exact j_ret_i hC dX12_sure_37
      · refine j_iconst (pc' := 23) (v := (-1 : Int32)) hC dX12_sure_22 (by decide) rfl ?_
        exact j_ret_i hC dX12_sure_23
theorem hyV_X12_on : yX12_on.cls = RX12 ∧ yX12_on.cls ≠ "java/lang/invoke/MethodHandle" ∧ yX12_on.cls ≠ "java/lang/invoke/VarHandle" ∧ (parseMethodDescriptor yX12_on.desc).map (fun d => d.parameters.length) = some 1 := ⟨rfl, by decide +kernel, by decide +kernel, by decide +kernel⟩
noncomputable def fX12_on (σ : jS) (p1 : Int32) : Option (Int32 × jS) :=
  (Option.bind (fX12_areThree σ p1) fun (q1 : Int32) => (if (jb q1) = 0 then (some ((-1 : Int32), σ)) else (ob (6 : Int32) 10 (if (σ.1 27 ((6 : Int32)).toNatClampNeg) < 0 then (ob (6 : Int32) 10 (jst (ju σ 27 ((6 : Int32)).toNatClampNeg p1) fun (σ2 : jS) => (ob (7 : Int32) 10 (jst (ju σ2 27 ((7 : Int32)).toNatClampNeg (0 : Int32)) fun (σ3 : jS) => (ob (8 : Int32) 10 (jst (ju σ3 27 ((8 : Int32)).toNatClampNeg (0 : Int32)) fun (σ4 : jS) => (ob (9 : Int32) 10 (jst (ju σ4 27 ((9 : Int32)).toNatClampNeg (0 : Int32)) fun (σ5 : jS) => (some (((p1 / (10 : Int32)) - (p1 / (10 : Int32)) / (10 : Int32) * (10 : Int32)), σ5)))))))))) else (some ((-5 : Int32), σ))))))
set_option maxRecDepth 100000 in
set_option maxHeartbeats 4000000 in
theorem kX12_on (l : Launch) (d : jD) (A : Nat → Prop) (σ : jS) (p1 : Int32) : jMi l yX12_on (jws yX12_on cX12_on 2 (some (.int))) { frames := 5, cells := 0, slots := 0, locals := 194 } d wM A [.ref (d.2.1 0), .int p1] σ (fX12_on σ p1) := by
  refine jStart_i (lv0 := [(0, .ref (d.2.1 0)), (1, .int p1)]) (by decide) rfl (Nat.le_of_ble_eq_true rfl) rfl (fun z hC res => ?_)
  unfold fX12_on
  refine j_aload_n (pc' := 1) hC 0 dX12_on_0 rfl rfl rfl ?_
  refine j_iload_n (pc' := 2) hC 1 dX12_on_1 rfl rfl rfl ?_
  refine j_callV_zr (pc' := 5) (As := [.int p1]) (st := []) hC (M_at_0 d _) rfl (kX12_areThree l d A _ _) (jgV ml_X12_282 im_X12_areThree se_X12_areThree in_X12 cd_X12_areThree) rfl rfl rfl hyV_X12_areThree ⟨Nat.le_of_ble_eq_true rfl, Nat.le_of_ble_eq_true rfl⟩ rfl rfl (Nat.le_of_ble_eq_true rfl) dX12_on_2 rfl (fun q1 => ?_)
  refine j_if_ne (pc' := 8) (tgt := 10) hC dX12_on_5 (by decide) rfl ?_ ?_
  · refine j_aload_n (pc' := 11) hC 0 dX12_on_10 rfl rfl rfl ?_
    refine j_get (pc' := 14) hC ly_X12 (M_at_0 d _) rfl 46 (by decide) fl_X12_97 rfl dX12_on_11 rfl ?_
    refine j_bipush (pc' := 16) (v := (6 : Int32)) hC dX12_on_14 (by decide) rfl ?_
    refine j_iald (pc' := 17) hC (M_at_27 d _) dX12_on_16 rfl ?_
    refine j_if_lt (pc' := 20) (tgt := 23) hC dX12_on_17 (by decide) rfl ?_ ?_
    · refine j_aload_n (pc' := 24) hC 0 dX12_on_23 rfl rfl rfl ?_
      refine j_get (pc' := 27) hC ly_X12 (M_at_0 d _) rfl 46 (by decide) fl_X12_97 rfl dX12_on_24 rfl ?_
      refine j_bipush (pc' := 29) (v := (6 : Int32)) hC dX12_on_27 (by decide) rfl ?_
      refine j_iload_n (pc' := 30) hC 1 dX12_on_29 rfl rfl rfl ?_
      refine j_iast (pc' := 31) hC (M_at_27 d _) (M_sa_27 d _ _) dX12_on_30 rfl ?_
      refine j_st (fun σ2 => ?_)
      refine j_aload_n (pc' := 32) hC 0 dX12_on_31 rfl rfl rfl ?_
      refine j_get (pc' := 35) hC ly_X12 (M_at_0 d _) rfl 46 (by decide) fl_X12_97 rfl dX12_on_32 rfl ?_
      refine j_bipush (pc' := 37) (v := (7 : Int32)) hC dX12_on_35 (by decide) rfl ?_
      refine j_iconst (pc' := 38) (v := (0 : Int32)) hC dX12_on_37 (by decide) rfl ?_
      refine j_iast (pc' := 39) hC (M_at_27 d _) (M_sa_27 d _ _) dX12_on_38 rfl ?_
      refine j_st (fun σ3 => ?_)
      refine j_aload_n (pc' := 40) hC 0 dX12_on_39 rfl rfl rfl ?_
      refine j_get (pc' := 43) hC ly_X12 (M_at_0 d _) rfl 46 (by decide) fl_X12_97 rfl dX12_on_40 rfl ?_
      refine j_bipush (pc' := 45) (v := (8 : Int32)) hC dX12_on_43 (by decide) rfl ?_
      refine j_iconst (pc' := 46) (v := (0 : Int32)) hC dX12_on_45 (by decide) rfl ?_
      refine j_iast (pc' := 47) hC (M_at_27 d _) (M_sa_27 d _ _) dX12_on_46 rfl ?_
      refine j_st (fun σ4 => ?_)
      refine j_aload_n (pc' := 48) hC 0 dX12_on_47 rfl rfl rfl ?_
      refine j_get (pc' := 51) hC ly_X12 (M_at_0 d _) rfl 46 (by decide) fl_X12_97 rfl dX12_on_48 rfl ?_
      refine j_bipush (pc' := 53) (v := (9 : Int32)) hC dX12_on_51 (by decide) rfl ?_
      refine j_iconst (pc' := 54) (v := (0 : Int32)) hC dX12_on_53 (by decide) rfl ?_
      refine j_iast (pc' := 55) hC (M_at_27 d _) (M_sa_27 d _ _) dX12_on_54 rfl ?_
      refine j_st (fun σ5 => ?_)
      refine j_iload_n (pc' := 56) hC 1 dX12_on_55 rfl rfl rfl ?_
      refine j_bipush (pc' := 58) (v := (10 : Int32)) hC dX12_on_56 (by decide) rfl ?_
      refine j_idiv0 (pc' := 59) hC dX12_on_58 (by decide) rfl ?_
      refine j_bipush (pc' := 61) (v := (10 : Int32)) hC dX12_on_59 (by decide) rfl ?_
      refine j_irem0 (pc' := 62) hC dX12_on_61 (by decide) rfl ?_
      exact j_ret_i hC dX12_on_62
    · refine j_bipush (pc' := 22) (v := (-5 : Int32)) hC dX12_on_20 (by decide) rfl ?_
      exact j_ret_i hC dX12_on_22
  · refine j_iconst (pc' := 9) (v := (-1 : Int32)) hC dX12_on_8 (by decide) rfl ?_
    exact j_ret_i hC dX12_on_9
theorem hyV_X12_waitingFor : yX12_waitingFor.cls = RX12 ∧ yX12_waitingFor.cls ≠ "java/lang/invoke/MethodHandle" ∧ yX12_waitingFor.cls ≠ "java/lang/invoke/VarHandle" ∧ (parseMethodDescriptor yX12_waitingFor.desc).map (fun d => d.parameters.length) = some 2 := ⟨rfl, by decide +kernel, by decide +kernel, by decide +kernel⟩
noncomputable def fX12_waitingFor_B5 (σ : jS) (p1 : Int32) (p2 : Int32) (s5 : Int32 × Int32 → Option (Int32)) (a : Int32 × Int32) : Option (Int32) :=
  (if (σ.1 0 2) ≤ a.2 then (some a.1) else (jlet (fun (a34 : Int32) => (s5 (a34, (a.2 + (1 : Int32))))) fun (j34 : (Int32 → Option (Int32))) => (if a.2 = p2 then (j34 a.1) else (ob a.2 9 (if (σ.1 7 (a.2).toNatClampNeg) = p1 then (j34 (a.1 + (1 : Int32))) else (j34 a.1))))))
noncomputable def fX12_waitingFor (σ : jS) (p1 : Int32) (p2 : Int32) : Option (Int32) :=
  (jloop (fX12_waitingFor_B5 σ p1 p2) jN ((0 : Int32), (0 : Int32)))
set_option maxRecDepth 100000 in
set_option maxHeartbeats 4000000 in
theorem kX12_waitingFor (l : Launch) (d : jD) (A : Nat → Prop) (σ : jS) (p1 : Int32) (p2 : Int32) : jMir l yX12_waitingFor (jws yX12_waitingFor cX12_waitingFor 5 (some (.int))) { frames := 2, cells := 0, slots := 0, locals := 130 } d wM A [.ref (d.2.1 0), .int p1, .int p2] σ (fX12_waitingFor σ p1 p2) := by
  refine jStart_ir (lv0 := [(0, .ref (d.2.1 0)), (1, .int p1), (2, .int p2)]) (by decide) rfl (Nat.le_of_ble_eq_true rfl) rfl (fun z hC res => ?_)
  unfold fX12_waitingFor
  refine j_iconst (pc' := 1) (v := (0 : Int32)) hC dX12_waitingFor_0 (by decide) rfl ?_
  refine j_istore_n (pc' := 2) (lv' := [(3, .int (0 : Int32)), (0, .ref (d.2.1 0)), (1, .int p1), (2, .int p2)]) hC dX12_waitingFor_1 rfl (by decide) rfl rfl ?_
  refine j_iconst (pc' := 3) (v := (0 : Int32)) hC dX12_waitingFor_2 (by decide) rfl ?_
  refine j_istore (pc' := 5) (lv' := [(4, .int (0 : Int32)), (3, .int (0 : Int32)), (0, .ref (d.2.1 0)), (1, .int p1), (2, .int p2)]) hC dX12_waitingFor_3 (by decide) rfl rfl ?_
  refine j_lv (lv' := [(0, .ref (d.2.1 0)), (1, .int p1), (2, .int p2), (3, .int (0 : Int32)), (4, .int (0 : Int32))]) [2, 3, 4, 1, 0] rfl ?_
  refine j_loop 5 (fun a => σ) (fun a => [(0, .ref (d.2.1 0)), (1, .int p1), (2, .int p2), (3, .int a.1), (4, .int a.2)]) (fun s5 hs5 a => ?_) jN ((0 : Int32), (0 : Int32))
  unfold fX12_waitingFor_B5
  refine j_iload (pc' := 7) hC 4 dX12_waitingFor_5 rfl rfl ?_
  refine j_aload_n (pc' := 8) hC 0 dX12_waitingFor_7 rfl rfl rfl ?_
  refine j_get (pc' := 11) hC ly_X12 (M_at_0 d _) rfl 2 (by decide) fl_X12_125 rfl dX12_waitingFor_8 rfl ?_
  refine j_icmp_ge (pc' := 14) (tgt := 40) hC dX12_waitingFor_11 (by decide) rfl ?_ ?_
  · refine j_iload_n (pc' := 41) hC 3 dX12_waitingFor_40 rfl rfl rfl ?_
    exact j_ret_ir hC dX12_waitingFor_41
  · refine j_iload (pc' := 16) hC 4 dX12_waitingFor_14 rfl rfl ?_
    refine j_iload_n (pc' := 17) hC 2 dX12_waitingFor_16 rfl rfl rfl ?_
    refine j_let 34 (fun a34 => σ) (fun a34 => [(0, .ref (d.2.1 0)), (1, .int p1), (2, .int p2), (3, .int a34), (4, .int a.2)]) (fun a34 => []) (fun a34 => ?_) (fun j34 hj34 => ?_)
    · refine j_iinc (pc' := 37) (v := (a.2 + (1 : Int32))) (lv' := [(4, .int (a.2 + (1 : Int32))), (0, .ref (d.2.1 0)), (1, .int p1), (2, .int p2), (3, .int a34)]) hC 4 dX12_waitingFor_34 rfl (by decide) rfl rfl rfl ?_
      refine j_goto (tgt := 5) hC dX12_waitingFor_37 (by decide) ?_
      exact j_lv (lv' := [(0, .ref (d.2.1 0)), (1, .int p1), (2, .int p2), (3, .int a34), (4, .int (a.2 + (1 : Int32)))]) [1, 2, 3, 4, 0] rfl (hs5 (a34, (a.2 + (1 : Int32))))
    · refine j_icmp_eq (pc' := 20) (tgt := 34) hC dX12_waitingFor_17 (by decide) rfl ?_ ?_
      · exact j_lv (lv' := [(0, .ref (d.2.1 0)), (1, .int p1), (2, .int p2), (3, .int a.1), (4, .int a.2)]) [0, 1, 2, 3, 4] rfl (hj34 a.1)
      · refine j_aload_n (pc' := 21) hC 0 dX12_waitingFor_20 rfl rfl rfl ?_
        refine j_get (pc' := 24) hC ly_X12 (M_at_0 d _) rfl 8 (by decide) fl_X12_28 rfl dX12_waitingFor_21 rfl ?_
        refine j_iload (pc' := 26) hC 4 dX12_waitingFor_24 rfl rfl ?_
        refine j_iald (pc' := 27) hC (M_at_7 d _) dX12_waitingFor_26 rfl ?_
        refine j_iload_n (pc' := 28) hC 1 dX12_waitingFor_27 rfl rfl rfl ?_
        refine j_icmp_ne (pc' := 31) (tgt := 34) hC dX12_waitingFor_28 (by decide) rfl ?_ ?_
        · exact j_lv (lv' := [(0, .ref (d.2.1 0)), (1, .int p1), (2, .int p2), (3, .int a.1), (4, .int a.2)]) [0, 1, 2, 3, 4] rfl (hj34 a.1)
        · refine j_iinc (pc' := 34) (v := (a.1 + (1 : Int32))) (lv' := [(3, .int (a.1 + (1 : Int32))), (0, .ref (d.2.1 0)), (1, .int p1), (2, .int p2), (4, .int a.2)]) hC 3 dX12_waitingFor_31 rfl (by decide) rfl rfl rfl ?_
          exact j_lv (lv' := [(0, .ref (d.2.1 0)), (1, .int p1), (2, .int p2), (3, .int (a.1 + (1 : Int32))), (4, .int a.2)]) [1, 2, 3, 0, 4] rfl (hj34 (a.1 + (1 : Int32)))
theorem hyV_X12_push : yX12_push.cls = RX12 ∧ yX12_push.cls ≠ "java/lang/invoke/MethodHandle" ∧ yX12_push.cls ≠ "java/lang/invoke/VarHandle" ∧ (parseMethodDescriptor yX12_push.desc).map (fun d => d.parameters.length) = some 0 := ⟨rfl, by decide +kernel, by decide +kernel, by decide +kernel⟩
noncomputable def fX12_push (σ : jS) : Option (Int32 × jS) :=
  (ob (6 : Int32) 10 (if 0 ≤ (σ.1 27 ((6 : Int32)).toNatClampNeg) then (ob (6 : Int32) 10 (ob (6 : Int32) 10 (jst (((σ.1 27 ((6 : Int32)).toNatClampNeg) / (10 : Int32)) - ((σ.1 27 ((6 : Int32)).toNatClampNeg) / (10 : Int32)) / (10 : Int32) * (10 : Int32)) fun (y1 : Int32) => (ob (7 : Int32) 10 (jst (ju σ 0 33 (σ.1 27 ((7 : Int32)).toNatClampNeg)) fun (σ2 : jS) => (ob (8 : Int32) 10 (jst (ju σ2 0 34 (σ2.1 27 ((8 : Int32)).toNatClampNeg)) fun (σ3 : jS) => (ob (9 : Int32) 10 (jst (ju σ3 0 35 (σ3.1 27 ((9 : Int32)).toNatClampNeg)) fun (σ4 : jS) => (ob (4 : Int32) 10 (jst (ju σ4 0 36 (σ4.1 27 ((4 : Int32)).toNatClampNeg)) fun (σ5 : jS) => (Option.bind (fX12_waitingFor σ5 ((σ.1 27 ((6 : Int32)).toNatClampNeg) / (100 : Int32)) y1) fun (q6 : Int32) => (Option.bind (fX12_goRound σ5 ((σ.1 27 ((6 : Int32)).toNatClampNeg) / (100 : Int32)) y1 q6) fun (q7 : (Int32 × jS)) => (ob (1 : Int32) 10 (ob (1 : Int32) 10 (jst (ju q7.2 27 ((1 : Int32)).toNatClampNeg ((q7.2.1 27 ((1 : Int32)).toNatClampNeg) + (1 : Int32))) fun (σ8 : jS) => (ob (2 : Int32) 10 (ob (2 : Int32) 10 (jst (ju σ8 27 ((2 : Int32)).toNatClampNeg ((σ8.1 27 ((2 : Int32)).toNatClampNeg) + q7.1)) fun (σ9 : jS) => (ob (4 : Int32) 10 (jlet (fun (a144 : jS) => (ob (7 : Int32) 10 (jst (ju a144 27 ((7 : Int32)).toNatClampNeg (a144.1 0 33)) fun (σ10 : jS) => (ob (8 : Int32) 10 (jst (ju σ10 27 ((8 : Int32)).toNatClampNeg (σ10.1 0 34)) fun (σ11 : jS) => (ob (9 : Int32) 10 (jst (ju σ11 27 ((9 : Int32)).toNatClampNeg (σ11.1 0 35)) fun (σ12 : jS) => (ob (6 : Int32) 10 (Option.bind (fX12_bentOf σ12 y1 ((σ12.1 27 ((6 : Int32)).toNatClampNeg) - (σ12.1 27 ((6 : Int32)).toNatClampNeg) / (10 : Int32) * (10 : Int32))) fun (q13 : Int32) => (Option.bind (fX12_isOver σ12 q13) fun (q14 : Int32) => (if (jb q14) = 0 then (some (q7.1, σ12)) else (ob (0 : Int32) 10 (ob (0 : Int32) 10 (jst (ju σ12 27 ((0 : Int32)).toNatClampNeg ((σ12.1 27 ((0 : Int32)).toNatClampNeg) + (1 : Int32))) fun (σ15 : jS) => (ob (6 : Int32) 10 (jst (ju σ15 27 ((6 : Int32)).toNatClampNeg (-1 : Int32)) fun (σ16 : jS) => (some (q7.1, σ16)))))))))))))))))) fun (j144 : (jS → Option (Int32 × jS))) => (if (σ9.1 0 33) ≤ (σ9.1 27 ((4 : Int32)).toNatClampNeg) then (j144 σ9) else (ob (4 : Int32) 10 (jst (ju σ9 27 ((4 : Int32)).toNatClampNeg (σ9.1 0 33)) fun (σ17 : jS) => (ob (5 : Int32) 10 (jst (ju σ17 27 ((5 : Int32)).toNatClampNeg y1) fun (σ18 : jS) => (j144 σ18))))))))))))))))))))))))))) else (some ((-5 : Int32), σ))))
set_option maxRecDepth 100000 in
set_option maxHeartbeats 4000000 in
theorem kX12_push (l : Launch) (d : jD) (A : Nat → Prop) (σ : jS) : jMi l yX12_push (jws yX12_push cX12_push 4 (some (.int))) { frames := 6, cells := 0, slots := 0, locals := 227 } d wM A [.ref (d.2.1 0)] σ (fX12_push σ) := by
  refine jStart_i (lv0 := [(0, .ref (d.2.1 0))]) (by decide) rfl (Nat.le_of_ble_eq_true rfl) rfl (fun z hC res => ?_)
  unfold fX12_push
  refine j_aload_n (pc' := 1) hC 0 dX12_push_0 rfl rfl rfl ?_
  refine j_get (pc' := 4) hC ly_X12 (M_at_0 d _) rfl 46 (by decide) fl_X12_97 rfl dX12_push_1 rfl ?_
  refine j_bipush (pc' := 6) (v := (6 : Int32)) hC dX12_push_4 (by decide) rfl ?_
  refine j_iald (pc' := 7) hC (M_at_27 d _) dX12_push_6 rfl ?_
  refine j_if_ge (pc' := 10) (tgt := 13) hC dX12_push_7 (by decide) rfl ?_ ?_
  · refine j_aload_n (pc' := 14) hC 0 dX12_push_13 rfl rfl rfl ?_
    refine j_get (pc' := 17) hC ly_X12 (M_at_0 d _) rfl 46 (by decide) fl_X12_97 rfl dX12_push_14 rfl ?_
    refine j_bipush (pc' := 19) (v := (6 : Int32)) hC dX12_push_17 (by decide) rfl ?_
    refine j_iald (pc' := 20) hC (M_at_27 d _) dX12_push_19 rfl ?_
    refine j_bipush (pc' := 22) (v := (100 : Int32)) hC dX12_push_20 (by decide) rfl ?_
    refine j_idiv0 (pc' := 23) hC dX12_push_22 (by decide) rfl ?_
    refine j_istore_n (pc' := 24) (lv' := [(1, .int ((σ.1 27 ((6 : Int32)).toNatClampNeg) / (100 : Int32))), (0, .ref (d.2.1 0))]) hC dX12_push_23 rfl (by decide) rfl rfl ?_
    refine j_aload_n (pc' := 25) hC 1 dX12_push_24 rfl rfl rfl ?_
    refine j_get (pc' := 28) hC ly_X12 (M_at_0 d _) rfl 46 (by decide) fl_X12_97 rfl dX12_push_25 rfl ?_
    refine j_bipush (pc' := 30) (v := (6 : Int32)) hC dX12_push_28 (by decide) rfl ?_
    refine j_iald (pc' := 31) hC (M_at_27 d _) dX12_push_30 rfl ?_
    refine j_bipush (pc' := 33) (v := (10 : Int32)) hC dX12_push_31 (by decide) rfl ?_
    refine j_idiv0 (pc' := 34) hC dX12_push_33 (by decide) rfl ?_
    refine j_bipush (pc' := 36) (v := (10 : Int32)) hC dX12_push_34 (by decide) rfl ?_
    refine j_irem0 (pc' := 37) hC dX12_push_36 (by decide) rfl ?_
    refine j_top (fun y1 => ?_)
    refine j_istore_n (pc' := 38) (lv' := [(2, .int y1), (1, .int ((σ.1 27 ((6 : Int32)).toNatClampNeg) / (100 : Int32))), (0, .ref (d.2.1 0))]) hC dX12_push_37 rfl (by decide) rfl rfl ?_
    refine j_aload_n (pc' := 39) hC 2 dX12_push_38 rfl rfl rfl ?_
    refine j_aload_n (pc' := 40) hC 2 dX12_push_39 rfl rfl rfl ?_
    refine j_get (pc' := 43) hC ly_X12 (M_at_0 d _) rfl 46 (by decide) fl_X12_97 rfl dX12_push_40 rfl ?_
    refine j_bipush (pc' := 45) (v := (7 : Int32)) hC dX12_push_43 (by decide) rfl ?_
    refine j_iald (pc' := 46) hC (M_at_27 d _) dX12_push_45 rfl ?_
    refine j_put (pc' := 49) hC ly_X12 tyX12 tyX12_ok nmX12 (M_at_0 d _) rfl 33 (by decide) fl_X12_248 rfl rfl rfl rfl (Nat.le_of_ble_eq_true rfl) (M_sf_0_33 d _ _) dX12_push_46 rfl ?_
    refine j_st (fun σ2 => ?_)
    refine j_aload_n (pc' := 50) hC 2 dX12_push_49 rfl rfl rfl ?_
    refine j_aload_n (pc' := 51) hC 2 dX12_push_50 rfl rfl rfl ?_
    refine j_get (pc' := 54) hC ly_X12 (M_at_0 d _) rfl 46 (by decide) fl_X12_97 rfl dX12_push_51 rfl ?_
    refine j_bipush (pc' := 56) (v := (8 : Int32)) hC dX12_push_54 (by decide) rfl ?_
    refine j_iald (pc' := 57) hC (M_at_27 d _) dX12_push_56 rfl ?_
    refine j_put (pc' := 60) hC ly_X12 tyX12 tyX12_ok nmX12 (M_at_0 d _) rfl 34 (by decide) fl_X12_254 rfl rfl rfl rfl (Nat.le_of_ble_eq_true rfl) (M_sf_0_34 d _ _) dX12_push_57 rfl ?_
    refine j_st (fun σ3 => ?_)
    refine j_aload_n (pc' := 61) hC 2 dX12_push_60 rfl rfl rfl ?_
    refine j_aload_n (pc' := 62) hC 2 dX12_push_61 rfl rfl rfl ?_
    refine j_get (pc' := 65) hC ly_X12 (M_at_0 d _) rfl 46 (by decide) fl_X12_97 rfl dX12_push_62 rfl ?_
    refine j_bipush (pc' := 67) (v := (9 : Int32)) hC dX12_push_65 (by decide) rfl ?_
    refine j_iald (pc' := 68) hC (M_at_27 d _) dX12_push_67 rfl ?_
    refine j_put (pc' := 71) hC ly_X12 tyX12 tyX12_ok nmX12 (M_at_0 d _) rfl 35 (by decide) fl_X12_260 rfl rfl rfl rfl (Nat.le_of_ble_eq_true rfl) (M_sf_0_35 d _ _) dX12_push_68 rfl ?_
    refine j_st (fun σ4 => ?_)
    refine j_aload_n (pc' := 72) hC 2 dX12_push_71 rfl rfl rfl ?_
    refine j_aload_n (pc' := 73) hC 2 dX12_push_72 rfl rfl rfl ?_
    refine j_get (pc' := 76) hC ly_X12 (M_at_0 d _) rfl 46 (by decide) fl_X12_97 rfl dX12_push_73 rfl ?_
    refine j_iconst (pc' := 77) (v := (4 : Int32)) hC dX12_push_76 (by decide) rfl ?_
    refine j_iald (pc' := 78) hC (M_at_27 d _) dX12_push_77 rfl ?_
    refine j_put (pc' := 81) hC ly_X12 tyX12 tyX12_ok nmX12 (M_at_0 d _) rfl 36 (by decide) fl_X12_251 rfl rfl rfl rfl (Nat.le_of_ble_eq_true rfl) (M_sf_0_36 d _ _) dX12_push_78 rfl ?_
    refine j_st (fun σ5 => ?_)
    refine j_aload_n (pc' := 82) hC 2 dX12_push_81 rfl rfl rfl ?_
    refine j_iload_n (pc' := 83) hC 1 dX12_push_82 rfl rfl rfl ?_
    refine j_iload_n (pc' := 84) hC 0 dX12_push_83 rfl rfl rfl ?_
    refine j_aload_n (pc' := 85) hC 2 dX12_push_84 rfl rfl rfl ?_
    refine j_iload_n (pc' := 86) hC 1 dX12_push_85 rfl rfl rfl ?_
    refine j_iload_n (pc' := 87) hC 0 dX12_push_86 rfl rfl rfl ?_
    refine j_callV_ir (pc' := 90) (As := [.int ((σ.1 27 ((6 : Int32)).toNatClampNeg) / (100 : Int32)), .int y1]) (st := [.int y1, .int ((σ.1 27 ((6 : Int32)).toNatClampNeg) / (100 : Int32)), .ref (d.2.1 0)]) hC (M_at_0 d _) rfl (kX12_waitingFor l d A _ _ _) (jgV ml_X12_340 im_X12_waitingFor se_X12_waitingFor in_X12 cd_X12_waitingFor) rfl rfl rfl hyV_X12_waitingFor ⟨Nat.le_of_ble_eq_true rfl, Nat.le_of_ble_eq_true rfl⟩ rfl rfl (Nat.le_of_ble_eq_true rfl) dX12_push_87 rfl (fun q6 => ?_)
    refine j_callV_i (pc' := 93) (As := [.int ((σ.1 27 ((6 : Int32)).toNatClampNeg) / (100 : Int32)), .int y1, .int q6]) (st := []) hC (M_at_0 d _) rfl (kX12_goRound l d A _ _ _ _) (jgV ml_X12_272 im_X12_goRound se_X12_goRound in_X12 cd_X12_goRound) rfl rfl rfl hyV_X12_goRound ⟨Nat.le_of_ble_eq_true rfl, Nat.le_of_ble_eq_true rfl⟩ rfl rfl (Nat.le_of_ble_eq_true rfl) dX12_push_90 rfl (fun q7 => ?_)
    refine j_istore_n (pc' := 94) (lv' := [(3, .int q7.1), (2, .int y1), (1, .int ((σ.1 27 ((6 : Int32)).toNatClampNeg) / (100 : Int32))), (0, .ref (d.2.1 0))]) hC dX12_push_93 rfl (by decide) rfl rfl ?_
    refine j_aload_n (pc' := 95) hC 3 dX12_push_94 rfl rfl rfl ?_
    refine j_get (pc' := 98) hC ly_X12 (M_at_0 d _) rfl 46 (by decide) fl_X12_97 rfl dX12_push_95 rfl ?_
    refine j_iconst (pc' := 99) (v := (1 : Int32)) hC dX12_push_98 (by decide) rfl ?_
    refine j_dup2 (pc' := 100) hC rfl rfl dX12_push_99 rfl ?_
    refine j_iald (pc' := 101) hC (M_at_27 d _) dX12_push_100 rfl ?_
    refine j_iconst (pc' := 102) (v := (1 : Int32)) hC dX12_push_101 (by decide) rfl ?_
    refine j_iadd (pc' := 103) hC dX12_push_102 rfl ?_
    refine j_iast (pc' := 104) hC (M_at_27 d _) (M_sa_27 d _ _) dX12_push_103 rfl ?_
    refine j_st (fun σ8 => ?_)
    refine j_aload_n (pc' := 105) hC 3 dX12_push_104 rfl rfl rfl ?_
    refine j_get (pc' := 108) hC ly_X12 (M_at_0 d _) rfl 46 (by decide) fl_X12_97 rfl dX12_push_105 rfl ?_
    refine j_iconst (pc' := 109) (v := (2 : Int32)) hC dX12_push_108 (by decide) rfl ?_
    refine j_dup2 (pc' := 110) hC rfl rfl dX12_push_109 rfl ?_
    refine j_iald (pc' := 111) hC (M_at_27 d _) dX12_push_110 rfl ?_
    refine j_iload_n (pc' := 112) hC 0 dX12_push_111 rfl rfl rfl ?_
    refine j_iadd (pc' := 113) hC dX12_push_112 rfl ?_
    refine j_iast (pc' := 114) hC (M_at_27 d _) (M_sa_27 d _ _) dX12_push_113 rfl ?_
    refine j_st (fun σ9 => ?_)
    refine j_aload_n (pc' := 115) hC 3 dX12_push_114 rfl rfl rfl ?_
    refine j_get (pc' := 118) hC ly_X12 (M_at_0 d _) rfl 33 (by decide) fl_X12_248 rfl dX12_push_115 rfl ?_
    refine j_aload_n (pc' := 119) hC 3 dX12_push_118 rfl rfl rfl ?_
    refine j_get (pc' := 122) hC ly_X12 (M_at_0 d _) rfl 46 (by decide) fl_X12_97 rfl dX12_push_119 rfl ?_
    refine j_iconst (pc' := 123) (v := (4 : Int32)) hC dX12_push_122 (by decide) rfl ?_
    refine j_iald (pc' := 124) hC (M_at_27 d _) dX12_push_123 rfl ?_
    refine j_let 144 (fun a144 => a144) (fun a144 => [(0, .ref (d.2.1 0)), (2, .int y1), (3, .int q7.1)]) (fun a144 => []) (fun a144 => ?_) (fun j144 hj144 => ?_)
    · refine j_aload_n (pc' := 145) hC 0 dX12_push_144 rfl rfl rfl ?_
      refine j_get (pc' := 148) hC ly_X12 (M_at_0 d _) rfl 46 (by decide) fl_X12_97 rfl dX12_push_145 rfl ?_
      refine j_bipush (pc' := 150) (v := (7 : Int32)) hC dX12_push_148 (by decide) rfl ?_
      refine j_aload_n (pc' := 151) hC 0 dX12_push_150 rfl rfl rfl ?_
      refine j_get (pc' := 154) hC ly_X12 (M_at_0 d _) rfl 33 (by decide) fl_X12_248 rfl dX12_push_151 rfl ?_
      refine j_iast (pc' := 155) hC (M_at_27 d _) (M_sa_27 d _ _) dX12_push_154 rfl ?_
      refine j_st (fun σ10 => ?_)
      refine j_aload_n (pc' := 156) hC 0 dX12_push_155 rfl rfl rfl ?_
      refine j_get (pc' := 159) hC ly_X12 (M_at_0 d _) rfl 46 (by decide) fl_X12_97 rfl dX12_push_156 rfl ?_
      refine j_bipush (pc' := 161) (v := (8 : Int32)) hC dX12_push_159 (by decide) rfl ?_
      refine j_aload_n (pc' := 162) hC 0 dX12_push_161 rfl rfl rfl ?_
      refine j_get (pc' := 165) hC ly_X12 (M_at_0 d _) rfl 34 (by decide) fl_X12_254 rfl dX12_push_162 rfl ?_
      refine j_iast (pc' := 166) hC (M_at_27 d _) (M_sa_27 d _ _) dX12_push_165 rfl ?_
      refine j_st (fun σ11 => ?_)
      refine j_aload_n (pc' := 167) hC 0 dX12_push_166 rfl rfl rfl ?_
      refine j_get (pc' := 170) hC ly_X12 (M_at_0 d _) rfl 46 (by decide) fl_X12_97 rfl dX12_push_167 rfl ?_
      refine j_bipush (pc' := 172) (v := (9 : Int32)) hC dX12_push_170 (by decide) rfl ?_
      refine j_aload_n (pc' := 173) hC 0 dX12_push_172 rfl rfl rfl ?_
      refine j_get (pc' := 176) hC ly_X12 (M_at_0 d _) rfl 35 (by decide) fl_X12_260 rfl dX12_push_173 rfl ?_
      refine j_iast (pc' := 177) hC (M_at_27 d _) (M_sa_27 d _ _) dX12_push_176 rfl ?_
      refine j_st (fun σ12 => ?_)
      refine j_aload_n (pc' := 178) hC 0 dX12_push_177 rfl rfl rfl ?_
      refine j_aload_n (pc' := 179) hC 0 dX12_push_178 rfl rfl rfl ?_
      refine j_iload_n (pc' := 180) hC 1 dX12_push_179 rfl rfl rfl ?_
      refine j_aload_n (pc' := 181) hC 0 dX12_push_180 rfl rfl rfl ?_
      refine j_get (pc' := 184) hC ly_X12 (M_at_0 d _) rfl 46 (by decide) fl_X12_97 rfl dX12_push_181 rfl ?_
      refine j_bipush (pc' := 186) (v := (6 : Int32)) hC dX12_push_184 (by decide) rfl ?_
      refine j_iald (pc' := 187) hC (M_at_27 d _) dX12_push_186 rfl ?_
      refine j_bipush (pc' := 189) (v := (10 : Int32)) hC dX12_push_187 (by decide) rfl ?_
      refine j_irem0 (pc' := 190) hC dX12_push_189 (by decide) rfl ?_
      refine j_callV_ir (pc' := 193) (As := [.int y1, .int ((σ12.1 27 ((6 : Int32)).toNatClampNeg) - (σ12.1 27 ((6 : Int32)).toNatClampNeg) / (10 : Int32) * (10 : Int32))]) (st := [.ref (d.2.1 0)]) hC (M_at_0 d _) rfl (kX12_bentOf l d A _ _ _) (jgV ml_X12_269 im_X12_bentOf se_X12_bentOf in_X12 cd_X12_bentOf) rfl rfl rfl hyV_X12_bentOf ⟨Nat.le_of_ble_eq_true rfl, Nat.le_of_ble_eq_true rfl⟩ rfl rfl (Nat.le_of_ble_eq_true rfl) dX12_push_190 rfl (fun q13 => ?_)
      refine j_callV_zr (pc' := 196) (As := [.int q13]) (st := []) hC (M_at_0 d _) rfl (kX12_isOver l d A _ _) (jgV ml_X12_275 im_X12_isOver se_X12_isOver in_X12 cd_X12_isOver) rfl rfl rfl hyV_X12_isOver ⟨Nat.le_of_ble_eq_true rfl, Nat.le_of_ble_eq_true rfl⟩ rfl rfl (Nat.le_of_ble_eq_true rfl) dX12_push_193 rfl (fun q14 => ?_)
      refine j_if_ne (pc' := 199) (tgt := 201) hC dX12_push_196 (by decide) rfl ?_ ?_
      · refine j_aload_n (pc' := 202) hC 0 dX12_push_201 rfl rfl rfl ?_
        refine j_get (pc' := 205) hC ly_X12 (M_at_0 d _) rfl 46 (by decide) fl_X12_97 rfl dX12_push_202 rfl ?_
        refine j_iconst (pc' := 206) (v := (0 : Int32)) hC dX12_push_205 (by decide) rfl ?_
        refine j_dup2 (pc' := 207) hC rfl rfl dX12_push_206 rfl ?_
        refine j_iald (pc' := 208) hC (M_at_27 d _) dX12_push_207 rfl ?_
        refine j_iconst (pc' := 209) (v := (1 : Int32)) hC dX12_push_208 (by decide) rfl ?_
        refine j_iadd (pc' := 210) hC dX12_push_209 rfl ?_
        refine j_iast (pc' := 211) hC (M_at_27 d _) (M_sa_27 d _ _) dX12_push_210 rfl ?_
        refine j_st (fun σ15 => ?_)
        refine j_aload_n (pc' := 212) hC 0 dX12_push_211 rfl rfl rfl ?_
        refine j_get (pc' := 215) hC ly_X12 (M_at_0 d _) rfl 46 (by decide) fl_X12_97 rfl dX12_push_212 rfl ?_
        refine j_bipush (pc' := 217) (v := (6 : Int32)) hC dX12_push_215 (by decide) rfl ?_
        refine j_iconst (pc' := 218) (v := (-1 : Int32)) hC dX12_push_217 (by decide) rfl ?_
        refine j_iast (pc' := 219) hC (M_at_27 d _) (M_sa_27 d _ _) dX12_push_218 rfl ?_
        refine j_st (fun σ16 => ?_)
        refine j_iload_n (pc' := 220) hC 2 dX12_push_219 rfl rfl rfl ?_
        exact j_ret_i hC dX12_push_220
      · refine j_iload_n (pc' := 200) hC 2 dX12_push_199 rfl rfl rfl ?_
        exact j_ret_i hC dX12_push_200
    · refine j_icmp_le (pc' := 127) (tgt := 144) hC dX12_push_124 (by decide) rfl ?_ ?_
      · exact j_lv (lv' := [(0, .ref (d.2.1 0)), (2, .int y1), (3, .int q7.1)]) [3, 1, 0] rfl (hj144 σ9)
      · refine j_aload_n (pc' := 128) hC 3 dX12_push_127 rfl rfl rfl ?_
        refine j_get (pc' := 131) hC ly_X12 (M_at_0 d _) rfl 46 (by decide) fl_X12_97 rfl dX12_push_128 rfl ?_
        refine j_iconst (pc' := 132) (v := (4 : Int32)) hC dX12_push_131 (by decide) rfl ?_
        refine j_aload_n (pc' := 133) hC 3 dX12_push_132 rfl rfl rfl ?_
        refine j_get (pc' := 136) hC ly_X12 (M_at_0 d _) rfl 33 (by decide) fl_X12_248 rfl dX12_push_133 rfl ?_
        refine j_iast (pc' := 137) hC (M_at_27 d _) (M_sa_27 d _ _) dX12_push_136 rfl ?_
        refine j_st (fun σ17 => ?_)
        refine j_aload_n (pc' := 138) hC 3 dX12_push_137 rfl rfl rfl ?_
        refine j_get (pc' := 141) hC ly_X12 (M_at_0 d _) rfl 46 (by decide) fl_X12_97 rfl dX12_push_138 rfl ?_
        refine j_iconst (pc' := 142) (v := (5 : Int32)) hC dX12_push_141 (by decide) rfl ?_
        refine j_iload_n (pc' := 143) hC 1 dX12_push_142 rfl rfl rfl ?_
        refine j_iast (pc' := 144) hC (M_at_27 d _) (M_sa_27 d _ _) dX12_push_143 rfl ?_
        refine j_st (fun σ18 => ?_)
        exact j_lv (lv' := [(0, .ref (d.2.1 0)), (2, .int y1), (3, .int q7.1)]) [3, 1, 0] rfl (hj144 σ18)
  · refine j_bipush (pc' := 12) (v := (-5 : Int32)) hC dX12_push_10 (by decide) rfl ?_
    exact j_ret_i hC dX12_push_12
theorem hyV_X12_off : yX12_off.cls = RX12 ∧ yX12_off.cls ≠ "java/lang/invoke/MethodHandle" ∧ yX12_off.cls ≠ "java/lang/invoke/VarHandle" ∧ (parseMethodDescriptor yX12_off.desc).map (fun d => d.parameters.length) = some 0 := ⟨rfl, by decide +kernel, by decide +kernel, by decide +kernel⟩
noncomputable def fX12_off (σ : jS) : Option (Int32 × jS) :=
  (ob (6 : Int32) 10 (if 0 ≤ (σ.1 27 ((6 : Int32)).toNatClampNeg) then (ob (3 : Int32) 10 (ob (3 : Int32) 10 (jst (ju σ 27 ((3 : Int32)).toNatClampNeg ((σ.1 27 ((3 : Int32)).toNatClampNeg) + (1 : Int32))) fun (σ1 : jS) => (ob (6 : Int32) 10 (jst (ju σ1 27 ((6 : Int32)).toNatClampNeg (-1 : Int32)) fun (σ2 : jS) => (ob (8 : Int32) 10 (some ((σ2.1 27 ((8 : Int32)).toNatClampNeg), σ2)))))))) else (some ((-5 : Int32), σ))))
set_option maxRecDepth 100000 in
set_option maxHeartbeats 4000000 in
theorem kX12_off (l : Launch) (d : jD) (A : Nat → Prop) (σ : jS) : jMi l yX12_off (jws yX12_off cX12_off 1 (some (.int))) { frames := 2, cells := 0, slots := 0, locals := 130 } d wM A [.ref (d.2.1 0)] σ (fX12_off σ) := by
  refine jStart_i (lv0 := [(0, .ref (d.2.1 0))]) (by decide) rfl (Nat.le_of_ble_eq_true rfl) rfl (fun z hC res => ?_)
  unfold fX12_off
  refine j_aload_n (pc' := 1) hC 0 dX12_off_0 rfl rfl rfl ?_
  refine j_get (pc' := 4) hC ly_X12 (M_at_0 d _) rfl 46 (by decide) fl_X12_97 rfl dX12_off_1 rfl ?_
  refine j_bipush (pc' := 6) (v := (6 : Int32)) hC dX12_off_4 (by decide) rfl ?_
  refine j_iald (pc' := 7) hC (M_at_27 d _) dX12_off_6 rfl ?_
  refine j_if_ge (pc' := 10) (tgt := 13) hC dX12_off_7 (by decide) rfl ?_ ?_
  · refine j_aload_n (pc' := 14) hC 0 dX12_off_13 rfl rfl rfl ?_
    refine j_get (pc' := 17) hC ly_X12 (M_at_0 d _) rfl 46 (by decide) fl_X12_97 rfl dX12_off_14 rfl ?_
    refine j_iconst (pc' := 18) (v := (3 : Int32)) hC dX12_off_17 (by decide) rfl ?_
    refine j_dup2 (pc' := 19) hC rfl rfl dX12_off_18 rfl ?_
    refine j_iald (pc' := 20) hC (M_at_27 d _) dX12_off_19 rfl ?_
    refine j_iconst (pc' := 21) (v := (1 : Int32)) hC dX12_off_20 (by decide) rfl ?_
    refine j_iadd (pc' := 22) hC dX12_off_21 rfl ?_
    refine j_iast (pc' := 23) hC (M_at_27 d _) (M_sa_27 d _ _) dX12_off_22 rfl ?_
    refine j_st (fun σ1 => ?_)
    refine j_aload_n (pc' := 24) hC 0 dX12_off_23 rfl rfl rfl ?_
    refine j_get (pc' := 27) hC ly_X12 (M_at_0 d _) rfl 46 (by decide) fl_X12_97 rfl dX12_off_24 rfl ?_
    refine j_bipush (pc' := 29) (v := (6 : Int32)) hC dX12_off_27 (by decide) rfl ?_
    refine j_iconst (pc' := 30) (v := (-1 : Int32)) hC dX12_off_29 (by decide) rfl ?_
    refine j_iast (pc' := 31) hC (M_at_27 d _) (M_sa_27 d _ _) dX12_off_30 rfl ?_
    refine j_st (fun σ2 => ?_)
    refine j_aload_n (pc' := 32) hC 0 dX12_off_31 rfl rfl rfl ?_
    refine j_get (pc' := 35) hC ly_X12 (M_at_0 d _) rfl 46 (by decide) fl_X12_97 rfl dX12_off_32 rfl ?_
    refine j_bipush (pc' := 37) (v := (8 : Int32)) hC dX12_off_35 (by decide) rfl ?_
    refine j_iald (pc' := 38) hC (M_at_27 d _) dX12_off_37 rfl ?_
    exact j_ret_i hC dX12_off_38
  · refine j_bipush (pc' := 12) (v := (-5 : Int32)) hC dX12_off_10 (by decide) rfl ?_
    exact j_ret_i hC dX12_off_12
theorem hyV_X12_led : yX12_led.cls = RX12 ∧ yX12_led.cls ≠ "java/lang/invoke/MethodHandle" ∧ yX12_led.cls ≠ "java/lang/invoke/VarHandle" ∧ (parseMethodDescriptor yX12_led.desc).map (fun d => d.parameters.length) = some 1 := ⟨rfl, by decide +kernel, by decide +kernel, by decide +kernel⟩
noncomputable def fX12_led (σ : jS) (p1 : Int32) : Option (Int32) :=
  (Option.bind (fX12_in σ p1 (0 : Int32) (7 : Int32)) fun (q1 : Int32) => (if (jb q1) = 0 then (some (-1 : Int32)) else (if (6 : Int32) ≤ p1 then (ob (6 : Int32) 10 (if 0 ≤ (σ.1 27 ((6 : Int32)).toNatClampNeg) then (if p1 = (6 : Int32) then (ob (8 : Int32) 10 (some (σ.1 27 ((8 : Int32)).toNatClampNeg))) else (ob (6 : Int32) 10 (ob (6 : Int32) 10 (Option.bind (fX12_bentOf σ (((σ.1 27 ((6 : Int32)).toNatClampNeg) / (10 : Int32)) - ((σ.1 27 ((6 : Int32)).toNatClampNeg) / (10 : Int32)) / (10 : Int32) * (10 : Int32)) ((σ.1 27 ((6 : Int32)).toNatClampNeg) - (σ.1 27 ((6 : Int32)).toNatClampNeg) / (10 : Int32) * (10 : Int32))) fun (q2 : Int32) => (ob (8 : Int32) 10 (Option.bind (fX12_countedBy σ q2 (σ.1 27 ((8 : Int32)).toNatClampNeg)) fun (q3 : Int32) => (some q3))))))) else (some (-5 : Int32)))) else (ob p1 10 (some (σ.1 27 (p1).toNatClampNeg))))))
set_option maxRecDepth 100000 in
set_option maxHeartbeats 4000000 in
theorem kX12_led (l : Launch) (d : jD) (A : Nat → Prop) (σ : jS) (p1 : Int32) : jMir l yX12_led (jws yX12_led cX12_led 2 (some (.int))) { frames := 3, cells := 0, slots := 0, locals := 152 } d wM A [.ref (d.2.1 0), .int p1] σ (fX12_led σ p1) := by
  refine jStart_ir (lv0 := [(0, .ref (d.2.1 0)), (1, .int p1)]) (by decide) rfl (Nat.le_of_ble_eq_true rfl) rfl (fun z hC res => ?_)
  unfold fX12_led
  refine j_iload_n (pc' := 1) hC 1 dX12_led_0 rfl rfl rfl ?_
  refine j_iconst (pc' := 2) (v := (0 : Int32)) hC dX12_led_1 (by decide) rfl ?_
  refine j_bipush (pc' := 4) (v := (7 : Int32)) hC dX12_led_2 (by decide) rfl ?_
  refine j_callS_zr (pc' := 7) (As := [.int p1, .int (0 : Int32), .int (7 : Int32)]) (st := []) hC (kX12_in l d A _ _ _ _) (jgS ml_X12_128 st_X12_in in_X12 cd_X12_in) rfl rfl rfl hyS_X12_in ⟨Nat.le_of_ble_eq_true rfl, Nat.le_of_ble_eq_true rfl⟩ rfl rfl (Nat.le_of_ble_eq_true rfl) dX12_led_4 rfl (fun q1 => ?_)
  refine j_if_ne (pc' := 10) (tgt := 12) hC dX12_led_7 (by decide) rfl ?_ ?_
  · refine j_iload_n (pc' := 13) hC 1 dX12_led_12 rfl rfl rfl ?_
    refine j_bipush (pc' := 15) (v := (6 : Int32)) hC dX12_led_13 (by decide) rfl ?_
    refine j_icmp_ge (pc' := 18) (tgt := 25) hC dX12_led_15 (by decide) rfl ?_ ?_
    · refine j_aload_n (pc' := 26) hC 0 dX12_led_25 rfl rfl rfl ?_
      refine j_get (pc' := 29) hC ly_X12 (M_at_0 d _) rfl 46 (by decide) fl_X12_97 rfl dX12_led_26 rfl ?_
      refine j_bipush (pc' := 31) (v := (6 : Int32)) hC dX12_led_29 (by decide) rfl ?_
      refine j_iald (pc' := 32) hC (M_at_27 d _) dX12_led_31 rfl ?_
      refine j_if_ge (pc' := 35) (tgt := 38) hC dX12_led_32 (by decide) rfl ?_ ?_
      · refine j_iload_n (pc' := 39) hC 1 dX12_led_38 rfl rfl rfl ?_
        refine j_bipush (pc' := 41) (v := (6 : Int32)) hC dX12_led_39 (by decide) rfl ?_
        refine j_icmp_ne (pc' := 44) (tgt := 54) hC dX12_led_41 (by decide) rfl ?_ ?_
        · refine j_aload_n (pc' := 55) hC 0 dX12_led_54 rfl rfl rfl ?_
          refine j_aload_n (pc' := 56) hC 0 dX12_led_55 rfl rfl rfl ?_
          refine j_get (pc' := 59) hC ly_X12 (M_at_0 d _) rfl 46 (by decide) fl_X12_97 rfl dX12_led_56 rfl ?_
          refine j_bipush (pc' := 61) (v := (6 : Int32)) hC dX12_led_59 (by decide) rfl ?_
          refine j_iald (pc' := 62) hC (M_at_27 d _) dX12_led_61 rfl ?_
          refine j_bipush (pc' := 64) (v := (10 : Int32)) hC dX12_led_62 (by decide) rfl ?_
          refine j_idiv0 (pc' := 65) hC dX12_led_64 (by decide) rfl ?_
          refine j_bipush (pc' := 67) (v := (10 : Int32)) hC dX12_led_65 (by decide) rfl ?_
          refine j_irem0 (pc' := 68) hC dX12_led_67 (by decide) rfl ?_
          refine j_aload_n (pc' := 69) hC 0 dX12_led_68 rfl rfl rfl ?_
          refine j_get (pc' := 72) hC ly_X12 (M_at_0 d _) rfl 46 (by decide) fl_X12_97 rfl dX12_led_69 rfl ?_
          refine j_bipush (pc' := 74) (v := (6 : Int32)) hC dX12_led_72 (by decide) rfl ?_
          refine j_iald (pc' := 75) hC (M_at_27 d _) dX12_led_74 rfl ?_
          refine j_bipush (pc' := 77) (v := (10 : Int32)) hC dX12_led_75 (by decide) rfl ?_
          refine j_irem0 (pc' := 78) hC dX12_led_77 (by decide) rfl ?_
          refine j_callV_ir (pc' := 81) (As := [.int (((σ.1 27 ((6 : Int32)).toNatClampNeg) / (10 : Int32)) - ((σ.1 27 ((6 : Int32)).toNatClampNeg) / (10 : Int32)) / (10 : Int32) * (10 : Int32)), .int ((σ.1 27 ((6 : Int32)).toNatClampNeg) - (σ.1 27 ((6 : Int32)).toNatClampNeg) / (10 : Int32) * (10 : Int32))]) (st := []) hC (M_at_0 d _) rfl (kX12_bentOf l d A _ _ _) (jgV ml_X12_269 im_X12_bentOf se_X12_bentOf in_X12 cd_X12_bentOf) rfl rfl rfl hyV_X12_bentOf ⟨Nat.le_of_ble_eq_true rfl, Nat.le_of_ble_eq_true rfl⟩ rfl rfl (Nat.le_of_ble_eq_true rfl) dX12_led_78 rfl (fun q2 => ?_)
          refine j_aload_n (pc' := 82) hC 0 dX12_led_81 rfl rfl rfl ?_
          refine j_get (pc' := 85) hC ly_X12 (M_at_0 d _) rfl 46 (by decide) fl_X12_97 rfl dX12_led_82 rfl ?_
          refine j_bipush (pc' := 87) (v := (8 : Int32)) hC dX12_led_85 (by decide) rfl ?_
          refine j_iald (pc' := 88) hC (M_at_27 d _) dX12_led_87 rfl ?_
          refine j_callS_ir (pc' := 91) (As := [.int q2, .int (σ.1 27 ((8 : Int32)).toNatClampNeg)]) (st := []) hC (kX12_countedBy l d A _ _ _) (jgS ml_X12_263 st_X12_countedBy in_X12 cd_X12_countedBy) rfl rfl rfl hyS_X12_countedBy ⟨Nat.le_of_ble_eq_true rfl, Nat.le_of_ble_eq_true rfl⟩ rfl rfl (Nat.le_of_ble_eq_true rfl) dX12_led_88 rfl (fun q3 => ?_)
          exact j_ret_ir hC dX12_led_91
        · refine j_aload_n (pc' := 45) hC 0 dX12_led_44 rfl rfl rfl ?_
          refine j_get (pc' := 48) hC ly_X12 (M_at_0 d _) rfl 46 (by decide) fl_X12_97 rfl dX12_led_45 rfl ?_
          refine j_bipush (pc' := 50) (v := (8 : Int32)) hC dX12_led_48 (by decide) rfl ?_
          refine j_iald (pc' := 51) hC (M_at_27 d _) dX12_led_50 rfl ?_
          refine j_goto (tgt := 91) hC dX12_led_51 (by decide) ?_
          exact j_ret_ir hC dX12_led_91
      · refine j_bipush (pc' := 37) (v := (-5 : Int32)) hC dX12_led_35 (by decide) rfl ?_
        exact j_ret_ir hC dX12_led_37
    · refine j_aload_n (pc' := 19) hC 0 dX12_led_18 rfl rfl rfl ?_
      refine j_get (pc' := 22) hC ly_X12 (M_at_0 d _) rfl 46 (by decide) fl_X12_97 rfl dX12_led_19 rfl ?_
      refine j_iload_n (pc' := 23) hC 1 dX12_led_22 rfl rfl rfl ?_
      refine j_iald (pc' := 24) hC (M_at_27 d _) dX12_led_23 rfl ?_
      exact j_ret_ir hC dX12_led_24
  · refine j_iconst (pc' := 11) (v := (-1 : Int32)) hC dX12_led_10 (by decide) rfl ?_
    exact j_ret_ir hC dX12_led_11
theorem hyV_X12_image : yX12_image.cls = RX12 ∧ yX12_image.cls ≠ "java/lang/invoke/MethodHandle" ∧ yX12_image.cls ≠ "java/lang/invoke/VarHandle" ∧ (parseMethodDescriptor yX12_image.desc).map (fun d => d.parameters.length) = some 0 := ⟨rfl, by decide +kernel, by decide +kernel, by decide +kernel⟩
noncomputable def fX12_image_B7 (j31 : (jS → Option (Int32 × jS))) (s7 : jS × Int32 → Option (Int32 × jS)) (a : jS × Int32) : Option (Int32 × jS) :=
  (if (10 : Int32) ≤ a.2 then (j31 a.1) else (ob a.2 10 (ob a.2 10 (jst (ju a.1 28 (a.2).toNatClampNeg (a.1.1 27 (a.2).toNatClampNeg)) fun (σ2 : jS) => (s7 (σ2, (a.2 + (1 : Int32))))))))
noncomputable def fX12_image (σ : jS) : Option (Int32 × jS) :=
  (jst (ju σ 0 48 (1 : Int32)) fun (σ1 : jS) => (jlet (fun (a31 : jS) => (ob (0 : Int32) 10 (some ((a31.1 27 ((0 : Int32)).toNatClampNeg), a31)))) fun (j31 : (jS → Option (Int32 × jS))) => (jloop (fX12_image_B7 j31) jN (σ1, (0 : Int32)))))
set_option maxRecDepth 100000 in
set_option maxHeartbeats 4000000 in
theorem kX12_image (l : Launch) (d : jD) (A : Nat → Prop) (σ : jS) : jMi l yX12_image (jws yX12_image cX12_image 2 (some (.int))) { frames := 2, cells := 0, slots := 0, locals := 130 } d wM A [.ref (d.2.1 0)] σ (fX12_image σ) := by
  refine jStart_i (lv0 := [(0, .ref (d.2.1 0))]) (by decide) rfl (Nat.le_of_ble_eq_true rfl) rfl (fun z hC res => ?_)
  unfold fX12_image
  refine j_aload_n (pc' := 1) hC 0 dX12_image_0 rfl rfl rfl ?_
  refine j_iconst (pc' := 2) (v := (1 : Int32)) hC dX12_image_1 (by decide) rfl ?_
  refine j_topeq (show (1 : Int32) = jb (1 : Int32) by decide) ?_
  refine j_put (pc' := 5) hC ly_X12 tyX12 tyX12_ok nmX12 (M_at_0 d _) rfl 48 (by decide) fl_X12_343 rfl rfl (jb_nar _) (jb_fit _) (Nat.le_of_ble_eq_true rfl) (M_sf_0_48 d _ _) dX12_image_2 rfl ?_
  refine j_st (fun σ1 => ?_)
  refine j_iconst (pc' := 6) (v := (0 : Int32)) hC dX12_image_5 (by decide) rfl ?_
  refine j_istore_n (pc' := 7) (lv' := [(1, .int (0 : Int32)), (0, .ref (d.2.1 0))]) hC dX12_image_6 rfl (by decide) rfl rfl ?_
  refine j_let 31 (fun a31 => a31) (fun a31 => [(0, .ref (d.2.1 0))]) (fun a31 => []) (fun a31 => ?_) (fun j31 hj31 => ?_)
  · refine j_aload_n (pc' := 32) hC 0 dX12_image_31 rfl rfl rfl ?_
    refine j_get (pc' := 35) hC ly_X12 (M_at_0 d _) rfl 46 (by decide) fl_X12_97 rfl dX12_image_32 rfl ?_
    refine j_iconst (pc' := 36) (v := (0 : Int32)) hC dX12_image_35 (by decide) rfl ?_
    refine j_iald (pc' := 37) hC (M_at_27 d _) dX12_image_36 rfl ?_
    exact j_ret_i hC dX12_image_37
  · refine j_lv (lv' := [(0, .ref (d.2.1 0)), (1, .int (0 : Int32))]) [1, 0] rfl ?_
    refine j_loop 7 (fun a => a.1) (fun a => [(0, .ref (d.2.1 0)), (1, .int a.2)]) (fun s7 hs7 a => ?_) jN (σ1, (0 : Int32))
    unfold fX12_image_B7
    refine j_iload_n (pc' := 8) hC 1 dX12_image_7 rfl rfl rfl ?_
    refine j_bipush (pc' := 10) (v := (10 : Int32)) hC dX12_image_8 (by decide) rfl ?_
    refine j_icmp_ge (pc' := 13) (tgt := 31) hC dX12_image_10 (by decide) rfl ?_ ?_
    · exact j_lv (lv' := [(0, .ref (d.2.1 0))]) [0] rfl (hj31 a.1)
    · refine j_aload_n (pc' := 14) hC 0 dX12_image_13 rfl rfl rfl ?_
      refine j_get (pc' := 17) hC ly_X12 (M_at_0 d _) rfl 47 (by decide) fl_X12_100 rfl dX12_image_14 rfl ?_
      refine j_iload_n (pc' := 18) hC 1 dX12_image_17 rfl rfl rfl ?_
      refine j_aload_n (pc' := 19) hC 0 dX12_image_18 rfl rfl rfl ?_
      refine j_get (pc' := 22) hC ly_X12 (M_at_0 d _) rfl 46 (by decide) fl_X12_97 rfl dX12_image_19 rfl ?_
      refine j_iload_n (pc' := 23) hC 1 dX12_image_22 rfl rfl rfl ?_
      refine j_iald (pc' := 24) hC (M_at_27 d _) dX12_image_23 rfl ?_
      refine j_iast (pc' := 25) hC (M_at_28 d _) (M_sa_28 d _ _) dX12_image_24 rfl ?_
      refine j_st (fun σ2 => ?_)
      refine j_iinc (pc' := 28) (v := (a.2 + (1 : Int32))) (lv' := [(1, .int (a.2 + (1 : Int32))), (0, .ref (d.2.1 0))]) hC 1 dX12_image_25 rfl (by decide) rfl rfl rfl ?_
      refine j_goto (tgt := 7) hC dX12_image_28 (by decide) ?_
      exact j_lv (lv' := [(0, .ref (d.2.1 0)), (1, .int (a.2 + (1 : Int32)))]) [1, 0] rfl (hs7 (σ2, (a.2 + (1 : Int32))))
theorem hyV_X12_back : yX12_back.cls = RX12 ∧ yX12_back.cls ≠ "java/lang/invoke/MethodHandle" ∧ yX12_back.cls ≠ "java/lang/invoke/VarHandle" ∧ (parseMethodDescriptor yX12_back.desc).map (fun d => d.parameters.length) = some 0 := ⟨rfl, by decide +kernel, by decide +kernel, by decide +kernel⟩
noncomputable def fX12_back_B12 (j36 : (jS → Option (Int32 × jS))) (s12 : jS × Int32 → Option (Int32 × jS)) (a : jS × Int32) : Option (Int32 × jS) :=
  (if (10 : Int32) ≤ a.2 then (j36 a.1) else (ob a.2 10 (ob a.2 10 (jst (ju a.1 27 (a.2).toNatClampNeg (a.1.1 28 (a.2).toNatClampNeg)) fun (σ1 : jS) => (s12 (σ1, (a.2 + (1 : Int32))))))))
noncomputable def fX12_back (σ : jS) : Option (Int32 × jS) :=
  (if (jb (σ.1 0 48)) = 0 then (some ((-5 : Int32), σ)) else (jlet (fun (a36 : jS) => (ob (0 : Int32) 10 (some ((a36.1 27 ((0 : Int32)).toNatClampNeg), a36)))) fun (j36 : (jS → Option (Int32 × jS))) => (jloop (fX12_back_B12 j36) jN (σ, (0 : Int32)))))
set_option maxRecDepth 100000 in
set_option maxHeartbeats 4000000 in
theorem kX12_back (l : Launch) (d : jD) (A : Nat → Prop) (σ : jS) : jMi l yX12_back (jws yX12_back cX12_back 2 (some (.int))) { frames := 2, cells := 0, slots := 0, locals := 130 } d wM A [.ref (d.2.1 0)] σ (fX12_back σ) := by
  refine jStart_i (lv0 := [(0, .ref (d.2.1 0))]) (by decide) rfl (Nat.le_of_ble_eq_true rfl) rfl (fun z hC res => ?_)
  unfold fX12_back
  refine j_aload_n (pc' := 1) hC 0 dX12_back_0 rfl rfl rfl ?_
  refine j_get (pc' := 4) hC ly_X12 (M_at_0 d _) rfl 48 (by decide) fl_X12_343 rfl dX12_back_1 rfl ?_
  refine j_if_ne (pc' := 7) (tgt := 10) hC dX12_back_4 (by decide) rfl ?_ ?_
  · refine j_iconst (pc' := 11) (v := (0 : Int32)) hC dX12_back_10 (by decide) rfl ?_
    refine j_istore_n (pc' := 12) (lv' := [(1, .int (0 : Int32)), (0, .ref (d.2.1 0))]) hC dX12_back_11 rfl (by decide) rfl rfl ?_
    refine j_let 36 (fun a36 => a36) (fun a36 => [(0, .ref (d.2.1 0))]) (fun a36 => []) (fun a36 => ?_) (fun j36 hj36 => ?_)
    · refine j_aload_n (pc' := 37) hC 0 dX12_back_36 rfl rfl rfl ?_
      refine j_get (pc' := 40) hC ly_X12 (M_at_0 d _) rfl 46 (by decide) fl_X12_97 rfl dX12_back_37 rfl ?_
      refine j_iconst (pc' := 41) (v := (0 : Int32)) hC dX12_back_40 (by decide) rfl ?_
      refine j_iald (pc' := 42) hC (M_at_27 d _) dX12_back_41 rfl ?_
      exact j_ret_i hC dX12_back_42
    · refine j_lv (lv' := [(0, .ref (d.2.1 0)), (1, .int (0 : Int32))]) [1, 0] rfl ?_
      refine j_loop 12 (fun a => a.1) (fun a => [(0, .ref (d.2.1 0)), (1, .int a.2)]) (fun s12 hs12 a => ?_) jN (σ, (0 : Int32))
      unfold fX12_back_B12
      refine j_iload_n (pc' := 13) hC 1 dX12_back_12 rfl rfl rfl ?_
      refine j_bipush (pc' := 15) (v := (10 : Int32)) hC dX12_back_13 (by decide) rfl ?_
      refine j_icmp_ge (pc' := 18) (tgt := 36) hC dX12_back_15 (by decide) rfl ?_ ?_
      · exact j_lv (lv' := [(0, .ref (d.2.1 0))]) [0] rfl (hj36 a.1)
      · refine j_aload_n (pc' := 19) hC 0 dX12_back_18 rfl rfl rfl ?_
        refine j_get (pc' := 22) hC ly_X12 (M_at_0 d _) rfl 46 (by decide) fl_X12_97 rfl dX12_back_19 rfl ?_
        refine j_iload_n (pc' := 23) hC 1 dX12_back_22 rfl rfl rfl ?_
        refine j_aload_n (pc' := 24) hC 0 dX12_back_23 rfl rfl rfl ?_
        refine j_get (pc' := 27) hC ly_X12 (M_at_0 d _) rfl 47 (by decide) fl_X12_100 rfl dX12_back_24 rfl ?_
        refine j_iload_n (pc' := 28) hC 1 dX12_back_27 rfl rfl rfl ?_
        refine j_iald (pc' := 29) hC (M_at_28 d _) dX12_back_28 rfl ?_
        refine j_iast (pc' := 30) hC (M_at_27 d _) (M_sa_27 d _ _) dX12_back_29 rfl ?_
        refine j_st (fun σ1 => ?_)
        refine j_iinc (pc' := 33) (v := (a.2 + (1 : Int32))) (lv' := [(1, .int (a.2 + (1 : Int32))), (0, .ref (d.2.1 0))]) hC 1 dX12_back_30 rfl (by decide) rfl rfl rfl ?_
        refine j_goto (tgt := 12) hC dX12_back_33 (by decide) ?_
        exact j_lv (lv' := [(0, .ref (d.2.1 0)), (1, .int (a.2 + (1 : Int32)))]) [1, 0] rfl (hs12 (σ1, (a.2 + (1 : Int32))))
  · refine j_bipush (pc' := 9) (v := (-5 : Int32)) hC dX12_back_7 (by decide) rfl ?_
    exact j_ret_i hC dX12_back_9
theorem hyV_X12_isBody : yX12_isBody.cls = RX12 ∧ yX12_isBody.cls ≠ "java/lang/invoke/MethodHandle" ∧ yX12_isBody.cls ≠ "java/lang/invoke/VarHandle" ∧ (parseMethodDescriptor yX12_isBody.desc).map (fun d => d.parameters.length) = some 1 := ⟨rfl, by decide +kernel, by decide +kernel, by decide +kernel⟩
noncomputable def fX12_isBody (σ : jS) (p1 : Int32) : Option (Int32) :=
  (Option.bind (fX12_in σ p1 (0 : Int32) ((σ.1 0 49) - (1 : Int32))) fun (q1 : Int32) => (some q1))
set_option maxRecDepth 100000 in
set_option maxHeartbeats 4000000 in
theorem kX12_isBody (l : Launch) (d : jD) (A : Nat → Prop) (σ : jS) (p1 : Int32) : jMzr l yX12_isBody (jws yX12_isBody cX12_isBody 2 (some (.boolean))) { frames := 3, cells := 0, slots := 0, locals := 152 } d wM A [.ref (d.2.1 0), .int p1] σ (fX12_isBody σ p1) := by
  refine jStart_zr (lv0 := [(0, .ref (d.2.1 0)), (1, .int p1)]) (by decide) rfl (Nat.le_of_ble_eq_true rfl) rfl (fun z hC res => ?_)
  unfold fX12_isBody
  refine j_iload_n (pc' := 1) hC 1 dX12_isBody_0 rfl rfl rfl ?_
  refine j_iconst (pc' := 2) (v := (0 : Int32)) hC dX12_isBody_1 (by decide) rfl ?_
  refine j_aload_n (pc' := 3) hC 0 dX12_isBody_2 rfl rfl rfl ?_
  refine j_get (pc' := 6) hC ly_X12 (M_at_0 d _) rfl 49 (by decide) fl_X12_346 rfl dX12_isBody_3 rfl ?_
  refine j_iconst (pc' := 7) (v := (1 : Int32)) hC dX12_isBody_6 (by decide) rfl ?_
  refine j_isub (pc' := 8) hC dX12_isBody_7 rfl ?_
  refine j_callS_zr (pc' := 11) (As := [.int p1, .int (0 : Int32), .int ((σ.1 0 49) - (1 : Int32))]) (st := []) hC (kX12_in l d A _ _ _ _) (jgS ml_X12_128 st_X12_in in_X12 cd_X12_in) rfl rfl rfl hyS_X12_in ⟨Nat.le_of_ble_eq_true rfl, Nat.le_of_ble_eq_true rfl⟩ rfl rfl (Nat.le_of_ble_eq_true rfl) dX12_isBody_8 rfl (fun q1 => ?_)
  exact j_ret_zr hC rfl dX12_isBody_11
theorem hyV_X12_ran : yX12_ran.cls = RX12 ∧ yX12_ran.cls ≠ "java/lang/invoke/MethodHandle" ∧ yX12_ran.cls ≠ "java/lang/invoke/VarHandle" ∧ (parseMethodDescriptor yX12_ran.desc).map (fun d => d.parameters.length) = some 1 := ⟨rfl, by decide +kernel, by decide +kernel, by decide +kernel⟩
noncomputable def fX12_ran (σ : jS) (p1 : Int32) : Option (jS) :=
  (if (24 : Int32) ≤ (σ.1 0 51) then (jst (ju σ 0 51 ((σ.1 0 51) + (1 : Int32))) fun (σ1 : jS) => (some σ1)) else (ob (σ.1 0 51) 24 (jst (ju σ 30 ((σ.1 0 51)).toNatClampNeg p1) fun (σ2 : jS) => (jst (ju σ2 0 51 ((σ2.1 0 51) + (1 : Int32))) fun (σ3 : jS) => (some σ3)))))
set_option maxRecDepth 100000 in
set_option maxHeartbeats 4000000 in
theorem kX12_ran (l : Launch) (d : jD) (A : Nat → Prop) (σ : jS) (p1 : Int32) : jMv l yX12_ran (jws yX12_ran cX12_ran 2 none) { frames := 2, cells := 0, slots := 0, locals := 130 } d wM A [.ref (d.2.1 0), .int p1] σ (fX12_ran σ p1) := by
  refine jStart_v (lv0 := [(0, .ref (d.2.1 0)), (1, .int p1)]) (by decide) rfl (Nat.le_of_ble_eq_true rfl) rfl (fun z hC res => ?_)
  unfold fX12_ran
  refine j_aload_n (pc' := 1) hC 0 dX12_ran_0 rfl rfl rfl ?_
  refine j_get (pc' := 4) hC ly_X12 (M_at_0 d _) rfl 51 (by decide) fl_X12_349 rfl dX12_ran_1 rfl ?_
  refine j_bipush (pc' := 6) (v := (24 : Int32)) hC dX12_ran_4 (by decide) rfl ?_
  refine j_icmp_ge (pc' := 9) (tgt := 19) hC dX12_ran_6 (by decide) rfl ?_ ?_
  · refine j_aload_n (pc' := 20) hC 0 dX12_ran_19 rfl rfl rfl ?_
    refine j_dup (pc' := 21) hC rfl dX12_ran_20 rfl ?_
    refine j_get (pc' := 24) hC ly_X12 (M_at_0 d _) rfl 51 (by decide) fl_X12_349 rfl dX12_ran_21 rfl ?_
    refine j_iconst (pc' := 25) (v := (1 : Int32)) hC dX12_ran_24 (by decide) rfl ?_
    refine j_iadd (pc' := 26) hC dX12_ran_25 rfl ?_
    refine j_put (pc' := 29) hC ly_X12 tyX12 tyX12_ok nmX12 (M_at_0 d _) rfl 51 (by decide) fl_X12_349 rfl rfl rfl rfl (Nat.le_of_ble_eq_true rfl) (M_sf_0_51 d _ _) dX12_ran_26 rfl ?_
    refine j_st (fun σ1 => ?_)
    exact j_ret_v hC dX12_ran_29
  · refine j_aload_n (pc' := 10) hC 0 dX12_ran_9 rfl rfl rfl ?_
    refine j_get (pc' := 13) hC ly_X12 (M_at_0 d _) rfl 52 (by decide) fl_X12_106 rfl dX12_ran_10 rfl ?_
    refine j_aload_n (pc' := 14) hC 0 dX12_ran_13 rfl rfl rfl ?_
    refine j_get (pc' := 17) hC ly_X12 (M_at_0 d _) rfl 51 (by decide) fl_X12_349 rfl dX12_ran_14 rfl ?_
    refine j_iload_n (pc' := 18) hC 1 dX12_ran_17 rfl rfl rfl ?_
    refine j_iast (pc' := 19) hC (M_at_30 d _) (M_sa_30 d _ _) dX12_ran_18 rfl ?_
    refine j_st (fun σ2 => ?_)
    refine j_aload_n (pc' := 20) hC 0 dX12_ran_19 rfl rfl rfl ?_
    refine j_dup (pc' := 21) hC rfl dX12_ran_20 rfl ?_
    refine j_get (pc' := 24) hC ly_X12 (M_at_0 d _) rfl 51 (by decide) fl_X12_349 rfl dX12_ran_21 rfl ?_
    refine j_iconst (pc' := 25) (v := (1 : Int32)) hC dX12_ran_24 (by decide) rfl ?_
    refine j_iadd (pc' := 26) hC dX12_ran_25 rfl ?_
    refine j_put (pc' := 29) hC ly_X12 tyX12 tyX12_ok nmX12 (M_at_0 d _) rfl 51 (by decide) fl_X12_349 rfl rfl rfl rfl (Nat.le_of_ble_eq_true rfl) (M_sf_0_51 d _ _) dX12_ran_26 rfl ?_
    refine j_st (fun σ3 => ?_)
    exact j_ret_v hC dX12_ran_29
theorem hyV_X12_trace : yX12_trace.cls = RX12 ∧ yX12_trace.cls ≠ "java/lang/invoke/MethodHandle" ∧ yX12_trace.cls ≠ "java/lang/invoke/VarHandle" ∧ (parseMethodDescriptor yX12_trace.desc).map (fun d => d.parameters.length) = some 1 := ⟨rfl, by decide +kernel, by decide +kernel, by decide +kernel⟩
noncomputable def fX12_trace (σ : jS) (p1 : Int32) : Option (Int32) :=
  (if p1 < 0 then (some (-1 : Int32)) else (if (σ.1 0 51) ≤ p1 then (some (-1 : Int32)) else (if (24 : Int32) ≤ p1 then (some (-1 : Int32)) else (ob p1 24 (some (σ.1 30 (p1).toNatClampNeg))))))
set_option maxRecDepth 100000 in
set_option maxHeartbeats 4000000 in
theorem kX12_trace (l : Launch) (d : jD) (A : Nat → Prop) (σ : jS) (p1 : Int32) : jMir l yX12_trace (jws yX12_trace cX12_trace 2 (some (.int))) { frames := 2, cells := 0, slots := 0, locals := 130 } d wM A [.ref (d.2.1 0), .int p1] σ (fX12_trace σ p1) := by
  refine jStart_ir (lv0 := [(0, .ref (d.2.1 0)), (1, .int p1)]) (by decide) rfl (Nat.le_of_ble_eq_true rfl) rfl (fun z hC res => ?_)
  unfold fX12_trace
  refine j_iload_n (pc' := 1) hC 1 dX12_trace_0 rfl rfl rfl ?_
  refine j_if_lt (pc' := 4) (tgt := 27) hC dX12_trace_1 (by decide) rfl ?_ ?_
  · refine j_iconst (pc' := 28) (v := (-1 : Int32)) hC dX12_trace_27 (by decide) rfl ?_
    exact j_ret_ir hC dX12_trace_28
  · refine j_iload_n (pc' := 5) hC 1 dX12_trace_4 rfl rfl rfl ?_
    refine j_aload_n (pc' := 6) hC 0 dX12_trace_5 rfl rfl rfl ?_
    refine j_get (pc' := 9) hC ly_X12 (M_at_0 d _) rfl 51 (by decide) fl_X12_349 rfl dX12_trace_6 rfl ?_
    refine j_icmp_ge (pc' := 12) (tgt := 27) hC dX12_trace_9 (by decide) rfl ?_ ?_
    · refine j_iconst (pc' := 28) (v := (-1 : Int32)) hC dX12_trace_27 (by decide) rfl ?_
      exact j_ret_ir hC dX12_trace_28
    · refine j_iload_n (pc' := 13) hC 1 dX12_trace_12 rfl rfl rfl ?_
      refine j_bipush (pc' := 15) (v := (24 : Int32)) hC dX12_trace_13 (by decide) rfl ?_
      refine j_icmp_ge (pc' := 18) (tgt := 27) hC dX12_trace_15 (by decide) rfl ?_ ?_
      · refine j_iconst (pc' := 28) (v := (-1 : Int32)) hC dX12_trace_27 (by decide) rfl ?_
        exact j_ret_ir hC dX12_trace_28
      · refine j_aload_n (pc' := 19) hC 0 dX12_trace_18 rfl rfl rfl ?_
        refine j_get (pc' := 22) hC ly_X12 (M_at_0 d _) rfl 52 (by decide) fl_X12_106 rfl dX12_trace_19 rfl ?_
        refine j_iload_n (pc' := 23) hC 1 dX12_trace_22 rfl rfl rfl ?_
        refine j_iald (pc' := 24) hC (M_at_30 d _) dX12_trace_23 rfl ?_
        refine j_goto (tgt := 28) hC dX12_trace_24 (by decide) ?_
        exact j_ret_ir hC dX12_trace_28
theorem hyV_X12_body : yX12_body.cls = RX12 ∧ yX12_body.cls ≠ "java/lang/invoke/MethodHandle" ∧ yX12_body.cls ≠ "java/lang/invoke/VarHandle" ∧ (parseMethodDescriptor yX12_body.desc).map (fun d => d.parameters.length) = some 1 := ⟨rfl, by decide +kernel, by decide +kernel, by decide +kernel⟩
noncomputable def fX12_body (σ : jS) (p1 : Int32) : Option (Int32 × jS) :=
  (Option.bind (fX12_in σ p1 (0 : Int32) (7 : Int32)) fun (q1 : Int32) => (if (jb q1) = 0 then (some ((-1 : Int32), σ)) else (if (σ.1 0 49) = (50 : Int32) then (some ((-3 : Int32), σ)) else (ob (σ.1 0 49) 50 (jst (ju σ 29 ((σ.1 0 49)).toNatClampNeg p1) fun (σ2 : jS) => (jst (ju σ2 0 49 ((σ2.1 0 49) + (1 : Int32))) fun (σ3 : jS) => (some (((σ3.1 0 49) - (1 : Int32)), σ3))))))))
set_option maxRecDepth 100000 in
set_option maxHeartbeats 4000000 in
theorem kX12_body (l : Launch) (d : jD) (A : Nat → Prop) (σ : jS) (p1 : Int32) : jMi l yX12_body (jws yX12_body cX12_body 2 (some (.int))) { frames := 3, cells := 0, slots := 0, locals := 152 } d wM A [.ref (d.2.1 0), .int p1] σ (fX12_body σ p1) := by
  refine jStart_i (lv0 := [(0, .ref (d.2.1 0)), (1, .int p1)]) (by decide) rfl (Nat.le_of_ble_eq_true rfl) rfl (fun z hC res => ?_)
  unfold fX12_body
  refine j_iload_n (pc' := 1) hC 1 dX12_body_0 rfl rfl rfl ?_
  refine j_iconst (pc' := 2) (v := (0 : Int32)) hC dX12_body_1 (by decide) rfl ?_
  refine j_bipush (pc' := 4) (v := (7 : Int32)) hC dX12_body_2 (by decide) rfl ?_
  refine j_callS_zr (pc' := 7) (As := [.int p1, .int (0 : Int32), .int (7 : Int32)]) (st := []) hC (kX12_in l d A _ _ _ _) (jgS ml_X12_128 st_X12_in in_X12 cd_X12_in) rfl rfl rfl hyS_X12_in ⟨Nat.le_of_ble_eq_true rfl, Nat.le_of_ble_eq_true rfl⟩ rfl rfl (Nat.le_of_ble_eq_true rfl) dX12_body_4 rfl (fun q1 => ?_)
  refine j_if_ne (pc' := 10) (tgt := 12) hC dX12_body_7 (by decide) rfl ?_ ?_
  · refine j_aload_n (pc' := 13) hC 0 dX12_body_12 rfl rfl rfl ?_
    refine j_get (pc' := 16) hC ly_X12 (M_at_0 d _) rfl 49 (by decide) fl_X12_346 rfl dX12_body_13 rfl ?_
    refine j_bipush (pc' := 18) (v := (50 : Int32)) hC dX12_body_16 (by decide) rfl ?_
    refine j_icmp_ne (pc' := 21) (tgt := 24) hC dX12_body_18 (by decide) rfl ?_ ?_
    · refine j_aload_n (pc' := 25) hC 0 dX12_body_24 rfl rfl rfl ?_
      refine j_get (pc' := 28) hC ly_X12 (M_at_0 d _) rfl 50 (by decide) fl_X12_103 rfl dX12_body_25 rfl ?_
      refine j_aload_n (pc' := 29) hC 0 dX12_body_28 rfl rfl rfl ?_
      refine j_get (pc' := 32) hC ly_X12 (M_at_0 d _) rfl 49 (by decide) fl_X12_346 rfl dX12_body_29 rfl ?_
      refine j_iload_n (pc' := 33) hC 1 dX12_body_32 rfl rfl rfl ?_
      refine j_iast (pc' := 34) hC (M_at_29 d _) (M_sa_29 d _ _) dX12_body_33 rfl ?_
      refine j_st (fun σ2 => ?_)
      refine j_aload_n (pc' := 35) hC 0 dX12_body_34 rfl rfl rfl ?_
      refine j_dup (pc' := 36) hC rfl dX12_body_35 rfl ?_
      refine j_get (pc' := 39) hC ly_X12 (M_at_0 d _) rfl 49 (by decide) fl_X12_346 rfl dX12_body_36 rfl ?_
      refine j_iconst (pc' := 40) (v := (1 : Int32)) hC dX12_body_39 (by decide) rfl ?_
      refine j_iadd (pc' := 41) hC dX12_body_40 rfl ?_
      refine j_put (pc' := 44) hC ly_X12 tyX12 tyX12_ok nmX12 (M_at_0 d _) rfl 49 (by decide) fl_X12_346 rfl rfl rfl rfl (Nat.le_of_ble_eq_true rfl) (M_sf_0_49 d _ _) dX12_body_41 rfl ?_
      refine j_st (fun σ3 => ?_)
      refine j_aload_n (pc' := 45) hC 0 dX12_body_44 rfl rfl rfl ?_
      refine j_get (pc' := 48) hC ly_X12 (M_at_0 d _) rfl 49 (by decide) fl_X12_346 rfl dX12_body_45 rfl ?_
      refine j_iconst (pc' := 49) (v := (1 : Int32)) hC dX12_body_48 (by decide) rfl ?_
      refine j_isub (pc' := 50) hC dX12_body_49 rfl ?_
      exact j_ret_i hC dX12_body_50
    · refine j_bipush (pc' := 23) (v := (-3 : Int32)) hC dX12_body_21 (by decide) rfl ?_
      exact j_ret_i hC dX12_body_23
  · refine j_iconst (pc' := 11) (v := (-1 : Int32)) hC dX12_body_10 (by decide) rfl ?_
    exact j_ret_i hC dX12_body_11
theorem hyS_X12_isUnder : yX12_isUnder.cls ≠ "java/lang/invoke/MethodHandle" ∧ yX12_isUnder.cls ≠ "java/lang/invoke/VarHandle" ∧ (parseMethodDescriptor yX12_isUnder.desc).map (fun d => d.parameters.length) = some 2 := ⟨by decide +kernel, by decide +kernel, by decide +kernel⟩
noncomputable def fX12_isUnder (σ : jS) (p1 : Int32) (p2 : Int32) : Option (Int32) :=
  (if p2 = 0 then (some (1 : Int32)) else (if p1 = p2 then (some (1 : Int32)) else (jlet (fun (a19 : Unit) => (jlet (fun (a34 : Unit) => (jlet (fun (a44 : Unit) => (if p2 = (6 : Int32) then (if p1 = (7 : Int32) then (some (1 : Int32)) else (some (0 : Int32))) else (some (0 : Int32)))) fun (j44 : (Unit → Option (Int32))) => (if p2 = (3 : Int32) then (if p1 = (5 : Int32) then (some (1 : Int32)) else (j44 ())) else (j44 ())))) fun (j34 : (Unit → Option (Int32))) => (if p2 = (2 : Int32) then (if p1 = (3 : Int32) then (some (1 : Int32)) else (if p1 = (5 : Int32) then (some (1 : Int32)) else (j34 ()))) else (j34 ())))) fun (j19 : (Unit → Option (Int32))) => (if p2 = (1 : Int32) then (if p1 = (4 : Int32) then (some (1 : Int32)) else (j19 ())) else (j19 ())))))
set_option maxRecDepth 100000 in
set_option maxHeartbeats 4000000 in
theorem kX12_isUnder (l : Launch) (d : jD) (A : Nat → Prop) (σ : jS) (p1 : Int32) (p2 : Int32) : jMzr l yX12_isUnder (jws yX12_isUnder cX12_isUnder 2 (some (.boolean))) { frames := 2, cells := 0, slots := 0, locals := 130 } d wM A [.int p1, .int p2] σ (fX12_isUnder σ p1 p2) := by
  refine jStart_zr (lv0 := [(0, .int p1), (1, .int p2)]) (by decide) rfl (Nat.le_of_ble_eq_true rfl) rfl (fun z hC res => ?_)
  unfold fX12_isUnder
  refine j_iload_n (pc' := 1) hC 1 dX12_isUnder_0 rfl rfl rfl ?_
  refine j_if_eq (pc' := 4) (tgt := 56) hC dX12_isUnder_1 (by decide) rfl ?_ ?_
  · refine j_iconst (pc' := 57) (v := (1 : Int32)) hC dX12_isUnder_56 (by decide) rfl ?_
    refine j_goto (tgt := 61) hC dX12_isUnder_57 (by decide) ?_
    exact j_ret_zr hC (by decide) dX12_isUnder_61
  · refine j_iload_n (pc' := 5) hC 0 dX12_isUnder_4 rfl rfl rfl ?_
    refine j_iload_n (pc' := 6) hC 1 dX12_isUnder_5 rfl rfl rfl ?_
    refine j_icmp_eq (pc' := 9) (tgt := 56) hC dX12_isUnder_6 (by decide) rfl ?_ ?_
    · refine j_iconst (pc' := 57) (v := (1 : Int32)) hC dX12_isUnder_56 (by decide) rfl ?_
      refine j_goto (tgt := 61) hC dX12_isUnder_57 (by decide) ?_
      exact j_ret_zr hC (by decide) dX12_isUnder_61
    · refine j_iload_n (pc' := 10) hC 1 dX12_isUnder_9 rfl rfl rfl ?_
      refine j_iconst (pc' := 11) (v := (1 : Int32)) hC dX12_isUnder_10 (by decide) rfl ?_
      refine j_let 19 (fun a19 => σ) (fun a19 => [(0, .int p1), (1, .int p2)]) (fun a19 => []) (fun a19 => ?_) (fun j19 hj19 => ?_)
      · refine j_iload_n (pc' := 20) hC 1 dX12_isUnder_19 rfl rfl rfl ?_
        refine j_iconst (pc' := 21) (v := (2 : Int32)) hC dX12_isUnder_20 (by decide) rfl ?_
        refine j_let 34 (fun a34 => σ) (fun a34 => [(0, .int p1), (1, .int p2)]) (fun a34 => []) (fun a34 => ?_) (fun j34 hj34 => ?_)
        · refine j_iload_n (pc' := 35) hC 1 dX12_isUnder_34 rfl rfl rfl ?_
          refine j_iconst (pc' := 36) (v := (3 : Int32)) hC dX12_isUnder_35 (by decide) rfl ?_
          refine j_let 44 (fun a44 => σ) (fun a44 => [(0, .int p1), (1, .int p2)]) (fun a44 => []) (fun a44 => ?_) (fun j44 hj44 => ?_)
          · refine j_iload_n (pc' := 45) hC 1 dX12_isUnder_44 rfl rfl rfl ?_
            refine j_bipush (pc' := 47) (v := (6 : Int32)) hC dX12_isUnder_45 (by decide) rfl ?_
            refine j_icmp_ne (pc' := 50) (tgt := 60) hC dX12_isUnder_47 (by decide) rfl ?_ ?_
            · refine j_iconst (pc' := 61) (v := (0 : Int32)) hC dX12_isUnder_60 (by decide) rfl ?_
              exact j_ret_zr hC (by decide) dX12_isUnder_61
            · refine j_iload_n (pc' := 51) hC 0 dX12_isUnder_50 rfl rfl rfl ?_
              refine j_bipush (pc' := 53) (v := (7 : Int32)) hC dX12_isUnder_51 (by decide) rfl ?_
              refine j_icmp_ne (pc' := 56) (tgt := 60) hC dX12_isUnder_53 (by decide) rfl ?_ ?_
              · refine j_iconst (pc' := 61) (v := (0 : Int32)) hC dX12_isUnder_60 (by decide) rfl ?_
                exact j_ret_zr hC (by decide) dX12_isUnder_61
              · refine j_iconst (pc' := 57) (v := (1 : Int32)) hC dX12_isUnder_56 (by decide) rfl ?_
                refine j_goto (tgt := 61) hC dX12_isUnder_57 (by decide) ?_
                exact j_ret_zr hC (by decide) dX12_isUnder_61
          · refine j_icmp_ne (pc' := 39) (tgt := 44) hC dX12_isUnder_36 (by decide) rfl ?_ ?_
            · exact j_lv (lv' := [(0, .int p1), (1, .int p2)]) [0, 1] rfl (hj44 ())
            · refine j_iload_n (pc' := 40) hC 0 dX12_isUnder_39 rfl rfl rfl ?_
              refine j_iconst (pc' := 41) (v := (5 : Int32)) hC dX12_isUnder_40 (by decide) rfl ?_
              refine j_icmp_eq (pc' := 44) (tgt := 56) hC dX12_isUnder_41 (by decide) rfl ?_ ?_
              · refine j_iconst (pc' := 57) (v := (1 : Int32)) hC dX12_isUnder_56 (by decide) rfl ?_
                refine j_goto (tgt := 61) hC dX12_isUnder_57 (by decide) ?_
                exact j_ret_zr hC (by decide) dX12_isUnder_61
              · exact j_lv (lv' := [(0, .int p1), (1, .int p2)]) [0, 1] rfl (hj44 ())
        · refine j_icmp_ne (pc' := 24) (tgt := 34) hC dX12_isUnder_21 (by decide) rfl ?_ ?_
          · exact j_lv (lv' := [(0, .int p1), (1, .int p2)]) [0, 1] rfl (hj34 ())
          · refine j_iload_n (pc' := 25) hC 0 dX12_isUnder_24 rfl rfl rfl ?_
            refine j_iconst (pc' := 26) (v := (3 : Int32)) hC dX12_isUnder_25 (by decide) rfl ?_
            refine j_icmp_eq (pc' := 29) (tgt := 56) hC dX12_isUnder_26 (by decide) rfl ?_ ?_
            · refine j_iconst (pc' := 57) (v := (1 : Int32)) hC dX12_isUnder_56 (by decide) rfl ?_
              refine j_goto (tgt := 61) hC dX12_isUnder_57 (by decide) ?_
              exact j_ret_zr hC (by decide) dX12_isUnder_61
            · refine j_iload_n (pc' := 30) hC 0 dX12_isUnder_29 rfl rfl rfl ?_
              refine j_iconst (pc' := 31) (v := (5 : Int32)) hC dX12_isUnder_30 (by decide) rfl ?_
              refine j_icmp_eq (pc' := 34) (tgt := 56) hC dX12_isUnder_31 (by decide) rfl ?_ ?_
              · refine j_iconst (pc' := 57) (v := (1 : Int32)) hC dX12_isUnder_56 (by decide) rfl ?_
                refine j_goto (tgt := 61) hC dX12_isUnder_57 (by decide) ?_
                exact j_ret_zr hC (by decide) dX12_isUnder_61
              · exact j_lv (lv' := [(0, .int p1), (1, .int p2)]) [0, 1] rfl (hj34 ())
      · refine j_icmp_ne (pc' := 14) (tgt := 19) hC dX12_isUnder_11 (by decide) rfl ?_ ?_
        · exact j_lv (lv' := [(0, .int p1), (1, .int p2)]) [0, 1] rfl (hj19 ())
        · refine j_iload_n (pc' := 15) hC 0 dX12_isUnder_14 rfl rfl rfl ?_
          refine j_iconst (pc' := 16) (v := (4 : Int32)) hC dX12_isUnder_15 (by decide) rfl ?_
          refine j_icmp_eq (pc' := 19) (tgt := 56) hC dX12_isUnder_16 (by decide) rfl ?_ ?_
          · refine j_iconst (pc' := 57) (v := (1 : Int32)) hC dX12_isUnder_56 (by decide) rfl ?_
            refine j_goto (tgt := 61) hC dX12_isUnder_57 (by decide) ?_
            exact j_ret_zr hC (by decide) dX12_isUnder_61
          · exact j_lv (lv' := [(0, .int p1), (1, .int p2)]) [0, 1] rfl (hj19 ())
theorem hyV_X12_plainSwings : yX12_plainSwings.cls = RX12 ∧ yX12_plainSwings.cls ≠ "java/lang/invoke/MethodHandle" ∧ yX12_plainSwings.cls ≠ "java/lang/invoke/VarHandle" ∧ (parseMethodDescriptor yX12_plainSwings.desc).map (fun d => d.parameters.length) = some 2 := ⟨rfl, by decide +kernel, by decide +kernel, by decide +kernel⟩
noncomputable def fX12_plainSwings (σ : jS) (p1 : Int32) (p2 : Int32) : Option (Int32 × jS) :=
  (Option.bind (fX12_ran σ (1 : Int32)) fun (q1 : jS) => (some ((p2 + p1), q1)))
set_option maxRecDepth 100000 in
set_option maxHeartbeats 4000000 in
theorem kX12_plainSwings (l : Launch) (d : jD) (A : Nat → Prop) (σ : jS) (p1 : Int32) (p2 : Int32) : jMi l yX12_plainSwings (jws yX12_plainSwings cX12_plainSwings 3 (some (.int))) { frames := 3, cells := 0, slots := 0, locals := 151 } d wM A [.ref (d.2.1 0), .int p1, .int p2] σ (fX12_plainSwings σ p1 p2) := by
  refine jStart_i (lv0 := [(0, .ref (d.2.1 0)), (1, .int p1), (2, .int p2)]) (by decide) rfl (Nat.le_of_ble_eq_true rfl) rfl (fun z hC res => ?_)
  unfold fX12_plainSwings
  refine j_aload_n (pc' := 1) hC 0 dX12_plainSwings_0 rfl rfl rfl ?_
  refine j_iconst (pc' := 2) (v := (1 : Int32)) hC dX12_plainSwings_1 (by decide) rfl ?_
  refine j_callV_v (pc' := 5) (As := [.int (1 : Int32)]) (st := []) hC (M_at_0 d _) rfl (kX12_ran l d A _ _) (jgV ml_X12_352 im_X12_ran se_X12_ran in_X12 cd_X12_ran) rfl rfl rfl hyV_X12_ran ⟨Nat.le_of_ble_eq_true rfl, Nat.le_of_ble_eq_true rfl⟩ rfl rfl (Nat.le_of_ble_eq_true rfl) dX12_plainSwings_2 rfl (fun q1 => ?_)
  refine j_iload_n (pc' := 6) hC 2 dX12_plainSwings_5 rfl rfl rfl ?_
  refine j_iload_n (pc' := 7) hC 1 dX12_plainSwings_6 rfl rfl rfl ?_
  refine j_iadd (pc' := 8) hC dX12_plainSwings_7 rfl ?_
  exact j_ret_i hC dX12_plainSwings_8
