theorem hyV_X11_timesOfAll : yX11_timesOfAll.cls = RX11 ∧ yX11_timesOfAll.cls ≠ "java/lang/invoke/MethodHandle" ∧ yX11_timesOfAll.cls ≠ "java/lang/invoke/VarHandle" ∧ (parseMethodDescriptor yX11_timesOfAll.desc).map (fun d => d.parameters.length) = some 0 := ⟨rfl, by decide +kernel, by decide +kernel, by decide +kernel⟩
noncomputable def fX11_timesOfAll_B4 (σ : jS) (s4 : Int32 × Int32 → Option (Int32)) (a : Int32 × Int32) : Option (Int32) :=
  (if (σ.1 1 1) ≤ a.2 then (some a.1) else (Option.bind (fX11_timesOnAll σ a.2) fun (q1 : Int32) => (s4 ((a.1 + q1), (a.2 + (1 : Int32))))))
noncomputable def fX11_timesOfAll (σ : jS) : Option (Int32) :=
  (jloop (fX11_timesOfAll_B4 σ) jN ((0 : Int32), (0 : Int32)))
set_option maxRecDepth 100000 in
set_option maxHeartbeats 4000000 in
theorem kX11_timesOfAll (l : Launch) (d : jD) (A : Nat → Prop) (σ : jS) : jMir l yX11_timesOfAll (jws yX11_timesOfAll cX11_timesOfAll 3 (some (.int))) { frames := 5, cells := 0, slots := 0, locals := 197 } d wX A [.ref (d.2.1 0)] σ (fX11_timesOfAll σ) := by
  refine jStart_ir (lv0 := [(0, .ref (d.2.1 0))]) (by decide) rfl (Nat.le_of_ble_eq_true rfl) rfl (fun z hC res => ?_)
  unfold fX11_timesOfAll
  refine j_iconst (pc' := 1) (v := (0 : Int32)) hC dX11_timesOfAll_0 (by decide) rfl ?_
  refine j_istore_n (pc' := 2) (lv' := [(1, .int (0 : Int32)), (0, .ref (d.2.1 0))]) hC dX11_timesOfAll_1 rfl (by decide) rfl rfl ?_
  refine j_iconst (pc' := 3) (v := (0 : Int32)) hC dX11_timesOfAll_2 (by decide) rfl ?_
  refine j_istore_n (pc' := 4) (lv' := [(2, .int (0 : Int32)), (1, .int (0 : Int32)), (0, .ref (d.2.1 0))]) hC dX11_timesOfAll_3 rfl (by decide) rfl rfl ?_
  refine j_lv (lv' := [(0, .ref (d.2.1 0)), (1, .int (0 : Int32)), (2, .int (0 : Int32))]) [2, 1, 0] rfl ?_
  refine j_loop 4 (fun a => σ) (fun a => [(0, .ref (d.2.1 0)), (1, .int a.1), (2, .int a.2)]) (fun s4 hs4 a => ?_) jN ((0 : Int32), (0 : Int32))
  unfold fX11_timesOfAll_B4
  refine j_iload_n (pc' := 5) hC 2 dX11_timesOfAll_4 rfl rfl rfl ?_
  refine j_aload_n (pc' := 6) hC 0 dX11_timesOfAll_5 rfl rfl rfl ?_
  refine j_get (pc' := 9) hC ly_X11 (X_at_0 d _) rfl 0 (by decide) fl_X11_10 rfl dX11_timesOfAll_6 rfl ?_
  refine j_get (pc' := 12) hC ly_X6 (X_at_1 d _) rfl 1 (by decide) fl_X11_200 rfl dX11_timesOfAll_9 rfl ?_
  refine j_icmp_ge (pc' := 15) (tgt := 29) hC dX11_timesOfAll_12 (by decide) rfl ?_ ?_
  · refine j_iload_n (pc' := 30) hC 1 dX11_timesOfAll_29 rfl rfl rfl ?_
    exact j_ret_ir hC dX11_timesOfAll_30
  · refine j_iload_n (pc' := 16) hC 1 dX11_timesOfAll_15 rfl rfl rfl ?_
    refine j_aload_n (pc' := 17) hC 0 dX11_timesOfAll_16 rfl rfl rfl ?_
    refine j_iload_n (pc' := 18) hC 2 dX11_timesOfAll_17 rfl rfl rfl ?_
    refine j_callV_ir (pc' := 21) (As := [.int a.2]) (st := [.int a.1]) hC (X_at_0 d _) rfl (kX11_timesOnAll l d A _ _) (jgV ml_X11_203 im_X11_timesOnAll se_X11_timesOnAll in_X11 cd_X11_timesOnAll) rfl rfl rfl hyV_X11_timesOnAll ⟨Nat.le_of_ble_eq_true rfl, Nat.le_of_ble_eq_true rfl⟩ rfl rfl (Nat.le_of_ble_eq_true rfl) dX11_timesOfAll_18 rfl (fun q1 => ?_)
    refine j_iadd (pc' := 22) hC dX11_timesOfAll_21 rfl ?_
    refine j_istore_n (pc' := 23) (lv' := [(1, .int (a.1 + q1)), (0, .ref (d.2.1 0)), (2, .int a.2)]) hC dX11_timesOfAll_22 rfl (by decide) rfl rfl ?_
    refine j_iinc (pc' := 26) (v := (a.2 + (1 : Int32))) (lv' := [(2, .int (a.2 + (1 : Int32))), (1, .int (a.1 + q1)), (0, .ref (d.2.1 0))]) hC 2 dX11_timesOfAll_23 rfl (by decide) rfl rfl rfl ?_
    refine j_goto (tgt := 4) hC dX11_timesOfAll_26 (by decide) ?_
    exact j_lv (lv' := [(0, .ref (d.2.1 0)), (1, .int (a.1 + q1)), (2, .int (a.2 + (1 : Int32)))]) [2, 1, 0] rfl (hs4 ((a.1 + q1), (a.2 + (1 : Int32))))
theorem hyV_X11_drawn : yX11_drawn.cls = RX11 ∧ yX11_drawn.cls ≠ "java/lang/invoke/MethodHandle" ∧ yX11_drawn.cls ≠ "java/lang/invoke/VarHandle" ∧ (parseMethodDescriptor yX11_drawn.desc).map (fun d => d.parameters.length) = some 4 := ⟨rfl, by decide +kernel, by decide +kernel, by decide +kernel⟩
noncomputable def fX11_drawn_B103 (p3 : Int32) (j130 : (jS → Option (Int32 × jS))) (s103 : jS × Int32 → Option (Int32 × jS)) (a_ : jS × Int32) : Option (Int32 × jS) :=
  (if (3 : Int32) ≤ a_.2 then (j130 a_.1) else (jaa a_.2 fun (o6 : Nat) => (Option.bind (fX5_spendD o6 a_.1 p3) fun (q7 : jS) => (s103 (q7, (a_.2 + (1 : Int32)))))))
noncomputable def fX11_drawn_B94 (p2 : Int32) (p3 : Int32) (j136 : (jS → Option (Int32 × jS))) (s94 : jS × Int32 → Option (Int32 × jS)) (a : jS × Int32) : Option (Int32 × jS) :=
  (if p2 ≤ a.2 then (j136 a.1) else (jlet (fun (a130 : jS) => (s94 (a130, (a.2 + (1 : Int32))))) fun (j130 : (jS → Option (Int32 × jS))) => (jloop (fX11_drawn_B103 p3 j130) jN (a.1, (0 : Int32)))))
noncomputable def fX11_drawn_B59 (j91 : (jS → Option (Int32 × jS))) (s59 : jS × Int32 → Option (Int32 × jS)) (a : jS × Int32) : Option (Int32 × jS) :=
  (if (3 : Int32) ≤ a.2 then (j91 a.1) else (jaa a.2 fun (o8 : Nat) => (Option.bind (fX5_form o8 a.1) fun (q9 : jS) => (jaa a.2 fun (o10 : Nat) => (Option.bind (fX5_foresee o10 q9) fun (q11 : jS) => (s59 (q11, (a.2 + (1 : Int32)))))))))
noncomputable def fX11_drawn (σ : jS) (p1 : Int32) (p2 : Int32) (p3 : Int32) (p4 : Int32) : Option (Int32 × jS) :=
  (if p2 < (1 : Int32) then (some ((-1 : Int32), σ)) else (if (10 : Int32) < p2 then (some ((-1 : Int32), σ)) else (Option.bind (fX11_isBell σ p3) fun (q1 : Int32) => (if (jb q1) = 0 then (some ((-1 : Int32), σ)) else (if p4 < (-1 : Int32) then (some ((-1 : Int32), σ)) else (if p4 < (σ.1 1 1) then (Option.bind (fX6_valueOf σ (0 : Int32) (10 : Int32)) fun (q2 : Int32) => (Option.bind (fX3_begin σ p1 q2) fun (q3 : jS) => (jlet (fun (a91 : jS) => (jlet (fun (a136 : jS) => (if 0 ≤ p4 then (Option.bind (fX11_timesOnAll a136 p4) fun (q4 : Int32) => (some (q4, a136))) else (Option.bind (fX11_timesOfAll a136) fun (q5 : Int32) => (some (q5, a136))))) fun (j136 : (jS → Option (Int32 × jS))) => (jloop (fX11_drawn_B94 p2 p3 j136) jN (a91, (0 : Int32))))) fun (j91 : (jS → Option (Int32 × jS))) => (jloop (fX11_drawn_B59 j91) jN (q3, (0 : Int32)))))) else (some ((-1 : Int32), σ))))))))
set_option maxRecDepth 100000 in
set_option maxHeartbeats 4000000 in
theorem kX11_drawn (l : Launch) (d : jD) (A : Nat → Prop) (σ : jS) (p1 : Int32) (p2 : Int32) (p3 : Int32) (p4 : Int32) : jMi l yX11_drawn (jws yX11_drawn cX11_drawn 7 (some (.int))) { frames := 8, cells := 0, slots := 0, locals := 277 } d wX A [.ref (d.2.1 0), .int p1, .int p2, .int p3, .int p4] σ (fX11_drawn σ p1 p2 p3 p4) := by
  refine jStart_i (lv0 := [(0, .ref (d.2.1 0)), (1, .int p1), (2, .int p2), (3, .int p3), (4, .int p4)]) (by decide) rfl (Nat.le_of_ble_eq_true rfl) rfl (fun z hC res => ?_)
  unfold fX11_drawn
  refine j_iload_n (pc' := 1) hC 2 dX11_drawn_0 rfl rfl rfl ?_
  refine j_iconst (pc' := 2) (v := (1 : Int32)) hC dX11_drawn_1 (by decide) rfl ?_
  refine j_icmp_lt (pc' := 5) (tgt := 36) hC dX11_drawn_2 (by decide) rfl ?_ ?_
  · refine j_iconst (pc' := 37) (v := (-1 : Int32)) hC dX11_drawn_36 (by decide) rfl ?_
    exact j_ret_i hC dX11_drawn_37
  · refine j_iload_n (pc' := 6) hC 2 dX11_drawn_5 rfl rfl rfl ?_
    refine j_bipush (pc' := 8) (v := (10 : Int32)) hC dX11_drawn_6 (by decide) rfl ?_
    refine j_icmp_gt (pc' := 11) (tgt := 36) hC dX11_drawn_8 (by decide) rfl ?_ ?_
    · refine j_iconst (pc' := 37) (v := (-1 : Int32)) hC dX11_drawn_36 (by decide) rfl ?_
      exact j_ret_i hC dX11_drawn_37
    · refine j_iload_n (pc' := 12) hC 3 dX11_drawn_11 rfl rfl rfl ?_
      refine j_callS_zr (pc' := 15) (As := [.int p3]) (st := []) hC (kX11_isBell l d A _ _) (jgS ml_X11_169 st_X11_isBell in_X11 cd_X11_isBell) rfl rfl rfl hyS_X11_isBell ⟨Nat.le_of_ble_eq_true rfl, Nat.le_of_ble_eq_true rfl⟩ rfl rfl (Nat.le_of_ble_eq_true rfl) dX11_drawn_12 rfl (fun q1 => ?_)
      refine j_if_eq (pc' := 18) (tgt := 36) hC dX11_drawn_15 (by decide) rfl ?_ ?_
      · refine j_iconst (pc' := 37) (v := (-1 : Int32)) hC dX11_drawn_36 (by decide) rfl ?_
        exact j_ret_i hC dX11_drawn_37
      · refine j_iload (pc' := 20) hC 4 dX11_drawn_18 rfl rfl ?_
        refine j_iconst (pc' := 21) (v := (-1 : Int32)) hC dX11_drawn_20 (by decide) rfl ?_
        refine j_icmp_lt (pc' := 24) (tgt := 36) hC dX11_drawn_21 (by decide) rfl ?_ ?_
        · refine j_iconst (pc' := 37) (v := (-1 : Int32)) hC dX11_drawn_36 (by decide) rfl ?_
          exact j_ret_i hC dX11_drawn_37
        · refine j_iload (pc' := 26) hC 4 dX11_drawn_24 rfl rfl ?_
          refine j_aload_n (pc' := 27) hC 0 dX11_drawn_26 rfl rfl rfl ?_
          refine j_get (pc' := 30) hC ly_X11 (X_at_0 d _) rfl 0 (by decide) fl_X11_10 rfl dX11_drawn_27 rfl ?_
          refine j_get (pc' := 33) hC ly_X6 (X_at_1 d _) rfl 1 (by decide) fl_X11_200 rfl dX11_drawn_30 rfl ?_
          refine j_icmp_lt (pc' := 36) (tgt := 38) hC dX11_drawn_33 (by decide) rfl ?_ ?_
          · refine j_aload_n (pc' := 39) hC 0 dX11_drawn_38 rfl rfl rfl ?_
            refine j_get (pc' := 42) hC ly_X11 (X_at_0 d _) rfl 6 (by decide) fl_X11_60 rfl dX11_drawn_39 rfl ?_
            refine j_iload_n (pc' := 43) hC 1 dX11_drawn_42 rfl rfl rfl ?_
            refine j_aload_n (pc' := 44) hC 0 dX11_drawn_43 rfl rfl rfl ?_
            refine j_get (pc' := 47) hC ly_X11 (X_at_0 d _) rfl 0 (by decide) fl_X11_10 rfl dX11_drawn_44 rfl ?_
            refine j_iconst (pc' := 48) (v := (0 : Int32)) hC dX11_drawn_47 (by decide) rfl ?_
            refine j_bipush (pc' := 50) (v := (10 : Int32)) hC dX11_drawn_48 (by decide) rfl ?_
            refine j_callV_ir (pc' := 53) (As := [.int (0 : Int32), .int (10 : Int32)]) (st := [.int p1, .ref (d.2.1 36)]) hC (X_at_1 d _) rfl (kX6_valueOf l d A _ _ _) (jgV ml_X11_166 im_X6_valueOf se_X6_valueOf in_X6 cd_X6_valueOf) rfl rfl rfl hyV_X6_valueOf ⟨Nat.le_of_ble_eq_true rfl, Nat.le_of_ble_eq_true rfl⟩ rfl rfl (Nat.le_of_ble_eq_true rfl) dX11_drawn_50 rfl (fun q2 => ?_)
            refine j_callV_v (pc' := 56) (As := [.int p1, .int q2]) (st := []) hC (X_at_36 d _) rfl (kX3_begin l d A _ _ _) (jgV ml_X11_242 im_X3_begin se_X3_begin in_X3 cd_X3_begin) rfl rfl rfl hyV_X3_begin ⟨Nat.le_of_ble_eq_true rfl, Nat.le_of_ble_eq_true rfl⟩ rfl rfl (Nat.le_of_ble_eq_true rfl) dX11_drawn_53 rfl (fun q3 => ?_)
            refine j_iconst (pc' := 57) (v := (0 : Int32)) hC dX11_drawn_56 (by decide) rfl ?_
            refine j_istore (pc' := 59) (lv' := [(5, .int (0 : Int32)), (0, .ref (d.2.1 0)), (1, .int p1), (2, .int p2), (3, .int p3), (4, .int p4)]) hC dX11_drawn_57 (by decide) rfl rfl ?_
            refine j_let 91 (fun a91 => a91) (fun a91 => [(0, .ref (d.2.1 0)), (2, .int p2), (3, .int p3), (4, .int p4)]) (fun a91 => []) (fun a91 => ?_) (fun j91 hj91 => ?_)
            · refine j_iconst (pc' := 92) (v := (0 : Int32)) hC dX11_drawn_91 (by decide) rfl ?_
              refine j_istore (pc' := 94) (lv' := [(5, .int (0 : Int32)), (0, .ref (d.2.1 0)), (2, .int p2), (3, .int p3), (4, .int p4)]) hC dX11_drawn_92 (by decide) rfl rfl ?_
              refine j_let 136 (fun a136 => a136) (fun a136 => [(0, .ref (d.2.1 0)), (4, .int p4)]) (fun a136 => []) (fun a136 => ?_) (fun j136 hj136 => ?_)
              · refine j_iload (pc' := 138) hC 1 dX11_drawn_136 rfl rfl ?_
                refine j_if_ge (pc' := 141) (tgt := 148) hC dX11_drawn_138 (by decide) rfl ?_ ?_
                · refine j_aload_n (pc' := 149) hC 0 dX11_drawn_148 rfl rfl rfl ?_
                  refine j_iload (pc' := 151) hC 1 dX11_drawn_149 rfl rfl ?_
                  refine j_callV_ir (pc' := 154) (As := [.int p4]) (st := []) hC (X_at_0 d _) rfl (kX11_timesOnAll l d A _ _) (jgV ml_X11_203 im_X11_timesOnAll se_X11_timesOnAll in_X11 cd_X11_timesOnAll) rfl rfl rfl hyV_X11_timesOnAll ⟨Nat.le_of_ble_eq_true rfl, Nat.le_of_ble_eq_true rfl⟩ rfl rfl (Nat.le_of_ble_eq_true rfl) dX11_drawn_151 rfl (fun q4 => ?_)
                  exact j_ret_i hC dX11_drawn_154
                · refine j_aload_n (pc' := 142) hC 0 dX11_drawn_141 rfl rfl rfl ?_
                  refine j_callV_ir (pc' := 145) (As := []) (st := []) hC (X_at_0 d _) rfl (kX11_timesOfAll l d A _) (jgV ml_X11_244 im_X11_timesOfAll se_X11_timesOfAll in_X11 cd_X11_timesOfAll) rfl rfl rfl hyV_X11_timesOfAll ⟨Nat.le_of_ble_eq_true rfl, Nat.le_of_ble_eq_true rfl⟩ rfl rfl (Nat.le_of_ble_eq_true rfl) dX11_drawn_142 rfl (fun q5 => ?_)
                  refine j_goto (tgt := 154) hC dX11_drawn_145 (by decide) ?_
                  exact j_ret_i hC dX11_drawn_154
              · refine j_lv (lv' := [(0, .ref (d.2.1 0)), (2, .int p2), (3, .int p3), (4, .int p4), (5, .int (0 : Int32))]) [1, 2, 3, 4, 0] rfl ?_
                refine j_loop 94 (fun a => a.1) (fun a => [(0, .ref (d.2.1 0)), (2, .int p2), (3, .int p3), (4, .int p4), (5, .int a.2)]) (fun s94 hs94 a => ?_) jN (a91, (0 : Int32))
                unfold fX11_drawn_B94
                refine j_iload (pc' := 96) hC 4 dX11_drawn_94 rfl rfl ?_
                refine j_iload_n (pc' := 97) hC 1 dX11_drawn_96 rfl rfl rfl ?_
                refine j_icmp_ge (pc' := 100) (tgt := 136) hC dX11_drawn_97 (by decide) rfl ?_ ?_
                · exact j_lv (lv' := [(0, .ref (d.2.1 0)), (4, .int p4)]) [0, 3] rfl (hj136 a.1)
                · refine j_iconst (pc' := 101) (v := (0 : Int32)) hC dX11_drawn_100 (by decide) rfl ?_
                  refine j_istore (pc' := 103) (lv' := [(6, .int (0 : Int32)), (0, .ref (d.2.1 0)), (2, .int p2), (3, .int p3), (4, .int p4), (5, .int a.2)]) hC dX11_drawn_101 (by decide) rfl rfl ?_
                  refine j_let 130 (fun a130 => a130) (fun a130 => [(0, .ref (d.2.1 0)), (2, .int p2), (3, .int p3), (4, .int p4), (5, .int a.2)]) (fun a130 => []) (fun a130 => ?_) (fun j130 hj130 => ?_)
                  · refine j_iinc (pc' := 133) (v := (a.2 + (1 : Int32))) (lv' := [(5, .int (a.2 + (1 : Int32))), (0, .ref (d.2.1 0)), (2, .int p2), (3, .int p3), (4, .int p4)]) hC 4 dX11_drawn_130 rfl (by decide) rfl rfl rfl ?_
                    refine j_goto (tgt := 94) hC dX11_drawn_133 (by decide) ?_
                    exact j_lv (lv' := [(0, .ref (d.2.1 0)), (2, .int p2), (3, .int p3), (4, .int p4), (5, .int (a.2 + (1 : Int32)))]) [1, 2, 3, 4, 0] rfl (hs94 (a130, (a.2 + (1 : Int32))))
                  · refine j_lv (lv' := [(0, .ref (d.2.1 0)), (2, .int p2), (3, .int p3), (4, .int p4), (5, .int a.2), (6, .int (0 : Int32))]) [1, 2, 3, 4, 5, 0] rfl ?_
                    refine j_loop 103 (fun a_ => a_.1) (fun a_ => [(0, .ref (d.2.1 0)), (2, .int p2), (3, .int p3), (4, .int p4), (5, .int a.2), (6, .int a_.2)]) (fun s103 hs103 a_ => ?_) jN (a.1, (0 : Int32))
                    unfold fX11_drawn_B103
                    refine j_iload (pc' := 105) hC 5 dX11_drawn_103 rfl rfl ?_
                    refine j_iconst (pc' := 106) (v := (3 : Int32)) hC dX11_drawn_105 (by decide) rfl ?_
                    refine j_icmp_ge (pc' := 109) (tgt := 130) hC dX11_drawn_106 (by decide) rfl ?_ ?_
                    · exact j_lv (lv' := [(0, .ref (d.2.1 0)), (2, .int p2), (3, .int p3), (4, .int p4), (5, .int a.2)]) [0, 1, 2, 3, 4] rfl (hj130 a_.1)
                    · refine j_aload_n (pc' := 110) hC 0 dX11_drawn_109 rfl rfl rfl ?_
                      refine j_get (pc' := 113) hC ly_X11 (X_at_0 d _) rfl 4 (by decide) fl_X11_43 rfl dX11_drawn_110 rfl ?_
                      refine j_iload (pc' := 115) hC 5 dX11_drawn_113 rfl rfl ?_
                      refine j_aald (pc' := 116) hC (X_at_16 d _) dX11_drawn_115 rfl (fun o6 h_o6 => ?_)
                      refine j_iload_n (pc' := 117) hC 2 dX11_drawn_116 rfl rfl rfl ?_
                      refine j_aload_n (pc' := 118) hC 0 dX11_drawn_117 rfl rfl rfl ?_
                      refine j_get (pc' := 121) hC ly_X11 (X_at_0 d _) rfl 6 (by decide) fl_X11_60 rfl dX11_drawn_118 rfl ?_
                      refine j_callV_v (pc' := 124) (As := [.int p3, .ref (d.2.1 36)]) (st := []) hC (X_ln d _ h_o6) rfl (kX5_spendD l d A h_o6 _ _) (jgV ml_X11_187 im_X5_spend se_X5_spend in_X5 cd_X5_spend) rfl rfl rfl hyV_X5_spend ⟨Nat.le_of_ble_eq_true rfl, Nat.le_of_ble_eq_true rfl⟩ rfl rfl (Nat.le_of_ble_eq_true rfl) dX11_drawn_121 rfl (fun q7 => ?_)
                      refine j_iinc (pc' := 127) (v := (a_.2 + (1 : Int32))) (lv' := [(6, .int (a_.2 + (1 : Int32))), (0, .ref (d.2.1 0)), (2, .int p2), (3, .int p3), (4, .int p4), (5, .int a.2)]) hC 5 dX11_drawn_124 rfl (by decide) rfl rfl rfl ?_
                      refine j_goto (tgt := 103) hC dX11_drawn_127 (by decide) ?_
                      exact j_lv (lv' := [(0, .ref (d.2.1 0)), (2, .int p2), (3, .int p3), (4, .int p4), (5, .int a.2), (6, .int (a_.2 + (1 : Int32)))]) [1, 2, 3, 4, 5, 0] rfl (hs103 (q7, (a_.2 + (1 : Int32))))
            · refine j_lv (lv' := [(0, .ref (d.2.1 0)), (2, .int p2), (3, .int p3), (4, .int p4), (5, .int (0 : Int32))]) [1, 3, 4, 5, 0] rfl ?_
              refine j_loop 59 (fun a => a.1) (fun a => [(0, .ref (d.2.1 0)), (2, .int p2), (3, .int p3), (4, .int p4), (5, .int a.2)]) (fun s59 hs59 a => ?_) jN (q3, (0 : Int32))
              unfold fX11_drawn_B59
              refine j_iload (pc' := 61) hC 4 dX11_drawn_59 rfl rfl ?_
              refine j_iconst (pc' := 62) (v := (3 : Int32)) hC dX11_drawn_61 (by decide) rfl ?_
              refine j_icmp_ge (pc' := 65) (tgt := 91) hC dX11_drawn_62 (by decide) rfl ?_ ?_
              · exact j_lv (lv' := [(0, .ref (d.2.1 0)), (2, .int p2), (3, .int p3), (4, .int p4)]) [0, 1, 2, 3] rfl (hj91 a.1)
              · refine j_aload_n (pc' := 66) hC 0 dX11_drawn_65 rfl rfl rfl ?_
                refine j_get (pc' := 69) hC ly_X11 (X_at_0 d _) rfl 4 (by decide) fl_X11_43 rfl dX11_drawn_66 rfl ?_
                refine j_iload (pc' := 71) hC 4 dX11_drawn_69 rfl rfl ?_
                refine j_aald (pc' := 72) hC (X_at_16 d _) dX11_drawn_71 rfl (fun o8 h_o8 => ?_)
                refine j_callV_v (pc' := 75) (As := []) (st := []) hC (X_ln d _ h_o8) rfl (kX5_form l d A h_o8 _) (jgV ml_X11_178 im_X5_form se_X5_form in_X5 cd_X5_form) rfl rfl rfl hyV_X5_form ⟨Nat.le_of_ble_eq_true rfl, Nat.le_of_ble_eq_true rfl⟩ rfl rfl (Nat.le_of_ble_eq_true rfl) dX11_drawn_72 rfl (fun q9 => ?_)
                refine j_aload_n (pc' := 76) hC 0 dX11_drawn_75 rfl rfl rfl ?_
                refine j_get (pc' := 79) hC ly_X11 (X_at_0 d _) rfl 4 (by decide) fl_X11_43 rfl dX11_drawn_76 rfl ?_
                refine j_iload (pc' := 81) hC 4 dX11_drawn_79 rfl rfl ?_
                refine j_aald (pc' := 82) hC (X_at_16 d _) dX11_drawn_81 rfl (fun o10 h_o10 => ?_)
                refine j_callV_v (pc' := 85) (As := []) (st := []) hC (X_ln d _ h_o10) rfl (kX5_foresee l d A h_o10 _) (jgV ml_X11_181 im_X5_foresee se_X5_foresee in_X5 cd_X5_foresee) rfl rfl rfl hyV_X5_foresee ⟨Nat.le_of_ble_eq_true rfl, Nat.le_of_ble_eq_true rfl⟩ rfl rfl (Nat.le_of_ble_eq_true rfl) dX11_drawn_82 rfl (fun q11 => ?_)
                refine j_iinc (pc' := 88) (v := (a.2 + (1 : Int32))) (lv' := [(5, .int (a.2 + (1 : Int32))), (0, .ref (d.2.1 0)), (2, .int p2), (3, .int p3), (4, .int p4)]) hC 4 dX11_drawn_85 rfl (by decide) rfl rfl rfl ?_
                refine j_goto (tgt := 59) hC dX11_drawn_88 (by decide) ?_
                exact j_lv (lv' := [(0, .ref (d.2.1 0)), (2, .int p2), (3, .int p3), (4, .int p4), (5, .int (a.2 + (1 : Int32)))]) [1, 2, 3, 4, 0] rfl (hs59 (q11, (a.2 + (1 : Int32))))
          · refine j_iconst (pc' := 37) (v := (-1 : Int32)) hC dX11_drawn_36 (by decide) rfl ?_
            exact j_ret_i hC dX11_drawn_37
theorem hyV_X11_firstUnlike : yX11_firstUnlike.cls = RX11 ∧ yX11_firstUnlike.cls ≠ "java/lang/invoke/MethodHandle" ∧ yX11_firstUnlike.cls ≠ "java/lang/invoke/VarHandle" ∧ (parseMethodDescriptor yX11_firstUnlike.desc).map (fun d => d.parameters.length) = some 4 := ⟨rfl, by decide +kernel, by decide +kernel, by decide +kernel⟩
noncomputable def fX11_firstUnlike_B45 (p1 : Int32) (q1 : jS) (q2 : Int32) (j85 : (Unit → Option (Int32 × jS))) (s45 : Int32 → Option (Int32 × jS)) (a : Int32) : Option (Int32 × jS) :=
  (if (if q2 < (q1.1 14 3) then q2 else (q1.1 14 3)) ≤ a then (j85 ()) else (Option.bind (fX9_elementAt q1 p1 a) fun (q3 : Int64) => (Option.bind (fX8_heardAt q1 a) fun (q4 : Int32) => (if (lg_cmp q3 (q4.toInt64)) = 0 then (s45 (a + (1 : Int32))) else (some (a, q1))))))
noncomputable def fX11_firstUnlike (σ : jS) (p1 : Int32) (p2 : Int32) (p3 : Int32) (p4 : Int32) : Option (Int32 × jS) :=
  (Option.bind (fX8_think σ (p2 / (10 : Int32)) p3 (p2 - p2 / (10 : Int32) * (10 : Int32)) p4) fun (q1 : jS) => (Option.bind (fX9_sizeOf q1 p1) fun (q2 : Int32) => (jlet (fun (a85 : Unit) => (if (q1.1 14 3) = q2 then (some ((-2 : Int32), q1)) else (some ((if q2 < (q1.1 14 3) then q2 else (q1.1 14 3)), q1)))) fun (j85 : (Unit → Option (Int32 × jS))) => (jloop (fX11_firstUnlike_B45 p1 q1 q2 j85) jN (0 : Int32)))))
set_option maxRecDepth 100000 in
set_option maxHeartbeats 4000000 in
theorem kX11_firstUnlike (l : Launch) (d : jD) (A : Nat → Prop) (σ : jS) (p1 : Int32) (p2 : Int32) (p3 : Int32) (p4 : Int32) : jMi l yX11_firstUnlike (jws yX11_firstUnlike cX11_firstUnlike 9 (some (.int))) { frames := 7, cells := 0, slots := 0, locals := 254 } d wX A [.ref (d.2.1 0), .int p1, .int p2, .int p3, .int p4] σ (fX11_firstUnlike σ p1 p2 p3 p4) := by
  refine jStart_i (lv0 := [(0, .ref (d.2.1 0)), (1, .int p1), (2, .int p2), (3, .int p3), (4, .int p4)]) (by decide) rfl (Nat.le_of_ble_eq_true rfl) rfl (fun z hC res => ?_)
  unfold fX11_firstUnlike
  refine j_aload_n (pc' := 1) hC 0 dX11_firstUnlike_0 rfl rfl rfl ?_
  refine j_get (pc' := 4) hC ly_X11 (X_at_0 d _) rfl 3 (by decide) fl_X11_37 rfl dX11_firstUnlike_1 rfl ?_
  refine j_iload_n (pc' := 5) hC 2 dX11_firstUnlike_4 rfl rfl rfl ?_
  refine j_bipush (pc' := 7) (v := (10 : Int32)) hC dX11_firstUnlike_5 (by decide) rfl ?_
  refine j_idiv0 (pc' := 8) hC dX11_firstUnlike_7 (by decide) rfl ?_
  refine j_iload_n (pc' := 9) hC 3 dX11_firstUnlike_8 rfl rfl rfl ?_
  refine j_iload_n (pc' := 10) hC 2 dX11_firstUnlike_9 rfl rfl rfl ?_
  refine j_bipush (pc' := 12) (v := (10 : Int32)) hC dX11_firstUnlike_10 (by decide) rfl ?_
  refine j_irem0 (pc' := 13) hC dX11_firstUnlike_12 (by decide) rfl ?_
  refine j_iload (pc' := 15) hC 4 dX11_firstUnlike_13 rfl rfl ?_
  refine j_callV_r (pc' := 18) (As := [.int (p2 / (10 : Int32)), .int p3, .int (p2 - p2 / (10 : Int32) * (10 : Int32)), .int p4]) (st := []) hC (X_at_13 d _) rfl (kX8_think l d A _ _ _ _ _) (jgV ml_X11_139 im_X8_think se_X8_think in_X8 cd_X8_think) rfl rfl rfl hyV_X8_think ⟨Nat.le_of_ble_eq_true rfl, Nat.le_of_ble_eq_true rfl⟩ rfl rfl (Nat.le_of_ble_eq_true rfl) dX11_firstUnlike_15 rfl (fun q1 => ?_)
  refine j_get (pc' := 21) hC ly_X10 (X_at_14 d _) rfl 3 (by decide) fl_X11_143 rfl dX11_firstUnlike_18 rfl ?_
  refine j_istore (pc' := 23) (lv' := [(5, .int (q1.1 14 3)), (0, .ref (d.2.1 0)), (1, .int p1), (2, .int p2), (3, .int p3), (4, .int p4)]) hC dX11_firstUnlike_21 (by decide) rfl rfl ?_
  refine j_aload_n (pc' := 24) hC 1 dX11_firstUnlike_23 rfl rfl rfl ?_
  refine j_get (pc' := 27) hC ly_X11 (X_at_0 d _) rfl 10 (by decide) fl_X11_84 rfl dX11_firstUnlike_24 rfl ?_
  refine j_iload_n (pc' := 28) hC 2 dX11_firstUnlike_27 rfl rfl rfl ?_
  refine j_callV_ir (pc' := 31) (As := [.int p1]) (st := []) hC (X_at_44 d _) rfl (kX9_sizeOf l d A _ _) (jgV ml_X11_370 im_X9_sizeOf se_X9_sizeOf in_X9 cd_X9_sizeOf) rfl rfl rfl hyV_X9_sizeOf ⟨Nat.le_of_ble_eq_true rfl, Nat.le_of_ble_eq_true rfl⟩ rfl rfl (Nat.le_of_ble_eq_true rfl) dX11_firstUnlike_28 rfl (fun q2 => ?_)
  refine j_istore (pc' := 33) (lv' := [(6, .int q2), (5, .int (q1.1 14 3)), (0, .ref (d.2.1 0)), (1, .int p1), (2, .int p2), (3, .int p3), (4, .int p4)]) hC dX11_firstUnlike_31 (by decide) rfl rfl ?_
  refine j_iload (pc' := 35) hC 1 dX11_firstUnlike_33 rfl rfl ?_
  refine j_iload (pc' := 37) hC 0 dX11_firstUnlike_35 rfl rfl ?_
  refine j_mmin (pc' := 40) hC ml_X11_373 st_mmin in_J9 cd_mmin (Nat.le_of_ble_eq_true rfl) (Nat.le_of_ble_eq_true rfl) dX11_firstUnlike_37 rfl ?_
  refine j_istore (pc' := 42) (lv' := [(7, .int (if q2 < (q1.1 14 3) then q2 else (q1.1 14 3))), (6, .int q2), (5, .int (q1.1 14 3)), (0, .ref (d.2.1 0)), (1, .int p1), (2, .int p2), (3, .int p3), (4, .int p4)]) hC dX11_firstUnlike_40 (by decide) rfl rfl ?_
  refine j_iconst (pc' := 43) (v := (0 : Int32)) hC dX11_firstUnlike_42 (by decide) rfl ?_
  refine j_istore (pc' := 45) (lv' := [(8, .int (0 : Int32)), (7, .int (if q2 < (q1.1 14 3) then q2 else (q1.1 14 3))), (6, .int q2), (5, .int (q1.1 14 3)), (0, .ref (d.2.1 0)), (1, .int p1), (2, .int p2), (3, .int p3), (4, .int p4)]) hC dX11_firstUnlike_43 (by decide) rfl rfl ?_
  refine j_let 85 (fun a85 => q1) (fun a85 => [(5, .int (q1.1 14 3)), (6, .int q2), (7, .int (if q2 < (q1.1 14 3) then q2 else (q1.1 14 3)))]) (fun a85 => []) (fun a85 => ?_) (fun j85 hj85 => ?_)
  · refine j_iload (pc' := 87) hC 0 dX11_firstUnlike_85 rfl rfl ?_
    refine j_iload (pc' := 89) hC 1 dX11_firstUnlike_87 rfl rfl ?_
    refine j_icmp_ne (pc' := 92) (tgt := 97) hC dX11_firstUnlike_89 (by decide) rfl ?_ ?_
    · refine j_iload (pc' := 99) hC 2 dX11_firstUnlike_97 rfl rfl ?_
      exact j_ret_i hC dX11_firstUnlike_99
    · refine j_bipush (pc' := 94) (v := (-2 : Int32)) hC dX11_firstUnlike_92 (by decide) rfl ?_
      refine j_goto (tgt := 99) hC dX11_firstUnlike_94 (by decide) ?_
      exact j_ret_i hC dX11_firstUnlike_99
  · refine j_lv (lv' := [(0, .ref (d.2.1 0)), (1, .int p1), (5, .int (q1.1 14 3)), (6, .int q2), (7, .int (if q2 < (q1.1 14 3) then q2 else (q1.1 14 3))), (8, .int (0 : Int32))]) [4, 5, 3, 2, 1, 0] rfl ?_
    refine j_loop 45 (fun a => q1) (fun a => [(0, .ref (d.2.1 0)), (1, .int p1), (5, .int (q1.1 14 3)), (6, .int q2), (7, .int (if q2 < (q1.1 14 3) then q2 else (q1.1 14 3))), (8, .int a)]) (fun s45 hs45 a => ?_) jN (0 : Int32)
    unfold fX11_firstUnlike_B45
    refine j_iload (pc' := 47) hC 5 dX11_firstUnlike_45 rfl rfl ?_
    refine j_iload (pc' := 49) hC 4 dX11_firstUnlike_47 rfl rfl ?_
    refine j_icmp_ge (pc' := 52) (tgt := 85) hC dX11_firstUnlike_49 (by decide) rfl ?_ ?_
    · exact j_lv (lv' := [(5, .int (q1.1 14 3)), (6, .int q2), (7, .int (if q2 < (q1.1 14 3) then q2 else (q1.1 14 3)))]) [2, 3, 4] rfl (hj85 ())
    · refine j_aload_n (pc' := 53) hC 0 dX11_firstUnlike_52 rfl rfl rfl ?_
      refine j_get (pc' := 56) hC ly_X11 (X_at_0 d _) rfl 10 (by decide) fl_X11_84 rfl dX11_firstUnlike_53 rfl ?_
      refine j_iload_n (pc' := 57) hC 1 dX11_firstUnlike_56 rfl rfl rfl ?_
      refine j_iload (pc' := 59) hC 5 dX11_firstUnlike_57 rfl rfl ?_
      refine j_callV_lr (pc' := 62) (As := [.int p1, .int a]) (st := []) hC (X_at_44 d _) rfl (kX9_elementAt l d A _ _ _) (jgV ml_X11_104 im_X9_elementAt se_X9_elementAt in_X9 cd_X9_elementAt) rfl rfl rfl hyV_X9_elementAt ⟨Nat.le_of_ble_eq_true rfl, Nat.le_of_ble_eq_true rfl⟩ rfl rfl (Nat.le_of_ble_eq_true rfl) dX11_firstUnlike_59 rfl (fun q3 => ?_)
      refine j_aload_n (pc' := 63) hC 0 dX11_firstUnlike_62 rfl rfl rfl ?_
      refine j_get (pc' := 66) hC ly_X11 (X_at_0 d _) rfl 3 (by decide) fl_X11_37 rfl dX11_firstUnlike_63 rfl ?_
      refine j_iload (pc' := 68) hC 5 dX11_firstUnlike_66 rfl rfl ?_
      refine j_callV_ir (pc' := 71) (As := [.int a]) (st := [.long q3]) hC (X_at_13 d _) rfl (kX8_heardAt l d A _ _) (jgV ml_X11_378 im_X8_heardAt se_X8_heardAt in_X8 cd_X8_heardAt) rfl rfl rfl hyV_X8_heardAt ⟨Nat.le_of_ble_eq_true rfl, Nat.le_of_ble_eq_true rfl⟩ rfl rfl (Nat.le_of_ble_eq_true rfl) dX11_firstUnlike_68 rfl (fun q4 => ?_)
      refine j_i2l (pc' := 72) hC dX11_firstUnlike_71 rfl ?_
      refine j_lcmp (pc' := 73) hC dX11_firstUnlike_72 rfl ?_
      refine j_if_eq (pc' := 76) (tgt := 79) hC dX11_firstUnlike_73 (by decide) rfl ?_ ?_
      · refine j_iinc (pc' := 82) (v := (a + (1 : Int32))) (lv' := [(8, .int (a + (1 : Int32))), (0, .ref (d.2.1 0)), (1, .int p1), (5, .int (q1.1 14 3)), (6, .int q2), (7, .int (if q2 < (q1.1 14 3) then q2 else (q1.1 14 3)))]) hC 5 dX11_firstUnlike_79 rfl (by decide) rfl rfl rfl ?_
        refine j_goto (tgt := 45) hC dX11_firstUnlike_82 (by decide) ?_
        exact j_lv (lv' := [(0, .ref (d.2.1 0)), (1, .int p1), (5, .int (q1.1 14 3)), (6, .int q2), (7, .int (if q2 < (q1.1 14 3) then q2 else (q1.1 14 3))), (8, .int (a + (1 : Int32)))]) [1, 2, 3, 4, 5, 0] rfl (hs45 (a + (1 : Int32)))
      · refine j_iload (pc' := 78) hC 5 dX11_firstUnlike_76 rfl rfl ?_
        exact j_ret_i hC dX11_firstUnlike_78
theorem hyV_X11_judge : yX11_judge.cls = RX11 ∧ yX11_judge.cls ≠ "java/lang/invoke/MethodHandle" ∧ yX11_judge.cls ≠ "java/lang/invoke/VarHandle" ∧ (parseMethodDescriptor yX11_judge.desc).map (fun d => d.parameters.length) = some 3 := ⟨rfl, by decide +kernel, by decide +kernel, by decide +kernel⟩
noncomputable def fX11_judge (σ : jS) (p1 : Int32) (p2 : Int32) (p3 : Int32) : Option (Int32 × jS) :=
  (Option.bind (fX9_isShelf σ p1) fun (q1 : Int32) => (if (jb q1) = 0 then (some ((-1 : Int32), σ)) else (Option.bind (fX11_isTold σ p2 p3) fun (q2 : Int32) => (if (jb q2) = 0 then (some ((-1 : Int32), σ)) else (Option.bind (fX9_refusalOfBytes σ p1) fun (q3 : Int32) => (if q3 = 0 then (Option.bind (fX11_swingOf σ p2) fun (q4 : Int32) => (Option.bind (fX11_childOf σ p2) fun (q5 : Int32) => (Option.bind (fX11_firstUnlike σ p1 ((q4 * (10 : Int32)) + (p2 - p2 / (10 : Int32) * (10 : Int32))) q5 p3) fun (q6 : (Int32 × jS)) => (some (q6.1, q6.2))))) else (some (q3, σ))))))))
set_option maxRecDepth 100000 in
set_option maxHeartbeats 4000000 in
theorem kX11_judge (l : Launch) (d : jD) (A : Nat → Prop) (σ : jS) (p1 : Int32) (p2 : Int32) (p3 : Int32) : jMi l yX11_judge (jws yX11_judge cX11_judge 5 (some (.int))) { frames := 8, cells := 0, slots := 0, locals := 282 } d wX A [.ref (d.2.1 0), .int p1, .int p2, .int p3] σ (fX11_judge σ p1 p2 p3) := by
  refine jStart_i (lv0 := [(0, .ref (d.2.1 0)), (1, .int p1), (2, .int p2), (3, .int p3)]) (by decide) rfl (Nat.le_of_ble_eq_true rfl) rfl (fun z hC res => ?_)
  unfold fX11_judge
  refine j_aload_n (pc' := 1) hC 0 dX11_judge_0 rfl rfl rfl ?_
  refine j_get (pc' := 4) hC ly_X11 (X_at_0 d _) rfl 10 (by decide) fl_X11_84 rfl dX11_judge_1 rfl ?_
  refine j_iload_n (pc' := 5) hC 1 dX11_judge_4 rfl rfl rfl ?_
  refine j_callV_zr (pc' := 8) (As := [.int p1]) (st := []) hC (X_at_44 d _) rfl (kX9_isShelf l d A _ _) (jgV ml_X11_92 im_X9_isShelf se_X9_isShelf in_X9 cd_X9_isShelf) rfl rfl rfl hyV_X9_isShelf ⟨Nat.le_of_ble_eq_true rfl, Nat.le_of_ble_eq_true rfl⟩ rfl rfl (Nat.le_of_ble_eq_true rfl) dX11_judge_5 rfl (fun q1 => ?_)
  refine j_if_eq (pc' := 11) (tgt := 20) hC dX11_judge_8 (by decide) rfl ?_ ?_
  · refine j_iconst (pc' := 21) (v := (-1 : Int32)) hC dX11_judge_20 (by decide) rfl ?_
    exact j_ret_i hC dX11_judge_21
  · refine j_aload_n (pc' := 12) hC 0 dX11_judge_11 rfl rfl rfl ?_
    refine j_iload_n (pc' := 13) hC 2 dX11_judge_12 rfl rfl rfl ?_
    refine j_iload_n (pc' := 14) hC 3 dX11_judge_13 rfl rfl rfl ?_
    refine j_callV_zr (pc' := 17) (As := [.int p2, .int p3]) (st := []) hC (X_at_0 d _) rfl (kX11_isTold l d A _ _ _) (jgV ml_X11_129 im_X11_isTold se_X11_isTold in_X11 cd_X11_isTold) rfl rfl rfl hyV_X11_isTold ⟨Nat.le_of_ble_eq_true rfl, Nat.le_of_ble_eq_true rfl⟩ rfl rfl (Nat.le_of_ble_eq_true rfl) dX11_judge_14 rfl (fun q2 => ?_)
    refine j_if_ne (pc' := 20) (tgt := 22) hC dX11_judge_17 (by decide) rfl ?_ ?_
    · refine j_aload_n (pc' := 23) hC 0 dX11_judge_22 rfl rfl rfl ?_
      refine j_get (pc' := 26) hC ly_X11 (X_at_0 d _) rfl 10 (by decide) fl_X11_84 rfl dX11_judge_23 rfl ?_
      refine j_iload_n (pc' := 27) hC 1 dX11_judge_26 rfl rfl rfl ?_
      refine j_callV_ir (pc' := 30) (As := [.int p1]) (st := []) hC (X_at_44 d _) rfl (kX9_refusalOfBytes l d A _ _) (jgV ml_X11_96 im_X9_refusalOfBytes se_X9_refusalOfBytes in_X9 cd_X9_refusalOfBytes) rfl rfl rfl hyV_X9_refusalOfBytes ⟨Nat.le_of_ble_eq_true rfl, Nat.le_of_ble_eq_true rfl⟩ rfl rfl (Nat.le_of_ble_eq_true rfl) dX11_judge_27 rfl (fun q3 => ?_)
      refine j_istore (pc' := 32) (lv' := [(4, .int q3), (0, .ref (d.2.1 0)), (1, .int p1), (2, .int p2), (3, .int p3)]) hC dX11_judge_30 (by decide) rfl rfl ?_
      refine j_iload (pc' := 34) hC 0 dX11_judge_32 rfl rfl ?_
      refine j_if_eq (pc' := 37) (tgt := 40) hC dX11_judge_34 (by decide) rfl ?_ ?_
      · refine j_aload_n (pc' := 41) hC 1 dX11_judge_40 rfl rfl rfl ?_
        refine j_iload_n (pc' := 42) hC 2 dX11_judge_41 rfl rfl rfl ?_
        refine j_iload_n (pc' := 43) hC 3 dX11_judge_42 rfl rfl rfl ?_
        refine j_callS_ir (pc' := 46) (As := [.int p2]) (st := [.int p1, .ref (d.2.1 0)]) hC (kX11_swingOf l d A _ _) (jgS ml_X11_133 st_X11_swingOf in_X11 cd_X11_swingOf) rfl rfl rfl hyS_X11_swingOf ⟨Nat.le_of_ble_eq_true rfl, Nat.le_of_ble_eq_true rfl⟩ rfl rfl (Nat.le_of_ble_eq_true rfl) dX11_judge_43 rfl (fun q4 => ?_)
        refine j_bipush (pc' := 48) (v := (10 : Int32)) hC dX11_judge_46 (by decide) rfl ?_
        refine j_imul (pc' := 49) hC dX11_judge_48 rfl ?_
        refine j_iload_n (pc' := 50) hC 3 dX11_judge_49 rfl rfl rfl ?_
        refine j_bipush (pc' := 52) (v := (10 : Int32)) hC dX11_judge_50 (by decide) rfl ?_
        refine j_irem0 (pc' := 53) hC dX11_judge_52 (by decide) rfl ?_
        refine j_iadd (pc' := 54) hC dX11_judge_53 rfl ?_
        refine j_iload_n (pc' := 55) hC 3 dX11_judge_54 rfl rfl rfl ?_
        refine j_callS_ir (pc' := 58) (As := [.int p2]) (st := [.int ((q4 * (10 : Int32)) + (p2 - p2 / (10 : Int32) * (10 : Int32))), .int p1, .ref (d.2.1 0)]) hC (kX11_childOf l d A _ _) (jgS ml_X11_136 st_X11_childOf in_X11 cd_X11_childOf) rfl rfl rfl hyS_X11_childOf ⟨Nat.le_of_ble_eq_true rfl, Nat.le_of_ble_eq_true rfl⟩ rfl rfl (Nat.le_of_ble_eq_true rfl) dX11_judge_55 rfl (fun q5 => ?_)
        refine j_iload_n (pc' := 59) hC 4 dX11_judge_58 rfl rfl rfl ?_
        refine j_callV_i (pc' := 62) (As := [.int p1, .int ((q4 * (10 : Int32)) + (p2 - p2 / (10 : Int32) * (10 : Int32))), .int q5, .int p3]) (st := []) hC (X_at_0 d _) rfl (kX11_firstUnlike l d A _ _ _ _ _) (jgV ml_X11_247 im_X11_firstUnlike se_X11_firstUnlike in_X11 cd_X11_firstUnlike) rfl rfl rfl hyV_X11_firstUnlike ⟨Nat.le_of_ble_eq_true rfl, Nat.le_of_ble_eq_true rfl⟩ rfl rfl (Nat.le_of_ble_eq_true rfl) dX11_judge_59 rfl (fun q6 => ?_)
        exact j_ret_i hC dX11_judge_62
      · refine j_iload (pc' := 39) hC 0 dX11_judge_37 rfl rfl ?_
        exact j_ret_i hC dX11_judge_39
    · refine j_iconst (pc' := 21) (v := (-1 : Int32)) hC dX11_judge_20 (by decide) rfl ?_
      exact j_ret_i hC dX11_judge_21
theorem hyV_X11_who : yX11_who.cls = RX11 ∧ yX11_who.cls ≠ "java/lang/invoke/MethodHandle" ∧ yX11_who.cls ≠ "java/lang/invoke/VarHandle" ∧ (parseMethodDescriptor yX11_who.desc).map (fun d => d.parameters.length) = some 3 := ⟨rfl, by decide +kernel, by decide +kernel, by decide +kernel⟩
noncomputable def fX11_who_B89 (p1 : Int32) (p2 : Int32) (p3 : Int32) (s89 : jS × Int32 × Int32 → Option (Int32 × jS)) (a : jS × Int32 × Int32) : Option (Int32 × jS) :=
  (if (a.1.1 1 1) ≤ a.2.2 then (some (a.2.1, a.1)) else (jlet (fun (a131 : jS × Int32) => (s89 (a131.1, a131.2, (a.2.2 + (1 : Int32))))) fun (j131 : (jS × Int32 → Option (Int32 × jS))) => (if a.2.2 = (p2 - p2 / (10 : Int32) * (10 : Int32)) then (j131 (a.1, a.2.1)) else (Option.bind (fX11_firstUnlike a.1 p1 p2 a.2.2 p3) fun (q5 : (Int32 × jS)) => (if q5.1 = (-2 : Int32) then (j131 (q5.2, (a.2.1 ||| ((1 : Int32) <<< (a.2.2 &&& 31))))) else (j131 (q5.2, a.2.1)))))))
noncomputable def fX11_who (σ : jS) (p1 : Int32) (p2 : Int32) (p3 : Int32) : Option (Int32 × jS) :=
  (Option.bind (fX9_isShelf σ p1) fun (q1 : Int32) => (if (jb q1) = 0 then (some ((-1 : Int32), σ)) else (if p2 < 0 then (some ((-1 : Int32), σ)) else (Option.bind (fX6_isSwing σ (p2 / (10 : Int32))) fun (q2 : Int32) => (if (jb q2) = 0 then (some ((-1 : Int32), σ)) else (Option.bind (fX11_isWaiting σ p3) fun (q3 : Int32) => (if (jb q3) = 0 then (some ((-1 : Int32), σ)) else (jlet (fun (a65 : Unit) => (Option.bind (fX9_refusalOfBytes σ p1) fun (q4 : Int32) => (if q4 = 0 then (jloop (fX11_who_B89 p1 p2 p3) jN (σ, (0 : Int32), (0 : Int32))) else (some (q4, σ))))) fun (j65 : (Unit → Option (Int32 × jS))) => (if (p2 - p2 / (10 : Int32) * (10 : Int32)) = (9 : Int32) then (j65 ()) else (Option.bind (fX6_isChild σ (p2 - p2 / (10 : Int32) * (10 : Int32))) fun (q6 : Int32) => (if (jb q6) = 0 then (some ((-1 : Int32), σ)) else (j65 ()))))))))))))
set_option maxRecDepth 100000 in
set_option maxHeartbeats 4000000 in
theorem kX11_who (l : Launch) (d : jD) (A : Nat → Prop) (σ : jS) (p1 : Int32) (p2 : Int32) (p3 : Int32) : jMi l yX11_who (jws yX11_who cX11_who 8 (some (.int))) { frames := 8, cells := 0, slots := 0, locals := 282 } d wX A [.ref (d.2.1 0), .int p1, .int p2, .int p3] σ (fX11_who σ p1 p2 p3) := by
  refine jStart_i (lv0 := [(0, .ref (d.2.1 0)), (1, .int p1), (2, .int p2), (3, .int p3)]) (by decide) rfl (Nat.le_of_ble_eq_true rfl) rfl (fun z hC res => ?_)
  unfold fX11_who
  refine j_aload_n (pc' := 1) hC 0 dX11_who_0 rfl rfl rfl ?_
  refine j_get (pc' := 4) hC ly_X11 (X_at_0 d _) rfl 10 (by decide) fl_X11_84 rfl dX11_who_1 rfl ?_
  refine j_iload_n (pc' := 5) hC 1 dX11_who_4 rfl rfl rfl ?_
  refine j_callV_zr (pc' := 8) (As := [.int p1]) (st := []) hC (X_at_44 d _) rfl (kX9_isShelf l d A _ _) (jgV ml_X11_92 im_X9_isShelf se_X9_isShelf in_X9 cd_X9_isShelf) rfl rfl rfl hyV_X9_isShelf ⟨Nat.le_of_ble_eq_true rfl, Nat.le_of_ble_eq_true rfl⟩ rfl rfl (Nat.le_of_ble_eq_true rfl) dX11_who_5 rfl (fun q1 => ?_)
  refine j_if_eq (pc' := 11) (tgt := 36) hC dX11_who_8 (by decide) rfl ?_ ?_
  · refine j_iconst (pc' := 37) (v := (-1 : Int32)) hC dX11_who_36 (by decide) rfl ?_
    exact j_ret_i hC dX11_who_37
  · refine j_iload_n (pc' := 12) hC 2 dX11_who_11 rfl rfl rfl ?_
    refine j_if_lt (pc' := 15) (tgt := 36) hC dX11_who_12 (by decide) rfl ?_ ?_
    · refine j_iconst (pc' := 37) (v := (-1 : Int32)) hC dX11_who_36 (by decide) rfl ?_
      exact j_ret_i hC dX11_who_37
    · refine j_aload_n (pc' := 16) hC 0 dX11_who_15 rfl rfl rfl ?_
      refine j_get (pc' := 19) hC ly_X11 (X_at_0 d _) rfl 0 (by decide) fl_X11_10 rfl dX11_who_16 rfl ?_
      refine j_iload_n (pc' := 20) hC 2 dX11_who_19 rfl rfl rfl ?_
      refine j_bipush (pc' := 22) (v := (10 : Int32)) hC dX11_who_20 (by decide) rfl ?_
      refine j_idiv0 (pc' := 23) hC dX11_who_22 (by decide) rfl ?_
      refine j_callV_zr (pc' := 26) (As := [.int (p2 / (10 : Int32))]) (st := []) hC (X_at_1 d _) rfl (kX6_isSwing l d A _ _) (jgV ml_X11_175 im_X6_isSwing se_X6_isSwing in_X6 cd_X6_isSwing) rfl rfl rfl hyV_X6_isSwing ⟨Nat.le_of_ble_eq_true rfl, Nat.le_of_ble_eq_true rfl⟩ rfl rfl (Nat.le_of_ble_eq_true rfl) dX11_who_23 rfl (fun q2 => ?_)
      refine j_if_eq (pc' := 29) (tgt := 36) hC dX11_who_26 (by decide) rfl ?_ ?_
      · refine j_iconst (pc' := 37) (v := (-1 : Int32)) hC dX11_who_36 (by decide) rfl ?_
        exact j_ret_i hC dX11_who_37
      · refine j_iload_n (pc' := 30) hC 3 dX11_who_29 rfl rfl rfl ?_
        refine j_callS_zr (pc' := 33) (As := [.int p3]) (st := []) hC (kX11_isWaiting l d A _ _) (jgS ml_X11_251 st_X11_isWaiting in_X11 cd_X11_isWaiting) rfl rfl rfl hyS_X11_isWaiting ⟨Nat.le_of_ble_eq_true rfl, Nat.le_of_ble_eq_true rfl⟩ rfl rfl (Nat.le_of_ble_eq_true rfl) dX11_who_30 rfl (fun q3 => ?_)
        refine j_if_ne (pc' := 36) (tgt := 38) hC dX11_who_33 (by decide) rfl ?_ ?_
        · refine j_iload_n (pc' := 39) hC 2 dX11_who_38 rfl rfl rfl ?_
          refine j_bipush (pc' := 41) (v := (10 : Int32)) hC dX11_who_39 (by decide) rfl ?_
          refine j_irem0 (pc' := 42) hC dX11_who_41 (by decide) rfl ?_
          refine j_istore (pc' := 44) (lv' := [(4, .int (p2 - p2 / (10 : Int32) * (10 : Int32))), (0, .ref (d.2.1 0)), (1, .int p1), (2, .int p2), (3, .int p3)]) hC dX11_who_42 (by decide) rfl rfl ?_
          refine j_iload (pc' := 46) hC 0 dX11_who_44 rfl rfl ?_
          refine j_bipush (pc' := 48) (v := (9 : Int32)) hC dX11_who_46 (by decide) rfl ?_
          refine j_let 65 (fun a65 => σ) (fun a65 => [(0, .ref (d.2.1 0)), (1, .int p1), (2, .int p2), (3, .int p3), (4, .int (p2 - p2 / (10 : Int32) * (10 : Int32)))]) (fun a65 => []) (fun a65 => ?_) (fun j65 hj65 => ?_)
          · refine j_aload_n (pc' := 66) hC 0 dX11_who_65 rfl rfl rfl ?_
            refine j_get (pc' := 69) hC ly_X11 (X_at_0 d _) rfl 10 (by decide) fl_X11_84 rfl dX11_who_66 rfl ?_
            refine j_iload_n (pc' := 70) hC 1 dX11_who_69 rfl rfl rfl ?_
            refine j_callV_ir (pc' := 73) (As := [.int p1]) (st := []) hC (X_at_44 d _) rfl (kX9_refusalOfBytes l d A _ _) (jgV ml_X11_96 im_X9_refusalOfBytes se_X9_refusalOfBytes in_X9 cd_X9_refusalOfBytes) rfl rfl rfl hyV_X9_refusalOfBytes ⟨Nat.le_of_ble_eq_true rfl, Nat.le_of_ble_eq_true rfl⟩ rfl rfl (Nat.le_of_ble_eq_true rfl) dX11_who_70 rfl (fun q4 => ?_)
            refine j_istore (pc' := 75) (lv' := [(5, .int q4), (0, .ref (d.2.1 0)), (1, .int p1), (2, .int p2), (3, .int p3), (4, .int (p2 - p2 / (10 : Int32) * (10 : Int32)))]) hC dX11_who_73 (by decide) rfl rfl ?_
            refine j_iload (pc' := 77) hC 0 dX11_who_75 rfl rfl ?_
            refine j_if_eq (pc' := 80) (tgt := 83) hC dX11_who_77 (by decide) rfl ?_ ?_
            · refine j_iconst (pc' := 84) (v := (0 : Int32)) hC dX11_who_83 (by decide) rfl ?_
              refine j_istore (pc' := 86) (lv' := [(6, .int (0 : Int32)), (5, .int q4), (0, .ref (d.2.1 0)), (1, .int p1), (2, .int p2), (3, .int p3), (4, .int (p2 - p2 / (10 : Int32) * (10 : Int32)))]) hC dX11_who_84 (by decide) rfl rfl ?_
              refine j_iconst (pc' := 87) (v := (0 : Int32)) hC dX11_who_86 (by decide) rfl ?_
              refine j_istore (pc' := 89) (lv' := [(7, .int (0 : Int32)), (6, .int (0 : Int32)), (5, .int q4), (0, .ref (d.2.1 0)), (1, .int p1), (2, .int p2), (3, .int p3), (4, .int (p2 - p2 / (10 : Int32) * (10 : Int32)))]) hC dX11_who_87 (by decide) rfl rfl ?_
              refine j_lv (lv' := [(0, .ref (d.2.1 0)), (1, .int p1), (2, .int p2), (3, .int p3), (4, .int (p2 - p2 / (10 : Int32) * (10 : Int32))), (6, .int (0 : Int32)), (7, .int (0 : Int32))]) [3, 4, 5, 6, 7, 1, 0] rfl ?_
              refine j_loop 89 (fun a => a.1) (fun a => [(0, .ref (d.2.1 0)), (1, .int p1), (2, .int p2), (3, .int p3), (4, .int (p2 - p2 / (10 : Int32) * (10 : Int32))), (6, .int a.2.1), (7, .int a.2.2)]) (fun s89 hs89 a => ?_) jN (σ, (0 : Int32), (0 : Int32))
              unfold fX11_who_B89
              refine j_iload (pc' := 91) hC 6 dX11_who_89 rfl rfl ?_
              refine j_aload_n (pc' := 92) hC 0 dX11_who_91 rfl rfl rfl ?_
              refine j_get (pc' := 95) hC ly_X11 (X_at_0 d _) rfl 0 (by decide) fl_X11_10 rfl dX11_who_92 rfl ?_
              refine j_get (pc' := 98) hC ly_X6 (X_at_1 d _) rfl 1 (by decide) fl_X11_200 rfl dX11_who_95 rfl ?_
              refine j_icmp_ge (pc' := 101) (tgt := 137) hC dX11_who_98 (by decide) rfl ?_ ?_
              · refine j_iload (pc' := 139) hC 5 dX11_who_137 rfl rfl ?_
                exact j_ret_i hC dX11_who_139
              · refine j_iload (pc' := 103) hC 6 dX11_who_101 rfl rfl ?_
                refine j_iload (pc' := 105) hC 4 dX11_who_103 rfl rfl ?_
                refine j_let 131 (fun a131 => a131.1) (fun a131 => [(0, .ref (d.2.1 0)), (1, .int p1), (2, .int p2), (3, .int p3), (4, .int (p2 - p2 / (10 : Int32) * (10 : Int32))), (6, .int a131.2), (7, .int a.2.2)]) (fun a131 => []) (fun a131 => ?_) (fun j131 hj131 => ?_)
                · refine j_iinc (pc' := 134) (v := (a.2.2 + (1 : Int32))) (lv' := [(7, .int (a.2.2 + (1 : Int32))), (0, .ref (d.2.1 0)), (1, .int p1), (2, .int p2), (3, .int p3), (4, .int (p2 - p2 / (10 : Int32) * (10 : Int32))), (6, .int a131.2)]) hC 6 dX11_who_131 rfl (by decide) rfl rfl rfl ?_
                  refine j_goto (tgt := 89) hC dX11_who_134 (by decide) ?_
                  exact j_lv (lv' := [(0, .ref (d.2.1 0)), (1, .int p1), (2, .int p2), (3, .int p3), (4, .int (p2 - p2 / (10 : Int32) * (10 : Int32))), (6, .int a131.2), (7, .int (a.2.2 + (1 : Int32)))]) [1, 2, 3, 4, 5, 6, 0] rfl (hs89 (a131.1, a131.2, (a.2.2 + (1 : Int32))))
                · refine j_icmp_eq (pc' := 108) (tgt := 131) hC dX11_who_105 (by decide) rfl ?_ ?_
                  · exact j_lv (lv' := [(0, .ref (d.2.1 0)), (1, .int p1), (2, .int p2), (3, .int p3), (4, .int (p2 - p2 / (10 : Int32) * (10 : Int32))), (6, .int a.2.1), (7, .int a.2.2)]) [0, 1, 2, 3, 4, 5, 6] rfl (hj131 (a.1, a.2.1))
                  · refine j_aload_n (pc' := 109) hC 0 dX11_who_108 rfl rfl rfl ?_
                    refine j_iload_n (pc' := 110) hC 1 dX11_who_109 rfl rfl rfl ?_
                    refine j_iload_n (pc' := 111) hC 2 dX11_who_110 rfl rfl rfl ?_
                    refine j_iload (pc' := 113) hC 6 dX11_who_111 rfl rfl ?_
                    refine j_iload_n (pc' := 114) hC 3 dX11_who_113 rfl rfl rfl ?_
                    refine j_callV_i (pc' := 117) (As := [.int p1, .int p2, .int a.2.2, .int p3]) (st := []) hC (X_at_0 d _) rfl (kX11_firstUnlike l d A _ _ _ _ _) (jgV ml_X11_247 im_X11_firstUnlike se_X11_firstUnlike in_X11 cd_X11_firstUnlike) rfl rfl rfl hyV_X11_firstUnlike ⟨Nat.le_of_ble_eq_true rfl, Nat.le_of_ble_eq_true rfl⟩ rfl rfl (Nat.le_of_ble_eq_true rfl) dX11_who_114 rfl (fun q5 => ?_)
                    refine j_bipush (pc' := 119) (v := (-2 : Int32)) hC dX11_who_117 (by decide) rfl ?_
                    refine j_icmp_ne (pc' := 122) (tgt := 131) hC dX11_who_119 (by decide) rfl ?_ ?_
                    · exact j_lv (lv' := [(0, .ref (d.2.1 0)), (1, .int p1), (2, .int p2), (3, .int p3), (4, .int (p2 - p2 / (10 : Int32) * (10 : Int32))), (6, .int a.2.1), (7, .int a.2.2)]) [0, 1, 2, 3, 4, 5, 6] rfl (hj131 (q5.2, a.2.1))
                    · refine j_iload (pc' := 124) hC 5 dX11_who_122 rfl rfl ?_
                      refine j_iconst (pc' := 125) (v := (1 : Int32)) hC dX11_who_124 (by decide) rfl ?_
                      refine j_iload (pc' := 127) hC 6 dX11_who_125 rfl rfl ?_
                      refine j_ishl (pc' := 128) hC dX11_who_127 rfl ?_
                      refine j_ior (pc' := 129) hC dX11_who_128 rfl ?_
                      refine j_istore (pc' := 131) (lv' := [(6, .int (a.2.1 ||| ((1 : Int32) <<< (a.2.2 &&& 31)))), (0, .ref (d.2.1 0)), (1, .int p1), (2, .int p2), (3, .int p3), (4, .int (p2 - p2 / (10 : Int32) * (10 : Int32))), (7, .int a.2.2)]) hC dX11_who_129 (by decide) rfl rfl ?_
                      exact j_lv (lv' := [(0, .ref (d.2.1 0)), (1, .int p1), (2, .int p2), (3, .int p3), (4, .int (p2 - p2 / (10 : Int32) * (10 : Int32))), (6, .int (a.2.1 ||| ((1 : Int32) <<< (a.2.2 &&& 31)))), (7, .int a.2.2)]) [1, 2, 3, 4, 5, 0, 6] rfl (hj131 (q5.2, (a.2.1 ||| ((1 : Int32) <<< (a.2.2 &&& 31)))))
            · refine j_iload (pc' := 82) hC 0 dX11_who_80 rfl rfl ?_
              exact j_ret_i hC dX11_who_82
          · refine j_icmp_eq (pc' := 51) (tgt := 65) hC dX11_who_48 (by decide) rfl ?_ ?_
            · exact j_lv (lv' := [(0, .ref (d.2.1 0)), (1, .int p1), (2, .int p2), (3, .int p3), (4, .int (p2 - p2 / (10 : Int32) * (10 : Int32)))]) [1, 2, 3, 4, 0] rfl (hj65 ())
            · refine j_aload_n (pc' := 52) hC 1 dX11_who_51 rfl rfl rfl ?_
              refine j_get (pc' := 55) hC ly_X11 (X_at_0 d _) rfl 0 (by decide) fl_X11_10 rfl dX11_who_52 rfl ?_
              refine j_iload (pc' := 57) hC 0 dX11_who_55 rfl rfl ?_
              refine j_callV_zr (pc' := 60) (As := [.int (p2 - p2 / (10 : Int32) * (10 : Int32))]) (st := []) hC (X_at_1 d _) rfl (kX6_isChild l d A _ _) (jgV ml_X11_172 im_X6_isChild se_X6_isChild in_X6 cd_X6_isChild) rfl rfl rfl hyV_X6_isChild ⟨Nat.le_of_ble_eq_true rfl, Nat.le_of_ble_eq_true rfl⟩ rfl rfl (Nat.le_of_ble_eq_true rfl) dX11_who_57 rfl (fun q6 => ?_)
              refine j_if_ne (pc' := 63) (tgt := 65) hC dX11_who_60 (by decide) rfl ?_ ?_
              · exact j_lv (lv' := [(0, .ref (d.2.1 0)), (1, .int p1), (2, .int p2), (3, .int p3), (4, .int (p2 - p2 / (10 : Int32) * (10 : Int32)))]) [1, 2, 3, 4, 0] rfl (hj65 ())
              · refine j_iconst (pc' := 64) (v := (-1 : Int32)) hC dX11_who_63 (by decide) rfl ?_
                exact j_ret_i hC dX11_who_64
        · refine j_iconst (pc' := 37) (v := (-1 : Int32)) hC dX11_who_36 (by decide) rfl ?_
          exact j_ret_i hC dX11_who_37
theorem hyV_X11_sure : yX11_sure.cls = RX11 ∧ yX11_sure.cls ≠ "java/lang/invoke/MethodHandle" ∧ yX11_sure.cls ≠ "java/lang/invoke/VarHandle" ∧ (parseMethodDescriptor yX11_sure.desc).map (fun d => d.parameters.length) = some 3 := ⟨rfl, by decide +kernel, by decide +kernel, by decide +kernel⟩
noncomputable def fX11_sure_B46 (p1 : Int32) (p2 : Int32) (p3 : Int32) (s46 : jS × Int32 × Int32 → Option (Int32 × jS)) (a : jS × Int32 × Int32) : Option (Int32 × jS) :=
  (if (9 : Int32) < a.2.2 then (some (a.2.1, a.1)) else (Option.bind (fX11_childOf a.1 p2) fun (q4 : Int32) => (Option.bind (fX6_mayCount a.1 a.2.2 q4) fun (q5 : Int32) => (jlet (fun (a103 : jS × Int32) => (s46 (a103.1, a103.2, (a.2.2 + (1 : Int32))))) fun (j103 : (jS × Int32 → Option (Int32 × jS))) => (if (jb q5) = 0 then (j103 (a.1, a.2.1)) else (Option.bind (fX11_swingOf a.1 p2) fun (q6 : Int32) => (Option.bind (fX11_childOf a.1 p2) fun (q7 : Int32) => (Option.bind (fX11_firstUnlike a.1 p1 ((q6 * (10 : Int32)) + a.2.2) q7 p3) fun (q8 : (Int32 × jS)) => (if q8.1 = (-2 : Int32) then (j103 (q8.2, (a.2.1 ||| ((1 : Int32) <<< (a.2.2 &&& 31))))) else (j103 (q8.2, a.2.1)))))))))))
noncomputable def fX11_sure (σ : jS) (p1 : Int32) (p2 : Int32) (p3 : Int32) : Option (Int32 × jS) :=
  (Option.bind (fX9_isShelf σ p1) fun (q1 : Int32) => (if (jb q1) = 0 then (some ((-1 : Int32), σ)) else (Option.bind (fX11_isTold σ p2 p3) fun (q2 : Int32) => (if (jb q2) = 0 then (some ((-1 : Int32), σ)) else (Option.bind (fX9_refusalOfBytes σ p1) fun (q3 : Int32) => (if q3 = 0 then (jloop (fX11_sure_B46 p1 p2 p3) jN (σ, (0 : Int32), (0 : Int32))) else (some (q3, σ))))))))
set_option maxRecDepth 100000 in
set_option maxHeartbeats 4000000 in
theorem kX11_sure (l : Launch) (d : jD) (A : Nat → Prop) (σ : jS) (p1 : Int32) (p2 : Int32) (p3 : Int32) : jMi l yX11_sure (jws yX11_sure cX11_sure 7 (some (.int))) { frames := 8, cells := 0, slots := 0, locals := 282 } d wX A [.ref (d.2.1 0), .int p1, .int p2, .int p3] σ (fX11_sure σ p1 p2 p3) := by
  refine jStart_i (lv0 := [(0, .ref (d.2.1 0)), (1, .int p1), (2, .int p2), (3, .int p3)]) (by decide) rfl (Nat.le_of_ble_eq_true rfl) rfl (fun z hC res => ?_)
  unfold fX11_sure
  refine j_aload_n (pc' := 1) hC 0 dX11_sure_0 rfl rfl rfl ?_
  refine j_get (pc' := 4) hC ly_X11 (X_at_0 d _) rfl 10 (by decide) fl_X11_84 rfl dX11_sure_1 rfl ?_
  refine j_iload_n (pc' := 5) hC 1 dX11_sure_4 rfl rfl rfl ?_
  refine j_callV_zr (pc' := 8) (As := [.int p1]) (st := []) hC (X_at_44 d _) rfl (kX9_isShelf l d A _ _) (jgV ml_X11_92 im_X9_isShelf se_X9_isShelf in_X9 cd_X9_isShelf) rfl rfl rfl hyV_X9_isShelf ⟨Nat.le_of_ble_eq_true rfl, Nat.le_of_ble_eq_true rfl⟩ rfl rfl (Nat.le_of_ble_eq_true rfl) dX11_sure_5 rfl (fun q1 => ?_)
  refine j_if_eq (pc' := 11) (tgt := 20) hC dX11_sure_8 (by decide) rfl ?_ ?_
  · refine j_iconst (pc' := 21) (v := (-1 : Int32)) hC dX11_sure_20 (by decide) rfl ?_
    exact j_ret_i hC dX11_sure_21
  · refine j_aload_n (pc' := 12) hC 0 dX11_sure_11 rfl rfl rfl ?_
    refine j_iload_n (pc' := 13) hC 2 dX11_sure_12 rfl rfl rfl ?_
    refine j_iload_n (pc' := 14) hC 3 dX11_sure_13 rfl rfl rfl ?_
    refine j_callV_zr (pc' := 17) (As := [.int p2, .int p3]) (st := []) hC (X_at_0 d _) rfl (kX11_isTold l d A _ _ _) (jgV ml_X11_129 im_X11_isTold se_X11_isTold in_X11 cd_X11_isTold) rfl rfl rfl hyV_X11_isTold ⟨Nat.le_of_ble_eq_true rfl, Nat.le_of_ble_eq_true rfl⟩ rfl rfl (Nat.le_of_ble_eq_true rfl) dX11_sure_14 rfl (fun q2 => ?_)
    refine j_if_ne (pc' := 20) (tgt := 22) hC dX11_sure_17 (by decide) rfl ?_ ?_
    · refine j_aload_n (pc' := 23) hC 0 dX11_sure_22 rfl rfl rfl ?_
      refine j_get (pc' := 26) hC ly_X11 (X_at_0 d _) rfl 10 (by decide) fl_X11_84 rfl dX11_sure_23 rfl ?_
      refine j_iload_n (pc' := 27) hC 1 dX11_sure_26 rfl rfl rfl ?_
      refine j_callV_ir (pc' := 30) (As := [.int p1]) (st := []) hC (X_at_44 d _) rfl (kX9_refusalOfBytes l d A _ _) (jgV ml_X11_96 im_X9_refusalOfBytes se_X9_refusalOfBytes in_X9 cd_X9_refusalOfBytes) rfl rfl rfl hyV_X9_refusalOfBytes ⟨Nat.le_of_ble_eq_true rfl, Nat.le_of_ble_eq_true rfl⟩ rfl rfl (Nat.le_of_ble_eq_true rfl) dX11_sure_27 rfl (fun q3 => ?_)
      refine j_istore (pc' := 32) (lv' := [(4, .int q3), (0, .ref (d.2.1 0)), (1, .int p1), (2, .int p2), (3, .int p3)]) hC dX11_sure_30 (by decide) rfl rfl ?_
      refine j_iload (pc' := 34) hC 0 dX11_sure_32 rfl rfl ?_
      refine j_if_eq (pc' := 37) (tgt := 40) hC dX11_sure_34 (by decide) rfl ?_ ?_
      · refine j_iconst (pc' := 41) (v := (0 : Int32)) hC dX11_sure_40 (by decide) rfl ?_
        refine j_istore (pc' := 43) (lv' := [(5, .int (0 : Int32)), (4, .int q3), (0, .ref (d.2.1 0)), (1, .int p1), (2, .int p2), (3, .int p3)]) hC dX11_sure_41 (by decide) rfl rfl ?_
        refine j_iconst (pc' := 44) (v := (0 : Int32)) hC dX11_sure_43 (by decide) rfl ?_
        refine j_istore (pc' := 46) (lv' := [(6, .int (0 : Int32)), (5, .int (0 : Int32)), (4, .int q3), (0, .ref (d.2.1 0)), (1, .int p1), (2, .int p2), (3, .int p3)]) hC dX11_sure_44 (by decide) rfl rfl ?_
        refine j_lv (lv' := [(0, .ref (d.2.1 0)), (1, .int p1), (2, .int p2), (3, .int p3), (5, .int (0 : Int32)), (6, .int (0 : Int32))]) [3, 4, 5, 6, 1, 0] rfl ?_
        refine j_loop 46 (fun a => a.1) (fun a => [(0, .ref (d.2.1 0)), (1, .int p1), (2, .int p2), (3, .int p3), (5, .int a.2.1), (6, .int a.2.2)]) (fun s46 hs46 a => ?_) jN (σ, (0 : Int32), (0 : Int32))
        unfold fX11_sure_B46
        refine j_iload (pc' := 48) hC 5 dX11_sure_46 rfl rfl ?_
        refine j_bipush (pc' := 50) (v := (9 : Int32)) hC dX11_sure_48 (by decide) rfl ?_
        refine j_icmp_gt (pc' := 53) (tgt := 109) hC dX11_sure_50 (by decide) rfl ?_ ?_
        · refine j_iload (pc' := 111) hC 4 dX11_sure_109 rfl rfl ?_
          exact j_ret_i hC dX11_sure_111
        · refine j_aload_n (pc' := 54) hC 0 dX11_sure_53 rfl rfl rfl ?_
          refine j_get (pc' := 57) hC ly_X11 (X_at_0 d _) rfl 0 (by decide) fl_X11_10 rfl dX11_sure_54 rfl ?_
          refine j_iload (pc' := 59) hC 5 dX11_sure_57 rfl rfl ?_
          refine j_iload_n (pc' := 60) hC 2 dX11_sure_59 rfl rfl rfl ?_
          refine j_callS_ir (pc' := 63) (As := [.int p2]) (st := [.int a.2.2, .ref (d.2.1 1)]) hC (kX11_childOf l d A _ _) (jgS ml_X11_136 st_X11_childOf in_X11 cd_X11_childOf) rfl rfl rfl hyS_X11_childOf ⟨Nat.le_of_ble_eq_true rfl, Nat.le_of_ble_eq_true rfl⟩ rfl rfl (Nat.le_of_ble_eq_true rfl) dX11_sure_60 rfl (fun q4 => ?_)
          refine j_callV_zr (pc' := 66) (As := [.int a.2.2, .int q4]) (st := []) hC (X_at_1 d _) rfl (kX6_mayCount l d A _ _ _) (jgV ml_X11_162 im_X6_mayCount se_X6_mayCount in_X6 cd_X6_mayCount) rfl rfl rfl hyV_X6_mayCount ⟨Nat.le_of_ble_eq_true rfl, Nat.le_of_ble_eq_true rfl⟩ rfl rfl (Nat.le_of_ble_eq_true rfl) dX11_sure_63 rfl (fun q5 => ?_)
          refine j_let 103 (fun a103 => a103.1) (fun a103 => [(0, .ref (d.2.1 0)), (1, .int p1), (2, .int p2), (3, .int p3), (5, .int a103.2), (6, .int a.2.2)]) (fun a103 => []) (fun a103 => ?_) (fun j103 hj103 => ?_)
          · refine j_iinc (pc' := 106) (v := (a.2.2 + (1 : Int32))) (lv' := [(6, .int (a.2.2 + (1 : Int32))), (0, .ref (d.2.1 0)), (1, .int p1), (2, .int p2), (3, .int p3), (5, .int a103.2)]) hC 5 dX11_sure_103 rfl (by decide) rfl rfl rfl ?_
            refine j_goto (tgt := 46) hC dX11_sure_106 (by decide) ?_
            exact j_lv (lv' := [(0, .ref (d.2.1 0)), (1, .int p1), (2, .int p2), (3, .int p3), (5, .int a103.2), (6, .int (a.2.2 + (1 : Int32)))]) [1, 2, 3, 4, 5, 0] rfl (hs46 (a103.1, a103.2, (a.2.2 + (1 : Int32))))
          · refine j_if_eq (pc' := 69) (tgt := 103) hC dX11_sure_66 (by decide) rfl ?_ ?_
            · exact j_lv (lv' := [(0, .ref (d.2.1 0)), (1, .int p1), (2, .int p2), (3, .int p3), (5, .int a.2.1), (6, .int a.2.2)]) [0, 1, 2, 3, 4, 5] rfl (hj103 (a.1, a.2.1))
            · refine j_aload_n (pc' := 70) hC 0 dX11_sure_69 rfl rfl rfl ?_
              refine j_iload_n (pc' := 71) hC 1 dX11_sure_70 rfl rfl rfl ?_
              refine j_iload_n (pc' := 72) hC 2 dX11_sure_71 rfl rfl rfl ?_
              refine j_callS_ir (pc' := 75) (As := [.int p2]) (st := [.int p1, .ref (d.2.1 0)]) hC (kX11_swingOf l d A _ _) (jgS ml_X11_133 st_X11_swingOf in_X11 cd_X11_swingOf) rfl rfl rfl hyS_X11_swingOf ⟨Nat.le_of_ble_eq_true rfl, Nat.le_of_ble_eq_true rfl⟩ rfl rfl (Nat.le_of_ble_eq_true rfl) dX11_sure_72 rfl (fun q6 => ?_)
              refine j_bipush (pc' := 77) (v := (10 : Int32)) hC dX11_sure_75 (by decide) rfl ?_
              refine j_imul (pc' := 78) hC dX11_sure_77 rfl ?_
              refine j_iload (pc' := 80) hC 5 dX11_sure_78 rfl rfl ?_
              refine j_iadd (pc' := 81) hC dX11_sure_80 rfl ?_
              refine j_iload_n (pc' := 82) hC 2 dX11_sure_81 rfl rfl rfl ?_
              refine j_callS_ir (pc' := 85) (As := [.int p2]) (st := [.int ((q6 * (10 : Int32)) + a.2.2), .int p1, .ref (d.2.1 0)]) hC (kX11_childOf l d A _ _) (jgS ml_X11_136 st_X11_childOf in_X11 cd_X11_childOf) rfl rfl rfl hyS_X11_childOf ⟨Nat.le_of_ble_eq_true rfl, Nat.le_of_ble_eq_true rfl⟩ rfl rfl (Nat.le_of_ble_eq_true rfl) dX11_sure_82 rfl (fun q7 => ?_)
              refine j_iload_n (pc' := 86) hC 3 dX11_sure_85 rfl rfl rfl ?_
              refine j_callV_i (pc' := 89) (As := [.int p1, .int ((q6 * (10 : Int32)) + a.2.2), .int q7, .int p3]) (st := []) hC (X_at_0 d _) rfl (kX11_firstUnlike l d A _ _ _ _ _) (jgV ml_X11_247 im_X11_firstUnlike se_X11_firstUnlike in_X11 cd_X11_firstUnlike) rfl rfl rfl hyV_X11_firstUnlike ⟨Nat.le_of_ble_eq_true rfl, Nat.le_of_ble_eq_true rfl⟩ rfl rfl (Nat.le_of_ble_eq_true rfl) dX11_sure_86 rfl (fun q8 => ?_)
              refine j_bipush (pc' := 91) (v := (-2 : Int32)) hC dX11_sure_89 (by decide) rfl ?_
              refine j_icmp_ne (pc' := 94) (tgt := 103) hC dX11_sure_91 (by decide) rfl ?_ ?_
              · exact j_lv (lv' := [(0, .ref (d.2.1 0)), (1, .int p1), (2, .int p2), (3, .int p3), (5, .int a.2.1), (6, .int a.2.2)]) [0, 1, 2, 3, 4, 5] rfl (hj103 (q8.2, a.2.1))
              · refine j_iload (pc' := 96) hC 4 dX11_sure_94 rfl rfl ?_
                refine j_iconst (pc' := 97) (v := (1 : Int32)) hC dX11_sure_96 (by decide) rfl ?_
                refine j_iload (pc' := 99) hC 5 dX11_sure_97 rfl rfl ?_
                refine j_ishl (pc' := 100) hC dX11_sure_99 rfl ?_
                refine j_ior (pc' := 101) hC dX11_sure_100 rfl ?_
                refine j_istore (pc' := 103) (lv' := [(5, .int (a.2.1 ||| ((1 : Int32) <<< (a.2.2 &&& 31)))), (0, .ref (d.2.1 0)), (1, .int p1), (2, .int p2), (3, .int p3), (6, .int a.2.2)]) hC dX11_sure_101 (by decide) rfl rfl ?_
                exact j_lv (lv' := [(0, .ref (d.2.1 0)), (1, .int p1), (2, .int p2), (3, .int p3), (5, .int (a.2.1 ||| ((1 : Int32) <<< (a.2.2 &&& 31)))), (6, .int a.2.2)]) [1, 2, 3, 4, 0, 5] rfl (hj103 (q8.2, (a.2.1 ||| ((1 : Int32) <<< (a.2.2 &&& 31)))))
      · refine j_iload (pc' := 39) hC 0 dX11_sure_37 rfl rfl ?_
        exact j_ret_i hC dX11_sure_39
    · refine j_iconst (pc' := 21) (v := (-1 : Int32)) hC dX11_sure_20 (by decide) rfl ?_
      exact j_ret_i hC dX11_sure_21
theorem hyV_X11_on : yX11_on.cls = RX11 ∧ yX11_on.cls ≠ "java/lang/invoke/MethodHandle" ∧ yX11_on.cls ≠ "java/lang/invoke/VarHandle" ∧ (parseMethodDescriptor yX11_on.desc).map (fun d => d.parameters.length) = some 1 := ⟨rfl, by decide +kernel, by decide +kernel, by decide +kernel⟩
noncomputable def fX11_on (σ : jS) (p1 : Int32) : Option (Int32 × jS) :=
  (Option.bind (fX11_isTold σ p1 (0 : Int32)) fun (q1 : Int32) => (if (jb q1) = 0 then (some ((-1 : Int32), σ)) else (if (jb (σ.1 37 1)) = 0 then (jst (ju σ 37 1 (1 : Int32)) fun (σ2 : jS) => (Option.bind (fX11_swingOf σ2 p1) fun (q3 : Int32) => (Option.bind (fX11_childOf σ2 p1) fun (q4 : Int32) => (Option.bind (fX10_begin 38 σ2 q3 q4 (p1 - p1 / (10 : Int32) * (10 : Int32))) fun (q5 : jS) => (some ((q5.1 38 1), q5)))))) else (some ((-5 : Int32), σ)))))
set_option maxRecDepth 100000 in
set_option maxHeartbeats 4000000 in
theorem kX11_on (l : Launch) (d : jD) (A : Nat → Prop) (σ : jS) (p1 : Int32) : jMi l yX11_on (jws yX11_on cX11_on 2 (some (.int))) { frames := 5, cells := 0, slots := 0, locals := 195 } d wX A [.ref (d.2.1 0), .int p1] σ (fX11_on σ p1) := by
  refine jStart_i (lv0 := [(0, .ref (d.2.1 0)), (1, .int p1)]) (by decide) rfl (Nat.le_of_ble_eq_true rfl) rfl (fun z hC res => ?_)
  unfold fX11_on
  refine j_aload_n (pc' := 1) hC 0 dX11_on_0 rfl rfl rfl ?_
  refine j_iload_n (pc' := 2) hC 1 dX11_on_1 rfl rfl rfl ?_
  refine j_iconst (pc' := 3) (v := (0 : Int32)) hC dX11_on_2 (by decide) rfl ?_
  refine j_callV_zr (pc' := 6) (As := [.int p1, .int (0 : Int32)]) (st := []) hC (X_at_0 d _) rfl (kX11_isTold l d A _ _ _) (jgV ml_X11_129 im_X11_isTold se_X11_isTold in_X11 cd_X11_isTold) rfl rfl rfl hyV_X11_isTold ⟨Nat.le_of_ble_eq_true rfl, Nat.le_of_ble_eq_true rfl⟩ rfl rfl (Nat.le_of_ble_eq_true rfl) dX11_on_3 rfl (fun q1 => ?_)
  refine j_if_ne (pc' := 9) (tgt := 11) hC dX11_on_6 (by decide) rfl ?_ ?_
  · refine j_aload_n (pc' := 12) hC 0 dX11_on_11 rfl rfl rfl ?_
    refine j_get (pc' := 15) hC ly_X11 (X_at_0 d _) rfl 7 (by decide) fl_X11_67 rfl dX11_on_12 rfl ?_
    refine j_get (pc' := 18) hC ly_X2 (X_at_37 d _) rfl 1 (by decide) fl_X11_254 rfl dX11_on_15 rfl ?_
    refine j_if_eq (pc' := 21) (tgt := 24) hC dX11_on_18 (by decide) rfl ?_ ?_
    · refine j_aload_n (pc' := 25) hC 0 dX11_on_24 rfl rfl rfl ?_
      refine j_get (pc' := 28) hC ly_X11 (X_at_0 d _) rfl 7 (by decide) fl_X11_67 rfl dX11_on_25 rfl ?_
      refine j_iconst (pc' := 29) (v := (1 : Int32)) hC dX11_on_28 (by decide) rfl ?_
      refine j_topeq (show (1 : Int32) = jb (1 : Int32) by decide) ?_
      refine j_put (pc' := 32) hC ly_X2 tyX2 tyX2_ok nmX2 (X_at_37 d _) rfl 1 (by decide) fl_X11_254 rfl rfl (jb_nar _) (jb_fit _) (Nat.le_of_ble_eq_true rfl) (X_sf_37_1 d _ _) dX11_on_29 rfl ?_
      refine j_st (fun σ2 => ?_)
      refine j_aload_n (pc' := 33) hC 0 dX11_on_32 rfl rfl rfl ?_
      refine j_get (pc' := 36) hC ly_X11 (X_at_0 d _) rfl 7 (by decide) fl_X11_67 rfl dX11_on_33 rfl ?_
      refine j_get (pc' := 39) hC ly_X2 (X_at_37 d _) rfl 0 (by decide) fl_X11_258 rfl dX11_on_36 rfl ?_
      refine j_iload_n (pc' := 40) hC 1 dX11_on_39 rfl rfl rfl ?_
      refine j_callS_ir (pc' := 43) (As := [.int p1]) (st := [.ref (d.2.1 38)]) hC (kX11_swingOf l d A _ _) (jgS ml_X11_133 st_X11_swingOf in_X11 cd_X11_swingOf) rfl rfl rfl hyS_X11_swingOf ⟨Nat.le_of_ble_eq_true rfl, Nat.le_of_ble_eq_true rfl⟩ rfl rfl (Nat.le_of_ble_eq_true rfl) dX11_on_40 rfl (fun q3 => ?_)
      refine j_iload_n (pc' := 44) hC 1 dX11_on_43 rfl rfl rfl ?_
      refine j_callS_ir (pc' := 47) (As := [.int p1]) (st := [.int q3, .ref (d.2.1 38)]) hC (kX11_childOf l d A _ _) (jgS ml_X11_136 st_X11_childOf in_X11 cd_X11_childOf) rfl rfl rfl hyS_X11_childOf ⟨Nat.le_of_ble_eq_true rfl, Nat.le_of_ble_eq_true rfl⟩ rfl rfl (Nat.le_of_ble_eq_true rfl) dX11_on_44 rfl (fun q4 => ?_)
      refine j_iload_n (pc' := 48) hC 1 dX11_on_47 rfl rfl rfl ?_
      refine j_bipush (pc' := 50) (v := (10 : Int32)) hC dX11_on_48 (by decide) rfl ?_
      refine j_irem0 (pc' := 51) hC dX11_on_50 (by decide) rfl ?_
      refine j_callV_v (pc' := 54) (As := [.int q3, .int q4, .int (p1 - p1 / (10 : Int32) * (10 : Int32))]) (st := []) hC (X_at_38 d _) rfl (kX10_begin l d A (Or.inr (Or.inl rfl)) _ _ _ _) (jgV ml_X11_262 im_X10_begin se_X10_begin in_X10 cd_X10_begin) rfl rfl rfl hyV_X10_begin ⟨Nat.le_of_ble_eq_true rfl, Nat.le_of_ble_eq_true rfl⟩ rfl rfl (Nat.le_of_ble_eq_true rfl) dX11_on_51 rfl (fun q5 => ?_)
      refine j_aload_n (pc' := 55) hC 0 dX11_on_54 rfl rfl rfl ?_
      refine j_get (pc' := 58) hC ly_X11 (X_at_0 d _) rfl 7 (by decide) fl_X11_67 rfl dX11_on_55 rfl ?_
      refine j_get (pc' := 61) hC ly_X2 (X_at_37 d _) rfl 0 (by decide) fl_X11_258 rfl dX11_on_58 rfl ?_
      refine j_get (pc' := 64) hC ly_X10 (X_at_38 d _) rfl 1 (by decide) fl_X11_265 rfl dX11_on_61 rfl ?_
      exact j_ret_i hC dX11_on_64
    · refine j_bipush (pc' := 23) (v := (-5 : Int32)) hC dX11_on_21 (by decide) rfl ?_
      exact j_ret_i hC dX11_on_23
  · refine j_iconst (pc' := 10) (v := (-1 : Int32)) hC dX11_on_9 (by decide) rfl ?_
    exact j_ret_i hC dX11_on_10
theorem hyV_X11_push : yX11_push.cls = RX11 ∧ yX11_push.cls ≠ "java/lang/invoke/MethodHandle" ∧ yX11_push.cls ≠ "java/lang/invoke/VarHandle" ∧ (parseMethodDescriptor yX11_push.desc).map (fun d => d.parameters.length) = some 0 := ⟨rfl, by decide +kernel, by decide +kernel, by decide +kernel⟩
noncomputable def fX11_push (σ : jS) : Option (Int32 × jS) :=
  (if (jb (σ.1 37 1)) = 0 then (some ((-5 : Int32), σ)) else (Option.bind (fX6_waitingBehind σ (σ.1 38 0) (σ.1 38 1)) fun (q1 : Int32) => (Option.bind (fX8_step 38 σ q1) fun (q2 : jS) => (Option.bind (fX8_isOver 38 q2) fun (q3 : Int32) => (Option.bind (fX2_lead q2 (jb q3)) fun (q4 : jS) => (some ((q4.1 38 7), q4)))))))
set_option maxRecDepth 100000 in
set_option maxHeartbeats 4000000 in
theorem kX11_push (l : Launch) (d : jD) (A : Nat → Prop) (σ : jS) : jMi l yX11_push (jws yX11_push cX11_push 2 (some (.int))) { frames := 6, cells := 0, slots := 0, locals := 229 } d wX A [.ref (d.2.1 0)] σ (fX11_push σ) := by
  refine jStart_i (lv0 := [(0, .ref (d.2.1 0))]) (by decide) rfl (Nat.le_of_ble_eq_true rfl) rfl (fun z hC res => ?_)
  unfold fX11_push
  refine j_aload_n (pc' := 1) hC 0 dX11_push_0 rfl rfl rfl ?_
  refine j_get (pc' := 4) hC ly_X11 (X_at_0 d _) rfl 7 (by decide) fl_X11_67 rfl dX11_push_1 rfl ?_
  refine j_get (pc' := 7) hC ly_X2 (X_at_37 d _) rfl 1 (by decide) fl_X11_254 rfl dX11_push_4 rfl ?_
  refine j_if_ne (pc' := 10) (tgt := 13) hC dX11_push_7 (by decide) rfl ?_ ?_
  · refine j_aload_n (pc' := 14) hC 0 dX11_push_13 rfl rfl rfl ?_
    refine j_get (pc' := 17) hC ly_X11 (X_at_0 d _) rfl 7 (by decide) fl_X11_67 rfl dX11_push_14 rfl ?_
    refine j_get (pc' := 20) hC ly_X2 (X_at_37 d _) rfl 0 (by decide) fl_X11_258 rfl dX11_push_17 rfl ?_
    refine j_astore_n (pc' := 21) (lv' := [(1, .ref (d.2.1 38)), (0, .ref (d.2.1 0))]) hC dX11_push_20 rfl (by decide) rfl rfl ?_
    refine j_aload_n (pc' := 22) hC 1 dX11_push_21 rfl rfl rfl ?_
    refine j_get (pc' := 25) hC ly_X11 (X_at_0 d _) rfl 3 (by decide) fl_X11_37 rfl dX11_push_22 rfl ?_
    refine j_aload_n (pc' := 26) hC 0 dX11_push_25 rfl rfl rfl ?_
    refine j_aload_n (pc' := 27) hC 1 dX11_push_26 rfl rfl rfl ?_
    refine j_get (pc' := 30) hC ly_X11 (X_at_0 d _) rfl 0 (by decide) fl_X11_10 rfl dX11_push_27 rfl ?_
    refine j_aload_n (pc' := 31) hC 0 dX11_push_30 rfl rfl rfl ?_
    refine j_get (pc' := 34) hC ly_X10 (X_at_38 d _) rfl 0 (by decide) fl_X11_268 rfl dX11_push_31 rfl ?_
    refine j_aload_n (pc' := 35) hC 0 dX11_push_34 rfl rfl rfl ?_
    refine j_get (pc' := 38) hC ly_X10 (X_at_38 d _) rfl 1 (by decide) fl_X11_265 rfl dX11_push_35 rfl ?_
    refine j_callV_ir (pc' := 41) (As := [.int (σ.1 38 0), .int (σ.1 38 1)]) (st := [.ref (d.2.1 38), .ref (d.2.1 13)]) hC (X_at_1 d _) rfl (kX6_waitingBehind l d A _ _ _) (jgV ml_X11_271 im_X6_waitingBehind se_X6_waitingBehind in_X6 cd_X6_waitingBehind) rfl rfl rfl hyV_X6_waitingBehind ⟨Nat.le_of_ble_eq_true rfl, Nat.le_of_ble_eq_true rfl⟩ rfl rfl (Nat.le_of_ble_eq_true rfl) dX11_push_38 rfl (fun q1 => ?_)
    refine j_callV_v (pc' := 44) (As := [.ref (d.2.1 38), .int q1]) (st := []) hC (X_at_13 d _) rfl (kX8_step l d A (Or.inr (Or.inl rfl)) _ _) (jgV ml_X11_274 im_X8_step se_X8_step in_X8 cd_X8_step) rfl rfl rfl hyV_X8_step ⟨Nat.le_of_ble_eq_true rfl, Nat.le_of_ble_eq_true rfl⟩ rfl rfl (Nat.le_of_ble_eq_true rfl) dX11_push_41 rfl (fun q2 => ?_)
    refine j_aload_n (pc' := 45) hC 1 dX11_push_44 rfl rfl rfl ?_
    refine j_get (pc' := 48) hC ly_X11 (X_at_0 d _) rfl 7 (by decide) fl_X11_67 rfl dX11_push_45 rfl ?_
    refine j_aload_n (pc' := 49) hC 1 dX11_push_48 rfl rfl rfl ?_
    refine j_get (pc' := 52) hC ly_X11 (X_at_0 d _) rfl 3 (by decide) fl_X11_37 rfl dX11_push_49 rfl ?_
    refine j_aload_n (pc' := 53) hC 0 dX11_push_52 rfl rfl rfl ?_
    refine j_callV_zr (pc' := 56) (As := [.ref (d.2.1 38)]) (st := [.ref (d.2.1 37)]) hC (X_at_13 d _) rfl (kX8_isOver l d A (Or.inr (Or.inl rfl)) _) (jgV ml_X11_278 im_X8_isOver se_X8_isOver in_X8 cd_X8_isOver) rfl rfl rfl hyV_X8_isOver ⟨Nat.le_of_ble_eq_true rfl, Nat.le_of_ble_eq_true rfl⟩ rfl rfl (Nat.le_of_ble_eq_true rfl) dX11_push_53 rfl (fun q3 => ?_)
    refine j_callV_v (pc' := 59) (As := [.int (jb q3)]) (st := []) hC (X_at_37 d _) rfl (kX2_lead l d A _ _) (jgV ml_X11_282 im_X2_lead se_X2_lead in_X2 cd_X2_lead) rfl rfl rfl hyV_X2_lead ⟨Nat.le_of_ble_eq_true rfl, Nat.le_of_ble_eq_true rfl⟩ rfl rfl (Nat.le_of_ble_eq_true rfl) dX11_push_56 rfl (fun q4 => ?_)
    refine j_aload_n (pc' := 60) hC 0 dX11_push_59 rfl rfl rfl ?_
    refine j_get (pc' := 63) hC ly_X10 (X_at_38 d _) rfl 7 (by decide) fl_X11_286 rfl dX11_push_60 rfl ?_
    exact j_ret_i hC dX11_push_63
  · refine j_bipush (pc' := 12) (v := (-5 : Int32)) hC dX11_push_10 (by decide) rfl ?_
    exact j_ret_i hC dX11_push_12
theorem hyV_X11_off : yX11_off.cls = RX11 ∧ yX11_off.cls ≠ "java/lang/invoke/MethodHandle" ∧ yX11_off.cls ≠ "java/lang/invoke/VarHandle" ∧ (parseMethodDescriptor yX11_off.desc).map (fun d => d.parameters.length) = some 0 := ⟨rfl, by decide +kernel, by decide +kernel, by decide +kernel⟩
noncomputable def fX11_off (σ : jS) : Option (Int32 × jS) :=
  (if (jb (σ.1 37 1)) = 0 then (some ((-5 : Int32), σ)) else (jst (ju σ 37 1 (0 : Int32)) fun (σ1 : jS) => (jst (ju σ1 37 5 ((σ1.1 37 5) + (1 : Int32))) fun (σ2 : jS) => (some ((σ2.1 38 3), σ2)))))
set_option maxRecDepth 100000 in
set_option maxHeartbeats 4000000 in
theorem kX11_off (l : Launch) (d : jD) (A : Nat → Prop) (σ : jS) : jMi l yX11_off (jws yX11_off cX11_off 1 (some (.int))) { frames := 2, cells := 0, slots := 0, locals := 130 } d wX A [.ref (d.2.1 0)] σ (fX11_off σ) := by
  refine jStart_i (lv0 := [(0, .ref (d.2.1 0))]) (by decide) rfl (Nat.le_of_ble_eq_true rfl) rfl (fun z hC res => ?_)
  unfold fX11_off
  refine j_aload_n (pc' := 1) hC 0 dX11_off_0 rfl rfl rfl ?_
  refine j_get (pc' := 4) hC ly_X11 (X_at_0 d _) rfl 7 (by decide) fl_X11_67 rfl dX11_off_1 rfl ?_
  refine j_get (pc' := 7) hC ly_X2 (X_at_37 d _) rfl 1 (by decide) fl_X11_254 rfl dX11_off_4 rfl ?_
  refine j_if_ne (pc' := 10) (tgt := 13) hC dX11_off_7 (by decide) rfl ?_ ?_
  · refine j_aload_n (pc' := 14) hC 0 dX11_off_13 rfl rfl rfl ?_
    refine j_get (pc' := 17) hC ly_X11 (X_at_0 d _) rfl 7 (by decide) fl_X11_67 rfl dX11_off_14 rfl ?_
    refine j_iconst (pc' := 18) (v := (0 : Int32)) hC dX11_off_17 (by decide) rfl ?_
    refine j_topeq (show (0 : Int32) = jb (0 : Int32) by decide) ?_
    refine j_put (pc' := 21) hC ly_X2 tyX2 tyX2_ok nmX2 (X_at_37 d _) rfl 1 (by decide) fl_X11_254 rfl rfl (jb_nar _) (jb_fit _) (Nat.le_of_ble_eq_true rfl) (X_sf_37_1 d _ _) dX11_off_18 rfl ?_
    refine j_st (fun σ1 => ?_)
    refine j_aload_n (pc' := 22) hC 0 dX11_off_21 rfl rfl rfl ?_
    refine j_get (pc' := 25) hC ly_X11 (X_at_0 d _) rfl 7 (by decide) fl_X11_67 rfl dX11_off_22 rfl ?_
    refine j_dup (pc' := 26) hC rfl dX11_off_25 rfl ?_
    refine j_get (pc' := 29) hC ly_X2 (X_at_37 d _) rfl 5 (by decide) fl_X11_289 rfl dX11_off_26 rfl ?_
    refine j_iconst (pc' := 30) (v := (1 : Int32)) hC dX11_off_29 (by decide) rfl ?_
    refine j_iadd (pc' := 31) hC dX11_off_30 rfl ?_
    refine j_put (pc' := 34) hC ly_X2 tyX2 tyX2_ok nmX2 (X_at_37 d _) rfl 5 (by decide) fl_X11_289 rfl rfl rfl rfl (Nat.le_of_ble_eq_true rfl) (X_sf_37_5 d _ _) dX11_off_31 rfl ?_
    refine j_st (fun σ2 => ?_)
    refine j_aload_n (pc' := 35) hC 0 dX11_off_34 rfl rfl rfl ?_
    refine j_get (pc' := 38) hC ly_X11 (X_at_0 d _) rfl 7 (by decide) fl_X11_67 rfl dX11_off_35 rfl ?_
    refine j_get (pc' := 41) hC ly_X2 (X_at_37 d _) rfl 0 (by decide) fl_X11_258 rfl dX11_off_38 rfl ?_
    refine j_get (pc' := 44) hC ly_X10 (X_at_38 d _) rfl 3 (by decide) fl_X11_143 rfl dX11_off_41 rfl ?_
    exact j_ret_i hC dX11_off_44
  · refine j_bipush (pc' := 12) (v := (-5 : Int32)) hC dX11_off_10 (by decide) rfl ?_
    exact j_ret_i hC dX11_off_12
theorem hyV_X11_led : yX11_led.cls = RX11 ∧ yX11_led.cls ≠ "java/lang/invoke/MethodHandle" ∧ yX11_led.cls ≠ "java/lang/invoke/VarHandle" ∧ (parseMethodDescriptor yX11_led.desc).map (fun d => d.parameters.length) = some 1 := ⟨rfl, by decide +kernel, by decide +kernel, by decide +kernel⟩
noncomputable def fX11_led (σ : jS) (p1 : Int32) : Option (Int32) :=
  (if p1 = (0 : Int32) then (some (σ.1 37 2)) else (if p1 = (1 : Int32) then (some (σ.1 37 3)) else (if p1 = (2 : Int32) then (some (σ.1 37 4)) else (if p1 = (3 : Int32) then (some (σ.1 37 5)) else (if p1 = (4 : Int32) then (some (σ.1 37 6)) else (if p1 = (5 : Int32) then (some (σ.1 37 7)) else (if p1 = (6 : Int32) then (if (jb (σ.1 37 1)) = 0 then (some (-5 : Int32)) else (some (σ.1 38 3))) else (if p1 = (7 : Int32) then (if (jb (σ.1 37 1)) = 0 then (some (-5 : Int32)) else (Option.bind (fX8_countedOf 38 σ) fun (q1 : Int32) => (some q1))) else (some (-1 : Int32))))))))))
set_option maxRecDepth 100000 in
set_option maxHeartbeats 4000000 in
theorem kX11_led (l : Launch) (d : jD) (A : Nat → Prop) (σ : jS) (p1 : Int32) : jMir l yX11_led (jws yX11_led cX11_led 2 (some (.int))) { frames := 5, cells := 0, slots := 0, locals := 196 } d wX A [.ref (d.2.1 0), .int p1] σ (fX11_led σ p1) := by
  refine jStart_ir (lv0 := [(0, .ref (d.2.1 0)), (1, .int p1)]) (by decide) rfl (Nat.le_of_ble_eq_true rfl) rfl (fun z hC res => ?_)
  unfold fX11_led
  refine j_iload_n (pc' := 1) hC 1 dX11_led_0 rfl rfl rfl ?_
  refine j_if (fun c0 => ?_) (fun c0 => ?_)
  · refine j_tableIn (tgt := 48) (off := 47) hC dX11_led_1 (by rw [c0]; decide) (by rw [c0]; decide) (by rw [c0]; rfl) (by decide) ?_
    refine j_aload_n (pc' := 49) hC 0 dX11_led_48 rfl rfl rfl ?_
    refine j_get (pc' := 52) hC ly_X11 (X_at_0 d _) rfl 7 (by decide) fl_X11_67 rfl dX11_led_49 rfl ?_
    refine j_get (pc' := 55) hC ly_X2 (X_at_37 d _) rfl 2 (by decide) fl_X11_292 rfl dX11_led_52 rfl ?_
    exact j_ret_ir hC dX11_led_55
  refine j_if (fun c1 => ?_) (fun c1 => ?_)
  · refine j_tableIn (tgt := 56) (off := 55) hC dX11_led_1 (by rw [c1]; decide) (by rw [c1]; decide) (by rw [c1]; rfl) (by decide) ?_
    refine j_aload_n (pc' := 57) hC 0 dX11_led_56 rfl rfl rfl ?_
    refine j_get (pc' := 60) hC ly_X11 (X_at_0 d _) rfl 7 (by decide) fl_X11_67 rfl dX11_led_57 rfl ?_
    refine j_get (pc' := 63) hC ly_X2 (X_at_37 d _) rfl 3 (by decide) fl_X11_295 rfl dX11_led_60 rfl ?_
    exact j_ret_ir hC dX11_led_63
  refine j_if (fun c2 => ?_) (fun c2 => ?_)
  · refine j_tableIn (tgt := 64) (off := 63) hC dX11_led_1 (by rw [c2]; decide) (by rw [c2]; decide) (by rw [c2]; rfl) (by decide) ?_
    refine j_aload_n (pc' := 65) hC 0 dX11_led_64 rfl rfl rfl ?_
    refine j_get (pc' := 68) hC ly_X11 (X_at_0 d _) rfl 7 (by decide) fl_X11_67 rfl dX11_led_65 rfl ?_
    refine j_get (pc' := 71) hC ly_X2 (X_at_37 d _) rfl 4 (by decide) fl_X11_296 rfl dX11_led_68 rfl ?_
    exact j_ret_ir hC dX11_led_71
  refine j_if (fun c3 => ?_) (fun c3 => ?_)
  · refine j_tableIn (tgt := 72) (off := 71) hC dX11_led_1 (by rw [c3]; decide) (by rw [c3]; decide) (by rw [c3]; rfl) (by decide) ?_
    refine j_aload_n (pc' := 73) hC 0 dX11_led_72 rfl rfl rfl ?_
    refine j_get (pc' := 76) hC ly_X11 (X_at_0 d _) rfl 7 (by decide) fl_X11_67 rfl dX11_led_73 rfl ?_
    refine j_get (pc' := 79) hC ly_X2 (X_at_37 d _) rfl 5 (by decide) fl_X11_289 rfl dX11_led_76 rfl ?_
    exact j_ret_ir hC dX11_led_79
  refine j_if (fun c4 => ?_) (fun c4 => ?_)
  · refine j_tableIn (tgt := 80) (off := 79) hC dX11_led_1 (by rw [c4]; decide) (by rw [c4]; decide) (by rw [c4]; rfl) (by decide) ?_
    refine j_aload_n (pc' := 81) hC 0 dX11_led_80 rfl rfl rfl ?_
    refine j_get (pc' := 84) hC ly_X11 (X_at_0 d _) rfl 7 (by decide) fl_X11_67 rfl dX11_led_81 rfl ?_
    refine j_get (pc' := 87) hC ly_X2 (X_at_37 d _) rfl 6 (by decide) fl_X11_297 rfl dX11_led_84 rfl ?_
    exact j_ret_ir hC dX11_led_87
  refine j_if (fun c5 => ?_) (fun c5 => ?_)
  · refine j_tableIn (tgt := 88) (off := 87) hC dX11_led_1 (by rw [c5]; decide) (by rw [c5]; decide) (by rw [c5]; rfl) (by decide) ?_
    refine j_aload_n (pc' := 89) hC 0 dX11_led_88 rfl rfl rfl ?_
    refine j_get (pc' := 92) hC ly_X11 (X_at_0 d _) rfl 7 (by decide) fl_X11_67 rfl dX11_led_89 rfl ?_
    refine j_get (pc' := 95) hC ly_X2 (X_at_37 d _) rfl 7 (by decide) fl_X11_298 rfl dX11_led_92 rfl ?_
    exact j_ret_ir hC dX11_led_95
  refine j_if (fun c6 => ?_) (fun c6 => ?_)
  · refine j_tableIn (tgt := 96) (off := 95) hC dX11_led_1 (by rw [c6]; decide) (by rw [c6]; decide) (by rw [c6]; rfl) (by decide) ?_
    refine j_aload_n (pc' := 97) hC 0 dX11_led_96 rfl rfl rfl ?_
    refine j_get (pc' := 100) hC ly_X11 (X_at_0 d _) rfl 7 (by decide) fl_X11_67 rfl dX11_led_97 rfl ?_
    refine j_get (pc' := 103) hC ly_X2 (X_at_37 d _) rfl 1 (by decide) fl_X11_254 rfl dX11_led_100 rfl ?_
    refine j_if_eq (pc' := 106) (tgt := 119) hC dX11_led_103 (by decide) rfl ?_ ?_
    · refine j_bipush (pc' := 121) (v := (-5 : Int32)) hC dX11_led_119 (by decide) rfl ?_
      exact j_ret_ir hC dX11_led_121
    · refine j_aload_n (pc' := 107) hC 0 dX11_led_106 rfl rfl rfl ?_
      refine j_get (pc' := 110) hC ly_X11 (X_at_0 d _) rfl 7 (by decide) fl_X11_67 rfl dX11_led_107 rfl ?_
      refine j_get (pc' := 113) hC ly_X2 (X_at_37 d _) rfl 0 (by decide) fl_X11_258 rfl dX11_led_110 rfl ?_
      refine j_get (pc' := 116) hC ly_X10 (X_at_38 d _) rfl 3 (by decide) fl_X11_143 rfl dX11_led_113 rfl ?_
      refine j_goto (tgt := 121) hC dX11_led_116 (by decide) ?_
      exact j_ret_ir hC dX11_led_121
  refine j_if (fun c7 => ?_) (fun c7 => ?_)
  · refine j_tableIn (tgt := 122) (off := 121) hC dX11_led_1 (by rw [c7]; decide) (by rw [c7]; decide) (by rw [c7]; rfl) (by decide) ?_
    refine j_aload_n (pc' := 123) hC 0 dX11_led_122 rfl rfl rfl ?_
    refine j_get (pc' := 126) hC ly_X11 (X_at_0 d _) rfl 7 (by decide) fl_X11_67 rfl dX11_led_123 rfl ?_
    refine j_get (pc' := 129) hC ly_X2 (X_at_37 d _) rfl 1 (by decide) fl_X11_254 rfl dX11_led_126 rfl ?_
    refine j_if_eq (pc' := 132) (tgt := 149) hC dX11_led_129 (by decide) rfl ?_ ?_
    · refine j_bipush (pc' := 151) (v := (-5 : Int32)) hC dX11_led_149 (by decide) rfl ?_
      exact j_ret_ir hC dX11_led_151
    · refine j_aload_n (pc' := 133) hC 0 dX11_led_132 rfl rfl rfl ?_
      refine j_get (pc' := 136) hC ly_X11 (X_at_0 d _) rfl 3 (by decide) fl_X11_37 rfl dX11_led_133 rfl ?_
      refine j_aload_n (pc' := 137) hC 0 dX11_led_136 rfl rfl rfl ?_
      refine j_get (pc' := 140) hC ly_X11 (X_at_0 d _) rfl 7 (by decide) fl_X11_67 rfl dX11_led_137 rfl ?_
      refine j_get (pc' := 143) hC ly_X2 (X_at_37 d _) rfl 0 (by decide) fl_X11_258 rfl dX11_led_140 rfl ?_
      refine j_callV_ir (pc' := 146) (As := [.ref (d.2.1 38)]) (st := []) hC (X_at_13 d _) rfl (kX8_countedOf l d A (Or.inr (Or.inl rfl)) _) (jgV ml_X11_155 im_X8_countedOf se_X8_countedOf in_X8 cd_X8_countedOf) rfl rfl rfl hyV_X8_countedOf ⟨Nat.le_of_ble_eq_true rfl, Nat.le_of_ble_eq_true rfl⟩ rfl rfl (Nat.le_of_ble_eq_true rfl) dX11_led_143 rfl (fun q1 => ?_)
      refine j_goto (tgt := 151) hC dX11_led_146 (by decide) ?_
      exact j_ret_ir hC dX11_led_151
  refine j_tableOut (tgt := 152) hC dX11_led_1 (by have e0 := lv_neT c0 (a := 0) rfl; have e1 := lv_neT c1 (a := 1) rfl; have e2 := lv_neT c2 (a := 2) rfl; have e3 := lv_neT c3 (a := 3) rfl; have e4 := lv_neT c4 (a := 4) rfl; have e5 := lv_neT c5 (a := 5) rfl; have e6 := lv_neT c6 (a := 6) rfl; have e7 := lv_neT c7 (a := 7) rfl; omega) (by decide) ?_
  refine j_iconst (pc' := 153) (v := (-1 : Int32)) hC dX11_led_152 (by decide) rfl ?_
  exact j_ret_ir hC dX11_led_153
theorem hyV_X11_image : yX11_image.cls = RX11 ∧ yX11_image.cls ≠ "java/lang/invoke/MethodHandle" ∧ yX11_image.cls ≠ "java/lang/invoke/VarHandle" ∧ (parseMethodDescriptor yX11_image.desc).map (fun d => d.parameters.length) = some 0 := ⟨rfl, by decide +kernel, by decide +kernel, by decide +kernel⟩
noncomputable def fX11_image (σ : jS) : Option (Int32 × jS) :=
  (Option.bind (fX2_copy 39 37 σ) fun (q1 : jS) => (jst (ju q1 0 11 (1 : Int32)) fun (σ2 : jS) => (some ((σ2.1 37 2), σ2))))
set_option maxRecDepth 100000 in
set_option maxHeartbeats 4000000 in
theorem kX11_image (l : Launch) (d : jD) (A : Nat → Prop) (σ : jS) : jMi l yX11_image (jws yX11_image cX11_image 1 (some (.int))) { frames := 5, cells := 0, slots := 0, locals := 195 } d wX A [.ref (d.2.1 0)] σ (fX11_image σ) := by
  refine jStart_i (lv0 := [(0, .ref (d.2.1 0))]) (by decide) rfl (Nat.le_of_ble_eq_true rfl) rfl (fun z hC res => ?_)
  unfold fX11_image
  refine j_aload_n (pc' := 1) hC 0 dX11_image_0 rfl rfl rfl ?_
  refine j_get (pc' := 4) hC ly_X11 (X_at_0 d _) rfl 8 (by decide) fl_X11_71 rfl dX11_image_1 rfl ?_
  refine j_aload_n (pc' := 5) hC 0 dX11_image_4 rfl rfl rfl ?_
  refine j_get (pc' := 8) hC ly_X11 (X_at_0 d _) rfl 7 (by decide) fl_X11_67 rfl dX11_image_5 rfl ?_
  refine j_callV_v (pc' := 11) (As := [.ref (d.2.1 37)]) (st := []) hC (X_at_39 d _) rfl (kX2_copy l d A (Or.inr rfl) (Or.inl rfl) _) (jgV ml_X11_301 im_X2_copy se_X2_copy in_X2 cd_X2_copy) rfl rfl rfl hyV_X2_copy ⟨Nat.le_of_ble_eq_true rfl, Nat.le_of_ble_eq_true rfl⟩ rfl rfl (Nat.le_of_ble_eq_true rfl) dX11_image_8 rfl (fun q1 => ?_)
  refine j_aload_n (pc' := 12) hC 0 dX11_image_11 rfl rfl rfl ?_
  refine j_iconst (pc' := 13) (v := (1 : Int32)) hC dX11_image_12 (by decide) rfl ?_
  refine j_topeq (show (1 : Int32) = jb (1 : Int32) by decide) ?_
  refine j_put (pc' := 16) hC ly_X11 tyX11 tyX11_ok nmX11 (X_at_0 d _) rfl 11 (by decide) fl_X11_305 rfl rfl (jb_nar _) (jb_fit _) (Nat.le_of_ble_eq_true rfl) (X_sf_0_11 d _ _) dX11_image_13 rfl ?_
  refine j_st (fun σ2 => ?_)
  refine j_aload_n (pc' := 17) hC 0 dX11_image_16 rfl rfl rfl ?_
  refine j_get (pc' := 20) hC ly_X11 (X_at_0 d _) rfl 7 (by decide) fl_X11_67 rfl dX11_image_17 rfl ?_
  refine j_get (pc' := 23) hC ly_X2 (X_at_37 d _) rfl 2 (by decide) fl_X11_292 rfl dX11_image_20 rfl ?_
  exact j_ret_i hC dX11_image_23
theorem hyV_X11_back : yX11_back.cls = RX11 ∧ yX11_back.cls ≠ "java/lang/invoke/MethodHandle" ∧ yX11_back.cls ≠ "java/lang/invoke/VarHandle" ∧ (parseMethodDescriptor yX11_back.desc).map (fun d => d.parameters.length) = some 0 := ⟨rfl, by decide +kernel, by decide +kernel, by decide +kernel⟩
noncomputable def fX11_back (σ : jS) : Option (Int32 × jS) :=
  (if (jb (σ.1 0 11)) = 0 then (some ((-5 : Int32), σ)) else (Option.bind (fX2_copy 37 39 σ) fun (q1 : jS) => (some ((q1.1 37 2), q1))))
set_option maxRecDepth 100000 in
set_option maxHeartbeats 4000000 in
theorem kX11_back (l : Launch) (d : jD) (A : Nat → Prop) (σ : jS) : jMi l yX11_back (jws yX11_back cX11_back 1 (some (.int))) { frames := 5, cells := 0, slots := 0, locals := 195 } d wX A [.ref (d.2.1 0)] σ (fX11_back σ) := by
  refine jStart_i (lv0 := [(0, .ref (d.2.1 0))]) (by decide) rfl (Nat.le_of_ble_eq_true rfl) rfl (fun z hC res => ?_)
  unfold fX11_back
  refine j_aload_n (pc' := 1) hC 0 dX11_back_0 rfl rfl rfl ?_
  refine j_get (pc' := 4) hC ly_X11 (X_at_0 d _) rfl 11 (by decide) fl_X11_305 rfl dX11_back_1 rfl ?_
  refine j_if_ne (pc' := 7) (tgt := 10) hC dX11_back_4 (by decide) rfl ?_ ?_
  · refine j_aload_n (pc' := 11) hC 0 dX11_back_10 rfl rfl rfl ?_
    refine j_get (pc' := 14) hC ly_X11 (X_at_0 d _) rfl 7 (by decide) fl_X11_67 rfl dX11_back_11 rfl ?_
    refine j_aload_n (pc' := 15) hC 0 dX11_back_14 rfl rfl rfl ?_
    refine j_get (pc' := 18) hC ly_X11 (X_at_0 d _) rfl 8 (by decide) fl_X11_71 rfl dX11_back_15 rfl ?_
    refine j_callV_v (pc' := 21) (As := [.ref (d.2.1 39)]) (st := []) hC (X_at_37 d _) rfl (kX2_copy l d A (Or.inl rfl) (Or.inr rfl) _) (jgV ml_X11_301 im_X2_copy se_X2_copy in_X2 cd_X2_copy) rfl rfl rfl hyV_X2_copy ⟨Nat.le_of_ble_eq_true rfl, Nat.le_of_ble_eq_true rfl⟩ rfl rfl (Nat.le_of_ble_eq_true rfl) dX11_back_18 rfl (fun q1 => ?_)
    refine j_aload_n (pc' := 22) hC 0 dX11_back_21 rfl rfl rfl ?_
    refine j_get (pc' := 25) hC ly_X11 (X_at_0 d _) rfl 7 (by decide) fl_X11_67 rfl dX11_back_22 rfl ?_
    refine j_get (pc' := 28) hC ly_X2 (X_at_37 d _) rfl 2 (by decide) fl_X11_292 rfl dX11_back_25 rfl ?_
    exact j_ret_i hC dX11_back_28
  · refine j_bipush (pc' := 9) (v := (-5 : Int32)) hC dX11_back_7 (by decide) rfl ?_
    exact j_ret_i hC dX11_back_9
theorem hyV_X11_undo : yX11_undo.cls = RX11 ∧ yX11_undo.cls ≠ "java/lang/invoke/MethodHandle" ∧ yX11_undo.cls ≠ "java/lang/invoke/VarHandle" ∧ (parseMethodDescriptor yX11_undo.desc).map (fun d => d.parameters.length) = some 0 := ⟨rfl, by decide +kernel, by decide +kernel, by decide +kernel⟩
noncomputable def fX11_undo (σ : jS) : Option (Int32 × jS) :=
  (Option.bind (fX1_takeBack σ) fun (q1 : (Int32 × jS)) => (some (q1.1, q1.2)))
set_option maxRecDepth 100000 in
set_option maxHeartbeats 4000000 in
theorem kX11_undo (l : Launch) (d : jD) (A : Nat → Prop) (σ : jS) : jMi l yX11_undo (jws yX11_undo cX11_undo 1 (some (.int))) { frames := 4, cells := 0, slots := 0, locals := 172 } d wX A [.ref (d.2.1 0)] σ (fX11_undo σ) := by
  refine jStart_i (lv0 := [(0, .ref (d.2.1 0))]) (by decide) rfl (Nat.le_of_ble_eq_true rfl) rfl (fun z hC res => ?_)
  unfold fX11_undo
  refine j_aload_n (pc' := 1) hC 0 dX11_undo_0 rfl rfl rfl ?_
  refine j_get (pc' := 4) hC ly_X11 (X_at_0 d _) rfl 1 (by decide) fl_X11_21 rfl dX11_undo_1 rfl ?_
  refine j_callV_i (pc' := 7) (As := []) (st := []) hC (X_at_3 d _) rfl (kX1_takeBack l d A _) (jgV ml_X11_308 im_X1_takeBack se_X1_takeBack in_X1 cd_X1_takeBack) rfl rfl rfl hyV_X1_takeBack ⟨Nat.le_of_ble_eq_true rfl, Nat.le_of_ble_eq_true rfl⟩ rfl rfl (Nat.le_of_ble_eq_true rfl) dX11_undo_4 rfl (fun q1 => ?_)
  exact j_ret_i hC dX11_undo_7
theorem hyV_X11_redo : yX11_redo.cls = RX11 ∧ yX11_redo.cls ≠ "java/lang/invoke/MethodHandle" ∧ yX11_redo.cls ≠ "java/lang/invoke/VarHandle" ∧ (parseMethodDescriptor yX11_redo.desc).map (fun d => d.parameters.length) = some 0 := ⟨rfl, by decide +kernel, by decide +kernel, by decide +kernel⟩
noncomputable def fX11_redo (σ : jS) : Option (Int32 × jS) :=
  (Option.bind (fX1_makeAgain σ) fun (q1 : (Int32 × jS)) => (some (q1.1, q1.2)))
set_option maxRecDepth 100000 in
set_option maxHeartbeats 4000000 in
theorem kX11_redo (l : Launch) (d : jD) (A : Nat → Prop) (σ : jS) : jMi l yX11_redo (jws yX11_redo cX11_redo 1 (some (.int))) { frames := 4, cells := 0, slots := 0, locals := 172 } d wX A [.ref (d.2.1 0)] σ (fX11_redo σ) := by
  refine jStart_i (lv0 := [(0, .ref (d.2.1 0))]) (by decide) rfl (Nat.le_of_ble_eq_true rfl) rfl (fun z hC res => ?_)
  unfold fX11_redo
  refine j_aload_n (pc' := 1) hC 0 dX11_redo_0 rfl rfl rfl ?_
  refine j_get (pc' := 4) hC ly_X11 (X_at_0 d _) rfl 1 (by decide) fl_X11_21 rfl dX11_redo_1 rfl ?_
  refine j_callV_i (pc' := 7) (As := []) (st := []) hC (X_at_3 d _) rfl (kX1_makeAgain l d A _) (jgV ml_X11_311 im_X1_makeAgain se_X1_makeAgain in_X1 cd_X1_makeAgain) rfl rfl rfl hyV_X1_makeAgain ⟨Nat.le_of_ble_eq_true rfl, Nat.le_of_ble_eq_true rfl⟩ rfl rfl (Nat.le_of_ble_eq_true rfl) dX11_redo_4 rfl (fun q1 => ?_)
  exact j_ret_i hC dX11_redo_7
theorem hyV_X11_body : yX11_body.cls = RX11 ∧ yX11_body.cls ≠ "java/lang/invoke/MethodHandle" ∧ yX11_body.cls ≠ "java/lang/invoke/VarHandle" ∧ (parseMethodDescriptor yX11_body.desc).map (fun d => d.parameters.length) = some 1 := ⟨rfl, by decide +kernel, by decide +kernel, by decide +kernel⟩
noncomputable def fX11_body (σ : jS) (p1 : Int32) : Option (Int32 × jS) :=
  (Option.bind (fX0_add σ p1) fun (q1 : (Int32 × jS)) => (some (q1.1, q1.2)))
set_option maxRecDepth 100000 in
set_option maxHeartbeats 4000000 in
theorem kX11_body (l : Launch) (d : jD) (A : Nat → Prop) (σ : jS) (p1 : Int32) : jMi l yX11_body (jws yX11_body cX11_body 2 (some (.int))) { frames := 4, cells := 0, slots := 0, locals := 171 } d wX A [.ref (d.2.1 0), .int p1] σ (fX11_body σ p1) := by
  refine jStart_i (lv0 := [(0, .ref (d.2.1 0)), (1, .int p1)]) (by decide) rfl (Nat.le_of_ble_eq_true rfl) rfl (fun z hC res => ?_)
  unfold fX11_body
  refine j_aload_n (pc' := 1) hC 0 dX11_body_0 rfl rfl rfl ?_
  refine j_get (pc' := 4) hC ly_X11 (X_at_0 d _) rfl 9 (by decide) fl_X11_77 rfl dX11_body_1 rfl ?_
  refine j_iload_n (pc' := 5) hC 1 dX11_body_4 rfl rfl rfl ?_
  refine j_callV_i (pc' := 8) (As := [.int p1]) (st := []) hC (X_at_41 d _) rfl (kX0_add l d A _ _) (jgV ml_X11_314 im_X0_add se_X0_add in_X0 cd_X0_add) rfl rfl rfl hyV_X0_add ⟨Nat.le_of_ble_eq_true rfl, Nat.le_of_ble_eq_true rfl⟩ rfl rfl (Nat.le_of_ble_eq_true rfl) dX11_body_5 rfl (fun q1 => ?_)
  exact j_ret_i hC dX11_body_8
theorem hyV_X11_act : yX11_act.cls = RX11 ∧ yX11_act.cls ≠ "java/lang/invoke/MethodHandle" ∧ yX11_act.cls ≠ "java/lang/invoke/VarHandle" ∧ (parseMethodDescriptor yX11_act.desc).map (fun d => d.parameters.length) = some 3 := ⟨rfl, by decide +kernel, by decide +kernel, by decide +kernel⟩
noncomputable def fX11_act (σ : jS) (p1 : Int32) (p2 : Int32) (p3 : Int32) : Option (Int32 × jS) :=
  (Option.bind (fX0_perform σ p1 p2 p3) fun (q1 : (Int32 × jS)) => (some (q1.1, q1.2)))
set_option maxRecDepth 100000 in
set_option maxHeartbeats 4000000 in
theorem kX11_act (l : Launch) (d : jD) (A : Nat → Prop) (σ : jS) (p1 : Int32) (p2 : Int32) (p3 : Int32) : jMi l yX11_act (jws yX11_act cX11_act 4 (some (.int))) { frames := 105, cells := 0, slots := 0, locals := 2721 } d wX A [.ref (d.2.1 0), .int p1, .int p2, .int p3] σ (fX11_act σ p1 p2 p3) := by
  refine jStart_i (lv0 := [(0, .ref (d.2.1 0)), (1, .int p1), (2, .int p2), (3, .int p3)]) (by decide) rfl (Nat.le_of_ble_eq_true rfl) rfl (fun z hC res => ?_)
  unfold fX11_act
  refine j_aload_n (pc' := 1) hC 0 dX11_act_0 rfl rfl rfl ?_
  refine j_get (pc' := 4) hC ly_X11 (X_at_0 d _) rfl 9 (by decide) fl_X11_77 rfl dX11_act_1 rfl ?_
  refine j_iload_n (pc' := 5) hC 1 dX11_act_4 rfl rfl rfl ?_
  refine j_iload_n (pc' := 6) hC 2 dX11_act_5 rfl rfl rfl ?_
  refine j_iload_n (pc' := 7) hC 3 dX11_act_6 rfl rfl rfl ?_
  refine j_callV_i (pc' := 10) (As := [.int p1, .int p2, .int p3]) (st := []) hC (X_at_41 d _) rfl (kX0_perform l d A _ _ _ _) (jgV ml_X11_317 im_X0_perform se_X0_perform in_X0 cd_X0_perform) rfl rfl rfl hyV_X0_perform ⟨Nat.le_of_ble_eq_true rfl, Nat.le_of_ble_eq_true rfl⟩ rfl rfl (Nat.le_of_ble_eq_true rfl) dX11_act_7 rfl (fun q1 => ?_)
  exact j_ret_i hC dX11_act_10
theorem hyV_X11_trace : yX11_trace.cls = RX11 ∧ yX11_trace.cls ≠ "java/lang/invoke/MethodHandle" ∧ yX11_trace.cls ≠ "java/lang/invoke/VarHandle" ∧ (parseMethodDescriptor yX11_trace.desc).map (fun d => d.parameters.length) = some 1 := ⟨rfl, by decide +kernel, by decide +kernel, by decide +kernel⟩
noncomputable def fX11_trace (σ : jS) (p1 : Int32) : Option (Int32) :=
  (Option.bind (fX0_traceAt σ p1) fun (q1 : Int32) => (some q1))
set_option maxRecDepth 100000 in
set_option maxHeartbeats 4000000 in
theorem kX11_trace (l : Launch) (d : jD) (A : Nat → Prop) (σ : jS) (p1 : Int32) : jMir l yX11_trace (jws yX11_trace cX11_trace 2 (some (.int))) { frames := 3, cells := 0, slots := 0, locals := 151 } d wX A [.ref (d.2.1 0), .int p1] σ (fX11_trace σ p1) := by
  refine jStart_ir (lv0 := [(0, .ref (d.2.1 0)), (1, .int p1)]) (by decide) rfl (Nat.le_of_ble_eq_true rfl) rfl (fun z hC res => ?_)
  unfold fX11_trace
  refine j_aload_n (pc' := 1) hC 0 dX11_trace_0 rfl rfl rfl ?_
  refine j_get (pc' := 4) hC ly_X11 (X_at_0 d _) rfl 9 (by decide) fl_X11_77 rfl dX11_trace_1 rfl ?_
  refine j_iload_n (pc' := 5) hC 1 dX11_trace_4 rfl rfl rfl ?_
  refine j_callV_ir (pc' := 8) (As := [.int p1]) (st := []) hC (X_at_41 d _) rfl (kX0_traceAt l d A _ _) (jgV ml_X11_320 im_X0_traceAt se_X0_traceAt in_X0 cd_X0_traceAt) rfl rfl rfl hyV_X0_traceAt ⟨Nat.le_of_ble_eq_true rfl, Nat.le_of_ble_eq_true rfl⟩ rfl rfl (Nat.le_of_ble_eq_true rfl) dX11_trace_5 rfl (fun q1 => ?_)
  exact j_ret_ir hC dX11_trace_8
theorem hyV_X11_keep : yX11_keep.cls = RX11 ∧ yX11_keep.cls ≠ "java/lang/invoke/MethodHandle" ∧ yX11_keep.cls ≠ "java/lang/invoke/VarHandle" ∧ (parseMethodDescriptor yX11_keep.desc).map (fun d => d.parameters.length) = some 2 := ⟨rfl, by decide +kernel, by decide +kernel, by decide +kernel⟩
noncomputable def fX11_keep (σ : jS) (p1 : Int32) (p2 : Int32) : Option (Int32 × jS) :=
  (Option.bind (fX9_isShelf σ p1) fun (q1 : Int32) => (if (jb q1) = 0 then (some ((-1 : Int32), σ)) else (jlet (fun (a29 : Unit) => (Option.bind (fX9_hold σ p1 p2) fun (q2 : jS) => (some ((1 : Int32), q2)))) fun (j29 : (Unit → Option (Int32 × jS))) => (if p2 = (-1 : Int32) then (j29 ()) else (Option.bind (fX0_isBody σ p2) fun (q3 : Int32) => (if (jb q3) = 0 then (some ((-1 : Int32), σ)) else (j29 ())))))))
set_option maxRecDepth 100000 in
set_option maxHeartbeats 4000000 in
theorem kX11_keep (l : Launch) (d : jD) (A : Nat → Prop) (σ : jS) (p1 : Int32) (p2 : Int32) : jMi l yX11_keep (jws yX11_keep cX11_keep 3 (some (.int))) { frames := 4, cells := 0, slots := 0, locals := 173 } d wX A [.ref (d.2.1 0), .int p1, .int p2] σ (fX11_keep σ p1 p2) := by
  refine jStart_i (lv0 := [(0, .ref (d.2.1 0)), (1, .int p1), (2, .int p2)]) (by decide) rfl (Nat.le_of_ble_eq_true rfl) rfl (fun z hC res => ?_)
  unfold fX11_keep
  refine j_aload_n (pc' := 1) hC 0 dX11_keep_0 rfl rfl rfl ?_
  refine j_get (pc' := 4) hC ly_X11 (X_at_0 d _) rfl 10 (by decide) fl_X11_84 rfl dX11_keep_1 rfl ?_
  refine j_iload_n (pc' := 5) hC 1 dX11_keep_4 rfl rfl rfl ?_
  refine j_callV_zr (pc' := 8) (As := [.int p1]) (st := []) hC (X_at_44 d _) rfl (kX9_isShelf l d A _ _) (jgV ml_X11_92 im_X9_isShelf se_X9_isShelf in_X9 cd_X9_isShelf) rfl rfl rfl hyV_X9_isShelf ⟨Nat.le_of_ble_eq_true rfl, Nat.le_of_ble_eq_true rfl⟩ rfl rfl (Nat.le_of_ble_eq_true rfl) dX11_keep_5 rfl (fun q1 => ?_)
  refine j_if_eq (pc' := 11) (tgt := 27) hC dX11_keep_8 (by decide) rfl ?_ ?_
  · refine j_iconst (pc' := 28) (v := (-1 : Int32)) hC dX11_keep_27 (by decide) rfl ?_
    exact j_ret_i hC dX11_keep_28
  · refine j_iload_n (pc' := 12) hC 2 dX11_keep_11 rfl rfl rfl ?_
    refine j_iconst (pc' := 13) (v := (-1 : Int32)) hC dX11_keep_12 (by decide) rfl ?_
    refine j_let 29 (fun a29 => σ) (fun a29 => [(0, .ref (d.2.1 0)), (1, .int p1), (2, .int p2)]) (fun a29 => []) (fun a29 => ?_) (fun j29 hj29 => ?_)
    · refine j_aload_n (pc' := 30) hC 0 dX11_keep_29 rfl rfl rfl ?_
      refine j_get (pc' := 33) hC ly_X11 (X_at_0 d _) rfl 10 (by decide) fl_X11_84 rfl dX11_keep_30 rfl ?_
      refine j_iload_n (pc' := 34) hC 1 dX11_keep_33 rfl rfl rfl ?_
      refine j_iload_n (pc' := 35) hC 2 dX11_keep_34 rfl rfl rfl ?_
      refine j_callV_v (pc' := 38) (As := [.int p1, .int p2]) (st := []) hC (X_at_44 d _) rfl (kX9_hold l d A _ _ _) (jgV ml_X11_326 im_X9_hold se_X9_hold in_X9 cd_X9_hold) rfl rfl rfl hyV_X9_hold ⟨Nat.le_of_ble_eq_true rfl, Nat.le_of_ble_eq_true rfl⟩ rfl rfl (Nat.le_of_ble_eq_true rfl) dX11_keep_35 rfl (fun q2 => ?_)
      refine j_iconst (pc' := 39) (v := (1 : Int32)) hC dX11_keep_38 (by decide) rfl ?_
      exact j_ret_i hC dX11_keep_39
    · refine j_icmp_eq (pc' := 16) (tgt := 29) hC dX11_keep_13 (by decide) rfl ?_ ?_
      · exact j_lv (lv' := [(0, .ref (d.2.1 0)), (1, .int p1), (2, .int p2)]) [0, 1, 2] rfl (hj29 ())
      · refine j_aload_n (pc' := 17) hC 0 dX11_keep_16 rfl rfl rfl ?_
        refine j_get (pc' := 20) hC ly_X11 (X_at_0 d _) rfl 9 (by decide) fl_X11_77 rfl dX11_keep_17 rfl ?_
        refine j_iload_n (pc' := 21) hC 2 dX11_keep_20 rfl rfl rfl ?_
        refine j_callV_zr (pc' := 24) (As := [.int p2]) (st := []) hC (X_at_41 d _) rfl (kX0_isBody l d A _ _) (jgV ml_X11_323 im_X0_isBody se_X0_isBody in_X0 cd_X0_isBody) rfl rfl rfl hyV_X0_isBody ⟨Nat.le_of_ble_eq_true rfl, Nat.le_of_ble_eq_true rfl⟩ rfl rfl (Nat.le_of_ble_eq_true rfl) dX11_keep_21 rfl (fun q3 => ?_)
        refine j_if_ne (pc' := 27) (tgt := 29) hC dX11_keep_24 (by decide) rfl ?_ ?_
        · exact j_lv (lv' := [(0, .ref (d.2.1 0)), (1, .int p1), (2, .int p2)]) [0, 1, 2] rfl (hj29 ())
        · refine j_iconst (pc' := 28) (v := (-1 : Int32)) hC dX11_keep_27 (by decide) rfl ?_
          exact j_ret_i hC dX11_keep_28
theorem hyV_X11_row : yX11_row.cls = RX11 ∧ yX11_row.cls ≠ "java/lang/invoke/MethodHandle" ∧ yX11_row.cls ≠ "java/lang/invoke/VarHandle" ∧ (parseMethodDescriptor yX11_row.desc).map (fun d => d.parameters.length) = some 3 := ⟨rfl, by decide +kernel, by decide +kernel, by decide +kernel⟩
noncomputable def fX11_row (σ : jS) (p1 : Int32) (p2 : Int32) (p3 : Int32) : Option (Int32 × jS) :=
  (Option.bind (fX9_isShelf σ p1) fun (q1 : Int32) => (if (jb q1) = 0 then (some ((-1 : Int32), σ)) else (if p2 < 0 then (some ((-1 : Int32), σ)) else (if (5 : Int32) ≤ p2 then (some ((-1 : Int32), σ)) else (if p3 ≤ (60 : Int32) then (if 0 ≤ p3 then (Option.bind (fX9_layRow σ p1 p2 p3) fun (q2 : jS) => (some ((1 : Int32), q2))) else (some ((-14 : Int32), σ))) else (some ((-1 : Int32), σ)))))))
set_option maxRecDepth 100000 in
set_option maxHeartbeats 4000000 in
theorem kX11_row (l : Launch) (d : jD) (A : Nat → Prop) (σ : jS) (p1 : Int32) (p2 : Int32) (p3 : Int32) : jMi l yX11_row (jws yX11_row cX11_row 4 (some (.int))) { frames := 5, cells := 0, slots := 0, locals := 200 } d wX A [.ref (d.2.1 0), .int p1, .int p2, .int p3] σ (fX11_row σ p1 p2 p3) := by
  refine jStart_i (lv0 := [(0, .ref (d.2.1 0)), (1, .int p1), (2, .int p2), (3, .int p3)]) (by decide) rfl (Nat.le_of_ble_eq_true rfl) rfl (fun z hC res => ?_)
  unfold fX11_row
  refine j_aload_n (pc' := 1) hC 0 dX11_row_0 rfl rfl rfl ?_
  refine j_get (pc' := 4) hC ly_X11 (X_at_0 d _) rfl 10 (by decide) fl_X11_84 rfl dX11_row_1 rfl ?_
  refine j_iload_n (pc' := 5) hC 1 dX11_row_4 rfl rfl rfl ?_
  refine j_callV_zr (pc' := 8) (As := [.int p1]) (st := []) hC (X_at_44 d _) rfl (kX9_isShelf l d A _ _) (jgV ml_X11_92 im_X9_isShelf se_X9_isShelf in_X9 cd_X9_isShelf) rfl rfl rfl hyV_X9_isShelf ⟨Nat.le_of_ble_eq_true rfl, Nat.le_of_ble_eq_true rfl⟩ rfl rfl (Nat.le_of_ble_eq_true rfl) dX11_row_5 rfl (fun q1 => ?_)
  refine j_if_eq (pc' := 11) (tgt := 26) hC dX11_row_8 (by decide) rfl ?_ ?_
  · refine j_iconst (pc' := 27) (v := (-1 : Int32)) hC dX11_row_26 (by decide) rfl ?_
    exact j_ret_i hC dX11_row_27
  · refine j_iload_n (pc' := 12) hC 2 dX11_row_11 rfl rfl rfl ?_
    refine j_if_lt (pc' := 15) (tgt := 26) hC dX11_row_12 (by decide) rfl ?_ ?_
    · refine j_iconst (pc' := 27) (v := (-1 : Int32)) hC dX11_row_26 (by decide) rfl ?_
      exact j_ret_i hC dX11_row_27
    · refine j_iload_n (pc' := 16) hC 2 dX11_row_15 rfl rfl rfl ?_
      refine j_iconst (pc' := 17) (v := (5 : Int32)) hC dX11_row_16 (by decide) rfl ?_
      refine j_icmp_ge (pc' := 20) (tgt := 26) hC dX11_row_17 (by decide) rfl ?_ ?_
      · refine j_iconst (pc' := 27) (v := (-1 : Int32)) hC dX11_row_26 (by decide) rfl ?_
        exact j_ret_i hC dX11_row_27
      · refine j_iload_n (pc' := 21) hC 3 dX11_row_20 rfl rfl rfl ?_
        refine j_bipush (pc' := 23) (v := (60 : Int32)) hC dX11_row_21 (by decide) rfl ?_
        refine j_icmp_le (pc' := 26) (tgt := 28) hC dX11_row_23 (by decide) rfl ?_ ?_
        · refine j_iload_n (pc' := 29) hC 3 dX11_row_28 rfl rfl rfl ?_
          refine j_if_ge (pc' := 32) (tgt := 35) hC dX11_row_29 (by decide) rfl ?_ ?_
          · refine j_aload_n (pc' := 36) hC 0 dX11_row_35 rfl rfl rfl ?_
            refine j_get (pc' := 39) hC ly_X11 (X_at_0 d _) rfl 10 (by decide) fl_X11_84 rfl dX11_row_36 rfl ?_
            refine j_iload_n (pc' := 40) hC 1 dX11_row_39 rfl rfl rfl ?_
            refine j_iload_n (pc' := 41) hC 2 dX11_row_40 rfl rfl rfl ?_
            refine j_iload_n (pc' := 42) hC 3 dX11_row_41 rfl rfl rfl ?_
            refine j_callV_v (pc' := 45) (As := [.int p1, .int p2, .int p3]) (st := []) hC (X_at_44 d _) rfl (kX9_layRow l d A _ _ _ _) (jgV ml_X11_329 im_X9_layRow se_X9_layRow in_X9 cd_X9_layRow) rfl rfl rfl hyV_X9_layRow ⟨Nat.le_of_ble_eq_true rfl, Nat.le_of_ble_eq_true rfl⟩ rfl rfl (Nat.le_of_ble_eq_true rfl) dX11_row_42 rfl (fun q2 => ?_)
            refine j_iconst (pc' := 46) (v := (1 : Int32)) hC dX11_row_45 (by decide) rfl ?_
            exact j_ret_i hC dX11_row_46
          · refine j_bipush (pc' := 34) (v := (-14 : Int32)) hC dX11_row_32 (by decide) rfl ?_
            exact j_ret_i hC dX11_row_34
        · refine j_iconst (pc' := 27) (v := (-1 : Int32)) hC dX11_row_26 (by decide) rfl ?_
          exact j_ret_i hC dX11_row_27
theorem hyV_X11_put : yX11_put.cls = RX11 ∧ yX11_put.cls ≠ "java/lang/invoke/MethodHandle" ∧ yX11_put.cls ≠ "java/lang/invoke/VarHandle" ∧ (parseMethodDescriptor yX11_put.desc).map (fun d => d.parameters.length) = some 3 := ⟨rfl, by decide +kernel, by decide +kernel, by decide +kernel⟩
noncomputable def fX11_put (σ : jS) (p1 : Int32) (p2 : Int32) (p3 : Int64) : Option (Int32 × jS) :=
  (Option.bind (fX9_refusalAt σ p1 p2) fun (q1 : Int32) => (if q1 = 0 then (Option.bind (fX9_setElement σ p1 p2 p3) fun (q2 : jS) => (some ((1 : Int32), q2))) else (some (q1, σ))))
set_option maxRecDepth 100000 in
set_option maxHeartbeats 4000000 in
theorem kX11_put (l : Launch) (d : jD) (A : Nat → Prop) (σ : jS) (p1 : Int32) (p2 : Int32) (p3 : Int64) : jMi l yX11_put (jws yX11_put cX11_put 6 (some (.int))) { frames := 7, cells := 0, slots := 0, locals := 241 } d wX A [.ref (d.2.1 0), .int p1, .int p2, .long p3] σ (fX11_put σ p1 p2 p3) := by
  refine jStart_i (lv0 := [(0, .ref (d.2.1 0)), (1, .int p1), (2, .int p2), (3, .long p3)]) (by decide) rfl (Nat.le_of_ble_eq_true rfl) rfl (fun z hC res => ?_)
  unfold fX11_put
  refine j_aload_n (pc' := 1) hC 0 dX11_put_0 rfl rfl rfl ?_
  refine j_get (pc' := 4) hC ly_X11 (X_at_0 d _) rfl 10 (by decide) fl_X11_84 rfl dX11_put_1 rfl ?_
  refine j_iload_n (pc' := 5) hC 1 dX11_put_4 rfl rfl rfl ?_
  refine j_iload_n (pc' := 6) hC 2 dX11_put_5 rfl rfl rfl ?_
  refine j_callV_ir (pc' := 9) (As := [.int p1, .int p2]) (st := []) hC (X_at_44 d _) rfl (kX9_refusalAt l d A _ _ _) (jgV ml_X11_332 im_X9_refusalAt se_X9_refusalAt in_X9 cd_X9_refusalAt) rfl rfl rfl hyV_X9_refusalAt ⟨Nat.le_of_ble_eq_true rfl, Nat.le_of_ble_eq_true rfl⟩ rfl rfl (Nat.le_of_ble_eq_true rfl) dX11_put_6 rfl (fun q1 => ?_)
  refine j_istore (pc' := 11) (lv' := [(5, .int q1), (0, .ref (d.2.1 0)), (1, .int p1), (2, .int p2), (3, .long p3)]) hC dX11_put_9 (by decide) rfl rfl ?_
  refine j_iload (pc' := 13) hC 0 dX11_put_11 rfl rfl ?_
  refine j_if_eq (pc' := 16) (tgt := 19) hC dX11_put_13 (by decide) rfl ?_ ?_
  · refine j_aload_n (pc' := 20) hC 1 dX11_put_19 rfl rfl rfl ?_
    refine j_get (pc' := 23) hC ly_X11 (X_at_0 d _) rfl 10 (by decide) fl_X11_84 rfl dX11_put_20 rfl ?_
    refine j_iload_n (pc' := 24) hC 2 dX11_put_23 rfl rfl rfl ?_
    refine j_iload_n (pc' := 25) hC 3 dX11_put_24 rfl rfl rfl ?_
    refine j_lload_n (pc' := 26) hC 4 dX11_put_25 rfl rfl rfl ?_
    refine j_callV_v (pc' := 29) (As := [.int p1, .int p2, .long p3]) (st := []) hC (X_at_44 d _) rfl (kX9_setElement l d A _ _ _ _) (jgV ml_X11_335 im_X9_setElement se_X9_setElement in_X9 cd_X9_setElement) rfl rfl rfl hyV_X9_setElement ⟨Nat.le_of_ble_eq_true rfl, Nat.le_of_ble_eq_true rfl⟩ rfl rfl (Nat.le_of_ble_eq_true rfl) dX11_put_26 rfl (fun q2 => ?_)
    refine j_iconst (pc' := 30) (v := (1 : Int32)) hC dX11_put_29 (by decide) rfl ?_
    exact j_ret_i hC dX11_put_30
  · refine j_iload (pc' := 18) hC 0 dX11_put_16 rfl rfl ?_
    exact j_ret_i hC dX11_put_18
theorem hyV_X11_element : yX11_element.cls = RX11 ∧ yX11_element.cls ≠ "java/lang/invoke/MethodHandle" ∧ yX11_element.cls ≠ "java/lang/invoke/VarHandle" ∧ (parseMethodDescriptor yX11_element.desc).map (fun d => d.parameters.length) = some 2 := ⟨rfl, by decide +kernel, by decide +kernel, by decide +kernel⟩
noncomputable def fX11_element (σ : jS) (p1 : Int32) (p2 : Int32) : Option (Int64) :=
  (Option.bind (fX9_refusalAt σ p1 p2) fun (q1 : Int32) => (if q1 = 0 then (Option.bind (fX9_elementAt σ p1 p2) fun (q2 : Int64) => (some q2)) else (some (-9223372036854775808 : Int64))))
set_option maxRecDepth 100000 in
set_option maxHeartbeats 4000000 in
theorem kX11_element (l : Launch) (d : jD) (A : Nat → Prop) (σ : jS) (p1 : Int32) (p2 : Int32) : jMlr l yX11_element (jws yX11_element cX11_element 3 (some (.long))) { frames := 7, cells := 0, slots := 0, locals := 239 } d wX A [.ref (d.2.1 0), .int p1, .int p2] σ (fX11_element σ p1 p2) := by
  refine jStart_lr (lv0 := [(0, .ref (d.2.1 0)), (1, .int p1), (2, .int p2)]) (by decide) rfl (Nat.le_of_ble_eq_true rfl) rfl (fun z hC res => ?_)
  unfold fX11_element
  refine j_aload_n (pc' := 1) hC 0 dX11_element_0 rfl rfl rfl ?_
  refine j_get (pc' := 4) hC ly_X11 (X_at_0 d _) rfl 10 (by decide) fl_X11_84 rfl dX11_element_1 rfl ?_
  refine j_iload_n (pc' := 5) hC 1 dX11_element_4 rfl rfl rfl ?_
  refine j_iload_n (pc' := 6) hC 2 dX11_element_5 rfl rfl rfl ?_
  refine j_callV_ir (pc' := 9) (As := [.int p1, .int p2]) (st := []) hC (X_at_44 d _) rfl (kX9_refusalAt l d A _ _ _) (jgV ml_X11_332 im_X9_refusalAt se_X9_refusalAt in_X9 cd_X9_refusalAt) rfl rfl rfl hyV_X9_refusalAt ⟨Nat.le_of_ble_eq_true rfl, Nat.le_of_ble_eq_true rfl⟩ rfl rfl (Nat.le_of_ble_eq_true rfl) dX11_element_6 rfl (fun q1 => ?_)
  refine j_if_eq (pc' := 12) (tgt := 18) hC dX11_element_9 (by decide) rfl ?_ ?_
  · refine j_aload_n (pc' := 19) hC 0 dX11_element_18 rfl rfl rfl ?_
    refine j_get (pc' := 22) hC ly_X11 (X_at_0 d _) rfl 10 (by decide) fl_X11_84 rfl dX11_element_19 rfl ?_
    refine j_iload_n (pc' := 23) hC 1 dX11_element_22 rfl rfl rfl ?_
    refine j_iload_n (pc' := 24) hC 2 dX11_element_23 rfl rfl rfl ?_
    refine j_callV_lr (pc' := 27) (As := [.int p1, .int p2]) (st := []) hC (X_at_44 d _) rfl (kX9_elementAt l d A _ _ _) (jgV ml_X11_104 im_X9_elementAt se_X9_elementAt in_X9 cd_X9_elementAt) rfl rfl rfl hyV_X9_elementAt ⟨Nat.le_of_ble_eq_true rfl, Nat.le_of_ble_eq_true rfl⟩ rfl rfl (Nat.le_of_ble_eq_true rfl) dX11_element_24 rfl (fun q2 => ?_)
    exact j_ret_lr hC dX11_element_27
  · refine j_ldc2 (pc' := 15) (v := (-9223372036854775808 : Int64)) hC dX11_element_12 ct_X11_339 rfl ?_
    refine j_goto (tgt := 27) hC dX11_element_15 (by decide) ?_
    exact j_ret_lr hC dX11_element_27
theorem hyV_X11_shift : yX11_shift.cls = RX11 ∧ yX11_shift.cls ≠ "java/lang/invoke/MethodHandle" ∧ yX11_shift.cls ≠ "java/lang/invoke/VarHandle" ∧ (parseMethodDescriptor yX11_shift.desc).map (fun d => d.parameters.length) = some 5 := ⟨rfl, by decide +kernel, by decide +kernel, by decide +kernel⟩
noncomputable def fX11_shift (σ : jS) (p1 : Int32) (p2 : Int32) (p3 : Int32) (p4 : Int32) (p5 : Int32) : Option (Int32 × jS) :=
  (Option.bind (fX9_isShelf σ p1) fun (q1 : Int32) => (if (jb q1) = 0 then (some ((-1 : Int32), σ)) else (Option.bind (fX9_isShelf σ p3) fun (q2 : Int32) => (if (jb q2) = 0 then (some ((-1 : Int32), σ)) else (Option.bind (fX9_isEmpty σ p1) fun (q3 : Int32) => (if (jb q3) = 0 then (Option.bind (fX9_isEmpty σ p3) fun (q4 : Int32) => (if (jb q4) = 0 then (Option.bind (fX9_areLikeRows σ p1 p3) fun (q5 : Int32) => (if (jb q5) = 0 then (some ((-12 : Int32), σ)) else (Option.bind (fX9_hasPlaces σ p1 p2 p5) fun (q6 : Int32) => (if (jb q6) = 0 then (some ((-13 : Int32), σ)) else (Option.bind (fX9_hasPlaces σ p3 p4 p5) fun (q7 : Int32) => (if (jb q7) = 0 then (some ((-13 : Int32), σ)) else (Option.bind (fX9_move σ p1 p2 p3 p4 p5) fun (q8 : jS) => (some (p5, q8))))))))) else (some ((-11 : Int32), σ)))) else (some ((-11 : Int32), σ))))))))
set_option maxRecDepth 100000 in
set_option maxHeartbeats 4000000 in
theorem kX11_shift (l : Launch) (d : jD) (A : Nat → Prop) (σ : jS) (p1 : Int32) (p2 : Int32) (p3 : Int32) (p4 : Int32) (p5 : Int32) : jMi l yX11_shift (jws yX11_shift cX11_shift 6 (some (.int))) { frames := 7, cells := 0, slots := 0, locals := 242 } d wX A [.ref (d.2.1 0), .int p1, .int p2, .int p3, .int p4, .int p5] σ (fX11_shift σ p1 p2 p3 p4 p5) := by
  refine jStart_i (lv0 := [(0, .ref (d.2.1 0)), (1, .int p1), (2, .int p2), (3, .int p3), (4, .int p4), (5, .int p5)]) (by decide) rfl (Nat.le_of_ble_eq_true rfl) rfl (fun z hC res => ?_)
  unfold fX11_shift
  refine j_aload_n (pc' := 1) hC 0 dX11_shift_0 rfl rfl rfl ?_
  refine j_get (pc' := 4) hC ly_X11 (X_at_0 d _) rfl 10 (by decide) fl_X11_84 rfl dX11_shift_1 rfl ?_
  refine j_iload_n (pc' := 5) hC 1 dX11_shift_4 rfl rfl rfl ?_
  refine j_callV_zr (pc' := 8) (As := [.int p1]) (st := []) hC (X_at_44 d _) rfl (kX9_isShelf l d A _ _) (jgV ml_X11_92 im_X9_isShelf se_X9_isShelf in_X9 cd_X9_isShelf) rfl rfl rfl hyV_X9_isShelf ⟨Nat.le_of_ble_eq_true rfl, Nat.le_of_ble_eq_true rfl⟩ rfl rfl (Nat.le_of_ble_eq_true rfl) dX11_shift_5 rfl (fun q1 => ?_)
  refine j_if_eq (pc' := 11) (tgt := 22) hC dX11_shift_8 (by decide) rfl ?_ ?_
  · refine j_iconst (pc' := 23) (v := (-1 : Int32)) hC dX11_shift_22 (by decide) rfl ?_
    exact j_ret_i hC dX11_shift_23
  · refine j_aload_n (pc' := 12) hC 0 dX11_shift_11 rfl rfl rfl ?_
    refine j_get (pc' := 15) hC ly_X11 (X_at_0 d _) rfl 10 (by decide) fl_X11_84 rfl dX11_shift_12 rfl ?_
    refine j_iload_n (pc' := 16) hC 3 dX11_shift_15 rfl rfl rfl ?_
    refine j_callV_zr (pc' := 19) (As := [.int p3]) (st := []) hC (X_at_44 d _) rfl (kX9_isShelf l d A _ _) (jgV ml_X11_92 im_X9_isShelf se_X9_isShelf in_X9 cd_X9_isShelf) rfl rfl rfl hyV_X9_isShelf ⟨Nat.le_of_ble_eq_true rfl, Nat.le_of_ble_eq_true rfl⟩ rfl rfl (Nat.le_of_ble_eq_true rfl) dX11_shift_16 rfl (fun q2 => ?_)
    refine j_if_ne (pc' := 22) (tgt := 24) hC dX11_shift_19 (by decide) rfl ?_ ?_
    · refine j_aload_n (pc' := 25) hC 0 dX11_shift_24 rfl rfl rfl ?_
      refine j_get (pc' := 28) hC ly_X11 (X_at_0 d _) rfl 10 (by decide) fl_X11_84 rfl dX11_shift_25 rfl ?_
      refine j_iload_n (pc' := 29) hC 1 dX11_shift_28 rfl rfl rfl ?_
      refine j_callV_zr (pc' := 32) (As := [.int p1]) (st := []) hC (X_at_44 d _) rfl (kX9_isEmpty l d A _ _) (jgV ml_X11_341 im_X9_isEmpty se_X9_isEmpty in_X9 cd_X9_isEmpty) rfl rfl rfl hyV_X9_isEmpty ⟨Nat.le_of_ble_eq_true rfl, Nat.le_of_ble_eq_true rfl⟩ rfl rfl (Nat.le_of_ble_eq_true rfl) dX11_shift_29 rfl (fun q3 => ?_)
      refine j_if_ne (pc' := 35) (tgt := 46) hC dX11_shift_32 (by decide) rfl ?_ ?_
      · refine j_bipush (pc' := 48) (v := (-11 : Int32)) hC dX11_shift_46 (by decide) rfl ?_
        exact j_ret_i hC dX11_shift_48
      · refine j_aload_n (pc' := 36) hC 0 dX11_shift_35 rfl rfl rfl ?_
        refine j_get (pc' := 39) hC ly_X11 (X_at_0 d _) rfl 10 (by decide) fl_X11_84 rfl dX11_shift_36 rfl ?_
        refine j_iload_n (pc' := 40) hC 3 dX11_shift_39 rfl rfl rfl ?_
        refine j_callV_zr (pc' := 43) (As := [.int p3]) (st := []) hC (X_at_44 d _) rfl (kX9_isEmpty l d A _ _) (jgV ml_X11_341 im_X9_isEmpty se_X9_isEmpty in_X9 cd_X9_isEmpty) rfl rfl rfl hyV_X9_isEmpty ⟨Nat.le_of_ble_eq_true rfl, Nat.le_of_ble_eq_true rfl⟩ rfl rfl (Nat.le_of_ble_eq_true rfl) dX11_shift_40 rfl (fun q4 => ?_)
        refine j_if_eq (pc' := 46) (tgt := 49) hC dX11_shift_43 (by decide) rfl ?_ ?_
        · refine j_aload_n (pc' := 50) hC 0 dX11_shift_49 rfl rfl rfl ?_
          refine j_get (pc' := 53) hC ly_X11 (X_at_0 d _) rfl 10 (by decide) fl_X11_84 rfl dX11_shift_50 rfl ?_
          refine j_iload_n (pc' := 54) hC 1 dX11_shift_53 rfl rfl rfl ?_
          refine j_iload_n (pc' := 55) hC 3 dX11_shift_54 rfl rfl rfl ?_
          refine j_callV_zr (pc' := 58) (As := [.int p1, .int p3]) (st := []) hC (X_at_44 d _) rfl (kX9_areLikeRows l d A _ _ _) (jgV ml_X11_344 im_X9_areLikeRows se_X9_areLikeRows in_X9 cd_X9_areLikeRows) rfl rfl rfl hyV_X9_areLikeRows ⟨Nat.le_of_ble_eq_true rfl, Nat.le_of_ble_eq_true rfl⟩ rfl rfl (Nat.le_of_ble_eq_true rfl) dX11_shift_55 rfl (fun q5 => ?_)
          refine j_if_ne (pc' := 61) (tgt := 64) hC dX11_shift_58 (by decide) rfl ?_ ?_
          · refine j_aload_n (pc' := 65) hC 0 dX11_shift_64 rfl rfl rfl ?_
            refine j_get (pc' := 68) hC ly_X11 (X_at_0 d _) rfl 10 (by decide) fl_X11_84 rfl dX11_shift_65 rfl ?_
            refine j_iload_n (pc' := 69) hC 1 dX11_shift_68 rfl rfl rfl ?_
            refine j_iload_n (pc' := 70) hC 2 dX11_shift_69 rfl rfl rfl ?_
            refine j_iload (pc' := 72) hC 5 dX11_shift_70 rfl rfl ?_
            refine j_callV_zr (pc' := 75) (As := [.int p1, .int p2, .int p5]) (st := []) hC (X_at_44 d _) rfl (kX9_hasPlaces l d A _ _ _ _) (jgV ml_X11_100 im_X9_hasPlaces se_X9_hasPlaces in_X9 cd_X9_hasPlaces) rfl rfl rfl hyV_X9_hasPlaces ⟨Nat.le_of_ble_eq_true rfl, Nat.le_of_ble_eq_true rfl⟩ rfl rfl (Nat.le_of_ble_eq_true rfl) dX11_shift_72 rfl (fun q6 => ?_)
            refine j_if_eq (pc' := 78) (tgt := 93) hC dX11_shift_75 (by decide) rfl ?_ ?_
            · refine j_bipush (pc' := 95) (v := (-13 : Int32)) hC dX11_shift_93 (by decide) rfl ?_
              exact j_ret_i hC dX11_shift_95
            · refine j_aload_n (pc' := 79) hC 0 dX11_shift_78 rfl rfl rfl ?_
              refine j_get (pc' := 82) hC ly_X11 (X_at_0 d _) rfl 10 (by decide) fl_X11_84 rfl dX11_shift_79 rfl ?_
              refine j_iload_n (pc' := 83) hC 3 dX11_shift_82 rfl rfl rfl ?_
              refine j_iload (pc' := 85) hC 4 dX11_shift_83 rfl rfl ?_
              refine j_iload (pc' := 87) hC 5 dX11_shift_85 rfl rfl ?_
              refine j_callV_zr (pc' := 90) (As := [.int p3, .int p4, .int p5]) (st := []) hC (X_at_44 d _) rfl (kX9_hasPlaces l d A _ _ _ _) (jgV ml_X11_100 im_X9_hasPlaces se_X9_hasPlaces in_X9 cd_X9_hasPlaces) rfl rfl rfl hyV_X9_hasPlaces ⟨Nat.le_of_ble_eq_true rfl, Nat.le_of_ble_eq_true rfl⟩ rfl rfl (Nat.le_of_ble_eq_true rfl) dX11_shift_87 rfl (fun q7 => ?_)
              refine j_if_ne (pc' := 93) (tgt := 96) hC dX11_shift_90 (by decide) rfl ?_ ?_
              · refine j_aload_n (pc' := 97) hC 0 dX11_shift_96 rfl rfl rfl ?_
                refine j_get (pc' := 100) hC ly_X11 (X_at_0 d _) rfl 10 (by decide) fl_X11_84 rfl dX11_shift_97 rfl ?_
                refine j_iload_n (pc' := 101) hC 1 dX11_shift_100 rfl rfl rfl ?_
                refine j_iload_n (pc' := 102) hC 2 dX11_shift_101 rfl rfl rfl ?_
                refine j_iload_n (pc' := 103) hC 3 dX11_shift_102 rfl rfl rfl ?_
                refine j_iload (pc' := 105) hC 4 dX11_shift_103 rfl rfl ?_
                refine j_iload (pc' := 107) hC 5 dX11_shift_105 rfl rfl ?_
                refine j_callV_v (pc' := 110) (As := [.int p1, .int p2, .int p3, .int p4, .int p5]) (st := []) hC (X_at_44 d _) rfl (kX9_move l d A _ _ _ _ _ _) (jgV ml_X11_347 im_X9_move se_X9_move in_X9 cd_X9_move) rfl rfl rfl hyV_X9_move ⟨Nat.le_of_ble_eq_true rfl, Nat.le_of_ble_eq_true rfl⟩ rfl rfl (Nat.le_of_ble_eq_true rfl) dX11_shift_107 rfl (fun q8 => ?_)
                refine j_iload (pc' := 112) hC 5 dX11_shift_110 rfl rfl ?_
                exact j_ret_i hC dX11_shift_112
              · refine j_bipush (pc' := 95) (v := (-13 : Int32)) hC dX11_shift_93 (by decide) rfl ?_
                exact j_ret_i hC dX11_shift_95
          · refine j_bipush (pc' := 63) (v := (-12 : Int32)) hC dX11_shift_61 (by decide) rfl ?_
            exact j_ret_i hC dX11_shift_63
        · refine j_bipush (pc' := 48) (v := (-11 : Int32)) hC dX11_shift_46 (by decide) rfl ?_
          exact j_ret_i hC dX11_shift_48
    · refine j_iconst (pc' := 23) (v := (-1 : Int32)) hC dX11_shift_22 (by decide) rfl ?_
      exact j_ret_i hC dX11_shift_23
theorem hyV_X11_taken : yX11_taken.cls = RX11 ∧ yX11_taken.cls ≠ "java/lang/invoke/MethodHandle" ∧ yX11_taken.cls ≠ "java/lang/invoke/VarHandle" ∧ (parseMethodDescriptor yX11_taken.desc).map (fun d => d.parameters.length) = some 2 := ⟨rfl, by decide +kernel, by decide +kernel, by decide +kernel⟩
noncomputable def fX11_taken (σ : jS) (p1 : Int32) (p2 : Int32) : Option (Int32) :=
  (Option.bind (fX9_isShelf σ p1) fun (q1 : Int32) => (if (jb q1) = 0 then (some (-1 : Int32)) else (if p2 < 0 then (some (-1 : Int32)) else (if p2 < (8 : Int32) then (Option.bind (fX9_isEmpty σ p1) fun (q2 : Int32) => (if (jb q2) = 0 then (Option.bind (fX9_bodyOn σ p1) fun (q3 : Int32) => (Option.bind (fX0_kindOf σ q3) fun (q4 : Int32) => (Option.bind (fX0_isUnder σ q4 p2) fun (q5 : Int32) => (if (jb q5) = 0 then (some (-12 : Int32)) else (some q4))))) else (some (-11 : Int32)))) else (some (-1 : Int32))))))
set_option maxRecDepth 100000 in
set_option maxHeartbeats 4000000 in
theorem kX11_taken (l : Launch) (d : jD) (A : Nat → Prop) (σ : jS) (p1 : Int32) (p2 : Int32) : jMir l yX11_taken (jws yX11_taken cX11_taken 4 (some (.int))) { frames := 4, cells := 0, slots := 0, locals := 174 } d wX A [.ref (d.2.1 0), .int p1, .int p2] σ (fX11_taken σ p1 p2) := by
  refine jStart_ir (lv0 := [(0, .ref (d.2.1 0)), (1, .int p1), (2, .int p2)]) (by decide) rfl (Nat.le_of_ble_eq_true rfl) rfl (fun z hC res => ?_)
  unfold fX11_taken
  refine j_aload_n (pc' := 1) hC 0 dX11_taken_0 rfl rfl rfl ?_
  refine j_get (pc' := 4) hC ly_X11 (X_at_0 d _) rfl 10 (by decide) fl_X11_84 rfl dX11_taken_1 rfl ?_
  refine j_iload_n (pc' := 5) hC 1 dX11_taken_4 rfl rfl rfl ?_
  refine j_callV_zr (pc' := 8) (As := [.int p1]) (st := []) hC (X_at_44 d _) rfl (kX9_isShelf l d A _ _) (jgV ml_X11_92 im_X9_isShelf se_X9_isShelf in_X9 cd_X9_isShelf) rfl rfl rfl hyV_X9_isShelf ⟨Nat.le_of_ble_eq_true rfl, Nat.le_of_ble_eq_true rfl⟩ rfl rfl (Nat.le_of_ble_eq_true rfl) dX11_taken_5 rfl (fun q1 => ?_)
  refine j_if_eq (pc' := 11) (tgt := 21) hC dX11_taken_8 (by decide) rfl ?_ ?_
  · refine j_iconst (pc' := 22) (v := (-1 : Int32)) hC dX11_taken_21 (by decide) rfl ?_
    exact j_ret_ir hC dX11_taken_22
  · refine j_iload_n (pc' := 12) hC 2 dX11_taken_11 rfl rfl rfl ?_
    refine j_if_lt (pc' := 15) (tgt := 21) hC dX11_taken_12 (by decide) rfl ?_ ?_
    · refine j_iconst (pc' := 22) (v := (-1 : Int32)) hC dX11_taken_21 (by decide) rfl ?_
      exact j_ret_ir hC dX11_taken_22
    · refine j_iload_n (pc' := 16) hC 2 dX11_taken_15 rfl rfl rfl ?_
      refine j_bipush (pc' := 18) (v := (8 : Int32)) hC dX11_taken_16 (by decide) rfl ?_
      refine j_icmp_lt (pc' := 21) (tgt := 23) hC dX11_taken_18 (by decide) rfl ?_ ?_
      · refine j_aload_n (pc' := 24) hC 0 dX11_taken_23 rfl rfl rfl ?_
        refine j_get (pc' := 27) hC ly_X11 (X_at_0 d _) rfl 10 (by decide) fl_X11_84 rfl dX11_taken_24 rfl ?_
        refine j_iload_n (pc' := 28) hC 1 dX11_taken_27 rfl rfl rfl ?_
        refine j_callV_zr (pc' := 31) (As := [.int p1]) (st := []) hC (X_at_44 d _) rfl (kX9_isEmpty l d A _ _) (jgV ml_X11_341 im_X9_isEmpty se_X9_isEmpty in_X9 cd_X9_isEmpty) rfl rfl rfl hyV_X9_isEmpty ⟨Nat.le_of_ble_eq_true rfl, Nat.le_of_ble_eq_true rfl⟩ rfl rfl (Nat.le_of_ble_eq_true rfl) dX11_taken_28 rfl (fun q2 => ?_)
        refine j_if_eq (pc' := 34) (tgt := 37) hC dX11_taken_31 (by decide) rfl ?_ ?_
        · refine j_aload_n (pc' := 38) hC 0 dX11_taken_37 rfl rfl rfl ?_
          refine j_get (pc' := 41) hC ly_X11 (X_at_0 d _) rfl 9 (by decide) fl_X11_77 rfl dX11_taken_38 rfl ?_
          refine j_aload_n (pc' := 42) hC 0 dX11_taken_41 rfl rfl rfl ?_
          refine j_get (pc' := 45) hC ly_X11 (X_at_0 d _) rfl 10 (by decide) fl_X11_84 rfl dX11_taken_42 rfl ?_
          refine j_iload_n (pc' := 46) hC 1 dX11_taken_45 rfl rfl rfl ?_
          refine j_callV_ir (pc' := 49) (As := [.int p1]) (st := [.ref (d.2.1 41)]) hC (X_at_44 d _) rfl (kX9_bodyOn l d A _ _) (jgV ml_X11_351 im_X9_bodyOn se_X9_bodyOn in_X9 cd_X9_bodyOn) rfl rfl rfl hyV_X9_bodyOn ⟨Nat.le_of_ble_eq_true rfl, Nat.le_of_ble_eq_true rfl⟩ rfl rfl (Nat.le_of_ble_eq_true rfl) dX11_taken_46 rfl (fun q3 => ?_)
          refine j_callV_ir (pc' := 52) (As := [.int q3]) (st := []) hC (X_at_41 d _) rfl (kX0_kindOf l d A _ _) (jgV ml_X11_354 im_X0_kindOf se_X0_kindOf in_X0 cd_X0_kindOf) rfl rfl rfl hyV_X0_kindOf ⟨Nat.le_of_ble_eq_true rfl, Nat.le_of_ble_eq_true rfl⟩ rfl rfl (Nat.le_of_ble_eq_true rfl) dX11_taken_49 rfl (fun q4 => ?_)
          refine j_istore_n (pc' := 53) (lv' := [(3, .int q4), (0, .ref (d.2.1 0)), (1, .int p1), (2, .int p2)]) hC dX11_taken_52 rfl (by decide) rfl rfl ?_
          refine j_aload_n (pc' := 54) hC 1 dX11_taken_53 rfl rfl rfl ?_
          refine j_get (pc' := 57) hC ly_X11 (X_at_0 d _) rfl 9 (by decide) fl_X11_77 rfl dX11_taken_54 rfl ?_
          refine j_iload_n (pc' := 58) hC 0 dX11_taken_57 rfl rfl rfl ?_
          refine j_iload_n (pc' := 59) hC 3 dX11_taken_58 rfl rfl rfl ?_
          refine j_callV_zr (pc' := 62) (As := [.int q4, .int p2]) (st := []) hC (X_at_41 d _) rfl (kX0_isUnder l d A _ _ _) (jgV ml_X11_357 im_X0_isUnder se_X0_isUnder in_X0 cd_X0_isUnder) rfl rfl rfl hyV_X0_isUnder ⟨Nat.le_of_ble_eq_true rfl, Nat.le_of_ble_eq_true rfl⟩ rfl rfl (Nat.le_of_ble_eq_true rfl) dX11_taken_59 rfl (fun q5 => ?_)
          refine j_if_eq (pc' := 65) (tgt := 69) hC dX11_taken_62 (by decide) rfl ?_ ?_
          · refine j_bipush (pc' := 71) (v := (-12 : Int32)) hC dX11_taken_69 (by decide) rfl ?_
            exact j_ret_ir hC dX11_taken_71
          · refine j_iload_n (pc' := 66) hC 0 dX11_taken_65 rfl rfl rfl ?_
            refine j_goto (tgt := 71) hC dX11_taken_66 (by decide) ?_
            exact j_ret_ir hC dX11_taken_71
        · refine j_bipush (pc' := 36) (v := (-11 : Int32)) hC dX11_taken_34 (by decide) rfl ?_
          exact j_ret_ir hC dX11_taken_36
      · refine j_iconst (pc' := 22) (v := (-1 : Int32)) hC dX11_taken_21 (by decide) rfl ?_
        exact j_ret_ir hC dX11_taken_22
theorem hyV_X11_count : yX11_count.cls = RX11 ∧ yX11_count.cls ≠ "java/lang/invoke/MethodHandle" ∧ yX11_count.cls ≠ "java/lang/invoke/VarHandle" ∧ (parseMethodDescriptor yX11_count.desc).map (fun d => d.parameters.length) = some 1 := ⟨rfl, by decide +kernel, by decide +kernel, by decide +kernel⟩
noncomputable def fX11_count (σ : jS) (p1 : Int32) : Option (Int32) :=
  (if p1 = (0 : Int32) then (some (σ.1 1 1)) else (if p1 = (1 : Int32) then (some (σ.1 7 1)) else (if p1 = (2 : Int32) then (some (σ.1 3 4)) else (if p1 = (3 : Int32) then (some (σ.1 41 1)) else (if p1 = (4 : Int32) then (some (σ.1 41 3)) else (some (-1 : Int32)))))))
set_option maxRecDepth 100000 in
set_option maxHeartbeats 4000000 in
theorem kX11_count (l : Launch) (d : jD) (A : Nat → Prop) (σ : jS) (p1 : Int32) : jMir l yX11_count (jws yX11_count cX11_count 2 (some (.int))) { frames := 2, cells := 0, slots := 0, locals := 130 } d wX A [.ref (d.2.1 0), .int p1] σ (fX11_count σ p1) := by
  refine jStart_ir (lv0 := [(0, .ref (d.2.1 0)), (1, .int p1)]) (by decide) rfl (Nat.le_of_ble_eq_true rfl) rfl (fun z hC res => ?_)
  unfold fX11_count
  refine j_iload_n (pc' := 1) hC 1 dX11_count_0 rfl rfl rfl ?_
  refine j_if (fun c0 => ?_) (fun c0 => ?_)
  · refine j_tableIn (tgt := 36) (off := 35) hC dX11_count_1 (by rw [c0]; decide) (by rw [c0]; decide) (by rw [c0]; rfl) (by decide) ?_
    refine j_aload_n (pc' := 37) hC 0 dX11_count_36 rfl rfl rfl ?_
    refine j_get (pc' := 40) hC ly_X11 (X_at_0 d _) rfl 0 (by decide) fl_X11_10 rfl dX11_count_37 rfl ?_
    refine j_get (pc' := 43) hC ly_X6 (X_at_1 d _) rfl 1 (by decide) fl_X11_200 rfl dX11_count_40 rfl ?_
    exact j_ret_ir hC dX11_count_43
  refine j_if (fun c1 => ?_) (fun c1 => ?_)
  · refine j_tableIn (tgt := 44) (off := 43) hC dX11_count_1 (by rw [c1]; decide) (by rw [c1]; decide) (by rw [c1]; rfl) (by decide) ?_
    refine j_aload_n (pc' := 45) hC 0 dX11_count_44 rfl rfl rfl ?_
    refine j_get (pc' := 48) hC ly_X11 (X_at_0 d _) rfl 2 (by decide) fl_X11_28 rfl dX11_count_45 rfl ?_
    refine j_get (pc' := 51) hC ly_X4 (X_at_7 d _) rfl 1 (by decide) fl_X11_360 rfl dX11_count_48 rfl ?_
    exact j_ret_ir hC dX11_count_51
  refine j_if (fun c2 => ?_) (fun c2 => ?_)
  · refine j_tableIn (tgt := 52) (off := 51) hC dX11_count_1 (by rw [c2]; decide) (by rw [c2]; decide) (by rw [c2]; rfl) (by decide) ?_
    refine j_aload_n (pc' := 53) hC 0 dX11_count_52 rfl rfl rfl ?_
    refine j_get (pc' := 56) hC ly_X11 (X_at_0 d _) rfl 1 (by decide) fl_X11_21 rfl dX11_count_53 rfl ?_
    refine j_get (pc' := 59) hC ly_X1 (X_at_3 d _) rfl 4 (by decide) fl_X11_363 rfl dX11_count_56 rfl ?_
    exact j_ret_ir hC dX11_count_59
  refine j_if (fun c3 => ?_) (fun c3 => ?_)
  · refine j_tableIn (tgt := 60) (off := 59) hC dX11_count_1 (by rw [c3]; decide) (by rw [c3]; decide) (by rw [c3]; rfl) (by decide) ?_
    refine j_aload_n (pc' := 61) hC 0 dX11_count_60 rfl rfl rfl ?_
    refine j_get (pc' := 64) hC ly_X11 (X_at_0 d _) rfl 9 (by decide) fl_X11_77 rfl dX11_count_61 rfl ?_
    refine j_get (pc' := 67) hC ly_X0 (X_at_41 d _) rfl 1 (by decide) fl_X11_366 rfl dX11_count_64 rfl ?_
    exact j_ret_ir hC dX11_count_67
  refine j_if (fun c4 => ?_) (fun c4 => ?_)
  · refine j_tableIn (tgt := 68) (off := 67) hC dX11_count_1 (by rw [c4]; decide) (by rw [c4]; decide) (by rw [c4]; rfl) (by decide) ?_
    refine j_aload_n (pc' := 69) hC 0 dX11_count_68 rfl rfl rfl ?_
    refine j_get (pc' := 72) hC ly_X11 (X_at_0 d _) rfl 9 (by decide) fl_X11_77 rfl dX11_count_69 rfl ?_
    refine j_get (pc' := 75) hC ly_X0 (X_at_41 d _) rfl 3 (by decide) fl_X11_367 rfl dX11_count_72 rfl ?_
    exact j_ret_ir hC dX11_count_75
  refine j_tableOut (tgt := 76) hC dX11_count_1 (by have e0 := lv_neT c0 (a := 0) rfl; have e1 := lv_neT c1 (a := 1) rfl; have e2 := lv_neT c2 (a := 2) rfl; have e3 := lv_neT c3 (a := 3) rfl; have e4 := lv_neT c4 (a := 4) rfl; omega) (by decide) ?_
  refine j_iconst (pc' := 77) (v := (-1 : Int32)) hC dX11_count_76 (by decide) rfl ?_
  exact j_ret_ir hC dX11_count_77
