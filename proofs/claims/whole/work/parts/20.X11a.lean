theorem hyV_X11_child : yX11_child.cls = RX11 ∧ yX11_child.cls ≠ "java/lang/invoke/MethodHandle" ∧ yX11_child.cls ≠ "java/lang/invoke/VarHandle" ∧ (parseMethodDescriptor yX11_child.desc).map (fun d => d.parameters.length) = some 2 := ⟨rfl, by decide +kernel, by decide +kernel, by decide +kernel⟩
noncomputable def fX11_child (σ : jS) (p1 : Int32) (p2 : Int32) : Option (Int32 × jS) :=
  (Option.bind (fX6_welcome σ (p1 / (10 : Int32)) (p1 - p1 / (10 : Int32) * (10 : Int32)) p2) fun (q1 : (Int32 × jS)) => (some (q1.1, q1.2)))
set_option maxRecDepth 100000 in
set_option maxHeartbeats 4000000 in
theorem kX11_child (l : Launch) (d : jD) (A : Nat → Prop) (σ : jS) (p1 : Int32) (p2 : Int32) : jMi l yX11_child (jws yX11_child cX11_child 3 (some (.int))) { frames := 5, cells := 0, slots := 0, locals := 197 } d wX A [.ref (d.2.1 0), .int p1, .int p2] σ (fX11_child σ p1 p2) := by
  refine jStart_i (lv0 := [(0, .ref (d.2.1 0)), (1, .int p1), (2, .int p2)]) (by decide) rfl (Nat.le_of_ble_eq_true rfl) rfl (fun z hC res => ?_)
  unfold fX11_child
  refine j_aload_n (pc' := 1) hC 0 dX11_child_0 rfl rfl rfl ?_
  refine j_get (pc' := 4) hC ly_X11 (X_at_0 d _) rfl 0 (by decide) fl_X11_10 rfl dX11_child_1 rfl ?_
  refine j_iload_n (pc' := 5) hC 1 dX11_child_4 rfl rfl rfl ?_
  refine j_bipush (pc' := 7) (v := (10 : Int32)) hC dX11_child_5 (by decide) rfl ?_
  refine j_idiv0 (pc' := 8) hC dX11_child_7 (by decide) rfl ?_
  refine j_iload_n (pc' := 9) hC 1 dX11_child_8 rfl rfl rfl ?_
  refine j_bipush (pc' := 11) (v := (10 : Int32)) hC dX11_child_9 (by decide) rfl ?_
  refine j_irem0 (pc' := 12) hC dX11_child_11 (by decide) rfl ?_
  refine j_iload_n (pc' := 13) hC 2 dX11_child_12 rfl rfl rfl ?_
  refine j_callV_i (pc' := 16) (As := [.int (p1 / (10 : Int32)), .int (p1 - p1 / (10 : Int32) * (10 : Int32)), .int p2]) (st := []) hC (X_at_1 d _) rfl (kX6_welcome l d A _ _ _ _) (jgV ml_X11_88 im_X6_welcome se_X6_welcome in_X6 cd_X6_welcome) rfl rfl rfl hyV_X6_welcome ⟨Nat.le_of_ble_eq_true rfl, Nat.le_of_ble_eq_true rfl⟩ rfl rfl (Nat.le_of_ble_eq_true rfl) dX11_child_13 rfl (fun q1 => ?_)
  exact j_ret_i hC dX11_child_16
theorem hyV_X11_children : yX11_children.cls = RX11 ∧ yX11_children.cls ≠ "java/lang/invoke/MethodHandle" ∧ yX11_children.cls ≠ "java/lang/invoke/VarHandle" ∧ (parseMethodDescriptor yX11_children.desc).map (fun d => d.parameters.length) = some 3 := ⟨rfl, by decide +kernel, by decide +kernel, by decide +kernel⟩
noncomputable def fX11_children_B57 (p1 : Int32) (p3 : Int32) (s57 : jS × Int32 × Int32 → Option (Int32 × jS)) (a : jS × Int32 × Int32) : Option (Int32 × jS) :=
  (if p3 ≤ a.2.1 then (some (a.2.1, a.1)) else (Option.bind (fX9_hasPlaces a.1 p1 a.2.2 (3 : Int32)) fun (q3 : Int32) => (if (jb q3) = 0 then (some (a.2.1, a.1)) else (Option.bind (fX9_elementAt a.1 p1 a.2.2) fun (q4 : Int64) => (Option.bind (fX9_elementAt a.1 p1 (a.2.2 + (1 : Int32))) fun (q5 : Int64) => (Option.bind (fX9_elementAt a.1 p1 (a.2.2 + (2 : Int32))) fun (q6 : Int64) => (Option.bind (fX6_welcome a.1 (q4.toInt32) (q5.toInt32) (q6.toInt32)) fun (q7 : (Int32 × jS)) => (if 0 ≤ q7.1 then (s57 (q7.2, (a.2.1 + (1 : Int32)), (a.2.2 + (3 : Int32)))) else (some (a.2.1, q7.2))))))))))
noncomputable def fX11_children (σ : jS) (p1 : Int32) (p2 : Int32) (p3 : Int32) : Option (Int32 × jS) :=
  (Option.bind (fX9_isShelf σ p1) fun (q1 : Int32) => (if (jb q1) = 0 then (some ((-1 : Int32), σ)) else (if p3 < (1 : Int32) then (some ((-1 : Int32), σ)) else (if p3 ≤ (9 : Int32) then (Option.bind (fX9_refusalOfBytes σ p1) fun (q2 : Int32) => (if q2 = (-11 : Int32) then (some ((0 : Int32), σ)) else (if q2 = 0 then (jloop (fX11_children_B57 p1 p3) jN (σ, (0 : Int32), p2)) else (some (q2, σ))))) else (some ((-1 : Int32), σ))))))
set_option maxRecDepth 100000 in
set_option maxHeartbeats 4000000 in
theorem kX11_children (l : Launch) (d : jD) (A : Nat → Prop) (σ : jS) (p1 : Int32) (p2 : Int32) (p3 : Int32) : jMi l yX11_children (jws yX11_children cX11_children 10 (some (.int))) { frames := 7, cells := 0, slots := 0, locals := 239 } d wX A [.ref (d.2.1 0), .int p1, .int p2, .int p3] σ (fX11_children σ p1 p2 p3) := by
  refine jStart_i (lv0 := [(0, .ref (d.2.1 0)), (1, .int p1), (2, .int p2), (3, .int p3)]) (by decide) rfl (Nat.le_of_ble_eq_true rfl) rfl (fun z hC res => ?_)
  unfold fX11_children
  refine j_aload_n (pc' := 1) hC 0 dX11_children_0 rfl rfl rfl ?_
  refine j_get (pc' := 4) hC ly_X11 (X_at_0 d _) rfl 10 (by decide) fl_X11_84 rfl dX11_children_1 rfl ?_
  refine j_iload_n (pc' := 5) hC 1 dX11_children_4 rfl rfl rfl ?_
  refine j_callV_zr (pc' := 8) (As := [.int p1]) (st := []) hC (X_at_44 d _) rfl (kX9_isShelf l d A _ _) (jgV ml_X11_92 im_X9_isShelf se_X9_isShelf in_X9 cd_X9_isShelf) rfl rfl rfl hyV_X9_isShelf ⟨Nat.le_of_ble_eq_true rfl, Nat.le_of_ble_eq_true rfl⟩ rfl rfl (Nat.le_of_ble_eq_true rfl) dX11_children_5 rfl (fun q1 => ?_)
  refine j_if_eq (pc' := 11) (tgt := 22) hC dX11_children_8 (by decide) rfl ?_ ?_
  · refine j_iconst (pc' := 23) (v := (-1 : Int32)) hC dX11_children_22 (by decide) rfl ?_
    exact j_ret_i hC dX11_children_23
  · refine j_iload_n (pc' := 12) hC 3 dX11_children_11 rfl rfl rfl ?_
    refine j_iconst (pc' := 13) (v := (1 : Int32)) hC dX11_children_12 (by decide) rfl ?_
    refine j_icmp_lt (pc' := 16) (tgt := 22) hC dX11_children_13 (by decide) rfl ?_ ?_
    · refine j_iconst (pc' := 23) (v := (-1 : Int32)) hC dX11_children_22 (by decide) rfl ?_
      exact j_ret_i hC dX11_children_23
    · refine j_iload_n (pc' := 17) hC 3 dX11_children_16 rfl rfl rfl ?_
      refine j_bipush (pc' := 19) (v := (9 : Int32)) hC dX11_children_17 (by decide) rfl ?_
      refine j_icmp_le (pc' := 22) (tgt := 24) hC dX11_children_19 (by decide) rfl ?_ ?_
      · refine j_aload_n (pc' := 25) hC 0 dX11_children_24 rfl rfl rfl ?_
        refine j_get (pc' := 28) hC ly_X11 (X_at_0 d _) rfl 10 (by decide) fl_X11_84 rfl dX11_children_25 rfl ?_
        refine j_iload_n (pc' := 29) hC 1 dX11_children_28 rfl rfl rfl ?_
        refine j_callV_ir (pc' := 32) (As := [.int p1]) (st := []) hC (X_at_44 d _) rfl (kX9_refusalOfBytes l d A _ _) (jgV ml_X11_96 im_X9_refusalOfBytes se_X9_refusalOfBytes in_X9 cd_X9_refusalOfBytes) rfl rfl rfl hyV_X9_refusalOfBytes ⟨Nat.le_of_ble_eq_true rfl, Nat.le_of_ble_eq_true rfl⟩ rfl rfl (Nat.le_of_ble_eq_true rfl) dX11_children_29 rfl (fun q2 => ?_)
        refine j_istore (pc' := 34) (lv' := [(4, .int q2), (0, .ref (d.2.1 0)), (1, .int p1), (2, .int p2), (3, .int p3)]) hC dX11_children_32 (by decide) rfl rfl ?_
        refine j_iload (pc' := 36) hC 0 dX11_children_34 rfl rfl ?_
        refine j_bipush (pc' := 38) (v := (-11 : Int32)) hC dX11_children_36 (by decide) rfl ?_
        refine j_icmp_ne (pc' := 41) (tgt := 43) hC dX11_children_38 (by decide) rfl ?_ ?_
        · refine j_iload (pc' := 45) hC 0 dX11_children_43 rfl rfl ?_
          refine j_if_eq (pc' := 48) (tgt := 51) hC dX11_children_45 (by decide) rfl ?_ ?_
          · refine j_iconst (pc' := 52) (v := (0 : Int32)) hC dX11_children_51 (by decide) rfl ?_
            refine j_istore (pc' := 54) (lv' := [(5, .int (0 : Int32)), (4, .int q2), (0, .ref (d.2.1 0)), (1, .int p1), (2, .int p2), (3, .int p3)]) hC dX11_children_52 (by decide) rfl rfl ?_
            refine j_iload_n (pc' := 55) hC 4 dX11_children_54 rfl rfl rfl ?_
            refine j_istore (pc' := 57) (lv' := [(6, .int p2), (5, .int (0 : Int32)), (4, .int q2), (0, .ref (d.2.1 0)), (1, .int p1), (2, .int p2), (3, .int p3)]) hC dX11_children_55 (by decide) rfl rfl ?_
            refine j_lv (lv' := [(0, .ref (d.2.1 0)), (1, .int p1), (3, .int p3), (5, .int (0 : Int32)), (6, .int p2)]) [3, 4, 6, 1, 0] rfl ?_
            refine j_loop 57 (fun a => a.1) (fun a => [(0, .ref (d.2.1 0)), (1, .int p1), (3, .int p3), (5, .int a.2.1), (6, .int a.2.2)]) (fun s57 hs57 a => ?_) jN (σ, (0 : Int32), p2)
            unfold fX11_children_B57
            refine j_iload (pc' := 59) hC 3 dX11_children_57 rfl rfl ?_
            refine j_iload_n (pc' := 60) hC 2 dX11_children_59 rfl rfl rfl ?_
            refine j_icmp_ge (pc' := 63) (tgt := 148) hC dX11_children_60 (by decide) rfl ?_ ?_
            · refine j_iload (pc' := 150) hC 3 dX11_children_148 rfl rfl ?_
              exact j_ret_i hC dX11_children_150
            · refine j_aload_n (pc' := 64) hC 0 dX11_children_63 rfl rfl rfl ?_
              refine j_get (pc' := 67) hC ly_X11 (X_at_0 d _) rfl 10 (by decide) fl_X11_84 rfl dX11_children_64 rfl ?_
              refine j_iload_n (pc' := 68) hC 1 dX11_children_67 rfl rfl rfl ?_
              refine j_iload (pc' := 70) hC 4 dX11_children_68 rfl rfl ?_
              refine j_iconst (pc' := 71) (v := (3 : Int32)) hC dX11_children_70 (by decide) rfl ?_
              refine j_callV_zr (pc' := 74) (As := [.int p1, .int a.2.2, .int (3 : Int32)]) (st := []) hC (X_at_44 d _) rfl (kX9_hasPlaces l d A _ _ _ _) (jgV ml_X11_100 im_X9_hasPlaces se_X9_hasPlaces in_X9 cd_X9_hasPlaces) rfl rfl rfl hyV_X9_hasPlaces ⟨Nat.le_of_ble_eq_true rfl, Nat.le_of_ble_eq_true rfl⟩ rfl rfl (Nat.le_of_ble_eq_true rfl) dX11_children_71 rfl (fun q3 => ?_)
              refine j_if_eq (pc' := 77) (tgt := 148) hC dX11_children_74 (by decide) rfl ?_ ?_
              · refine j_iload (pc' := 150) hC 3 dX11_children_148 rfl rfl ?_
                exact j_ret_i hC dX11_children_150
              · refine j_aload_n (pc' := 78) hC 0 dX11_children_77 rfl rfl rfl ?_
                refine j_get (pc' := 81) hC ly_X11 (X_at_0 d _) rfl 10 (by decide) fl_X11_84 rfl dX11_children_78 rfl ?_
                refine j_iload_n (pc' := 82) hC 1 dX11_children_81 rfl rfl rfl ?_
                refine j_iload (pc' := 84) hC 4 dX11_children_82 rfl rfl ?_
                refine j_callV_lr (pc' := 87) (As := [.int p1, .int a.2.2]) (st := []) hC (X_at_44 d _) rfl (kX9_elementAt l d A _ _ _) (jgV ml_X11_104 im_X9_elementAt se_X9_elementAt in_X9 cd_X9_elementAt) rfl rfl rfl hyV_X9_elementAt ⟨Nat.le_of_ble_eq_true rfl, Nat.le_of_ble_eq_true rfl⟩ rfl rfl (Nat.le_of_ble_eq_true rfl) dX11_children_84 rfl (fun q4 => ?_)
                refine j_l2i (pc' := 88) hC dX11_children_87 rfl ?_
                refine j_istore (pc' := 90) (lv' := [(7, .int (q4.toInt32)), (0, .ref (d.2.1 0)), (1, .int p1), (3, .int p3), (5, .int a.2.1), (6, .int a.2.2)]) hC dX11_children_88 (by decide) rfl rfl ?_
                refine j_aload_n (pc' := 91) hC 1 dX11_children_90 rfl rfl rfl ?_
                refine j_get (pc' := 94) hC ly_X11 (X_at_0 d _) rfl 10 (by decide) fl_X11_84 rfl dX11_children_91 rfl ?_
                refine j_iload_n (pc' := 95) hC 2 dX11_children_94 rfl rfl rfl ?_
                refine j_iload (pc' := 97) hC 5 dX11_children_95 rfl rfl ?_
                refine j_iconst (pc' := 98) (v := (1 : Int32)) hC dX11_children_97 (by decide) rfl ?_
                refine j_iadd (pc' := 99) hC dX11_children_98 rfl ?_
                refine j_callV_lr (pc' := 102) (As := [.int p1, .int (a.2.2 + (1 : Int32))]) (st := []) hC (X_at_44 d _) rfl (kX9_elementAt l d A _ _ _) (jgV ml_X11_104 im_X9_elementAt se_X9_elementAt in_X9 cd_X9_elementAt) rfl rfl rfl hyV_X9_elementAt ⟨Nat.le_of_ble_eq_true rfl, Nat.le_of_ble_eq_true rfl⟩ rfl rfl (Nat.le_of_ble_eq_true rfl) dX11_children_99 rfl (fun q5 => ?_)
                refine j_l2i (pc' := 103) hC dX11_children_102 rfl ?_
                refine j_istore (pc' := 105) (lv' := [(8, .int (q5.toInt32)), (7, .int (q4.toInt32)), (0, .ref (d.2.1 0)), (1, .int p1), (3, .int p3), (5, .int a.2.1), (6, .int a.2.2)]) hC dX11_children_103 (by decide) rfl rfl ?_
                refine j_aload_n (pc' := 106) hC 2 dX11_children_105 rfl rfl rfl ?_
                refine j_get (pc' := 109) hC ly_X11 (X_at_0 d _) rfl 10 (by decide) fl_X11_84 rfl dX11_children_106 rfl ?_
                refine j_iload_n (pc' := 110) hC 3 dX11_children_109 rfl rfl rfl ?_
                refine j_iload (pc' := 112) hC 6 dX11_children_110 rfl rfl ?_
                refine j_iconst (pc' := 113) (v := (2 : Int32)) hC dX11_children_112 (by decide) rfl ?_
                refine j_iadd (pc' := 114) hC dX11_children_113 rfl ?_
                refine j_callV_lr (pc' := 117) (As := [.int p1, .int (a.2.2 + (2 : Int32))]) (st := []) hC (X_at_44 d _) rfl (kX9_elementAt l d A _ _ _) (jgV ml_X11_104 im_X9_elementAt se_X9_elementAt in_X9 cd_X9_elementAt) rfl rfl rfl hyV_X9_elementAt ⟨Nat.le_of_ble_eq_true rfl, Nat.le_of_ble_eq_true rfl⟩ rfl rfl (Nat.le_of_ble_eq_true rfl) dX11_children_114 rfl (fun q6 => ?_)
                refine j_l2i (pc' := 118) hC dX11_children_117 rfl ?_
                refine j_istore (pc' := 120) (lv' := [(9, .int (q6.toInt32)), (8, .int (q5.toInt32)), (7, .int (q4.toInt32)), (0, .ref (d.2.1 0)), (1, .int p1), (3, .int p3), (5, .int a.2.1), (6, .int a.2.2)]) hC dX11_children_118 (by decide) rfl rfl ?_
                refine j_aload_n (pc' := 121) hC 3 dX11_children_120 rfl rfl rfl ?_
                refine j_get (pc' := 124) hC ly_X11 (X_at_0 d _) rfl 0 (by decide) fl_X11_10 rfl dX11_children_121 rfl ?_
                refine j_iload (pc' := 126) hC 2 dX11_children_124 rfl rfl ?_
                refine j_iload (pc' := 128) hC 1 dX11_children_126 rfl rfl ?_
                refine j_iload (pc' := 130) hC 0 dX11_children_128 rfl rfl ?_
                refine j_callV_i (pc' := 133) (As := [.int (q4.toInt32), .int (q5.toInt32), .int (q6.toInt32)]) (st := []) hC (X_at_1 d _) rfl (kX6_welcome l d A _ _ _ _) (jgV ml_X11_88 im_X6_welcome se_X6_welcome in_X6 cd_X6_welcome) rfl rfl rfl hyV_X6_welcome ⟨Nat.le_of_ble_eq_true rfl, Nat.le_of_ble_eq_true rfl⟩ rfl rfl (Nat.le_of_ble_eq_true rfl) dX11_children_130 rfl (fun q7 => ?_)
                refine j_if_ge (pc' := 136) (tgt := 139) hC dX11_children_133 (by decide) rfl ?_ ?_
                · refine j_iinc (pc' := 142) (v := (a.2.1 + (1 : Int32))) (lv' := [(5, .int (a.2.1 + (1 : Int32))), (9, .int (q6.toInt32)), (8, .int (q5.toInt32)), (7, .int (q4.toInt32)), (0, .ref (d.2.1 0)), (1, .int p1), (3, .int p3), (6, .int a.2.2)]) hC 6 dX11_children_139 rfl (by decide) rfl rfl rfl ?_
                  refine j_iinc (pc' := 145) (v := (a.2.2 + (3 : Int32))) (lv' := [(6, .int (a.2.2 + (3 : Int32))), (5, .int (a.2.1 + (1 : Int32))), (9, .int (q6.toInt32)), (8, .int (q5.toInt32)), (7, .int (q4.toInt32)), (0, .ref (d.2.1 0)), (1, .int p1), (3, .int p3)]) hC 7 dX11_children_142 rfl (by decide) rfl rfl rfl ?_
                  refine j_goto (tgt := 57) hC dX11_children_145 (by decide) ?_
                  exact j_lv (lv' := [(0, .ref (d.2.1 0)), (1, .int p1), (3, .int p3), (5, .int (a.2.1 + (1 : Int32))), (6, .int (a.2.2 + (3 : Int32)))]) [5, 6, 7, 1, 0] rfl (hs57 (q7.2, (a.2.1 + (1 : Int32)), (a.2.2 + (3 : Int32))))
                · refine j_goto (tgt := 148) hC dX11_children_136 (by decide) ?_
                  refine j_iload (pc' := 150) hC 6 dX11_children_148 rfl rfl ?_
                  exact j_ret_i hC dX11_children_150
          · refine j_iload (pc' := 50) hC 0 dX11_children_48 rfl rfl ?_
            exact j_ret_i hC dX11_children_50
        · refine j_iconst (pc' := 42) (v := (0 : Int32)) hC dX11_children_41 (by decide) rfl ?_
          exact j_ret_i hC dX11_children_42
      · refine j_iconst (pc' := 23) (v := (-1 : Int32)) hC dX11_children_22 (by decide) rfl ?_
        exact j_ret_i hC dX11_children_23
theorem hyV_X11_mend : yX11_mend.cls = RX11 ∧ yX11_mend.cls ≠ "java/lang/invoke/MethodHandle" ∧ yX11_mend.cls ≠ "java/lang/invoke/VarHandle" ∧ (parseMethodDescriptor yX11_mend.desc).map (fun d => d.parameters.length) = some 3 := ⟨rfl, by decide +kernel, by decide +kernel, by decide +kernel⟩
noncomputable def fX11_mend (σ : jS) (p1 : Int32) (p2 : Int32) (p3 : Int32) : Option (Int32 × jS) :=
  (Option.bind (fX6_placeOf σ p1 p2) fun (q1 : Int32) => (if q1 < 0 then (some ((-1 : Int32), σ)) else (Option.bind (fX6_mayBe σ p1 p2 p3) fun (q2 : Int32) => (if (jb q2) = 0 then (some ((-1 : Int32), σ)) else (Option.bind (fX6_valueAt σ q1) fun (q3 : Int32) => (if q3 = p3 then (some (q3, σ)) else (Option.bind (fX1_make σ q1 p3) fun (q4 : jS) => (some (q3, q4)))))))))
set_option maxRecDepth 100000 in
set_option maxHeartbeats 4000000 in
theorem kX11_mend (l : Launch) (d : jD) (A : Nat → Prop) (σ : jS) (p1 : Int32) (p2 : Int32) (p3 : Int32) : jMi l yX11_mend (jws yX11_mend cX11_mend 6 (some (.int))) { frames := 5, cells := 0, slots := 0, locals := 196 } d wX A [.ref (d.2.1 0), .int p1, .int p2, .int p3] σ (fX11_mend σ p1 p2 p3) := by
  refine jStart_i (lv0 := [(0, .ref (d.2.1 0)), (1, .int p1), (2, .int p2), (3, .int p3)]) (by decide) rfl (Nat.le_of_ble_eq_true rfl) rfl (fun z hC res => ?_)
  unfold fX11_mend
  refine j_aload_n (pc' := 1) hC 0 dX11_mend_0 rfl rfl rfl ?_
  refine j_get (pc' := 4) hC ly_X11 (X_at_0 d _) rfl 0 (by decide) fl_X11_10 rfl dX11_mend_1 rfl ?_
  refine j_iload_n (pc' := 5) hC 1 dX11_mend_4 rfl rfl rfl ?_
  refine j_iload_n (pc' := 6) hC 2 dX11_mend_5 rfl rfl rfl ?_
  refine j_callV_ir (pc' := 9) (As := [.int p1, .int p2]) (st := []) hC (X_at_1 d _) rfl (kX6_placeOf l d A _ _ _) (jgV ml_X11_108 im_X6_placeOf se_X6_placeOf in_X6 cd_X6_placeOf) rfl rfl rfl hyV_X6_placeOf ⟨Nat.le_of_ble_eq_true rfl, Nat.le_of_ble_eq_true rfl⟩ rfl rfl (Nat.le_of_ble_eq_true rfl) dX11_mend_6 rfl (fun q1 => ?_)
  refine j_istore (pc' := 11) (lv' := [(4, .int q1), (0, .ref (d.2.1 0)), (1, .int p1), (2, .int p2), (3, .int p3)]) hC dX11_mend_9 (by decide) rfl rfl ?_
  refine j_iload (pc' := 13) hC 0 dX11_mend_11 rfl rfl ?_
  refine j_if_lt (pc' := 16) (tgt := 29) hC dX11_mend_13 (by decide) rfl ?_ ?_
  · refine j_iconst (pc' := 30) (v := (-1 : Int32)) hC dX11_mend_29 (by decide) rfl ?_
    exact j_ret_i hC dX11_mend_30
  · refine j_aload_n (pc' := 17) hC 1 dX11_mend_16 rfl rfl rfl ?_
    refine j_get (pc' := 20) hC ly_X11 (X_at_0 d _) rfl 0 (by decide) fl_X11_10 rfl dX11_mend_17 rfl ?_
    refine j_iload_n (pc' := 21) hC 2 dX11_mend_20 rfl rfl rfl ?_
    refine j_iload_n (pc' := 22) hC 3 dX11_mend_21 rfl rfl rfl ?_
    refine j_iload_n (pc' := 23) hC 4 dX11_mend_22 rfl rfl rfl ?_
    refine j_callV_zr (pc' := 26) (As := [.int p1, .int p2, .int p3]) (st := []) hC (X_at_1 d _) rfl (kX6_mayBe l d A _ _ _ _) (jgV ml_X11_112 im_X6_mayBe se_X6_mayBe in_X6 cd_X6_mayBe) rfl rfl rfl hyV_X6_mayBe ⟨Nat.le_of_ble_eq_true rfl, Nat.le_of_ble_eq_true rfl⟩ rfl rfl (Nat.le_of_ble_eq_true rfl) dX11_mend_23 rfl (fun q2 => ?_)
    refine j_if_ne (pc' := 29) (tgt := 31) hC dX11_mend_26 (by decide) rfl ?_ ?_
    · refine j_aload_n (pc' := 32) hC 1 dX11_mend_31 rfl rfl rfl ?_
      refine j_get (pc' := 35) hC ly_X11 (X_at_0 d _) rfl 0 (by decide) fl_X11_10 rfl dX11_mend_32 rfl ?_
      refine j_iload (pc' := 37) hC 0 dX11_mend_35 rfl rfl ?_
      refine j_callV_ir (pc' := 40) (As := [.int q1]) (st := []) hC (X_at_1 d _) rfl (kX6_valueAt l d A _ _) (jgV ml_X11_115 im_X6_valueAt se_X6_valueAt in_X6 cd_X6_valueAt) rfl rfl rfl hyV_X6_valueAt ⟨Nat.le_of_ble_eq_true rfl, Nat.le_of_ble_eq_true rfl⟩ rfl rfl (Nat.le_of_ble_eq_true rfl) dX11_mend_37 rfl (fun q3 => ?_)
      refine j_istore (pc' := 42) (lv' := [(5, .int q3), (4, .int q1), (0, .ref (d.2.1 0)), (1, .int p1), (2, .int p2), (3, .int p3)]) hC dX11_mend_40 (by decide) rfl rfl ?_
      refine j_iload (pc' := 44) hC 0 dX11_mend_42 rfl rfl ?_
      refine j_iload_n (pc' := 45) hC 5 dX11_mend_44 rfl rfl rfl ?_
      refine j_icmp_eq (pc' := 48) (tgt := 58) hC dX11_mend_45 (by decide) rfl ?_ ?_
      · refine j_iload (pc' := 60) hC 0 dX11_mend_58 rfl rfl ?_
        exact j_ret_i hC dX11_mend_60
      · refine j_aload_n (pc' := 49) hC 2 dX11_mend_48 rfl rfl rfl ?_
        refine j_get (pc' := 52) hC ly_X11 (X_at_0 d _) rfl 1 (by decide) fl_X11_21 rfl dX11_mend_49 rfl ?_
        refine j_iload (pc' := 54) hC 1 dX11_mend_52 rfl rfl ?_
        refine j_iload_n (pc' := 55) hC 5 dX11_mend_54 rfl rfl rfl ?_
        refine j_callV_v (pc' := 58) (As := [.int q1, .int p3]) (st := []) hC (X_at_3 d _) rfl (kX1_make l d A _ _ _) (jgV ml_X11_118 im_X1_make se_X1_make in_X1 cd_X1_make) rfl rfl rfl hyV_X1_make ⟨Nat.le_of_ble_eq_true rfl, Nat.le_of_ble_eq_true rfl⟩ rfl rfl (Nat.le_of_ble_eq_true rfl) dX11_mend_55 rfl (fun q4 => ?_)
        refine j_iload (pc' := 60) hC 0 dX11_mend_58 rfl rfl ?_
        exact j_ret_i hC dX11_mend_60
    · refine j_iconst (pc' := 30) (v := (-1 : Int32)) hC dX11_mend_29 (by decide) rfl ?_
      exact j_ret_i hC dX11_mend_30
theorem hyV_X11_of : yX11_of.cls = RX11 ∧ yX11_of.cls ≠ "java/lang/invoke/MethodHandle" ∧ yX11_of.cls ≠ "java/lang/invoke/VarHandle" ∧ (parseMethodDescriptor yX11_of.desc).map (fun d => d.parameters.length) = some 2 := ⟨rfl, by decide +kernel, by decide +kernel, by decide +kernel⟩
noncomputable def fX11_of (σ : jS) (p1 : Int32) (p2 : Int32) : Option (Int32) :=
  (Option.bind (fX6_placeOf σ p1 p2) fun (q1 : Int32) => (if 0 ≤ q1 then (Option.bind (fX6_valueAt σ q1) fun (q2 : Int32) => (some q2)) else (some (-1 : Int32))))
set_option maxRecDepth 100000 in
set_option maxHeartbeats 4000000 in
theorem kX11_of (l : Launch) (d : jD) (A : Nat → Prop) (σ : jS) (p1 : Int32) (p2 : Int32) : jMir l yX11_of (jws yX11_of cX11_of 4 (some (.int))) { frames := 4, cells := 0, slots := 0, locals := 173 } d wX A [.ref (d.2.1 0), .int p1, .int p2] σ (fX11_of σ p1 p2) := by
  refine jStart_ir (lv0 := [(0, .ref (d.2.1 0)), (1, .int p1), (2, .int p2)]) (by decide) rfl (Nat.le_of_ble_eq_true rfl) rfl (fun z hC res => ?_)
  unfold fX11_of
  refine j_aload_n (pc' := 1) hC 0 dX11_of_0 rfl rfl rfl ?_
  refine j_get (pc' := 4) hC ly_X11 (X_at_0 d _) rfl 0 (by decide) fl_X11_10 rfl dX11_of_1 rfl ?_
  refine j_iload_n (pc' := 5) hC 1 dX11_of_4 rfl rfl rfl ?_
  refine j_iload_n (pc' := 6) hC 2 dX11_of_5 rfl rfl rfl ?_
  refine j_callV_ir (pc' := 9) (As := [.int p1, .int p2]) (st := []) hC (X_at_1 d _) rfl (kX6_placeOf l d A _ _ _) (jgV ml_X11_108 im_X6_placeOf se_X6_placeOf in_X6 cd_X6_placeOf) rfl rfl rfl hyV_X6_placeOf ⟨Nat.le_of_ble_eq_true rfl, Nat.le_of_ble_eq_true rfl⟩ rfl rfl (Nat.le_of_ble_eq_true rfl) dX11_of_6 rfl (fun q1 => ?_)
  refine j_istore_n (pc' := 10) (lv' := [(3, .int q1), (0, .ref (d.2.1 0)), (1, .int p1), (2, .int p2)]) hC dX11_of_9 rfl (by decide) rfl rfl ?_
  refine j_iload_n (pc' := 11) hC 0 dX11_of_10 rfl rfl rfl ?_
  refine j_if_ge (pc' := 14) (tgt := 18) hC dX11_of_11 (by decide) rfl ?_ ?_
  · refine j_aload_n (pc' := 19) hC 1 dX11_of_18 rfl rfl rfl ?_
    refine j_get (pc' := 22) hC ly_X11 (X_at_0 d _) rfl 0 (by decide) fl_X11_10 rfl dX11_of_19 rfl ?_
    refine j_iload_n (pc' := 23) hC 0 dX11_of_22 rfl rfl rfl ?_
    refine j_callV_ir (pc' := 26) (As := [.int q1]) (st := []) hC (X_at_1 d _) rfl (kX6_valueAt l d A _ _) (jgV ml_X11_115 im_X6_valueAt se_X6_valueAt in_X6 cd_X6_valueAt) rfl rfl rfl hyV_X6_valueAt ⟨Nat.le_of_ble_eq_true rfl, Nat.le_of_ble_eq_true rfl⟩ rfl rfl (Nat.le_of_ble_eq_true rfl) dX11_of_23 rfl (fun q2 => ?_)
    exact j_ret_ir hC dX11_of_26
  · refine j_iconst (pc' := 15) (v := (-1 : Int32)) hC dX11_of_14 (by decide) rfl ?_
    refine j_goto (tgt := 26) hC dX11_of_15 (by decide) ?_
    exact j_ret_ir hC dX11_of_26
theorem hyV_X11_feed : yX11_feed.cls = RX11 ∧ yX11_feed.cls ≠ "java/lang/invoke/MethodHandle" ∧ yX11_feed.cls ≠ "java/lang/invoke/VarHandle" ∧ (parseMethodDescriptor yX11_feed.desc).map (fun d => d.parameters.length) = some 1 := ⟨rfl, by decide +kernel, by decide +kernel, by decide +kernel⟩
noncomputable def fX11_feed (σ : jS) (p1 : Int32) : Option (Int32 × jS) :=
  (if p1 < 0 then (some ((-1 : Int32), σ)) else (if p1 ≤ (255 : Int32) then (Option.bind (fX4_write σ p1) fun (q1 : (Int32 × jS)) => (some (q1.1, q1.2))) else (some ((-1 : Int32), σ))))
set_option maxRecDepth 100000 in
set_option maxHeartbeats 4000000 in
theorem kX11_feed (l : Launch) (d : jD) (A : Nat → Prop) (σ : jS) (p1 : Int32) : jMi l yX11_feed (jws yX11_feed cX11_feed 2 (some (.int))) { frames := 3, cells := 0, slots := 0, locals := 151 } d wX A [.ref (d.2.1 0), .int p1] σ (fX11_feed σ p1) := by
  refine jStart_i (lv0 := [(0, .ref (d.2.1 0)), (1, .int p1)]) (by decide) rfl (Nat.le_of_ble_eq_true rfl) rfl (fun z hC res => ?_)
  unfold fX11_feed
  refine j_iload_n (pc' := 1) hC 1 dX11_feed_0 rfl rfl rfl ?_
  refine j_if_lt (pc' := 4) (tgt := 11) hC dX11_feed_1 (by decide) rfl ?_ ?_
  · refine j_iconst (pc' := 12) (v := (-1 : Int32)) hC dX11_feed_11 (by decide) rfl ?_
    exact j_ret_i hC dX11_feed_12
  · refine j_iload_n (pc' := 5) hC 1 dX11_feed_4 rfl rfl rfl ?_
    refine j_sipush (pc' := 8) (v := (255 : Int32)) hC dX11_feed_5 (by decide) rfl ?_
    refine j_icmp_le (pc' := 11) (tgt := 13) hC dX11_feed_8 (by decide) rfl ?_ ?_
    · refine j_aload_n (pc' := 14) hC 0 dX11_feed_13 rfl rfl rfl ?_
      refine j_get (pc' := 17) hC ly_X11 (X_at_0 d _) rfl 2 (by decide) fl_X11_28 rfl dX11_feed_14 rfl ?_
      refine j_iload_n (pc' := 18) hC 1 dX11_feed_17 rfl rfl rfl ?_
      refine j_callV_i (pc' := 21) (As := [.int p1]) (st := []) hC (X_at_7 d _) rfl (kX4_write l d A _ _) (jgV ml_X11_122 im_X4_write se_X4_write in_X4 cd_X4_write) rfl rfl rfl hyV_X4_write ⟨Nat.le_of_ble_eq_true rfl, Nat.le_of_ble_eq_true rfl⟩ rfl rfl (Nat.le_of_ble_eq_true rfl) dX11_feed_18 rfl (fun q1 => ?_)
      exact j_ret_i hC dX11_feed_21
    · refine j_iconst (pc' := 12) (v := (-1 : Int32)) hC dX11_feed_11 (by decide) rfl ?_
      exact j_ret_i hC dX11_feed_12
theorem hyV_X11_law : yX11_law.cls = RX11 ∧ yX11_law.cls ≠ "java/lang/invoke/MethodHandle" ∧ yX11_law.cls ≠ "java/lang/invoke/VarHandle" ∧ (parseMethodDescriptor yX11_law.desc).map (fun d => d.parameters.length) = some 0 := ⟨rfl, by decide +kernel, by decide +kernel, by decide +kernel⟩
noncomputable def fX11_law (σ : jS) : Option (Int32 × jS) :=
  (Option.bind (fX4_enact σ) fun (q1 : (Int32 × jS)) => (some (q1.1, q1.2)))
set_option maxRecDepth 100000 in
set_option maxHeartbeats 4000000 in
theorem kX11_law (l : Launch) (d : jD) (A : Nat → Prop) (σ : jS) : jMi l yX11_law (jws yX11_law cX11_law 1 (some (.int))) { frames := 123, cells := 0, slots := 0, locals := 3166 } d wX A [.ref (d.2.1 0)] σ (fX11_law σ) := by
  refine jStart_i (lv0 := [(0, .ref (d.2.1 0))]) (by decide) rfl (Nat.le_of_ble_eq_true rfl) rfl (fun z hC res => ?_)
  unfold fX11_law
  refine j_aload_n (pc' := 1) hC 0 dX11_law_0 rfl rfl rfl ?_
  refine j_get (pc' := 4) hC ly_X11 (X_at_0 d _) rfl 2 (by decide) fl_X11_28 rfl dX11_law_1 rfl ?_
  refine j_callV_i (pc' := 7) (As := []) (st := []) hC (X_at_7 d _) rfl (kX4_enact l d A _) (jgV ml_X11_125 im_X4_enact se_X4_enact in_X4 cd_X4_enact) rfl rfl rfl hyV_X4_enact ⟨Nat.le_of_ble_eq_true rfl, Nat.le_of_ble_eq_true rfl⟩ rfl rfl (Nat.le_of_ble_eq_true rfl) dX11_law_4 rfl (fun q1 => ?_)
  exact j_ret_i hC dX11_law_7
theorem hyS_X11_swingOf : yX11_swingOf.cls ≠ "java/lang/invoke/MethodHandle" ∧ yX11_swingOf.cls ≠ "java/lang/invoke/VarHandle" ∧ (parseMethodDescriptor yX11_swingOf.desc).map (fun d => d.parameters.length) = some 1 := ⟨by decide +kernel, by decide +kernel, by decide +kernel⟩
noncomputable def fX11_swingOf (σ : jS) (p1 : Int32) : Option (Int32) :=
  (some (p1 / (100 : Int32)))
set_option maxRecDepth 100000 in
set_option maxHeartbeats 4000000 in
theorem kX11_swingOf (l : Launch) (d : jD) (A : Nat → Prop) (σ : jS) (p1 : Int32) : jMir l yX11_swingOf (jws yX11_swingOf cX11_swingOf 1 (some (.int))) { frames := 2, cells := 0, slots := 0, locals := 130 } d wX A [.int p1] σ (fX11_swingOf σ p1) := by
  refine jStart_ir (lv0 := [(0, .int p1)]) (by decide) rfl (Nat.le_of_ble_eq_true rfl) rfl (fun z hC res => ?_)
  unfold fX11_swingOf
  refine j_iload_n (pc' := 1) hC 0 dX11_swingOf_0 rfl rfl rfl ?_
  refine j_bipush (pc' := 3) (v := (100 : Int32)) hC dX11_swingOf_1 (by decide) rfl ?_
  refine j_idiv0 (pc' := 4) hC dX11_swingOf_3 (by decide) rfl ?_
  exact j_ret_ir hC dX11_swingOf_4
theorem hyS_X11_childOf : yX11_childOf.cls ≠ "java/lang/invoke/MethodHandle" ∧ yX11_childOf.cls ≠ "java/lang/invoke/VarHandle" ∧ (parseMethodDescriptor yX11_childOf.desc).map (fun d => d.parameters.length) = some 1 := ⟨by decide +kernel, by decide +kernel, by decide +kernel⟩
noncomputable def fX11_childOf (σ : jS) (p1 : Int32) : Option (Int32) :=
  (some ((p1 / (10 : Int32)) - (p1 / (10 : Int32)) / (10 : Int32) * (10 : Int32)))
set_option maxRecDepth 100000 in
set_option maxHeartbeats 4000000 in
theorem kX11_childOf (l : Launch) (d : jD) (A : Nat → Prop) (σ : jS) (p1 : Int32) : jMir l yX11_childOf (jws yX11_childOf cX11_childOf 1 (some (.int))) { frames := 2, cells := 0, slots := 0, locals := 130 } d wX A [.int p1] σ (fX11_childOf σ p1) := by
  refine jStart_ir (lv0 := [(0, .int p1)]) (by decide) rfl (Nat.le_of_ble_eq_true rfl) rfl (fun z hC res => ?_)
  unfold fX11_childOf
  refine j_iload_n (pc' := 1) hC 0 dX11_childOf_0 rfl rfl rfl ?_
  refine j_bipush (pc' := 3) (v := (10 : Int32)) hC dX11_childOf_1 (by decide) rfl ?_
  refine j_idiv0 (pc' := 4) hC dX11_childOf_3 (by decide) rfl ?_
  refine j_bipush (pc' := 6) (v := (10 : Int32)) hC dX11_childOf_4 (by decide) rfl ?_
  refine j_irem0 (pc' := 7) hC dX11_childOf_6 (by decide) rfl ?_
  exact j_ret_ir hC dX11_childOf_7
theorem hyS_X11_isWaiting : yX11_isWaiting.cls ≠ "java/lang/invoke/MethodHandle" ∧ yX11_isWaiting.cls ≠ "java/lang/invoke/VarHandle" ∧ (parseMethodDescriptor yX11_isWaiting.desc).map (fun d => d.parameters.length) = some 1 := ⟨by decide +kernel, by decide +kernel, by decide +kernel⟩
noncomputable def fX11_isWaiting (σ : jS) (p1 : Int32) : Option (Int32) :=
  (if p1 < 0 then (some (0 : Int32)) else (if (8 : Int32) < p1 then (some (0 : Int32)) else (some (1 : Int32))))
set_option maxRecDepth 100000 in
set_option maxHeartbeats 4000000 in
theorem kX11_isWaiting (l : Launch) (d : jD) (A : Nat → Prop) (σ : jS) (p1 : Int32) : jMzr l yX11_isWaiting (jws yX11_isWaiting cX11_isWaiting 1 (some (.boolean))) { frames := 2, cells := 0, slots := 0, locals := 130 } d wX A [.int p1] σ (fX11_isWaiting σ p1) := by
  refine jStart_zr (lv0 := [(0, .int p1)]) (by decide) rfl (Nat.le_of_ble_eq_true rfl) rfl (fun z hC res => ?_)
  unfold fX11_isWaiting
  refine j_iload_n (pc' := 1) hC 0 dX11_isWaiting_0 rfl rfl rfl ?_
  refine j_if_lt (pc' := 4) (tgt := 14) hC dX11_isWaiting_1 (by decide) rfl ?_ ?_
  · refine j_iconst (pc' := 15) (v := (0 : Int32)) hC dX11_isWaiting_14 (by decide) rfl ?_
    exact j_ret_zr hC (by decide) dX11_isWaiting_15
  · refine j_iload_n (pc' := 5) hC 0 dX11_isWaiting_4 rfl rfl rfl ?_
    refine j_bipush (pc' := 7) (v := (8 : Int32)) hC dX11_isWaiting_5 (by decide) rfl ?_
    refine j_icmp_gt (pc' := 10) (tgt := 14) hC dX11_isWaiting_7 (by decide) rfl ?_ ?_
    · refine j_iconst (pc' := 15) (v := (0 : Int32)) hC dX11_isWaiting_14 (by decide) rfl ?_
      exact j_ret_zr hC (by decide) dX11_isWaiting_15
    · refine j_iconst (pc' := 11) (v := (1 : Int32)) hC dX11_isWaiting_10 (by decide) rfl ?_
      refine j_goto (tgt := 15) hC dX11_isWaiting_11 (by decide) ?_
      exact j_ret_zr hC (by decide) dX11_isWaiting_15
theorem hyV_X11_isTold : yX11_isTold.cls = RX11 ∧ yX11_isTold.cls ≠ "java/lang/invoke/MethodHandle" ∧ yX11_isTold.cls ≠ "java/lang/invoke/VarHandle" ∧ (parseMethodDescriptor yX11_isTold.desc).map (fun d => d.parameters.length) = some 2 := ⟨rfl, by decide +kernel, by decide +kernel, by decide +kernel⟩
noncomputable def fX11_isTold (σ : jS) (p1 : Int32) (p2 : Int32) : Option (Int32) :=
  (if p1 < 0 then (some (0 : Int32)) else (Option.bind (fX11_swingOf σ p1) fun (q1 : Int32) => (Option.bind (fX6_isSwing σ q1) fun (q2 : Int32) => (if (jb q2) = 0 then (some (0 : Int32)) else (Option.bind (fX11_childOf σ p1) fun (q3 : Int32) => (Option.bind (fX6_isChild σ q3) fun (q4 : Int32) => (if (jb q4) = 0 then (some (0 : Int32)) else (Option.bind (fX11_childOf σ p1) fun (q5 : Int32) => (Option.bind (fX6_mayCount σ (p1 - p1 / (10 : Int32) * (10 : Int32)) q5) fun (q6 : Int32) => (if (jb q6) = 0 then (some (0 : Int32)) else (Option.bind (fX11_isWaiting σ p2) fun (q7 : Int32) => (if (jb q7) = 0 then (some (0 : Int32)) else (some (1 : Int32))))))))))))))
set_option maxRecDepth 100000 in
set_option maxHeartbeats 4000000 in
theorem kX11_isTold (l : Launch) (d : jD) (A : Nat → Prop) (σ : jS) (p1 : Int32) (p2 : Int32) : jMzr l yX11_isTold (jws yX11_isTold cX11_isTold 3 (some (.boolean))) { frames := 4, cells := 0, slots := 0, locals := 173 } d wX A [.ref (d.2.1 0), .int p1, .int p2] σ (fX11_isTold σ p1 p2) := by
  refine jStart_zr (lv0 := [(0, .ref (d.2.1 0)), (1, .int p1), (2, .int p2)]) (by decide) rfl (Nat.le_of_ble_eq_true rfl) rfl (fun z hC res => ?_)
  unfold fX11_isTold
  refine j_iload_n (pc' := 1) hC 1 dX11_isTold_0 rfl rfl rfl ?_
  refine j_if_lt (pc' := 4) (tgt := 61) hC dX11_isTold_1 (by decide) rfl ?_ ?_
  · refine j_iconst (pc' := 62) (v := (0 : Int32)) hC dX11_isTold_61 (by decide) rfl ?_
    exact j_ret_zr hC (by decide) dX11_isTold_62
  · refine j_aload_n (pc' := 5) hC 0 dX11_isTold_4 rfl rfl rfl ?_
    refine j_get (pc' := 8) hC ly_X11 (X_at_0 d _) rfl 0 (by decide) fl_X11_10 rfl dX11_isTold_5 rfl ?_
    refine j_iload_n (pc' := 9) hC 1 dX11_isTold_8 rfl rfl rfl ?_
    refine j_callS_ir (pc' := 12) (As := [.int p1]) (st := [.ref (d.2.1 1)]) hC (kX11_swingOf l d A _ _) (jgS ml_X11_133 st_X11_swingOf in_X11 cd_X11_swingOf) rfl rfl rfl hyS_X11_swingOf ⟨Nat.le_of_ble_eq_true rfl, Nat.le_of_ble_eq_true rfl⟩ rfl rfl (Nat.le_of_ble_eq_true rfl) dX11_isTold_9 rfl (fun q1 => ?_)
    refine j_callV_zr (pc' := 15) (As := [.int q1]) (st := []) hC (X_at_1 d _) rfl (kX6_isSwing l d A _ _) (jgV ml_X11_175 im_X6_isSwing se_X6_isSwing in_X6 cd_X6_isSwing) rfl rfl rfl hyV_X6_isSwing ⟨Nat.le_of_ble_eq_true rfl, Nat.le_of_ble_eq_true rfl⟩ rfl rfl (Nat.le_of_ble_eq_true rfl) dX11_isTold_12 rfl (fun q2 => ?_)
    refine j_if_eq (pc' := 18) (tgt := 61) hC dX11_isTold_15 (by decide) rfl ?_ ?_
    · refine j_iconst (pc' := 62) (v := (0 : Int32)) hC dX11_isTold_61 (by decide) rfl ?_
      exact j_ret_zr hC (by decide) dX11_isTold_62
    · refine j_aload_n (pc' := 19) hC 0 dX11_isTold_18 rfl rfl rfl ?_
      refine j_get (pc' := 22) hC ly_X11 (X_at_0 d _) rfl 0 (by decide) fl_X11_10 rfl dX11_isTold_19 rfl ?_
      refine j_iload_n (pc' := 23) hC 1 dX11_isTold_22 rfl rfl rfl ?_
      refine j_callS_ir (pc' := 26) (As := [.int p1]) (st := [.ref (d.2.1 1)]) hC (kX11_childOf l d A _ _) (jgS ml_X11_136 st_X11_childOf in_X11 cd_X11_childOf) rfl rfl rfl hyS_X11_childOf ⟨Nat.le_of_ble_eq_true rfl, Nat.le_of_ble_eq_true rfl⟩ rfl rfl (Nat.le_of_ble_eq_true rfl) dX11_isTold_23 rfl (fun q3 => ?_)
      refine j_callV_zr (pc' := 29) (As := [.int q3]) (st := []) hC (X_at_1 d _) rfl (kX6_isChild l d A _ _) (jgV ml_X11_172 im_X6_isChild se_X6_isChild in_X6 cd_X6_isChild) rfl rfl rfl hyV_X6_isChild ⟨Nat.le_of_ble_eq_true rfl, Nat.le_of_ble_eq_true rfl⟩ rfl rfl (Nat.le_of_ble_eq_true rfl) dX11_isTold_26 rfl (fun q4 => ?_)
      refine j_if_eq (pc' := 32) (tgt := 61) hC dX11_isTold_29 (by decide) rfl ?_ ?_
      · refine j_iconst (pc' := 62) (v := (0 : Int32)) hC dX11_isTold_61 (by decide) rfl ?_
        exact j_ret_zr hC (by decide) dX11_isTold_62
      · refine j_aload_n (pc' := 33) hC 0 dX11_isTold_32 rfl rfl rfl ?_
        refine j_get (pc' := 36) hC ly_X11 (X_at_0 d _) rfl 0 (by decide) fl_X11_10 rfl dX11_isTold_33 rfl ?_
        refine j_iload_n (pc' := 37) hC 1 dX11_isTold_36 rfl rfl rfl ?_
        refine j_bipush (pc' := 39) (v := (10 : Int32)) hC dX11_isTold_37 (by decide) rfl ?_
        refine j_irem0 (pc' := 40) hC dX11_isTold_39 (by decide) rfl ?_
        refine j_iload_n (pc' := 41) hC 1 dX11_isTold_40 rfl rfl rfl ?_
        refine j_callS_ir (pc' := 44) (As := [.int p1]) (st := [.int (p1 - p1 / (10 : Int32) * (10 : Int32)), .ref (d.2.1 1)]) hC (kX11_childOf l d A _ _) (jgS ml_X11_136 st_X11_childOf in_X11 cd_X11_childOf) rfl rfl rfl hyS_X11_childOf ⟨Nat.le_of_ble_eq_true rfl, Nat.le_of_ble_eq_true rfl⟩ rfl rfl (Nat.le_of_ble_eq_true rfl) dX11_isTold_41 rfl (fun q5 => ?_)
        refine j_callV_zr (pc' := 47) (As := [.int (p1 - p1 / (10 : Int32) * (10 : Int32)), .int q5]) (st := []) hC (X_at_1 d _) rfl (kX6_mayCount l d A _ _ _) (jgV ml_X11_162 im_X6_mayCount se_X6_mayCount in_X6 cd_X6_mayCount) rfl rfl rfl hyV_X6_mayCount ⟨Nat.le_of_ble_eq_true rfl, Nat.le_of_ble_eq_true rfl⟩ rfl rfl (Nat.le_of_ble_eq_true rfl) dX11_isTold_44 rfl (fun q6 => ?_)
        refine j_if_eq (pc' := 50) (tgt := 61) hC dX11_isTold_47 (by decide) rfl ?_ ?_
        · refine j_iconst (pc' := 62) (v := (0 : Int32)) hC dX11_isTold_61 (by decide) rfl ?_
          exact j_ret_zr hC (by decide) dX11_isTold_62
        · refine j_iload_n (pc' := 51) hC 2 dX11_isTold_50 rfl rfl rfl ?_
          refine j_callS_zr (pc' := 54) (As := [.int p2]) (st := []) hC (kX11_isWaiting l d A _ _) (jgS ml_X11_251 st_X11_isWaiting in_X11 cd_X11_isWaiting) rfl rfl rfl hyS_X11_isWaiting ⟨Nat.le_of_ble_eq_true rfl, Nat.le_of_ble_eq_true rfl⟩ rfl rfl (Nat.le_of_ble_eq_true rfl) dX11_isTold_51 rfl (fun q7 => ?_)
          refine j_if_eq (pc' := 57) (tgt := 61) hC dX11_isTold_54 (by decide) rfl ?_ ?_
          · refine j_iconst (pc' := 62) (v := (0 : Int32)) hC dX11_isTold_61 (by decide) rfl ?_
            exact j_ret_zr hC (by decide) dX11_isTold_62
          · refine j_iconst (pc' := 58) (v := (1 : Int32)) hC dX11_isTold_57 (by decide) rfl ?_
            refine j_goto (tgt := 62) hC dX11_isTold_58 (by decide) ?_
            exact j_ret_zr hC (by decide) dX11_isTold_62
theorem hyV_X11_turn : yX11_turn.cls = RX11 ∧ yX11_turn.cls ≠ "java/lang/invoke/MethodHandle" ∧ yX11_turn.cls ≠ "java/lang/invoke/VarHandle" ∧ (parseMethodDescriptor yX11_turn.desc).map (fun d => d.parameters.length) = some 3 := ⟨rfl, by decide +kernel, by decide +kernel, by decide +kernel⟩
noncomputable def fX11_turn (σ : jS) (p1 : Int32) (p2 : Int32) (p3 : Int32) : Option (Int32 × jS) :=
  (Option.bind (fX11_isTold σ p1 p2) fun (q1 : Int32) => (if (jb q1) = 0 then (some ((-1 : Int32), σ)) else (if p3 < 0 then (some ((-1 : Int32), σ)) else (if p3 ≤ (3 : Int32) then (Option.bind (fX11_swingOf σ p1) fun (q2 : Int32) => (Option.bind (fX11_childOf σ p1) fun (q3 : Int32) => (Option.bind (fX8_think σ q2 q3 (p1 - p1 / (10 : Int32) * (10 : Int32)) p2) fun (q4 : jS) => (if p3 = (0 : Int32) then (some ((q4.1 14 3), q4)) else (if p3 = (1 : Int32) then (some ((q4.1 14 4), q4)) else (if p3 = (2 : Int32) then (some ((q4.1 14 6), q4)) else (Option.bind (fX8_countedOf 14 q4) fun (q5 : Int32) => (some (q5, q4))))))))) else (some ((-1 : Int32), σ))))))
set_option maxRecDepth 100000 in
set_option maxHeartbeats 4000000 in
theorem kX11_turn (l : Launch) (d : jD) (A : Nat → Prop) (σ : jS) (p1 : Int32) (p2 : Int32) (p3 : Int32) : jMi l yX11_turn (jws yX11_turn cX11_turn 5 (some (.int))) { frames := 7, cells := 0, slots := 0, locals := 254 } d wX A [.ref (d.2.1 0), .int p1, .int p2, .int p3] σ (fX11_turn σ p1 p2 p3) := by
  refine jStart_i (lv0 := [(0, .ref (d.2.1 0)), (1, .int p1), (2, .int p2), (3, .int p3)]) (by decide) rfl (Nat.le_of_ble_eq_true rfl) rfl (fun z hC res => ?_)
  unfold fX11_turn
  refine j_aload_n (pc' := 1) hC 0 dX11_turn_0 rfl rfl rfl ?_
  refine j_iload_n (pc' := 2) hC 1 dX11_turn_1 rfl rfl rfl ?_
  refine j_iload_n (pc' := 3) hC 2 dX11_turn_2 rfl rfl rfl ?_
  refine j_callV_zr (pc' := 6) (As := [.int p1, .int p2]) (st := []) hC (X_at_0 d _) rfl (kX11_isTold l d A _ _ _) (jgV ml_X11_129 im_X11_isTold se_X11_isTold in_X11 cd_X11_isTold) rfl rfl rfl hyV_X11_isTold ⟨Nat.le_of_ble_eq_true rfl, Nat.le_of_ble_eq_true rfl⟩ rfl rfl (Nat.le_of_ble_eq_true rfl) dX11_turn_3 rfl (fun q1 => ?_)
  refine j_if_eq (pc' := 9) (tgt := 18) hC dX11_turn_6 (by decide) rfl ?_ ?_
  · refine j_iconst (pc' := 19) (v := (-1 : Int32)) hC dX11_turn_18 (by decide) rfl ?_
    exact j_ret_i hC dX11_turn_19
  · refine j_iload_n (pc' := 10) hC 3 dX11_turn_9 rfl rfl rfl ?_
    refine j_if_lt (pc' := 13) (tgt := 18) hC dX11_turn_10 (by decide) rfl ?_ ?_
    · refine j_iconst (pc' := 19) (v := (-1 : Int32)) hC dX11_turn_18 (by decide) rfl ?_
      exact j_ret_i hC dX11_turn_19
    · refine j_iload_n (pc' := 14) hC 3 dX11_turn_13 rfl rfl rfl ?_
      refine j_iconst (pc' := 15) (v := (3 : Int32)) hC dX11_turn_14 (by decide) rfl ?_
      refine j_icmp_le (pc' := 18) (tgt := 20) hC dX11_turn_15 (by decide) rfl ?_ ?_
      · refine j_aload_n (pc' := 21) hC 0 dX11_turn_20 rfl rfl rfl ?_
        refine j_get (pc' := 24) hC ly_X11 (X_at_0 d _) rfl 3 (by decide) fl_X11_37 rfl dX11_turn_21 rfl ?_
        refine j_iload_n (pc' := 25) hC 1 dX11_turn_24 rfl rfl rfl ?_
        refine j_callS_ir (pc' := 28) (As := [.int p1]) (st := [.ref (d.2.1 13)]) hC (kX11_swingOf l d A _ _) (jgS ml_X11_133 st_X11_swingOf in_X11 cd_X11_swingOf) rfl rfl rfl hyS_X11_swingOf ⟨Nat.le_of_ble_eq_true rfl, Nat.le_of_ble_eq_true rfl⟩ rfl rfl (Nat.le_of_ble_eq_true rfl) dX11_turn_25 rfl (fun q2 => ?_)
        refine j_iload_n (pc' := 29) hC 1 dX11_turn_28 rfl rfl rfl ?_
        refine j_callS_ir (pc' := 32) (As := [.int p1]) (st := [.int q2, .ref (d.2.1 13)]) hC (kX11_childOf l d A _ _) (jgS ml_X11_136 st_X11_childOf in_X11 cd_X11_childOf) rfl rfl rfl hyS_X11_childOf ⟨Nat.le_of_ble_eq_true rfl, Nat.le_of_ble_eq_true rfl⟩ rfl rfl (Nat.le_of_ble_eq_true rfl) dX11_turn_29 rfl (fun q3 => ?_)
        refine j_iload_n (pc' := 33) hC 1 dX11_turn_32 rfl rfl rfl ?_
        refine j_bipush (pc' := 35) (v := (10 : Int32)) hC dX11_turn_33 (by decide) rfl ?_
        refine j_irem0 (pc' := 36) hC dX11_turn_35 (by decide) rfl ?_
        refine j_iload_n (pc' := 37) hC 2 dX11_turn_36 rfl rfl rfl ?_
        refine j_callV_r (pc' := 40) (As := [.int q2, .int q3, .int (p1 - p1 / (10 : Int32) * (10 : Int32)), .int p2]) (st := []) hC (X_at_13 d _) rfl (kX8_think l d A _ _ _ _ _) (jgV ml_X11_139 im_X8_think se_X8_think in_X8 cd_X8_think) rfl rfl rfl hyV_X8_think ⟨Nat.le_of_ble_eq_true rfl, Nat.le_of_ble_eq_true rfl⟩ rfl rfl (Nat.le_of_ble_eq_true rfl) dX11_turn_37 rfl (fun q4 => ?_)
        refine j_astore (pc' := 42) (lv' := [(4, .ref (d.2.1 14)), (0, .ref (d.2.1 0)), (1, .int p1), (2, .int p2), (3, .int p3)]) hC dX11_turn_40 (by decide) rfl rfl ?_
        refine j_iload_n (pc' := 43) hC 4 dX11_turn_42 rfl rfl rfl ?_
        refine j_if (fun c0 => ?_) (fun c0 => ?_)
        · refine j_tableIn (tgt := 68) (off := 25) hC dX11_turn_43 (by rw [c0]; decide) (by rw [c0]; decide) (by rw [c0]; rfl) (by decide) ?_
          refine j_aload (pc' := 70) hC 0 dX11_turn_68 rfl rfl ?_
          refine j_get (pc' := 73) hC ly_X10 (X_at_14 d _) rfl 3 (by decide) fl_X11_143 rfl dX11_turn_70 rfl ?_
          exact j_ret_i hC dX11_turn_73
        refine j_if (fun c1 => ?_) (fun c1 => ?_)
        · refine j_tableIn (tgt := 74) (off := 31) hC dX11_turn_43 (by rw [c1]; decide) (by rw [c1]; decide) (by rw [c1]; rfl) (by decide) ?_
          refine j_aload (pc' := 76) hC 0 dX11_turn_74 rfl rfl ?_
          refine j_get (pc' := 79) hC ly_X10 (X_at_14 d _) rfl 4 (by decide) fl_X11_149 rfl dX11_turn_76 rfl ?_
          exact j_ret_i hC dX11_turn_79
        refine j_if (fun c2 => ?_) (fun c2 => ?_)
        · refine j_tableIn (tgt := 80) (off := 37) hC dX11_turn_43 (by rw [c2]; decide) (by rw [c2]; decide) (by rw [c2]; rfl) (by decide) ?_
          refine j_aload (pc' := 82) hC 0 dX11_turn_80 rfl rfl ?_
          refine j_get (pc' := 85) hC ly_X10 (X_at_14 d _) rfl 6 (by decide) fl_X11_152 rfl dX11_turn_82 rfl ?_
          exact j_ret_i hC dX11_turn_85
        refine j_tableOut (tgt := 86) hC dX11_turn_43 (by have e0 := lv_neT c0 (a := 0) rfl; have e1 := lv_neT c1 (a := 1) rfl; have e2 := lv_neT c2 (a := 2) rfl; omega) (by decide) ?_
        refine j_aload_n (pc' := 87) hC 1 dX11_turn_86 rfl rfl rfl ?_
        refine j_get (pc' := 90) hC ly_X11 (X_at_0 d _) rfl 3 (by decide) fl_X11_37 rfl dX11_turn_87 rfl ?_
        refine j_aload (pc' := 92) hC 0 dX11_turn_90 rfl rfl ?_
        refine j_callV_ir (pc' := 95) (As := [.ref (d.2.1 14)]) (st := []) hC (X_at_13 d _) rfl (kX8_countedOf l d A (Or.inl rfl) _) (jgV ml_X11_155 im_X8_countedOf se_X8_countedOf in_X8 cd_X8_countedOf) rfl rfl rfl hyV_X8_countedOf ⟨Nat.le_of_ble_eq_true rfl, Nat.le_of_ble_eq_true rfl⟩ rfl rfl (Nat.le_of_ble_eq_true rfl) dX11_turn_92 rfl (fun q5 => ?_)
        exact j_ret_i hC dX11_turn_95
      · refine j_iconst (pc' := 19) (v := (-1 : Int32)) hC dX11_turn_18 (by decide) rfl ?_
        exact j_ret_i hC dX11_turn_19
theorem hyV_X11_longest : yX11_longest.cls = RX11 ∧ yX11_longest.cls ≠ "java/lang/invoke/MethodHandle" ∧ yX11_longest.cls ≠ "java/lang/invoke/VarHandle" ∧ (parseMethodDescriptor yX11_longest.desc).map (fun d => d.parameters.length) = some 2 := ⟨rfl, by decide +kernel, by decide +kernel, by decide +kernel⟩
noncomputable def fX11_longest_B43 (p1 : Int32) (p2 : Int32) (q3 : Int32) (j106 : (jS × Int32 → Option (Int32 × jS))) (s43 : jS × Int32 × Int32 × Int32 → Option (Int32 × jS)) (a : jS × Int32 × Int32 × Int32) : Option (Int32 × jS) :=
  (if (9 : Int32) < a.2.2.2 then (j106 (a.1, a.2.1)) else (Option.bind (fX6_setAt a.1 q3 a.2.2.2) fun (q6 : jS) => (Option.bind (fX11_swingOf q6 p1) fun (q7 : Int32) => (Option.bind (fX11_childOf q6 p1) fun (q8 : Int32) => (Option.bind (fX8_think q6 q7 q8 (p1 - p1 / (10 : Int32) * (10 : Int32)) p2) fun (q9 : jS) => (jlet (fun (a100 : Int32 × Int32) => (s43 (q9, a100.1, a100.2, (a.2.2.2 + (1 : Int32))))) fun (j100 : (Int32 × Int32 → Option (Int32 × jS))) => (if (q9.1 14 4) ≤ a.2.2.1 then (j100 (a.2.1, a.2.2.1)) else (j100 (a.2.2.2, (q9.1 14 4))))))))))
noncomputable def fX11_longest (σ : jS) (p1 : Int32) (p2 : Int32) : Option (Int32 × jS) :=
  (Option.bind (fX11_isTold σ p1 p2) fun (q1 : Int32) => (if (jb q1) = 0 then (some ((-1 : Int32), σ)) else (Option.bind (fX11_childOf σ p1) fun (q2 : Int32) => (Option.bind (fX6_placeOf σ q2 (2 : Int32)) fun (q3 : Int32) => (Option.bind (fX6_valueAt σ q3) fun (q4 : Int32) => (jlet (fun (a106 : jS × Int32) => (Option.bind (fX6_setAt a106.1 q3 q4) fun (q5 : jS) => (some (a106.2, q5)))) fun (j106 : (jS × Int32 → Option (Int32 × jS))) => (jloop (fX11_longest_B43 p1 p2 q3 j106) jN (σ, (0 : Int32), (-1 : Int32), (0 : Int32)))))))))
set_option maxRecDepth 100000 in
set_option maxHeartbeats 4000000 in
theorem kX11_longest (l : Launch) (d : jD) (A : Nat → Prop) (σ : jS) (p1 : Int32) (p2 : Int32) : jMi l yX11_longest (jws yX11_longest cX11_longest 9 (some (.int))) { frames := 7, cells := 0, slots := 0, locals := 254 } d wX A [.ref (d.2.1 0), .int p1, .int p2] σ (fX11_longest σ p1 p2) := by
  refine jStart_i (lv0 := [(0, .ref (d.2.1 0)), (1, .int p1), (2, .int p2)]) (by decide) rfl (Nat.le_of_ble_eq_true rfl) rfl (fun z hC res => ?_)
  unfold fX11_longest
  refine j_aload_n (pc' := 1) hC 0 dX11_longest_0 rfl rfl rfl ?_
  refine j_iload_n (pc' := 2) hC 1 dX11_longest_1 rfl rfl rfl ?_
  refine j_iload_n (pc' := 3) hC 2 dX11_longest_2 rfl rfl rfl ?_
  refine j_callV_zr (pc' := 6) (As := [.int p1, .int p2]) (st := []) hC (X_at_0 d _) rfl (kX11_isTold l d A _ _ _) (jgV ml_X11_129 im_X11_isTold se_X11_isTold in_X11 cd_X11_isTold) rfl rfl rfl hyV_X11_isTold ⟨Nat.le_of_ble_eq_true rfl, Nat.le_of_ble_eq_true rfl⟩ rfl rfl (Nat.le_of_ble_eq_true rfl) dX11_longest_3 rfl (fun q1 => ?_)
  refine j_if_ne (pc' := 9) (tgt := 11) hC dX11_longest_6 (by decide) rfl ?_ ?_
  · refine j_aload_n (pc' := 12) hC 0 dX11_longest_11 rfl rfl rfl ?_
    refine j_get (pc' := 15) hC ly_X11 (X_at_0 d _) rfl 0 (by decide) fl_X11_10 rfl dX11_longest_12 rfl ?_
    refine j_iload_n (pc' := 16) hC 1 dX11_longest_15 rfl rfl rfl ?_
    refine j_callS_ir (pc' := 19) (As := [.int p1]) (st := [.ref (d.2.1 1)]) hC (kX11_childOf l d A _ _) (jgS ml_X11_136 st_X11_childOf in_X11 cd_X11_childOf) rfl rfl rfl hyS_X11_childOf ⟨Nat.le_of_ble_eq_true rfl, Nat.le_of_ble_eq_true rfl⟩ rfl rfl (Nat.le_of_ble_eq_true rfl) dX11_longest_16 rfl (fun q2 => ?_)
    refine j_iconst (pc' := 20) (v := (2 : Int32)) hC dX11_longest_19 (by decide) rfl ?_
    refine j_callV_ir (pc' := 23) (As := [.int q2, .int (2 : Int32)]) (st := []) hC (X_at_1 d _) rfl (kX6_placeOf l d A _ _ _) (jgV ml_X11_108 im_X6_placeOf se_X6_placeOf in_X6 cd_X6_placeOf) rfl rfl rfl hyV_X6_placeOf ⟨Nat.le_of_ble_eq_true rfl, Nat.le_of_ble_eq_true rfl⟩ rfl rfl (Nat.le_of_ble_eq_true rfl) dX11_longest_20 rfl (fun q3 => ?_)
    refine j_istore_n (pc' := 24) (lv' := [(3, .int q3), (0, .ref (d.2.1 0)), (1, .int p1), (2, .int p2)]) hC dX11_longest_23 rfl (by decide) rfl rfl ?_
    refine j_aload_n (pc' := 25) hC 1 dX11_longest_24 rfl rfl rfl ?_
    refine j_get (pc' := 28) hC ly_X11 (X_at_0 d _) rfl 0 (by decide) fl_X11_10 rfl dX11_longest_25 rfl ?_
    refine j_iload_n (pc' := 29) hC 0 dX11_longest_28 rfl rfl rfl ?_
    refine j_callV_ir (pc' := 32) (As := [.int q3]) (st := []) hC (X_at_1 d _) rfl (kX6_valueAt l d A _ _) (jgV ml_X11_115 im_X6_valueAt se_X6_valueAt in_X6 cd_X6_valueAt) rfl rfl rfl hyV_X6_valueAt ⟨Nat.le_of_ble_eq_true rfl, Nat.le_of_ble_eq_true rfl⟩ rfl rfl (Nat.le_of_ble_eq_true rfl) dX11_longest_29 rfl (fun q4 => ?_)
    refine j_istore (pc' := 34) (lv' := [(4, .int q4), (3, .int q3), (0, .ref (d.2.1 0)), (1, .int p1), (2, .int p2)]) hC dX11_longest_32 (by decide) rfl rfl ?_
    refine j_iconst (pc' := 35) (v := (0 : Int32)) hC dX11_longest_34 (by decide) rfl ?_
    refine j_istore (pc' := 37) (lv' := [(5, .int (0 : Int32)), (4, .int q4), (3, .int q3), (0, .ref (d.2.1 0)), (1, .int p1), (2, .int p2)]) hC dX11_longest_35 (by decide) rfl rfl ?_
    refine j_iconst (pc' := 38) (v := (-1 : Int32)) hC dX11_longest_37 (by decide) rfl ?_
    refine j_istore (pc' := 40) (lv' := [(6, .int (-1 : Int32)), (5, .int (0 : Int32)), (4, .int q4), (3, .int q3), (0, .ref (d.2.1 0)), (1, .int p1), (2, .int p2)]) hC dX11_longest_38 (by decide) rfl rfl ?_
    refine j_iconst (pc' := 41) (v := (0 : Int32)) hC dX11_longest_40 (by decide) rfl ?_
    refine j_istore (pc' := 43) (lv' := [(7, .int (0 : Int32)), (6, .int (-1 : Int32)), (5, .int (0 : Int32)), (4, .int q4), (3, .int q3), (0, .ref (d.2.1 0)), (1, .int p1), (2, .int p2)]) hC dX11_longest_41 (by decide) rfl rfl ?_
    refine j_let 106 (fun a106 => a106.1) (fun a106 => [(0, .ref (d.2.1 0)), (3, .int q3), (4, .int q4), (5, .int a106.2)]) (fun a106 => []) (fun a106 => ?_) (fun j106 hj106 => ?_)
    · refine j_aload_n (pc' := 107) hC 0 dX11_longest_106 rfl rfl rfl ?_
      refine j_get (pc' := 110) hC ly_X11 (X_at_0 d _) rfl 0 (by decide) fl_X11_10 rfl dX11_longest_107 rfl ?_
      refine j_iload_n (pc' := 111) hC 1 dX11_longest_110 rfl rfl rfl ?_
      refine j_iload (pc' := 113) hC 2 dX11_longest_111 rfl rfl ?_
      refine j_callV_v (pc' := 116) (As := [.int q3, .int q4]) (st := []) hC (X_at_1 d _) rfl (kX6_setAt l d A _ _ _) (jgV ml_X11_159 im_X6_setAt se_X6_setAt in_X6 cd_X6_setAt) rfl rfl rfl hyV_X6_setAt ⟨Nat.le_of_ble_eq_true rfl, Nat.le_of_ble_eq_true rfl⟩ rfl rfl (Nat.le_of_ble_eq_true rfl) dX11_longest_113 rfl (fun q5 => ?_)
      refine j_iload (pc' := 118) hC 3 dX11_longest_116 rfl rfl ?_
      exact j_ret_i hC dX11_longest_118
    · refine j_lv (lv' := [(0, .ref (d.2.1 0)), (1, .int p1), (2, .int p2), (3, .int q3), (4, .int q4), (5, .int (0 : Int32)), (6, .int (-1 : Int32)), (7, .int (0 : Int32))]) [5, 6, 7, 4, 3, 2, 1, 0] rfl ?_
      refine j_loop 43 (fun a => a.1) (fun a => [(0, .ref (d.2.1 0)), (1, .int p1), (2, .int p2), (3, .int q3), (4, .int q4), (5, .int a.2.1), (6, .int a.2.2.1), (7, .int a.2.2.2)]) (fun s43 hs43 a => ?_) jN (σ, (0 : Int32), (-1 : Int32), (0 : Int32))
      unfold fX11_longest_B43
      refine j_iload (pc' := 45) hC 7 dX11_longest_43 rfl rfl ?_
      refine j_bipush (pc' := 47) (v := (9 : Int32)) hC dX11_longest_45 (by decide) rfl ?_
      refine j_icmp_gt (pc' := 50) (tgt := 106) hC dX11_longest_47 (by decide) rfl ?_ ?_
      · exact j_lv (lv' := [(0, .ref (d.2.1 0)), (3, .int q3), (4, .int q4), (5, .int a.2.1)]) [0, 3, 4, 5] rfl (hj106 (a.1, a.2.1))
      · refine j_aload_n (pc' := 51) hC 0 dX11_longest_50 rfl rfl rfl ?_
        refine j_get (pc' := 54) hC ly_X11 (X_at_0 d _) rfl 0 (by decide) fl_X11_10 rfl dX11_longest_51 rfl ?_
        refine j_iload_n (pc' := 55) hC 3 dX11_longest_54 rfl rfl rfl ?_
        refine j_iload (pc' := 57) hC 7 dX11_longest_55 rfl rfl ?_
        refine j_callV_v (pc' := 60) (As := [.int q3, .int a.2.2.2]) (st := []) hC (X_at_1 d _) rfl (kX6_setAt l d A _ _ _) (jgV ml_X11_159 im_X6_setAt se_X6_setAt in_X6 cd_X6_setAt) rfl rfl rfl hyV_X6_setAt ⟨Nat.le_of_ble_eq_true rfl, Nat.le_of_ble_eq_true rfl⟩ rfl rfl (Nat.le_of_ble_eq_true rfl) dX11_longest_57 rfl (fun q6 => ?_)
        refine j_aload_n (pc' := 61) hC 0 dX11_longest_60 rfl rfl rfl ?_
        refine j_get (pc' := 64) hC ly_X11 (X_at_0 d _) rfl 3 (by decide) fl_X11_37 rfl dX11_longest_61 rfl ?_
        refine j_iload_n (pc' := 65) hC 1 dX11_longest_64 rfl rfl rfl ?_
        refine j_callS_ir (pc' := 68) (As := [.int p1]) (st := [.ref (d.2.1 13)]) hC (kX11_swingOf l d A _ _) (jgS ml_X11_133 st_X11_swingOf in_X11 cd_X11_swingOf) rfl rfl rfl hyS_X11_swingOf ⟨Nat.le_of_ble_eq_true rfl, Nat.le_of_ble_eq_true rfl⟩ rfl rfl (Nat.le_of_ble_eq_true rfl) dX11_longest_65 rfl (fun q7 => ?_)
        refine j_iload_n (pc' := 69) hC 1 dX11_longest_68 rfl rfl rfl ?_
        refine j_callS_ir (pc' := 72) (As := [.int p1]) (st := [.int q7, .ref (d.2.1 13)]) hC (kX11_childOf l d A _ _) (jgS ml_X11_136 st_X11_childOf in_X11 cd_X11_childOf) rfl rfl rfl hyS_X11_childOf ⟨Nat.le_of_ble_eq_true rfl, Nat.le_of_ble_eq_true rfl⟩ rfl rfl (Nat.le_of_ble_eq_true rfl) dX11_longest_69 rfl (fun q8 => ?_)
        refine j_iload_n (pc' := 73) hC 1 dX11_longest_72 rfl rfl rfl ?_
        refine j_bipush (pc' := 75) (v := (10 : Int32)) hC dX11_longest_73 (by decide) rfl ?_
        refine j_irem0 (pc' := 76) hC dX11_longest_75 (by decide) rfl ?_
        refine j_iload_n (pc' := 77) hC 2 dX11_longest_76 rfl rfl rfl ?_
        refine j_callV_r (pc' := 80) (As := [.int q7, .int q8, .int (p1 - p1 / (10 : Int32) * (10 : Int32)), .int p2]) (st := []) hC (X_at_13 d _) rfl (kX8_think l d A _ _ _ _ _) (jgV ml_X11_139 im_X8_think se_X8_think in_X8 cd_X8_think) rfl rfl rfl hyV_X8_think ⟨Nat.le_of_ble_eq_true rfl, Nat.le_of_ble_eq_true rfl⟩ rfl rfl (Nat.le_of_ble_eq_true rfl) dX11_longest_77 rfl (fun q9 => ?_)
        refine j_get (pc' := 83) hC ly_X10 (X_at_14 d _) rfl 4 (by decide) fl_X11_149 rfl dX11_longest_80 rfl ?_
        refine j_istore (pc' := 85) (lv' := [(8, .int (q9.1 14 4)), (0, .ref (d.2.1 0)), (1, .int p1), (2, .int p2), (3, .int q3), (4, .int q4), (5, .int a.2.1), (6, .int a.2.2.1), (7, .int a.2.2.2)]) hC dX11_longest_83 (by decide) rfl rfl ?_
        refine j_iload (pc' := 87) hC 0 dX11_longest_85 rfl rfl ?_
        refine j_iload (pc' := 89) hC 7 dX11_longest_87 rfl rfl ?_
        refine j_let 100 (fun a100 => q9) (fun a100 => [(0, .ref (d.2.1 0)), (1, .int p1), (2, .int p2), (3, .int q3), (4, .int q4), (5, .int a100.1), (6, .int a100.2), (7, .int a.2.2.2)]) (fun a100 => []) (fun a100 => ?_) (fun j100 hj100 => ?_)
        · refine j_iinc (pc' := 103) (v := (a.2.2.2 + (1 : Int32))) (lv' := [(7, .int (a.2.2.2 + (1 : Int32))), (0, .ref (d.2.1 0)), (1, .int p1), (2, .int p2), (3, .int q3), (4, .int q4), (5, .int a100.1), (6, .int a100.2)]) hC 7 dX11_longest_100 rfl (by decide) rfl rfl rfl ?_
          refine j_goto (tgt := 43) hC dX11_longest_103 (by decide) ?_
          exact j_lv (lv' := [(0, .ref (d.2.1 0)), (1, .int p1), (2, .int p2), (3, .int q3), (4, .int q4), (5, .int a100.1), (6, .int a100.2), (7, .int (a.2.2.2 + (1 : Int32)))]) [1, 2, 3, 4, 5, 6, 7, 0] rfl (hs43 (q9, a100.1, a100.2, (a.2.2.2 + (1 : Int32))))
        · refine j_icmp_le (pc' := 92) (tgt := 100) hC dX11_longest_89 (by decide) rfl ?_ ?_
          · exact j_lv (lv' := [(0, .ref (d.2.1 0)), (1, .int p1), (2, .int p2), (3, .int q3), (4, .int q4), (5, .int a.2.1), (6, .int a.2.2.1), (7, .int a.2.2.2)]) [1, 2, 3, 4, 5, 6, 7, 8] rfl (hj100 (a.2.1, a.2.2.1))
          · refine j_iload (pc' := 94) hC 0 dX11_longest_92 rfl rfl ?_
            refine j_istore (pc' := 96) (lv' := [(6, .int (q9.1 14 4)), (8, .int (q9.1 14 4)), (0, .ref (d.2.1 0)), (1, .int p1), (2, .int p2), (3, .int q3), (4, .int q4), (5, .int a.2.1), (7, .int a.2.2.2)]) hC dX11_longest_94 (by decide) rfl rfl ?_
            refine j_iload (pc' := 98) hC 8 dX11_longest_96 rfl rfl ?_
            refine j_istore (pc' := 100) (lv' := [(5, .int a.2.2.2), (6, .int (q9.1 14 4)), (8, .int (q9.1 14 4)), (0, .ref (d.2.1 0)), (1, .int p1), (2, .int p2), (3, .int q3), (4, .int q4), (7, .int a.2.2.2)]) hC dX11_longest_98 (by decide) rfl rfl ?_
            exact j_lv (lv' := [(0, .ref (d.2.1 0)), (1, .int p1), (2, .int p2), (3, .int q3), (4, .int q4), (5, .int a.2.2.2), (6, .int (q9.1 14 4)), (7, .int a.2.2.2)]) [3, 4, 5, 6, 7, 0, 1, 8] rfl (hj100 (a.2.2.2, (q9.1 14 4)))
  · refine j_iconst (pc' := 10) (v := (-1 : Int32)) hC dX11_longest_9 (by decide) rfl ?_
    exact j_ret_i hC dX11_longest_10
theorem hyV_X11_counter : yX11_counter.cls = RX11 ∧ yX11_counter.cls ≠ "java/lang/invoke/MethodHandle" ∧ yX11_counter.cls ≠ "java/lang/invoke/VarHandle" ∧ (parseMethodDescriptor yX11_counter.desc).map (fun d => d.parameters.length) = some 2 := ⟨rfl, by decide +kernel, by decide +kernel, by decide +kernel⟩
noncomputable def fX11_counter_B20 (p1 : Int32) (p2 : Int32) (s20 : jS × Int32 × Int32 × Int32 → Option (Int32 × jS)) (a : jS × Int32 × Int32 × Int32) : Option (Int32 × jS) :=
  (if (9 : Int32) < a.2.2.2 then (some (a.2.1, a.1)) else (Option.bind (fX11_childOf a.1 p1) fun (q2 : Int32) => (Option.bind (fX6_mayCount a.1 a.2.2.2 q2) fun (q3 : Int32) => (jlet (fun (a83 : jS × Int32 × Int32) => (s20 (a83.1, a83.2.1, a83.2.2, (a.2.2.2 + (1 : Int32))))) fun (j83 : (jS × Int32 × Int32 → Option (Int32 × jS))) => (if (jb q3) = 0 then (j83 (a.1, a.2.1, a.2.2.1)) else (Option.bind (fX11_swingOf a.1 p1) fun (q4 : Int32) => (Option.bind (fX11_childOf a.1 p1) fun (q5 : Int32) => (Option.bind (fX8_think a.1 q4 q5 a.2.2.2 p2) fun (q6 : jS) => (if (q6.1 14 4) ≤ a.2.2.1 then (j83 (q6, a.2.1, a.2.2.1)) else (j83 (q6, a.2.2.2, (q6.1 14 4))))))))))))
noncomputable def fX11_counter (σ : jS) (p1 : Int32) (p2 : Int32) : Option (Int32 × jS) :=
  (Option.bind (fX11_isTold σ p1 p2) fun (q1 : Int32) => (if (jb q1) = 0 then (some ((-1 : Int32), σ)) else (jloop (fX11_counter_B20 p1 p2) jN (σ, (9 : Int32), (-1 : Int32), (0 : Int32)))))
set_option maxRecDepth 100000 in
set_option maxHeartbeats 4000000 in
theorem kX11_counter (l : Launch) (d : jD) (A : Nat → Prop) (σ : jS) (p1 : Int32) (p2 : Int32) : jMi l yX11_counter (jws yX11_counter cX11_counter 7 (some (.int))) { frames := 7, cells := 0, slots := 0, locals := 254 } d wX A [.ref (d.2.1 0), .int p1, .int p2] σ (fX11_counter σ p1 p2) := by
  refine jStart_i (lv0 := [(0, .ref (d.2.1 0)), (1, .int p1), (2, .int p2)]) (by decide) rfl (Nat.le_of_ble_eq_true rfl) rfl (fun z hC res => ?_)
  unfold fX11_counter
  refine j_aload_n (pc' := 1) hC 0 dX11_counter_0 rfl rfl rfl ?_
  refine j_iload_n (pc' := 2) hC 1 dX11_counter_1 rfl rfl rfl ?_
  refine j_iload_n (pc' := 3) hC 2 dX11_counter_2 rfl rfl rfl ?_
  refine j_callV_zr (pc' := 6) (As := [.int p1, .int p2]) (st := []) hC (X_at_0 d _) rfl (kX11_isTold l d A _ _ _) (jgV ml_X11_129 im_X11_isTold se_X11_isTold in_X11 cd_X11_isTold) rfl rfl rfl hyV_X11_isTold ⟨Nat.le_of_ble_eq_true rfl, Nat.le_of_ble_eq_true rfl⟩ rfl rfl (Nat.le_of_ble_eq_true rfl) dX11_counter_3 rfl (fun q1 => ?_)
  refine j_if_ne (pc' := 9) (tgt := 11) hC dX11_counter_6 (by decide) rfl ?_ ?_
  · refine j_bipush (pc' := 13) (v := (9 : Int32)) hC dX11_counter_11 (by decide) rfl ?_
    refine j_istore_n (pc' := 14) (lv' := [(3, .int (9 : Int32)), (0, .ref (d.2.1 0)), (1, .int p1), (2, .int p2)]) hC dX11_counter_13 rfl (by decide) rfl rfl ?_
    refine j_iconst (pc' := 15) (v := (-1 : Int32)) hC dX11_counter_14 (by decide) rfl ?_
    refine j_istore (pc' := 17) (lv' := [(4, .int (-1 : Int32)), (3, .int (9 : Int32)), (0, .ref (d.2.1 0)), (1, .int p1), (2, .int p2)]) hC dX11_counter_15 (by decide) rfl rfl ?_
    refine j_iconst (pc' := 18) (v := (0 : Int32)) hC dX11_counter_17 (by decide) rfl ?_
    refine j_istore (pc' := 20) (lv' := [(5, .int (0 : Int32)), (4, .int (-1 : Int32)), (3, .int (9 : Int32)), (0, .ref (d.2.1 0)), (1, .int p1), (2, .int p2)]) hC dX11_counter_18 (by decide) rfl rfl ?_
    refine j_lv (lv' := [(0, .ref (d.2.1 0)), (1, .int p1), (2, .int p2), (3, .int (9 : Int32)), (4, .int (-1 : Int32)), (5, .int (0 : Int32))]) [3, 4, 5, 2, 1, 0] rfl ?_
    refine j_loop 20 (fun a => a.1) (fun a => [(0, .ref (d.2.1 0)), (1, .int p1), (2, .int p2), (3, .int a.2.1), (4, .int a.2.2.1), (5, .int a.2.2.2)]) (fun s20 hs20 a => ?_) jN (σ, (9 : Int32), (-1 : Int32), (0 : Int32))
    unfold fX11_counter_B20
    refine j_iload (pc' := 22) hC 5 dX11_counter_20 rfl rfl ?_
    refine j_bipush (pc' := 24) (v := (9 : Int32)) hC dX11_counter_22 (by decide) rfl ?_
    refine j_icmp_gt (pc' := 27) (tgt := 89) hC dX11_counter_24 (by decide) rfl ?_ ?_
    · refine j_iload_n (pc' := 90) hC 3 dX11_counter_89 rfl rfl rfl ?_
      exact j_ret_i hC dX11_counter_90
    · refine j_aload_n (pc' := 28) hC 0 dX11_counter_27 rfl rfl rfl ?_
      refine j_get (pc' := 31) hC ly_X11 (X_at_0 d _) rfl 0 (by decide) fl_X11_10 rfl dX11_counter_28 rfl ?_
      refine j_iload (pc' := 33) hC 5 dX11_counter_31 rfl rfl ?_
      refine j_iload_n (pc' := 34) hC 1 dX11_counter_33 rfl rfl rfl ?_
      refine j_callS_ir (pc' := 37) (As := [.int p1]) (st := [.int a.2.2.2, .ref (d.2.1 1)]) hC (kX11_childOf l d A _ _) (jgS ml_X11_136 st_X11_childOf in_X11 cd_X11_childOf) rfl rfl rfl hyS_X11_childOf ⟨Nat.le_of_ble_eq_true rfl, Nat.le_of_ble_eq_true rfl⟩ rfl rfl (Nat.le_of_ble_eq_true rfl) dX11_counter_34 rfl (fun q2 => ?_)
      refine j_callV_zr (pc' := 40) (As := [.int a.2.2.2, .int q2]) (st := []) hC (X_at_1 d _) rfl (kX6_mayCount l d A _ _ _) (jgV ml_X11_162 im_X6_mayCount se_X6_mayCount in_X6 cd_X6_mayCount) rfl rfl rfl hyV_X6_mayCount ⟨Nat.le_of_ble_eq_true rfl, Nat.le_of_ble_eq_true rfl⟩ rfl rfl (Nat.le_of_ble_eq_true rfl) dX11_counter_37 rfl (fun q3 => ?_)
      refine j_let 83 (fun a83 => a83.1) (fun a83 => [(0, .ref (d.2.1 0)), (1, .int p1), (2, .int p2), (3, .int a83.2.1), (4, .int a83.2.2), (5, .int a.2.2.2)]) (fun a83 => []) (fun a83 => ?_) (fun j83 hj83 => ?_)
      · refine j_iinc (pc' := 86) (v := (a.2.2.2 + (1 : Int32))) (lv' := [(5, .int (a.2.2.2 + (1 : Int32))), (0, .ref (d.2.1 0)), (1, .int p1), (2, .int p2), (3, .int a83.2.1), (4, .int a83.2.2)]) hC 5 dX11_counter_83 rfl (by decide) rfl rfl rfl ?_
        refine j_goto (tgt := 20) hC dX11_counter_86 (by decide) ?_
        exact j_lv (lv' := [(0, .ref (d.2.1 0)), (1, .int p1), (2, .int p2), (3, .int a83.2.1), (4, .int a83.2.2), (5, .int (a.2.2.2 + (1 : Int32)))]) [1, 2, 3, 4, 5, 0] rfl (hs20 (a83.1, a83.2.1, a83.2.2, (a.2.2.2 + (1 : Int32))))
      · refine j_if_ne (pc' := 43) (tgt := 46) hC dX11_counter_40 (by decide) rfl ?_ ?_
        · refine j_aload_n (pc' := 47) hC 0 dX11_counter_46 rfl rfl rfl ?_
          refine j_get (pc' := 50) hC ly_X11 (X_at_0 d _) rfl 3 (by decide) fl_X11_37 rfl dX11_counter_47 rfl ?_
          refine j_iload_n (pc' := 51) hC 1 dX11_counter_50 rfl rfl rfl ?_
          refine j_callS_ir (pc' := 54) (As := [.int p1]) (st := [.ref (d.2.1 13)]) hC (kX11_swingOf l d A _ _) (jgS ml_X11_133 st_X11_swingOf in_X11 cd_X11_swingOf) rfl rfl rfl hyS_X11_swingOf ⟨Nat.le_of_ble_eq_true rfl, Nat.le_of_ble_eq_true rfl⟩ rfl rfl (Nat.le_of_ble_eq_true rfl) dX11_counter_51 rfl (fun q4 => ?_)
          refine j_iload_n (pc' := 55) hC 1 dX11_counter_54 rfl rfl rfl ?_
          refine j_callS_ir (pc' := 58) (As := [.int p1]) (st := [.int q4, .ref (d.2.1 13)]) hC (kX11_childOf l d A _ _) (jgS ml_X11_136 st_X11_childOf in_X11 cd_X11_childOf) rfl rfl rfl hyS_X11_childOf ⟨Nat.le_of_ble_eq_true rfl, Nat.le_of_ble_eq_true rfl⟩ rfl rfl (Nat.le_of_ble_eq_true rfl) dX11_counter_55 rfl (fun q5 => ?_)
          refine j_iload (pc' := 60) hC 5 dX11_counter_58 rfl rfl ?_
          refine j_iload_n (pc' := 61) hC 2 dX11_counter_60 rfl rfl rfl ?_
          refine j_callV_r (pc' := 64) (As := [.int q4, .int q5, .int a.2.2.2, .int p2]) (st := []) hC (X_at_13 d _) rfl (kX8_think l d A _ _ _ _ _) (jgV ml_X11_139 im_X8_think se_X8_think in_X8 cd_X8_think) rfl rfl rfl hyV_X8_think ⟨Nat.le_of_ble_eq_true rfl, Nat.le_of_ble_eq_true rfl⟩ rfl rfl (Nat.le_of_ble_eq_true rfl) dX11_counter_61 rfl (fun q6 => ?_)
          refine j_get (pc' := 67) hC ly_X10 (X_at_14 d _) rfl 4 (by decide) fl_X11_149 rfl dX11_counter_64 rfl ?_
          refine j_istore (pc' := 69) (lv' := [(6, .int (q6.1 14 4)), (0, .ref (d.2.1 0)), (1, .int p1), (2, .int p2), (3, .int a.2.1), (4, .int a.2.2.1), (5, .int a.2.2.2)]) hC dX11_counter_67 (by decide) rfl rfl ?_
          refine j_iload (pc' := 71) hC 0 dX11_counter_69 rfl rfl ?_
          refine j_iload (pc' := 73) hC 5 dX11_counter_71 rfl rfl ?_
          refine j_icmp_le (pc' := 76) (tgt := 83) hC dX11_counter_73 (by decide) rfl ?_ ?_
          · exact j_lv (lv' := [(0, .ref (d.2.1 0)), (1, .int p1), (2, .int p2), (3, .int a.2.1), (4, .int a.2.2.1), (5, .int a.2.2.2)]) [1, 2, 3, 4, 5, 6] rfl (hj83 (q6, a.2.1, a.2.2.1))
          · refine j_iload (pc' := 78) hC 0 dX11_counter_76 rfl rfl ?_
            refine j_istore (pc' := 80) (lv' := [(4, .int (q6.1 14 4)), (6, .int (q6.1 14 4)), (0, .ref (d.2.1 0)), (1, .int p1), (2, .int p2), (3, .int a.2.1), (5, .int a.2.2.2)]) hC dX11_counter_78 (by decide) rfl rfl ?_
            refine j_iload (pc' := 82) hC 6 dX11_counter_80 rfl rfl ?_
            refine j_istore_n (pc' := 83) (lv' := [(3, .int a.2.2.2), (4, .int (q6.1 14 4)), (6, .int (q6.1 14 4)), (0, .ref (d.2.1 0)), (1, .int p1), (2, .int p2), (5, .int a.2.2.2)]) hC dX11_counter_82 rfl (by decide) rfl rfl ?_
            exact j_lv (lv' := [(0, .ref (d.2.1 0)), (1, .int p1), (2, .int p2), (3, .int a.2.2.2), (4, .int (q6.1 14 4)), (5, .int a.2.2.2)]) [3, 4, 5, 0, 1, 6] rfl (hj83 (q6, a.2.2.2, (q6.1 14 4)))
        · refine j_goto (tgt := 83) hC dX11_counter_43 (by decide) ?_
          exact j_lv (lv' := [(0, .ref (d.2.1 0)), (1, .int p1), (2, .int p2), (3, .int a.2.1), (4, .int a.2.2.1), (5, .int a.2.2.2)]) [0, 1, 2, 3, 4, 5] rfl (hj83 (a.1, a.2.1, a.2.2.1))
  · refine j_iconst (pc' := 10) (v := (-1 : Int32)) hC dX11_counter_9 (by decide) rfl ?_
    exact j_ret_i hC dX11_counter_10
theorem hyV_X11_unfair : yX11_unfair.cls = RX11 ∧ yX11_unfair.cls ≠ "java/lang/invoke/MethodHandle" ∧ yX11_unfair.cls ≠ "java/lang/invoke/VarHandle" ∧ (parseMethodDescriptor yX11_unfair.desc).map (fun d => d.parameters.length) = some 2 := ⟨rfl, by decide +kernel, by decide +kernel, by decide +kernel⟩
noncomputable def fX11_unfair (σ : jS) (p1 : Int32) (p2 : Int32) : Option (Int32 × jS) :=
  (Option.bind (fX11_isTold σ p1 p2) fun (q1 : Int32) => (if (jb q1) = 0 then (some ((-2000000000 : Int32), σ)) else (Option.bind (fX11_swingOf σ p1) fun (q2 : Int32) => (Option.bind (fX11_childOf σ p1) fun (q3 : Int32) => (Option.bind (fX8_think σ q2 q3 (p1 - p1 / (10 : Int32) * (10 : Int32)) p2) fun (q4 : jS) => (Option.bind (fX6_valueOf q4 (0 : Int32) (8 : Int32)) fun (q5 : Int32) => (some (((q4.1 14 3) - q5), q4))))))))
set_option maxRecDepth 100000 in
set_option maxHeartbeats 4000000 in
theorem kX11_unfair (l : Launch) (d : jD) (A : Nat → Prop) (σ : jS) (p1 : Int32) (p2 : Int32) : jMi l yX11_unfair (jws yX11_unfair cX11_unfair 3 (some (.int))) { frames := 7, cells := 0, slots := 0, locals := 254 } d wX A [.ref (d.2.1 0), .int p1, .int p2] σ (fX11_unfair σ p1 p2) := by
  refine jStart_i (lv0 := [(0, .ref (d.2.1 0)), (1, .int p1), (2, .int p2)]) (by decide) rfl (Nat.le_of_ble_eq_true rfl) rfl (fun z hC res => ?_)
  unfold fX11_unfair
  refine j_aload_n (pc' := 1) hC 0 dX11_unfair_0 rfl rfl rfl ?_
  refine j_iload_n (pc' := 2) hC 1 dX11_unfair_1 rfl rfl rfl ?_
  refine j_iload_n (pc' := 3) hC 2 dX11_unfair_2 rfl rfl rfl ?_
  refine j_callV_zr (pc' := 6) (As := [.int p1, .int p2]) (st := []) hC (X_at_0 d _) rfl (kX11_isTold l d A _ _ _) (jgV ml_X11_129 im_X11_isTold se_X11_isTold in_X11 cd_X11_isTold) rfl rfl rfl hyV_X11_isTold ⟨Nat.le_of_ble_eq_true rfl, Nat.le_of_ble_eq_true rfl⟩ rfl rfl (Nat.le_of_ble_eq_true rfl) dX11_unfair_3 rfl (fun q1 => ?_)
  refine j_if_ne (pc' := 9) (tgt := 12) hC dX11_unfair_6 (by decide) rfl ?_ ?_
  · refine j_aload_n (pc' := 13) hC 0 dX11_unfair_12 rfl rfl rfl ?_
    refine j_get (pc' := 16) hC ly_X11 (X_at_0 d _) rfl 3 (by decide) fl_X11_37 rfl dX11_unfair_13 rfl ?_
    refine j_iload_n (pc' := 17) hC 1 dX11_unfair_16 rfl rfl rfl ?_
    refine j_callS_ir (pc' := 20) (As := [.int p1]) (st := [.ref (d.2.1 13)]) hC (kX11_swingOf l d A _ _) (jgS ml_X11_133 st_X11_swingOf in_X11 cd_X11_swingOf) rfl rfl rfl hyS_X11_swingOf ⟨Nat.le_of_ble_eq_true rfl, Nat.le_of_ble_eq_true rfl⟩ rfl rfl (Nat.le_of_ble_eq_true rfl) dX11_unfair_17 rfl (fun q2 => ?_)
    refine j_iload_n (pc' := 21) hC 1 dX11_unfair_20 rfl rfl rfl ?_
    refine j_callS_ir (pc' := 24) (As := [.int p1]) (st := [.int q2, .ref (d.2.1 13)]) hC (kX11_childOf l d A _ _) (jgS ml_X11_136 st_X11_childOf in_X11 cd_X11_childOf) rfl rfl rfl hyS_X11_childOf ⟨Nat.le_of_ble_eq_true rfl, Nat.le_of_ble_eq_true rfl⟩ rfl rfl (Nat.le_of_ble_eq_true rfl) dX11_unfair_21 rfl (fun q3 => ?_)
    refine j_iload_n (pc' := 25) hC 1 dX11_unfair_24 rfl rfl rfl ?_
    refine j_bipush (pc' := 27) (v := (10 : Int32)) hC dX11_unfair_25 (by decide) rfl ?_
    refine j_irem0 (pc' := 28) hC dX11_unfair_27 (by decide) rfl ?_
    refine j_iload_n (pc' := 29) hC 2 dX11_unfair_28 rfl rfl rfl ?_
    refine j_callV_r (pc' := 32) (As := [.int q2, .int q3, .int (p1 - p1 / (10 : Int32) * (10 : Int32)), .int p2]) (st := []) hC (X_at_13 d _) rfl (kX8_think l d A _ _ _ _ _) (jgV ml_X11_139 im_X8_think se_X8_think in_X8 cd_X8_think) rfl rfl rfl hyV_X8_think ⟨Nat.le_of_ble_eq_true rfl, Nat.le_of_ble_eq_true rfl⟩ rfl rfl (Nat.le_of_ble_eq_true rfl) dX11_unfair_29 rfl (fun q4 => ?_)
    refine j_get (pc' := 35) hC ly_X10 (X_at_14 d _) rfl 3 (by decide) fl_X11_143 rfl dX11_unfair_32 rfl ?_
    refine j_aload_n (pc' := 36) hC 0 dX11_unfair_35 rfl rfl rfl ?_
    refine j_get (pc' := 39) hC ly_X11 (X_at_0 d _) rfl 0 (by decide) fl_X11_10 rfl dX11_unfair_36 rfl ?_
    refine j_iconst (pc' := 40) (v := (0 : Int32)) hC dX11_unfair_39 (by decide) rfl ?_
    refine j_bipush (pc' := 42) (v := (8 : Int32)) hC dX11_unfair_40 (by decide) rfl ?_
    refine j_callV_ir (pc' := 45) (As := [.int (0 : Int32), .int (8 : Int32)]) (st := [.int (q4.1 14 3)]) hC (X_at_1 d _) rfl (kX6_valueOf l d A _ _ _) (jgV ml_X11_166 im_X6_valueOf se_X6_valueOf in_X6 cd_X6_valueOf) rfl rfl rfl hyV_X6_valueOf ⟨Nat.le_of_ble_eq_true rfl, Nat.le_of_ble_eq_true rfl⟩ rfl rfl (Nat.le_of_ble_eq_true rfl) dX11_unfair_42 rfl (fun q5 => ?_)
    refine j_isub (pc' := 46) hC dX11_unfair_45 rfl ?_
    exact j_ret_i hC dX11_unfair_46
  · refine j_ldc (pc' := 11) (v := (-2000000000 : Int32)) hC dX11_unfair_9 ct_X11_165 rfl ?_
    exact j_ret_i hC dX11_unfair_11
theorem hyS_X11_isBell : yX11_isBell.cls ≠ "java/lang/invoke/MethodHandle" ∧ yX11_isBell.cls ≠ "java/lang/invoke/VarHandle" ∧ (parseMethodDescriptor yX11_isBell.desc).map (fun d => d.parameters.length) = some 1 := ⟨by decide +kernel, by decide +kernel, by decide +kernel⟩
noncomputable def fX11_isBell (σ : jS) (p1 : Int32) : Option (Int32) :=
  (if p1 < (1 : Int32) then (some (0 : Int32)) else (if (3600 : Int32) < p1 then (some (0 : Int32)) else (some (1 : Int32))))
set_option maxRecDepth 100000 in
set_option maxHeartbeats 4000000 in
theorem kX11_isBell (l : Launch) (d : jD) (A : Nat → Prop) (σ : jS) (p1 : Int32) : jMzr l yX11_isBell (jws yX11_isBell cX11_isBell 1 (some (.boolean))) { frames := 2, cells := 0, slots := 0, locals := 130 } d wX A [.int p1] σ (fX11_isBell σ p1) := by
  refine jStart_zr (lv0 := [(0, .int p1)]) (by decide) rfl (Nat.le_of_ble_eq_true rfl) rfl (fun z hC res => ?_)
  unfold fX11_isBell
  refine j_iload_n (pc' := 1) hC 0 dX11_isBell_0 rfl rfl rfl ?_
  refine j_iconst (pc' := 2) (v := (1 : Int32)) hC dX11_isBell_1 (by decide) rfl ?_
  refine j_icmp_lt (pc' := 5) (tgt := 16) hC dX11_isBell_2 (by decide) rfl ?_ ?_
  · refine j_iconst (pc' := 17) (v := (0 : Int32)) hC dX11_isBell_16 (by decide) rfl ?_
    exact j_ret_zr hC (by decide) dX11_isBell_17
  · refine j_iload_n (pc' := 6) hC 0 dX11_isBell_5 rfl rfl rfl ?_
    refine j_sipush (pc' := 9) (v := (3600 : Int32)) hC dX11_isBell_6 (by decide) rfl ?_
    refine j_icmp_gt (pc' := 12) (tgt := 16) hC dX11_isBell_9 (by decide) rfl ?_ ?_
    · refine j_iconst (pc' := 17) (v := (0 : Int32)) hC dX11_isBell_16 (by decide) rfl ?_
      exact j_ret_zr hC (by decide) dX11_isBell_17
    · refine j_iconst (pc' := 13) (v := (1 : Int32)) hC dX11_isBell_12 (by decide) rfl ?_
      refine j_goto (tgt := 17) hC dX11_isBell_13 (by decide) ?_
      exact j_ret_zr hC (by decide) dX11_isBell_17
theorem hyV_X11_afternoon : yX11_afternoon.cls = RX11 ∧ yX11_afternoon.cls ≠ "java/lang/invoke/MethodHandle" ∧ yX11_afternoon.cls ≠ "java/lang/invoke/VarHandle" ∧ (parseMethodDescriptor yX11_afternoon.desc).map (fun d => d.parameters.length) = some 3 := ⟨rfl, by decide +kernel, by decide +kernel, by decide +kernel⟩
noncomputable def fX11_afternoon (σ : jS) (p1 : Int32) (p2 : Int32) (p3 : Int32) : Option (Int32 × jS) :=
  (Option.bind (fX11_isBell σ p1) fun (q1 : Int32) => (if (jb q1) = 0 then (some ((-1 : Int32), σ)) else (Option.bind (fX6_isChild σ p2) fun (q2 : Int32) => (if (jb q2) = 0 then (some ((-1 : Int32), σ)) else (if p3 < 0 then (some ((-1 : Int32), σ)) else (if p3 ≤ (2 : Int32) then (Option.bind (fX6_valueOf σ p2 (5 : Int32)) fun (q3 : Int32) => (Option.bind (fX6_isSwing σ q3) fun (q4 : Int32) => (if (jb q4) = 0 then (if p3 = (1 : Int32) then (some ((-2 : Int32), σ)) else (some ((0 : Int32), σ))) else (jaa q3 fun (o5 : Nat) => (Option.bind (fX5_form o5 σ) fun (q6 : jS) => (Option.bind (fX5_foresee o5 q6) fun (q7 : jS) => (if p3 = (1 : Int32) then (Option.bind (fX5_beginOf o5 q7 p2 p1) fun (q11 : Int32) => (some (q11, q7))) else (Option.bind (fX5_spendN o5 q7 p1) fun (q8 : jS) => (Option.bind (fX5_oftenOf o5 q8 p2) fun (q9 : Int32) => (if p3 = 0 then (some (q9, q8)) else (Option.bind (fX5_roundsOf o5 q8 p2) fun (q10 : Int32) => (some ((q9 * q10), q8))))))))))))) else (some ((-1 : Int32), σ))))))))
set_option maxRecDepth 100000 in
set_option maxHeartbeats 4000000 in
theorem kX11_afternoon (l : Launch) (d : jD) (A : Nat → Prop) (σ : jS) (p1 : Int32) (p2 : Int32) (p3 : Int32) : jMi l yX11_afternoon (jws yX11_afternoon cX11_afternoon 7 (some (.int))) { frames := 8, cells := 0, slots := 0, locals := 277 } d wX A [.ref (d.2.1 0), .int p1, .int p2, .int p3] σ (fX11_afternoon σ p1 p2 p3) := by
  refine jStart_i (lv0 := [(0, .ref (d.2.1 0)), (1, .int p1), (2, .int p2), (3, .int p3)]) (by decide) rfl (Nat.le_of_ble_eq_true rfl) rfl (fun z hC res => ?_)
  unfold fX11_afternoon
  refine j_iload_n (pc' := 1) hC 1 dX11_afternoon_0 rfl rfl rfl ?_
  refine j_callS_zr (pc' := 4) (As := [.int p1]) (st := []) hC (kX11_isBell l d A _ _) (jgS ml_X11_169 st_X11_isBell in_X11 cd_X11_isBell) rfl rfl rfl hyS_X11_isBell ⟨Nat.le_of_ble_eq_true rfl, Nat.le_of_ble_eq_true rfl⟩ rfl rfl (Nat.le_of_ble_eq_true rfl) dX11_afternoon_1 rfl (fun q1 => ?_)
  refine j_if_eq (pc' := 7) (tgt := 27) hC dX11_afternoon_4 (by decide) rfl ?_ ?_
  · refine j_iconst (pc' := 28) (v := (-1 : Int32)) hC dX11_afternoon_27 (by decide) rfl ?_
    exact j_ret_i hC dX11_afternoon_28
  · refine j_aload_n (pc' := 8) hC 0 dX11_afternoon_7 rfl rfl rfl ?_
    refine j_get (pc' := 11) hC ly_X11 (X_at_0 d _) rfl 0 (by decide) fl_X11_10 rfl dX11_afternoon_8 rfl ?_
    refine j_iload_n (pc' := 12) hC 2 dX11_afternoon_11 rfl rfl rfl ?_
    refine j_callV_zr (pc' := 15) (As := [.int p2]) (st := []) hC (X_at_1 d _) rfl (kX6_isChild l d A _ _) (jgV ml_X11_172 im_X6_isChild se_X6_isChild in_X6 cd_X6_isChild) rfl rfl rfl hyV_X6_isChild ⟨Nat.le_of_ble_eq_true rfl, Nat.le_of_ble_eq_true rfl⟩ rfl rfl (Nat.le_of_ble_eq_true rfl) dX11_afternoon_12 rfl (fun q2 => ?_)
    refine j_if_eq (pc' := 18) (tgt := 27) hC dX11_afternoon_15 (by decide) rfl ?_ ?_
    · refine j_iconst (pc' := 28) (v := (-1 : Int32)) hC dX11_afternoon_27 (by decide) rfl ?_
      exact j_ret_i hC dX11_afternoon_28
    · refine j_iload_n (pc' := 19) hC 3 dX11_afternoon_18 rfl rfl rfl ?_
      refine j_if_lt (pc' := 22) (tgt := 27) hC dX11_afternoon_19 (by decide) rfl ?_ ?_
      · refine j_iconst (pc' := 28) (v := (-1 : Int32)) hC dX11_afternoon_27 (by decide) rfl ?_
        exact j_ret_i hC dX11_afternoon_28
      · refine j_iload_n (pc' := 23) hC 3 dX11_afternoon_22 rfl rfl rfl ?_
        refine j_iconst (pc' := 24) (v := (2 : Int32)) hC dX11_afternoon_23 (by decide) rfl ?_
        refine j_icmp_le (pc' := 27) (tgt := 29) hC dX11_afternoon_24 (by decide) rfl ?_ ?_
        · refine j_aload_n (pc' := 30) hC 0 dX11_afternoon_29 rfl rfl rfl ?_
          refine j_get (pc' := 33) hC ly_X11 (X_at_0 d _) rfl 0 (by decide) fl_X11_10 rfl dX11_afternoon_30 rfl ?_
          refine j_iload_n (pc' := 34) hC 2 dX11_afternoon_33 rfl rfl rfl ?_
          refine j_iconst (pc' := 35) (v := (5 : Int32)) hC dX11_afternoon_34 (by decide) rfl ?_
          refine j_callV_ir (pc' := 38) (As := [.int p2, .int (5 : Int32)]) (st := []) hC (X_at_1 d _) rfl (kX6_valueOf l d A _ _ _) (jgV ml_X11_166 im_X6_valueOf se_X6_valueOf in_X6 cd_X6_valueOf) rfl rfl rfl hyV_X6_valueOf ⟨Nat.le_of_ble_eq_true rfl, Nat.le_of_ble_eq_true rfl⟩ rfl rfl (Nat.le_of_ble_eq_true rfl) dX11_afternoon_35 rfl (fun q3 => ?_)
          refine j_istore (pc' := 40) (lv' := [(4, .int q3), (0, .ref (d.2.1 0)), (1, .int p1), (2, .int p2), (3, .int p3)]) hC dX11_afternoon_38 (by decide) rfl rfl ?_
          refine j_aload_n (pc' := 41) hC 1 dX11_afternoon_40 rfl rfl rfl ?_
          refine j_get (pc' := 44) hC ly_X11 (X_at_0 d _) rfl 0 (by decide) fl_X11_10 rfl dX11_afternoon_41 rfl ?_
          refine j_iload (pc' := 46) hC 0 dX11_afternoon_44 rfl rfl ?_
          refine j_callV_zr (pc' := 49) (As := [.int q3]) (st := []) hC (X_at_1 d _) rfl (kX6_isSwing l d A _ _) (jgV ml_X11_175 im_X6_isSwing se_X6_isSwing in_X6 cd_X6_isSwing) rfl rfl rfl hyV_X6_isSwing ⟨Nat.le_of_ble_eq_true rfl, Nat.le_of_ble_eq_true rfl⟩ rfl rfl (Nat.le_of_ble_eq_true rfl) dX11_afternoon_46 rfl (fun q4 => ?_)
          refine j_if_ne (pc' := 52) (tgt := 64) hC dX11_afternoon_49 (by decide) rfl ?_ ?_
          · refine j_aload_n (pc' := 65) hC 1 dX11_afternoon_64 rfl rfl rfl ?_
            refine j_get (pc' := 68) hC ly_X11 (X_at_0 d _) rfl 4 (by decide) fl_X11_43 rfl dX11_afternoon_65 rfl ?_
            refine j_iload (pc' := 70) hC 0 dX11_afternoon_68 rfl rfl ?_
            refine j_aald (pc' := 71) hC (X_at_16 d _) dX11_afternoon_70 rfl (fun o5 h_o5 => ?_)
            refine j_astore (pc' := 73) (lv' := [(5, .ref (d.2.1 o5)), (4, .int q3), (0, .ref (d.2.1 0)), (1, .int p1), (2, .int p2), (3, .int p3)]) hC dX11_afternoon_71 (by decide) rfl rfl ?_
            refine j_aload (pc' := 75) hC 0 dX11_afternoon_73 rfl rfl ?_
            refine j_callV_v (pc' := 78) (As := []) (st := []) hC (X_ln d _ h_o5) rfl (kX5_form l d A h_o5 _) (jgV ml_X11_178 im_X5_form se_X5_form in_X5 cd_X5_form) rfl rfl rfl hyV_X5_form ⟨Nat.le_of_ble_eq_true rfl, Nat.le_of_ble_eq_true rfl⟩ rfl rfl (Nat.le_of_ble_eq_true rfl) dX11_afternoon_75 rfl (fun q6 => ?_)
            refine j_aload (pc' := 80) hC 0 dX11_afternoon_78 rfl rfl ?_
            refine j_callV_v (pc' := 83) (As := []) (st := []) hC (X_ln d _ h_o5) rfl (kX5_foresee l d A h_o5 _) (jgV ml_X11_181 im_X5_foresee se_X5_foresee in_X5 cd_X5_foresee) rfl rfl rfl hyV_X5_foresee ⟨Nat.le_of_ble_eq_true rfl, Nat.le_of_ble_eq_true rfl⟩ rfl rfl (Nat.le_of_ble_eq_true rfl) dX11_afternoon_80 rfl (fun q7 => ?_)
            refine j_iload_n (pc' := 84) hC 5 dX11_afternoon_83 rfl rfl rfl ?_
            refine j_iconst (pc' := 85) (v := (1 : Int32)) hC dX11_afternoon_84 (by decide) rfl ?_
            refine j_icmp_ne (pc' := 88) (tgt := 96) hC dX11_afternoon_85 (by decide) rfl ?_ ?_
            · refine j_aload (pc' := 98) hC 0 dX11_afternoon_96 rfl rfl ?_
              refine j_iload_n (pc' := 99) hC 3 dX11_afternoon_98 rfl rfl rfl ?_
              refine j_null (pc' := 100) hC dX11_afternoon_99 rfl ?_
              refine j_callV_v (pc' := 103) (As := [.int p1, .null]) (st := []) hC (X_ln d _ h_o5) rfl (kX5_spendN l d A h_o5 _ _) (jgV ml_X11_187 im_X5_spend se_X5_spend in_X5 cd_X5_spend) rfl rfl rfl hyV_X5_spend ⟨Nat.le_of_ble_eq_true rfl, Nat.le_of_ble_eq_true rfl⟩ rfl rfl (Nat.le_of_ble_eq_true rfl) dX11_afternoon_100 rfl (fun q8 => ?_)
              refine j_aload (pc' := 105) hC 0 dX11_afternoon_103 rfl rfl ?_
              refine j_iload_n (pc' := 106) hC 4 dX11_afternoon_105 rfl rfl rfl ?_
              refine j_callV_ir (pc' := 109) (As := [.int p2]) (st := []) hC (X_ln d _ h_o5) rfl (kX5_oftenOf l d A h_o5 _ _) (jgV ml_X11_191 im_X5_oftenOf se_X5_oftenOf in_X5 cd_X5_oftenOf) rfl rfl rfl hyV_X5_oftenOf ⟨Nat.le_of_ble_eq_true rfl, Nat.le_of_ble_eq_true rfl⟩ rfl rfl (Nat.le_of_ble_eq_true rfl) dX11_afternoon_106 rfl (fun q9 => ?_)
              refine j_istore (pc' := 111) (lv' := [(6, .int q9), (5, .ref (d.2.1 o5)), (4, .int q3), (0, .ref (d.2.1 0)), (1, .int p1), (2, .int p2), (3, .int p3)]) hC dX11_afternoon_109 (by decide) rfl rfl ?_
              refine j_iload_n (pc' := 112) hC 6 dX11_afternoon_111 rfl rfl rfl ?_
              refine j_if_ne (pc' := 115) (tgt := 120) hC dX11_afternoon_112 (by decide) rfl ?_ ?_
              · refine j_iload (pc' := 122) hC 0 dX11_afternoon_120 rfl rfl ?_
                refine j_aload (pc' := 124) hC 1 dX11_afternoon_122 rfl rfl ?_
                refine j_iload_n (pc' := 125) hC 5 dX11_afternoon_124 rfl rfl rfl ?_
                refine j_callV_ir (pc' := 128) (As := [.int p2]) (st := [.int q9]) hC (X_ln d _ h_o5) rfl (kX5_roundsOf l d A h_o5 _ _) (jgV ml_X11_194 im_X5_roundsOf se_X5_roundsOf in_X5 cd_X5_roundsOf) rfl rfl rfl hyV_X5_roundsOf ⟨Nat.le_of_ble_eq_true rfl, Nat.le_of_ble_eq_true rfl⟩ rfl rfl (Nat.le_of_ble_eq_true rfl) dX11_afternoon_125 rfl (fun q10 => ?_)
                refine j_imul (pc' := 129) hC dX11_afternoon_128 rfl ?_
                exact j_ret_i hC dX11_afternoon_129
              · refine j_iload (pc' := 117) hC 0 dX11_afternoon_115 rfl rfl ?_
                refine j_goto (tgt := 129) hC dX11_afternoon_117 (by decide) ?_
                exact j_ret_i hC dX11_afternoon_129
            · refine j_aload (pc' := 90) hC 0 dX11_afternoon_88 rfl rfl ?_
              refine j_iload_n (pc' := 91) hC 4 dX11_afternoon_90 rfl rfl rfl ?_
              refine j_iload_n (pc' := 92) hC 3 dX11_afternoon_91 rfl rfl rfl ?_
              refine j_callV_ir (pc' := 95) (As := [.int p2, .int p1]) (st := []) hC (X_ln d _ h_o5) rfl (kX5_beginOf l d A h_o5 _ _ _) (jgV ml_X11_184 im_X5_beginOf se_X5_beginOf in_X5 cd_X5_beginOf) rfl rfl rfl hyV_X5_beginOf ⟨Nat.le_of_ble_eq_true rfl, Nat.le_of_ble_eq_true rfl⟩ rfl rfl (Nat.le_of_ble_eq_true rfl) dX11_afternoon_92 rfl (fun q11 => ?_)
              exact j_ret_i hC dX11_afternoon_95
          · refine j_iload_n (pc' := 53) hC 4 dX11_afternoon_52 rfl rfl rfl ?_
            refine j_iconst (pc' := 54) (v := (1 : Int32)) hC dX11_afternoon_53 (by decide) rfl ?_
            refine j_icmp_ne (pc' := 57) (tgt := 62) hC dX11_afternoon_54 (by decide) rfl ?_ ?_
            · refine j_iconst (pc' := 63) (v := (0 : Int32)) hC dX11_afternoon_62 (by decide) rfl ?_
              exact j_ret_i hC dX11_afternoon_63
            · refine j_bipush (pc' := 59) (v := (-2 : Int32)) hC dX11_afternoon_57 (by decide) rfl ?_
              refine j_goto (tgt := 63) hC dX11_afternoon_59 (by decide) ?_
              exact j_ret_i hC dX11_afternoon_63
        · refine j_iconst (pc' := 28) (v := (-1 : Int32)) hC dX11_afternoon_27 (by decide) rfl ?_
          exact j_ret_i hC dX11_afternoon_28
theorem hyV_X11_timesOnAll : yX11_timesOnAll.cls = RX11 ∧ yX11_timesOnAll.cls ≠ "java/lang/invoke/MethodHandle" ∧ yX11_timesOnAll.cls ≠ "java/lang/invoke/VarHandle" ∧ (parseMethodDescriptor yX11_timesOnAll.desc).map (fun d => d.parameters.length) = some 1 := ⟨rfl, by decide +kernel, by decide +kernel, by decide +kernel⟩
noncomputable def fX11_timesOnAll_B4 (σ : jS) (p1 : Int32) (s4 : Int32 × Int32 → Option (Int32)) (a : Int32 × Int32) : Option (Int32) :=
  (if (3 : Int32) ≤ a.2 then (some a.1) else (jaa a.2 fun (o1 : Nat) => (Option.bind (fX5_oftenOf o1 σ p1) fun (q2 : Int32) => (s4 ((a.1 + q2), (a.2 + (1 : Int32)))))))
noncomputable def fX11_timesOnAll (σ : jS) (p1 : Int32) : Option (Int32) :=
  (jloop (fX11_timesOnAll_B4 σ p1) jN ((0 : Int32), (0 : Int32)))
set_option maxRecDepth 100000 in
set_option maxHeartbeats 4000000 in
theorem kX11_timesOnAll (l : Launch) (d : jD) (A : Nat → Prop) (σ : jS) (p1 : Int32) : jMir l yX11_timesOnAll (jws yX11_timesOnAll cX11_timesOnAll 4 (some (.int))) { frames := 4, cells := 0, slots := 0, locals := 174 } d wX A [.ref (d.2.1 0), .int p1] σ (fX11_timesOnAll σ p1) := by
  refine jStart_ir (lv0 := [(0, .ref (d.2.1 0)), (1, .int p1)]) (by decide) rfl (Nat.le_of_ble_eq_true rfl) rfl (fun z hC res => ?_)
  unfold fX11_timesOnAll
  refine j_iconst (pc' := 1) (v := (0 : Int32)) hC dX11_timesOnAll_0 (by decide) rfl ?_
  refine j_istore_n (pc' := 2) (lv' := [(2, .int (0 : Int32)), (0, .ref (d.2.1 0)), (1, .int p1)]) hC dX11_timesOnAll_1 rfl (by decide) rfl rfl ?_
  refine j_iconst (pc' := 3) (v := (0 : Int32)) hC dX11_timesOnAll_2 (by decide) rfl ?_
  refine j_istore_n (pc' := 4) (lv' := [(3, .int (0 : Int32)), (2, .int (0 : Int32)), (0, .ref (d.2.1 0)), (1, .int p1)]) hC dX11_timesOnAll_3 rfl (by decide) rfl rfl ?_
  refine j_lv (lv' := [(0, .ref (d.2.1 0)), (1, .int p1), (2, .int (0 : Int32)), (3, .int (0 : Int32))]) [2, 3, 1, 0] rfl ?_
  refine j_loop 4 (fun a => σ) (fun a => [(0, .ref (d.2.1 0)), (1, .int p1), (2, .int a.1), (3, .int a.2)]) (fun s4 hs4 a => ?_) jN ((0 : Int32), (0 : Int32))
  unfold fX11_timesOnAll_B4
  refine j_iload_n (pc' := 5) hC 3 dX11_timesOnAll_4 rfl rfl rfl ?_
  refine j_iconst (pc' := 6) (v := (3 : Int32)) hC dX11_timesOnAll_5 (by decide) rfl ?_
  refine j_icmp_ge (pc' := 9) (tgt := 28) hC dX11_timesOnAll_6 (by decide) rfl ?_ ?_
  · refine j_iload_n (pc' := 29) hC 2 dX11_timesOnAll_28 rfl rfl rfl ?_
    exact j_ret_ir hC dX11_timesOnAll_29
  · refine j_iload_n (pc' := 10) hC 2 dX11_timesOnAll_9 rfl rfl rfl ?_
    refine j_aload_n (pc' := 11) hC 0 dX11_timesOnAll_10 rfl rfl rfl ?_
    refine j_get (pc' := 14) hC ly_X11 (X_at_0 d _) rfl 4 (by decide) fl_X11_43 rfl dX11_timesOnAll_11 rfl ?_
    refine j_iload_n (pc' := 15) hC 3 dX11_timesOnAll_14 rfl rfl rfl ?_
    refine j_aald (pc' := 16) hC (X_at_16 d _) dX11_timesOnAll_15 rfl (fun o1 h_o1 => ?_)
    refine j_iload_n (pc' := 17) hC 1 dX11_timesOnAll_16 rfl rfl rfl ?_
    refine j_callV_ir (pc' := 20) (As := [.int p1]) (st := [.int a.1]) hC (X_ln d _ h_o1) rfl (kX5_oftenOf l d A h_o1 _ _) (jgV ml_X11_191 im_X5_oftenOf se_X5_oftenOf in_X5 cd_X5_oftenOf) rfl rfl rfl hyV_X5_oftenOf ⟨Nat.le_of_ble_eq_true rfl, Nat.le_of_ble_eq_true rfl⟩ rfl rfl (Nat.le_of_ble_eq_true rfl) dX11_timesOnAll_17 rfl (fun q2 => ?_)
    refine j_iadd (pc' := 21) hC dX11_timesOnAll_20 rfl ?_
    refine j_istore_n (pc' := 22) (lv' := [(2, .int (a.1 + q2)), (0, .ref (d.2.1 0)), (1, .int p1), (3, .int a.2)]) hC dX11_timesOnAll_21 rfl (by decide) rfl rfl ?_
    refine j_iinc (pc' := 25) (v := (a.2 + (1 : Int32))) (lv' := [(3, .int (a.2 + (1 : Int32))), (2, .int (a.1 + q2)), (0, .ref (d.2.1 0)), (1, .int p1)]) hC 3 dX11_timesOnAll_22 rfl (by decide) rfl rfl rfl ?_
    refine j_goto (tgt := 4) hC dX11_timesOnAll_25 (by decide) ?_
    exact j_lv (lv' := [(0, .ref (d.2.1 0)), (1, .int p1), (2, .int (a.1 + q2)), (3, .int (a.2 + (1 : Int32)))]) [2, 3, 1, 0] rfl (hs4 ((a.1 + q2), (a.2 + (1 : Int32))))
theorem hyV_X11_been : yX11_been.cls = RX11 ∧ yX11_been.cls ≠ "java/lang/invoke/MethodHandle" ∧ yX11_been.cls ≠ "java/lang/invoke/VarHandle" ∧ (parseMethodDescriptor yX11_been.desc).map (fun d => d.parameters.length) = some 2 := ⟨rfl, by decide +kernel, by decide +kernel, by decide +kernel⟩
noncomputable def fX11_been_B80 (a61 : jS) (s80 : Int32 × Int32 → Option (Int32 × jS)) (a : Int32 × Int32) : Option (Int32 × jS) :=
  (if (a61.1 1 1) ≤ a.2 then (some (a.1, a61)) else (Option.bind (fX11_timesOnAll a61 a.2) fun (q2 : Int32) => (jlet (fun (a108 : Int32) => (s80 (a108, (a.2 + (1 : Int32))))) fun (j108 : (Int32 → Option (Int32 × jS))) => (if q2 = 0 then (j108 (a.1 ||| ((1 : Int32) <<< (a.2 &&& 31)))) else (j108 a.1)))))
noncomputable def fX11_been_B21 (p1 : Int32) (j61 : (jS → Option (Int32 × jS))) (s21 : jS × Int32 → Option (Int32 × jS)) (a : jS × Int32) : Option (Int32 × jS) :=
  (if (3 : Int32) ≤ a.2 then (j61 a.1) else (jaa a.2 fun (o4 : Nat) => (Option.bind (fX5_form o4 a.1) fun (q5 : jS) => (jaa a.2 fun (o6 : Nat) => (Option.bind (fX5_foresee o6 q5) fun (q7 : jS) => (jaa a.2 fun (o8 : Nat) => (Option.bind (fX5_spendN o8 q7 p1) fun (q9 : jS) => (s21 (q9, (a.2 + (1 : Int32)))))))))))
noncomputable def fX11_been (σ : jS) (p1 : Int32) (p2 : Int32) : Option (Int32 × jS) :=
  (Option.bind (fX11_isBell σ p1) fun (q1 : Int32) => (if (jb q1) = 0 then (some ((-1 : Int32), σ)) else (if p2 < (-1 : Int32) then (some ((-1 : Int32), σ)) else (if p2 < (3 : Int32) then (jlet (fun (a61 : jS) => (if p2 < 0 then (jloop (fX11_been_B80 a61) jN ((0 : Int32), (0 : Int32))) else (jaa p2 fun (o3 : Nat) => (some ((a61.1 o3 8), a61))))) fun (j61 : (jS → Option (Int32 × jS))) => (jloop (fX11_been_B21 p1 j61) jN (σ, (0 : Int32)))) else (some ((-1 : Int32), σ))))))
set_option maxRecDepth 100000 in
set_option maxHeartbeats 4000000 in
theorem kX11_been (l : Launch) (d : jD) (A : Nat → Prop) (σ : jS) (p1 : Int32) (p2 : Int32) : jMi l yX11_been (jws yX11_been cX11_been 5 (some (.int))) { frames := 8, cells := 0, slots := 0, locals := 277 } d wX A [.ref (d.2.1 0), .int p1, .int p2] σ (fX11_been σ p1 p2) := by
  refine jStart_i (lv0 := [(0, .ref (d.2.1 0)), (1, .int p1), (2, .int p2)]) (by decide) rfl (Nat.le_of_ble_eq_true rfl) rfl (fun z hC res => ?_)
  unfold fX11_been
  refine j_iload_n (pc' := 1) hC 1 dX11_been_0 rfl rfl rfl ?_
  refine j_callS_zr (pc' := 4) (As := [.int p1]) (st := []) hC (kX11_isBell l d A _ _) (jgS ml_X11_169 st_X11_isBell in_X11 cd_X11_isBell) rfl rfl rfl hyS_X11_isBell ⟨Nat.le_of_ble_eq_true rfl, Nat.le_of_ble_eq_true rfl⟩ rfl rfl (Nat.le_of_ble_eq_true rfl) dX11_been_1 rfl (fun q1 => ?_)
  refine j_if_eq (pc' := 7) (tgt := 17) hC dX11_been_4 (by decide) rfl ?_ ?_
  · refine j_iconst (pc' := 18) (v := (-1 : Int32)) hC dX11_been_17 (by decide) rfl ?_
    exact j_ret_i hC dX11_been_18
  · refine j_iload_n (pc' := 8) hC 2 dX11_been_7 rfl rfl rfl ?_
    refine j_iconst (pc' := 9) (v := (-1 : Int32)) hC dX11_been_8 (by decide) rfl ?_
    refine j_icmp_lt (pc' := 12) (tgt := 17) hC dX11_been_9 (by decide) rfl ?_ ?_
    · refine j_iconst (pc' := 18) (v := (-1 : Int32)) hC dX11_been_17 (by decide) rfl ?_
      exact j_ret_i hC dX11_been_18
    · refine j_iload_n (pc' := 13) hC 2 dX11_been_12 rfl rfl rfl ?_
      refine j_iconst (pc' := 14) (v := (3 : Int32)) hC dX11_been_13 (by decide) rfl ?_
      refine j_icmp_lt (pc' := 17) (tgt := 19) hC dX11_been_14 (by decide) rfl ?_ ?_
      · refine j_iconst (pc' := 20) (v := (0 : Int32)) hC dX11_been_19 (by decide) rfl ?_
        refine j_istore_n (pc' := 21) (lv' := [(3, .int (0 : Int32)), (0, .ref (d.2.1 0)), (1, .int p1), (2, .int p2)]) hC dX11_been_20 rfl (by decide) rfl rfl ?_
        refine j_let 61 (fun a61 => a61) (fun a61 => [(0, .ref (d.2.1 0)), (2, .int p2)]) (fun a61 => []) (fun a61 => ?_) (fun j61 hj61 => ?_)
        · refine j_iload_n (pc' := 62) hC 1 dX11_been_61 rfl rfl rfl ?_
          refine j_if_lt (pc' := 65) (tgt := 75) hC dX11_been_62 (by decide) rfl ?_ ?_
          · refine j_iconst (pc' := 76) (v := (0 : Int32)) hC dX11_been_75 (by decide) rfl ?_
            refine j_istore_n (pc' := 77) (lv' := [(3, .int (0 : Int32)), (0, .ref (d.2.1 0)), (2, .int p2)]) hC dX11_been_76 rfl (by decide) rfl rfl ?_
            refine j_iconst (pc' := 78) (v := (0 : Int32)) hC dX11_been_77 (by decide) rfl ?_
            refine j_istore (pc' := 80) (lv' := [(4, .int (0 : Int32)), (3, .int (0 : Int32)), (0, .ref (d.2.1 0)), (2, .int p2)]) hC dX11_been_78 (by decide) rfl rfl ?_
            refine j_lv (lv' := [(0, .ref (d.2.1 0)), (3, .int (0 : Int32)), (4, .int (0 : Int32))]) [2, 1, 0] rfl ?_
            refine j_loop 80 (fun a => a61) (fun a => [(0, .ref (d.2.1 0)), (3, .int a.1), (4, .int a.2)]) (fun s80 hs80 a => ?_) jN ((0 : Int32), (0 : Int32))
            unfold fX11_been_B80
            refine j_iload (pc' := 82) hC 2 dX11_been_80 rfl rfl ?_
            refine j_aload_n (pc' := 83) hC 0 dX11_been_82 rfl rfl rfl ?_
            refine j_get (pc' := 86) hC ly_X11 (X_at_0 d _) rfl 0 (by decide) fl_X11_10 rfl dX11_been_83 rfl ?_
            refine j_get (pc' := 89) hC ly_X6 (X_at_1 d _) rfl 1 (by decide) fl_X11_200 rfl dX11_been_86 rfl ?_
            refine j_icmp_ge (pc' := 92) (tgt := 114) hC dX11_been_89 (by decide) rfl ?_ ?_
            · refine j_iload_n (pc' := 115) hC 1 dX11_been_114 rfl rfl rfl ?_
              exact j_ret_i hC dX11_been_115
            · refine j_aload_n (pc' := 93) hC 0 dX11_been_92 rfl rfl rfl ?_
              refine j_iload (pc' := 95) hC 2 dX11_been_93 rfl rfl ?_
              refine j_callV_ir (pc' := 98) (As := [.int a.2]) (st := []) hC (X_at_0 d _) rfl (kX11_timesOnAll l d A _ _) (jgV ml_X11_203 im_X11_timesOnAll se_X11_timesOnAll in_X11 cd_X11_timesOnAll) rfl rfl rfl hyV_X11_timesOnAll ⟨Nat.le_of_ble_eq_true rfl, Nat.le_of_ble_eq_true rfl⟩ rfl rfl (Nat.le_of_ble_eq_true rfl) dX11_been_95 rfl (fun q2 => ?_)
              refine j_let 108 (fun a108 => a61) (fun a108 => [(0, .ref (d.2.1 0)), (3, .int a108), (4, .int a.2)]) (fun a108 => []) (fun a108 => ?_) (fun j108 hj108 => ?_)
              · refine j_iinc (pc' := 111) (v := (a.2 + (1 : Int32))) (lv' := [(4, .int (a.2 + (1 : Int32))), (0, .ref (d.2.1 0)), (3, .int a108)]) hC 2 dX11_been_108 rfl (by decide) rfl rfl rfl ?_
                refine j_goto (tgt := 80) hC dX11_been_111 (by decide) ?_
                exact j_lv (lv' := [(0, .ref (d.2.1 0)), (3, .int a108), (4, .int (a.2 + (1 : Int32)))]) [1, 2, 0] rfl (hs80 (a108, (a.2 + (1 : Int32))))
              · refine j_if_ne (pc' := 101) (tgt := 108) hC dX11_been_98 (by decide) rfl ?_ ?_
                · exact j_lv (lv' := [(0, .ref (d.2.1 0)), (3, .int a.1), (4, .int a.2)]) [0, 1, 2] rfl (hj108 a.1)
                · refine j_iload_n (pc' := 102) hC 1 dX11_been_101 rfl rfl rfl ?_
                  refine j_iconst (pc' := 103) (v := (1 : Int32)) hC dX11_been_102 (by decide) rfl ?_
                  refine j_iload (pc' := 105) hC 2 dX11_been_103 rfl rfl ?_
                  refine j_ishl (pc' := 106) hC dX11_been_105 rfl ?_
                  refine j_ior (pc' := 107) hC dX11_been_106 rfl ?_
                  refine j_istore_n (pc' := 108) (lv' := [(3, .int (a.1 ||| ((1 : Int32) <<< (a.2 &&& 31)))), (0, .ref (d.2.1 0)), (4, .int a.2)]) hC dX11_been_107 rfl (by decide) rfl rfl ?_
                  exact j_lv (lv' := [(0, .ref (d.2.1 0)), (3, .int (a.1 ||| ((1 : Int32) <<< (a.2 &&& 31)))), (4, .int a.2)]) [1, 0, 2] rfl (hj108 (a.1 ||| ((1 : Int32) <<< (a.2 &&& 31))))
          · refine j_aload_n (pc' := 66) hC 0 dX11_been_65 rfl rfl rfl ?_
            refine j_get (pc' := 69) hC ly_X11 (X_at_0 d _) rfl 4 (by decide) fl_X11_43 rfl dX11_been_66 rfl ?_
            refine j_iload_n (pc' := 70) hC 1 dX11_been_69 rfl rfl rfl ?_
            refine j_aald (pc' := 71) hC (X_at_16 d _) dX11_been_70 rfl (fun o3 h_o3 => ?_)
            refine j_get (pc' := 74) hC ly_X5 (X_ln d _ h_o3) rfl 8 (by decide) fl_X11_197 rfl dX11_been_71 rfl ?_
            exact j_ret_i hC dX11_been_74
        · refine j_lv (lv' := [(0, .ref (d.2.1 0)), (1, .int p1), (2, .int p2), (3, .int (0 : Int32))]) [1, 2, 3, 0] rfl ?_
          refine j_loop 21 (fun a => a.1) (fun a => [(0, .ref (d.2.1 0)), (1, .int p1), (2, .int p2), (3, .int a.2)]) (fun s21 hs21 a => ?_) jN (σ, (0 : Int32))
          unfold fX11_been_B21
          refine j_iload_n (pc' := 22) hC 3 dX11_been_21 rfl rfl rfl ?_
          refine j_iconst (pc' := 23) (v := (3 : Int32)) hC dX11_been_22 (by decide) rfl ?_
          refine j_icmp_ge (pc' := 26) (tgt := 61) hC dX11_been_23 (by decide) rfl ?_ ?_
          · exact j_lv (lv' := [(0, .ref (d.2.1 0)), (2, .int p2)]) [0, 2] rfl (hj61 a.1)
          · refine j_aload_n (pc' := 27) hC 0 dX11_been_26 rfl rfl rfl ?_
            refine j_get (pc' := 30) hC ly_X11 (X_at_0 d _) rfl 4 (by decide) fl_X11_43 rfl dX11_been_27 rfl ?_
            refine j_iload_n (pc' := 31) hC 3 dX11_been_30 rfl rfl rfl ?_
            refine j_aald (pc' := 32) hC (X_at_16 d _) dX11_been_31 rfl (fun o4 h_o4 => ?_)
            refine j_callV_v (pc' := 35) (As := []) (st := []) hC (X_ln d _ h_o4) rfl (kX5_form l d A h_o4 _) (jgV ml_X11_178 im_X5_form se_X5_form in_X5 cd_X5_form) rfl rfl rfl hyV_X5_form ⟨Nat.le_of_ble_eq_true rfl, Nat.le_of_ble_eq_true rfl⟩ rfl rfl (Nat.le_of_ble_eq_true rfl) dX11_been_32 rfl (fun q5 => ?_)
            refine j_aload_n (pc' := 36) hC 0 dX11_been_35 rfl rfl rfl ?_
            refine j_get (pc' := 39) hC ly_X11 (X_at_0 d _) rfl 4 (by decide) fl_X11_43 rfl dX11_been_36 rfl ?_
            refine j_iload_n (pc' := 40) hC 3 dX11_been_39 rfl rfl rfl ?_
            refine j_aald (pc' := 41) hC (X_at_16 d _) dX11_been_40 rfl (fun o6 h_o6 => ?_)
            refine j_callV_v (pc' := 44) (As := []) (st := []) hC (X_ln d _ h_o6) rfl (kX5_foresee l d A h_o6 _) (jgV ml_X11_181 im_X5_foresee se_X5_foresee in_X5 cd_X5_foresee) rfl rfl rfl hyV_X5_foresee ⟨Nat.le_of_ble_eq_true rfl, Nat.le_of_ble_eq_true rfl⟩ rfl rfl (Nat.le_of_ble_eq_true rfl) dX11_been_41 rfl (fun q7 => ?_)
            refine j_aload_n (pc' := 45) hC 0 dX11_been_44 rfl rfl rfl ?_
            refine j_get (pc' := 48) hC ly_X11 (X_at_0 d _) rfl 4 (by decide) fl_X11_43 rfl dX11_been_45 rfl ?_
            refine j_iload_n (pc' := 49) hC 3 dX11_been_48 rfl rfl rfl ?_
            refine j_aald (pc' := 50) hC (X_at_16 d _) dX11_been_49 rfl (fun o8 h_o8 => ?_)
            refine j_iload_n (pc' := 51) hC 1 dX11_been_50 rfl rfl rfl ?_
            refine j_null (pc' := 52) hC dX11_been_51 rfl ?_
            refine j_callV_v (pc' := 55) (As := [.int p1, .null]) (st := []) hC (X_ln d _ h_o8) rfl (kX5_spendN l d A h_o8 _ _) (jgV ml_X11_187 im_X5_spend se_X5_spend in_X5 cd_X5_spend) rfl rfl rfl hyV_X5_spend ⟨Nat.le_of_ble_eq_true rfl, Nat.le_of_ble_eq_true rfl⟩ rfl rfl (Nat.le_of_ble_eq_true rfl) dX11_been_52 rfl (fun q9 => ?_)
            refine j_iinc (pc' := 58) (v := (a.2 + (1 : Int32))) (lv' := [(3, .int (a.2 + (1 : Int32))), (0, .ref (d.2.1 0)), (1, .int p1), (2, .int p2)]) hC 3 dX11_been_55 rfl (by decide) rfl rfl rfl ?_
            refine j_goto (tgt := 21) hC dX11_been_58 (by decide) ?_
            exact j_lv (lv' := [(0, .ref (d.2.1 0)), (1, .int p1), (2, .int p2), (3, .int (a.2 + (1 : Int32)))]) [1, 2, 3, 0] rfl (hs21 (q9, (a.2 + (1 : Int32))))
      · refine j_iconst (pc' := 18) (v := (-1 : Int32)) hC dX11_been_17 (by decide) rfl ?_
        exact j_ret_i hC dX11_been_18
theorem hyV_X11_join : yX11_join.cls = RX11 ∧ yX11_join.cls ≠ "java/lang/invoke/MethodHandle" ∧ yX11_join.cls ≠ "java/lang/invoke/VarHandle" ∧ (parseMethodDescriptor yX11_join.desc).map (fun d => d.parameters.length) = some 3 := ⟨rfl, by decide +kernel, by decide +kernel, by decide +kernel⟩
noncomputable def fX11_join_B62 (p1 : Int32) (p2 : Int32) (q3 : Int32) (j146 : (jS × Int32 × Int32 → Option (Int32 × jS))) (s62 : jS × Int32 × Int32 × Int32 → Option (Int32 × jS)) (a : jS × Int32 × Int32 × Int32) : Option (Int32 × jS) :=
  (if (3 : Int32) ≤ a.2.2.2 then (j146 (a.1, a.2.1, a.2.2.1)) else (Option.bind (fX6_setAt a.1 q3 a.2.2.2) fun (q6 : jS) => (jaa a.2.2.2 fun (o7 : Nat) => (Option.bind (fX5_form o7 q6) fun (q8 : jS) => (jaa a.2.2.2 fun (o9 : Nat) => (Option.bind (fX5_foresee o9 q8) fun (q10 : jS) => (jaa a.2.2.2 fun (o11 : Nat) => (Option.bind (fX5_beginOf o11 q10 p2 p1) fun (q12 : Int32) => (jlet (fun (a140 : Int32 × Int32) => (s62 (q10, a140.1, a140.2, (a.2.2.2 + (1 : Int32))))) fun (j140 : (Int32 × Int32 → Option (Int32 × jS))) => (if q12 < 0 then (j140 (a.2.1, a.2.2.1)) else (jlet (fun (a132 : Unit) => (j140 (a.2.2.2, q12))) fun (j132 : (Unit → Option (Int32 × jS))) => (if a.2.1 = (-2 : Int32) then (j132 ()) else (if a.2.2.1 ≤ q12 then (j140 (a.2.1, a.2.2.1)) else (j132 ()))))))))))))))
noncomputable def fX11_join (σ : jS) (p1 : Int32) (p2 : Int32) (p3 : Int32) : Option (Int32 × jS) :=
  (Option.bind (fX11_isBell σ p1) fun (q1 : Int32) => (if (jb q1) = 0 then (some ((-1 : Int32), σ)) else (Option.bind (fX6_isChild σ p2) fun (q2 : Int32) => (if (jb q2) = 0 then (some ((-1 : Int32), σ)) else (if p3 < 0 then (some ((-1 : Int32), σ)) else (if p3 ≤ (1 : Int32) then (Option.bind (fX6_placeOf σ p2 (5 : Int32)) fun (q3 : Int32) => (Option.bind (fX6_valueAt σ q3) fun (q4 : Int32) => (jlet (fun (a146 : jS × Int32 × Int32) => (Option.bind (fX6_setAt a146.1 q3 q4) fun (q5 : jS) => (if p3 = 0 then (some (a146.2.1, q5)) else (some (a146.2.2, q5))))) fun (j146 : (jS × Int32 × Int32 → Option (Int32 × jS))) => (jloop (fX11_join_B62 p1 p2 q3 j146) jN (σ, (-2 : Int32), (-2 : Int32), (0 : Int32)))))) else (some ((-1 : Int32), σ))))))))
set_option maxRecDepth 100000 in
set_option maxHeartbeats 4000000 in
theorem kX11_join (l : Launch) (d : jD) (A : Nat → Prop) (σ : jS) (p1 : Int32) (p2 : Int32) (p3 : Int32) : jMi l yX11_join (jws yX11_join cX11_join 10 (some (.int))) { frames := 8, cells := 0, slots := 0, locals := 277 } d wX A [.ref (d.2.1 0), .int p1, .int p2, .int p3] σ (fX11_join σ p1 p2 p3) := by
  refine jStart_i (lv0 := [(0, .ref (d.2.1 0)), (1, .int p1), (2, .int p2), (3, .int p3)]) (by decide) rfl (Nat.le_of_ble_eq_true rfl) rfl (fun z hC res => ?_)
  unfold fX11_join
  refine j_iload_n (pc' := 1) hC 1 dX11_join_0 rfl rfl rfl ?_
  refine j_callS_zr (pc' := 4) (As := [.int p1]) (st := []) hC (kX11_isBell l d A _ _) (jgS ml_X11_169 st_X11_isBell in_X11 cd_X11_isBell) rfl rfl rfl hyS_X11_isBell ⟨Nat.le_of_ble_eq_true rfl, Nat.le_of_ble_eq_true rfl⟩ rfl rfl (Nat.le_of_ble_eq_true rfl) dX11_join_1 rfl (fun q1 => ?_)
  refine j_if_eq (pc' := 7) (tgt := 27) hC dX11_join_4 (by decide) rfl ?_ ?_
  · refine j_iconst (pc' := 28) (v := (-1 : Int32)) hC dX11_join_27 (by decide) rfl ?_
    exact j_ret_i hC dX11_join_28
  · refine j_aload_n (pc' := 8) hC 0 dX11_join_7 rfl rfl rfl ?_
    refine j_get (pc' := 11) hC ly_X11 (X_at_0 d _) rfl 0 (by decide) fl_X11_10 rfl dX11_join_8 rfl ?_
    refine j_iload_n (pc' := 12) hC 2 dX11_join_11 rfl rfl rfl ?_
    refine j_callV_zr (pc' := 15) (As := [.int p2]) (st := []) hC (X_at_1 d _) rfl (kX6_isChild l d A _ _) (jgV ml_X11_172 im_X6_isChild se_X6_isChild in_X6 cd_X6_isChild) rfl rfl rfl hyV_X6_isChild ⟨Nat.le_of_ble_eq_true rfl, Nat.le_of_ble_eq_true rfl⟩ rfl rfl (Nat.le_of_ble_eq_true rfl) dX11_join_12 rfl (fun q2 => ?_)
    refine j_if_eq (pc' := 18) (tgt := 27) hC dX11_join_15 (by decide) rfl ?_ ?_
    · refine j_iconst (pc' := 28) (v := (-1 : Int32)) hC dX11_join_27 (by decide) rfl ?_
      exact j_ret_i hC dX11_join_28
    · refine j_iload_n (pc' := 19) hC 3 dX11_join_18 rfl rfl rfl ?_
      refine j_if_lt (pc' := 22) (tgt := 27) hC dX11_join_19 (by decide) rfl ?_ ?_
      · refine j_iconst (pc' := 28) (v := (-1 : Int32)) hC dX11_join_27 (by decide) rfl ?_
        exact j_ret_i hC dX11_join_28
      · refine j_iload_n (pc' := 23) hC 3 dX11_join_22 rfl rfl rfl ?_
        refine j_iconst (pc' := 24) (v := (1 : Int32)) hC dX11_join_23 (by decide) rfl ?_
        refine j_icmp_le (pc' := 27) (tgt := 29) hC dX11_join_24 (by decide) rfl ?_ ?_
        · refine j_aload_n (pc' := 30) hC 0 dX11_join_29 rfl rfl rfl ?_
          refine j_get (pc' := 33) hC ly_X11 (X_at_0 d _) rfl 0 (by decide) fl_X11_10 rfl dX11_join_30 rfl ?_
          refine j_iload_n (pc' := 34) hC 2 dX11_join_33 rfl rfl rfl ?_
          refine j_iconst (pc' := 35) (v := (5 : Int32)) hC dX11_join_34 (by decide) rfl ?_
          refine j_callV_ir (pc' := 38) (As := [.int p2, .int (5 : Int32)]) (st := []) hC (X_at_1 d _) rfl (kX6_placeOf l d A _ _ _) (jgV ml_X11_108 im_X6_placeOf se_X6_placeOf in_X6 cd_X6_placeOf) rfl rfl rfl hyV_X6_placeOf ⟨Nat.le_of_ble_eq_true rfl, Nat.le_of_ble_eq_true rfl⟩ rfl rfl (Nat.le_of_ble_eq_true rfl) dX11_join_35 rfl (fun q3 => ?_)
          refine j_istore (pc' := 40) (lv' := [(4, .int q3), (0, .ref (d.2.1 0)), (1, .int p1), (2, .int p2), (3, .int p3)]) hC dX11_join_38 (by decide) rfl rfl ?_
          refine j_aload_n (pc' := 41) hC 1 dX11_join_40 rfl rfl rfl ?_
          refine j_get (pc' := 44) hC ly_X11 (X_at_0 d _) rfl 0 (by decide) fl_X11_10 rfl dX11_join_41 rfl ?_
          refine j_iload (pc' := 46) hC 0 dX11_join_44 rfl rfl ?_
          refine j_callV_ir (pc' := 49) (As := [.int q3]) (st := []) hC (X_at_1 d _) rfl (kX6_valueAt l d A _ _) (jgV ml_X11_115 im_X6_valueAt se_X6_valueAt in_X6 cd_X6_valueAt) rfl rfl rfl hyV_X6_valueAt ⟨Nat.le_of_ble_eq_true rfl, Nat.le_of_ble_eq_true rfl⟩ rfl rfl (Nat.le_of_ble_eq_true rfl) dX11_join_46 rfl (fun q4 => ?_)
          refine j_istore (pc' := 51) (lv' := [(5, .int q4), (4, .int q3), (0, .ref (d.2.1 0)), (1, .int p1), (2, .int p2), (3, .int p3)]) hC dX11_join_49 (by decide) rfl rfl ?_
          refine j_bipush (pc' := 53) (v := (-2 : Int32)) hC dX11_join_51 (by decide) rfl ?_
          refine j_istore (pc' := 55) (lv' := [(6, .int (-2 : Int32)), (5, .int q4), (4, .int q3), (0, .ref (d.2.1 0)), (1, .int p1), (2, .int p2), (3, .int p3)]) hC dX11_join_53 (by decide) rfl rfl ?_
          refine j_bipush (pc' := 57) (v := (-2 : Int32)) hC dX11_join_55 (by decide) rfl ?_
          refine j_istore (pc' := 59) (lv' := [(7, .int (-2 : Int32)), (6, .int (-2 : Int32)), (5, .int q4), (4, .int q3), (0, .ref (d.2.1 0)), (1, .int p1), (2, .int p2), (3, .int p3)]) hC dX11_join_57 (by decide) rfl rfl ?_
          refine j_iconst (pc' := 60) (v := (0 : Int32)) hC dX11_join_59 (by decide) rfl ?_
          refine j_istore (pc' := 62) (lv' := [(8, .int (0 : Int32)), (7, .int (-2 : Int32)), (6, .int (-2 : Int32)), (5, .int q4), (4, .int q3), (0, .ref (d.2.1 0)), (1, .int p1), (2, .int p2), (3, .int p3)]) hC dX11_join_60 (by decide) rfl rfl ?_
          refine j_let 146 (fun a146 => a146.1) (fun a146 => [(0, .ref (d.2.1 0)), (3, .int p3), (4, .int q3), (5, .int q4), (6, .int a146.2.1), (7, .int a146.2.2)]) (fun a146 => []) (fun a146 => ?_) (fun j146 hj146 => ?_)
          · refine j_aload_n (pc' := 147) hC 0 dX11_join_146 rfl rfl rfl ?_
            refine j_get (pc' := 150) hC ly_X11 (X_at_0 d _) rfl 0 (by decide) fl_X11_10 rfl dX11_join_147 rfl ?_
            refine j_iload (pc' := 152) hC 2 dX11_join_150 rfl rfl ?_
            refine j_iload (pc' := 154) hC 3 dX11_join_152 rfl rfl ?_
            refine j_callV_v (pc' := 157) (As := [.int q3, .int q4]) (st := []) hC (X_at_1 d _) rfl (kX6_setAt l d A _ _ _) (jgV ml_X11_159 im_X6_setAt se_X6_setAt in_X6 cd_X6_setAt) rfl rfl rfl hyV_X6_setAt ⟨Nat.le_of_ble_eq_true rfl, Nat.le_of_ble_eq_true rfl⟩ rfl rfl (Nat.le_of_ble_eq_true rfl) dX11_join_154 rfl (fun q5 => ?_)
            refine j_iload_n (pc' := 158) hC 1 dX11_join_157 rfl rfl rfl ?_
            refine j_if_ne (pc' := 161) (tgt := 166) hC dX11_join_158 (by decide) rfl ?_ ?_
            · refine j_iload (pc' := 168) hC 5 dX11_join_166 rfl rfl ?_
              exact j_ret_i hC dX11_join_168
            · refine j_iload (pc' := 163) hC 4 dX11_join_161 rfl rfl ?_
              refine j_goto (tgt := 168) hC dX11_join_163 (by decide) ?_
              exact j_ret_i hC dX11_join_168
          · refine j_lv (lv' := [(0, .ref (d.2.1 0)), (1, .int p1), (2, .int p2), (3, .int p3), (4, .int q3), (5, .int q4), (6, .int (-2 : Int32)), (7, .int (-2 : Int32)), (8, .int (0 : Int32))]) [5, 6, 7, 8, 4, 3, 2, 1, 0] rfl ?_
            refine j_loop 62 (fun a => a.1) (fun a => [(0, .ref (d.2.1 0)), (1, .int p1), (2, .int p2), (3, .int p3), (4, .int q3), (5, .int q4), (6, .int a.2.1), (7, .int a.2.2.1), (8, .int a.2.2.2)]) (fun s62 hs62 a => ?_) jN (σ, (-2 : Int32), (-2 : Int32), (0 : Int32))
            unfold fX11_join_B62
            refine j_iload (pc' := 64) hC 8 dX11_join_62 rfl rfl ?_
            refine j_iconst (pc' := 65) (v := (3 : Int32)) hC dX11_join_64 (by decide) rfl ?_
            refine j_icmp_ge (pc' := 68) (tgt := 146) hC dX11_join_65 (by decide) rfl ?_ ?_
            · exact j_lv (lv' := [(0, .ref (d.2.1 0)), (3, .int p3), (4, .int q3), (5, .int q4), (6, .int a.2.1), (7, .int a.2.2.1)]) [0, 3, 4, 5, 6, 7] rfl (hj146 (a.1, a.2.1, a.2.2.1))
            · refine j_aload_n (pc' := 69) hC 0 dX11_join_68 rfl rfl rfl ?_
              refine j_get (pc' := 72) hC ly_X11 (X_at_0 d _) rfl 0 (by decide) fl_X11_10 rfl dX11_join_69 rfl ?_
              refine j_iload (pc' := 74) hC 4 dX11_join_72 rfl rfl ?_
              refine j_iload (pc' := 76) hC 8 dX11_join_74 rfl rfl ?_
              refine j_callV_v (pc' := 79) (As := [.int q3, .int a.2.2.2]) (st := []) hC (X_at_1 d _) rfl (kX6_setAt l d A _ _ _) (jgV ml_X11_159 im_X6_setAt se_X6_setAt in_X6 cd_X6_setAt) rfl rfl rfl hyV_X6_setAt ⟨Nat.le_of_ble_eq_true rfl, Nat.le_of_ble_eq_true rfl⟩ rfl rfl (Nat.le_of_ble_eq_true rfl) dX11_join_76 rfl (fun q6 => ?_)
              refine j_aload_n (pc' := 80) hC 0 dX11_join_79 rfl rfl rfl ?_
              refine j_get (pc' := 83) hC ly_X11 (X_at_0 d _) rfl 4 (by decide) fl_X11_43 rfl dX11_join_80 rfl ?_
              refine j_iload (pc' := 85) hC 8 dX11_join_83 rfl rfl ?_
              refine j_aald (pc' := 86) hC (X_at_16 d _) dX11_join_85 rfl (fun o7 h_o7 => ?_)
              refine j_callV_v (pc' := 89) (As := []) (st := []) hC (X_ln d _ h_o7) rfl (kX5_form l d A h_o7 _) (jgV ml_X11_178 im_X5_form se_X5_form in_X5 cd_X5_form) rfl rfl rfl hyV_X5_form ⟨Nat.le_of_ble_eq_true rfl, Nat.le_of_ble_eq_true rfl⟩ rfl rfl (Nat.le_of_ble_eq_true rfl) dX11_join_86 rfl (fun q8 => ?_)
              refine j_aload_n (pc' := 90) hC 0 dX11_join_89 rfl rfl rfl ?_
              refine j_get (pc' := 93) hC ly_X11 (X_at_0 d _) rfl 4 (by decide) fl_X11_43 rfl dX11_join_90 rfl ?_
              refine j_iload (pc' := 95) hC 8 dX11_join_93 rfl rfl ?_
              refine j_aald (pc' := 96) hC (X_at_16 d _) dX11_join_95 rfl (fun o9 h_o9 => ?_)
              refine j_callV_v (pc' := 99) (As := []) (st := []) hC (X_ln d _ h_o9) rfl (kX5_foresee l d A h_o9 _) (jgV ml_X11_181 im_X5_foresee se_X5_foresee in_X5 cd_X5_foresee) rfl rfl rfl hyV_X5_foresee ⟨Nat.le_of_ble_eq_true rfl, Nat.le_of_ble_eq_true rfl⟩ rfl rfl (Nat.le_of_ble_eq_true rfl) dX11_join_96 rfl (fun q10 => ?_)
              refine j_aload_n (pc' := 100) hC 0 dX11_join_99 rfl rfl rfl ?_
              refine j_get (pc' := 103) hC ly_X11 (X_at_0 d _) rfl 4 (by decide) fl_X11_43 rfl dX11_join_100 rfl ?_
              refine j_iload (pc' := 105) hC 8 dX11_join_103 rfl rfl ?_
              refine j_aald (pc' := 106) hC (X_at_16 d _) dX11_join_105 rfl (fun o11 h_o11 => ?_)
              refine j_iload_n (pc' := 107) hC 2 dX11_join_106 rfl rfl rfl ?_
              refine j_iload_n (pc' := 108) hC 1 dX11_join_107 rfl rfl rfl ?_
              refine j_callV_ir (pc' := 111) (As := [.int p2, .int p1]) (st := []) hC (X_ln d _ h_o11) rfl (kX5_beginOf l d A h_o11 _ _ _) (jgV ml_X11_184 im_X5_beginOf se_X5_beginOf in_X5 cd_X5_beginOf) rfl rfl rfl hyV_X5_beginOf ⟨Nat.le_of_ble_eq_true rfl, Nat.le_of_ble_eq_true rfl⟩ rfl rfl (Nat.le_of_ble_eq_true rfl) dX11_join_108 rfl (fun q12 => ?_)
              refine j_istore (pc' := 113) (lv' := [(9, .int q12), (0, .ref (d.2.1 0)), (1, .int p1), (2, .int p2), (3, .int p3), (4, .int q3), (5, .int q4), (6, .int a.2.1), (7, .int a.2.2.1), (8, .int a.2.2.2)]) hC dX11_join_111 (by decide) rfl rfl ?_
              refine j_iload (pc' := 115) hC 0 dX11_join_113 rfl rfl ?_
              refine j_let 140 (fun a140 => q10) (fun a140 => [(0, .ref (d.2.1 0)), (1, .int p1), (2, .int p2), (3, .int p3), (4, .int q3), (5, .int q4), (6, .int a140.1), (7, .int a140.2), (8, .int a.2.2.2)]) (fun a140 => []) (fun a140 => ?_) (fun j140 hj140 => ?_)
              · refine j_iinc (pc' := 143) (v := (a.2.2.2 + (1 : Int32))) (lv' := [(8, .int (a.2.2.2 + (1 : Int32))), (0, .ref (d.2.1 0)), (1, .int p1), (2, .int p2), (3, .int p3), (4, .int q3), (5, .int q4), (6, .int a140.1), (7, .int a140.2)]) hC 8 dX11_join_140 rfl (by decide) rfl rfl rfl ?_
                refine j_goto (tgt := 62) hC dX11_join_143 (by decide) ?_
                exact j_lv (lv' := [(0, .ref (d.2.1 0)), (1, .int p1), (2, .int p2), (3, .int p3), (4, .int q3), (5, .int q4), (6, .int a140.1), (7, .int a140.2), (8, .int (a.2.2.2 + (1 : Int32)))]) [1, 2, 3, 4, 5, 6, 7, 8, 0] rfl (hs62 (q10, a140.1, a140.2, (a.2.2.2 + (1 : Int32))))
              · refine j_if_lt (pc' := 118) (tgt := 140) hC dX11_join_115 (by decide) rfl ?_ ?_
                · exact j_lv (lv' := [(0, .ref (d.2.1 0)), (1, .int p1), (2, .int p2), (3, .int p3), (4, .int q3), (5, .int q4), (6, .int a.2.1), (7, .int a.2.2.1), (8, .int a.2.2.2)]) [1, 2, 3, 4, 5, 6, 7, 8, 9] rfl (hj140 (a.2.1, a.2.2.1))
                · refine j_iload (pc' := 120) hC 7 dX11_join_118 rfl rfl ?_
                  refine j_bipush (pc' := 122) (v := (-2 : Int32)) hC dX11_join_120 (by decide) rfl ?_
                  refine j_let 132 (fun a132 => q10) (fun a132 => [(0, .ref (d.2.1 0)), (1, .int p1), (2, .int p2), (3, .int p3), (4, .int q3), (5, .int q4), (8, .int a.2.2.2), (9, .int q12)]) (fun a132 => []) (fun a132 => ?_) (fun j132 hj132 => ?_)
                  · refine j_iload (pc' := 134) hC 6 dX11_join_132 rfl rfl ?_
                    refine j_istore (pc' := 136) (lv' := [(6, .int a.2.2.2), (0, .ref (d.2.1 0)), (1, .int p1), (2, .int p2), (3, .int p3), (4, .int q3), (5, .int q4), (8, .int a.2.2.2), (9, .int q12)]) hC dX11_join_134 (by decide) rfl rfl ?_
                    refine j_iload (pc' := 138) hC 8 dX11_join_136 rfl rfl ?_
                    refine j_istore (pc' := 140) (lv' := [(7, .int q12), (6, .int a.2.2.2), (0, .ref (d.2.1 0)), (1, .int p1), (2, .int p2), (3, .int p3), (4, .int q3), (5, .int q4), (8, .int a.2.2.2), (9, .int q12)]) hC dX11_join_138 (by decide) rfl rfl ?_
                    exact j_lv (lv' := [(0, .ref (d.2.1 0)), (1, .int p1), (2, .int p2), (3, .int p3), (4, .int q3), (5, .int q4), (6, .int a.2.2.2), (7, .int q12), (8, .int a.2.2.2)]) [2, 3, 4, 5, 6, 7, 1, 0, 8] rfl (hj140 (a.2.2.2, q12))
                  · refine j_icmp_eq (pc' := 125) (tgt := 132) hC dX11_join_122 (by decide) rfl ?_ ?_
                    · exact j_lv (lv' := [(0, .ref (d.2.1 0)), (1, .int p1), (2, .int p2), (3, .int p3), (4, .int q3), (5, .int q4), (8, .int a.2.2.2), (9, .int q12)]) [1, 2, 3, 4, 5, 6, 9, 0] rfl (hj132 ())
                    · refine j_iload (pc' := 127) hC 0 dX11_join_125 rfl rfl ?_
                      refine j_iload (pc' := 129) hC 8 dX11_join_127 rfl rfl ?_
                      refine j_icmp_ge (pc' := 132) (tgt := 140) hC dX11_join_129 (by decide) rfl ?_ ?_
                      · exact j_lv (lv' := [(0, .ref (d.2.1 0)), (1, .int p1), (2, .int p2), (3, .int p3), (4, .int q3), (5, .int q4), (6, .int a.2.1), (7, .int a.2.2.1), (8, .int a.2.2.2)]) [1, 2, 3, 4, 5, 6, 7, 8, 9] rfl (hj140 (a.2.1, a.2.2.1))
                      · exact j_lv (lv' := [(0, .ref (d.2.1 0)), (1, .int p1), (2, .int p2), (3, .int p3), (4, .int q3), (5, .int q4), (8, .int a.2.2.2), (9, .int q12)]) [1, 2, 3, 4, 5, 6, 9, 0] rfl (hj132 ())
        · refine j_iconst (pc' := 28) (v := (-1 : Int32)) hC dX11_join_27 (by decide) rfl ?_
          exact j_ret_i hC dX11_join_28
theorem hyV_X11_each : yX11_each.cls = RX11 ∧ yX11_each.cls ≠ "java/lang/invoke/MethodHandle" ∧ yX11_each.cls ≠ "java/lang/invoke/VarHandle" ∧ (parseMethodDescriptor yX11_each.desc).map (fun d => d.parameters.length) = some 1 := ⟨rfl, by decide +kernel, by decide +kernel, by decide +kernel⟩
noncomputable def fX11_each_B66 (p1 : Int32) (j116 : (jS × Int32 → Option (Int32 × jS))) (s66 : jS × Int32 × Int32 → Option (Int32 × jS)) (a_ : jS × Int32 × Int32) : Option (Int32 × jS) :=
  (if (3 : Int32) ≤ a_.2.2 then (j116 (a_.1, a_.2.1)) else (if a_.2.1 = 0 then (j116 (a_.1, a_.2.1)) else (jaa a_.2.2 fun (o6 : Nat) => (Option.bind (fX5_form o6 a_.1) fun (q7 : jS) => (jaa a_.2.2 fun (o8 : Nat) => (Option.bind (fX5_foresee o8 q7) fun (q9 : jS) => (jaa a_.2.2 fun (o10 : Nat) => (Option.bind (fX5_allBegin o10 q9 p1) fun (q11 : Int32) => (s66 (q9, (jb q11), (a_.2.2 + (1 : Int32))))))))))))
noncomputable def fX11_each_B37 (p1 : Int32) (q2 : Int32) (j136 : (jS × Int32 → Option (Int32 × jS))) (s37 : jS × Int32 × Int32 → Option (Int32 × jS)) (a : jS × Int32 × Int32) : Option (Int32 × jS) :=
  (if a.2.2 < (1 : Int32) then (j136 (a.1, a.2.1)) else (if a.2.1 = (-2 : Int32) then (Option.bind (fX6_setAt a.1 q2 a.2.2) fun (q5 : jS) => (jlet (fun (a116 : jS × Int32) => (jlet (fun (a128 : Int32) => (s37 (a116.1, a128, (a.2.2 + (-1 : Int32))))) fun (j128 : (Int32 → Option (Int32 × jS))) => (if a116.2 = 0 then (j128 (-2 : Int32)) else (j128 a.2.2)))) fun (j116 : (jS × Int32 → Option (Int32 × jS))) => (jloop (fX11_each_B66 p1 j116) jN (q5, (1 : Int32), (0 : Int32))))) else (j136 (a.1, a.2.1))))
noncomputable def fX11_each (σ : jS) (p1 : Int32) : Option (Int32 × jS) :=
  (Option.bind (fX11_isBell σ p1) fun (q1 : Int32) => (if (jb q1) = 0 then (some ((-1 : Int32), σ)) else (Option.bind (fX6_placeOf σ (0 : Int32) (8 : Int32)) fun (q2 : Int32) => (Option.bind (fX6_valueAt σ q2) fun (q3 : Int32) => (jlet (fun (a136 : jS × Int32) => (Option.bind (fX6_setAt a136.1 q2 q3) fun (q4 : jS) => (some (a136.2, q4)))) fun (j136 : (jS × Int32 → Option (Int32 × jS))) => (jloop (fX11_each_B37 p1 q2 j136) jN (σ, (-2 : Int32), (30 : Int32))))))))
set_option maxRecDepth 100000 in
set_option maxHeartbeats 4000000 in
theorem kX11_each (l : Launch) (d : jD) (A : Nat → Prop) (σ : jS) (p1 : Int32) : jMi l yX11_each (jws yX11_each cX11_each 8 (some (.int))) { frames := 8, cells := 0, slots := 0, locals := 277 } d wX A [.ref (d.2.1 0), .int p1] σ (fX11_each σ p1) := by
  refine jStart_i (lv0 := [(0, .ref (d.2.1 0)), (1, .int p1)]) (by decide) rfl (Nat.le_of_ble_eq_true rfl) rfl (fun z hC res => ?_)
  unfold fX11_each
  refine j_iload_n (pc' := 1) hC 1 dX11_each_0 rfl rfl rfl ?_
  refine j_callS_zr (pc' := 4) (As := [.int p1]) (st := []) hC (kX11_isBell l d A _ _) (jgS ml_X11_169 st_X11_isBell in_X11 cd_X11_isBell) rfl rfl rfl hyS_X11_isBell ⟨Nat.le_of_ble_eq_true rfl, Nat.le_of_ble_eq_true rfl⟩ rfl rfl (Nat.le_of_ble_eq_true rfl) dX11_each_1 rfl (fun q1 => ?_)
  refine j_if_ne (pc' := 7) (tgt := 9) hC dX11_each_4 (by decide) rfl ?_ ?_
  · refine j_aload_n (pc' := 10) hC 0 dX11_each_9 rfl rfl rfl ?_
    refine j_get (pc' := 13) hC ly_X11 (X_at_0 d _) rfl 0 (by decide) fl_X11_10 rfl dX11_each_10 rfl ?_
    refine j_iconst (pc' := 14) (v := (0 : Int32)) hC dX11_each_13 (by decide) rfl ?_
    refine j_bipush (pc' := 16) (v := (8 : Int32)) hC dX11_each_14 (by decide) rfl ?_
    refine j_callV_ir (pc' := 19) (As := [.int (0 : Int32), .int (8 : Int32)]) (st := []) hC (X_at_1 d _) rfl (kX6_placeOf l d A _ _ _) (jgV ml_X11_108 im_X6_placeOf se_X6_placeOf in_X6 cd_X6_placeOf) rfl rfl rfl hyV_X6_placeOf ⟨Nat.le_of_ble_eq_true rfl, Nat.le_of_ble_eq_true rfl⟩ rfl rfl (Nat.le_of_ble_eq_true rfl) dX11_each_16 rfl (fun q2 => ?_)
    refine j_istore_n (pc' := 20) (lv' := [(2, .int q2), (0, .ref (d.2.1 0)), (1, .int p1)]) hC dX11_each_19 rfl (by decide) rfl rfl ?_
    refine j_aload_n (pc' := 21) hC 1 dX11_each_20 rfl rfl rfl ?_
    refine j_get (pc' := 24) hC ly_X11 (X_at_0 d _) rfl 0 (by decide) fl_X11_10 rfl dX11_each_21 rfl ?_
    refine j_iload_n (pc' := 25) hC 0 dX11_each_24 rfl rfl rfl ?_
    refine j_callV_ir (pc' := 28) (As := [.int q2]) (st := []) hC (X_at_1 d _) rfl (kX6_valueAt l d A _ _) (jgV ml_X11_115 im_X6_valueAt se_X6_valueAt in_X6 cd_X6_valueAt) rfl rfl rfl hyV_X6_valueAt ⟨Nat.le_of_ble_eq_true rfl, Nat.le_of_ble_eq_true rfl⟩ rfl rfl (Nat.le_of_ble_eq_true rfl) dX11_each_25 rfl (fun q3 => ?_)
    refine j_istore_n (pc' := 29) (lv' := [(3, .int q3), (2, .int q2), (0, .ref (d.2.1 0)), (1, .int p1)]) hC dX11_each_28 rfl (by decide) rfl rfl ?_
    refine j_bipush (pc' := 31) (v := (-2 : Int32)) hC dX11_each_29 (by decide) rfl ?_
    refine j_istore (pc' := 33) (lv' := [(4, .int (-2 : Int32)), (3, .int q3), (2, .int q2), (0, .ref (d.2.1 0)), (1, .int p1)]) hC dX11_each_31 (by decide) rfl rfl ?_
    refine j_bipush (pc' := 35) (v := (30 : Int32)) hC dX11_each_33 (by decide) rfl ?_
    refine j_istore (pc' := 37) (lv' := [(5, .int (30 : Int32)), (4, .int (-2 : Int32)), (3, .int q3), (2, .int q2), (0, .ref (d.2.1 0)), (1, .int p1)]) hC dX11_each_35 (by decide) rfl rfl ?_
    refine j_let 136 (fun a136 => a136.1) (fun a136 => [(0, .ref (d.2.1 0)), (2, .int q2), (3, .int q3), (4, .int a136.2)]) (fun a136 => []) (fun a136 => ?_) (fun j136 hj136 => ?_)
    · refine j_aload_n (pc' := 137) hC 0 dX11_each_136 rfl rfl rfl ?_
      refine j_get (pc' := 140) hC ly_X11 (X_at_0 d _) rfl 0 (by decide) fl_X11_10 rfl dX11_each_137 rfl ?_
      refine j_iload_n (pc' := 141) hC 1 dX11_each_140 rfl rfl rfl ?_
      refine j_iload_n (pc' := 142) hC 2 dX11_each_141 rfl rfl rfl ?_
      refine j_callV_v (pc' := 145) (As := [.int q2, .int q3]) (st := []) hC (X_at_1 d _) rfl (kX6_setAt l d A _ _ _) (jgV ml_X11_159 im_X6_setAt se_X6_setAt in_X6 cd_X6_setAt) rfl rfl rfl hyV_X6_setAt ⟨Nat.le_of_ble_eq_true rfl, Nat.le_of_ble_eq_true rfl⟩ rfl rfl (Nat.le_of_ble_eq_true rfl) dX11_each_142 rfl (fun q4 => ?_)
      refine j_iload (pc' := 147) hC 3 dX11_each_145 rfl rfl ?_
      exact j_ret_i hC dX11_each_147
    · refine j_lv (lv' := [(0, .ref (d.2.1 0)), (1, .int p1), (2, .int q2), (3, .int q3), (4, .int (-2 : Int32)), (5, .int (30 : Int32))]) [4, 5, 3, 2, 1, 0] rfl ?_
      refine j_loop 37 (fun a => a.1) (fun a => [(0, .ref (d.2.1 0)), (1, .int p1), (2, .int q2), (3, .int q3), (4, .int a.2.1), (5, .int a.2.2)]) (fun s37 hs37 a => ?_) jN (σ, (-2 : Int32), (30 : Int32))
      unfold fX11_each_B37
      refine j_iload (pc' := 39) hC 5 dX11_each_37 rfl rfl ?_
      refine j_iconst (pc' := 40) (v := (1 : Int32)) hC dX11_each_39 (by decide) rfl ?_
      refine j_icmp_lt (pc' := 43) (tgt := 136) hC dX11_each_40 (by decide) rfl ?_ ?_
      · exact j_lv (lv' := [(0, .ref (d.2.1 0)), (2, .int q2), (3, .int q3), (4, .int a.2.1)]) [0, 2, 3, 4] rfl (hj136 (a.1, a.2.1))
      · refine j_iload (pc' := 45) hC 4 dX11_each_43 rfl rfl ?_
        refine j_bipush (pc' := 47) (v := (-2 : Int32)) hC dX11_each_45 (by decide) rfl ?_
        refine j_icmp_ne (pc' := 50) (tgt := 136) hC dX11_each_47 (by decide) rfl ?_ ?_
        · exact j_lv (lv' := [(0, .ref (d.2.1 0)), (2, .int q2), (3, .int q3), (4, .int a.2.1)]) [0, 2, 3, 4] rfl (hj136 (a.1, a.2.1))
        · refine j_aload_n (pc' := 51) hC 0 dX11_each_50 rfl rfl rfl ?_
          refine j_get (pc' := 54) hC ly_X11 (X_at_0 d _) rfl 0 (by decide) fl_X11_10 rfl dX11_each_51 rfl ?_
          refine j_iload_n (pc' := 55) hC 2 dX11_each_54 rfl rfl rfl ?_
          refine j_iload (pc' := 57) hC 5 dX11_each_55 rfl rfl ?_
          refine j_callV_v (pc' := 60) (As := [.int q2, .int a.2.2]) (st := []) hC (X_at_1 d _) rfl (kX6_setAt l d A _ _ _) (jgV ml_X11_159 im_X6_setAt se_X6_setAt in_X6 cd_X6_setAt) rfl rfl rfl hyV_X6_setAt ⟨Nat.le_of_ble_eq_true rfl, Nat.le_of_ble_eq_true rfl⟩ rfl rfl (Nat.le_of_ble_eq_true rfl) dX11_each_57 rfl (fun q5 => ?_)
          refine j_iconst (pc' := 61) (v := (1 : Int32)) hC dX11_each_60 (by decide) rfl ?_
          refine j_istore (pc' := 63) (lv' := [(6, .int (1 : Int32)), (0, .ref (d.2.1 0)), (1, .int p1), (2, .int q2), (3, .int q3), (4, .int a.2.1), (5, .int a.2.2)]) hC dX11_each_61 (by decide) rfl rfl ?_
          refine j_iconst (pc' := 64) (v := (0 : Int32)) hC dX11_each_63 (by decide) rfl ?_
          refine j_istore (pc' := 66) (lv' := [(7, .int (0 : Int32)), (6, .int (1 : Int32)), (0, .ref (d.2.1 0)), (1, .int p1), (2, .int q2), (3, .int q3), (4, .int a.2.1), (5, .int a.2.2)]) hC dX11_each_64 (by decide) rfl rfl ?_
          refine j_let 116 (fun a116 => a116.1) (fun a116 => [(0, .ref (d.2.1 0)), (1, .int p1), (2, .int q2), (3, .int q3), (5, .int a.2.2), (6, .int a116.2)]) (fun a116 => []) (fun a116 => ?_) (fun j116 hj116 => ?_)
          · refine j_iload (pc' := 118) hC 5 dX11_each_116 rfl rfl ?_
            refine j_let 128 (fun a128 => a116.1) (fun a128 => [(0, .ref (d.2.1 0)), (1, .int p1), (2, .int q2), (3, .int q3), (5, .int a.2.2)]) (fun a128 => [.int a128]) (fun a128 => ?_) (fun j128 hj128 => ?_)
            · refine j_istore (pc' := 130) (lv' := [(4, .int a128), (0, .ref (d.2.1 0)), (1, .int p1), (2, .int q2), (3, .int q3), (5, .int a.2.2)]) hC dX11_each_128 (by decide) rfl rfl ?_
              refine j_iinc (pc' := 133) (v := (a.2.2 + (-1 : Int32))) (lv' := [(5, .int (a.2.2 + (-1 : Int32))), (4, .int a128), (0, .ref (d.2.1 0)), (1, .int p1), (2, .int q2), (3, .int q3)]) hC 5 dX11_each_130 rfl (by decide) rfl rfl rfl ?_
              refine j_goto (tgt := 37) hC dX11_each_133 (by decide) ?_
              exact j_lv (lv' := [(0, .ref (d.2.1 0)), (1, .int p1), (2, .int q2), (3, .int q3), (4, .int a128), (5, .int (a.2.2 + (-1 : Int32)))]) [2, 3, 4, 5, 1, 0] rfl (hs37 (a116.1, a128, (a.2.2 + (-1 : Int32))))
            · refine j_if_eq (pc' := 121) (tgt := 126) hC dX11_each_118 (by decide) rfl ?_ ?_
              · refine j_bipush (pc' := 128) (v := (-2 : Int32)) hC dX11_each_126 (by decide) rfl ?_
                exact j_lv (lv' := [(0, .ref (d.2.1 0)), (1, .int p1), (2, .int q2), (3, .int q3), (5, .int a.2.2)]) [0, 1, 2, 3, 4] rfl (hj128 (-2 : Int32))
              · refine j_iload (pc' := 123) hC 4 dX11_each_121 rfl rfl ?_
                refine j_goto (tgt := 128) hC dX11_each_123 (by decide) ?_
                exact j_lv (lv' := [(0, .ref (d.2.1 0)), (1, .int p1), (2, .int q2), (3, .int q3), (5, .int a.2.2)]) [0, 1, 2, 3, 4] rfl (hj128 a.2.2)
          · refine j_lv (lv' := [(0, .ref (d.2.1 0)), (1, .int p1), (2, .int q2), (3, .int q3), (5, .int a.2.2), (6, .int (1 : Int32)), (7, .int (0 : Int32))]) [2, 3, 4, 5, 7, 1, 0] rfl ?_
            refine j_loop 66 (fun a_ => a_.1) (fun a_ => [(0, .ref (d.2.1 0)), (1, .int p1), (2, .int q2), (3, .int q3), (5, .int a.2.2), (6, .int a_.2.1), (7, .int a_.2.2)]) (fun s66 hs66 a_ => ?_) jN (q5, (1 : Int32), (0 : Int32))
            unfold fX11_each_B66
            refine j_iload (pc' := 68) hC 6 dX11_each_66 rfl rfl ?_
            refine j_iconst (pc' := 69) (v := (3 : Int32)) hC dX11_each_68 (by decide) rfl ?_
            refine j_icmp_ge (pc' := 72) (tgt := 116) hC dX11_each_69 (by decide) rfl ?_ ?_
            · exact j_lv (lv' := [(0, .ref (d.2.1 0)), (1, .int p1), (2, .int q2), (3, .int q3), (5, .int a.2.2), (6, .int a_.2.1)]) [0, 1, 2, 3, 4, 5] rfl (hj116 (a_.1, a_.2.1))
            · refine j_iload (pc' := 74) hC 5 dX11_each_72 rfl rfl ?_
              refine j_if_eq (pc' := 77) (tgt := 116) hC dX11_each_74 (by decide) rfl ?_ ?_
              · exact j_lv (lv' := [(0, .ref (d.2.1 0)), (1, .int p1), (2, .int q2), (3, .int q3), (5, .int a.2.2), (6, .int a_.2.1)]) [0, 1, 2, 3, 4, 5] rfl (hj116 (a_.1, a_.2.1))
              · refine j_aload_n (pc' := 78) hC 0 dX11_each_77 rfl rfl rfl ?_
                refine j_get (pc' := 81) hC ly_X11 (X_at_0 d _) rfl 4 (by decide) fl_X11_43 rfl dX11_each_78 rfl ?_
                refine j_iload (pc' := 83) hC 6 dX11_each_81 rfl rfl ?_
                refine j_aald (pc' := 84) hC (X_at_16 d _) dX11_each_83 rfl (fun o6 h_o6 => ?_)
                refine j_callV_v (pc' := 87) (As := []) (st := []) hC (X_ln d _ h_o6) rfl (kX5_form l d A h_o6 _) (jgV ml_X11_178 im_X5_form se_X5_form in_X5 cd_X5_form) rfl rfl rfl hyV_X5_form ⟨Nat.le_of_ble_eq_true rfl, Nat.le_of_ble_eq_true rfl⟩ rfl rfl (Nat.le_of_ble_eq_true rfl) dX11_each_84 rfl (fun q7 => ?_)
                refine j_aload_n (pc' := 88) hC 0 dX11_each_87 rfl rfl rfl ?_
                refine j_get (pc' := 91) hC ly_X11 (X_at_0 d _) rfl 4 (by decide) fl_X11_43 rfl dX11_each_88 rfl ?_
                refine j_iload (pc' := 93) hC 6 dX11_each_91 rfl rfl ?_
                refine j_aald (pc' := 94) hC (X_at_16 d _) dX11_each_93 rfl (fun o8 h_o8 => ?_)
                refine j_callV_v (pc' := 97) (As := []) (st := []) hC (X_ln d _ h_o8) rfl (kX5_foresee l d A h_o8 _) (jgV ml_X11_181 im_X5_foresee se_X5_foresee in_X5 cd_X5_foresee) rfl rfl rfl hyV_X5_foresee ⟨Nat.le_of_ble_eq_true rfl, Nat.le_of_ble_eq_true rfl⟩ rfl rfl (Nat.le_of_ble_eq_true rfl) dX11_each_94 rfl (fun q9 => ?_)
                refine j_aload_n (pc' := 98) hC 0 dX11_each_97 rfl rfl rfl ?_
                refine j_get (pc' := 101) hC ly_X11 (X_at_0 d _) rfl 4 (by decide) fl_X11_43 rfl dX11_each_98 rfl ?_
                refine j_iload (pc' := 103) hC 6 dX11_each_101 rfl rfl ?_
                refine j_aald (pc' := 104) hC (X_at_16 d _) dX11_each_103 rfl (fun o10 h_o10 => ?_)
                refine j_iload_n (pc' := 105) hC 1 dX11_each_104 rfl rfl rfl ?_
                refine j_callV_zr (pc' := 108) (As := [.int p1]) (st := []) hC (X_ln d _ h_o10) rfl (kX5_allBegin l d A h_o10 _ _) (jgV ml_X11_206 im_X5_allBegin se_X5_allBegin in_X5 cd_X5_allBegin) rfl rfl rfl hyV_X5_allBegin ⟨Nat.le_of_ble_eq_true rfl, Nat.le_of_ble_eq_true rfl⟩ rfl rfl (Nat.le_of_ble_eq_true rfl) dX11_each_105 rfl (fun q11 => ?_)
                refine j_istore (pc' := 110) (lv' := [(6, .int (jb q11)), (0, .ref (d.2.1 0)), (1, .int p1), (2, .int q2), (3, .int q3), (5, .int a.2.2), (7, .int a_.2.2)]) hC dX11_each_108 (by decide) rfl rfl ?_
                refine j_iinc (pc' := 113) (v := (a_.2.2 + (1 : Int32))) (lv' := [(7, .int (a_.2.2 + (1 : Int32))), (6, .int (jb q11)), (0, .ref (d.2.1 0)), (1, .int p1), (2, .int q2), (3, .int q3), (5, .int a.2.2)]) hC 6 dX11_each_110 rfl (by decide) rfl rfl rfl ?_
                refine j_goto (tgt := 66) hC dX11_each_113 (by decide) ?_
                exact j_lv (lv' := [(0, .ref (d.2.1 0)), (1, .int p1), (2, .int q2), (3, .int q3), (5, .int a.2.2), (6, .int (jb q11)), (7, .int (a_.2.2 + (1 : Int32)))]) [2, 3, 4, 5, 6, 1, 0] rfl (hs66 (q9, (jb q11), (a_.2.2 + (1 : Int32))))
  · refine j_iconst (pc' := 8) (v := (-1 : Int32)) hC dX11_each_7 (by decide) rfl ?_
    exact j_ret_i hC dX11_each_8
theorem hyV_X11_order : yX11_order.cls = RX11 ∧ yX11_order.cls ≠ "java/lang/invoke/MethodHandle" ∧ yX11_order.cls ≠ "java/lang/invoke/VarHandle" ∧ (parseMethodDescriptor yX11_order.desc).map (fun d => d.parameters.length) = some 2 := ⟨rfl, by decide +kernel, by decide +kernel, by decide +kernel⟩
noncomputable def fX11_order (σ : jS) (p1 : Int32) (p2 : Int32) : Option (Int32 × jS) :=
  (Option.bind (fX6_isSwing σ p1) fun (q1 : Int32) => (if (jb q1) = 0 then (some ((-1 : Int32), σ)) else (if (-1 : Int32) ≤ p2 then (jaa p1 fun (o2 : Nat) => (Option.bind (fX5_form o2 σ) fun (q3 : jS) => (if p2 < (q3.1 o2 7) then (if (q3.1 o2 7) ≤ (5 : Int32) then (Option.bind (fX7_begin q3 (q3.1 o2 7)) fun (q4 : jS) => (Option.bind (fX5_foreseePairs o2 q4 (5 : Int32)) fun (q5 : jS) => (Option.bind (fX7_seek q5) fun (q6 : jS) => (if 0 ≤ p2 then (Option.bind (fX7_foundAt q6 p2) fun (q7 : Int32) => (Option.bind (fX5_childAt o2 q6 q7) fun (q8 : Int32) => (some (q8, q6)))) else (some ((q6.1 32 4), q6)))))) else (some ((-5 : Int32), q3))) else (some ((-1 : Int32), q3))))) else (some ((-1 : Int32), σ)))))
set_option maxRecDepth 100000 in
set_option maxHeartbeats 4000000 in
theorem kX11_order (l : Launch) (d : jD) (A : Nat → Prop) (σ : jS) (p1 : Int32) (p2 : Int32) : jMi l yX11_order (jws yX11_order cX11_order 4 (some (.int))) { frames := 8, cells := 0, slots := 0, locals := 279 } d wX A [.ref (d.2.1 0), .int p1, .int p2] σ (fX11_order σ p1 p2) := by
  refine jStart_i (lv0 := [(0, .ref (d.2.1 0)), (1, .int p1), (2, .int p2)]) (by decide) rfl (Nat.le_of_ble_eq_true rfl) rfl (fun z hC res => ?_)
  unfold fX11_order
  refine j_aload_n (pc' := 1) hC 0 dX11_order_0 rfl rfl rfl ?_
  refine j_get (pc' := 4) hC ly_X11 (X_at_0 d _) rfl 0 (by decide) fl_X11_10 rfl dX11_order_1 rfl ?_
  refine j_iload_n (pc' := 5) hC 1 dX11_order_4 rfl rfl rfl ?_
  refine j_callV_zr (pc' := 8) (As := [.int p1]) (st := []) hC (X_at_1 d _) rfl (kX6_isSwing l d A _ _) (jgV ml_X11_175 im_X6_isSwing se_X6_isSwing in_X6 cd_X6_isSwing) rfl rfl rfl hyV_X6_isSwing ⟨Nat.le_of_ble_eq_true rfl, Nat.le_of_ble_eq_true rfl⟩ rfl rfl (Nat.le_of_ble_eq_true rfl) dX11_order_5 rfl (fun q1 => ?_)
  refine j_if_eq (pc' := 11) (tgt := 16) hC dX11_order_8 (by decide) rfl ?_ ?_
  · refine j_iconst (pc' := 17) (v := (-1 : Int32)) hC dX11_order_16 (by decide) rfl ?_
    exact j_ret_i hC dX11_order_17
  · refine j_iload_n (pc' := 12) hC 2 dX11_order_11 rfl rfl rfl ?_
    refine j_iconst (pc' := 13) (v := (-1 : Int32)) hC dX11_order_12 (by decide) rfl ?_
    refine j_icmp_ge (pc' := 16) (tgt := 18) hC dX11_order_13 (by decide) rfl ?_ ?_
    · refine j_aload_n (pc' := 19) hC 0 dX11_order_18 rfl rfl rfl ?_
      refine j_get (pc' := 22) hC ly_X11 (X_at_0 d _) rfl 4 (by decide) fl_X11_43 rfl dX11_order_19 rfl ?_
      refine j_iload_n (pc' := 23) hC 1 dX11_order_22 rfl rfl rfl ?_
      refine j_aald (pc' := 24) hC (X_at_16 d _) dX11_order_23 rfl (fun o2 h_o2 => ?_)
      refine j_astore_n (pc' := 25) (lv' := [(3, .ref (d.2.1 o2)), (0, .ref (d.2.1 0)), (1, .int p1), (2, .int p2)]) hC dX11_order_24 rfl (by decide) rfl rfl ?_
      refine j_aload_n (pc' := 26) hC 0 dX11_order_25 rfl rfl rfl ?_
      refine j_callV_v (pc' := 29) (As := []) (st := []) hC (X_ln d _ h_o2) rfl (kX5_form l d A h_o2 _) (jgV ml_X11_178 im_X5_form se_X5_form in_X5 cd_X5_form) rfl rfl rfl hyV_X5_form ⟨Nat.le_of_ble_eq_true rfl, Nat.le_of_ble_eq_true rfl⟩ rfl rfl (Nat.le_of_ble_eq_true rfl) dX11_order_26 rfl (fun q3 => ?_)
      refine j_iload_n (pc' := 30) hC 3 dX11_order_29 rfl rfl rfl ?_
      refine j_aload_n (pc' := 31) hC 0 dX11_order_30 rfl rfl rfl ?_
      refine j_get (pc' := 34) hC ly_X5 (X_ln d _ h_o2) rfl 7 (by decide) fl_X11_209 rfl dX11_order_31 rfl ?_
      refine j_icmp_lt (pc' := 37) (tgt := 39) hC dX11_order_34 (by decide) rfl ?_ ?_
      · refine j_aload_n (pc' := 40) hC 0 dX11_order_39 rfl rfl rfl ?_
        refine j_get (pc' := 43) hC ly_X5 (X_ln d _ h_o2) rfl 7 (by decide) fl_X11_209 rfl dX11_order_40 rfl ?_
        refine j_iconst (pc' := 44) (v := (5 : Int32)) hC dX11_order_43 (by decide) rfl ?_
        refine j_icmp_le (pc' := 47) (tgt := 50) hC dX11_order_44 (by decide) rfl ?_ ?_
        · refine j_aload_n (pc' := 51) hC 1 dX11_order_50 rfl rfl rfl ?_
          refine j_get (pc' := 54) hC ly_X11 (X_at_0 d _) rfl 5 (by decide) fl_X11_53 rfl dX11_order_51 rfl ?_
          refine j_aload_n (pc' := 55) hC 0 dX11_order_54 rfl rfl rfl ?_
          refine j_get (pc' := 58) hC ly_X5 (X_ln d _ h_o2) rfl 7 (by decide) fl_X11_209 rfl dX11_order_55 rfl ?_
          refine j_callV_v (pc' := 61) (As := [.int (q3.1 o2 7)]) (st := []) hC (X_at_32 d _) rfl (kX7_begin l d A _ _) (jgV ml_X11_212 im_X7_begin se_X7_begin in_X7 cd_X7_begin) rfl rfl rfl hyV_X7_begin ⟨Nat.le_of_ble_eq_true rfl, Nat.le_of_ble_eq_true rfl⟩ rfl rfl (Nat.le_of_ble_eq_true rfl) dX11_order_58 rfl (fun q4 => ?_)
          refine j_aload_n (pc' := 62) hC 0 dX11_order_61 rfl rfl rfl ?_
          refine j_aload_n (pc' := 63) hC 1 dX11_order_62 rfl rfl rfl ?_
          refine j_get (pc' := 66) hC ly_X11 (X_at_0 d _) rfl 5 (by decide) fl_X11_53 rfl dX11_order_63 rfl ?_
          refine j_get (pc' := 69) hC ly_X7 (X_at_32 d _) rfl 0 (by decide) fl_X11_216 rfl dX11_order_66 rfl ?_
          refine j_iconst (pc' := 70) (v := (5 : Int32)) hC dX11_order_69 (by decide) rfl ?_
          refine j_callV_v (pc' := 73) (As := [.ref (d.2.1 33), .int (5 : Int32)]) (st := []) hC (X_ln d _ h_o2) rfl (kX5_foreseePairs l d A h_o2 _ _) (jgV ml_X11_220 im_X5_foreseePairs se_X5_foreseePairs in_X5 cd_X5_foreseePairs) rfl rfl rfl hyV_X5_foreseePairs ⟨Nat.le_of_ble_eq_true rfl, Nat.le_of_ble_eq_true rfl⟩ rfl rfl (Nat.le_of_ble_eq_true rfl) dX11_order_70 rfl (fun q5 => ?_)
          refine j_aload_n (pc' := 74) hC 1 dX11_order_73 rfl rfl rfl ?_
          refine j_get (pc' := 77) hC ly_X11 (X_at_0 d _) rfl 5 (by decide) fl_X11_53 rfl dX11_order_74 rfl ?_
          refine j_callV_v (pc' := 80) (As := []) (st := []) hC (X_at_32 d _) rfl (kX7_seek l d A _) (jgV ml_X11_224 im_X7_seek se_X7_seek in_X7 cd_X7_seek) rfl rfl rfl hyV_X7_seek ⟨Nat.le_of_ble_eq_true rfl, Nat.le_of_ble_eq_true rfl⟩ rfl rfl (Nat.le_of_ble_eq_true rfl) dX11_order_77 rfl (fun q6 => ?_)
          refine j_iload_n (pc' := 81) hC 3 dX11_order_80 rfl rfl rfl ?_
          refine j_if_ge (pc' := 84) (tgt := 94) hC dX11_order_81 (by decide) rfl ?_ ?_
          · refine j_aload_n (pc' := 95) hC 0 dX11_order_94 rfl rfl rfl ?_
            refine j_aload_n (pc' := 96) hC 1 dX11_order_95 rfl rfl rfl ?_
            refine j_get (pc' := 99) hC ly_X11 (X_at_0 d _) rfl 5 (by decide) fl_X11_53 rfl dX11_order_96 rfl ?_
            refine j_iload_n (pc' := 100) hC 3 dX11_order_99 rfl rfl rfl ?_
            refine j_callV_ir (pc' := 103) (As := [.int p2]) (st := [.ref (d.2.1 o2)]) hC (X_at_32 d _) rfl (kX7_foundAt l d A _ _) (jgV ml_X11_230 im_X7_foundAt se_X7_foundAt in_X7 cd_X7_foundAt) rfl rfl rfl hyV_X7_foundAt ⟨Nat.le_of_ble_eq_true rfl, Nat.le_of_ble_eq_true rfl⟩ rfl rfl (Nat.le_of_ble_eq_true rfl) dX11_order_100 rfl (fun q7 => ?_)
            refine j_callV_ir (pc' := 106) (As := [.int q7]) (st := []) hC (X_ln d _ h_o2) rfl (kX5_childAt l d A h_o2 _ _) (jgV ml_X11_233 im_X5_childAt se_X5_childAt in_X5 cd_X5_childAt) rfl rfl rfl hyV_X5_childAt ⟨Nat.le_of_ble_eq_true rfl, Nat.le_of_ble_eq_true rfl⟩ rfl rfl (Nat.le_of_ble_eq_true rfl) dX11_order_103 rfl (fun q8 => ?_)
            exact j_ret_i hC dX11_order_106
          · refine j_aload_n (pc' := 85) hC 1 dX11_order_84 rfl rfl rfl ?_
            refine j_get (pc' := 88) hC ly_X11 (X_at_0 d _) rfl 5 (by decide) fl_X11_53 rfl dX11_order_85 rfl ?_
            refine j_get (pc' := 91) hC ly_X7 (X_at_32 d _) rfl 4 (by decide) fl_X11_227 rfl dX11_order_88 rfl ?_
            refine j_goto (tgt := 106) hC dX11_order_91 (by decide) ?_
            exact j_ret_i hC dX11_order_106
        · refine j_bipush (pc' := 49) (v := (-5 : Int32)) hC dX11_order_47 (by decide) rfl ?_
          exact j_ret_i hC dX11_order_49
      · refine j_iconst (pc' := 38) (v := (-1 : Int32)) hC dX11_order_37 (by decide) rfl ?_
        exact j_ret_i hC dX11_order_38
    · refine j_iconst (pc' := 17) (v := (-1 : Int32)) hC dX11_order_16 (by decide) rfl ?_
      exact j_ret_i hC dX11_order_17
theorem hyV_X11_held : yX11_held.cls = RX11 ∧ yX11_held.cls ≠ "java/lang/invoke/MethodHandle" ∧ yX11_held.cls ≠ "java/lang/invoke/VarHandle" ∧ (parseMethodDescriptor yX11_held.desc).map (fun d => d.parameters.length) = some 2 := ⟨rfl, by decide +kernel, by decide +kernel, by decide +kernel⟩
noncomputable def fX11_held (σ : jS) (p1 : Int32) (p2 : Int32) : Option (Int32 × jS) :=
  (Option.bind (fX11_isBell σ p1) fun (q1 : Int32) => (if (jb q1) = 0 then (some ((-1 : Int32), σ)) else (if p2 < 0 then (some ((-1 : Int32), σ)) else (Option.bind (fX6_isChild σ (p2 / (10 : Int32))) fun (q2 : Int32) => (if (jb q2) = 0 then (some ((-1 : Int32), σ)) else (Option.bind (fX6_valueOf σ (p2 / (10 : Int32)) (5 : Int32)) fun (q3 : Int32) => (Option.bind (fX6_isSwing σ q3) fun (q4 : Int32) => (if (jb q4) = 0 then (some ((-5 : Int32), σ)) else (jaa q3 fun (o5 : Nat) => (Option.bind (fX5_form o5 σ) fun (q6 : jS) => (jaa q3 fun (o7 : Nat) => (Option.bind (fX5_oftenWhileHeld o7 q6 (p2 / (10 : Int32)) (p2 - p2 / (10 : Int32) * (10 : Int32)) p1) fun (q8 : (Int32 × jS)) => (some (q8.1, q8.2))))))))))))))
set_option maxRecDepth 100000 in
set_option maxHeartbeats 4000000 in
theorem kX11_held (l : Launch) (d : jD) (A : Nat → Prop) (σ : jS) (p1 : Int32) (p2 : Int32) : jMi l yX11_held (jws yX11_held cX11_held 5 (some (.int))) { frames := 8, cells := 0, slots := 0, locals := 286 } d wX A [.ref (d.2.1 0), .int p1, .int p2] σ (fX11_held σ p1 p2) := by
  refine jStart_i (lv0 := [(0, .ref (d.2.1 0)), (1, .int p1), (2, .int p2)]) (by decide) rfl (Nat.le_of_ble_eq_true rfl) rfl (fun z hC res => ?_)
  unfold fX11_held
  refine j_iload_n (pc' := 1) hC 2 dX11_held_0 rfl rfl rfl ?_
  refine j_bipush (pc' := 3) (v := (10 : Int32)) hC dX11_held_1 (by decide) rfl ?_
  refine j_idiv0 (pc' := 4) hC dX11_held_3 (by decide) rfl ?_
  refine j_istore_n (pc' := 5) (lv' := [(3, .int (p2 / (10 : Int32))), (0, .ref (d.2.1 0)), (1, .int p1), (2, .int p2)]) hC dX11_held_4 rfl (by decide) rfl rfl ?_
  refine j_iload_n (pc' := 6) hC 2 dX11_held_5 rfl rfl rfl ?_
  refine j_callS_zr (pc' := 9) (As := [.int p1]) (st := []) hC (kX11_isBell l d A _ _) (jgS ml_X11_169 st_X11_isBell in_X11 cd_X11_isBell) rfl rfl rfl hyS_X11_isBell ⟨Nat.le_of_ble_eq_true rfl, Nat.le_of_ble_eq_true rfl⟩ rfl rfl (Nat.le_of_ble_eq_true rfl) dX11_held_6 rfl (fun q1 => ?_)
  refine j_if_eq (pc' := 12) (tgt := 27) hC dX11_held_9 (by decide) rfl ?_ ?_
  · refine j_iconst (pc' := 28) (v := (-1 : Int32)) hC dX11_held_27 (by decide) rfl ?_
    exact j_ret_i hC dX11_held_28
  · refine j_iload_n (pc' := 13) hC 3 dX11_held_12 rfl rfl rfl ?_
    refine j_if_lt (pc' := 16) (tgt := 27) hC dX11_held_13 (by decide) rfl ?_ ?_
    · refine j_iconst (pc' := 28) (v := (-1 : Int32)) hC dX11_held_27 (by decide) rfl ?_
      exact j_ret_i hC dX11_held_28
    · refine j_aload_n (pc' := 17) hC 1 dX11_held_16 rfl rfl rfl ?_
      refine j_get (pc' := 20) hC ly_X11 (X_at_0 d _) rfl 0 (by decide) fl_X11_10 rfl dX11_held_17 rfl ?_
      refine j_iload_n (pc' := 21) hC 0 dX11_held_20 rfl rfl rfl ?_
      refine j_callV_zr (pc' := 24) (As := [.int (p2 / (10 : Int32))]) (st := []) hC (X_at_1 d _) rfl (kX6_isChild l d A _ _) (jgV ml_X11_172 im_X6_isChild se_X6_isChild in_X6 cd_X6_isChild) rfl rfl rfl hyV_X6_isChild ⟨Nat.le_of_ble_eq_true rfl, Nat.le_of_ble_eq_true rfl⟩ rfl rfl (Nat.le_of_ble_eq_true rfl) dX11_held_21 rfl (fun q2 => ?_)
      refine j_if_ne (pc' := 27) (tgt := 29) hC dX11_held_24 (by decide) rfl ?_ ?_
      · refine j_aload_n (pc' := 30) hC 1 dX11_held_29 rfl rfl rfl ?_
        refine j_get (pc' := 33) hC ly_X11 (X_at_0 d _) rfl 0 (by decide) fl_X11_10 rfl dX11_held_30 rfl ?_
        refine j_iload_n (pc' := 34) hC 0 dX11_held_33 rfl rfl rfl ?_
        refine j_iconst (pc' := 35) (v := (5 : Int32)) hC dX11_held_34 (by decide) rfl ?_
        refine j_callV_ir (pc' := 38) (As := [.int (p2 / (10 : Int32)), .int (5 : Int32)]) (st := []) hC (X_at_1 d _) rfl (kX6_valueOf l d A _ _ _) (jgV ml_X11_166 im_X6_valueOf se_X6_valueOf in_X6 cd_X6_valueOf) rfl rfl rfl hyV_X6_valueOf ⟨Nat.le_of_ble_eq_true rfl, Nat.le_of_ble_eq_true rfl⟩ rfl rfl (Nat.le_of_ble_eq_true rfl) dX11_held_35 rfl (fun q3 => ?_)
        refine j_istore (pc' := 40) (lv' := [(4, .int q3), (3, .int (p2 / (10 : Int32))), (0, .ref (d.2.1 0)), (1, .int p1), (2, .int p2)]) hC dX11_held_38 (by decide) rfl rfl ?_
        refine j_aload_n (pc' := 41) hC 2 dX11_held_40 rfl rfl rfl ?_
        refine j_get (pc' := 44) hC ly_X11 (X_at_0 d _) rfl 0 (by decide) fl_X11_10 rfl dX11_held_41 rfl ?_
        refine j_iload (pc' := 46) hC 0 dX11_held_44 rfl rfl ?_
        refine j_callV_zr (pc' := 49) (As := [.int q3]) (st := []) hC (X_at_1 d _) rfl (kX6_isSwing l d A _ _) (jgV ml_X11_175 im_X6_isSwing se_X6_isSwing in_X6 cd_X6_isSwing) rfl rfl rfl hyV_X6_isSwing ⟨Nat.le_of_ble_eq_true rfl, Nat.le_of_ble_eq_true rfl⟩ rfl rfl (Nat.le_of_ble_eq_true rfl) dX11_held_46 rfl (fun q4 => ?_)
        refine j_if_ne (pc' := 52) (tgt := 55) hC dX11_held_49 (by decide) rfl ?_ ?_
        · refine j_aload_n (pc' := 56) hC 2 dX11_held_55 rfl rfl rfl ?_
          refine j_get (pc' := 59) hC ly_X11 (X_at_0 d _) rfl 4 (by decide) fl_X11_43 rfl dX11_held_56 rfl ?_
          refine j_iload (pc' := 61) hC 0 dX11_held_59 rfl rfl ?_
          refine j_aald (pc' := 62) hC (X_at_16 d _) dX11_held_61 rfl (fun o5 h_o5 => ?_)
          refine j_callV_v (pc' := 65) (As := []) (st := []) hC (X_ln d _ h_o5) rfl (kX5_form l d A h_o5 _) (jgV ml_X11_178 im_X5_form se_X5_form in_X5 cd_X5_form) rfl rfl rfl hyV_X5_form ⟨Nat.le_of_ble_eq_true rfl, Nat.le_of_ble_eq_true rfl⟩ rfl rfl (Nat.le_of_ble_eq_true rfl) dX11_held_62 rfl (fun q6 => ?_)
          refine j_aload_n (pc' := 66) hC 2 dX11_held_65 rfl rfl rfl ?_
          refine j_get (pc' := 69) hC ly_X11 (X_at_0 d _) rfl 4 (by decide) fl_X11_43 rfl dX11_held_66 rfl ?_
          refine j_iload (pc' := 71) hC 0 dX11_held_69 rfl rfl ?_
          refine j_aald (pc' := 72) hC (X_at_16 d _) dX11_held_71 rfl (fun o7 h_o7 => ?_)
          refine j_iload_n (pc' := 73) hC 1 dX11_held_72 rfl rfl rfl ?_
          refine j_iload_n (pc' := 74) hC 4 dX11_held_73 rfl rfl rfl ?_
          refine j_bipush (pc' := 76) (v := (10 : Int32)) hC dX11_held_74 (by decide) rfl ?_
          refine j_irem0 (pc' := 77) hC dX11_held_76 (by decide) rfl ?_
          refine j_iload_n (pc' := 78) hC 3 dX11_held_77 rfl rfl rfl ?_
          refine j_callV_i (pc' := 81) (As := [.int (p2 / (10 : Int32)), .int (p2 - p2 / (10 : Int32) * (10 : Int32)), .int p1]) (st := []) hC (X_ln d _ h_o7) rfl (kX5_oftenWhileHeld l d A h_o7 _ _ _ _) (jgV ml_X11_236 im_X5_oftenWhileHeld se_X5_oftenWhileHeld in_X5 cd_X5_oftenWhileHeld) rfl rfl rfl hyV_X5_oftenWhileHeld ⟨Nat.le_of_ble_eq_true rfl, Nat.le_of_ble_eq_true rfl⟩ rfl rfl (Nat.le_of_ble_eq_true rfl) dX11_held_78 rfl (fun q8 => ?_)
          exact j_ret_i hC dX11_held_81
        · refine j_bipush (pc' := 54) (v := (-5 : Int32)) hC dX11_held_52 (by decide) rfl ?_
          exact j_ret_i hC dX11_held_54
      · refine j_iconst (pc' := 28) (v := (-1 : Int32)) hC dX11_held_27 (by decide) rfl ?_
        exact j_ret_i hC dX11_held_28
theorem hyV_X11_trade : yX11_trade.cls = RX11 ∧ yX11_trade.cls ≠ "java/lang/invoke/MethodHandle" ∧ yX11_trade.cls ≠ "java/lang/invoke/VarHandle" ∧ (parseMethodDescriptor yX11_trade.desc).map (fun d => d.parameters.length) = some 2 := ⟨rfl, by decide +kernel, by decide +kernel, by decide +kernel⟩
noncomputable def fX11_trade (σ : jS) (p1 : Int32) (p2 : Int32) : Option (Int32 × jS) :=
  (Option.bind (fX11_isBell σ p1) fun (q1 : Int32) => (if (jb q1) = 0 then (some ((-2000000000 : Int32), σ)) else (if p2 < 0 then (some ((-2000000000 : Int32), σ)) else (if (p2 / (10 : Int32)) = (p2 - p2 / (10 : Int32) * (10 : Int32)) then (some ((-2000000000 : Int32), σ)) else (Option.bind (fX6_isChild σ (p2 / (10 : Int32))) fun (q2 : Int32) => (if (jb q2) = 0 then (some ((-2000000000 : Int32), σ)) else (Option.bind (fX6_isChild σ (p2 - p2 / (10 : Int32) * (10 : Int32))) fun (q3 : Int32) => (if (jb q3) = 0 then (some ((-2000000000 : Int32), σ)) else (Option.bind (fX6_valueOf σ (p2 / (10 : Int32)) (5 : Int32)) fun (q4 : Int32) => (Option.bind (fX6_isSwing σ q4) fun (q5 : Int32) => (if (jb q5) = 0 then (some ((-5 : Int32), σ)) else (Option.bind (fX6_valueOf σ (p2 - p2 / (10 : Int32) * (10 : Int32)) (5 : Int32)) fun (q6 : Int32) => (if q6 = q4 then (jaa q4 fun (o7 : Nat) => (Option.bind (fX5_form o7 σ) fun (q8 : jS) => (Option.bind (fX5_foresee o7 q8) fun (q9 : jS) => (Option.bind (fX5_beginOf o7 q9 (p2 / (10 : Int32)) p1) fun (q10 : Int32) => (Option.bind (fX5_swap o7 q9 (p2 / (10 : Int32)) (p2 - p2 / (10 : Int32) * (10 : Int32))) fun (q11 : jS) => (Option.bind (fX5_foresee o7 q11) fun (q12 : jS) => (Option.bind (fX5_beginOf o7 q12 (p2 / (10 : Int32)) p1) fun (q13 : Int32) => (if q10 < 0 then (some ((-2 : Int32), q12)) else (if 0 ≤ q13 then (some ((q10 - q13), q12)) else (some ((-2 : Int32), q12))))))))))) else (some ((-5 : Int32), σ)))))))))))))))
set_option maxRecDepth 100000 in
set_option maxHeartbeats 4000000 in
theorem kX11_trade (l : Launch) (d : jD) (A : Nat → Prop) (σ : jS) (p1 : Int32) (p2 : Int32) : jMi l yX11_trade (jws yX11_trade cX11_trade 9 (some (.int))) { frames := 8, cells := 0, slots := 0, locals := 277 } d wX A [.ref (d.2.1 0), .int p1, .int p2] σ (fX11_trade σ p1 p2) := by
  refine jStart_i (lv0 := [(0, .ref (d.2.1 0)), (1, .int p1), (2, .int p2)]) (by decide) rfl (Nat.le_of_ble_eq_true rfl) rfl (fun z hC res => ?_)
  unfold fX11_trade
  refine j_iload_n (pc' := 1) hC 2 dX11_trade_0 rfl rfl rfl ?_
  refine j_bipush (pc' := 3) (v := (10 : Int32)) hC dX11_trade_1 (by decide) rfl ?_
  refine j_idiv0 (pc' := 4) hC dX11_trade_3 (by decide) rfl ?_
  refine j_istore_n (pc' := 5) (lv' := [(3, .int (p2 / (10 : Int32))), (0, .ref (d.2.1 0)), (1, .int p1), (2, .int p2)]) hC dX11_trade_4 rfl (by decide) rfl rfl ?_
  refine j_iload_n (pc' := 6) hC 3 dX11_trade_5 rfl rfl rfl ?_
  refine j_bipush (pc' := 8) (v := (10 : Int32)) hC dX11_trade_6 (by decide) rfl ?_
  refine j_irem0 (pc' := 9) hC dX11_trade_8 (by decide) rfl ?_
  refine j_istore (pc' := 11) (lv' := [(4, .int (p2 - p2 / (10 : Int32) * (10 : Int32))), (3, .int (p2 / (10 : Int32))), (0, .ref (d.2.1 0)), (1, .int p1), (2, .int p2)]) hC dX11_trade_9 (by decide) rfl rfl ?_
  refine j_iload_n (pc' := 12) hC 3 dX11_trade_11 rfl rfl rfl ?_
  refine j_callS_zr (pc' := 15) (As := [.int p1]) (st := []) hC (kX11_isBell l d A _ _) (jgS ml_X11_169 st_X11_isBell in_X11 cd_X11_isBell) rfl rfl rfl hyS_X11_isBell ⟨Nat.le_of_ble_eq_true rfl, Nat.le_of_ble_eq_true rfl⟩ rfl rfl (Nat.le_of_ble_eq_true rfl) dX11_trade_12 rfl (fun q1 => ?_)
  refine j_if_eq (pc' := 18) (tgt := 51) hC dX11_trade_15 (by decide) rfl ?_ ?_
  · refine j_ldc (pc' := 53) (v := (-2000000000 : Int32)) hC dX11_trade_51 ct_X11_165 rfl ?_
    exact j_ret_i hC dX11_trade_53
  · refine j_iload_n (pc' := 19) hC 4 dX11_trade_18 rfl rfl rfl ?_
    refine j_if_lt (pc' := 22) (tgt := 51) hC dX11_trade_19 (by decide) rfl ?_ ?_
    · refine j_ldc (pc' := 53) (v := (-2000000000 : Int32)) hC dX11_trade_51 ct_X11_165 rfl ?_
      exact j_ret_i hC dX11_trade_53
    · refine j_iload_n (pc' := 23) hC 1 dX11_trade_22 rfl rfl rfl ?_
      refine j_iload (pc' := 25) hC 0 dX11_trade_23 rfl rfl ?_
      refine j_icmp_eq (pc' := 28) (tgt := 51) hC dX11_trade_25 (by decide) rfl ?_ ?_
      · refine j_ldc (pc' := 53) (v := (-2000000000 : Int32)) hC dX11_trade_51 ct_X11_165 rfl ?_
        exact j_ret_i hC dX11_trade_53
      · refine j_aload_n (pc' := 29) hC 2 dX11_trade_28 rfl rfl rfl ?_
        refine j_get (pc' := 32) hC ly_X11 (X_at_0 d _) rfl 0 (by decide) fl_X11_10 rfl dX11_trade_29 rfl ?_
        refine j_iload_n (pc' := 33) hC 1 dX11_trade_32 rfl rfl rfl ?_
        refine j_callV_zr (pc' := 36) (As := [.int (p2 / (10 : Int32))]) (st := []) hC (X_at_1 d _) rfl (kX6_isChild l d A _ _) (jgV ml_X11_172 im_X6_isChild se_X6_isChild in_X6 cd_X6_isChild) rfl rfl rfl hyV_X6_isChild ⟨Nat.le_of_ble_eq_true rfl, Nat.le_of_ble_eq_true rfl⟩ rfl rfl (Nat.le_of_ble_eq_true rfl) dX11_trade_33 rfl (fun q2 => ?_)
        refine j_if_eq (pc' := 39) (tgt := 51) hC dX11_trade_36 (by decide) rfl ?_ ?_
        · refine j_ldc (pc' := 53) (v := (-2000000000 : Int32)) hC dX11_trade_51 ct_X11_165 rfl ?_
          exact j_ret_i hC dX11_trade_53
        · refine j_aload_n (pc' := 40) hC 2 dX11_trade_39 rfl rfl rfl ?_
          refine j_get (pc' := 43) hC ly_X11 (X_at_0 d _) rfl 0 (by decide) fl_X11_10 rfl dX11_trade_40 rfl ?_
          refine j_iload (pc' := 45) hC 0 dX11_trade_43 rfl rfl ?_
          refine j_callV_zr (pc' := 48) (As := [.int (p2 - p2 / (10 : Int32) * (10 : Int32))]) (st := []) hC (X_at_1 d _) rfl (kX6_isChild l d A _ _) (jgV ml_X11_172 im_X6_isChild se_X6_isChild in_X6 cd_X6_isChild) rfl rfl rfl hyV_X6_isChild ⟨Nat.le_of_ble_eq_true rfl, Nat.le_of_ble_eq_true rfl⟩ rfl rfl (Nat.le_of_ble_eq_true rfl) dX11_trade_45 rfl (fun q3 => ?_)
          refine j_if_ne (pc' := 51) (tgt := 54) hC dX11_trade_48 (by decide) rfl ?_ ?_
          · refine j_aload_n (pc' := 55) hC 2 dX11_trade_54 rfl rfl rfl ?_
            refine j_get (pc' := 58) hC ly_X11 (X_at_0 d _) rfl 0 (by decide) fl_X11_10 rfl dX11_trade_55 rfl ?_
            refine j_iload_n (pc' := 59) hC 1 dX11_trade_58 rfl rfl rfl ?_
            refine j_iconst (pc' := 60) (v := (5 : Int32)) hC dX11_trade_59 (by decide) rfl ?_
            refine j_callV_ir (pc' := 63) (As := [.int (p2 / (10 : Int32)), .int (5 : Int32)]) (st := []) hC (X_at_1 d _) rfl (kX6_valueOf l d A _ _ _) (jgV ml_X11_166 im_X6_valueOf se_X6_valueOf in_X6 cd_X6_valueOf) rfl rfl rfl hyV_X6_valueOf ⟨Nat.le_of_ble_eq_true rfl, Nat.le_of_ble_eq_true rfl⟩ rfl rfl (Nat.le_of_ble_eq_true rfl) dX11_trade_60 rfl (fun q4 => ?_)
            refine j_istore (pc' := 65) (lv' := [(5, .int q4), (4, .int (p2 - p2 / (10 : Int32) * (10 : Int32))), (3, .int (p2 / (10 : Int32))), (0, .ref (d.2.1 0)), (1, .int p1), (2, .int p2)]) hC dX11_trade_63 (by decide) rfl rfl ?_
            refine j_aload_n (pc' := 66) hC 3 dX11_trade_65 rfl rfl rfl ?_
            refine j_get (pc' := 69) hC ly_X11 (X_at_0 d _) rfl 0 (by decide) fl_X11_10 rfl dX11_trade_66 rfl ?_
            refine j_iload (pc' := 71) hC 0 dX11_trade_69 rfl rfl ?_
            refine j_callV_zr (pc' := 74) (As := [.int q4]) (st := []) hC (X_at_1 d _) rfl (kX6_isSwing l d A _ _) (jgV ml_X11_175 im_X6_isSwing se_X6_isSwing in_X6 cd_X6_isSwing) rfl rfl rfl hyV_X6_isSwing ⟨Nat.le_of_ble_eq_true rfl, Nat.le_of_ble_eq_true rfl⟩ rfl rfl (Nat.le_of_ble_eq_true rfl) dX11_trade_71 rfl (fun q5 => ?_)
            refine j_if_eq (pc' := 77) (tgt := 92) hC dX11_trade_74 (by decide) rfl ?_ ?_
            · refine j_bipush (pc' := 94) (v := (-5 : Int32)) hC dX11_trade_92 (by decide) rfl ?_
              exact j_ret_i hC dX11_trade_94
            · refine j_aload_n (pc' := 78) hC 3 dX11_trade_77 rfl rfl rfl ?_
              refine j_get (pc' := 81) hC ly_X11 (X_at_0 d _) rfl 0 (by decide) fl_X11_10 rfl dX11_trade_78 rfl ?_
              refine j_iload (pc' := 83) hC 1 dX11_trade_81 rfl rfl ?_
              refine j_iconst (pc' := 84) (v := (5 : Int32)) hC dX11_trade_83 (by decide) rfl ?_
              refine j_callV_ir (pc' := 87) (As := [.int (p2 - p2 / (10 : Int32) * (10 : Int32)), .int (5 : Int32)]) (st := []) hC (X_at_1 d _) rfl (kX6_valueOf l d A _ _ _) (jgV ml_X11_166 im_X6_valueOf se_X6_valueOf in_X6 cd_X6_valueOf) rfl rfl rfl hyV_X6_valueOf ⟨Nat.le_of_ble_eq_true rfl, Nat.le_of_ble_eq_true rfl⟩ rfl rfl (Nat.le_of_ble_eq_true rfl) dX11_trade_84 rfl (fun q6 => ?_)
              refine j_iload (pc' := 89) hC 0 dX11_trade_87 rfl rfl ?_
              refine j_icmp_eq (pc' := 92) (tgt := 95) hC dX11_trade_89 (by decide) rfl ?_ ?_
              · refine j_aload_n (pc' := 96) hC 3 dX11_trade_95 rfl rfl rfl ?_
                refine j_get (pc' := 99) hC ly_X11 (X_at_0 d _) rfl 4 (by decide) fl_X11_43 rfl dX11_trade_96 rfl ?_
                refine j_iload (pc' := 101) hC 0 dX11_trade_99 rfl rfl ?_
                refine j_aald (pc' := 102) hC (X_at_16 d _) dX11_trade_101 rfl (fun o7 h_o7 => ?_)
                refine j_astore (pc' := 104) (lv' := [(6, .ref (d.2.1 o7)), (5, .int q4), (4, .int (p2 - p2 / (10 : Int32) * (10 : Int32))), (3, .int (p2 / (10 : Int32))), (0, .ref (d.2.1 0)), (1, .int p1), (2, .int p2)]) hC dX11_trade_102 (by decide) rfl rfl ?_
                refine j_aload (pc' := 106) hC 0 dX11_trade_104 rfl rfl ?_
                refine j_callV_v (pc' := 109) (As := []) (st := []) hC (X_ln d _ h_o7) rfl (kX5_form l d A h_o7 _) (jgV ml_X11_178 im_X5_form se_X5_form in_X5 cd_X5_form) rfl rfl rfl hyV_X5_form ⟨Nat.le_of_ble_eq_true rfl, Nat.le_of_ble_eq_true rfl⟩ rfl rfl (Nat.le_of_ble_eq_true rfl) dX11_trade_106 rfl (fun q8 => ?_)
                refine j_aload (pc' := 111) hC 0 dX11_trade_109 rfl rfl ?_
                refine j_callV_v (pc' := 114) (As := []) (st := []) hC (X_ln d _ h_o7) rfl (kX5_foresee l d A h_o7 _) (jgV ml_X11_181 im_X5_foresee se_X5_foresee in_X5 cd_X5_foresee) rfl rfl rfl hyV_X5_foresee ⟨Nat.le_of_ble_eq_true rfl, Nat.le_of_ble_eq_true rfl⟩ rfl rfl (Nat.le_of_ble_eq_true rfl) dX11_trade_111 rfl (fun q9 => ?_)
                refine j_aload (pc' := 116) hC 0 dX11_trade_114 rfl rfl ?_
                refine j_iload_n (pc' := 117) hC 3 dX11_trade_116 rfl rfl rfl ?_
                refine j_iload_n (pc' := 118) hC 5 dX11_trade_117 rfl rfl rfl ?_
                refine j_callV_ir (pc' := 121) (As := [.int (p2 / (10 : Int32)), .int p1]) (st := []) hC (X_ln d _ h_o7) rfl (kX5_beginOf l d A h_o7 _ _ _) (jgV ml_X11_184 im_X5_beginOf se_X5_beginOf in_X5 cd_X5_beginOf) rfl rfl rfl hyV_X5_beginOf ⟨Nat.le_of_ble_eq_true rfl, Nat.le_of_ble_eq_true rfl⟩ rfl rfl (Nat.le_of_ble_eq_true rfl) dX11_trade_118 rfl (fun q10 => ?_)
                refine j_istore (pc' := 123) (lv' := [(7, .int q10), (6, .ref (d.2.1 o7)), (5, .int q4), (4, .int (p2 - p2 / (10 : Int32) * (10 : Int32))), (3, .int (p2 / (10 : Int32))), (0, .ref (d.2.1 0)), (1, .int p1), (2, .int p2)]) hC dX11_trade_121 (by decide) rfl rfl ?_
                refine j_aload (pc' := 125) hC 1 dX11_trade_123 rfl rfl ?_
                refine j_iload_n (pc' := 126) hC 4 dX11_trade_125 rfl rfl rfl ?_
                refine j_iload (pc' := 128) hC 3 dX11_trade_126 rfl rfl ?_
                refine j_callV_v (pc' := 131) (As := [.int (p2 / (10 : Int32)), .int (p2 - p2 / (10 : Int32) * (10 : Int32))]) (st := []) hC (X_ln d _ h_o7) rfl (kX5_swap l d A h_o7 _ _ _) (jgV ml_X11_239 im_X5_swap se_X5_swap in_X5 cd_X5_swap) rfl rfl rfl hyV_X5_swap ⟨Nat.le_of_ble_eq_true rfl, Nat.le_of_ble_eq_true rfl⟩ rfl rfl (Nat.le_of_ble_eq_true rfl) dX11_trade_128 rfl (fun q11 => ?_)
                refine j_aload (pc' := 133) hC 1 dX11_trade_131 rfl rfl ?_
                refine j_callV_v (pc' := 136) (As := []) (st := []) hC (X_ln d _ h_o7) rfl (kX5_foresee l d A h_o7 _) (jgV ml_X11_181 im_X5_foresee se_X5_foresee in_X5 cd_X5_foresee) rfl rfl rfl hyV_X5_foresee ⟨Nat.le_of_ble_eq_true rfl, Nat.le_of_ble_eq_true rfl⟩ rfl rfl (Nat.le_of_ble_eq_true rfl) dX11_trade_133 rfl (fun q12 => ?_)
                refine j_aload (pc' := 138) hC 1 dX11_trade_136 rfl rfl ?_
                refine j_iload_n (pc' := 139) hC 4 dX11_trade_138 rfl rfl rfl ?_
                refine j_iload_n (pc' := 140) hC 6 dX11_trade_139 rfl rfl rfl ?_
                refine j_callV_ir (pc' := 143) (As := [.int (p2 / (10 : Int32)), .int p1]) (st := []) hC (X_ln d _ h_o7) rfl (kX5_beginOf l d A h_o7 _ _ _) (jgV ml_X11_184 im_X5_beginOf se_X5_beginOf in_X5 cd_X5_beginOf) rfl rfl rfl hyV_X5_beginOf ⟨Nat.le_of_ble_eq_true rfl, Nat.le_of_ble_eq_true rfl⟩ rfl rfl (Nat.le_of_ble_eq_true rfl) dX11_trade_140 rfl (fun q13 => ?_)
                refine j_istore (pc' := 145) (lv' := [(8, .int q13), (7, .int q10), (6, .ref (d.2.1 o7)), (5, .int q4), (4, .int (p2 - p2 / (10 : Int32) * (10 : Int32))), (3, .int (p2 / (10 : Int32))), (0, .ref (d.2.1 0)), (1, .int p1), (2, .int p2)]) hC dX11_trade_143 (by decide) rfl rfl ?_
                refine j_iload (pc' := 147) hC 1 dX11_trade_145 rfl rfl ?_
                refine j_if_lt (pc' := 150) (tgt := 155) hC dX11_trade_147 (by decide) rfl ?_ ?_
                · refine j_bipush (pc' := 157) (v := (-2 : Int32)) hC dX11_trade_155 (by decide) rfl ?_
                  refine j_goto (tgt := 165) hC dX11_trade_157 (by decide) ?_
                  exact j_ret_i hC dX11_trade_165
                · refine j_iload (pc' := 152) hC 0 dX11_trade_150 rfl rfl ?_
                  refine j_if_ge (pc' := 155) (tgt := 160) hC dX11_trade_152 (by decide) rfl ?_ ?_
                  · refine j_iload (pc' := 162) hC 1 dX11_trade_160 rfl rfl ?_
                    refine j_iload (pc' := 164) hC 0 dX11_trade_162 rfl rfl ?_
                    refine j_isub (pc' := 165) hC dX11_trade_164 rfl ?_
                    exact j_ret_i hC dX11_trade_165
                  · refine j_bipush (pc' := 157) (v := (-2 : Int32)) hC dX11_trade_155 (by decide) rfl ?_
                    refine j_goto (tgt := 165) hC dX11_trade_157 (by decide) ?_
                    exact j_ret_i hC dX11_trade_165
              · refine j_bipush (pc' := 94) (v := (-5 : Int32)) hC dX11_trade_92 (by decide) rfl ?_
                exact j_ret_i hC dX11_trade_94
          · refine j_ldc (pc' := 53) (v := (-2000000000 : Int32)) hC dX11_trade_51 ct_X11_165 rfl ?_
            exact j_ret_i hC dX11_trade_53
