theorem hyS_J7_fill_53178 : yJ7_fill_53178.cls ≠ "java/lang/invoke/MethodHandle" ∧ yJ7_fill_53178.cls ≠ "java/lang/invoke/VarHandle" ∧ (parseMethodDescriptor yJ7_fill_53178.desc).map (fun d => d.parameters.length) = some 2 := ⟨by decide +kernel, by decide +kernel, by decide +kernel⟩
noncomputable def fJ7_fillI_B5 (o : Nat) (p2 : Int32) (s5 : jS × Int32 → Option (jS)) (a : jS × Int32) : Option (jS) :=
  (if (9 : Int32) ≤ a.2 then (some a.1) else (ob a.2 9 (jst (ju a.1 (o + 4) (a.2).toNatClampNeg p2) fun (σ1 : jS) => (s5 (σ1, (a.2 + (1 : Int32)))))))
noncomputable def fJ7_fillI (o : Nat) (σ : jS) (p2 : Int32) : Option (jS) :=
  (jloop (fJ7_fillI_B5 o p2) jN (σ, (0 : Int32)))
set_option maxRecDepth 100000 in
set_option maxHeartbeats 4000000 in
theorem kJ7_fillI (l : Launch) (d : jD) (A : Nat → Prop) {o : Nat} (h_o : jLn o) (σ : jS) (p2 : Int32) : jMv l yJ7_fill_53178 (jws yJ7_fill_53178 cJ7_fill_53178 4 none) { frames := 2, cells := 0, slots := 0, locals := 130 } d wX A [.ref (d.2.1 (o + 4)), .int p2] σ (fJ7_fillI o σ p2) := by
  refine jStart_v (lv0 := [(0, .ref (d.2.1 (o + 4))), (1, .int p2)]) (by decide) rfl (Nat.le_of_ble_eq_true rfl) rfl (fun z hC res => ?_)
  unfold fJ7_fillI
  refine j_iconst (pc' := 1) (v := (0 : Int32)) hC dJ7_fill_53178_0 (by decide) rfl ?_
  refine j_istore_n (pc' := 2) (lv' := [(2, .int (0 : Int32)), (0, .ref (d.2.1 (o + 4))), (1, .int p2)]) hC dJ7_fill_53178_1 rfl (by decide) rfl rfl ?_
  refine j_aload_n (pc' := 3) hC 1 dJ7_fill_53178_2 rfl rfl rfl ?_
  refine j_alen (pc' := 4) (t0 := 0) (v := (9 : Int32)) hC (X_ln4 d _ h_o) rfl rfl dJ7_fill_53178_3 rfl ?_
  refine j_istore_n (pc' := 5) (lv' := [(3, .int (9 : Int32)), (2, .int (0 : Int32)), (0, .ref (d.2.1 (o + 4))), (1, .int p2)]) hC dJ7_fill_53178_4 rfl (by decide) rfl rfl ?_
  refine j_lv (lv' := [(0, .ref (d.2.1 (o + 4))), (1, .int p2), (2, .int (0 : Int32)), (3, .int (9 : Int32))]) [2, 3, 1, 0] rfl ?_
  refine j_loop 5 (fun a => a.1) (fun a => [(0, .ref (d.2.1 (o + 4))), (1, .int p2), (2, .int a.2), (3, .int (9 : Int32))]) (fun s5 hs5 a => ?_) jN (σ, (0 : Int32))
  unfold fJ7_fillI_B5
  refine j_iload_n (pc' := 6) hC 2 dJ7_fill_53178_5 rfl rfl rfl ?_
  refine j_iload_n (pc' := 7) hC 3 dJ7_fill_53178_6 rfl rfl rfl ?_
  refine j_icmp_ge (pc' := 10) (tgt := 20) hC dJ7_fill_53178_7 (by decide) rfl ?_ ?_
  · exact j_ret_v hC dJ7_fill_53178_20
  · refine j_aload_n (pc' := 11) hC 0 dJ7_fill_53178_10 rfl rfl rfl ?_
    refine j_iload_n (pc' := 12) hC 2 dJ7_fill_53178_11 rfl rfl rfl ?_
    refine j_iload_n (pc' := 13) hC 1 dJ7_fill_53178_12 rfl rfl rfl ?_
    refine j_iast (pc' := 14) hC (X_ln4 d _ h_o) (X_lna_4 d _ _ h_o) dJ7_fill_53178_13 rfl ?_
    refine j_st (fun σ1 => ?_)
    refine j_iinc (pc' := 17) (v := (a.2 + (1 : Int32))) (lv' := [(2, .int (a.2 + (1 : Int32))), (0, .ref (d.2.1 (o + 4))), (1, .int p2), (3, .int (9 : Int32))]) hC 2 dJ7_fill_53178_14 rfl (by decide) rfl rfl rfl ?_
    refine j_goto (tgt := 5) hC dJ7_fill_53178_17 (by decide) ?_
    exact j_lv (lv' := [(0, .ref (d.2.1 (o + 4))), (1, .int p2), (2, .int (a.2 + (1 : Int32))), (3, .int (9 : Int32))]) [1, 2, 0, 3] rfl (hs5 (σ1, (a.2 + (1 : Int32))))
theorem hyV_X5_form : yX5_form.cls = RX5 ∧ yX5_form.cls ≠ "java/lang/invoke/MethodHandle" ∧ yX5_form.cls ≠ "java/lang/invoke/VarHandle" ∧ (parseMethodDescriptor yX5_form.desc).map (fun d => d.parameters.length) = some 0 := ⟨rfl, by decide +kernel, by decide +kernel, by decide +kernel⟩
noncomputable def fX5_form_B7 (o : Nat) (j66 : (jS → Option (jS))) (s7 : jS × Int32 → Option (jS)) (a : jS × Int32) : Option (jS) :=
  (if (9 : Int32) ≤ a.2 then (j66 a.1) else (Option.bind (fX6_isChild a.1 a.2) fun (q3 : Int32) => (jlet (fun (a60 : jS) => (s7 (a60, (a.2 + (1 : Int32))))) fun (j60 : (jS → Option (jS))) => (if (jb q3) = 0 then (j60 a.1) else (Option.bind (fX6_valueOf a.1 a.2 (5 : Int32)) fun (q4 : Int32) => (if q4 = (a.1.1 o 2) then (ob (a.1.1 o 7) 9 (jst (ju a.1 (o + 1) ((a.1.1 o 7)).toNatClampNeg a.2) fun (σ5 : jS) => (jst (ju σ5 o 7 ((σ5.1 o 7) + (1 : Int32))) fun (σ6 : jS) => (j60 σ6)))) else (j60 a.1)))))))
noncomputable def fX5_form (o : Nat) (σ : jS) : Option (jS) :=
  (jst (ju σ o 7 (0 : Int32)) fun (σ1 : jS) => (jlet (fun (a66 : jS) => (Option.bind (fJ7_fillI o a66 (0 : Int32)) fun (q2 : jS) => (some q2))) fun (j66 : (jS → Option (jS))) => (jloop (fX5_form_B7 o j66) jN (σ1, (0 : Int32)))))
set_option maxRecDepth 100000 in
set_option maxHeartbeats 4000000 in
theorem kX5_form (l : Launch) (d : jD) (A : Nat → Prop) {o : Nat} (h_o : jLn o) (σ : jS) : jMv l yX5_form (jws yX5_form cX5_form 2 none) { frames := 5, cells := 0, slots := 0, locals := 195 } d wX A [.ref (d.2.1 o)] σ (fX5_form o σ) := by
  refine jStart_v (lv0 := [(0, .ref (d.2.1 o))]) (by decide) rfl (Nat.le_of_ble_eq_true rfl) rfl (fun z hC res => ?_)
  unfold fX5_form
  refine j_aload_n (pc' := 1) hC 0 dX5_form_0 rfl rfl rfl ?_
  refine j_iconst (pc' := 2) (v := (0 : Int32)) hC dX5_form_1 (by decide) rfl ?_
  refine j_put (pc' := 5) hC ly_X5 tyX5 tyX5_ok nmX5 (X_ln d _ h_o) rfl 7 (by decide) fl_X5_36 rfl rfl rfl rfl (Nat.le_of_ble_eq_true rfl) (X_lnf_7 d _ _ h_o) dX5_form_2 rfl ?_
  refine j_st (fun σ1 => ?_)
  refine j_iconst (pc' := 6) (v := (0 : Int32)) hC dX5_form_5 (by decide) rfl ?_
  refine j_istore_n (pc' := 7) (lv' := [(1, .int (0 : Int32)), (0, .ref (d.2.1 o))]) hC dX5_form_6 rfl (by decide) rfl rfl ?_
  refine j_let 66 (fun a66 => a66) (fun a66 => [(0, .ref (d.2.1 o))]) (fun a66 => []) (fun a66 => ?_) (fun j66 hj66 => ?_)
  · refine j_aload_n (pc' := 67) hC 0 dX5_form_66 rfl rfl rfl ?_
    refine j_get (pc' := 70) hC ly_X5 (X_ln d _ h_o) rfl 6 (by decide) fl_X5_21 rfl dX5_form_67 rfl ?_
    refine j_iconst (pc' := 71) (v := (0 : Int32)) hC dX5_form_70 (by decide) rfl ?_
    refine j_callS_v (pc' := 74) (As := [.ref (d.2.1 (o + 4)), .int (0 : Int32)]) (st := []) hC (kJ7_fillI l d A h_o _ _) (jgS ml_X5_49 st_J7_fill_53178 in_J7 cd_J7_fill_53178) rfl rfl rfl hyS_J7_fill_53178 ⟨Nat.le_of_ble_eq_true rfl, Nat.le_of_ble_eq_true rfl⟩ rfl rfl (Nat.le_of_ble_eq_true rfl) dX5_form_71 rfl (fun q2 => ?_)
    exact j_ret_v hC dX5_form_74
  · refine j_lv (lv' := [(0, .ref (d.2.1 o)), (1, .int (0 : Int32))]) [1, 0] rfl ?_
    refine j_loop 7 (fun a => a.1) (fun a => [(0, .ref (d.2.1 o)), (1, .int a.2)]) (fun s7 hs7 a => ?_) jN (σ1, (0 : Int32))
    unfold fX5_form_B7
    refine j_iload_n (pc' := 8) hC 1 dX5_form_7 rfl rfl rfl ?_
    refine j_bipush (pc' := 10) (v := (9 : Int32)) hC dX5_form_8 (by decide) rfl ?_
    refine j_icmp_ge (pc' := 13) (tgt := 66) hC dX5_form_10 (by decide) rfl ?_ ?_
    · exact j_lv (lv' := [(0, .ref (d.2.1 o))]) [0] rfl (hj66 a.1)
    · refine j_aload_n (pc' := 14) hC 0 dX5_form_13 rfl rfl rfl ?_
      refine j_get (pc' := 17) hC ly_X5 (X_ln d _ h_o) rfl 0 (by decide) fl_X5_24 rfl dX5_form_14 rfl ?_
      refine j_iload_n (pc' := 18) hC 1 dX5_form_17 rfl rfl rfl ?_
      refine j_callV_zr (pc' := 21) (As := [.int a.2]) (st := []) hC (X_at_1 d _) rfl (kX6_isChild l d A _ _) (jgV ml_X5_39 im_X6_isChild se_X6_isChild in_X6 cd_X6_isChild) rfl rfl rfl hyV_X6_isChild ⟨Nat.le_of_ble_eq_true rfl, Nat.le_of_ble_eq_true rfl⟩ rfl rfl (Nat.le_of_ble_eq_true rfl) dX5_form_18 rfl (fun q3 => ?_)
      refine j_let 60 (fun a60 => a60) (fun a60 => [(0, .ref (d.2.1 o)), (1, .int a.2)]) (fun a60 => []) (fun a60 => ?_) (fun j60 hj60 => ?_)
      · refine j_iinc (pc' := 63) (v := (a.2 + (1 : Int32))) (lv' := [(1, .int (a.2 + (1 : Int32))), (0, .ref (d.2.1 o))]) hC 1 dX5_form_60 rfl (by decide) rfl rfl rfl ?_
        refine j_goto (tgt := 7) hC dX5_form_63 (by decide) ?_
        exact j_lv (lv' := [(0, .ref (d.2.1 o)), (1, .int (a.2 + (1 : Int32)))]) [1, 0] rfl (hs7 (a60, (a.2 + (1 : Int32))))
      · refine j_if_eq (pc' := 24) (tgt := 60) hC dX5_form_21 (by decide) rfl ?_ ?_
        · exact j_lv (lv' := [(0, .ref (d.2.1 o)), (1, .int a.2)]) [0, 1] rfl (hj60 a.1)
        · refine j_aload_n (pc' := 25) hC 0 dX5_form_24 rfl rfl rfl ?_
          refine j_get (pc' := 28) hC ly_X5 (X_ln d _ h_o) rfl 0 (by decide) fl_X5_24 rfl dX5_form_25 rfl ?_
          refine j_iload_n (pc' := 29) hC 1 dX5_form_28 rfl rfl rfl ?_
          refine j_iconst (pc' := 30) (v := (5 : Int32)) hC dX5_form_29 (by decide) rfl ?_
          refine j_callV_ir (pc' := 33) (As := [.int a.2, .int (5 : Int32)]) (st := []) hC (X_at_1 d _) rfl (kX6_valueOf l d A _ _ _) (jgV ml_X5_45 im_X6_valueOf se_X6_valueOf in_X6 cd_X6_valueOf) rfl rfl rfl hyV_X6_valueOf ⟨Nat.le_of_ble_eq_true rfl, Nat.le_of_ble_eq_true rfl⟩ rfl rfl (Nat.le_of_ble_eq_true rfl) dX5_form_30 rfl (fun q4 => ?_)
          refine j_aload_n (pc' := 34) hC 0 dX5_form_33 rfl rfl rfl ?_
          refine j_get (pc' := 37) hC ly_X5 (X_ln d _ h_o) rfl 2 (by decide) fl_X5_32 rfl dX5_form_34 rfl ?_
          refine j_icmp_ne (pc' := 40) (tgt := 60) hC dX5_form_37 (by decide) rfl ?_ ?_
          · exact j_lv (lv' := [(0, .ref (d.2.1 o)), (1, .int a.2)]) [0, 1] rfl (hj60 a.1)
          · refine j_aload_n (pc' := 41) hC 0 dX5_form_40 rfl rfl rfl ?_
            refine j_get (pc' := 44) hC ly_X5 (X_ln d _ h_o) rfl 3 (by decide) fl_X5_9 rfl dX5_form_41 rfl ?_
            refine j_aload_n (pc' := 45) hC 0 dX5_form_44 rfl rfl rfl ?_
            refine j_get (pc' := 48) hC ly_X5 (X_ln d _ h_o) rfl 7 (by decide) fl_X5_36 rfl dX5_form_45 rfl ?_
            refine j_iload_n (pc' := 49) hC 1 dX5_form_48 rfl rfl rfl ?_
            refine j_iast (pc' := 50) hC (X_ln1 d _ h_o) (X_lna_1 d _ _ h_o) dX5_form_49 rfl ?_
            refine j_st (fun σ5 => ?_)
            refine j_aload_n (pc' := 51) hC 0 dX5_form_50 rfl rfl rfl ?_
            refine j_dup (pc' := 52) hC rfl dX5_form_51 rfl ?_
            refine j_get (pc' := 55) hC ly_X5 (X_ln d _ h_o) rfl 7 (by decide) fl_X5_36 rfl dX5_form_52 rfl ?_
            refine j_iconst (pc' := 56) (v := (1 : Int32)) hC dX5_form_55 (by decide) rfl ?_
            refine j_iadd (pc' := 57) hC dX5_form_56 rfl ?_
            refine j_put (pc' := 60) hC ly_X5 tyX5 tyX5_ok nmX5 (X_ln d _ h_o) rfl 7 (by decide) fl_X5_36 rfl rfl rfl rfl (Nat.le_of_ble_eq_true rfl) (X_lnf_7 d _ _ h_o) dX5_form_57 rfl ?_
            refine j_st (fun σ6 => ?_)
            exact j_lv (lv' := [(0, .ref (d.2.1 o)), (1, .int a.2)]) [0, 1] rfl (hj60 σ6)
theorem hyV_X5_placeOf : yX5_placeOf.cls = RX5 ∧ yX5_placeOf.cls ≠ "java/lang/invoke/MethodHandle" ∧ yX5_placeOf.cls ≠ "java/lang/invoke/VarHandle" ∧ (parseMethodDescriptor yX5_placeOf.desc).map (fun d => d.parameters.length) = some 1 := ⟨rfl, by decide +kernel, by decide +kernel, by decide +kernel⟩
noncomputable def fX5_placeOf_B2 (o : Nat) (σ : jS) (p1 : Int32) (s2 : Int32 → Option (Int32)) (a : Int32) : Option (Int32) :=
  (if (σ.1 o 7) ≤ a then (some (-1 : Int32)) else (ob a 9 (if (σ.1 (o + 1) (a).toNatClampNeg) = p1 then (some a) else (s2 (a + (1 : Int32))))))
noncomputable def fX5_placeOf (o : Nat) (σ : jS) (p1 : Int32) : Option (Int32) :=
  (jloop (fX5_placeOf_B2 o σ p1) jN (0 : Int32))
set_option maxRecDepth 100000 in
set_option maxHeartbeats 4000000 in
theorem kX5_placeOf (l : Launch) (d : jD) (A : Nat → Prop) {o : Nat} (h_o : jLn o) (σ : jS) (p1 : Int32) : jMir l yX5_placeOf (jws yX5_placeOf cX5_placeOf 3 (some (.int))) { frames := 2, cells := 0, slots := 0, locals := 130 } d wX A [.ref (d.2.1 o), .int p1] σ (fX5_placeOf o σ p1) := by
  refine jStart_ir (lv0 := [(0, .ref (d.2.1 o)), (1, .int p1)]) (by decide) rfl (Nat.le_of_ble_eq_true rfl) rfl (fun z hC res => ?_)
  unfold fX5_placeOf
  refine j_iconst (pc' := 1) (v := (0 : Int32)) hC dX5_placeOf_0 (by decide) rfl ?_
  refine j_istore_n (pc' := 2) (lv' := [(2, .int (0 : Int32)), (0, .ref (d.2.1 o)), (1, .int p1)]) hC dX5_placeOf_1 rfl (by decide) rfl rfl ?_
  refine j_lv (lv' := [(0, .ref (d.2.1 o)), (1, .int p1), (2, .int (0 : Int32))]) [1, 2, 0] rfl ?_
  refine j_loop 2 (fun a => σ) (fun a => [(0, .ref (d.2.1 o)), (1, .int p1), (2, .int a)]) (fun s2 hs2 a => ?_) jN (0 : Int32)
  unfold fX5_placeOf_B2
  refine j_iload_n (pc' := 3) hC 2 dX5_placeOf_2 rfl rfl rfl ?_
  refine j_aload_n (pc' := 4) hC 0 dX5_placeOf_3 rfl rfl rfl ?_
  refine j_get (pc' := 7) hC ly_X5 (X_ln d _ h_o) rfl 7 (by decide) fl_X5_36 rfl dX5_placeOf_4 rfl ?_
  refine j_icmp_ge (pc' := 10) (tgt := 28) hC dX5_placeOf_7 (by decide) rfl ?_ ?_
  · refine j_iconst (pc' := 29) (v := (-1 : Int32)) hC dX5_placeOf_28 (by decide) rfl ?_
    exact j_ret_ir hC dX5_placeOf_29
  · refine j_aload_n (pc' := 11) hC 0 dX5_placeOf_10 rfl rfl rfl ?_
    refine j_get (pc' := 14) hC ly_X5 (X_ln d _ h_o) rfl 3 (by decide) fl_X5_9 rfl dX5_placeOf_11 rfl ?_
    refine j_iload_n (pc' := 15) hC 2 dX5_placeOf_14 rfl rfl rfl ?_
    refine j_iald (pc' := 16) hC (X_ln1 d _ h_o) dX5_placeOf_15 rfl ?_
    refine j_iload_n (pc' := 17) hC 1 dX5_placeOf_16 rfl rfl rfl ?_
    refine j_icmp_ne (pc' := 20) (tgt := 22) hC dX5_placeOf_17 (by decide) rfl ?_ ?_
    · refine j_iinc (pc' := 25) (v := (a + (1 : Int32))) (lv' := [(2, .int (a + (1 : Int32))), (0, .ref (d.2.1 o)), (1, .int p1)]) hC 2 dX5_placeOf_22 rfl (by decide) rfl rfl rfl ?_
      refine j_goto (tgt := 2) hC dX5_placeOf_25 (by decide) ?_
      exact j_lv (lv' := [(0, .ref (d.2.1 o)), (1, .int p1), (2, .int (a + (1 : Int32)))]) [1, 2, 0] rfl (hs2 (a + (1 : Int32)))
    · refine j_iload_n (pc' := 21) hC 2 dX5_placeOf_20 rfl rfl rfl ?_
      exact j_ret_ir hC dX5_placeOf_21
theorem hyV_X5_behind : yX5_behind.cls = RX5 ∧ yX5_behind.cls ≠ "java/lang/invoke/MethodHandle" ∧ yX5_behind.cls ≠ "java/lang/invoke/VarHandle" ∧ (parseMethodDescriptor yX5_behind.desc).map (fun d => d.parameters.length) = some 1 := ⟨rfl, by decide +kernel, by decide +kernel, by decide +kernel⟩
noncomputable def fX5_behind (o : Nat) (σ : jS) (p1 : Int32) : Option (Int32) :=
  (if (σ.1 o 7) ≤ (p1 + (1 : Int32)) then (some (0 : Int32)) else (some (p1 + (1 : Int32))))
set_option maxRecDepth 100000 in
set_option maxHeartbeats 4000000 in
theorem kX5_behind (l : Launch) (d : jD) (A : Nat → Prop) {o : Nat} (h_o : jLn o) (σ : jS) (p1 : Int32) : jMir l yX5_behind (jws yX5_behind cX5_behind 2 (some (.int))) { frames := 2, cells := 0, slots := 0, locals := 130 } d wX A [.ref (d.2.1 o), .int p1] σ (fX5_behind o σ p1) := by
  refine jStart_ir (lv0 := [(0, .ref (d.2.1 o)), (1, .int p1)]) (by decide) rfl (Nat.le_of_ble_eq_true rfl) rfl (fun z hC res => ?_)
  unfold fX5_behind
  refine j_iload_n (pc' := 1) hC 1 dX5_behind_0 rfl rfl rfl ?_
  refine j_iconst (pc' := 2) (v := (1 : Int32)) hC dX5_behind_1 (by decide) rfl ?_
  refine j_iadd (pc' := 3) hC dX5_behind_2 rfl ?_
  refine j_aload_n (pc' := 4) hC 0 dX5_behind_3 rfl rfl rfl ?_
  refine j_get (pc' := 7) hC ly_X5 (X_ln d _ h_o) rfl 7 (by decide) fl_X5_36 rfl dX5_behind_4 rfl ?_
  refine j_icmp_ge (pc' := 10) (tgt := 16) hC dX5_behind_7 (by decide) rfl ?_ ?_
  · refine j_iconst (pc' := 17) (v := (0 : Int32)) hC dX5_behind_16 (by decide) rfl ?_
    exact j_ret_ir hC dX5_behind_17
  · refine j_iload_n (pc' := 11) hC 1 dX5_behind_10 rfl rfl rfl ?_
    refine j_iconst (pc' := 12) (v := (1 : Int32)) hC dX5_behind_11 (by decide) rfl ?_
    refine j_iadd (pc' := 13) hC dX5_behind_12 rfl ?_
    refine j_goto (tgt := 17) hC dX5_behind_13 (by decide) ?_
    exact j_ret_ir hC dX5_behind_17
theorem hyV_X5_childAt : yX5_childAt.cls = RX5 ∧ yX5_childAt.cls ≠ "java/lang/invoke/MethodHandle" ∧ yX5_childAt.cls ≠ "java/lang/invoke/VarHandle" ∧ (parseMethodDescriptor yX5_childAt.desc).map (fun d => d.parameters.length) = some 1 := ⟨rfl, by decide +kernel, by decide +kernel, by decide +kernel⟩
noncomputable def fX5_childAt (o : Nat) (σ : jS) (p1 : Int32) : Option (Int32) :=
  (if p1 < 0 then (some (-1 : Int32)) else (if (σ.1 o 7) ≤ p1 then (some (-1 : Int32)) else (ob p1 9 (some (σ.1 (o + 1) (p1).toNatClampNeg)))))
set_option maxRecDepth 100000 in
set_option maxHeartbeats 4000000 in
theorem kX5_childAt (l : Launch) (d : jD) (A : Nat → Prop) {o : Nat} (h_o : jLn o) (σ : jS) (p1 : Int32) : jMir l yX5_childAt (jws yX5_childAt cX5_childAt 2 (some (.int))) { frames := 2, cells := 0, slots := 0, locals := 130 } d wX A [.ref (d.2.1 o), .int p1] σ (fX5_childAt o σ p1) := by
  refine jStart_ir (lv0 := [(0, .ref (d.2.1 o)), (1, .int p1)]) (by decide) rfl (Nat.le_of_ble_eq_true rfl) rfl (fun z hC res => ?_)
  unfold fX5_childAt
  refine j_iload_n (pc' := 1) hC 1 dX5_childAt_0 rfl rfl rfl ?_
  refine j_if_lt (pc' := 4) (tgt := 21) hC dX5_childAt_1 (by decide) rfl ?_ ?_
  · refine j_iconst (pc' := 22) (v := (-1 : Int32)) hC dX5_childAt_21 (by decide) rfl ?_
    exact j_ret_ir hC dX5_childAt_22
  · refine j_iload_n (pc' := 5) hC 1 dX5_childAt_4 rfl rfl rfl ?_
    refine j_aload_n (pc' := 6) hC 0 dX5_childAt_5 rfl rfl rfl ?_
    refine j_get (pc' := 9) hC ly_X5 (X_ln d _ h_o) rfl 7 (by decide) fl_X5_36 rfl dX5_childAt_6 rfl ?_
    refine j_icmp_ge (pc' := 12) (tgt := 21) hC dX5_childAt_9 (by decide) rfl ?_ ?_
    · refine j_iconst (pc' := 22) (v := (-1 : Int32)) hC dX5_childAt_21 (by decide) rfl ?_
      exact j_ret_ir hC dX5_childAt_22
    · refine j_aload_n (pc' := 13) hC 0 dX5_childAt_12 rfl rfl rfl ?_
      refine j_get (pc' := 16) hC ly_X5 (X_ln d _ h_o) rfl 3 (by decide) fl_X5_9 rfl dX5_childAt_13 rfl ?_
      refine j_iload_n (pc' := 17) hC 1 dX5_childAt_16 rfl rfl rfl ?_
      refine j_iald (pc' := 18) hC (X_ln1 d _ h_o) dX5_childAt_17 rfl ?_
      refine j_goto (tgt := 22) hC dX5_childAt_18 (by decide) ?_
      exact j_ret_ir hC dX5_childAt_22
theorem hyV_X5_oftenOf : yX5_oftenOf.cls = RX5 ∧ yX5_oftenOf.cls ≠ "java/lang/invoke/MethodHandle" ∧ yX5_oftenOf.cls ≠ "java/lang/invoke/VarHandle" ∧ (parseMethodDescriptor yX5_oftenOf.desc).map (fun d => d.parameters.length) = some 1 := ⟨rfl, by decide +kernel, by decide +kernel, by decide +kernel⟩
noncomputable def fX5_oftenOf (o : Nat) (σ : jS) (p1 : Int32) : Option (Int32) :=
  (Option.bind (fX5_placeOf o σ p1) fun (q1 : Int32) => (if 0 ≤ q1 then (ob q1 9 (some (σ.1 (o + 4) (q1).toNatClampNeg))) else (some (0 : Int32))))
set_option maxRecDepth 100000 in
set_option maxHeartbeats 4000000 in
theorem kX5_oftenOf (l : Launch) (d : jD) (A : Nat → Prop) {o : Nat} (h_o : jLn o) (σ : jS) (p1 : Int32) : jMir l yX5_oftenOf (jws yX5_oftenOf cX5_oftenOf 3 (some (.int))) { frames := 3, cells := 0, slots := 0, locals := 152 } d wX A [.ref (d.2.1 o), .int p1] σ (fX5_oftenOf o σ p1) := by
  refine jStart_ir (lv0 := [(0, .ref (d.2.1 o)), (1, .int p1)]) (by decide) rfl (Nat.le_of_ble_eq_true rfl) rfl (fun z hC res => ?_)
  unfold fX5_oftenOf
  refine j_aload_n (pc' := 1) hC 0 dX5_oftenOf_0 rfl rfl rfl ?_
  refine j_iload_n (pc' := 2) hC 1 dX5_oftenOf_1 rfl rfl rfl ?_
  refine j_callV_ir (pc' := 5) (As := [.int p1]) (st := []) hC (X_ln d _ h_o) rfl (kX5_placeOf l d A h_o _ _) (jgV ml_X5_55 im_X5_placeOf se_X5_placeOf in_X5 cd_X5_placeOf) rfl rfl rfl hyV_X5_placeOf ⟨Nat.le_of_ble_eq_true rfl, Nat.le_of_ble_eq_true rfl⟩ rfl rfl (Nat.le_of_ble_eq_true rfl) dX5_oftenOf_2 rfl (fun q1 => ?_)
  refine j_istore_n (pc' := 6) (lv' := [(2, .int q1), (0, .ref (d.2.1 o)), (1, .int p1)]) hC dX5_oftenOf_5 rfl (by decide) rfl rfl ?_
  refine j_iload_n (pc' := 7) hC 0 dX5_oftenOf_6 rfl rfl rfl ?_
  refine j_if_ge (pc' := 10) (tgt := 14) hC dX5_oftenOf_7 (by decide) rfl ?_ ?_
  · refine j_aload_n (pc' := 15) hC 1 dX5_oftenOf_14 rfl rfl rfl ?_
    refine j_get (pc' := 18) hC ly_X5 (X_ln d _ h_o) rfl 6 (by decide) fl_X5_21 rfl dX5_oftenOf_15 rfl ?_
    refine j_iload_n (pc' := 19) hC 0 dX5_oftenOf_18 rfl rfl rfl ?_
    refine j_iald (pc' := 20) hC (X_ln4 d _ h_o) dX5_oftenOf_19 rfl ?_
    exact j_ret_ir hC dX5_oftenOf_20
  · refine j_iconst (pc' := 11) (v := (0 : Int32)) hC dX5_oftenOf_10 (by decide) rfl ?_
    refine j_goto (tgt := 20) hC dX5_oftenOf_11 (by decide) ?_
    exact j_ret_ir hC dX5_oftenOf_20
theorem hyV_X5_roundsOf : yX5_roundsOf.cls = RX5 ∧ yX5_roundsOf.cls ≠ "java/lang/invoke/MethodHandle" ∧ yX5_roundsOf.cls ≠ "java/lang/invoke/VarHandle" ∧ (parseMethodDescriptor yX5_roundsOf.desc).map (fun d => d.parameters.length) = some 1 := ⟨rfl, by decide +kernel, by decide +kernel, by decide +kernel⟩
noncomputable def fX5_roundsOf (o : Nat) (σ : jS) (p1 : Int32) : Option (Int32) :=
  (Option.bind (fX5_placeOf o σ p1) fun (q1 : Int32) => (if 0 ≤ q1 then (ob q1 9 (some (σ.1 (o + 3) (q1).toNatClampNeg))) else (some (0 : Int32))))
set_option maxRecDepth 100000 in
set_option maxHeartbeats 4000000 in
theorem kX5_roundsOf (l : Launch) (d : jD) (A : Nat → Prop) {o : Nat} (h_o : jLn o) (σ : jS) (p1 : Int32) : jMir l yX5_roundsOf (jws yX5_roundsOf cX5_roundsOf 3 (some (.int))) { frames := 3, cells := 0, slots := 0, locals := 152 } d wX A [.ref (d.2.1 o), .int p1] σ (fX5_roundsOf o σ p1) := by
  refine jStart_ir (lv0 := [(0, .ref (d.2.1 o)), (1, .int p1)]) (by decide) rfl (Nat.le_of_ble_eq_true rfl) rfl (fun z hC res => ?_)
  unfold fX5_roundsOf
  refine j_aload_n (pc' := 1) hC 0 dX5_roundsOf_0 rfl rfl rfl ?_
  refine j_iload_n (pc' := 2) hC 1 dX5_roundsOf_1 rfl rfl rfl ?_
  refine j_callV_ir (pc' := 5) (As := [.int p1]) (st := []) hC (X_ln d _ h_o) rfl (kX5_placeOf l d A h_o _ _) (jgV ml_X5_55 im_X5_placeOf se_X5_placeOf in_X5 cd_X5_placeOf) rfl rfl rfl hyV_X5_placeOf ⟨Nat.le_of_ble_eq_true rfl, Nat.le_of_ble_eq_true rfl⟩ rfl rfl (Nat.le_of_ble_eq_true rfl) dX5_roundsOf_2 rfl (fun q1 => ?_)
  refine j_istore_n (pc' := 6) (lv' := [(2, .int q1), (0, .ref (d.2.1 o)), (1, .int p1)]) hC dX5_roundsOf_5 rfl (by decide) rfl rfl ?_
  refine j_iload_n (pc' := 7) hC 0 dX5_roundsOf_6 rfl rfl rfl ?_
  refine j_if_ge (pc' := 10) (tgt := 14) hC dX5_roundsOf_7 (by decide) rfl ?_ ?_
  · refine j_aload_n (pc' := 15) hC 1 dX5_roundsOf_14 rfl rfl rfl ?_
    refine j_get (pc' := 18) hC ly_X5 (X_ln d _ h_o) rfl 5 (by decide) fl_X5_18 rfl dX5_roundsOf_15 rfl ?_
    refine j_iload_n (pc' := 19) hC 0 dX5_roundsOf_18 rfl rfl rfl ?_
    refine j_iald (pc' := 20) hC (X_ln3 d _ h_o) dX5_roundsOf_19 rfl ?_
    exact j_ret_ir hC dX5_roundsOf_20
  · refine j_iconst (pc' := 11) (v := (0 : Int32)) hC dX5_roundsOf_10 (by decide) rfl ?_
    refine j_goto (tgt := 20) hC dX5_roundsOf_11 (by decide) ?_
    exact j_ret_ir hC dX5_roundsOf_20
theorem hyV_X5_beginOf : yX5_beginOf.cls = RX5 ∧ yX5_beginOf.cls ≠ "java/lang/invoke/MethodHandle" ∧ yX5_beginOf.cls ≠ "java/lang/invoke/VarHandle" ∧ (parseMethodDescriptor yX5_beginOf.desc).map (fun d => d.parameters.length) = some 2 := ⟨rfl, by decide +kernel, by decide +kernel, by decide +kernel⟩
noncomputable def fX5_beginOf_B5 (o : Nat) (σ : jS) (p1 : Int32) (p2 : Int32) (s5 : Int32 × Int32 → Option (Int32)) (a : Int32 × Int32) : Option (Int32) :=
  (if (σ.1 o 7) ≤ a.2 then (some (-2 : Int32)) else (ob a.2 9 (if (a.1 + (σ.1 (o + 2) (a.2).toNatClampNeg)) ≤ p2 then (ob a.2 9 (if (σ.1 (o + 1) (a.2).toNatClampNeg) = p1 then (some a.1) else (ob a.2 9 (s5 ((a.1 + (σ.1 (o + 2) (a.2).toNatClampNeg)), (a.2 + (1 : Int32))))))) else (some (-2 : Int32)))))
noncomputable def fX5_beginOf (o : Nat) (σ : jS) (p1 : Int32) (p2 : Int32) : Option (Int32) :=
  (jloop (fX5_beginOf_B5 o σ p1 p2) jN ((0 : Int32), (0 : Int32)))
set_option maxRecDepth 100000 in
set_option maxHeartbeats 4000000 in
theorem kX5_beginOf (l : Launch) (d : jD) (A : Nat → Prop) {o : Nat} (h_o : jLn o) (σ : jS) (p1 : Int32) (p2 : Int32) : jMir l yX5_beginOf (jws yX5_beginOf cX5_beginOf 5 (some (.int))) { frames := 2, cells := 0, slots := 0, locals := 130 } d wX A [.ref (d.2.1 o), .int p1, .int p2] σ (fX5_beginOf o σ p1 p2) := by
  refine jStart_ir (lv0 := [(0, .ref (d.2.1 o)), (1, .int p1), (2, .int p2)]) (by decide) rfl (Nat.le_of_ble_eq_true rfl) rfl (fun z hC res => ?_)
  unfold fX5_beginOf
  refine j_iconst (pc' := 1) (v := (0 : Int32)) hC dX5_beginOf_0 (by decide) rfl ?_
  refine j_istore_n (pc' := 2) (lv' := [(3, .int (0 : Int32)), (0, .ref (d.2.1 o)), (1, .int p1), (2, .int p2)]) hC dX5_beginOf_1 rfl (by decide) rfl rfl ?_
  refine j_iconst (pc' := 3) (v := (0 : Int32)) hC dX5_beginOf_2 (by decide) rfl ?_
  refine j_istore (pc' := 5) (lv' := [(4, .int (0 : Int32)), (3, .int (0 : Int32)), (0, .ref (d.2.1 o)), (1, .int p1), (2, .int p2)]) hC dX5_beginOf_3 (by decide) rfl rfl ?_
  refine j_lv (lv' := [(0, .ref (d.2.1 o)), (1, .int p1), (2, .int p2), (3, .int (0 : Int32)), (4, .int (0 : Int32))]) [2, 3, 4, 1, 0] rfl ?_
  refine j_loop 5 (fun a => σ) (fun a => [(0, .ref (d.2.1 o)), (1, .int p1), (2, .int p2), (3, .int a.1), (4, .int a.2)]) (fun s5 hs5 a => ?_) jN ((0 : Int32), (0 : Int32))
  unfold fX5_beginOf_B5
  refine j_iload (pc' := 7) hC 4 dX5_beginOf_5 rfl rfl ?_
  refine j_aload_n (pc' := 8) hC 0 dX5_beginOf_7 rfl rfl rfl ?_
  refine j_get (pc' := 11) hC ly_X5 (X_ln d _ h_o) rfl 7 (by decide) fl_X5_36 rfl dX5_beginOf_8 rfl ?_
  refine j_icmp_ge (pc' := 14) (tgt := 59) hC dX5_beginOf_11 (by decide) rfl ?_ ?_
  · refine j_bipush (pc' := 61) (v := (-2 : Int32)) hC dX5_beginOf_59 (by decide) rfl ?_
    exact j_ret_ir hC dX5_beginOf_61
  · refine j_iload_n (pc' := 15) hC 3 dX5_beginOf_14 rfl rfl rfl ?_
    refine j_aload_n (pc' := 16) hC 0 dX5_beginOf_15 rfl rfl rfl ?_
    refine j_get (pc' := 19) hC ly_X5 (X_ln d _ h_o) rfl 4 (by decide) fl_X5_15 rfl dX5_beginOf_16 rfl ?_
    refine j_iload (pc' := 21) hC 4 dX5_beginOf_19 rfl rfl ?_
    refine j_iald (pc' := 22) hC (X_ln2 d _ h_o) dX5_beginOf_21 rfl ?_
    refine j_iadd (pc' := 23) hC dX5_beginOf_22 rfl ?_
    refine j_iload_n (pc' := 24) hC 2 dX5_beginOf_23 rfl rfl rfl ?_
    refine j_icmp_le (pc' := 27) (tgt := 30) hC dX5_beginOf_24 (by decide) rfl ?_ ?_
    · refine j_aload_n (pc' := 31) hC 0 dX5_beginOf_30 rfl rfl rfl ?_
      refine j_get (pc' := 34) hC ly_X5 (X_ln d _ h_o) rfl 3 (by decide) fl_X5_9 rfl dX5_beginOf_31 rfl ?_
      refine j_iload (pc' := 36) hC 4 dX5_beginOf_34 rfl rfl ?_
      refine j_iald (pc' := 37) hC (X_ln1 d _ h_o) dX5_beginOf_36 rfl ?_
      refine j_iload_n (pc' := 38) hC 1 dX5_beginOf_37 rfl rfl rfl ?_
      refine j_icmp_ne (pc' := 41) (tgt := 43) hC dX5_beginOf_38 (by decide) rfl ?_ ?_
      · refine j_iload_n (pc' := 44) hC 3 dX5_beginOf_43 rfl rfl rfl ?_
        refine j_aload_n (pc' := 45) hC 0 dX5_beginOf_44 rfl rfl rfl ?_
        refine j_get (pc' := 48) hC ly_X5 (X_ln d _ h_o) rfl 4 (by decide) fl_X5_15 rfl dX5_beginOf_45 rfl ?_
        refine j_iload (pc' := 50) hC 4 dX5_beginOf_48 rfl rfl ?_
        refine j_iald (pc' := 51) hC (X_ln2 d _ h_o) dX5_beginOf_50 rfl ?_
        refine j_iadd (pc' := 52) hC dX5_beginOf_51 rfl ?_
        refine j_istore_n (pc' := 53) (lv' := [(3, .int (a.1 + (σ.1 (o + 2) (a.2).toNatClampNeg))), (0, .ref (d.2.1 o)), (1, .int p1), (2, .int p2), (4, .int a.2)]) hC dX5_beginOf_52 rfl (by decide) rfl rfl ?_
        refine j_iinc (pc' := 56) (v := (a.2 + (1 : Int32))) (lv' := [(4, .int (a.2 + (1 : Int32))), (3, .int (a.1 + (σ.1 (o + 2) (a.2).toNatClampNeg))), (0, .ref (d.2.1 o)), (1, .int p1), (2, .int p2)]) hC 4 dX5_beginOf_53 rfl (by decide) rfl rfl rfl ?_
        refine j_goto (tgt := 5) hC dX5_beginOf_56 (by decide) ?_
        exact j_lv (lv' := [(0, .ref (d.2.1 o)), (1, .int p1), (2, .int p2), (3, .int (a.1 + (σ.1 (o + 2) (a.2).toNatClampNeg))), (4, .int (a.2 + (1 : Int32)))]) [2, 3, 4, 1, 0] rfl (hs5 ((a.1 + (σ.1 (o + 2) (a.2).toNatClampNeg)), (a.2 + (1 : Int32))))
      · refine j_iload_n (pc' := 42) hC 3 dX5_beginOf_41 rfl rfl rfl ?_
        exact j_ret_ir hC dX5_beginOf_42
    · refine j_bipush (pc' := 29) (v := (-2 : Int32)) hC dX5_beginOf_27 (by decide) rfl ?_
      exact j_ret_ir hC dX5_beginOf_29
theorem hyV_X5_allBegin : yX5_allBegin.cls = RX5 ∧ yX5_allBegin.cls ≠ "java/lang/invoke/MethodHandle" ∧ yX5_allBegin.cls ≠ "java/lang/invoke/VarHandle" ∧ (parseMethodDescriptor yX5_allBegin.desc).map (fun d => d.parameters.length) = some 1 := ⟨rfl, by decide +kernel, by decide +kernel, by decide +kernel⟩
noncomputable def fX5_allBegin (o : Nat) (σ : jS) (p1 : Int32) : Option (Int32) :=
  (if (σ.1 o 7) = 0 then (some (1 : Int32)) else (ob ((σ.1 o 7) - (1 : Int32)) 9 (Option.bind (fX5_beginOf o σ (σ.1 (o + 1) (((σ.1 o 7) - (1 : Int32))).toNatClampNeg) p1) fun (q1 : Int32) => (if q1 < 0 then (some (0 : Int32)) else (some (1 : Int32))))))
set_option maxRecDepth 100000 in
set_option maxHeartbeats 4000000 in
theorem kX5_allBegin (l : Launch) (d : jD) (A : Nat → Prop) {o : Nat} (h_o : jLn o) (σ : jS) (p1 : Int32) : jMzr l yX5_allBegin (jws yX5_allBegin cX5_allBegin 2 (some (.boolean))) { frames := 3, cells := 0, slots := 0, locals := 154 } d wX A [.ref (d.2.1 o), .int p1] σ (fX5_allBegin o σ p1) := by
  refine jStart_zr (lv0 := [(0, .ref (d.2.1 o)), (1, .int p1)]) (by decide) rfl (Nat.le_of_ble_eq_true rfl) rfl (fun z hC res => ?_)
  unfold fX5_allBegin
  refine j_aload_n (pc' := 1) hC 0 dX5_allBegin_0 rfl rfl rfl ?_
  refine j_get (pc' := 4) hC ly_X5 (X_ln d _ h_o) rfl 7 (by decide) fl_X5_36 rfl dX5_allBegin_1 rfl ?_
  refine j_if_eq (pc' := 7) (tgt := 26) hC dX5_allBegin_4 (by decide) rfl ?_ ?_
  · refine j_iconst (pc' := 27) (v := (1 : Int32)) hC dX5_allBegin_26 (by decide) rfl ?_
    refine j_goto (tgt := 31) hC dX5_allBegin_27 (by decide) ?_
    exact j_ret_zr hC (by decide) dX5_allBegin_31
  · refine j_aload_n (pc' := 8) hC 0 dX5_allBegin_7 rfl rfl rfl ?_
    refine j_aload_n (pc' := 9) hC 0 dX5_allBegin_8 rfl rfl rfl ?_
    refine j_get (pc' := 12) hC ly_X5 (X_ln d _ h_o) rfl 3 (by decide) fl_X5_9 rfl dX5_allBegin_9 rfl ?_
    refine j_aload_n (pc' := 13) hC 0 dX5_allBegin_12 rfl rfl rfl ?_
    refine j_get (pc' := 16) hC ly_X5 (X_ln d _ h_o) rfl 7 (by decide) fl_X5_36 rfl dX5_allBegin_13 rfl ?_
    refine j_iconst (pc' := 17) (v := (1 : Int32)) hC dX5_allBegin_16 (by decide) rfl ?_
    refine j_isub (pc' := 18) hC dX5_allBegin_17 rfl ?_
    refine j_iald (pc' := 19) hC (X_ln1 d _ h_o) dX5_allBegin_18 rfl ?_
    refine j_iload_n (pc' := 20) hC 1 dX5_allBegin_19 rfl rfl rfl ?_
    refine j_callV_ir (pc' := 23) (As := [.int (σ.1 (o + 1) (((σ.1 o 7) - (1 : Int32))).toNatClampNeg), .int p1]) (st := []) hC (X_ln d _ h_o) rfl (kX5_beginOf l d A h_o _ _ _) (jgV ml_X5_74 im_X5_beginOf se_X5_beginOf in_X5 cd_X5_beginOf) rfl rfl rfl hyV_X5_beginOf ⟨Nat.le_of_ble_eq_true rfl, Nat.le_of_ble_eq_true rfl⟩ rfl rfl (Nat.le_of_ble_eq_true rfl) dX5_allBegin_20 rfl (fun q1 => ?_)
    refine j_if_lt (pc' := 26) (tgt := 30) hC dX5_allBegin_23 (by decide) rfl ?_ ?_
    · refine j_iconst (pc' := 31) (v := (0 : Int32)) hC dX5_allBegin_30 (by decide) rfl ?_
      exact j_ret_zr hC (by decide) dX5_allBegin_31
    · refine j_iconst (pc' := 27) (v := (1 : Int32)) hC dX5_allBegin_26 (by decide) rfl ?_
      refine j_goto (tgt := 31) hC dX5_allBegin_27 (by decide) ?_
      exact j_ret_zr hC (by decide) dX5_allBegin_31
theorem hyV_X5_swap : yX5_swap.cls = RX5 ∧ yX5_swap.cls ≠ "java/lang/invoke/MethodHandle" ∧ yX5_swap.cls ≠ "java/lang/invoke/VarHandle" ∧ (parseMethodDescriptor yX5_swap.desc).map (fun d => d.parameters.length) = some 2 := ⟨rfl, by decide +kernel, by decide +kernel, by decide +kernel⟩
noncomputable def fX5_swap (o : Nat) (σ : jS) (p1 : Int32) (p2 : Int32) : Option (jS) :=
  (Option.bind (fX5_placeOf o σ p1) fun (q1 : Int32) => (Option.bind (fX5_placeOf o σ p2) fun (q2 : Int32) => (if q1 < 0 then (some σ) else (if q2 < 0 then (some σ) else (ob q1 9 (jst (ju σ (o + 1) (q1).toNatClampNeg p2) fun (σ3 : jS) => (ob q2 9 (jst (ju σ3 (o + 1) (q2).toNatClampNeg p1) fun (σ4 : jS) => (some σ4)))))))))
set_option maxRecDepth 100000 in
set_option maxHeartbeats 4000000 in
theorem kX5_swap (l : Launch) (d : jD) (A : Nat → Prop) {o : Nat} (h_o : jLn o) (σ : jS) (p1 : Int32) (p2 : Int32) : jMv l yX5_swap (jws yX5_swap cX5_swap 5 none) { frames := 3, cells := 0, slots := 0, locals := 152 } d wX A [.ref (d.2.1 o), .int p1, .int p2] σ (fX5_swap o σ p1 p2) := by
  refine jStart_v (lv0 := [(0, .ref (d.2.1 o)), (1, .int p1), (2, .int p2)]) (by decide) rfl (Nat.le_of_ble_eq_true rfl) rfl (fun z hC res => ?_)
  unfold fX5_swap
  refine j_aload_n (pc' := 1) hC 0 dX5_swap_0 rfl rfl rfl ?_
  refine j_iload_n (pc' := 2) hC 1 dX5_swap_1 rfl rfl rfl ?_
  refine j_callV_ir (pc' := 5) (As := [.int p1]) (st := []) hC (X_ln d _ h_o) rfl (kX5_placeOf l d A h_o _ _) (jgV ml_X5_55 im_X5_placeOf se_X5_placeOf in_X5 cd_X5_placeOf) rfl rfl rfl hyV_X5_placeOf ⟨Nat.le_of_ble_eq_true rfl, Nat.le_of_ble_eq_true rfl⟩ rfl rfl (Nat.le_of_ble_eq_true rfl) dX5_swap_2 rfl (fun q1 => ?_)
  refine j_istore_n (pc' := 6) (lv' := [(3, .int q1), (0, .ref (d.2.1 o)), (1, .int p1), (2, .int p2)]) hC dX5_swap_5 rfl (by decide) rfl rfl ?_
  refine j_aload_n (pc' := 7) hC 1 dX5_swap_6 rfl rfl rfl ?_
  refine j_iload_n (pc' := 8) hC 3 dX5_swap_7 rfl rfl rfl ?_
  refine j_callV_ir (pc' := 11) (As := [.int p2]) (st := []) hC (X_ln d _ h_o) rfl (kX5_placeOf l d A h_o _ _) (jgV ml_X5_55 im_X5_placeOf se_X5_placeOf in_X5 cd_X5_placeOf) rfl rfl rfl hyV_X5_placeOf ⟨Nat.le_of_ble_eq_true rfl, Nat.le_of_ble_eq_true rfl⟩ rfl rfl (Nat.le_of_ble_eq_true rfl) dX5_swap_8 rfl (fun q2 => ?_)
  refine j_istore (pc' := 13) (lv' := [(4, .int q2), (3, .int q1), (0, .ref (d.2.1 o)), (1, .int p1), (2, .int p2)]) hC dX5_swap_11 (by decide) rfl rfl ?_
  refine j_iload_n (pc' := 14) hC 1 dX5_swap_13 rfl rfl rfl ?_
  refine j_if_lt (pc' := 17) (tgt := 37) hC dX5_swap_14 (by decide) rfl ?_ ?_
  · exact j_ret_v hC dX5_swap_37
  · refine j_iload (pc' := 19) hC 0 dX5_swap_17 rfl rfl ?_
    refine j_if_lt (pc' := 22) (tgt := 37) hC dX5_swap_19 (by decide) rfl ?_ ?_
    · exact j_ret_v hC dX5_swap_37
    · refine j_aload_n (pc' := 23) hC 2 dX5_swap_22 rfl rfl rfl ?_
      refine j_get (pc' := 26) hC ly_X5 (X_ln d _ h_o) rfl 3 (by decide) fl_X5_9 rfl dX5_swap_23 rfl ?_
      refine j_iload_n (pc' := 27) hC 1 dX5_swap_26 rfl rfl rfl ?_
      refine j_iload_n (pc' := 28) hC 4 dX5_swap_27 rfl rfl rfl ?_
      refine j_iast (pc' := 29) hC (X_ln1 d _ h_o) (X_lna_1 d _ _ h_o) dX5_swap_28 rfl ?_
      refine j_st (fun σ3 => ?_)
      refine j_aload_n (pc' := 30) hC 2 dX5_swap_29 rfl rfl rfl ?_
      refine j_get (pc' := 33) hC ly_X5 (X_ln d _ h_o) rfl 3 (by decide) fl_X5_9 rfl dX5_swap_30 rfl ?_
      refine j_iload (pc' := 35) hC 0 dX5_swap_33 rfl rfl ?_
      refine j_iload_n (pc' := 36) hC 3 dX5_swap_35 rfl rfl rfl ?_
      refine j_iast (pc' := 37) hC (X_ln1 d _ h_o) (X_lna_1 d _ _ h_o) dX5_swap_36 rfl ?_
      refine j_st (fun σ4 => ?_)
      exact j_ret_v hC dX5_swap_37
theorem hyV_X5_foresee : yX5_foresee.cls = RX5 ∧ yX5_foresee.cls ≠ "java/lang/invoke/MethodHandle" ∧ yX5_foresee.cls ≠ "java/lang/invoke/VarHandle" ∧ (parseMethodDescriptor yX5_foresee.desc).map (fun d => d.parameters.length) = some 0 := ⟨rfl, by decide +kernel, by decide +kernel, by decide +kernel⟩
noncomputable def fX5_foresee_B2 (o : Nat) (s2 : jS × Int32 → Option (jS)) (a : jS × Int32) : Option (jS) :=
  (if (a.1.1 o 7) ≤ a.2 then (some a.1) else (jlet (fun (a33 : Int32) => (ob a.2 9 (Option.bind (fX8_think a.1 (a.1.1 o 2) (a.1.1 (o + 1) (a.2).toNatClampNeg) a33 ((a.1.1 o 7) - (1 : Int32))) fun (q1 : jS) => (ob a.2 9 (jst (ju q1 (o + 2) (a.2).toNatClampNeg (q1.1 14 4)) fun (σ2 : jS) => (ob a.2 9 (jst (ju σ2 (o + 3) (a.2).toNatClampNeg (σ2.1 14 3)) fun (σ3 : jS) => (s2 (σ3, (a.2 + (1 : Int32))))))))))) fun (j33 : (Int32 → Option (jS))) => (if (a.1.1 o 7) ≤ (1 : Int32) then (j33 (9 : Int32)) else (Option.bind (fX5_behind o a.1 a.2) fun (q4 : Int32) => (ob q4 9 (j33 (a.1.1 (o + 1) (q4).toNatClampNeg)))))))
noncomputable def fX5_foresee (o : Nat) (σ : jS) : Option (jS) :=
  (jloop (fX5_foresee_B2 o) jN (σ, (0 : Int32)))
set_option maxRecDepth 100000 in
set_option maxHeartbeats 4000000 in
theorem kX5_foresee (l : Launch) (d : jD) (A : Nat → Prop) {o : Nat} (h_o : jLn o) (σ : jS) : jMv l yX5_foresee (jws yX5_foresee cX5_foresee 4 none) { frames := 7, cells := 0, slots := 0, locals := 254 } d wX A [.ref (d.2.1 o)] σ (fX5_foresee o σ) := by
  refine jStart_v (lv0 := [(0, .ref (d.2.1 o))]) (by decide) rfl (Nat.le_of_ble_eq_true rfl) rfl (fun z hC res => ?_)
  unfold fX5_foresee
  refine j_iconst (pc' := 1) (v := (0 : Int32)) hC dX5_foresee_0 (by decide) rfl ?_
  refine j_istore_n (pc' := 2) (lv' := [(1, .int (0 : Int32)), (0, .ref (d.2.1 o))]) hC dX5_foresee_1 rfl (by decide) rfl rfl ?_
  refine j_lv (lv' := [(0, .ref (d.2.1 o)), (1, .int (0 : Int32))]) [1, 0] rfl ?_
  refine j_loop 2 (fun a => a.1) (fun a => [(0, .ref (d.2.1 o)), (1, .int a.2)]) (fun s2 hs2 a => ?_) jN (σ, (0 : Int32))
  unfold fX5_foresee_B2
  refine j_iload_n (pc' := 3) hC 1 dX5_foresee_2 rfl rfl rfl ?_
  refine j_aload_n (pc' := 4) hC 0 dX5_foresee_3 rfl rfl rfl ?_
  refine j_get (pc' := 7) hC ly_X5 (X_ln d _ h_o) rfl 7 (by decide) fl_X5_36 rfl dX5_foresee_4 rfl ?_
  refine j_icmp_ge (pc' := 10) (tgt := 85) hC dX5_foresee_7 (by decide) rfl ?_ ?_
  · exact j_ret_v hC dX5_foresee_85
  · refine j_aload_n (pc' := 11) hC 0 dX5_foresee_10 rfl rfl rfl ?_
    refine j_get (pc' := 14) hC ly_X5 (X_ln d _ h_o) rfl 7 (by decide) fl_X5_36 rfl dX5_foresee_11 rfl ?_
    refine j_iconst (pc' := 15) (v := (1 : Int32)) hC dX5_foresee_14 (by decide) rfl ?_
    refine j_let 33 (fun a33 => a.1) (fun a33 => [(0, .ref (d.2.1 o)), (1, .int a.2)]) (fun a33 => [.int a33]) (fun a33 => ?_) (fun j33 hj33 => ?_)
    · refine j_istore_n (pc' := 34) (lv' := [(2, .int a33), (0, .ref (d.2.1 o)), (1, .int a.2)]) hC dX5_foresee_33 rfl (by decide) rfl rfl ?_
      refine j_aload_n (pc' := 35) hC 1 dX5_foresee_34 rfl rfl rfl ?_
      refine j_get (pc' := 38) hC ly_X5 (X_ln d _ h_o) rfl 1 (by decide) fl_X5_28 rfl dX5_foresee_35 rfl ?_
      refine j_aload_n (pc' := 39) hC 1 dX5_foresee_38 rfl rfl rfl ?_
      refine j_get (pc' := 42) hC ly_X5 (X_ln d _ h_o) rfl 2 (by decide) fl_X5_32 rfl dX5_foresee_39 rfl ?_
      refine j_aload_n (pc' := 43) hC 1 dX5_foresee_42 rfl rfl rfl ?_
      refine j_get (pc' := 46) hC ly_X5 (X_ln d _ h_o) rfl 3 (by decide) fl_X5_9 rfl dX5_foresee_43 rfl ?_
      refine j_iload_n (pc' := 47) hC 2 dX5_foresee_46 rfl rfl rfl ?_
      refine j_iald (pc' := 48) hC (X_ln1 d _ h_o) dX5_foresee_47 rfl ?_
      refine j_iload_n (pc' := 49) hC 0 dX5_foresee_48 rfl rfl rfl ?_
      refine j_aload_n (pc' := 50) hC 1 dX5_foresee_49 rfl rfl rfl ?_
      refine j_get (pc' := 53) hC ly_X5 (X_ln d _ h_o) rfl 7 (by decide) fl_X5_36 rfl dX5_foresee_50 rfl ?_
      refine j_iconst (pc' := 54) (v := (1 : Int32)) hC dX5_foresee_53 (by decide) rfl ?_
      refine j_isub (pc' := 55) hC dX5_foresee_54 rfl ?_
      refine j_callV_r (pc' := 58) (As := [.int (a.1.1 o 2), .int (a.1.1 (o + 1) (a.2).toNatClampNeg), .int a33, .int ((a.1.1 o 7) - (1 : Int32))]) (st := []) hC (X_at_13 d _) rfl (kX8_think l d A _ _ _ _ _) (jgV ml_X5_62 im_X8_think se_X8_think in_X8 cd_X8_think) rfl rfl rfl hyV_X8_think ⟨Nat.le_of_ble_eq_true rfl, Nat.le_of_ble_eq_true rfl⟩ rfl rfl (Nat.le_of_ble_eq_true rfl) dX5_foresee_55 rfl (fun q1 => ?_)
      refine j_astore_n (pc' := 59) (lv' := [(3, .ref (d.2.1 14)), (2, .int a33), (0, .ref (d.2.1 o)), (1, .int a.2)]) hC dX5_foresee_58 rfl (by decide) rfl rfl ?_
      refine j_aload_n (pc' := 60) hC 2 dX5_foresee_59 rfl rfl rfl ?_
      refine j_get (pc' := 63) hC ly_X5 (X_ln d _ h_o) rfl 4 (by decide) fl_X5_15 rfl dX5_foresee_60 rfl ?_
      refine j_iload_n (pc' := 64) hC 3 dX5_foresee_63 rfl rfl rfl ?_
      refine j_aload_n (pc' := 65) hC 0 dX5_foresee_64 rfl rfl rfl ?_
      refine j_get (pc' := 68) hC ly_X10 (X_at_14 d _) rfl 4 (by decide) fl_X5_68 rfl dX5_foresee_65 rfl ?_
      refine j_iast (pc' := 69) hC (X_ln2 d _ h_o) (X_lna_2 d _ _ h_o) dX5_foresee_68 rfl ?_
      refine j_st (fun σ2 => ?_)
      refine j_aload_n (pc' := 70) hC 2 dX5_foresee_69 rfl rfl rfl ?_
      refine j_get (pc' := 73) hC ly_X5 (X_ln d _ h_o) rfl 5 (by decide) fl_X5_18 rfl dX5_foresee_70 rfl ?_
      refine j_iload_n (pc' := 74) hC 3 dX5_foresee_73 rfl rfl rfl ?_
      refine j_aload_n (pc' := 75) hC 0 dX5_foresee_74 rfl rfl rfl ?_
      refine j_get (pc' := 78) hC ly_X10 (X_at_14 d _) rfl 3 (by decide) fl_X5_72 rfl dX5_foresee_75 rfl ?_
      refine j_iast (pc' := 79) hC (X_ln3 d _ h_o) (X_lna_3 d _ _ h_o) dX5_foresee_78 rfl ?_
      refine j_st (fun σ3 => ?_)
      refine j_iinc (pc' := 82) (v := (a.2 + (1 : Int32))) (lv' := [(1, .int (a.2 + (1 : Int32))), (3, .ref (d.2.1 14)), (2, .int a33), (0, .ref (d.2.1 o))]) hC 3 dX5_foresee_79 rfl (by decide) rfl rfl rfl ?_
      refine j_goto (tgt := 2) hC dX5_foresee_82 (by decide) ?_
      exact j_lv (lv' := [(0, .ref (d.2.1 o)), (1, .int (a.2 + (1 : Int32)))]) [3, 0] rfl (hs2 (σ3, (a.2 + (1 : Int32))))
    · refine j_icmp_le (pc' := 18) (tgt := 31) hC dX5_foresee_15 (by decide) rfl ?_ ?_
      · refine j_bipush (pc' := 33) (v := (9 : Int32)) hC dX5_foresee_31 (by decide) rfl ?_
        exact j_lv (lv' := [(0, .ref (d.2.1 o)), (1, .int a.2)]) [0, 1] rfl (hj33 (9 : Int32))
      · refine j_aload_n (pc' := 19) hC 0 dX5_foresee_18 rfl rfl rfl ?_
        refine j_get (pc' := 22) hC ly_X5 (X_ln d _ h_o) rfl 3 (by decide) fl_X5_9 rfl dX5_foresee_19 rfl ?_
        refine j_aload_n (pc' := 23) hC 0 dX5_foresee_22 rfl rfl rfl ?_
        refine j_iload_n (pc' := 24) hC 1 dX5_foresee_23 rfl rfl rfl ?_
        refine j_callV_ir (pc' := 27) (As := [.int a.2]) (st := [.ref (d.2.1 (o + 1))]) hC (X_ln d _ h_o) rfl (kX5_behind l d A h_o _ _) (jgV ml_X5_59 im_X5_behind se_X5_behind in_X5 cd_X5_behind) rfl rfl rfl hyV_X5_behind ⟨Nat.le_of_ble_eq_true rfl, Nat.le_of_ble_eq_true rfl⟩ rfl rfl (Nat.le_of_ble_eq_true rfl) dX5_foresee_24 rfl (fun q4 => ?_)
        refine j_iald (pc' := 28) hC (X_ln1 d _ h_o) dX5_foresee_27 rfl ?_
        refine j_goto (tgt := 33) hC dX5_foresee_28 (by decide) ?_
        exact j_lv (lv' := [(0, .ref (d.2.1 o)), (1, .int a.2)]) [0, 1] rfl (hj33 (a.1.1 (o + 1) (q4).toNatClampNeg))
theorem hyV_X5_foreseePairs : yX5_foreseePairs.cls = RX5 ∧ yX5_foreseePairs.cls ≠ "java/lang/invoke/MethodHandle" ∧ yX5_foreseePairs.cls ≠ "java/lang/invoke/VarHandle" ∧ (parseMethodDescriptor yX5_foreseePairs.desc).map (fun d => d.parameters.length) = some 2 := ⟨rfl, by decide +kernel, by decide +kernel, by decide +kernel⟩
noncomputable def fX5_foreseePairs_B18 (o : Nat) (p2 : Int32) (a : jS × Int32) (j97 : (jS → Option (jS))) (s18 : jS × Int32 → Option (jS)) (a_ : jS × Int32) : Option (jS) :=
  (if (a_.1.1 o 7) ≤ a_.2 then (j97 a_.1) else (if p2 ≤ a_.2 then (j97 a_.1) else (jlet (fun (a91 : jS) => (s18 (a91, (a_.2 + (1 : Int32))))) fun (j91 : (jS → Option (jS))) => (if a.2 = a_.2 then (j91 a_.1) else (if (25 : Int32) ≤ ((a.2 * p2) + a_.2) then (j91 a_.1) else (ob a.2 9 (ob a_.2 9 (Option.bind (fX8_think a_.1 (a_.1.1 o 2) (a_.1.1 (o + 1) (a.2).toNatClampNeg) (a_.1.1 (o + 1) (a_.2).toNatClampNeg) ((a_.1.1 o 7) - (1 : Int32))) fun (q1 : jS) => (ob ((a.2 * p2) + a_.2) 25 (jst (ju q1 33 (((a.2 * p2) + a_.2)).toNatClampNeg (q1.1 14 4)) fun (σ2 : jS) => (j91 σ2)))))))))))
noncomputable def fX5_foreseePairs_B2 (o : Nat) (p2 : Int32) (s2 : jS × Int32 → Option (jS)) (a : jS × Int32) : Option (jS) :=
  (if (a.1.1 o 7) ≤ a.2 then (some a.1) else (if p2 ≤ a.2 then (some a.1) else (jlet (fun (a97 : jS) => (s2 (a97, (a.2 + (1 : Int32))))) fun (j97 : (jS → Option (jS))) => (jloop (fX5_foreseePairs_B18 o p2 a j97) jN (a.1, (0 : Int32))))))
noncomputable def fX5_foreseePairs (o : Nat) (σ : jS) (p2 : Int32) : Option (jS) :=
  (jloop (fX5_foreseePairs_B2 o p2) jN (σ, (0 : Int32)))
set_option maxRecDepth 100000 in
set_option maxHeartbeats 4000000 in
theorem kX5_foreseePairs (l : Launch) (d : jD) (A : Nat → Prop) {o : Nat} (h_o : jLn o) (σ : jS) (p2 : Int32) : jMv l yX5_foreseePairs (jws yX5_foreseePairs cX5_foreseePairs 6 none) { frames := 7, cells := 0, slots := 0, locals := 254 } d wX A [.ref (d.2.1 o), .ref (d.2.1 33), .int p2] σ (fX5_foreseePairs o σ p2) := by
  refine jStart_v (lv0 := [(0, .ref (d.2.1 o)), (1, .ref (d.2.1 33)), (2, .int p2)]) (by decide) rfl (Nat.le_of_ble_eq_true rfl) rfl (fun z hC res => ?_)
  unfold fX5_foreseePairs
  refine j_iconst (pc' := 1) (v := (0 : Int32)) hC dX5_foreseePairs_0 (by decide) rfl ?_
  refine j_istore_n (pc' := 2) (lv' := [(3, .int (0 : Int32)), (0, .ref (d.2.1 o)), (1, .ref (d.2.1 33)), (2, .int p2)]) hC dX5_foreseePairs_1 rfl (by decide) rfl rfl ?_
  refine j_lv (lv' := [(0, .ref (d.2.1 o)), (1, .ref (d.2.1 33)), (2, .int p2), (3, .int (0 : Int32))]) [1, 2, 3, 0] rfl ?_
  refine j_loop 2 (fun a => a.1) (fun a => [(0, .ref (d.2.1 o)), (1, .ref (d.2.1 33)), (2, .int p2), (3, .int a.2)]) (fun s2 hs2 a => ?_) jN (σ, (0 : Int32))
  unfold fX5_foreseePairs_B2
  refine j_iload_n (pc' := 3) hC 3 dX5_foreseePairs_2 rfl rfl rfl ?_
  refine j_aload_n (pc' := 4) hC 0 dX5_foreseePairs_3 rfl rfl rfl ?_
  refine j_get (pc' := 7) hC ly_X5 (X_ln d _ h_o) rfl 7 (by decide) fl_X5_36 rfl dX5_foreseePairs_4 rfl ?_
  refine j_icmp_ge (pc' := 10) (tgt := 103) hC dX5_foreseePairs_7 (by decide) rfl ?_ ?_
  · exact j_ret_v hC dX5_foreseePairs_103
  · refine j_iload_n (pc' := 11) hC 3 dX5_foreseePairs_10 rfl rfl rfl ?_
    refine j_iload_n (pc' := 12) hC 2 dX5_foreseePairs_11 rfl rfl rfl ?_
    refine j_icmp_ge (pc' := 15) (tgt := 103) hC dX5_foreseePairs_12 (by decide) rfl ?_ ?_
    · exact j_ret_v hC dX5_foreseePairs_103
    · refine j_iconst (pc' := 16) (v := (0 : Int32)) hC dX5_foreseePairs_15 (by decide) rfl ?_
      refine j_istore (pc' := 18) (lv' := [(4, .int (0 : Int32)), (0, .ref (d.2.1 o)), (1, .ref (d.2.1 33)), (2, .int p2), (3, .int a.2)]) hC dX5_foreseePairs_16 (by decide) rfl rfl ?_
      refine j_let 97 (fun a97 => a97) (fun a97 => [(0, .ref (d.2.1 o)), (1, .ref (d.2.1 33)), (2, .int p2), (3, .int a.2)]) (fun a97 => []) (fun a97 => ?_) (fun j97 hj97 => ?_)
      · refine j_iinc (pc' := 100) (v := (a.2 + (1 : Int32))) (lv' := [(3, .int (a.2 + (1 : Int32))), (0, .ref (d.2.1 o)), (1, .ref (d.2.1 33)), (2, .int p2)]) hC 3 dX5_foreseePairs_97 rfl (by decide) rfl rfl rfl ?_
        refine j_goto (tgt := 2) hC dX5_foreseePairs_100 (by decide) ?_
        exact j_lv (lv' := [(0, .ref (d.2.1 o)), (1, .ref (d.2.1 33)), (2, .int p2), (3, .int (a.2 + (1 : Int32)))]) [1, 2, 3, 0] rfl (hs2 (a97, (a.2 + (1 : Int32))))
      · refine j_lv (lv' := [(0, .ref (d.2.1 o)), (1, .ref (d.2.1 33)), (2, .int p2), (3, .int a.2), (4, .int (0 : Int32))]) [1, 2, 3, 4, 0] rfl ?_
        refine j_loop 18 (fun a_ => a_.1) (fun a_ => [(0, .ref (d.2.1 o)), (1, .ref (d.2.1 33)), (2, .int p2), (3, .int a.2), (4, .int a_.2)]) (fun s18 hs18 a_ => ?_) jN (a.1, (0 : Int32))
        unfold fX5_foreseePairs_B18
        refine j_iload (pc' := 20) hC 4 dX5_foreseePairs_18 rfl rfl ?_
        refine j_aload_n (pc' := 21) hC 0 dX5_foreseePairs_20 rfl rfl rfl ?_
        refine j_get (pc' := 24) hC ly_X5 (X_ln d _ h_o) rfl 7 (by decide) fl_X5_36 rfl dX5_foreseePairs_21 rfl ?_
        refine j_icmp_ge (pc' := 27) (tgt := 97) hC dX5_foreseePairs_24 (by decide) rfl ?_ ?_
        · exact j_lv (lv' := [(0, .ref (d.2.1 o)), (1, .ref (d.2.1 33)), (2, .int p2), (3, .int a.2)]) [0, 1, 2, 3] rfl (hj97 a_.1)
        · refine j_iload (pc' := 29) hC 4 dX5_foreseePairs_27 rfl rfl ?_
          refine j_iload_n (pc' := 30) hC 2 dX5_foreseePairs_29 rfl rfl rfl ?_
          refine j_icmp_ge (pc' := 33) (tgt := 97) hC dX5_foreseePairs_30 (by decide) rfl ?_ ?_
          · exact j_lv (lv' := [(0, .ref (d.2.1 o)), (1, .ref (d.2.1 33)), (2, .int p2), (3, .int a.2)]) [0, 1, 2, 3] rfl (hj97 a_.1)
          · refine j_iload_n (pc' := 34) hC 3 dX5_foreseePairs_33 rfl rfl rfl ?_
            refine j_iload_n (pc' := 35) hC 2 dX5_foreseePairs_34 rfl rfl rfl ?_
            refine j_imul (pc' := 36) hC dX5_foreseePairs_35 rfl ?_
            refine j_iload (pc' := 38) hC 4 dX5_foreseePairs_36 rfl rfl ?_
            refine j_iadd (pc' := 39) hC dX5_foreseePairs_38 rfl ?_
            refine j_istore (pc' := 41) (lv' := [(5, .int ((a.2 * p2) + a_.2)), (0, .ref (d.2.1 o)), (1, .ref (d.2.1 33)), (2, .int p2), (3, .int a.2), (4, .int a_.2)]) hC dX5_foreseePairs_39 (by decide) rfl rfl ?_
            refine j_iload_n (pc' := 42) hC 4 dX5_foreseePairs_41 rfl rfl rfl ?_
            refine j_iload (pc' := 44) hC 5 dX5_foreseePairs_42 rfl rfl ?_
            refine j_let 91 (fun a91 => a91) (fun a91 => [(0, .ref (d.2.1 o)), (1, .ref (d.2.1 33)), (2, .int p2), (3, .int a.2), (4, .int a_.2)]) (fun a91 => []) (fun a91 => ?_) (fun j91 hj91 => ?_)
            · refine j_iinc (pc' := 94) (v := (a_.2 + (1 : Int32))) (lv' := [(4, .int (a_.2 + (1 : Int32))), (0, .ref (d.2.1 o)), (1, .ref (d.2.1 33)), (2, .int p2), (3, .int a.2)]) hC 4 dX5_foreseePairs_91 rfl (by decide) rfl rfl rfl ?_
              refine j_goto (tgt := 18) hC dX5_foreseePairs_94 (by decide) ?_
              exact j_lv (lv' := [(0, .ref (d.2.1 o)), (1, .ref (d.2.1 33)), (2, .int p2), (3, .int a.2), (4, .int (a_.2 + (1 : Int32)))]) [1, 2, 3, 4, 0] rfl (hs18 (a91, (a_.2 + (1 : Int32))))
            · refine j_icmp_eq (pc' := 47) (tgt := 91) hC dX5_foreseePairs_44 (by decide) rfl ?_ ?_
              · exact j_lv (lv' := [(0, .ref (d.2.1 o)), (1, .ref (d.2.1 33)), (2, .int p2), (3, .int a.2), (4, .int a_.2)]) [1, 2, 3, 4, 5] rfl (hj91 a_.1)
              · refine j_iload (pc' := 49) hC 0 dX5_foreseePairs_47 rfl rfl ?_
                refine j_aload_n (pc' := 50) hC 2 dX5_foreseePairs_49 rfl rfl rfl ?_
                refine j_alen (pc' := 51) (t0 := 0) (v := (25 : Int32)) hC (X_at_33 d _) rfl rfl dX5_foreseePairs_50 rfl ?_
                refine j_icmp_ge (pc' := 54) (tgt := 91) hC dX5_foreseePairs_51 (by decide) rfl ?_ ?_
                · exact j_lv (lv' := [(0, .ref (d.2.1 o)), (1, .ref (d.2.1 33)), (2, .int p2), (3, .int a.2), (4, .int a_.2)]) [1, 2, 3, 4, 5] rfl (hj91 a_.1)
                · refine j_aload_n (pc' := 55) hC 2 dX5_foreseePairs_54 rfl rfl rfl ?_
                  refine j_iload (pc' := 57) hC 0 dX5_foreseePairs_55 rfl rfl ?_
                  refine j_aload_n (pc' := 58) hC 1 dX5_foreseePairs_57 rfl rfl rfl ?_
                  refine j_get (pc' := 61) hC ly_X5 (X_ln d _ h_o) rfl 1 (by decide) fl_X5_28 rfl dX5_foreseePairs_58 rfl ?_
                  refine j_aload_n (pc' := 62) hC 1 dX5_foreseePairs_61 rfl rfl rfl ?_
                  refine j_get (pc' := 65) hC ly_X5 (X_ln d _ h_o) rfl 2 (by decide) fl_X5_32 rfl dX5_foreseePairs_62 rfl ?_
                  refine j_aload_n (pc' := 66) hC 1 dX5_foreseePairs_65 rfl rfl rfl ?_
                  refine j_get (pc' := 69) hC ly_X5 (X_ln d _ h_o) rfl 3 (by decide) fl_X5_9 rfl dX5_foreseePairs_66 rfl ?_
                  refine j_iload_n (pc' := 70) hC 4 dX5_foreseePairs_69 rfl rfl rfl ?_
                  refine j_iald (pc' := 71) hC (X_ln1 d _ h_o) dX5_foreseePairs_70 rfl ?_
                  refine j_aload_n (pc' := 72) hC 1 dX5_foreseePairs_71 rfl rfl rfl ?_
                  refine j_get (pc' := 75) hC ly_X5 (X_ln d _ h_o) rfl 3 (by decide) fl_X5_9 rfl dX5_foreseePairs_72 rfl ?_
                  refine j_iload (pc' := 77) hC 5 dX5_foreseePairs_75 rfl rfl ?_
                  refine j_iald (pc' := 78) hC (X_ln1 d _ h_o) dX5_foreseePairs_77 rfl ?_
                  refine j_aload_n (pc' := 79) hC 1 dX5_foreseePairs_78 rfl rfl rfl ?_
                  refine j_get (pc' := 82) hC ly_X5 (X_ln d _ h_o) rfl 7 (by decide) fl_X5_36 rfl dX5_foreseePairs_79 rfl ?_
                  refine j_iconst (pc' := 83) (v := (1 : Int32)) hC dX5_foreseePairs_82 (by decide) rfl ?_
                  refine j_isub (pc' := 84) hC dX5_foreseePairs_83 rfl ?_
                  refine j_callV_r (pc' := 87) (As := [.int (a_.1.1 o 2), .int (a_.1.1 (o + 1) (a.2).toNatClampNeg), .int (a_.1.1 (o + 1) (a_.2).toNatClampNeg), .int ((a_.1.1 o 7) - (1 : Int32))]) (st := [.int ((a.2 * p2) + a_.2), .ref (d.2.1 33)]) hC (X_at_13 d _) rfl (kX8_think l d A _ _ _ _ _) (jgV ml_X5_62 im_X8_think se_X8_think in_X8 cd_X8_think) rfl rfl rfl hyV_X8_think ⟨Nat.le_of_ble_eq_true rfl, Nat.le_of_ble_eq_true rfl⟩ rfl rfl (Nat.le_of_ble_eq_true rfl) dX5_foreseePairs_84 rfl (fun q1 => ?_)
                  refine j_get (pc' := 90) hC ly_X10 (X_at_14 d _) rfl 4 (by decide) fl_X5_68 rfl dX5_foreseePairs_87 rfl ?_
                  refine j_iast (pc' := 91) hC (X_at_33 d _) (X_sa_33 d _ _) dX5_foreseePairs_90 rfl ?_
                  refine j_st (fun σ2 => ?_)
                  exact j_lv (lv' := [(0, .ref (d.2.1 o)), (1, .ref (d.2.1 33)), (2, .int p2), (3, .int a.2), (4, .int a_.2)]) [1, 2, 3, 4, 5] rfl (hj91 σ2)
theorem hyV_X5_passingOver : yX5_passingOver.cls = RX5 ∧ yX5_passingOver.cls ≠ "java/lang/invoke/MethodHandle" ∧ yX5_passingOver.cls ≠ "java/lang/invoke/VarHandle" ∧ (parseMethodDescriptor yX5_passingOver.desc).map (fun d => d.parameters.length) = some 2 := ⟨rfl, by decide +kernel, by decide +kernel, by decide +kernel⟩
noncomputable def fX5_passingOver (o : Nat) (σ : jS) (p1 : Int32) (p2 : Int32) : Option (Int32) :=
  (if (σ.1 o 7) ≤ p2 then (some p2) else (ob p2 9 (if (σ.1 (o + 1) (p2).toNatClampNeg) = p1 then (some (p2 + (1 : Int32))) else (some p2))))
set_option maxRecDepth 100000 in
set_option maxHeartbeats 4000000 in
theorem kX5_passingOver (l : Launch) (d : jD) (A : Nat → Prop) {o : Nat} (h_o : jLn o) (σ : jS) (p1 : Int32) (p2 : Int32) : jMir l yX5_passingOver (jws yX5_passingOver cX5_passingOver 3 (some (.int))) { frames := 2, cells := 0, slots := 0, locals := 130 } d wX A [.ref (d.2.1 o), .int p1, .int p2] σ (fX5_passingOver o σ p1 p2) := by
  refine jStart_ir (lv0 := [(0, .ref (d.2.1 o)), (1, .int p1), (2, .int p2)]) (by decide) rfl (Nat.le_of_ble_eq_true rfl) rfl (fun z hC res => ?_)
  unfold fX5_passingOver
  refine j_iload_n (pc' := 1) hC 2 dX5_passingOver_0 rfl rfl rfl ?_
  refine j_aload_n (pc' := 2) hC 0 dX5_passingOver_1 rfl rfl rfl ?_
  refine j_get (pc' := 5) hC ly_X5 (X_ln d _ h_o) rfl 7 (by decide) fl_X5_36 rfl dX5_passingOver_2 rfl ?_
  refine j_icmp_ge (pc' := 8) (tgt := 24) hC dX5_passingOver_5 (by decide) rfl ?_ ?_
  · refine j_iload_n (pc' := 25) hC 2 dX5_passingOver_24 rfl rfl rfl ?_
    exact j_ret_ir hC dX5_passingOver_25
  · refine j_aload_n (pc' := 9) hC 0 dX5_passingOver_8 rfl rfl rfl ?_
    refine j_get (pc' := 12) hC ly_X5 (X_ln d _ h_o) rfl 3 (by decide) fl_X5_9 rfl dX5_passingOver_9 rfl ?_
    refine j_iload_n (pc' := 13) hC 2 dX5_passingOver_12 rfl rfl rfl ?_
    refine j_iald (pc' := 14) hC (X_ln1 d _ h_o) dX5_passingOver_13 rfl ?_
    refine j_iload_n (pc' := 15) hC 1 dX5_passingOver_14 rfl rfl rfl ?_
    refine j_icmp_ne (pc' := 18) (tgt := 24) hC dX5_passingOver_15 (by decide) rfl ?_ ?_
    · refine j_iload_n (pc' := 25) hC 2 dX5_passingOver_24 rfl rfl rfl ?_
      exact j_ret_ir hC dX5_passingOver_25
    · refine j_iload_n (pc' := 19) hC 2 dX5_passingOver_18 rfl rfl rfl ?_
      refine j_iconst (pc' := 20) (v := (1 : Int32)) hC dX5_passingOver_19 (by decide) rfl ?_
      refine j_iadd (pc' := 21) hC dX5_passingOver_20 rfl ?_
      refine j_goto (tgt := 25) hC dX5_passingOver_21 (by decide) ?_
      exact j_ret_ir hC dX5_passingOver_25
theorem hyV_X5_sendToEnd : yX5_sendToEnd.cls = RX5 ∧ yX5_sendToEnd.cls ≠ "java/lang/invoke/MethodHandle" ∧ yX5_sendToEnd.cls ≠ "java/lang/invoke/VarHandle" ∧ (parseMethodDescriptor yX5_sendToEnd.desc).map (fun d => d.parameters.length) = some 1 := ⟨rfl, by decide +kernel, by decide +kernel, by decide +kernel⟩
noncomputable def fX5_sendToEnd_B9 (o : Nat) (j39 : (jS → Option (jS))) (s9 : jS × Int32 → Option (jS)) (a : jS × Int32) : Option (jS) :=
  (if (a.1.1 o 7) ≤ (a.2 + (1 : Int32)) then (j39 a.1) else (ob (a.2 + (1 : Int32)) 9 (ob a.2 9 (jst (ju a.1 (o + 1) (a.2).toNatClampNeg (a.1.1 (o + 1) ((a.2 + (1 : Int32))).toNatClampNeg)) fun (σ2 : jS) => (s9 (σ2, (a.2 + (1 : Int32))))))))
noncomputable def fX5_sendToEnd (o : Nat) (σ : jS) (p1 : Int32) : Option (jS) :=
  (ob p1 9 (jlet (fun (a39 : jS) => (ob ((a39.1 o 7) - (1 : Int32)) 9 (jst (ju a39 (o + 1) (((a39.1 o 7) - (1 : Int32))).toNatClampNeg (σ.1 (o + 1) (p1).toNatClampNeg)) fun (σ1 : jS) => (some σ1)))) fun (j39 : (jS → Option (jS))) => (jloop (fX5_sendToEnd_B9 o j39) jN (σ, p1))))
set_option maxRecDepth 100000 in
set_option maxHeartbeats 4000000 in
theorem kX5_sendToEnd (l : Launch) (d : jD) (A : Nat → Prop) {o : Nat} (h_o : jLn o) (σ : jS) (p1 : Int32) : jMv l yX5_sendToEnd (jws yX5_sendToEnd cX5_sendToEnd 4 none) { frames := 2, cells := 0, slots := 0, locals := 130 } d wX A [.ref (d.2.1 o), .int p1] σ (fX5_sendToEnd o σ p1) := by
  refine jStart_v (lv0 := [(0, .ref (d.2.1 o)), (1, .int p1)]) (by decide) rfl (Nat.le_of_ble_eq_true rfl) rfl (fun z hC res => ?_)
  unfold fX5_sendToEnd
  refine j_aload_n (pc' := 1) hC 0 dX5_sendToEnd_0 rfl rfl rfl ?_
  refine j_get (pc' := 4) hC ly_X5 (X_ln d _ h_o) rfl 3 (by decide) fl_X5_9 rfl dX5_sendToEnd_1 rfl ?_
  refine j_iload_n (pc' := 5) hC 1 dX5_sendToEnd_4 rfl rfl rfl ?_
  refine j_iald (pc' := 6) hC (X_ln1 d _ h_o) dX5_sendToEnd_5 rfl ?_
  refine j_istore_n (pc' := 7) (lv' := [(2, .int (σ.1 (o + 1) (p1).toNatClampNeg)), (0, .ref (d.2.1 o)), (1, .int p1)]) hC dX5_sendToEnd_6 rfl (by decide) rfl rfl ?_
  refine j_iload_n (pc' := 8) hC 2 dX5_sendToEnd_7 rfl rfl rfl ?_
  refine j_istore_n (pc' := 9) (lv' := [(3, .int p1), (2, .int (σ.1 (o + 1) (p1).toNatClampNeg)), (0, .ref (d.2.1 o)), (1, .int p1)]) hC dX5_sendToEnd_8 rfl (by decide) rfl rfl ?_
  refine j_let 39 (fun a39 => a39) (fun a39 => [(0, .ref (d.2.1 o)), (2, .int (σ.1 (o + 1) (p1).toNatClampNeg))]) (fun a39 => []) (fun a39 => ?_) (fun j39 hj39 => ?_)
  · refine j_aload_n (pc' := 40) hC 0 dX5_sendToEnd_39 rfl rfl rfl ?_
    refine j_get (pc' := 43) hC ly_X5 (X_ln d _ h_o) rfl 3 (by decide) fl_X5_9 rfl dX5_sendToEnd_40 rfl ?_
    refine j_aload_n (pc' := 44) hC 0 dX5_sendToEnd_43 rfl rfl rfl ?_
    refine j_get (pc' := 47) hC ly_X5 (X_ln d _ h_o) rfl 7 (by decide) fl_X5_36 rfl dX5_sendToEnd_44 rfl ?_
    refine j_iconst (pc' := 48) (v := (1 : Int32)) hC dX5_sendToEnd_47 (by decide) rfl ?_
    refine j_isub (pc' := 49) hC dX5_sendToEnd_48 rfl ?_
    refine j_iload_n (pc' := 50) hC 1 dX5_sendToEnd_49 rfl rfl rfl ?_
    refine j_iast (pc' := 51) hC (X_ln1 d _ h_o) (X_lna_1 d _ _ h_o) dX5_sendToEnd_50 rfl ?_
    refine j_st (fun σ1 => ?_)
    exact j_ret_v hC dX5_sendToEnd_51
  · refine j_lv (lv' := [(0, .ref (d.2.1 o)), (2, .int (σ.1 (o + 1) (p1).toNatClampNeg)), (3, .int p1)]) [2, 1, 0] rfl ?_
    refine j_loop 9 (fun a => a.1) (fun a => [(0, .ref (d.2.1 o)), (2, .int (σ.1 (o + 1) (p1).toNatClampNeg)), (3, .int a.2)]) (fun s9 hs9 a => ?_) jN (σ, p1)
    unfold fX5_sendToEnd_B9
    refine j_iload_n (pc' := 10) hC 2 dX5_sendToEnd_9 rfl rfl rfl ?_
    refine j_iconst (pc' := 11) (v := (1 : Int32)) hC dX5_sendToEnd_10 (by decide) rfl ?_
    refine j_iadd (pc' := 12) hC dX5_sendToEnd_11 rfl ?_
    refine j_aload_n (pc' := 13) hC 0 dX5_sendToEnd_12 rfl rfl rfl ?_
    refine j_get (pc' := 16) hC ly_X5 (X_ln d _ h_o) rfl 7 (by decide) fl_X5_36 rfl dX5_sendToEnd_13 rfl ?_
    refine j_icmp_ge (pc' := 19) (tgt := 39) hC dX5_sendToEnd_16 (by decide) rfl ?_ ?_
    · exact j_lv (lv' := [(0, .ref (d.2.1 o)), (2, .int (σ.1 (o + 1) (p1).toNatClampNeg))]) [0, 1] rfl (hj39 a.1)
    · refine j_aload_n (pc' := 20) hC 0 dX5_sendToEnd_19 rfl rfl rfl ?_
      refine j_get (pc' := 23) hC ly_X5 (X_ln d _ h_o) rfl 3 (by decide) fl_X5_9 rfl dX5_sendToEnd_20 rfl ?_
      refine j_iload_n (pc' := 24) hC 2 dX5_sendToEnd_23 rfl rfl rfl ?_
      refine j_aload_n (pc' := 25) hC 0 dX5_sendToEnd_24 rfl rfl rfl ?_
      refine j_get (pc' := 28) hC ly_X5 (X_ln d _ h_o) rfl 3 (by decide) fl_X5_9 rfl dX5_sendToEnd_25 rfl ?_
      refine j_iload_n (pc' := 29) hC 2 dX5_sendToEnd_28 rfl rfl rfl ?_
      refine j_iconst (pc' := 30) (v := (1 : Int32)) hC dX5_sendToEnd_29 (by decide) rfl ?_
      refine j_iadd (pc' := 31) hC dX5_sendToEnd_30 rfl ?_
      refine j_iald (pc' := 32) hC (X_ln1 d _ h_o) dX5_sendToEnd_31 rfl ?_
      refine j_iast (pc' := 33) hC (X_ln1 d _ h_o) (X_lna_1 d _ _ h_o) dX5_sendToEnd_32 rfl ?_
      refine j_st (fun σ2 => ?_)
      refine j_iinc (pc' := 36) (v := (a.2 + (1 : Int32))) (lv' := [(3, .int (a.2 + (1 : Int32))), (0, .ref (d.2.1 o)), (2, .int (σ.1 (o + 1) (p1).toNatClampNeg))]) hC 2 dX5_sendToEnd_33 rfl (by decide) rfl rfl rfl ?_
      refine j_goto (tgt := 9) hC dX5_sendToEnd_36 (by decide) ?_
      exact j_lv (lv' := [(0, .ref (d.2.1 o)), (2, .int (σ.1 (o + 1) (p1).toNatClampNeg)), (3, .int (a.2 + (1 : Int32)))]) [1, 2, 0] rfl (hs9 (σ2, (a.2 + (1 : Int32))))
theorem hyV_X5_oftenWhileHeld : yX5_oftenWhileHeld.cls = RX5 ∧ yX5_oftenWhileHeld.cls ≠ "java/lang/invoke/MethodHandle" ∧ yX5_oftenWhileHeld.cls ≠ "java/lang/invoke/VarHandle" ∧ (parseMethodDescriptor yX5_oftenWhileHeld.desc).map (fun d => d.parameters.length) = some 3 := ⟨rfl, by decide +kernel, by decide +kernel, by decide +kernel⟩
noncomputable def fX5_oftenWhileHeld_B12 (o : Nat) (p1 : Int32) (p2 : Int32) (p3 : Int32) (s12 : jS × Int32 × Int32 × Int32 × Int32 → Option (Int32 × jS)) (a : jS × Int32 × Int32 × Int32 × Int32) : Option (Int32 × jS) :=
  (if (3600 : Int32) ≤ a.2.2.2.2 then (some (a.2.2.1, a.1)) else (jlet (fun (a30 : Int32) => (Option.bind (fX5_passingOver o a.1 a30 (0 : Int32)) fun (q1 : Int32) => (if q1 < (a.1.1 o 7) then (Option.bind (fX5_passingOver o a.1 a30 (q1 + (1 : Int32))) fun (q2 : Int32) => (jlet (fun (a86 : Int32) => (jlet (fun (a109 : Int32) => (ob q1 9 (Option.bind (fX8_think a.1 (a.1.1 o 2) (a.1.1 (o + 1) (q1).toNatClampNeg) a86 a109) fun (q3 : jS) => (if (a.2.1 + (q3.1 14 4)) ≤ p3 then (ob q1 9 (jlet (fun (a188 : Int32 × Int32) => (Option.bind (fX5_sendToEnd o q3 q1) fun (q4 : jS) => (s12 (q4, (a.2.1 + (q3.1 14 4)), a188.1, a188.2, (a.2.2.2.2 + (1 : Int32)))))) fun (j188 : (Int32 × Int32 → Option (Int32 × jS))) => (if (q3.1 (o + 1) (q1).toNatClampNeg) = p1 then (jlet (fun (a175 : Int32) => (j188 ((a.2.2.1 + (1 : Int32)), a175))) fun (j175 : (Int32 → Option (Int32 × jS))) => (if (a.2.2.1 + (1 : Int32)) = (1 : Int32) then (j175 p2) else (j175 (0 : Int32)))) else (if a.2.2.2.1 ≤ 0 then (j188 (a.2.2.1, a.2.2.2.1)) else (j188 (a.2.2.1, (a.2.2.2.1 + (-1 : Int32)))))))) else (some (a.2.2.1, q3)))))) fun (j109 : (Int32 → Option (Int32 × jS))) => (if a30 = (-1 : Int32) then (j109 ((a.1.1 o 7) - (1 : Int32))) else (j109 ((a.1.1 o 7) - (2 : Int32)))))) fun (j86 : (Int32 → Option (Int32 × jS))) => (if (a.1.1 o 7) ≤ q2 then (j86 (9 : Int32)) else (ob q2 9 (j86 (a.1.1 (o + 1) (q2).toNatClampNeg)))))) else (some (a.2.2.1, a.1))))) fun (j30 : (Int32 → Option (Int32 × jS))) => (if a.2.2.2.1 ≤ 0 then (j30 (-1 : Int32)) else (j30 p1))))
noncomputable def fX5_oftenWhileHeld (o : Nat) (σ : jS) (p1 : Int32) (p2 : Int32) (p3 : Int32) : Option (Int32 × jS) :=
  (jloop (fX5_oftenWhileHeld_B12 o p1 p2 p3) jN (σ, (0 : Int32), (0 : Int32), (0 : Int32), (0 : Int32)))
set_option maxRecDepth 100000 in
set_option maxHeartbeats 4000000 in
theorem kX5_oftenWhileHeld (l : Launch) (d : jD) (A : Nat → Prop) {o : Nat} (h_o : jLn o) (σ : jS) (p1 : Int32) (p2 : Int32) (p3 : Int32) : jMi l yX5_oftenWhileHeld (jws yX5_oftenWhileHeld cX5_oftenWhileHeld 13 (some (.int))) { frames := 7, cells := 0, slots := 0, locals := 254 } d wX A [.ref (d.2.1 o), .int p1, .int p2, .int p3] σ (fX5_oftenWhileHeld o σ p1 p2 p3) := by
  refine jStart_i (lv0 := [(0, .ref (d.2.1 o)), (1, .int p1), (2, .int p2), (3, .int p3)]) (by decide) rfl (Nat.le_of_ble_eq_true rfl) rfl (fun z hC res => ?_)
  unfold fX5_oftenWhileHeld
  refine j_iconst (pc' := 1) (v := (0 : Int32)) hC dX5_oftenWhileHeld_0 (by decide) rfl ?_
  refine j_istore (pc' := 3) (lv' := [(4, .int (0 : Int32)), (0, .ref (d.2.1 o)), (1, .int p1), (2, .int p2), (3, .int p3)]) hC dX5_oftenWhileHeld_1 (by decide) rfl rfl ?_
  refine j_iconst (pc' := 4) (v := (0 : Int32)) hC dX5_oftenWhileHeld_3 (by decide) rfl ?_
  refine j_istore (pc' := 6) (lv' := [(5, .int (0 : Int32)), (4, .int (0 : Int32)), (0, .ref (d.2.1 o)), (1, .int p1), (2, .int p2), (3, .int p3)]) hC dX5_oftenWhileHeld_4 (by decide) rfl rfl ?_
  refine j_iconst (pc' := 7) (v := (0 : Int32)) hC dX5_oftenWhileHeld_6 (by decide) rfl ?_
  refine j_istore (pc' := 9) (lv' := [(6, .int (0 : Int32)), (5, .int (0 : Int32)), (4, .int (0 : Int32)), (0, .ref (d.2.1 o)), (1, .int p1), (2, .int p2), (3, .int p3)]) hC dX5_oftenWhileHeld_7 (by decide) rfl rfl ?_
  refine j_iconst (pc' := 10) (v := (0 : Int32)) hC dX5_oftenWhileHeld_9 (by decide) rfl ?_
  refine j_istore (pc' := 12) (lv' := [(7, .int (0 : Int32)), (6, .int (0 : Int32)), (5, .int (0 : Int32)), (4, .int (0 : Int32)), (0, .ref (d.2.1 o)), (1, .int p1), (2, .int p2), (3, .int p3)]) hC dX5_oftenWhileHeld_10 (by decide) rfl rfl ?_
  refine j_lv (lv' := [(0, .ref (d.2.1 o)), (1, .int p1), (2, .int p2), (3, .int p3), (4, .int (0 : Int32)), (5, .int (0 : Int32)), (6, .int (0 : Int32)), (7, .int (0 : Int32))]) [4, 5, 6, 7, 3, 2, 1, 0] rfl ?_
  refine j_loop 12 (fun a => a.1) (fun a => [(0, .ref (d.2.1 o)), (1, .int p1), (2, .int p2), (3, .int p3), (4, .int a.2.1), (5, .int a.2.2.1), (6, .int a.2.2.2.1), (7, .int a.2.2.2.2)]) (fun s12 hs12 a => ?_) jN (σ, (0 : Int32), (0 : Int32), (0 : Int32), (0 : Int32))
  unfold fX5_oftenWhileHeld_B12
  refine j_iload (pc' := 14) hC 7 dX5_oftenWhileHeld_12 rfl rfl ?_
  refine j_sipush (pc' := 17) (v := (3600 : Int32)) hC dX5_oftenWhileHeld_14 (by decide) rfl ?_
  refine j_icmp_ge (pc' := 20) (tgt := 200) hC dX5_oftenWhileHeld_17 (by decide) rfl ?_ ?_
  · refine j_iload (pc' := 202) hC 5 dX5_oftenWhileHeld_200 rfl rfl ?_
    exact j_ret_i hC dX5_oftenWhileHeld_202
  · refine j_iload (pc' := 22) hC 6 dX5_oftenWhileHeld_20 rfl rfl ?_
    refine j_let 30 (fun a30 => a.1) (fun a30 => [(0, .ref (d.2.1 o)), (1, .int p1), (2, .int p2), (3, .int p3), (4, .int a.2.1), (5, .int a.2.2.1), (6, .int a.2.2.2.1), (7, .int a.2.2.2.2)]) (fun a30 => [.int a30]) (fun a30 => ?_) (fun j30 hj30 => ?_)
    · refine j_istore (pc' := 32) (lv' := [(8, .int a30), (0, .ref (d.2.1 o)), (1, .int p1), (2, .int p2), (3, .int p3), (4, .int a.2.1), (5, .int a.2.2.1), (6, .int a.2.2.2.1), (7, .int a.2.2.2.2)]) hC dX5_oftenWhileHeld_30 (by decide) rfl rfl ?_
      refine j_aload_n (pc' := 33) hC 1 dX5_oftenWhileHeld_32 rfl rfl rfl ?_
      refine j_iload (pc' := 35) hC 0 dX5_oftenWhileHeld_33 rfl rfl ?_
      refine j_iconst (pc' := 36) (v := (0 : Int32)) hC dX5_oftenWhileHeld_35 (by decide) rfl ?_
      refine j_callV_ir (pc' := 39) (As := [.int a30, .int (0 : Int32)]) (st := []) hC (X_ln d _ h_o) rfl (kX5_passingOver l d A h_o _ _ _) (jgV ml_X5_86 im_X5_passingOver se_X5_passingOver in_X5 cd_X5_passingOver) rfl rfl rfl hyV_X5_passingOver ⟨Nat.le_of_ble_eq_true rfl, Nat.le_of_ble_eq_true rfl⟩ rfl rfl (Nat.le_of_ble_eq_true rfl) dX5_oftenWhileHeld_36 rfl (fun q1 => ?_)
      refine j_istore (pc' := 41) (lv' := [(9, .int q1), (8, .int a30), (0, .ref (d.2.1 o)), (1, .int p1), (2, .int p2), (3, .int p3), (4, .int a.2.1), (5, .int a.2.2.1), (6, .int a.2.2.2.1), (7, .int a.2.2.2.2)]) hC dX5_oftenWhileHeld_39 (by decide) rfl rfl ?_
      refine j_iload (pc' := 43) hC 0 dX5_oftenWhileHeld_41 rfl rfl ?_
      refine j_aload_n (pc' := 44) hC 2 dX5_oftenWhileHeld_43 rfl rfl rfl ?_
      refine j_get (pc' := 47) hC ly_X5 (X_ln d _ h_o) rfl 7 (by decide) fl_X5_36 rfl dX5_oftenWhileHeld_44 rfl ?_
      refine j_icmp_lt (pc' := 50) (tgt := 53) hC dX5_oftenWhileHeld_47 (by decide) rfl ?_ ?_
      · refine j_aload_n (pc' := 54) hC 2 dX5_oftenWhileHeld_53 rfl rfl rfl ?_
        refine j_iload (pc' := 56) hC 1 dX5_oftenWhileHeld_54 rfl rfl ?_
        refine j_iload (pc' := 58) hC 0 dX5_oftenWhileHeld_56 rfl rfl ?_
        refine j_iconst (pc' := 59) (v := (1 : Int32)) hC dX5_oftenWhileHeld_58 (by decide) rfl ?_
        refine j_iadd (pc' := 60) hC dX5_oftenWhileHeld_59 rfl ?_
        refine j_callV_ir (pc' := 63) (As := [.int a30, .int (q1 + (1 : Int32))]) (st := []) hC (X_ln d _ h_o) rfl (kX5_passingOver l d A h_o _ _ _) (jgV ml_X5_86 im_X5_passingOver se_X5_passingOver in_X5 cd_X5_passingOver) rfl rfl rfl hyV_X5_passingOver ⟨Nat.le_of_ble_eq_true rfl, Nat.le_of_ble_eq_true rfl⟩ rfl rfl (Nat.le_of_ble_eq_true rfl) dX5_oftenWhileHeld_60 rfl (fun q2 => ?_)
        refine j_istore (pc' := 65) (lv' := [(10, .int q2), (9, .int q1), (8, .int a30), (0, .ref (d.2.1 o)), (1, .int p1), (2, .int p2), (3, .int p3), (4, .int a.2.1), (5, .int a.2.2.1), (6, .int a.2.2.2.1), (7, .int a.2.2.2.2)]) hC dX5_oftenWhileHeld_63 (by decide) rfl rfl ?_
        refine j_iload (pc' := 67) hC 0 dX5_oftenWhileHeld_65 rfl rfl ?_
        refine j_aload_n (pc' := 68) hC 3 dX5_oftenWhileHeld_67 rfl rfl rfl ?_
        refine j_get (pc' := 71) hC ly_X5 (X_ln d _ h_o) rfl 7 (by decide) fl_X5_36 rfl dX5_oftenWhileHeld_68 rfl ?_
        refine j_let 86 (fun a86 => a.1) (fun a86 => [(0, .ref (d.2.1 o)), (1, .int p1), (2, .int p2), (3, .int p3), (4, .int a.2.1), (5, .int a.2.2.1), (6, .int a.2.2.2.1), (7, .int a.2.2.2.2), (8, .int a30), (9, .int q1)]) (fun a86 => [.int a86]) (fun a86 => ?_) (fun j86 hj86 => ?_)
        · refine j_istore (pc' := 88) (lv' := [(11, .int a86), (0, .ref (d.2.1 o)), (1, .int p1), (2, .int p2), (3, .int p3), (4, .int a.2.1), (5, .int a.2.2.1), (6, .int a.2.2.2.1), (7, .int a.2.2.2.2), (8, .int a30), (9, .int q1)]) hC dX5_oftenWhileHeld_86 (by decide) rfl rfl ?_
          refine j_iload (pc' := 90) hC 9 dX5_oftenWhileHeld_88 rfl rfl ?_
          refine j_iconst (pc' := 91) (v := (-1 : Int32)) hC dX5_oftenWhileHeld_90 (by decide) rfl ?_
          refine j_let 109 (fun a109 => a.1) (fun a109 => [(0, .ref (d.2.1 o)), (1, .int p1), (2, .int p2), (3, .int p3), (4, .int a.2.1), (5, .int a.2.2.1), (6, .int a.2.2.2.1), (7, .int a.2.2.2.2), (9, .int q1), (11, .int a86)]) (fun a109 => [.int a109]) (fun a109 => ?_) (fun j109 hj109 => ?_)
          · refine j_istore (pc' := 111) (lv' := [(12, .int a109), (0, .ref (d.2.1 o)), (1, .int p1), (2, .int p2), (3, .int p3), (4, .int a.2.1), (5, .int a.2.2.1), (6, .int a.2.2.2.1), (7, .int a.2.2.2.2), (9, .int q1), (11, .int a86)]) hC dX5_oftenWhileHeld_109 (by decide) rfl rfl ?_
            refine j_iload (pc' := 113) hC 5 dX5_oftenWhileHeld_111 rfl rfl ?_
            refine j_aload_n (pc' := 114) hC 1 dX5_oftenWhileHeld_113 rfl rfl rfl ?_
            refine j_get (pc' := 117) hC ly_X5 (X_ln d _ h_o) rfl 1 (by decide) fl_X5_28 rfl dX5_oftenWhileHeld_114 rfl ?_
            refine j_aload_n (pc' := 118) hC 1 dX5_oftenWhileHeld_117 rfl rfl rfl ?_
            refine j_get (pc' := 121) hC ly_X5 (X_ln d _ h_o) rfl 2 (by decide) fl_X5_32 rfl dX5_oftenWhileHeld_118 rfl ?_
            refine j_aload_n (pc' := 122) hC 1 dX5_oftenWhileHeld_121 rfl rfl rfl ?_
            refine j_get (pc' := 125) hC ly_X5 (X_ln d _ h_o) rfl 3 (by decide) fl_X5_9 rfl dX5_oftenWhileHeld_122 rfl ?_
            refine j_iload (pc' := 127) hC 9 dX5_oftenWhileHeld_125 rfl rfl ?_
            refine j_iald (pc' := 128) hC (X_ln1 d _ h_o) dX5_oftenWhileHeld_127 rfl ?_
            refine j_iload (pc' := 130) hC 10 dX5_oftenWhileHeld_128 rfl rfl ?_
            refine j_iload (pc' := 132) hC 0 dX5_oftenWhileHeld_130 rfl rfl ?_
            refine j_callV_r (pc' := 135) (As := [.int (a.1.1 o 2), .int (a.1.1 (o + 1) (q1).toNatClampNeg), .int a86, .int a109]) (st := [.int a.2.1]) hC (X_at_13 d _) rfl (kX8_think l d A _ _ _ _ _) (jgV ml_X5_62 im_X8_think se_X8_think in_X8 cd_X8_think) rfl rfl rfl hyV_X8_think ⟨Nat.le_of_ble_eq_true rfl, Nat.le_of_ble_eq_true rfl⟩ rfl rfl (Nat.le_of_ble_eq_true rfl) dX5_oftenWhileHeld_132 rfl (fun q3 => ?_)
            refine j_get (pc' := 138) hC ly_X10 (X_at_14 d _) rfl 4 (by decide) fl_X5_68 rfl dX5_oftenWhileHeld_135 rfl ?_
            refine j_iadd (pc' := 139) hC dX5_oftenWhileHeld_138 rfl ?_
            refine j_istore (pc' := 141) (lv' := [(4, .int (a.2.1 + (q3.1 14 4))), (12, .int a109), (0, .ref (d.2.1 o)), (1, .int p1), (2, .int p2), (3, .int p3), (5, .int a.2.2.1), (6, .int a.2.2.2.1), (7, .int a.2.2.2.2), (9, .int q1), (11, .int a86)]) hC dX5_oftenWhileHeld_139 (by decide) rfl rfl ?_
            refine j_iload (pc' := 143) hC 0 dX5_oftenWhileHeld_141 rfl rfl ?_
            refine j_iload_n (pc' := 144) hC 5 dX5_oftenWhileHeld_143 rfl rfl rfl ?_
            refine j_icmp_le (pc' := 147) (tgt := 150) hC dX5_oftenWhileHeld_144 (by decide) rfl ?_ ?_
            · refine j_aload_n (pc' := 151) hC 2 dX5_oftenWhileHeld_150 rfl rfl rfl ?_
              refine j_get (pc' := 154) hC ly_X5 (X_ln d _ h_o) rfl 3 (by decide) fl_X5_9 rfl dX5_oftenWhileHeld_151 rfl ?_
              refine j_iload (pc' := 156) hC 9 dX5_oftenWhileHeld_154 rfl rfl ?_
              refine j_iald (pc' := 157) hC (X_ln1 d _ h_o) dX5_oftenWhileHeld_156 rfl ?_
              refine j_iload_n (pc' := 158) hC 3 dX5_oftenWhileHeld_157 rfl rfl rfl ?_
              refine j_let 188 (fun a188 => q3) (fun a188 => [(0, .ref (d.2.1 o)), (1, .int p1), (2, .int p2), (3, .int p3), (4, .int (a.2.1 + (q3.1 14 4))), (5, .int a188.1), (6, .int a188.2), (7, .int a.2.2.2.2), (9, .int q1)]) (fun a188 => []) (fun a188 => ?_) (fun j188 hj188 => ?_)
              · refine j_aload_n (pc' := 189) hC 0 dX5_oftenWhileHeld_188 rfl rfl rfl ?_
                refine j_iload (pc' := 191) hC 8 dX5_oftenWhileHeld_189 rfl rfl ?_
                refine j_callV_v (pc' := 194) (As := [.int q1]) (st := []) hC (X_ln d _ h_o) rfl (kX5_sendToEnd l d A h_o _ _) (jgV ml_X5_89 im_X5_sendToEnd se_X5_sendToEnd in_X5 cd_X5_sendToEnd) rfl rfl rfl hyV_X5_sendToEnd ⟨Nat.le_of_ble_eq_true rfl, Nat.le_of_ble_eq_true rfl⟩ rfl rfl (Nat.le_of_ble_eq_true rfl) dX5_oftenWhileHeld_191 rfl (fun q4 => ?_)
                refine j_iinc (pc' := 197) (v := (a.2.2.2.2 + (1 : Int32))) (lv' := [(7, .int (a.2.2.2.2 + (1 : Int32))), (0, .ref (d.2.1 o)), (1, .int p1), (2, .int p2), (3, .int p3), (4, .int (a.2.1 + (q3.1 14 4))), (5, .int a188.1), (6, .int a188.2), (9, .int q1)]) hC 7 dX5_oftenWhileHeld_194 rfl (by decide) rfl rfl rfl ?_
                refine j_goto (tgt := 12) hC dX5_oftenWhileHeld_197 (by decide) ?_
                exact j_lv (lv' := [(0, .ref (d.2.1 o)), (1, .int p1), (2, .int p2), (3, .int p3), (4, .int (a.2.1 + (q3.1 14 4))), (5, .int a188.1), (6, .int a188.2), (7, .int (a.2.2.2.2 + (1 : Int32)))]) [1, 2, 3, 4, 5, 6, 7, 0] rfl (hs12 (q4, (a.2.1 + (q3.1 14 4)), a188.1, a188.2, (a.2.2.2.2 + (1 : Int32))))
              · refine j_icmp_ne (pc' := 161) (tgt := 180) hC dX5_oftenWhileHeld_158 (by decide) rfl ?_ ?_
                · refine j_iload (pc' := 182) hC 7 dX5_oftenWhileHeld_180 rfl rfl ?_
                  refine j_if_le (pc' := 185) (tgt := 188) hC dX5_oftenWhileHeld_182 (by decide) rfl ?_ ?_
                  · exact j_lv (lv' := [(0, .ref (d.2.1 o)), (1, .int p1), (2, .int p2), (3, .int p3), (4, .int (a.2.1 + (q3.1 14 4))), (5, .int a.2.2.1), (6, .int a.2.2.2.1), (7, .int a.2.2.2.2), (9, .int q1)]) [2, 3, 4, 5, 0, 6, 7, 8, 9] rfl (hj188 (a.2.2.1, a.2.2.2.1))
                  · refine j_iinc (pc' := 188) (v := (a.2.2.2.1 + (-1 : Int32))) (lv' := [(6, .int (a.2.2.2.1 + (-1 : Int32))), (4, .int (a.2.1 + (q3.1 14 4))), (12, .int a109), (0, .ref (d.2.1 o)), (1, .int p1), (2, .int p2), (3, .int p3), (5, .int a.2.2.1), (7, .int a.2.2.2.2), (9, .int q1), (11, .int a86)]) hC 7 dX5_oftenWhileHeld_185 rfl (by decide) rfl rfl rfl ?_
                    exact j_lv (lv' := [(0, .ref (d.2.1 o)), (1, .int p1), (2, .int p2), (3, .int p3), (4, .int (a.2.1 + (q3.1 14 4))), (5, .int a.2.2.1), (6, .int (a.2.2.2.1 + (-1 : Int32))), (7, .int a.2.2.2.2), (9, .int q1)]) [3, 4, 5, 6, 1, 7, 0, 8, 9] rfl (hj188 (a.2.2.1, (a.2.2.2.1 + (-1 : Int32))))
                · refine j_iinc (pc' := 164) (v := (a.2.2.1 + (1 : Int32))) (lv' := [(5, .int (a.2.2.1 + (1 : Int32))), (4, .int (a.2.1 + (q3.1 14 4))), (12, .int a109), (0, .ref (d.2.1 o)), (1, .int p1), (2, .int p2), (3, .int p3), (6, .int a.2.2.2.1), (7, .int a.2.2.2.2), (9, .int q1), (11, .int a86)]) hC 6 dX5_oftenWhileHeld_161 rfl (by decide) rfl rfl rfl ?_
                  refine j_iload (pc' := 166) hC 0 dX5_oftenWhileHeld_164 rfl rfl ?_
                  refine j_iconst (pc' := 167) (v := (1 : Int32)) hC dX5_oftenWhileHeld_166 (by decide) rfl ?_
                  refine j_let 175 (fun a175 => q3) (fun a175 => [(0, .ref (d.2.1 o)), (1, .int p1), (2, .int p2), (3, .int p3), (4, .int (a.2.1 + (q3.1 14 4))), (5, .int (a.2.2.1 + (1 : Int32))), (7, .int a.2.2.2.2), (9, .int q1)]) (fun a175 => [.int a175]) (fun a175 => ?_) (fun j175 hj175 => ?_)
                  · refine j_istore (pc' := 177) (lv' := [(6, .int a175), (0, .ref (d.2.1 o)), (1, .int p1), (2, .int p2), (3, .int p3), (4, .int (a.2.1 + (q3.1 14 4))), (5, .int (a.2.2.1 + (1 : Int32))), (7, .int a.2.2.2.2), (9, .int q1)]) hC dX5_oftenWhileHeld_175 (by decide) rfl rfl ?_
                    refine j_goto (tgt := 188) hC dX5_oftenWhileHeld_177 (by decide) ?_
                    exact j_lv (lv' := [(0, .ref (d.2.1 o)), (1, .int p1), (2, .int p2), (3, .int p3), (4, .int (a.2.1 + (q3.1 14 4))), (5, .int (a.2.2.1 + (1 : Int32))), (6, .int a175), (7, .int a.2.2.2.2), (9, .int q1)]) [1, 2, 3, 4, 5, 6, 0, 7, 8] rfl (hj188 ((a.2.2.1 + (1 : Int32)), a175))
                  · refine j_icmp_ne (pc' := 170) (tgt := 174) hC dX5_oftenWhileHeld_167 (by decide) rfl ?_ ?_
                    · refine j_iconst (pc' := 175) (v := (0 : Int32)) hC dX5_oftenWhileHeld_174 (by decide) rfl ?_
                      exact j_lv (lv' := [(0, .ref (d.2.1 o)), (1, .int p1), (2, .int p2), (3, .int p3), (4, .int (a.2.1 + (q3.1 14 4))), (5, .int (a.2.2.1 + (1 : Int32))), (7, .int a.2.2.2.2), (9, .int q1)]) [3, 4, 5, 6, 1, 0, 8, 9] rfl (hj175 (0 : Int32))
                    · refine j_iload_n (pc' := 171) hC 5 dX5_oftenWhileHeld_170 rfl rfl rfl ?_
                      refine j_goto (tgt := 175) hC dX5_oftenWhileHeld_171 (by decide) ?_
                      exact j_lv (lv' := [(0, .ref (d.2.1 o)), (1, .int p1), (2, .int p2), (3, .int p3), (4, .int (a.2.1 + (q3.1 14 4))), (5, .int (a.2.2.1 + (1 : Int32))), (7, .int a.2.2.2.2), (9, .int q1)]) [3, 4, 5, 6, 1, 0, 8, 9] rfl (hj175 p2)
            · refine j_goto (tgt := 200) hC dX5_oftenWhileHeld_147 (by decide) ?_
              refine j_iload (pc' := 202) hC 6 dX5_oftenWhileHeld_200 rfl rfl ?_
              exact j_ret_i hC dX5_oftenWhileHeld_202
          · refine j_icmp_ne (pc' := 94) (tgt := 103) hC dX5_oftenWhileHeld_91 (by decide) rfl ?_ ?_
            · refine j_aload_n (pc' := 104) hC 1 dX5_oftenWhileHeld_103 rfl rfl rfl ?_
              refine j_get (pc' := 107) hC ly_X5 (X_ln d _ h_o) rfl 7 (by decide) fl_X5_36 rfl dX5_oftenWhileHeld_104 rfl ?_
              refine j_iconst (pc' := 108) (v := (2 : Int32)) hC dX5_oftenWhileHeld_107 (by decide) rfl ?_
              refine j_isub (pc' := 109) hC dX5_oftenWhileHeld_108 rfl ?_
              exact j_lv (lv' := [(0, .ref (d.2.1 o)), (1, .int p1), (2, .int p2), (3, .int p3), (4, .int a.2.1), (5, .int a.2.2.1), (6, .int a.2.2.2.1), (7, .int a.2.2.2.2), (9, .int q1), (11, .int a86)]) [1, 2, 3, 4, 5, 6, 7, 8, 10, 0] rfl (hj109 ((a.1.1 o 7) - (2 : Int32)))
            · refine j_aload_n (pc' := 95) hC 1 dX5_oftenWhileHeld_94 rfl rfl rfl ?_
              refine j_get (pc' := 98) hC ly_X5 (X_ln d _ h_o) rfl 7 (by decide) fl_X5_36 rfl dX5_oftenWhileHeld_95 rfl ?_
              refine j_iconst (pc' := 99) (v := (1 : Int32)) hC dX5_oftenWhileHeld_98 (by decide) rfl ?_
              refine j_isub (pc' := 100) hC dX5_oftenWhileHeld_99 rfl ?_
              refine j_goto (tgt := 109) hC dX5_oftenWhileHeld_100 (by decide) ?_
              exact j_lv (lv' := [(0, .ref (d.2.1 o)), (1, .int p1), (2, .int p2), (3, .int p3), (4, .int a.2.1), (5, .int a.2.2.1), (6, .int a.2.2.2.1), (7, .int a.2.2.2.2), (9, .int q1), (11, .int a86)]) [1, 2, 3, 4, 5, 6, 7, 8, 10, 0] rfl (hj109 ((a.1.1 o 7) - (1 : Int32)))
        · refine j_icmp_ge (pc' := 74) (tgt := 84) hC dX5_oftenWhileHeld_71 (by decide) rfl ?_ ?_
          · refine j_bipush (pc' := 86) (v := (9 : Int32)) hC dX5_oftenWhileHeld_84 (by decide) rfl ?_
            exact j_lv (lv' := [(0, .ref (d.2.1 o)), (1, .int p1), (2, .int p2), (3, .int p3), (4, .int a.2.1), (5, .int a.2.2.1), (6, .int a.2.2.2.1), (7, .int a.2.2.2.2), (8, .int a30), (9, .int q1)]) [3, 4, 5, 6, 7, 8, 9, 10, 2, 1] rfl (hj86 (9 : Int32))
          · refine j_aload_n (pc' := 75) hC 3 dX5_oftenWhileHeld_74 rfl rfl rfl ?_
            refine j_get (pc' := 78) hC ly_X5 (X_ln d _ h_o) rfl 3 (by decide) fl_X5_9 rfl dX5_oftenWhileHeld_75 rfl ?_
            refine j_iload (pc' := 80) hC 0 dX5_oftenWhileHeld_78 rfl rfl ?_
            refine j_iald (pc' := 81) hC (X_ln1 d _ h_o) dX5_oftenWhileHeld_80 rfl ?_
            refine j_goto (tgt := 86) hC dX5_oftenWhileHeld_81 (by decide) ?_
            exact j_lv (lv' := [(0, .ref (d.2.1 o)), (1, .int p1), (2, .int p2), (3, .int p3), (4, .int a.2.1), (5, .int a.2.2.1), (6, .int a.2.2.2.1), (7, .int a.2.2.2.2), (8, .int a30), (9, .int q1)]) [3, 4, 5, 6, 7, 8, 9, 10, 2, 1] rfl (hj86 (a.1.1 (o + 1) (q2).toNatClampNeg))
      · refine j_goto (tgt := 200) hC dX5_oftenWhileHeld_50 (by decide) ?_
        refine j_iload (pc' := 202) hC 7 dX5_oftenWhileHeld_200 rfl rfl ?_
        exact j_ret_i hC dX5_oftenWhileHeld_202
    · refine j_if_le (pc' := 25) (tgt := 29) hC dX5_oftenWhileHeld_22 (by decide) rfl ?_ ?_
      · refine j_iconst (pc' := 30) (v := (-1 : Int32)) hC dX5_oftenWhileHeld_29 (by decide) rfl ?_
        exact j_lv (lv' := [(0, .ref (d.2.1 o)), (1, .int p1), (2, .int p2), (3, .int p3), (4, .int a.2.1), (5, .int a.2.2.1), (6, .int a.2.2.2.1), (7, .int a.2.2.2.2)]) [0, 1, 2, 3, 4, 5, 6, 7] rfl (hj30 (-1 : Int32))
      · refine j_iload_n (pc' := 26) hC 1 dX5_oftenWhileHeld_25 rfl rfl rfl ?_
        refine j_goto (tgt := 30) hC dX5_oftenWhileHeld_26 (by decide) ?_
        exact j_lv (lv' := [(0, .ref (d.2.1 o)), (1, .int p1), (2, .int p2), (3, .int p3), (4, .int a.2.1), (5, .int a.2.2.1), (6, .int a.2.2.2.1), (7, .int a.2.2.2.2)]) [0, 1, 2, 3, 4, 5, 6, 7] rfl (hj30 p1)
theorem hyV_X5_spend : yX5_spend.cls = RX5 ∧ yX5_spend.cls ≠ "java/lang/invoke/MethodHandle" ∧ yX5_spend.cls ≠ "java/lang/invoke/VarHandle" ∧ (parseMethodDescriptor yX5_spend.desc).map (fun d => d.parameters.length) = some 2 := ⟨rfl, by decide +kernel, by decide +kernel, by decide +kernel⟩
noncomputable def fX5_spendN_B8 (o : Nat) (p1 : Int32) (s8 : jS × Int32 × Int32 × Int32 → Option (jS)) (a : jS × Int32 × Int32 × Int32) : Option (jS) :=
  (if (3600 : Int32) ≤ a.2.2.2 then (jst (ju a.1 o 8 a.2.1) fun (σ1 : jS) => (some σ1)) else (if (a.1.1 o 7) ≤ 0 then (jst (ju a.1 o 8 a.2.1) fun (σ2 : jS) => (some σ2)) else (jlet (fun (a39 : jS × Int32) => (jlet (fun (a91 : jS × Int32) => (Option.bind (fX5_behind o a91.1 a.2.2.1) fun (q3 : Int32) => (s8 (a91.1, a91.2, q3, (a.2.2.2 + (1 : Int32)))))) fun (j91 : (jS × Int32 → Option (jS))) => (jlet (fun (a54 : Unit) => (ob a.2.2.1 9 (if (a.2.1 + (a39.1.1 (o + 2) (a.2.2.1).toNatClampNeg)) ≤ p1 then (ob a.2.2.1 9 (ob a.2.2.1 9 (ob a.2.2.1 9 (jst (ju a39.1 (o + 4) (a.2.2.1).toNatClampNeg ((a39.1.1 (o + 4) (a.2.2.1).toNatClampNeg) + (1 : Int32))) fun (σ4 : jS) => (j91 (σ4, (a.2.1 + (a39.1.1 (o + 2) (a.2.2.1).toNatClampNeg)))))))) else (jst (ju a39.1 o 8 a.2.1) fun (σ5 : jS) => (some σ5))))) fun (j54 : (Unit → Option (jS))) => (if a39.2 = 0 then (j54 ()) else (if (a39.1.1 o 7) = (1 : Int32) then (j54 ()) else (j91 (a39.1, a.2.1))))))) fun (j39 : (jS × Int32 → Option (jS))) => (jlet (fun (a38 : jS) => (j39 (a38, (0 : Int32)))) fun (j38 : (jS → Option (jS))) => (j38 a.1)))))
noncomputable def fX5_spendN (o : Nat) (σ : jS) (p1 : Int32) : Option (jS) :=
  (jloop (fX5_spendN_B8 o p1) jN (σ, (0 : Int32), (0 : Int32), (0 : Int32)))
set_option maxRecDepth 100000 in
set_option maxHeartbeats 4000000 in
theorem kX5_spendN (l : Launch) (d : jD) (A : Nat → Prop) {o : Nat} (h_o : jLn o) (σ : jS) (p1 : Int32) : jMv l yX5_spend (jws yX5_spend cX5_spend 7 none) { frames := 3, cells := 0, slots := 0, locals := 151 } d wX A [.ref (d.2.1 o), .int p1, .null] σ (fX5_spendN o σ p1) := by
  refine jStart_v (lv0 := [(0, .ref (d.2.1 o)), (1, .int p1), (2, .null)]) (by decide) rfl (Nat.le_of_ble_eq_true rfl) rfl (fun z hC res => ?_)
  unfold fX5_spendN
  refine j_iconst (pc' := 1) (v := (0 : Int32)) hC dX5_spend_0 (by decide) rfl ?_
  refine j_istore_n (pc' := 2) (lv' := [(3, .int (0 : Int32)), (0, .ref (d.2.1 o)), (1, .int p1), (2, .null)]) hC dX5_spend_1 rfl (by decide) rfl rfl ?_
  refine j_iconst (pc' := 3) (v := (0 : Int32)) hC dX5_spend_2 (by decide) rfl ?_
  refine j_istore (pc' := 5) (lv' := [(4, .int (0 : Int32)), (3, .int (0 : Int32)), (0, .ref (d.2.1 o)), (1, .int p1), (2, .null)]) hC dX5_spend_3 (by decide) rfl rfl ?_
  refine j_iconst (pc' := 6) (v := (0 : Int32)) hC dX5_spend_5 (by decide) rfl ?_
  refine j_istore (pc' := 8) (lv' := [(5, .int (0 : Int32)), (4, .int (0 : Int32)), (3, .int (0 : Int32)), (0, .ref (d.2.1 o)), (1, .int p1), (2, .null)]) hC dX5_spend_6 (by decide) rfl rfl ?_
  refine j_lv (lv' := [(0, .ref (d.2.1 o)), (1, .int p1), (2, .null), (3, .int (0 : Int32)), (4, .int (0 : Int32)), (5, .int (0 : Int32))]) [3, 4, 5, 2, 1, 0] rfl ?_
  refine j_loop 8 (fun a => a.1) (fun a => [(0, .ref (d.2.1 o)), (1, .int p1), (2, .null), (3, .int a.2.1), (4, .int a.2.2.1), (5, .int a.2.2.2)]) (fun s8 hs8 a => ?_) jN (σ, (0 : Int32), (0 : Int32), (0 : Int32))
  unfold fX5_spendN_B8
  refine j_iload (pc' := 10) hC 5 dX5_spend_8 rfl rfl ?_
  refine j_sipush (pc' := 13) (v := (3600 : Int32)) hC dX5_spend_10 (by decide) rfl ?_
  refine j_icmp_ge (pc' := 16) (tgt := 105) hC dX5_spend_13 (by decide) rfl ?_ ?_
  · refine j_aload_n (pc' := 106) hC 0 dX5_spend_105 rfl rfl rfl ?_
    refine j_iload_n (pc' := 107) hC 3 dX5_spend_106 rfl rfl rfl ?_
    refine j_put (pc' := 110) hC ly_X5 tyX5 tyX5_ok nmX5 (X_ln d _ h_o) rfl 8 (by decide) fl_X5_83 rfl rfl rfl rfl (Nat.le_of_ble_eq_true rfl) (X_lnf_8 d _ _ h_o) dX5_spend_107 rfl ?_
    refine j_st (fun σ1 => ?_)
    exact j_ret_v hC dX5_spend_110
  · refine j_aload_n (pc' := 17) hC 0 dX5_spend_16 rfl rfl rfl ?_
    refine j_get (pc' := 20) hC ly_X5 (X_ln d _ h_o) rfl 7 (by decide) fl_X5_36 rfl dX5_spend_17 rfl ?_
    refine j_if_le (pc' := 23) (tgt := 105) hC dX5_spend_20 (by decide) rfl ?_ ?_
    · refine j_aload_n (pc' := 106) hC 0 dX5_spend_105 rfl rfl rfl ?_
      refine j_iload_n (pc' := 107) hC 3 dX5_spend_106 rfl rfl rfl ?_
      refine j_put (pc' := 110) hC ly_X5 tyX5 tyX5_ok nmX5 (X_ln d _ h_o) rfl 8 (by decide) fl_X5_83 rfl rfl rfl rfl (Nat.le_of_ble_eq_true rfl) (X_lnf_8 d _ _ h_o) dX5_spend_107 rfl ?_
      refine j_st (fun σ2 => ?_)
      exact j_ret_v hC dX5_spend_110
    · refine j_aload_nN (pc' := 24) hC 2 dX5_spend_23 rfl rfl rfl ?_
      refine j_let 39 (fun a39 => a39.1) (fun a39 => [(0, .ref (d.2.1 o)), (1, .int p1), (2, .null), (3, .int a.2.1), (4, .int a.2.2.1), (5, .int a.2.2.2)]) (fun a39 => [.int a39.2]) (fun a39 => ?_) (fun j39 hj39 => ?_)
      · refine j_istore (pc' := 41) (lv' := [(6, .int a39.2), (0, .ref (d.2.1 o)), (1, .int p1), (2, .null), (3, .int a.2.1), (4, .int a.2.2.1), (5, .int a.2.2.2)]) hC dX5_spend_39 (by decide) rfl rfl ?_
        refine j_iload (pc' := 43) hC 0 dX5_spend_41 rfl rfl ?_
        refine j_let 91 (fun a91 => a91.1) (fun a91 => [(0, .ref (d.2.1 o)), (1, .int p1), (2, .null), (3, .int a91.2), (4, .int a.2.2.1), (5, .int a.2.2.2)]) (fun a91 => []) (fun a91 => ?_) (fun j91 hj91 => ?_)
        · refine j_aload_n (pc' := 92) hC 0 dX5_spend_91 rfl rfl rfl ?_
          refine j_iload (pc' := 94) hC 4 dX5_spend_92 rfl rfl ?_
          refine j_callV_ir (pc' := 97) (As := [.int a.2.2.1]) (st := []) hC (X_ln d _ h_o) rfl (kX5_behind l d A h_o _ _) (jgV ml_X5_59 im_X5_behind se_X5_behind in_X5 cd_X5_behind) rfl rfl rfl hyV_X5_behind ⟨Nat.le_of_ble_eq_true rfl, Nat.le_of_ble_eq_true rfl⟩ rfl rfl (Nat.le_of_ble_eq_true rfl) dX5_spend_94 rfl (fun q3 => ?_)
          refine j_istore (pc' := 99) (lv' := [(4, .int q3), (0, .ref (d.2.1 o)), (1, .int p1), (2, .null), (3, .int a91.2), (5, .int a.2.2.2)]) hC dX5_spend_97 (by decide) rfl rfl ?_
          refine j_iinc (pc' := 102) (v := (a.2.2.2 + (1 : Int32))) (lv' := [(5, .int (a.2.2.2 + (1 : Int32))), (4, .int q3), (0, .ref (d.2.1 o)), (1, .int p1), (2, .null), (3, .int a91.2)]) hC 5 dX5_spend_99 rfl (by decide) rfl rfl rfl ?_
          refine j_goto (tgt := 8) hC dX5_spend_102 (by decide) ?_
          exact j_lv (lv' := [(0, .ref (d.2.1 o)), (1, .int p1), (2, .null), (3, .int a91.2), (4, .int q3), (5, .int (a.2.2.2 + (1 : Int32)))]) [2, 3, 4, 5, 1, 0] rfl (hs8 (a91.1, a91.2, q3, (a.2.2.2 + (1 : Int32))))
        · refine j_let 54 (fun a54 => a39.1) (fun a54 => [(0, .ref (d.2.1 o)), (1, .int p1), (2, .null), (3, .int a.2.1), (4, .int a.2.2.1), (5, .int a.2.2.2)]) (fun a54 => []) (fun a54 => ?_) (fun j54 hj54 => ?_)
          · refine j_iload_n (pc' := 55) hC 3 dX5_spend_54 rfl rfl rfl ?_
            refine j_aload_n (pc' := 56) hC 0 dX5_spend_55 rfl rfl rfl ?_
            refine j_get (pc' := 59) hC ly_X5 (X_ln d _ h_o) rfl 4 (by decide) fl_X5_15 rfl dX5_spend_56 rfl ?_
            refine j_iload (pc' := 61) hC 4 dX5_spend_59 rfl rfl ?_
            refine j_iald (pc' := 62) hC (X_ln2 d _ h_o) dX5_spend_61 rfl ?_
            refine j_iadd (pc' := 63) hC dX5_spend_62 rfl ?_
            refine j_iload_n (pc' := 64) hC 1 dX5_spend_63 rfl rfl rfl ?_
            refine j_icmp_le (pc' := 67) (tgt := 70) hC dX5_spend_64 (by decide) rfl ?_ ?_
            · refine j_iload_n (pc' := 71) hC 3 dX5_spend_70 rfl rfl rfl ?_
              refine j_aload_n (pc' := 72) hC 0 dX5_spend_71 rfl rfl rfl ?_
              refine j_get (pc' := 75) hC ly_X5 (X_ln d _ h_o) rfl 4 (by decide) fl_X5_15 rfl dX5_spend_72 rfl ?_
              refine j_iload (pc' := 77) hC 4 dX5_spend_75 rfl rfl ?_
              refine j_iald (pc' := 78) hC (X_ln2 d _ h_o) dX5_spend_77 rfl ?_
              refine j_iadd (pc' := 79) hC dX5_spend_78 rfl ?_
              refine j_istore_n (pc' := 80) (lv' := [(3, .int (a.2.1 + (a39.1.1 (o + 2) (a.2.2.1).toNatClampNeg))), (0, .ref (d.2.1 o)), (1, .int p1), (2, .null), (4, .int a.2.2.1), (5, .int a.2.2.2)]) hC dX5_spend_79 rfl (by decide) rfl rfl ?_
              refine j_aload_n (pc' := 81) hC 1 dX5_spend_80 rfl rfl rfl ?_
              refine j_get (pc' := 84) hC ly_X5 (X_ln d _ h_o) rfl 6 (by decide) fl_X5_21 rfl dX5_spend_81 rfl ?_
              refine j_iload (pc' := 86) hC 4 dX5_spend_84 rfl rfl ?_
              refine j_dup2 (pc' := 87) hC rfl rfl dX5_spend_86 rfl ?_
              refine j_iald (pc' := 88) hC (X_ln4 d _ h_o) dX5_spend_87 rfl ?_
              refine j_iconst (pc' := 89) (v := (1 : Int32)) hC dX5_spend_88 (by decide) rfl ?_
              refine j_iadd (pc' := 90) hC dX5_spend_89 rfl ?_
              refine j_iast (pc' := 91) hC (X_ln4 d _ h_o) (X_lna_4 d _ _ h_o) dX5_spend_90 rfl ?_
              refine j_st (fun σ4 => ?_)
              exact j_lv (lv' := [(0, .ref (d.2.1 o)), (1, .int p1), (2, .null), (3, .int (a.2.1 + (a39.1.1 (o + 2) (a.2.2.1).toNatClampNeg))), (4, .int a.2.2.1), (5, .int a.2.2.2)]) [1, 2, 3, 0, 4, 5] rfl (hj91 (σ4, (a.2.1 + (a39.1.1 (o + 2) (a.2.2.1).toNatClampNeg))))
            · refine j_goto (tgt := 105) hC dX5_spend_67 (by decide) ?_
              refine j_aload_n (pc' := 106) hC 0 dX5_spend_105 rfl rfl rfl ?_
              refine j_iload_n (pc' := 107) hC 3 dX5_spend_106 rfl rfl rfl ?_
              refine j_put (pc' := 110) hC ly_X5 tyX5 tyX5_ok nmX5 (X_ln d _ h_o) rfl 8 (by decide) fl_X5_83 rfl rfl rfl rfl (Nat.le_of_ble_eq_true rfl) (X_lnf_8 d _ _ h_o) dX5_spend_107 rfl ?_
              refine j_st (fun σ5 => ?_)
              exact j_ret_v hC dX5_spend_110
          · refine j_if_eq (pc' := 46) (tgt := 54) hC dX5_spend_43 (by decide) rfl ?_ ?_
            · exact j_lv (lv' := [(0, .ref (d.2.1 o)), (1, .int p1), (2, .null), (3, .int a.2.1), (4, .int a.2.2.1), (5, .int a.2.2.2)]) [1, 2, 3, 4, 5, 6] rfl (hj54 ())
            · refine j_aload_n (pc' := 47) hC 1 dX5_spend_46 rfl rfl rfl ?_
              refine j_get (pc' := 50) hC ly_X5 (X_ln d _ h_o) rfl 7 (by decide) fl_X5_36 rfl dX5_spend_47 rfl ?_
              refine j_iconst (pc' := 51) (v := (1 : Int32)) hC dX5_spend_50 (by decide) rfl ?_
              refine j_icmp_ne (pc' := 54) (tgt := 91) hC dX5_spend_51 (by decide) rfl ?_ ?_
              · exact j_lv (lv' := [(0, .ref (d.2.1 o)), (1, .int p1), (2, .null), (3, .int a.2.1), (4, .int a.2.2.1), (5, .int a.2.2.2)]) [1, 2, 3, 4, 5, 6] rfl (hj91 (a39.1, a.2.1))
              · exact j_lv (lv' := [(0, .ref (d.2.1 o)), (1, .int p1), (2, .null), (3, .int a.2.1), (4, .int a.2.2.1), (5, .int a.2.2.2)]) [1, 2, 3, 4, 5, 6] rfl (hj54 ())
      · refine j_let 38 (fun a38 => a38) (fun a38 => [(0, .ref (d.2.1 o)), (1, .int p1), (2, .null), (3, .int a.2.1), (4, .int a.2.2.1), (5, .int a.2.2.2)]) (fun a38 => []) (fun a38 => ?_) (fun j38 hj38 => ?_)
        · refine j_iconst (pc' := 39) (v := (0 : Int32)) hC dX5_spend_38 (by decide) rfl ?_
          exact j_lv (lv' := [(0, .ref (d.2.1 o)), (1, .int p1), (2, .null), (3, .int a.2.1), (4, .int a.2.2.1), (5, .int a.2.2.2)]) [0, 1, 2, 3, 4, 5] rfl (hj39 (a38, (0 : Int32)))
        · refine j_ifnullN (tgt := 38) hC dX5_spend_24 (by decide) ?_
          exact j_lv (lv' := [(0, .ref (d.2.1 o)), (1, .int p1), (2, .null), (3, .int a.2.1), (4, .int a.2.2.1), (5, .int a.2.2.2)]) [0, 1, 2, 3, 4, 5] rfl (hj38 a.1)
noncomputable def fX5_spendD_B8 (o : Nat) (p1 : Int32) (s8 : jS × Int32 × Int32 × Int32 → Option (jS)) (a : jS × Int32 × Int32 × Int32) : Option (jS) :=
  (if (3600 : Int32) ≤ a.2.2.2 then (jst (ju a.1 o 8 a.2.1) fun (σ1 : jS) => (some σ1)) else (if (a.1.1 o 7) ≤ 0 then (jst (ju a.1 o 8 a.2.1) fun (σ2 : jS) => (some σ2)) else (jlet (fun (a39 : jS × Int32) => (jlet (fun (a91 : jS × Int32) => (Option.bind (fX5_behind o a91.1 a.2.2.1) fun (q3 : Int32) => (s8 (a91.1, a91.2, q3, (a.2.2.2 + (1 : Int32)))))) fun (j91 : (jS × Int32 → Option (jS))) => (jlet (fun (a54 : Unit) => (ob a.2.2.1 9 (if (a.2.1 + (a39.1.1 (o + 2) (a.2.2.1).toNatClampNeg)) ≤ p1 then (ob a.2.2.1 9 (ob a.2.2.1 9 (ob a.2.2.1 9 (jst (ju a39.1 (o + 4) (a.2.2.1).toNatClampNeg ((a39.1.1 (o + 4) (a.2.2.1).toNatClampNeg) + (1 : Int32))) fun (σ4 : jS) => (j91 (σ4, (a.2.1 + (a39.1.1 (o + 2) (a.2.2.1).toNatClampNeg)))))))) else (jst (ju a39.1 o 8 a.2.1) fun (σ5 : jS) => (some σ5))))) fun (j54 : (Unit → Option (jS))) => (if a39.2 = 0 then (j54 ()) else (if (a39.1.1 o 7) = (1 : Int32) then (j54 ()) else (j91 (a39.1, a.2.1))))))) fun (j39 : (jS × Int32 → Option (jS))) => (jlet (fun (a38 : jS) => (j39 (a38, (0 : Int32)))) fun (j38 : (jS → Option (jS))) => (Option.bind (fX3_next a.1) fun (q6 : (Int32 × jS)) => (if (jb q6.1) = 0 then (j38 q6.2) else (j39 (q6.2, (1 : Int32)))))))))
noncomputable def fX5_spendD (o : Nat) (σ : jS) (p1 : Int32) : Option (jS) :=
  (jloop (fX5_spendD_B8 o p1) jN (σ, (0 : Int32), (0 : Int32), (0 : Int32)))
set_option maxRecDepth 100000 in
set_option maxHeartbeats 4000000 in
theorem kX5_spendD (l : Launch) (d : jD) (A : Nat → Prop) {o : Nat} (h_o : jLn o) (σ : jS) (p1 : Int32) : jMv l yX5_spend (jws yX5_spend cX5_spend 7 none) { frames := 3, cells := 0, slots := 0, locals := 151 } d wX A [.ref (d.2.1 o), .int p1, .ref (d.2.1 36)] σ (fX5_spendD o σ p1) := by
  refine jStart_v (lv0 := [(0, .ref (d.2.1 o)), (1, .int p1), (2, .ref (d.2.1 36))]) (by decide) rfl (Nat.le_of_ble_eq_true rfl) rfl (fun z hC res => ?_)
  unfold fX5_spendD
  refine j_iconst (pc' := 1) (v := (0 : Int32)) hC dX5_spend_0 (by decide) rfl ?_
  refine j_istore_n (pc' := 2) (lv' := [(3, .int (0 : Int32)), (0, .ref (d.2.1 o)), (1, .int p1), (2, .ref (d.2.1 36))]) hC dX5_spend_1 rfl (by decide) rfl rfl ?_
  refine j_iconst (pc' := 3) (v := (0 : Int32)) hC dX5_spend_2 (by decide) rfl ?_
  refine j_istore (pc' := 5) (lv' := [(4, .int (0 : Int32)), (3, .int (0 : Int32)), (0, .ref (d.2.1 o)), (1, .int p1), (2, .ref (d.2.1 36))]) hC dX5_spend_3 (by decide) rfl rfl ?_
  refine j_iconst (pc' := 6) (v := (0 : Int32)) hC dX5_spend_5 (by decide) rfl ?_
  refine j_istore (pc' := 8) (lv' := [(5, .int (0 : Int32)), (4, .int (0 : Int32)), (3, .int (0 : Int32)), (0, .ref (d.2.1 o)), (1, .int p1), (2, .ref (d.2.1 36))]) hC dX5_spend_6 (by decide) rfl rfl ?_
  refine j_lv (lv' := [(0, .ref (d.2.1 o)), (1, .int p1), (2, .ref (d.2.1 36)), (3, .int (0 : Int32)), (4, .int (0 : Int32)), (5, .int (0 : Int32))]) [3, 4, 5, 2, 1, 0] rfl ?_
  refine j_loop 8 (fun a => a.1) (fun a => [(0, .ref (d.2.1 o)), (1, .int p1), (2, .ref (d.2.1 36)), (3, .int a.2.1), (4, .int a.2.2.1), (5, .int a.2.2.2)]) (fun s8 hs8 a => ?_) jN (σ, (0 : Int32), (0 : Int32), (0 : Int32))
  unfold fX5_spendD_B8
  refine j_iload (pc' := 10) hC 5 dX5_spend_8 rfl rfl ?_
  refine j_sipush (pc' := 13) (v := (3600 : Int32)) hC dX5_spend_10 (by decide) rfl ?_
  refine j_icmp_ge (pc' := 16) (tgt := 105) hC dX5_spend_13 (by decide) rfl ?_ ?_
  · refine j_aload_n (pc' := 106) hC 0 dX5_spend_105 rfl rfl rfl ?_
    refine j_iload_n (pc' := 107) hC 3 dX5_spend_106 rfl rfl rfl ?_
    refine j_put (pc' := 110) hC ly_X5 tyX5 tyX5_ok nmX5 (X_ln d _ h_o) rfl 8 (by decide) fl_X5_83 rfl rfl rfl rfl (Nat.le_of_ble_eq_true rfl) (X_lnf_8 d _ _ h_o) dX5_spend_107 rfl ?_
    refine j_st (fun σ1 => ?_)
    exact j_ret_v hC dX5_spend_110
  · refine j_aload_n (pc' := 17) hC 0 dX5_spend_16 rfl rfl rfl ?_
    refine j_get (pc' := 20) hC ly_X5 (X_ln d _ h_o) rfl 7 (by decide) fl_X5_36 rfl dX5_spend_17 rfl ?_
    refine j_if_le (pc' := 23) (tgt := 105) hC dX5_spend_20 (by decide) rfl ?_ ?_
    · refine j_aload_n (pc' := 106) hC 0 dX5_spend_105 rfl rfl rfl ?_
      refine j_iload_n (pc' := 107) hC 3 dX5_spend_106 rfl rfl rfl ?_
      refine j_put (pc' := 110) hC ly_X5 tyX5 tyX5_ok nmX5 (X_ln d _ h_o) rfl 8 (by decide) fl_X5_83 rfl rfl rfl rfl (Nat.le_of_ble_eq_true rfl) (X_lnf_8 d _ _ h_o) dX5_spend_107 rfl ?_
      refine j_st (fun σ2 => ?_)
      exact j_ret_v hC dX5_spend_110
    · refine j_aload_n (pc' := 24) hC 2 dX5_spend_23 rfl rfl rfl ?_
      refine j_let 39 (fun a39 => a39.1) (fun a39 => [(0, .ref (d.2.1 o)), (1, .int p1), (2, .ref (d.2.1 36)), (3, .int a.2.1), (4, .int a.2.2.1), (5, .int a.2.2.2)]) (fun a39 => [.int a39.2]) (fun a39 => ?_) (fun j39 hj39 => ?_)
      · refine j_istore (pc' := 41) (lv' := [(6, .int a39.2), (0, .ref (d.2.1 o)), (1, .int p1), (2, .ref (d.2.1 36)), (3, .int a.2.1), (4, .int a.2.2.1), (5, .int a.2.2.2)]) hC dX5_spend_39 (by decide) rfl rfl ?_
        refine j_iload (pc' := 43) hC 0 dX5_spend_41 rfl rfl ?_
        refine j_let 91 (fun a91 => a91.1) (fun a91 => [(0, .ref (d.2.1 o)), (1, .int p1), (2, .ref (d.2.1 36)), (3, .int a91.2), (4, .int a.2.2.1), (5, .int a.2.2.2)]) (fun a91 => []) (fun a91 => ?_) (fun j91 hj91 => ?_)
        · refine j_aload_n (pc' := 92) hC 0 dX5_spend_91 rfl rfl rfl ?_
          refine j_iload (pc' := 94) hC 4 dX5_spend_92 rfl rfl ?_
          refine j_callV_ir (pc' := 97) (As := [.int a.2.2.1]) (st := []) hC (X_ln d _ h_o) rfl (kX5_behind l d A h_o _ _) (jgV ml_X5_59 im_X5_behind se_X5_behind in_X5 cd_X5_behind) rfl rfl rfl hyV_X5_behind ⟨Nat.le_of_ble_eq_true rfl, Nat.le_of_ble_eq_true rfl⟩ rfl rfl (Nat.le_of_ble_eq_true rfl) dX5_spend_94 rfl (fun q3 => ?_)
          refine j_istore (pc' := 99) (lv' := [(4, .int q3), (0, .ref (d.2.1 o)), (1, .int p1), (2, .ref (d.2.1 36)), (3, .int a91.2), (5, .int a.2.2.2)]) hC dX5_spend_97 (by decide) rfl rfl ?_
          refine j_iinc (pc' := 102) (v := (a.2.2.2 + (1 : Int32))) (lv' := [(5, .int (a.2.2.2 + (1 : Int32))), (4, .int q3), (0, .ref (d.2.1 o)), (1, .int p1), (2, .ref (d.2.1 36)), (3, .int a91.2)]) hC 5 dX5_spend_99 rfl (by decide) rfl rfl rfl ?_
          refine j_goto (tgt := 8) hC dX5_spend_102 (by decide) ?_
          exact j_lv (lv' := [(0, .ref (d.2.1 o)), (1, .int p1), (2, .ref (d.2.1 36)), (3, .int a91.2), (4, .int q3), (5, .int (a.2.2.2 + (1 : Int32)))]) [2, 3, 4, 5, 1, 0] rfl (hs8 (a91.1, a91.2, q3, (a.2.2.2 + (1 : Int32))))
        · refine j_let 54 (fun a54 => a39.1) (fun a54 => [(0, .ref (d.2.1 o)), (1, .int p1), (2, .ref (d.2.1 36)), (3, .int a.2.1), (4, .int a.2.2.1), (5, .int a.2.2.2)]) (fun a54 => []) (fun a54 => ?_) (fun j54 hj54 => ?_)
          · refine j_iload_n (pc' := 55) hC 3 dX5_spend_54 rfl rfl rfl ?_
            refine j_aload_n (pc' := 56) hC 0 dX5_spend_55 rfl rfl rfl ?_
            refine j_get (pc' := 59) hC ly_X5 (X_ln d _ h_o) rfl 4 (by decide) fl_X5_15 rfl dX5_spend_56 rfl ?_
            refine j_iload (pc' := 61) hC 4 dX5_spend_59 rfl rfl ?_
            refine j_iald (pc' := 62) hC (X_ln2 d _ h_o) dX5_spend_61 rfl ?_
            refine j_iadd (pc' := 63) hC dX5_spend_62 rfl ?_
            refine j_iload_n (pc' := 64) hC 1 dX5_spend_63 rfl rfl rfl ?_
            refine j_icmp_le (pc' := 67) (tgt := 70) hC dX5_spend_64 (by decide) rfl ?_ ?_
            · refine j_iload_n (pc' := 71) hC 3 dX5_spend_70 rfl rfl rfl ?_
              refine j_aload_n (pc' := 72) hC 0 dX5_spend_71 rfl rfl rfl ?_
              refine j_get (pc' := 75) hC ly_X5 (X_ln d _ h_o) rfl 4 (by decide) fl_X5_15 rfl dX5_spend_72 rfl ?_
              refine j_iload (pc' := 77) hC 4 dX5_spend_75 rfl rfl ?_
              refine j_iald (pc' := 78) hC (X_ln2 d _ h_o) dX5_spend_77 rfl ?_
              refine j_iadd (pc' := 79) hC dX5_spend_78 rfl ?_
              refine j_istore_n (pc' := 80) (lv' := [(3, .int (a.2.1 + (a39.1.1 (o + 2) (a.2.2.1).toNatClampNeg))), (0, .ref (d.2.1 o)), (1, .int p1), (2, .ref (d.2.1 36)), (4, .int a.2.2.1), (5, .int a.2.2.2)]) hC dX5_spend_79 rfl (by decide) rfl rfl ?_
              refine j_aload_n (pc' := 81) hC 1 dX5_spend_80 rfl rfl rfl ?_
              refine j_get (pc' := 84) hC ly_X5 (X_ln d _ h_o) rfl 6 (by decide) fl_X5_21 rfl dX5_spend_81 rfl ?_
              refine j_iload (pc' := 86) hC 4 dX5_spend_84 rfl rfl ?_
              refine j_dup2 (pc' := 87) hC rfl rfl dX5_spend_86 rfl ?_
              refine j_iald (pc' := 88) hC (X_ln4 d _ h_o) dX5_spend_87 rfl ?_
              refine j_iconst (pc' := 89) (v := (1 : Int32)) hC dX5_spend_88 (by decide) rfl ?_
              refine j_iadd (pc' := 90) hC dX5_spend_89 rfl ?_
              refine j_iast (pc' := 91) hC (X_ln4 d _ h_o) (X_lna_4 d _ _ h_o) dX5_spend_90 rfl ?_
              refine j_st (fun σ4 => ?_)
              exact j_lv (lv' := [(0, .ref (d.2.1 o)), (1, .int p1), (2, .ref (d.2.1 36)), (3, .int (a.2.1 + (a39.1.1 (o + 2) (a.2.2.1).toNatClampNeg))), (4, .int a.2.2.1), (5, .int a.2.2.2)]) [1, 2, 3, 0, 4, 5] rfl (hj91 (σ4, (a.2.1 + (a39.1.1 (o + 2) (a.2.2.1).toNatClampNeg))))
            · refine j_goto (tgt := 105) hC dX5_spend_67 (by decide) ?_
              refine j_aload_n (pc' := 106) hC 0 dX5_spend_105 rfl rfl rfl ?_
              refine j_iload_n (pc' := 107) hC 3 dX5_spend_106 rfl rfl rfl ?_
              refine j_put (pc' := 110) hC ly_X5 tyX5 tyX5_ok nmX5 (X_ln d _ h_o) rfl 8 (by decide) fl_X5_83 rfl rfl rfl rfl (Nat.le_of_ble_eq_true rfl) (X_lnf_8 d _ _ h_o) dX5_spend_107 rfl ?_
              refine j_st (fun σ5 => ?_)
              exact j_ret_v hC dX5_spend_110
          · refine j_if_eq (pc' := 46) (tgt := 54) hC dX5_spend_43 (by decide) rfl ?_ ?_
            · exact j_lv (lv' := [(0, .ref (d.2.1 o)), (1, .int p1), (2, .ref (d.2.1 36)), (3, .int a.2.1), (4, .int a.2.2.1), (5, .int a.2.2.2)]) [1, 2, 3, 4, 5, 6] rfl (hj54 ())
            · refine j_aload_n (pc' := 47) hC 1 dX5_spend_46 rfl rfl rfl ?_
              refine j_get (pc' := 50) hC ly_X5 (X_ln d _ h_o) rfl 7 (by decide) fl_X5_36 rfl dX5_spend_47 rfl ?_
              refine j_iconst (pc' := 51) (v := (1 : Int32)) hC dX5_spend_50 (by decide) rfl ?_
              refine j_icmp_ne (pc' := 54) (tgt := 91) hC dX5_spend_51 (by decide) rfl ?_ ?_
              · exact j_lv (lv' := [(0, .ref (d.2.1 o)), (1, .int p1), (2, .ref (d.2.1 36)), (3, .int a.2.1), (4, .int a.2.2.1), (5, .int a.2.2.2)]) [1, 2, 3, 4, 5, 6] rfl (hj91 (a39.1, a.2.1))
              · exact j_lv (lv' := [(0, .ref (d.2.1 o)), (1, .int p1), (2, .ref (d.2.1 36)), (3, .int a.2.1), (4, .int a.2.2.1), (5, .int a.2.2.2)]) [1, 2, 3, 4, 5, 6] rfl (hj54 ())
      · refine j_let 38 (fun a38 => a38) (fun a38 => [(0, .ref (d.2.1 o)), (1, .int p1), (2, .ref (d.2.1 36)), (3, .int a.2.1), (4, .int a.2.2.1), (5, .int a.2.2.2)]) (fun a38 => []) (fun a38 => ?_) (fun j38 hj38 => ?_)
        · refine j_iconst (pc' := 39) (v := (0 : Int32)) hC dX5_spend_38 (by decide) rfl ?_
          exact j_lv (lv' := [(0, .ref (d.2.1 o)), (1, .int p1), (2, .ref (d.2.1 36)), (3, .int a.2.1), (4, .int a.2.2.1), (5, .int a.2.2.2)]) [0, 1, 2, 3, 4, 5] rfl (hj39 (a38, (0 : Int32)))
        · refine j_ifnull (pc' := 27) hC dX5_spend_24 rfl ?_
          refine j_aload_n (pc' := 28) hC 2 dX5_spend_27 rfl rfl rfl ?_
          refine j_callV_z (pc' := 31) (As := []) (st := []) hC (X_at_36 d _) rfl (kX3_next l d A _) (jgV ml_X5_77 im_X3_next se_X3_next in_X3 cd_X3_next) rfl rfl rfl hyV_X3_next ⟨Nat.le_of_ble_eq_true rfl, Nat.le_of_ble_eq_true rfl⟩ rfl rfl (Nat.le_of_ble_eq_true rfl) dX5_spend_28 rfl (fun q6 => ?_)
          refine j_if_eq (pc' := 34) (tgt := 38) hC dX5_spend_31 (by decide) rfl ?_ ?_
          · exact j_lv (lv' := [(0, .ref (d.2.1 o)), (1, .int p1), (2, .ref (d.2.1 36)), (3, .int a.2.1), (4, .int a.2.2.1), (5, .int a.2.2.2)]) [0, 1, 2, 3, 4, 5] rfl (hj38 q6.2)
          · refine j_iconst (pc' := 35) (v := (1 : Int32)) hC dX5_spend_34 (by decide) rfl ?_
            refine j_goto (tgt := 39) hC dX5_spend_35 (by decide) ?_
            exact j_lv (lv' := [(0, .ref (d.2.1 o)), (1, .int p1), (2, .ref (d.2.1 36)), (3, .int a.2.1), (4, .int a.2.2.1), (5, .int a.2.2.2)]) [0, 1, 2, 3, 4, 5] rfl (hj39 (q6.2, (1 : Int32)))
