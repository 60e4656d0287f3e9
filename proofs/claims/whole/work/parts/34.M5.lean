theorem hyV_X12_shortSwings : yX12_shortSwings.cls = RX12 ∧ yX12_shortSwings.cls ≠ "java/lang/invoke/MethodHandle" ∧ yX12_shortSwings.cls ≠ "java/lang/invoke/VarHandle" ∧ (parseMethodDescriptor yX12_shortSwings.desc).map (fun d => d.parameters.length) = some 2 := ⟨rfl, by decide +kernel, by decide +kernel, by decide +kernel⟩
noncomputable def fX12_shortSwings (σ : jS) (p1 : Int32) (p2 : Int32) : Option (Int32 × jS) :=
  (Option.bind (fX12_ran σ (70 : Int32)) fun (q1 : jS) => (Option.bind (fX12_plainSwings q1 p1 p2) fun (q2 : (Int32 × jS)) => (some ((q2.1 * (2 : Int32)), q2.2))))
set_option maxRecDepth 100000 in
set_option maxHeartbeats 4000000 in
theorem kX12_shortSwings (l : Launch) (d : jD) (A : Nat → Prop) (σ : jS) (p1 : Int32) (p2 : Int32) : jMi l yX12_shortSwings (jws yX12_shortSwings cX12_shortSwings 3 (some (.int))) { frames := 4, cells := 0, slots := 0, locals := 173 } d wM A [.ref (d.2.1 0), .int p1, .int p2] σ (fX12_shortSwings σ p1 p2) := by
  refine jStart_i (lv0 := [(0, .ref (d.2.1 0)), (1, .int p1), (2, .int p2)]) (by decide) rfl (Nat.le_of_ble_eq_true rfl) rfl (fun z hC res => ?_)
  unfold fX12_shortSwings
  refine j_aload_n (pc' := 1) hC 0 dX12_shortSwings_0 rfl rfl rfl ?_
  refine j_bipush (pc' := 3) (v := (70 : Int32)) hC dX12_shortSwings_1 (by decide) rfl ?_
  refine j_callV_v (pc' := 6) (As := [.int (70 : Int32)]) (st := []) hC (M_at_0 d _) rfl (kX12_ran l d A _ _) (jgV ml_X12_352 im_X12_ran se_X12_ran in_X12 cd_X12_ran) rfl rfl rfl hyV_X12_ran ⟨Nat.le_of_ble_eq_true rfl, Nat.le_of_ble_eq_true rfl⟩ rfl rfl (Nat.le_of_ble_eq_true rfl) dX12_shortSwings_3 rfl (fun q1 => ?_)
  refine j_aload_n (pc' := 7) hC 0 dX12_shortSwings_6 rfl rfl rfl ?_
  refine j_iload_n (pc' := 8) hC 1 dX12_shortSwings_7 rfl rfl rfl ?_
  refine j_iload_n (pc' := 9) hC 2 dX12_shortSwings_8 rfl rfl rfl ?_
  refine j_callV_i (pc' := 12) (As := [.int p1, .int p2]) (st := []) hC (M_at_0 d _) rfl (kX12_plainSwings l d A _ _ _) (jgV ml_X12_355 im_X12_plainSwings se_X12_plainSwings in_X12 cd_X12_plainSwings) rfl rfl rfl hyV_X12_plainSwings ⟨Nat.le_of_ble_eq_true rfl, Nat.le_of_ble_eq_true rfl⟩ rfl rfl (Nat.le_of_ble_eq_true rfl) dX12_shortSwings_9 rfl (fun q2 => ?_)
  refine j_iconst (pc' := 13) (v := (2 : Int32)) hC dX12_shortSwings_12 (by decide) rfl ?_
  refine j_imul (pc' := 14) hC dX12_shortSwings_13 rfl ?_
  exact j_ret_i hC dX12_shortSwings_14
theorem hyV_X12_swinging : yX12_swinging.cls = RX12 ∧ yX12_swinging.cls ≠ "java/lang/invoke/MethodHandle" ∧ yX12_swinging.cls ≠ "java/lang/invoke/VarHandle" ∧ (parseMethodDescriptor yX12_swinging.desc).map (fun d => d.parameters.length) = some 2 := ⟨rfl, by decide +kernel, by decide +kernel, by decide +kernel⟩
noncomputable def fX12_swinging (σ : jS) (p1 : Int32) (p2 : Int32) : Option (Int32 × jS) :=
  (ob p1 50 (Option.bind (fX12_isUnder σ (σ.1 29 (p1).toNatClampNeg) (1 : Int32)) fun (q1 : Int32) => (if (jb q1) = 0 then (ob p1 50 (if (σ.1 29 (p1).toNatClampNeg) = (7 : Int32) then (Option.bind (fX12_ran σ (81 : Int32)) fun (q4 : jS) => (Option.bind (fX12_shortSwings q4 p1 p2) fun (q5 : (Int32 × jS)) => (some ((q5.1 - (1 : Int32)), q5.2)))) else (ob p1 50 (if (σ.1 29 (p1).toNatClampNeg) = (6 : Int32) then (Option.bind (fX12_shortSwings σ p1 p2) fun (q3 : (Int32 × jS)) => (some (q3.1, q3.2))) else (Option.bind (fX12_plainSwings σ p1 p2) fun (q2 : (Int32 × jS)) => (some (q2.1, q2.2))))))) else (Option.bind (fX12_ran σ (20 : Int32)) fun (q6 : jS) => (Option.bind (fX12_plainSwings q6 p1 p2) fun (q7 : (Int32 × jS)) => (some ((q7.1 + (3 : Int32)), q7.2)))))))
set_option maxRecDepth 100000 in
set_option maxHeartbeats 4000000 in
theorem kX12_swinging (l : Launch) (d : jD) (A : Nat → Prop) (σ : jS) (p1 : Int32) (p2 : Int32) : jMi l yX12_swinging (jws yX12_swinging cX12_swinging 3 (some (.int))) { frames := 5, cells := 0, slots := 0, locals := 195 } d wM A [.ref (d.2.1 0), .int p1, .int p2] σ (fX12_swinging σ p1 p2) := by
  refine jStart_i (lv0 := [(0, .ref (d.2.1 0)), (1, .int p1), (2, .int p2)]) (by decide) rfl (Nat.le_of_ble_eq_true rfl) rfl (fun z hC res => ?_)
  unfold fX12_swinging
  refine j_aload_n (pc' := 1) hC 0 dX12_swinging_0 rfl rfl rfl ?_
  refine j_get (pc' := 4) hC ly_X12 (M_at_0 d _) rfl 50 (by decide) fl_X12_103 rfl dX12_swinging_1 rfl ?_
  refine j_iload_n (pc' := 5) hC 1 dX12_swinging_4 rfl rfl rfl ?_
  refine j_iald (pc' := 6) hC (M_at_29 d _) dX12_swinging_5 rfl ?_
  refine j_iconst (pc' := 7) (v := (1 : Int32)) hC dX12_swinging_6 (by decide) rfl ?_
  refine j_callS_zr (pc' := 10) (As := [.int (σ.1 29 (p1).toNatClampNeg), .int (1 : Int32)]) (st := []) hC (kX12_isUnder l d A _ _ _) (jgS ml_X12_358 st_X12_isUnder in_X12 cd_X12_isUnder) rfl rfl rfl hyS_X12_isUnder ⟨Nat.le_of_ble_eq_true rfl, Nat.le_of_ble_eq_true rfl⟩ rfl rfl (Nat.le_of_ble_eq_true rfl) dX12_swinging_7 rfl (fun q1 => ?_)
  refine j_if_eq (pc' := 13) (tgt := 28) hC dX12_swinging_10 (by decide) rfl ?_ ?_
  · refine j_aload_n (pc' := 29) hC 0 dX12_swinging_28 rfl rfl rfl ?_
    refine j_get (pc' := 32) hC ly_X12 (M_at_0 d _) rfl 50 (by decide) fl_X12_103 rfl dX12_swinging_29 rfl ?_
    refine j_iload_n (pc' := 33) hC 1 dX12_swinging_32 rfl rfl rfl ?_
    refine j_iald (pc' := 34) hC (M_at_29 d _) dX12_swinging_33 rfl ?_
    refine j_bipush (pc' := 36) (v := (7 : Int32)) hC dX12_swinging_34 (by decide) rfl ?_
    refine j_icmp_ne (pc' := 39) (tgt := 54) hC dX12_swinging_36 (by decide) rfl ?_ ?_
    · refine j_aload_n (pc' := 55) hC 0 dX12_swinging_54 rfl rfl rfl ?_
      refine j_get (pc' := 58) hC ly_X12 (M_at_0 d _) rfl 50 (by decide) fl_X12_103 rfl dX12_swinging_55 rfl ?_
      refine j_iload_n (pc' := 59) hC 1 dX12_swinging_58 rfl rfl rfl ?_
      refine j_iald (pc' := 60) hC (M_at_29 d _) dX12_swinging_59 rfl ?_
      refine j_bipush (pc' := 62) (v := (6 : Int32)) hC dX12_swinging_60 (by decide) rfl ?_
      refine j_icmp_ne (pc' := 65) (tgt := 74) hC dX12_swinging_62 (by decide) rfl ?_ ?_
      · refine j_aload_n (pc' := 75) hC 0 dX12_swinging_74 rfl rfl rfl ?_
        refine j_iload_n (pc' := 76) hC 1 dX12_swinging_75 rfl rfl rfl ?_
        refine j_iload_n (pc' := 77) hC 2 dX12_swinging_76 rfl rfl rfl ?_
        refine j_callV_i (pc' := 80) (As := [.int p1, .int p2]) (st := []) hC (M_at_0 d _) rfl (kX12_plainSwings l d A _ _ _) (jgV ml_X12_355 im_X12_plainSwings se_X12_plainSwings in_X12 cd_X12_plainSwings) rfl rfl rfl hyV_X12_plainSwings ⟨Nat.le_of_ble_eq_true rfl, Nat.le_of_ble_eq_true rfl⟩ rfl rfl (Nat.le_of_ble_eq_true rfl) dX12_swinging_77 rfl (fun q2 => ?_)
        exact j_ret_i hC dX12_swinging_80
      · refine j_aload_n (pc' := 66) hC 0 dX12_swinging_65 rfl rfl rfl ?_
        refine j_iload_n (pc' := 67) hC 1 dX12_swinging_66 rfl rfl rfl ?_
        refine j_iload_n (pc' := 68) hC 2 dX12_swinging_67 rfl rfl rfl ?_
        refine j_callV_i (pc' := 71) (As := [.int p1, .int p2]) (st := []) hC (M_at_0 d _) rfl (kX12_shortSwings l d A _ _ _) (jgV ml_X12_361 im_X12_shortSwings se_X12_shortSwings in_X12 cd_X12_shortSwings) rfl rfl rfl hyV_X12_shortSwings ⟨Nat.le_of_ble_eq_true rfl, Nat.le_of_ble_eq_true rfl⟩ rfl rfl (Nat.le_of_ble_eq_true rfl) dX12_swinging_68 rfl (fun q3 => ?_)
        refine j_goto (tgt := 80) hC dX12_swinging_71 (by decide) ?_
        exact j_ret_i hC dX12_swinging_80
    · refine j_aload_n (pc' := 40) hC 0 dX12_swinging_39 rfl rfl rfl ?_
      refine j_bipush (pc' := 42) (v := (81 : Int32)) hC dX12_swinging_40 (by decide) rfl ?_
      refine j_callV_v (pc' := 45) (As := [.int (81 : Int32)]) (st := []) hC (M_at_0 d _) rfl (kX12_ran l d A _ _) (jgV ml_X12_352 im_X12_ran se_X12_ran in_X12 cd_X12_ran) rfl rfl rfl hyV_X12_ran ⟨Nat.le_of_ble_eq_true rfl, Nat.le_of_ble_eq_true rfl⟩ rfl rfl (Nat.le_of_ble_eq_true rfl) dX12_swinging_42 rfl (fun q4 => ?_)
      refine j_aload_n (pc' := 46) hC 0 dX12_swinging_45 rfl rfl rfl ?_
      refine j_iload_n (pc' := 47) hC 1 dX12_swinging_46 rfl rfl rfl ?_
      refine j_iload_n (pc' := 48) hC 2 dX12_swinging_47 rfl rfl rfl ?_
      refine j_callV_i (pc' := 51) (As := [.int p1, .int p2]) (st := []) hC (M_at_0 d _) rfl (kX12_shortSwings l d A _ _ _) (jgV ml_X12_361 im_X12_shortSwings se_X12_shortSwings in_X12 cd_X12_shortSwings) rfl rfl rfl hyV_X12_shortSwings ⟨Nat.le_of_ble_eq_true rfl, Nat.le_of_ble_eq_true rfl⟩ rfl rfl (Nat.le_of_ble_eq_true rfl) dX12_swinging_48 rfl (fun q5 => ?_)
      refine j_iconst (pc' := 52) (v := (1 : Int32)) hC dX12_swinging_51 (by decide) rfl ?_
      refine j_isub (pc' := 53) hC dX12_swinging_52 rfl ?_
      exact j_ret_i hC dX12_swinging_53
  · refine j_aload_n (pc' := 14) hC 0 dX12_swinging_13 rfl rfl rfl ?_
    refine j_bipush (pc' := 16) (v := (20 : Int32)) hC dX12_swinging_14 (by decide) rfl ?_
    refine j_callV_v (pc' := 19) (As := [.int (20 : Int32)]) (st := []) hC (M_at_0 d _) rfl (kX12_ran l d A _ _) (jgV ml_X12_352 im_X12_ran se_X12_ran in_X12 cd_X12_ran) rfl rfl rfl hyV_X12_ran ⟨Nat.le_of_ble_eq_true rfl, Nat.le_of_ble_eq_true rfl⟩ rfl rfl (Nat.le_of_ble_eq_true rfl) dX12_swinging_16 rfl (fun q6 => ?_)
    refine j_aload_n (pc' := 20) hC 0 dX12_swinging_19 rfl rfl rfl ?_
    refine j_iload_n (pc' := 21) hC 1 dX12_swinging_20 rfl rfl rfl ?_
    refine j_iload_n (pc' := 22) hC 2 dX12_swinging_21 rfl rfl rfl ?_
    refine j_callV_i (pc' := 25) (As := [.int p1, .int p2]) (st := []) hC (M_at_0 d _) rfl (kX12_plainSwings l d A _ _ _) (jgV ml_X12_355 im_X12_plainSwings se_X12_plainSwings in_X12 cd_X12_plainSwings) rfl rfl rfl hyV_X12_plainSwings ⟨Nat.le_of_ble_eq_true rfl, Nat.le_of_ble_eq_true rfl⟩ rfl rfl (Nat.le_of_ble_eq_true rfl) dX12_swinging_22 rfl (fun q7 => ?_)
    refine j_iconst (pc' := 26) (v := (3 : Int32)) hC dX12_swinging_25 (by decide) rfl ?_
    refine j_iadd (pc' := 27) hC dX12_swinging_26 rfl ?_
    exact j_ret_i hC dX12_swinging_27
theorem hyV_X12_plainCounts : yX12_plainCounts.cls = RX12 ∧ yX12_plainCounts.cls ≠ "java/lang/invoke/MethodHandle" ∧ yX12_plainCounts.cls ≠ "java/lang/invoke/VarHandle" ∧ (parseMethodDescriptor yX12_plainCounts.desc).map (fun d => d.parameters.length) = some 2 := ⟨rfl, by decide +kernel, by decide +kernel, by decide +kernel⟩
noncomputable def fX12_plainCounts (σ : jS) (p1 : Int32) (p2 : Int32) : Option (Int32 × jS) :=
  (Option.bind (fX12_ran σ (10 : Int32)) fun (q1 : jS) => (Option.bind (fX12_swinging q1 p1 p2) fun (q2 : (Int32 × jS)) => (some ((q2.1 * (2 : Int32)), q2.2))))
set_option maxRecDepth 100000 in
set_option maxHeartbeats 4000000 in
theorem kX12_plainCounts (l : Launch) (d : jD) (A : Nat → Prop) (σ : jS) (p1 : Int32) (p2 : Int32) : jMi l yX12_plainCounts (jws yX12_plainCounts cX12_plainCounts 3 (some (.int))) { frames := 6, cells := 0, slots := 0, locals := 217 } d wM A [.ref (d.2.1 0), .int p1, .int p2] σ (fX12_plainCounts σ p1 p2) := by
  refine jStart_i (lv0 := [(0, .ref (d.2.1 0)), (1, .int p1), (2, .int p2)]) (by decide) rfl (Nat.le_of_ble_eq_true rfl) rfl (fun z hC res => ?_)
  unfold fX12_plainCounts
  refine j_aload_n (pc' := 1) hC 0 dX12_plainCounts_0 rfl rfl rfl ?_
  refine j_bipush (pc' := 3) (v := (10 : Int32)) hC dX12_plainCounts_1 (by decide) rfl ?_
  refine j_callV_v (pc' := 6) (As := [.int (10 : Int32)]) (st := []) hC (M_at_0 d _) rfl (kX12_ran l d A _ _) (jgV ml_X12_352 im_X12_ran se_X12_ran in_X12 cd_X12_ran) rfl rfl rfl hyV_X12_ran ⟨Nat.le_of_ble_eq_true rfl, Nat.le_of_ble_eq_true rfl⟩ rfl rfl (Nat.le_of_ble_eq_true rfl) dX12_plainCounts_3 rfl (fun q1 => ?_)
  refine j_aload_n (pc' := 7) hC 0 dX12_plainCounts_6 rfl rfl rfl ?_
  refine j_iload_n (pc' := 8) hC 1 dX12_plainCounts_7 rfl rfl rfl ?_
  refine j_iload_n (pc' := 9) hC 2 dX12_plainCounts_8 rfl rfl rfl ?_
  refine j_callV_i (pc' := 12) (As := [.int p1, .int p2]) (st := []) hC (M_at_0 d _) rfl (kX12_swinging l d A _ _ _) (jgV ml_X12_364 im_X12_swinging se_X12_swinging in_X12 cd_X12_swinging) rfl rfl rfl hyV_X12_swinging ⟨Nat.le_of_ble_eq_true rfl, Nat.le_of_ble_eq_true rfl⟩ rfl rfl (Nat.le_of_ble_eq_true rfl) dX12_plainCounts_9 rfl (fun q2 => ?_)
  refine j_iconst (pc' := 13) (v := (2 : Int32)) hC dX12_plainCounts_12 (by decide) rfl ?_
  refine j_imul (pc' := 14) hC dX12_plainCounts_13 rfl ?_
  exact j_ret_i hC dX12_plainCounts_14
theorem hyV_X12_longCounts : yX12_longCounts.cls = RX12 ∧ yX12_longCounts.cls ≠ "java/lang/invoke/MethodHandle" ∧ yX12_longCounts.cls ≠ "java/lang/invoke/VarHandle" ∧ (parseMethodDescriptor yX12_longCounts.desc).map (fun d => d.parameters.length) = some 2 := ⟨rfl, by decide +kernel, by decide +kernel, by decide +kernel⟩
noncomputable def fX12_longCounts (σ : jS) (p1 : Int32) (p2 : Int32) : Option (Int32 × jS) :=
  (Option.bind (fX12_ran σ (30 : Int32)) fun (q1 : jS) => (Option.bind (fX12_plainCounts q1 p1 p2) fun (q2 : (Int32 × jS)) => (some ((-q2.1), q2.2))))
set_option maxRecDepth 100000 in
set_option maxHeartbeats 4000000 in
theorem kX12_longCounts (l : Launch) (d : jD) (A : Nat → Prop) (σ : jS) (p1 : Int32) (p2 : Int32) : jMi l yX12_longCounts (jws yX12_longCounts cX12_longCounts 3 (some (.int))) { frames := 7, cells := 0, slots := 0, locals := 239 } d wM A [.ref (d.2.1 0), .int p1, .int p2] σ (fX12_longCounts σ p1 p2) := by
  refine jStart_i (lv0 := [(0, .ref (d.2.1 0)), (1, .int p1), (2, .int p2)]) (by decide) rfl (Nat.le_of_ble_eq_true rfl) rfl (fun z hC res => ?_)
  unfold fX12_longCounts
  refine j_aload_n (pc' := 1) hC 0 dX12_longCounts_0 rfl rfl rfl ?_
  refine j_bipush (pc' := 3) (v := (30 : Int32)) hC dX12_longCounts_1 (by decide) rfl ?_
  refine j_callV_v (pc' := 6) (As := [.int (30 : Int32)]) (st := []) hC (M_at_0 d _) rfl (kX12_ran l d A _ _) (jgV ml_X12_352 im_X12_ran se_X12_ran in_X12 cd_X12_ran) rfl rfl rfl hyV_X12_ran ⟨Nat.le_of_ble_eq_true rfl, Nat.le_of_ble_eq_true rfl⟩ rfl rfl (Nat.le_of_ble_eq_true rfl) dX12_longCounts_3 rfl (fun q1 => ?_)
  refine j_aload_n (pc' := 7) hC 0 dX12_longCounts_6 rfl rfl rfl ?_
  refine j_iload_n (pc' := 8) hC 1 dX12_longCounts_7 rfl rfl rfl ?_
  refine j_iload_n (pc' := 9) hC 2 dX12_longCounts_8 rfl rfl rfl ?_
  refine j_callV_i (pc' := 12) (As := [.int p1, .int p2]) (st := []) hC (M_at_0 d _) rfl (kX12_plainCounts l d A _ _ _) (jgV ml_X12_367 im_X12_plainCounts se_X12_plainCounts in_X12 cd_X12_plainCounts) rfl rfl rfl hyV_X12_plainCounts ⟨Nat.le_of_ble_eq_true rfl, Nat.le_of_ble_eq_true rfl⟩ rfl rfl (Nat.le_of_ble_eq_true rfl) dX12_longCounts_9 rfl (fun q2 => ?_)
  refine j_ineg (pc' := 13) hC dX12_longCounts_12 rfl ?_
  exact j_ret_i hC dX12_longCounts_13
theorem hyV_X12_plainWaits : yX12_plainWaits.cls = RX12 ∧ yX12_plainWaits.cls ≠ "java/lang/invoke/MethodHandle" ∧ yX12_plainWaits.cls ≠ "java/lang/invoke/VarHandle" ∧ (parseMethodDescriptor yX12_plainWaits.desc).map (fun d => d.parameters.length) = some 2 := ⟨rfl, by decide +kernel, by decide +kernel, by decide +kernel⟩
noncomputable def fX12_plainWaits (σ : jS) (p1 : Int32) (p2 : Int32) : Option (Int32 × jS) :=
  (Option.bind (fX12_ran σ (11 : Int32)) fun (q1 : jS) => (some ((p2 ^^^ p1), q1)))
set_option maxRecDepth 100000 in
set_option maxHeartbeats 4000000 in
theorem kX12_plainWaits (l : Launch) (d : jD) (A : Nat → Prop) (σ : jS) (p1 : Int32) (p2 : Int32) : jMi l yX12_plainWaits (jws yX12_plainWaits cX12_plainWaits 3 (some (.int))) { frames := 3, cells := 0, slots := 0, locals := 151 } d wM A [.ref (d.2.1 0), .int p1, .int p2] σ (fX12_plainWaits σ p1 p2) := by
  refine jStart_i (lv0 := [(0, .ref (d.2.1 0)), (1, .int p1), (2, .int p2)]) (by decide) rfl (Nat.le_of_ble_eq_true rfl) rfl (fun z hC res => ?_)
  unfold fX12_plainWaits
  refine j_aload_n (pc' := 1) hC 0 dX12_plainWaits_0 rfl rfl rfl ?_
  refine j_bipush (pc' := 3) (v := (11 : Int32)) hC dX12_plainWaits_1 (by decide) rfl ?_
  refine j_callV_v (pc' := 6) (As := [.int (11 : Int32)]) (st := []) hC (M_at_0 d _) rfl (kX12_ran l d A _ _) (jgV ml_X12_352 im_X12_ran se_X12_ran in_X12 cd_X12_ran) rfl rfl rfl hyV_X12_ran ⟨Nat.le_of_ble_eq_true rfl, Nat.le_of_ble_eq_true rfl⟩ rfl rfl (Nat.le_of_ble_eq_true rfl) dX12_plainWaits_3 rfl (fun q1 => ?_)
  refine j_iload_n (pc' := 7) hC 2 dX12_plainWaits_6 rfl rfl rfl ?_
  refine j_iload_n (pc' := 8) hC 1 dX12_plainWaits_7 rfl rfl rfl ?_
  refine j_ixor (pc' := 9) hC dX12_plainWaits_8 rfl ?_
  exact j_ret_i hC dX12_plainWaits_9
theorem hyV_X12_helpedWaits : yX12_helpedWaits.cls = RX12 ∧ yX12_helpedWaits.cls ≠ "java/lang/invoke/MethodHandle" ∧ yX12_helpedWaits.cls ≠ "java/lang/invoke/VarHandle" ∧ (parseMethodDescriptor yX12_helpedWaits.desc).map (fun d => d.parameters.length) = some 2 := ⟨rfl, by decide +kernel, by decide +kernel, by decide +kernel⟩
noncomputable def fX12_helpedWaits (σ : jS) (p1 : Int32) (p2 : Int32) : Option (Int32 × jS) :=
  (Option.bind (fX12_ran σ (40 : Int32)) fun (q1 : jS) => (Option.bind (fX12_plainWaits q1 p1 p2) fun (q2 : (Int32 × jS)) => (some ((q2.1 * (3 : Int32)), q2.2))))
set_option maxRecDepth 100000 in
set_option maxHeartbeats 4000000 in
theorem kX12_helpedWaits (l : Launch) (d : jD) (A : Nat → Prop) (σ : jS) (p1 : Int32) (p2 : Int32) : jMi l yX12_helpedWaits (jws yX12_helpedWaits cX12_helpedWaits 3 (some (.int))) { frames := 4, cells := 0, slots := 0, locals := 173 } d wM A [.ref (d.2.1 0), .int p1, .int p2] σ (fX12_helpedWaits σ p1 p2) := by
  refine jStart_i (lv0 := [(0, .ref (d.2.1 0)), (1, .int p1), (2, .int p2)]) (by decide) rfl (Nat.le_of_ble_eq_true rfl) rfl (fun z hC res => ?_)
  unfold fX12_helpedWaits
  refine j_aload_n (pc' := 1) hC 0 dX12_helpedWaits_0 rfl rfl rfl ?_
  refine j_bipush (pc' := 3) (v := (40 : Int32)) hC dX12_helpedWaits_1 (by decide) rfl ?_
  refine j_callV_v (pc' := 6) (As := [.int (40 : Int32)]) (st := []) hC (M_at_0 d _) rfl (kX12_ran l d A _ _) (jgV ml_X12_352 im_X12_ran se_X12_ran in_X12 cd_X12_ran) rfl rfl rfl hyV_X12_ran ⟨Nat.le_of_ble_eq_true rfl, Nat.le_of_ble_eq_true rfl⟩ rfl rfl (Nat.le_of_ble_eq_true rfl) dX12_helpedWaits_3 rfl (fun q1 => ?_)
  refine j_aload_n (pc' := 7) hC 0 dX12_helpedWaits_6 rfl rfl rfl ?_
  refine j_iload_n (pc' := 8) hC 1 dX12_helpedWaits_7 rfl rfl rfl ?_
  refine j_iload_n (pc' := 9) hC 2 dX12_helpedWaits_8 rfl rfl rfl ?_
  refine j_callV_i (pc' := 12) (As := [.int p1, .int p2]) (st := []) hC (M_at_0 d _) rfl (kX12_plainWaits l d A _ _ _) (jgV ml_X12_376 im_X12_plainWaits se_X12_plainWaits in_X12 cd_X12_plainWaits) rfl rfl rfl hyV_X12_plainWaits ⟨Nat.le_of_ble_eq_true rfl, Nat.le_of_ble_eq_true rfl⟩ rfl rfl (Nat.le_of_ble_eq_true rfl) dX12_helpedWaits_9 rfl (fun q2 => ?_)
  refine j_iconst (pc' := 13) (v := (3 : Int32)) hC dX12_helpedWaits_12 (by decide) rfl ?_
  refine j_imul (pc' := 14) hC dX12_helpedWaits_13 rfl ?_
  exact j_ret_i hC dX12_helpedWaits_14
theorem hyV_X12_waiting : yX12_waiting.cls = RX12 ∧ yX12_waiting.cls ≠ "java/lang/invoke/MethodHandle" ∧ yX12_waiting.cls ≠ "java/lang/invoke/VarHandle" ∧ (parseMethodDescriptor yX12_waiting.desc).map (fun d => d.parameters.length) = some 2 := ⟨rfl, by decide +kernel, by decide +kernel, by decide +kernel⟩
noncomputable def fX12_waiting (σ : jS) (p1 : Int32) (p2 : Int32) : Option (Int32 × jS) :=
  (ob p1 50 (if (σ.1 29 (p1).toNatClampNeg) = (5 : Int32) then (Option.bind (fX12_ran σ (60 : Int32)) fun (q3 : jS) => (Option.bind (fX12_helpedWaits q3 p1 p2) fun (q4 : (Int32 × jS)) => (Option.bind (fX12_swinging q4.2 p1 (2 : Int32)) fun (q5 : (Int32 × jS)) => (some ((q4.1 - q5.1), q5.2))))) else (ob p1 50 (if (σ.1 29 (p1).toNatClampNeg) = (3 : Int32) then (Option.bind (fX12_helpedWaits σ p1 p2) fun (q2 : (Int32 × jS)) => (some (q2.1, q2.2))) else (Option.bind (fX12_plainWaits σ p1 p2) fun (q1 : (Int32 × jS)) => (some (q1.1, q1.2)))))))
set_option maxRecDepth 100000 in
set_option maxHeartbeats 4000000 in
theorem kX12_waiting (l : Launch) (d : jD) (A : Nat → Prop) (σ : jS) (p1 : Int32) (p2 : Int32) : jMi l yX12_waiting (jws yX12_waiting cX12_waiting 4 (some (.int))) { frames := 6, cells := 0, slots := 0, locals := 217 } d wM A [.ref (d.2.1 0), .int p1, .int p2] σ (fX12_waiting σ p1 p2) := by
  refine jStart_i (lv0 := [(0, .ref (d.2.1 0)), (1, .int p1), (2, .int p2)]) (by decide) rfl (Nat.le_of_ble_eq_true rfl) rfl (fun z hC res => ?_)
  unfold fX12_waiting
  refine j_aload_n (pc' := 1) hC 0 dX12_waiting_0 rfl rfl rfl ?_
  refine j_get (pc' := 4) hC ly_X12 (M_at_0 d _) rfl 50 (by decide) fl_X12_103 rfl dX12_waiting_1 rfl ?_
  refine j_iload_n (pc' := 5) hC 1 dX12_waiting_4 rfl rfl rfl ?_
  refine j_iald (pc' := 6) hC (M_at_29 d _) dX12_waiting_5 rfl ?_
  refine j_iconst (pc' := 7) (v := (5 : Int32)) hC dX12_waiting_6 (by decide) rfl ?_
  refine j_icmp_ne (pc' := 10) (tgt := 32) hC dX12_waiting_7 (by decide) rfl ?_ ?_
  · refine j_aload_n (pc' := 33) hC 0 dX12_waiting_32 rfl rfl rfl ?_
    refine j_get (pc' := 36) hC ly_X12 (M_at_0 d _) rfl 50 (by decide) fl_X12_103 rfl dX12_waiting_33 rfl ?_
    refine j_iload_n (pc' := 37) hC 1 dX12_waiting_36 rfl rfl rfl ?_
    refine j_iald (pc' := 38) hC (M_at_29 d _) dX12_waiting_37 rfl ?_
    refine j_iconst (pc' := 39) (v := (3 : Int32)) hC dX12_waiting_38 (by decide) rfl ?_
    refine j_icmp_ne (pc' := 42) (tgt := 51) hC dX12_waiting_39 (by decide) rfl ?_ ?_
    · refine j_aload_n (pc' := 52) hC 0 dX12_waiting_51 rfl rfl rfl ?_
      refine j_iload_n (pc' := 53) hC 1 dX12_waiting_52 rfl rfl rfl ?_
      refine j_iload_n (pc' := 54) hC 2 dX12_waiting_53 rfl rfl rfl ?_
      refine j_callV_i (pc' := 57) (As := [.int p1, .int p2]) (st := []) hC (M_at_0 d _) rfl (kX12_plainWaits l d A _ _ _) (jgV ml_X12_376 im_X12_plainWaits se_X12_plainWaits in_X12 cd_X12_plainWaits) rfl rfl rfl hyV_X12_plainWaits ⟨Nat.le_of_ble_eq_true rfl, Nat.le_of_ble_eq_true rfl⟩ rfl rfl (Nat.le_of_ble_eq_true rfl) dX12_waiting_54 rfl (fun q1 => ?_)
      exact j_ret_i hC dX12_waiting_57
    · refine j_aload_n (pc' := 43) hC 0 dX12_waiting_42 rfl rfl rfl ?_
      refine j_iload_n (pc' := 44) hC 1 dX12_waiting_43 rfl rfl rfl ?_
      refine j_iload_n (pc' := 45) hC 2 dX12_waiting_44 rfl rfl rfl ?_
      refine j_callV_i (pc' := 48) (As := [.int p1, .int p2]) (st := []) hC (M_at_0 d _) rfl (kX12_helpedWaits l d A _ _ _) (jgV ml_X12_379 im_X12_helpedWaits se_X12_helpedWaits in_X12 cd_X12_helpedWaits) rfl rfl rfl hyV_X12_helpedWaits ⟨Nat.le_of_ble_eq_true rfl, Nat.le_of_ble_eq_true rfl⟩ rfl rfl (Nat.le_of_ble_eq_true rfl) dX12_waiting_45 rfl (fun q2 => ?_)
      refine j_goto (tgt := 57) hC dX12_waiting_48 (by decide) ?_
      exact j_ret_i hC dX12_waiting_57
  · refine j_aload_n (pc' := 11) hC 0 dX12_waiting_10 rfl rfl rfl ?_
    refine j_bipush (pc' := 13) (v := (60 : Int32)) hC dX12_waiting_11 (by decide) rfl ?_
    refine j_callV_v (pc' := 16) (As := [.int (60 : Int32)]) (st := []) hC (M_at_0 d _) rfl (kX12_ran l d A _ _) (jgV ml_X12_352 im_X12_ran se_X12_ran in_X12 cd_X12_ran) rfl rfl rfl hyV_X12_ran ⟨Nat.le_of_ble_eq_true rfl, Nat.le_of_ble_eq_true rfl⟩ rfl rfl (Nat.le_of_ble_eq_true rfl) dX12_waiting_13 rfl (fun q3 => ?_)
    refine j_aload_n (pc' := 17) hC 0 dX12_waiting_16 rfl rfl rfl ?_
    refine j_iload_n (pc' := 18) hC 1 dX12_waiting_17 rfl rfl rfl ?_
    refine j_iload_n (pc' := 19) hC 2 dX12_waiting_18 rfl rfl rfl ?_
    refine j_callV_i (pc' := 22) (As := [.int p1, .int p2]) (st := []) hC (M_at_0 d _) rfl (kX12_helpedWaits l d A _ _ _) (jgV ml_X12_379 im_X12_helpedWaits se_X12_helpedWaits in_X12 cd_X12_helpedWaits) rfl rfl rfl hyV_X12_helpedWaits ⟨Nat.le_of_ble_eq_true rfl, Nat.le_of_ble_eq_true rfl⟩ rfl rfl (Nat.le_of_ble_eq_true rfl) dX12_waiting_19 rfl (fun q4 => ?_)
    refine j_istore_n (pc' := 23) (lv' := [(3, .int q4.1), (0, .ref (d.2.1 0)), (1, .int p1), (2, .int p2)]) hC dX12_waiting_22 rfl (by decide) rfl rfl ?_
    refine j_iload_n (pc' := 24) hC 0 dX12_waiting_23 rfl rfl rfl ?_
    refine j_aload_n (pc' := 25) hC 1 dX12_waiting_24 rfl rfl rfl ?_
    refine j_iload_n (pc' := 26) hC 2 dX12_waiting_25 rfl rfl rfl ?_
    refine j_iconst (pc' := 27) (v := (2 : Int32)) hC dX12_waiting_26 (by decide) rfl ?_
    refine j_callV_i (pc' := 30) (As := [.int p1, .int (2 : Int32)]) (st := [.int q4.1]) hC (M_at_0 d _) rfl (kX12_swinging l d A _ _ _) (jgV ml_X12_364 im_X12_swinging se_X12_swinging in_X12 cd_X12_swinging) rfl rfl rfl hyV_X12_swinging ⟨Nat.le_of_ble_eq_true rfl, Nat.le_of_ble_eq_true rfl⟩ rfl rfl (Nat.le_of_ble_eq_true rfl) dX12_waiting_27 rfl (fun q5 => ?_)
    refine j_isub (pc' := 31) hC dX12_waiting_30 rfl ?_
    exact j_ret_i hC dX12_waiting_31
theorem hyV_X12_counting : yX12_counting.cls = RX12 ∧ yX12_counting.cls ≠ "java/lang/invoke/MethodHandle" ∧ yX12_counting.cls ≠ "java/lang/invoke/VarHandle" ∧ (parseMethodDescriptor yX12_counting.desc).map (fun d => d.parameters.length) = some 2 := ⟨rfl, by decide +kernel, by decide +kernel, by decide +kernel⟩
noncomputable def fX12_counting (σ : jS) (p1 : Int32) (p2 : Int32) : Option (Int32 × jS) :=
  (ob p1 50 (Option.bind (fX12_isUnder σ (σ.1 29 (p1).toNatClampNeg) (3 : Int32)) fun (q1 : Int32) => (if (jb q1) = 0 then (ob p1 50 (if (σ.1 29 (p1).toNatClampNeg) = (7 : Int32) then (Option.bind (fX12_ran σ (80 : Int32)) fun (q4 : jS) => (Option.bind (fX12_plainCounts q4 p1 p2) fun (q5 : (Int32 × jS)) => (Option.bind (fX12_waiting q5.2 p1 (2 : Int32)) fun (q6 : (Int32 × jS)) => (some ((q5.1 + q6.1), q6.2))))) else (ob p1 50 (if (σ.1 29 (p1).toNatClampNeg) = (2 : Int32) then (Option.bind (fX12_longCounts σ p1 p2) fun (q3 : (Int32 × jS)) => (some (q3.1, q3.2))) else (Option.bind (fX12_plainCounts σ p1 p2) fun (q2 : (Int32 × jS)) => (some (q2.1, q2.2))))))) else (Option.bind (fX12_ran σ (41 : Int32)) fun (q7 : jS) => (Option.bind (fX12_longCounts q7 p1 (p2 + (1 : Int32))) fun (q8 : (Int32 × jS)) => (some (q8.1, q8.2)))))))
set_option maxRecDepth 100000 in
set_option maxHeartbeats 4000000 in
theorem kX12_counting (l : Launch) (d : jD) (A : Nat → Prop) (σ : jS) (p1 : Int32) (p2 : Int32) : jMi l yX12_counting (jws yX12_counting cX12_counting 4 (some (.int))) { frames := 8, cells := 0, slots := 0, locals := 261 } d wM A [.ref (d.2.1 0), .int p1, .int p2] σ (fX12_counting σ p1 p2) := by
  refine jStart_i (lv0 := [(0, .ref (d.2.1 0)), (1, .int p1), (2, .int p2)]) (by decide) rfl (Nat.le_of_ble_eq_true rfl) rfl (fun z hC res => ?_)
  unfold fX12_counting
  refine j_aload_n (pc' := 1) hC 0 dX12_counting_0 rfl rfl rfl ?_
  refine j_get (pc' := 4) hC ly_X12 (M_at_0 d _) rfl 50 (by decide) fl_X12_103 rfl dX12_counting_1 rfl ?_
  refine j_iload_n (pc' := 5) hC 1 dX12_counting_4 rfl rfl rfl ?_
  refine j_iald (pc' := 6) hC (M_at_29 d _) dX12_counting_5 rfl ?_
  refine j_iconst (pc' := 7) (v := (3 : Int32)) hC dX12_counting_6 (by decide) rfl ?_
  refine j_callS_zr (pc' := 10) (As := [.int (σ.1 29 (p1).toNatClampNeg), .int (3 : Int32)]) (st := []) hC (kX12_isUnder l d A _ _ _) (jgS ml_X12_358 st_X12_isUnder in_X12 cd_X12_isUnder) rfl rfl rfl hyS_X12_isUnder ⟨Nat.le_of_ble_eq_true rfl, Nat.le_of_ble_eq_true rfl⟩ rfl rfl (Nat.le_of_ble_eq_true rfl) dX12_counting_7 rfl (fun q1 => ?_)
  refine j_if_eq (pc' := 13) (tgt := 28) hC dX12_counting_10 (by decide) rfl ?_ ?_
  · refine j_aload_n (pc' := 29) hC 0 dX12_counting_28 rfl rfl rfl ?_
    refine j_get (pc' := 32) hC ly_X12 (M_at_0 d _) rfl 50 (by decide) fl_X12_103 rfl dX12_counting_29 rfl ?_
    refine j_iload_n (pc' := 33) hC 1 dX12_counting_32 rfl rfl rfl ?_
    refine j_iald (pc' := 34) hC (M_at_29 d _) dX12_counting_33 rfl ?_
    refine j_bipush (pc' := 36) (v := (7 : Int32)) hC dX12_counting_34 (by decide) rfl ?_
    refine j_icmp_ne (pc' := 39) (tgt := 61) hC dX12_counting_36 (by decide) rfl ?_ ?_
    · refine j_aload_n (pc' := 62) hC 0 dX12_counting_61 rfl rfl rfl ?_
      refine j_get (pc' := 65) hC ly_X12 (M_at_0 d _) rfl 50 (by decide) fl_X12_103 rfl dX12_counting_62 rfl ?_
      refine j_iload_n (pc' := 66) hC 1 dX12_counting_65 rfl rfl rfl ?_
      refine j_iald (pc' := 67) hC (M_at_29 d _) dX12_counting_66 rfl ?_
      refine j_iconst (pc' := 68) (v := (2 : Int32)) hC dX12_counting_67 (by decide) rfl ?_
      refine j_icmp_ne (pc' := 71) (tgt := 80) hC dX12_counting_68 (by decide) rfl ?_ ?_
      · refine j_aload_n (pc' := 81) hC 0 dX12_counting_80 rfl rfl rfl ?_
        refine j_iload_n (pc' := 82) hC 1 dX12_counting_81 rfl rfl rfl ?_
        refine j_iload_n (pc' := 83) hC 2 dX12_counting_82 rfl rfl rfl ?_
        refine j_callV_i (pc' := 86) (As := [.int p1, .int p2]) (st := []) hC (M_at_0 d _) rfl (kX12_plainCounts l d A _ _ _) (jgV ml_X12_367 im_X12_plainCounts se_X12_plainCounts in_X12 cd_X12_plainCounts) rfl rfl rfl hyV_X12_plainCounts ⟨Nat.le_of_ble_eq_true rfl, Nat.le_of_ble_eq_true rfl⟩ rfl rfl (Nat.le_of_ble_eq_true rfl) dX12_counting_83 rfl (fun q2 => ?_)
        exact j_ret_i hC dX12_counting_86
      · refine j_aload_n (pc' := 72) hC 0 dX12_counting_71 rfl rfl rfl ?_
        refine j_iload_n (pc' := 73) hC 1 dX12_counting_72 rfl rfl rfl ?_
        refine j_iload_n (pc' := 74) hC 2 dX12_counting_73 rfl rfl rfl ?_
        refine j_callV_i (pc' := 77) (As := [.int p1, .int p2]) (st := []) hC (M_at_0 d _) rfl (kX12_longCounts l d A _ _ _) (jgV ml_X12_370 im_X12_longCounts se_X12_longCounts in_X12 cd_X12_longCounts) rfl rfl rfl hyV_X12_longCounts ⟨Nat.le_of_ble_eq_true rfl, Nat.le_of_ble_eq_true rfl⟩ rfl rfl (Nat.le_of_ble_eq_true rfl) dX12_counting_74 rfl (fun q3 => ?_)
        refine j_goto (tgt := 86) hC dX12_counting_77 (by decide) ?_
        exact j_ret_i hC dX12_counting_86
    · refine j_aload_n (pc' := 40) hC 0 dX12_counting_39 rfl rfl rfl ?_
      refine j_bipush (pc' := 42) (v := (80 : Int32)) hC dX12_counting_40 (by decide) rfl ?_
      refine j_callV_v (pc' := 45) (As := [.int (80 : Int32)]) (st := []) hC (M_at_0 d _) rfl (kX12_ran l d A _ _) (jgV ml_X12_352 im_X12_ran se_X12_ran in_X12 cd_X12_ran) rfl rfl rfl hyV_X12_ran ⟨Nat.le_of_ble_eq_true rfl, Nat.le_of_ble_eq_true rfl⟩ rfl rfl (Nat.le_of_ble_eq_true rfl) dX12_counting_42 rfl (fun q4 => ?_)
      refine j_aload_n (pc' := 46) hC 0 dX12_counting_45 rfl rfl rfl ?_
      refine j_iload_n (pc' := 47) hC 1 dX12_counting_46 rfl rfl rfl ?_
      refine j_iload_n (pc' := 48) hC 2 dX12_counting_47 rfl rfl rfl ?_
      refine j_callV_i (pc' := 51) (As := [.int p1, .int p2]) (st := []) hC (M_at_0 d _) rfl (kX12_plainCounts l d A _ _ _) (jgV ml_X12_367 im_X12_plainCounts se_X12_plainCounts in_X12 cd_X12_plainCounts) rfl rfl rfl hyV_X12_plainCounts ⟨Nat.le_of_ble_eq_true rfl, Nat.le_of_ble_eq_true rfl⟩ rfl rfl (Nat.le_of_ble_eq_true rfl) dX12_counting_48 rfl (fun q5 => ?_)
      refine j_istore_n (pc' := 52) (lv' := [(3, .int q5.1), (0, .ref (d.2.1 0)), (1, .int p1), (2, .int p2)]) hC dX12_counting_51 rfl (by decide) rfl rfl ?_
      refine j_iload_n (pc' := 53) hC 0 dX12_counting_52 rfl rfl rfl ?_
      refine j_aload_n (pc' := 54) hC 1 dX12_counting_53 rfl rfl rfl ?_
      refine j_iload_n (pc' := 55) hC 2 dX12_counting_54 rfl rfl rfl ?_
      refine j_iconst (pc' := 56) (v := (2 : Int32)) hC dX12_counting_55 (by decide) rfl ?_
      refine j_callV_i (pc' := 59) (As := [.int p1, .int (2 : Int32)]) (st := [.int q5.1]) hC (M_at_0 d _) rfl (kX12_waiting l d A _ _ _) (jgV ml_X12_373 im_X12_waiting se_X12_waiting in_X12 cd_X12_waiting) rfl rfl rfl hyV_X12_waiting ⟨Nat.le_of_ble_eq_true rfl, Nat.le_of_ble_eq_true rfl⟩ rfl rfl (Nat.le_of_ble_eq_true rfl) dX12_counting_56 rfl (fun q6 => ?_)
      refine j_iadd (pc' := 60) hC dX12_counting_59 rfl ?_
      exact j_ret_i hC dX12_counting_60
  · refine j_aload_n (pc' := 14) hC 0 dX12_counting_13 rfl rfl rfl ?_
    refine j_bipush (pc' := 16) (v := (41 : Int32)) hC dX12_counting_14 (by decide) rfl ?_
    refine j_callV_v (pc' := 19) (As := [.int (41 : Int32)]) (st := []) hC (M_at_0 d _) rfl (kX12_ran l d A _ _) (jgV ml_X12_352 im_X12_ran se_X12_ran in_X12 cd_X12_ran) rfl rfl rfl hyV_X12_ran ⟨Nat.le_of_ble_eq_true rfl, Nat.le_of_ble_eq_true rfl⟩ rfl rfl (Nat.le_of_ble_eq_true rfl) dX12_counting_16 rfl (fun q7 => ?_)
    refine j_aload_n (pc' := 20) hC 0 dX12_counting_19 rfl rfl rfl ?_
    refine j_iload_n (pc' := 21) hC 1 dX12_counting_20 rfl rfl rfl ?_
    refine j_iload_n (pc' := 22) hC 2 dX12_counting_21 rfl rfl rfl ?_
    refine j_iconst (pc' := 23) (v := (1 : Int32)) hC dX12_counting_22 (by decide) rfl ?_
    refine j_iadd (pc' := 24) hC dX12_counting_23 rfl ?_
    refine j_callV_i (pc' := 27) (As := [.int p1, .int (p2 + (1 : Int32))]) (st := []) hC (M_at_0 d _) rfl (kX12_longCounts l d A _ _ _) (jgV ml_X12_370 im_X12_longCounts se_X12_longCounts in_X12 cd_X12_longCounts) rfl rfl rfl hyV_X12_longCounts ⟨Nat.le_of_ble_eq_true rfl, Nat.le_of_ble_eq_true rfl⟩ rfl rfl (Nat.le_of_ble_eq_true rfl) dX12_counting_24 rfl (fun q8 => ?_)
    exact j_ret_i hC dX12_counting_27
theorem hyV_X12_plainTells : yX12_plainTells.cls = RX12 ∧ yX12_plainTells.cls ≠ "java/lang/invoke/MethodHandle" ∧ yX12_plainTells.cls ≠ "java/lang/invoke/VarHandle" ∧ (parseMethodDescriptor yX12_plainTells.desc).map (fun d => d.parameters.length) = some 2 := ⟨rfl, by decide +kernel, by decide +kernel, by decide +kernel⟩
noncomputable def fX12_plainTells (σ : jS) (p1 : Int32) (p2 : Int32) : Option (Int32 × jS) :=
  (Option.bind (fX12_ran σ (2 : Int32)) fun (q1 : jS) => (Option.bind (fX12_counting q1 p1 p2) fun (q2 : (Int32 × jS)) => (Option.bind (fX12_waiting q2.2 p1 (1 : Int32)) fun (q3 : (Int32 × jS)) => (some ((q2.1 - q3.1), q3.2)))))
set_option maxRecDepth 100000 in
set_option maxHeartbeats 4000000 in
theorem kX12_plainTells (l : Launch) (d : jD) (A : Nat → Prop) (σ : jS) (p1 : Int32) (p2 : Int32) : jMi l yX12_plainTells (jws yX12_plainTells cX12_plainTells 4 (some (.int))) { frames := 9, cells := 0, slots := 0, locals := 284 } d wM A [.ref (d.2.1 0), .int p1, .int p2] σ (fX12_plainTells σ p1 p2) := by
  refine jStart_i (lv0 := [(0, .ref (d.2.1 0)), (1, .int p1), (2, .int p2)]) (by decide) rfl (Nat.le_of_ble_eq_true rfl) rfl (fun z hC res => ?_)
  unfold fX12_plainTells
  refine j_aload_n (pc' := 1) hC 0 dX12_plainTells_0 rfl rfl rfl ?_
  refine j_iconst (pc' := 2) (v := (2 : Int32)) hC dX12_plainTells_1 (by decide) rfl ?_
  refine j_callV_v (pc' := 5) (As := [.int (2 : Int32)]) (st := []) hC (M_at_0 d _) rfl (kX12_ran l d A _ _) (jgV ml_X12_352 im_X12_ran se_X12_ran in_X12 cd_X12_ran) rfl rfl rfl hyV_X12_ran ⟨Nat.le_of_ble_eq_true rfl, Nat.le_of_ble_eq_true rfl⟩ rfl rfl (Nat.le_of_ble_eq_true rfl) dX12_plainTells_2 rfl (fun q1 => ?_)
  refine j_aload_n (pc' := 6) hC 0 dX12_plainTells_5 rfl rfl rfl ?_
  refine j_iload_n (pc' := 7) hC 1 dX12_plainTells_6 rfl rfl rfl ?_
  refine j_iload_n (pc' := 8) hC 2 dX12_plainTells_7 rfl rfl rfl ?_
  refine j_callV_i (pc' := 11) (As := [.int p1, .int p2]) (st := []) hC (M_at_0 d _) rfl (kX12_counting l d A _ _ _) (jgV ml_X12_382 im_X12_counting se_X12_counting in_X12 cd_X12_counting) rfl rfl rfl hyV_X12_counting ⟨Nat.le_of_ble_eq_true rfl, Nat.le_of_ble_eq_true rfl⟩ rfl rfl (Nat.le_of_ble_eq_true rfl) dX12_plainTells_8 rfl (fun q2 => ?_)
  refine j_istore_n (pc' := 12) (lv' := [(3, .int q2.1), (0, .ref (d.2.1 0)), (1, .int p1), (2, .int p2)]) hC dX12_plainTells_11 rfl (by decide) rfl rfl ?_
  refine j_iload_n (pc' := 13) hC 0 dX12_plainTells_12 rfl rfl rfl ?_
  refine j_aload_n (pc' := 14) hC 1 dX12_plainTells_13 rfl rfl rfl ?_
  refine j_iload_n (pc' := 15) hC 2 dX12_plainTells_14 rfl rfl rfl ?_
  refine j_iconst (pc' := 16) (v := (1 : Int32)) hC dX12_plainTells_15 (by decide) rfl ?_
  refine j_callV_i (pc' := 19) (As := [.int p1, .int (1 : Int32)]) (st := [.int q2.1]) hC (M_at_0 d _) rfl (kX12_waiting l d A _ _ _) (jgV ml_X12_373 im_X12_waiting se_X12_waiting in_X12 cd_X12_waiting) rfl rfl rfl hyV_X12_waiting ⟨Nat.le_of_ble_eq_true rfl, Nat.le_of_ble_eq_true rfl⟩ rfl rfl (Nat.le_of_ble_eq_true rfl) dX12_plainTells_16 rfl (fun q3 => ?_)
  refine j_isub (pc' := 20) hC dX12_plainTells_19 rfl ?_
  exact j_ret_i hC dX12_plainTells_20
theorem hyV_X12_telling : yX12_telling.cls = RX12 ∧ yX12_telling.cls ≠ "java/lang/invoke/MethodHandle" ∧ yX12_telling.cls ≠ "java/lang/invoke/VarHandle" ∧ (parseMethodDescriptor yX12_telling.desc).map (fun d => d.parameters.length) = some 2 := ⟨rfl, by decide +kernel, by decide +kernel, by decide +kernel⟩
noncomputable def fX12_telling (σ : jS) (p1 : Int32) (p2 : Int32) : Option (Int32 × jS) :=
  (ob p1 50 (if (σ.1 29 (p1).toNatClampNeg) = (4 : Int32) then (Option.bind (fX12_ran σ (50 : Int32)) fun (q4 : jS) => (Option.bind (fX12_plainTells q4 p1 p2) fun (q5 : (Int32 × jS)) => (some ((q5.1 ^^^ (5 : Int32)), q5.2)))) else (ob p1 50 (if (σ.1 29 (p1).toNatClampNeg) = (5 : Int32) then (Option.bind (fX12_ran σ (61 : Int32)) fun (q2 : jS) => (Option.bind (fX12_plainTells q2 p1 p2) fun (q3 : (Int32 × jS)) => (some ((q3.1 + (1 : Int32)), q3.2)))) else (Option.bind (fX12_plainTells σ p1 p2) fun (q1 : (Int32 × jS)) => (some (q1.1, q1.2)))))))
set_option maxRecDepth 100000 in
set_option maxHeartbeats 4000000 in
theorem kX12_telling (l : Launch) (d : jD) (A : Nat → Prop) (σ : jS) (p1 : Int32) (p2 : Int32) : jMi l yX12_telling (jws yX12_telling cX12_telling 3 (some (.int))) { frames := 10, cells := 0, slots := 0, locals := 307 } d wM A [.ref (d.2.1 0), .int p1, .int p2] σ (fX12_telling σ p1 p2) := by
  refine jStart_i (lv0 := [(0, .ref (d.2.1 0)), (1, .int p1), (2, .int p2)]) (by decide) rfl (Nat.le_of_ble_eq_true rfl) rfl (fun z hC res => ?_)
  unfold fX12_telling
  refine j_aload_n (pc' := 1) hC 0 dX12_telling_0 rfl rfl rfl ?_
  refine j_get (pc' := 4) hC ly_X12 (M_at_0 d _) rfl 50 (by decide) fl_X12_103 rfl dX12_telling_1 rfl ?_
  refine j_iload_n (pc' := 5) hC 1 dX12_telling_4 rfl rfl rfl ?_
  refine j_iald (pc' := 6) hC (M_at_29 d _) dX12_telling_5 rfl ?_
  refine j_iconst (pc' := 7) (v := (4 : Int32)) hC dX12_telling_6 (by decide) rfl ?_
  refine j_icmp_ne (pc' := 10) (tgt := 25) hC dX12_telling_7 (by decide) rfl ?_ ?_
  · refine j_aload_n (pc' := 26) hC 0 dX12_telling_25 rfl rfl rfl ?_
    refine j_get (pc' := 29) hC ly_X12 (M_at_0 d _) rfl 50 (by decide) fl_X12_103 rfl dX12_telling_26 rfl ?_
    refine j_iload_n (pc' := 30) hC 1 dX12_telling_29 rfl rfl rfl ?_
    refine j_iald (pc' := 31) hC (M_at_29 d _) dX12_telling_30 rfl ?_
    refine j_iconst (pc' := 32) (v := (5 : Int32)) hC dX12_telling_31 (by decide) rfl ?_
    refine j_icmp_ne (pc' := 35) (tgt := 50) hC dX12_telling_32 (by decide) rfl ?_ ?_
    · refine j_aload_n (pc' := 51) hC 0 dX12_telling_50 rfl rfl rfl ?_
      refine j_iload_n (pc' := 52) hC 1 dX12_telling_51 rfl rfl rfl ?_
      refine j_iload_n (pc' := 53) hC 2 dX12_telling_52 rfl rfl rfl ?_
      refine j_callV_i (pc' := 56) (As := [.int p1, .int p2]) (st := []) hC (M_at_0 d _) rfl (kX12_plainTells l d A _ _ _) (jgV ml_X12_385 im_X12_plainTells se_X12_plainTells in_X12 cd_X12_plainTells) rfl rfl rfl hyV_X12_plainTells ⟨Nat.le_of_ble_eq_true rfl, Nat.le_of_ble_eq_true rfl⟩ rfl rfl (Nat.le_of_ble_eq_true rfl) dX12_telling_53 rfl (fun q1 => ?_)
      exact j_ret_i hC dX12_telling_56
    · refine j_aload_n (pc' := 36) hC 0 dX12_telling_35 rfl rfl rfl ?_
      refine j_bipush (pc' := 38) (v := (61 : Int32)) hC dX12_telling_36 (by decide) rfl ?_
      refine j_callV_v (pc' := 41) (As := [.int (61 : Int32)]) (st := []) hC (M_at_0 d _) rfl (kX12_ran l d A _ _) (jgV ml_X12_352 im_X12_ran se_X12_ran in_X12 cd_X12_ran) rfl rfl rfl hyV_X12_ran ⟨Nat.le_of_ble_eq_true rfl, Nat.le_of_ble_eq_true rfl⟩ rfl rfl (Nat.le_of_ble_eq_true rfl) dX12_telling_38 rfl (fun q2 => ?_)
      refine j_aload_n (pc' := 42) hC 0 dX12_telling_41 rfl rfl rfl ?_
      refine j_iload_n (pc' := 43) hC 1 dX12_telling_42 rfl rfl rfl ?_
      refine j_iload_n (pc' := 44) hC 2 dX12_telling_43 rfl rfl rfl ?_
      refine j_callV_i (pc' := 47) (As := [.int p1, .int p2]) (st := []) hC (M_at_0 d _) rfl (kX12_plainTells l d A _ _ _) (jgV ml_X12_385 im_X12_plainTells se_X12_plainTells in_X12 cd_X12_plainTells) rfl rfl rfl hyV_X12_plainTells ⟨Nat.le_of_ble_eq_true rfl, Nat.le_of_ble_eq_true rfl⟩ rfl rfl (Nat.le_of_ble_eq_true rfl) dX12_telling_44 rfl (fun q3 => ?_)
      refine j_iconst (pc' := 48) (v := (1 : Int32)) hC dX12_telling_47 (by decide) rfl ?_
      refine j_iadd (pc' := 49) hC dX12_telling_48 rfl ?_
      exact j_ret_i hC dX12_telling_49
  · refine j_aload_n (pc' := 11) hC 0 dX12_telling_10 rfl rfl rfl ?_
    refine j_bipush (pc' := 13) (v := (50 : Int32)) hC dX12_telling_11 (by decide) rfl ?_
    refine j_callV_v (pc' := 16) (As := [.int (50 : Int32)]) (st := []) hC (M_at_0 d _) rfl (kX12_ran l d A _ _) (jgV ml_X12_352 im_X12_ran se_X12_ran in_X12 cd_X12_ran) rfl rfl rfl hyV_X12_ran ⟨Nat.le_of_ble_eq_true rfl, Nat.le_of_ble_eq_true rfl⟩ rfl rfl (Nat.le_of_ble_eq_true rfl) dX12_telling_13 rfl (fun q4 => ?_)
    refine j_aload_n (pc' := 17) hC 0 dX12_telling_16 rfl rfl rfl ?_
    refine j_iload_n (pc' := 18) hC 1 dX12_telling_17 rfl rfl rfl ?_
    refine j_iload_n (pc' := 19) hC 2 dX12_telling_18 rfl rfl rfl ?_
    refine j_callV_i (pc' := 22) (As := [.int p1, .int p2]) (st := []) hC (M_at_0 d _) rfl (kX12_plainTells l d A _ _ _) (jgV ml_X12_385 im_X12_plainTells se_X12_plainTells in_X12 cd_X12_plainTells) rfl rfl rfl hyV_X12_plainTells ⟨Nat.le_of_ble_eq_true rfl, Nat.le_of_ble_eq_true rfl⟩ rfl rfl (Nat.le_of_ble_eq_true rfl) dX12_telling_19 rfl (fun q5 => ?_)
    refine j_iconst (pc' := 23) (v := (5 : Int32)) hC dX12_telling_22 (by decide) rfl ?_
    refine j_ixor (pc' := 24) hC dX12_telling_23 rfl ?_
    exact j_ret_i hC dX12_telling_24
theorem hyV_X12_act : yX12_act.cls = RX12 ∧ yX12_act.cls ≠ "java/lang/invoke/MethodHandle" ∧ yX12_act.cls ≠ "java/lang/invoke/VarHandle" ∧ (parseMethodDescriptor yX12_act.desc).map (fun d => d.parameters.length) = some 3 := ⟨rfl, by decide +kernel, by decide +kernel, by decide +kernel⟩
noncomputable def fX12_act (σ : jS) (p1 : Int32) (p2 : Int32) (p3 : Int32) : Option (Int32 × jS) :=
  (jst (ju σ 0 51 (0 : Int32)) fun (σ1 : jS) => (Option.bind (fX12_isBody σ1 p1) fun (q2 : Int32) => (if (jb q2) = 0 then (some ((0 : Int32), σ1)) else (Option.bind (fX12_in σ1 p2 (0 : Int32) (3 : Int32)) fun (q3 : Int32) => (if (jb q3) = 0 then (some ((0 : Int32), σ1)) else (if p2 = 0 then (Option.bind (fX12_swinging σ1 p1 p3) fun (q7 : (Int32 × jS)) => (some (q7.1, q7.2))) else (if p2 = (1 : Int32) then (Option.bind (fX12_counting σ1 p1 p3) fun (q6 : (Int32 × jS)) => (some (q6.1, q6.2))) else (if p2 = (2 : Int32) then (Option.bind (fX12_waiting σ1 p1 p3) fun (q5 : (Int32 × jS)) => (some (q5.1, q5.2))) else (Option.bind (fX12_telling σ1 p1 p3) fun (q4 : (Int32 × jS)) => (some (q4.1, q4.2)))))))))))
set_option maxRecDepth 100000 in
set_option maxHeartbeats 4000000 in
theorem kX12_act (l : Launch) (d : jD) (A : Nat → Prop) (σ : jS) (p1 : Int32) (p2 : Int32) (p3 : Int32) : jMi l yX12_act (jws yX12_act cX12_act 4 (some (.int))) { frames := 11, cells := 0, slots := 0, locals := 329 } d wM A [.ref (d.2.1 0), .int p1, .int p2, .int p3] σ (fX12_act σ p1 p2 p3) := by
  refine jStart_i (lv0 := [(0, .ref (d.2.1 0)), (1, .int p1), (2, .int p2), (3, .int p3)]) (by decide) rfl (Nat.le_of_ble_eq_true rfl) rfl (fun z hC res => ?_)
  unfold fX12_act
  refine j_aload_n (pc' := 1) hC 0 dX12_act_0 rfl rfl rfl ?_
  refine j_iconst (pc' := 2) (v := (0 : Int32)) hC dX12_act_1 (by decide) rfl ?_
  refine j_put (pc' := 5) hC ly_X12 tyX12 tyX12_ok nmX12 (M_at_0 d _) rfl 51 (by decide) fl_X12_349 rfl rfl rfl rfl (Nat.le_of_ble_eq_true rfl) (M_sf_0_51 d _ _) dX12_act_2 rfl ?_
  refine j_st (fun σ1 => ?_)
  refine j_aload_n (pc' := 6) hC 0 dX12_act_5 rfl rfl rfl ?_
  refine j_iload_n (pc' := 7) hC 1 dX12_act_6 rfl rfl rfl ?_
  refine j_callV_zr (pc' := 10) (As := [.int p1]) (st := []) hC (M_at_0 d _) rfl (kX12_isBody l d A _ _) (jgV ml_X12_388 im_X12_isBody se_X12_isBody in_X12 cd_X12_isBody) rfl rfl rfl hyV_X12_isBody ⟨Nat.le_of_ble_eq_true rfl, Nat.le_of_ble_eq_true rfl⟩ rfl rfl (Nat.le_of_ble_eq_true rfl) dX12_act_7 rfl (fun q2 => ?_)
  refine j_if_eq (pc' := 13) (tgt := 22) hC dX12_act_10 (by decide) rfl ?_ ?_
  · refine j_iconst (pc' := 23) (v := (0 : Int32)) hC dX12_act_22 (by decide) rfl ?_
    exact j_ret_i hC dX12_act_23
  · refine j_iload_n (pc' := 14) hC 2 dX12_act_13 rfl rfl rfl ?_
    refine j_iconst (pc' := 15) (v := (0 : Int32)) hC dX12_act_14 (by decide) rfl ?_
    refine j_iconst (pc' := 16) (v := (3 : Int32)) hC dX12_act_15 (by decide) rfl ?_
    refine j_callS_zr (pc' := 19) (As := [.int p2, .int (0 : Int32), .int (3 : Int32)]) (st := []) hC (kX12_in l d A _ _ _ _) (jgS ml_X12_128 st_X12_in in_X12 cd_X12_in) rfl rfl rfl hyS_X12_in ⟨Nat.le_of_ble_eq_true rfl, Nat.le_of_ble_eq_true rfl⟩ rfl rfl (Nat.le_of_ble_eq_true rfl) dX12_act_16 rfl (fun q3 => ?_)
    refine j_if_ne (pc' := 22) (tgt := 24) hC dX12_act_19 (by decide) rfl ?_ ?_
    · refine j_iload_n (pc' := 25) hC 2 dX12_act_24 rfl rfl rfl ?_
      refine j_if_ne (pc' := 28) (tgt := 37) hC dX12_act_25 (by decide) rfl ?_ ?_
      · refine j_iload_n (pc' := 38) hC 2 dX12_act_37 rfl rfl rfl ?_
        refine j_iconst (pc' := 39) (v := (1 : Int32)) hC dX12_act_38 (by decide) rfl ?_
        refine j_icmp_ne (pc' := 42) (tgt := 51) hC dX12_act_39 (by decide) rfl ?_ ?_
        · refine j_iload_n (pc' := 52) hC 2 dX12_act_51 rfl rfl rfl ?_
          refine j_iconst (pc' := 53) (v := (2 : Int32)) hC dX12_act_52 (by decide) rfl ?_
          refine j_icmp_ne (pc' := 56) (tgt := 65) hC dX12_act_53 (by decide) rfl ?_ ?_
          · refine j_aload_n (pc' := 66) hC 0 dX12_act_65 rfl rfl rfl ?_
            refine j_iload_n (pc' := 67) hC 1 dX12_act_66 rfl rfl rfl ?_
            refine j_iload_n (pc' := 68) hC 3 dX12_act_67 rfl rfl rfl ?_
            refine j_callV_i (pc' := 71) (As := [.int p1, .int p3]) (st := []) hC (M_at_0 d _) rfl (kX12_telling l d A _ _ _) (jgV ml_X12_391 im_X12_telling se_X12_telling in_X12 cd_X12_telling) rfl rfl rfl hyV_X12_telling ⟨Nat.le_of_ble_eq_true rfl, Nat.le_of_ble_eq_true rfl⟩ rfl rfl (Nat.le_of_ble_eq_true rfl) dX12_act_68 rfl (fun q4 => ?_)
            exact j_ret_i hC dX12_act_71
          · refine j_aload_n (pc' := 57) hC 0 dX12_act_56 rfl rfl rfl ?_
            refine j_iload_n (pc' := 58) hC 1 dX12_act_57 rfl rfl rfl ?_
            refine j_iload_n (pc' := 59) hC 3 dX12_act_58 rfl rfl rfl ?_
            refine j_callV_i (pc' := 62) (As := [.int p1, .int p3]) (st := []) hC (M_at_0 d _) rfl (kX12_waiting l d A _ _ _) (jgV ml_X12_373 im_X12_waiting se_X12_waiting in_X12 cd_X12_waiting) rfl rfl rfl hyV_X12_waiting ⟨Nat.le_of_ble_eq_true rfl, Nat.le_of_ble_eq_true rfl⟩ rfl rfl (Nat.le_of_ble_eq_true rfl) dX12_act_59 rfl (fun q5 => ?_)
            refine j_goto (tgt := 71) hC dX12_act_62 (by decide) ?_
            exact j_ret_i hC dX12_act_71
        · refine j_aload_n (pc' := 43) hC 0 dX12_act_42 rfl rfl rfl ?_
          refine j_iload_n (pc' := 44) hC 1 dX12_act_43 rfl rfl rfl ?_
          refine j_iload_n (pc' := 45) hC 3 dX12_act_44 rfl rfl rfl ?_
          refine j_callV_i (pc' := 48) (As := [.int p1, .int p3]) (st := []) hC (M_at_0 d _) rfl (kX12_counting l d A _ _ _) (jgV ml_X12_382 im_X12_counting se_X12_counting in_X12 cd_X12_counting) rfl rfl rfl hyV_X12_counting ⟨Nat.le_of_ble_eq_true rfl, Nat.le_of_ble_eq_true rfl⟩ rfl rfl (Nat.le_of_ble_eq_true rfl) dX12_act_45 rfl (fun q6 => ?_)
          refine j_goto (tgt := 71) hC dX12_act_48 (by decide) ?_
          exact j_ret_i hC dX12_act_71
      · refine j_aload_n (pc' := 29) hC 0 dX12_act_28 rfl rfl rfl ?_
        refine j_iload_n (pc' := 30) hC 1 dX12_act_29 rfl rfl rfl ?_
        refine j_iload_n (pc' := 31) hC 3 dX12_act_30 rfl rfl rfl ?_
        refine j_callV_i (pc' := 34) (As := [.int p1, .int p3]) (st := []) hC (M_at_0 d _) rfl (kX12_swinging l d A _ _ _) (jgV ml_X12_364 im_X12_swinging se_X12_swinging in_X12 cd_X12_swinging) rfl rfl rfl hyV_X12_swinging ⟨Nat.le_of_ble_eq_true rfl, Nat.le_of_ble_eq_true rfl⟩ rfl rfl (Nat.le_of_ble_eq_true rfl) dX12_act_31 rfl (fun q7 => ?_)
        refine j_goto (tgt := 71) hC dX12_act_34 (by decide) ?_
        exact j_ret_i hC dX12_act_71
    · refine j_iconst (pc' := 23) (v := (0 : Int32)) hC dX12_act_22 (by decide) rfl ?_
      exact j_ret_i hC dX12_act_23
theorem hyV_X12_count : yX12_count.cls = RX12 ∧ yX12_count.cls ≠ "java/lang/invoke/MethodHandle" ∧ yX12_count.cls ≠ "java/lang/invoke/VarHandle" ∧ (parseMethodDescriptor yX12_count.desc).map (fun d => d.parameters.length) = some 1 := ⟨rfl, by decide +kernel, by decide +kernel, by decide +kernel⟩
noncomputable def fX12_count (σ : jS) (p1 : Int32) : Option (Int32) :=
  (if p1 = (0 : Int32) then (some (σ.1 0 2)) else (if p1 = (1 : Int32) then (some (σ.1 0 20)) else (if p1 = (2 : Int32) then (some (σ.1 0 13)) else (if p1 = (3 : Int32) then (some (σ.1 0 49)) else (if p1 = (4 : Int32) then (some (σ.1 0 51)) else (some (-1 : Int32)))))))
set_option maxRecDepth 100000 in
set_option maxHeartbeats 4000000 in
theorem kX12_count (l : Launch) (d : jD) (A : Nat → Prop) (σ : jS) (p1 : Int32) : jMir l yX12_count (jws yX12_count cX12_count 2 (some (.int))) { frames := 2, cells := 0, slots := 0, locals := 130 } d wM A [.ref (d.2.1 0), .int p1] σ (fX12_count σ p1) := by
  refine jStart_ir (lv0 := [(0, .ref (d.2.1 0)), (1, .int p1)]) (by decide) rfl (Nat.le_of_ble_eq_true rfl) rfl (fun z hC res => ?_)
  unfold fX12_count
  refine j_iload_n (pc' := 1) hC 1 dX12_count_0 rfl rfl rfl ?_
  refine j_if (fun c0 => ?_) (fun c0 => ?_)
  · refine j_tableIn (tgt := 36) (off := 35) hC dX12_count_1 (by rw [c0]; decide) (by rw [c0]; decide) (by rw [c0]; rfl) (by decide) ?_
    refine j_aload_n (pc' := 37) hC 0 dX12_count_36 rfl rfl rfl ?_
    refine j_get (pc' := 40) hC ly_X12 (M_at_0 d _) rfl 2 (by decide) fl_X12_125 rfl dX12_count_37 rfl ?_
    exact j_ret_ir hC dX12_count_40
  refine j_if (fun c1 => ?_) (fun c1 => ?_)
  · refine j_tableIn (tgt := 41) (off := 40) hC dX12_count_1 (by rw [c1]; decide) (by rw [c1]; decide) (by rw [c1]; rfl) (by decide) ?_
    refine j_aload_n (pc' := 42) hC 0 dX12_count_41 rfl rfl rfl ?_
    refine j_get (pc' := 45) hC ly_X12 (M_at_0 d _) rfl 20 (by decide) fl_X12_178 rfl dX12_count_42 rfl ?_
    exact j_ret_ir hC dX12_count_45
  refine j_if (fun c2 => ?_) (fun c2 => ?_)
  · refine j_tableIn (tgt := 46) (off := 45) hC dX12_count_1 (by rw [c2]; decide) (by rw [c2]; decide) (by rw [c2]; rfl) (by decide) ?_
    refine j_aload_n (pc' := 47) hC 0 dX12_count_46 rfl rfl rfl ?_
    refine j_get (pc' := 50) hC ly_X12 (M_at_0 d _) rfl 13 (by decide) fl_X12_155 rfl dX12_count_47 rfl ?_
    exact j_ret_ir hC dX12_count_50
  refine j_if (fun c3 => ?_) (fun c3 => ?_)
  · refine j_tableIn (tgt := 51) (off := 50) hC dX12_count_1 (by rw [c3]; decide) (by rw [c3]; decide) (by rw [c3]; rfl) (by decide) ?_
    refine j_aload_n (pc' := 52) hC 0 dX12_count_51 rfl rfl rfl ?_
    refine j_get (pc' := 55) hC ly_X12 (M_at_0 d _) rfl 49 (by decide) fl_X12_346 rfl dX12_count_52 rfl ?_
    exact j_ret_ir hC dX12_count_55
  refine j_if (fun c4 => ?_) (fun c4 => ?_)
  · refine j_tableIn (tgt := 56) (off := 55) hC dX12_count_1 (by rw [c4]; decide) (by rw [c4]; decide) (by rw [c4]; rfl) (by decide) ?_
    refine j_aload_n (pc' := 57) hC 0 dX12_count_56 rfl rfl rfl ?_
    refine j_get (pc' := 60) hC ly_X12 (M_at_0 d _) rfl 51 (by decide) fl_X12_349 rfl dX12_count_57 rfl ?_
    exact j_ret_ir hC dX12_count_60
  refine j_tableOut (tgt := 61) hC dX12_count_1 (by have e0 := lv_neT c0 (a := 0) rfl; have e1 := lv_neT c1 (a := 1) rfl; have e2 := lv_neT c2 (a := 2) rfl; have e3 := lv_neT c3 (a := 3) rfl; have e4 := lv_neT c4 (a := 4) rfl; omega) (by decide) ?_
  refine j_iconst (pc' := 62) (v := (-1 : Int32)) hC dX12_count_61 (by decide) rfl ?_
  exact j_ret_ir hC dX12_count_62
theorem hyV_X12_keep : yX12_keep.cls = RX12 ∧ yX12_keep.cls ≠ "java/lang/invoke/MethodHandle" ∧ yX12_keep.cls ≠ "java/lang/invoke/VarHandle" ∧ (parseMethodDescriptor yX12_keep.desc).map (fun d => d.parameters.length) = some 2 := ⟨rfl, by decide +kernel, by decide +kernel, by decide +kernel⟩
noncomputable def fX12_keep (σ : jS) (p1 : Int32) (p2 : Int32) : Option (Int32 × jS) :=
  (Option.bind (fX12_isShelf σ p1) fun (q1 : Int32) => (if (jb q1) = 0 then (some ((-1 : Int32), σ)) else (jlet (fun (a22 : Unit) => (ob p1 6 (jst (ju σ 31 (p1).toNatClampNeg p2) fun (σ2 : jS) => (some ((1 : Int32), σ2))))) fun (j22 : (Unit → Option (Int32 × jS))) => (if p2 = (-1 : Int32) then (j22 ()) else (Option.bind (fX12_isBody σ p2) fun (q3 : Int32) => (if (jb q3) = 0 then (some ((-1 : Int32), σ)) else (j22 ())))))))
set_option maxRecDepth 100000 in
set_option maxHeartbeats 4000000 in
theorem kX12_keep (l : Launch) (d : jD) (A : Nat → Prop) (σ : jS) (p1 : Int32) (p2 : Int32) : jMi l yX12_keep (jws yX12_keep cX12_keep 3 (some (.int))) { frames := 4, cells := 0, slots := 0, locals := 173 } d wM A [.ref (d.2.1 0), .int p1, .int p2] σ (fX12_keep σ p1 p2) := by
  refine jStart_i (lv0 := [(0, .ref (d.2.1 0)), (1, .int p1), (2, .int p2)]) (by decide) rfl (Nat.le_of_ble_eq_true rfl) rfl (fun z hC res => ?_)
  unfold fX12_keep
  refine j_iload_n (pc' := 1) hC 1 dX12_keep_0 rfl rfl rfl ?_
  refine j_callS_zr (pc' := 4) (As := [.int p1]) (st := []) hC (kX12_isShelf l d A _ _) (jgS ml_X12_136 st_X12_isShelf in_X12 cd_X12_isShelf) rfl rfl rfl hyS_X12_isShelf ⟨Nat.le_of_ble_eq_true rfl, Nat.le_of_ble_eq_true rfl⟩ rfl rfl (Nat.le_of_ble_eq_true rfl) dX12_keep_1 rfl (fun q1 => ?_)
  refine j_if_eq (pc' := 7) (tgt := 20) hC dX12_keep_4 (by decide) rfl ?_ ?_
  · refine j_iconst (pc' := 21) (v := (-1 : Int32)) hC dX12_keep_20 (by decide) rfl ?_
    exact j_ret_i hC dX12_keep_21
  · refine j_iload_n (pc' := 8) hC 2 dX12_keep_7 rfl rfl rfl ?_
    refine j_iconst (pc' := 9) (v := (-1 : Int32)) hC dX12_keep_8 (by decide) rfl ?_
    refine j_let 22 (fun a22 => σ) (fun a22 => [(0, .ref (d.2.1 0)), (1, .int p1), (2, .int p2)]) (fun a22 => []) (fun a22 => ?_) (fun j22 hj22 => ?_)
    · refine j_aload_n (pc' := 23) hC 0 dX12_keep_22 rfl rfl rfl ?_
      refine j_get (pc' := 26) hC ly_X12 (M_at_0 d _) rfl 53 (by decide) fl_X12_109 rfl dX12_keep_23 rfl ?_
      refine j_iload_n (pc' := 27) hC 1 dX12_keep_26 rfl rfl rfl ?_
      refine j_iload_n (pc' := 28) hC 2 dX12_keep_27 rfl rfl rfl ?_
      refine j_iast (pc' := 29) hC (M_at_31 d _) (M_sa_31 d _ _) dX12_keep_28 rfl ?_
      refine j_st (fun σ2 => ?_)
      refine j_iconst (pc' := 30) (v := (1 : Int32)) hC dX12_keep_29 (by decide) rfl ?_
      exact j_ret_i hC dX12_keep_30
    · refine j_icmp_eq (pc' := 12) (tgt := 22) hC dX12_keep_9 (by decide) rfl ?_ ?_
      · exact j_lv (lv' := [(0, .ref (d.2.1 0)), (1, .int p1), (2, .int p2)]) [0, 1, 2] rfl (hj22 ())
      · refine j_aload_n (pc' := 13) hC 0 dX12_keep_12 rfl rfl rfl ?_
        refine j_iload_n (pc' := 14) hC 2 dX12_keep_13 rfl rfl rfl ?_
        refine j_callV_zr (pc' := 17) (As := [.int p2]) (st := []) hC (M_at_0 d _) rfl (kX12_isBody l d A _ _) (jgV ml_X12_388 im_X12_isBody se_X12_isBody in_X12 cd_X12_isBody) rfl rfl rfl hyV_X12_isBody ⟨Nat.le_of_ble_eq_true rfl, Nat.le_of_ble_eq_true rfl⟩ rfl rfl (Nat.le_of_ble_eq_true rfl) dX12_keep_14 rfl (fun q3 => ?_)
        refine j_if_ne (pc' := 20) (tgt := 22) hC dX12_keep_17 (by decide) rfl ?_ ?_
        · exact j_lv (lv' := [(0, .ref (d.2.1 0)), (1, .int p1), (2, .int p2)]) [0, 1, 2] rfl (hj22 ())
        · refine j_iconst (pc' := 21) (v := (-1 : Int32)) hC dX12_keep_20 (by decide) rfl ?_
          exact j_ret_i hC dX12_keep_21
theorem hyV_X12_row : yX12_row.cls = RX12 ∧ yX12_row.cls ≠ "java/lang/invoke/MethodHandle" ∧ yX12_row.cls ≠ "java/lang/invoke/VarHandle" ∧ (parseMethodDescriptor yX12_row.desc).map (fun d => d.parameters.length) = some 3 := ⟨rfl, by decide +kernel, by decide +kernel, by decide +kernel⟩
noncomputable def fX12_row_B54 (p1 : Int32) (s54 : jS × Int32 → Option (Int32 × jS)) (a : jS × Int32) : Option (Int32 × jS) :=
  (if (((60 : Int32) * p1) + (60 : Int32)) ≤ a.2 then (some ((1 : Int32), a.1)) else (ob a.2 360 (jst (jul a.1 33 (a.2).toNatClampNeg (0 : Int64)) fun (σ5 : jS) => (s54 (σ5, (a.2 + (1 : Int32)))))))
noncomputable def fX12_row (σ : jS) (p1 : Int32) (p2 : Int32) (p3 : Int32) : Option (Int32 × jS) :=
  (Option.bind (fX12_isShelf σ p1) fun (q1 : Int32) => (if (jb q1) = 0 then (some ((-1 : Int32), σ)) else (Option.bind (fX12_in σ p2 (0 : Int32) (4 : Int32)) fun (q2 : Int32) => (if (jb q2) = 0 then (some ((-1 : Int32), σ)) else (if p3 ≤ (60 : Int32) then (if 0 ≤ p3 then (ob p1 6 (jst (ju σ 31 (p1).toNatClampNeg ((-2 : Int32) - p2)) fun (σ3 : jS) => (ob p1 6 (jst (ju σ3 32 (p1).toNatClampNeg p3) fun (σ4 : jS) => (jloop (fX12_row_B54 p1) jN (σ4, ((60 : Int32) * p1))))))) else (some ((-14 : Int32), σ))) else (some ((-1 : Int32), σ)))))))
set_option maxRecDepth 100000 in
set_option maxHeartbeats 4000000 in
theorem kX12_row (l : Launch) (d : jD) (A : Nat → Prop) (σ : jS) (p1 : Int32) (p2 : Int32) (p3 : Int32) : jMi l yX12_row (jws yX12_row cX12_row 5 (some (.int))) { frames := 4, cells := 0, slots := 0, locals := 172 } d wM A [.ref (d.2.1 0), .int p1, .int p2, .int p3] σ (fX12_row σ p1 p2 p3) := by
  refine jStart_i (lv0 := [(0, .ref (d.2.1 0)), (1, .int p1), (2, .int p2), (3, .int p3)]) (by decide) rfl (Nat.le_of_ble_eq_true rfl) rfl (fun z hC res => ?_)
  unfold fX12_row
  refine j_iload_n (pc' := 1) hC 1 dX12_row_0 rfl rfl rfl ?_
  refine j_callS_zr (pc' := 4) (As := [.int p1]) (st := []) hC (kX12_isShelf l d A _ _) (jgS ml_X12_136 st_X12_isShelf in_X12 cd_X12_isShelf) rfl rfl rfl hyS_X12_isShelf ⟨Nat.le_of_ble_eq_true rfl, Nat.le_of_ble_eq_true rfl⟩ rfl rfl (Nat.le_of_ble_eq_true rfl) dX12_row_1 rfl (fun q1 => ?_)
  refine j_if_eq (pc' := 7) (tgt := 22) hC dX12_row_4 (by decide) rfl ?_ ?_
  · refine j_iconst (pc' := 23) (v := (-1 : Int32)) hC dX12_row_22 (by decide) rfl ?_
    exact j_ret_i hC dX12_row_23
  · refine j_iload_n (pc' := 8) hC 2 dX12_row_7 rfl rfl rfl ?_
    refine j_iconst (pc' := 9) (v := (0 : Int32)) hC dX12_row_8 (by decide) rfl ?_
    refine j_iconst (pc' := 10) (v := (4 : Int32)) hC dX12_row_9 (by decide) rfl ?_
    refine j_callS_zr (pc' := 13) (As := [.int p2, .int (0 : Int32), .int (4 : Int32)]) (st := []) hC (kX12_in l d A _ _ _ _) (jgS ml_X12_128 st_X12_in in_X12 cd_X12_in) rfl rfl rfl hyS_X12_in ⟨Nat.le_of_ble_eq_true rfl, Nat.le_of_ble_eq_true rfl⟩ rfl rfl (Nat.le_of_ble_eq_true rfl) dX12_row_10 rfl (fun q2 => ?_)
    refine j_if_eq (pc' := 16) (tgt := 22) hC dX12_row_13 (by decide) rfl ?_ ?_
    · refine j_iconst (pc' := 23) (v := (-1 : Int32)) hC dX12_row_22 (by decide) rfl ?_
      exact j_ret_i hC dX12_row_23
    · refine j_iload_n (pc' := 17) hC 3 dX12_row_16 rfl rfl rfl ?_
      refine j_bipush (pc' := 19) (v := (60 : Int32)) hC dX12_row_17 (by decide) rfl ?_
      refine j_icmp_le (pc' := 22) (tgt := 24) hC dX12_row_19 (by decide) rfl ?_ ?_
      · refine j_iload_n (pc' := 25) hC 3 dX12_row_24 rfl rfl rfl ?_
        refine j_if_ge (pc' := 28) (tgt := 31) hC dX12_row_25 (by decide) rfl ?_ ?_
        · refine j_aload_n (pc' := 32) hC 0 dX12_row_31 rfl rfl rfl ?_
          refine j_get (pc' := 35) hC ly_X12 (M_at_0 d _) rfl 53 (by decide) fl_X12_109 rfl dX12_row_32 rfl ?_
          refine j_iload_n (pc' := 36) hC 1 dX12_row_35 rfl rfl rfl ?_
          refine j_bipush (pc' := 38) (v := (-2 : Int32)) hC dX12_row_36 (by decide) rfl ?_
          refine j_iload_n (pc' := 39) hC 2 dX12_row_38 rfl rfl rfl ?_
          refine j_isub (pc' := 40) hC dX12_row_39 rfl ?_
          refine j_iast (pc' := 41) hC (M_at_31 d _) (M_sa_31 d _ _) dX12_row_40 rfl ?_
          refine j_st (fun σ3 => ?_)
          refine j_aload_n (pc' := 42) hC 0 dX12_row_41 rfl rfl rfl ?_
          refine j_get (pc' := 45) hC ly_X12 (M_at_0 d _) rfl 54 (by decide) fl_X12_112 rfl dX12_row_42 rfl ?_
          refine j_iload_n (pc' := 46) hC 1 dX12_row_45 rfl rfl rfl ?_
          refine j_iload_n (pc' := 47) hC 3 dX12_row_46 rfl rfl rfl ?_
          refine j_iast (pc' := 48) hC (M_at_32 d _) (M_sa_32 d _ _) dX12_row_47 rfl ?_
          refine j_st (fun σ4 => ?_)
          refine j_bipush (pc' := 50) (v := (60 : Int32)) hC dX12_row_48 (by decide) rfl ?_
          refine j_iload_n (pc' := 51) hC 1 dX12_row_50 rfl rfl rfl ?_
          refine j_imul (pc' := 52) hC dX12_row_51 rfl ?_
          refine j_istore (pc' := 54) (lv' := [(4, .int ((60 : Int32) * p1)), (0, .ref (d.2.1 0)), (1, .int p1), (2, .int p2), (3, .int p3)]) hC dX12_row_52 (by decide) rfl rfl ?_
          refine j_lv (lv' := [(0, .ref (d.2.1 0)), (1, .int p1), (4, .int ((60 : Int32) * p1))]) [1, 2, 0] rfl ?_
          refine j_loop 54 (fun a => a.1) (fun a => [(0, .ref (d.2.1 0)), (1, .int p1), (4, .int a.2)]) (fun s54 hs54 a => ?_) jN (σ4, ((60 : Int32) * p1))
          unfold fX12_row_B54
          refine j_iload (pc' := 56) hC 2 dX12_row_54 rfl rfl ?_
          refine j_bipush (pc' := 58) (v := (60 : Int32)) hC dX12_row_56 (by decide) rfl ?_
          refine j_iload_n (pc' := 59) hC 1 dX12_row_58 rfl rfl rfl ?_
          refine j_imul (pc' := 60) hC dX12_row_59 rfl ?_
          refine j_bipush (pc' := 62) (v := (60 : Int32)) hC dX12_row_60 (by decide) rfl ?_
          refine j_iadd (pc' := 63) hC dX12_row_62 rfl ?_
          refine j_icmp_ge (pc' := 66) (tgt := 80) hC dX12_row_63 (by decide) rfl ?_ ?_
          · refine j_iconst (pc' := 81) (v := (1 : Int32)) hC dX12_row_80 (by decide) rfl ?_
            exact j_ret_i hC dX12_row_81
          · refine j_aload_n (pc' := 67) hC 0 dX12_row_66 rfl rfl rfl ?_
            refine j_get (pc' := 70) hC ly_X12 (M_at_0 d _) rfl 55 (by decide) fl_X12_115 rfl dX12_row_67 rfl ?_
            refine j_iload (pc' := 72) hC 2 dX12_row_70 rfl rfl ?_
            refine j_lconst (pc' := 73) (v := (0 : Int64)) hC dX12_row_72 (by decide) rfl ?_
            refine j_last (pc' := 74) hC (M_at_33 d _) (M_sa_33 d _ _) dX12_row_73 rfl ?_
            refine j_st (fun σ5 => ?_)
            refine j_iinc (pc' := 77) (v := (a.2 + (1 : Int32))) (lv' := [(4, .int (a.2 + (1 : Int32))), (0, .ref (d.2.1 0)), (1, .int p1)]) hC 2 dX12_row_74 rfl (by decide) rfl rfl rfl ?_
            refine j_goto (tgt := 54) hC dX12_row_77 (by decide) ?_
            exact j_lv (lv' := [(0, .ref (d.2.1 0)), (1, .int p1), (4, .int (a.2 + (1 : Int32)))]) [1, 2, 0] rfl (hs54 (σ5, (a.2 + (1 : Int32))))
        · refine j_bipush (pc' := 30) (v := (-14 : Int32)) hC dX12_row_28 (by decide) rfl ?_
          exact j_ret_i hC dX12_row_30
      · refine j_iconst (pc' := 23) (v := (-1 : Int32)) hC dX12_row_22 (by decide) rfl ?_
        exact j_ret_i hC dX12_row_23
theorem hyV_X12_whyNoPlace : yX12_whyNoPlace.cls = RX12 ∧ yX12_whyNoPlace.cls ≠ "java/lang/invoke/MethodHandle" ∧ yX12_whyNoPlace.cls ≠ "java/lang/invoke/VarHandle" ∧ (parseMethodDescriptor yX12_whyNoPlace.desc).map (fun d => d.parameters.length) = some 2 := ⟨rfl, by decide +kernel, by decide +kernel, by decide +kernel⟩
noncomputable def fX12_whyNoPlace (σ : jS) (p1 : Int32) (p2 : Int32) : Option (Int32) :=
  (Option.bind (fX12_isShelf σ p1) fun (q1 : Int32) => (if (jb q1) = 0 then (some (-1 : Int32)) else (ob p1 6 (if (σ.1 31 (p1).toNatClampNeg) = (-1 : Int32) then (some (-11 : Int32)) else (ob p1 6 (if (σ.1 31 (p1).toNatClampNeg) < 0 then (ob p1 6 (Option.bind (fX12_in σ p2 (0 : Int32) ((σ.1 32 (p1).toNatClampNeg) - (1 : Int32))) fun (q2 : Int32) => (if (jb q2) = 0 then (some (-13 : Int32)) else (some (0 : Int32))))) else (some (-12 : Int32))))))))
set_option maxRecDepth 100000 in
set_option maxHeartbeats 4000000 in
theorem kX12_whyNoPlace (l : Launch) (d : jD) (A : Nat → Prop) (σ : jS) (p1 : Int32) (p2 : Int32) : jMir l yX12_whyNoPlace (jws yX12_whyNoPlace cX12_whyNoPlace 3 (some (.int))) { frames := 4, cells := 0, slots := 0, locals := 172 } d wM A [.ref (d.2.1 0), .int p1, .int p2] σ (fX12_whyNoPlace σ p1 p2) := by
  refine jStart_ir (lv0 := [(0, .ref (d.2.1 0)), (1, .int p1), (2, .int p2)]) (by decide) rfl (Nat.le_of_ble_eq_true rfl) rfl (fun z hC res => ?_)
  unfold fX12_whyNoPlace
  refine j_iload_n (pc' := 1) hC 1 dX12_whyNoPlace_0 rfl rfl rfl ?_
  refine j_callS_zr (pc' := 4) (As := [.int p1]) (st := []) hC (kX12_isShelf l d A _ _) (jgS ml_X12_136 st_X12_isShelf in_X12 cd_X12_isShelf) rfl rfl rfl hyS_X12_isShelf ⟨Nat.le_of_ble_eq_true rfl, Nat.le_of_ble_eq_true rfl⟩ rfl rfl (Nat.le_of_ble_eq_true rfl) dX12_whyNoPlace_1 rfl (fun q1 => ?_)
  refine j_if_ne (pc' := 7) (tgt := 9) hC dX12_whyNoPlace_4 (by decide) rfl ?_ ?_
  · refine j_aload_n (pc' := 10) hC 0 dX12_whyNoPlace_9 rfl rfl rfl ?_
    refine j_get (pc' := 13) hC ly_X12 (M_at_0 d _) rfl 53 (by decide) fl_X12_109 rfl dX12_whyNoPlace_10 rfl ?_
    refine j_iload_n (pc' := 14) hC 1 dX12_whyNoPlace_13 rfl rfl rfl ?_
    refine j_iald (pc' := 15) hC (M_at_31 d _) dX12_whyNoPlace_14 rfl ?_
    refine j_iconst (pc' := 16) (v := (-1 : Int32)) hC dX12_whyNoPlace_15 (by decide) rfl ?_
    refine j_icmp_ne (pc' := 19) (tgt := 22) hC dX12_whyNoPlace_16 (by decide) rfl ?_ ?_
    · refine j_aload_n (pc' := 23) hC 0 dX12_whyNoPlace_22 rfl rfl rfl ?_
      refine j_get (pc' := 26) hC ly_X12 (M_at_0 d _) rfl 53 (by decide) fl_X12_109 rfl dX12_whyNoPlace_23 rfl ?_
      refine j_iload_n (pc' := 27) hC 1 dX12_whyNoPlace_26 rfl rfl rfl ?_
      refine j_iald (pc' := 28) hC (M_at_31 d _) dX12_whyNoPlace_27 rfl ?_
      refine j_if_lt (pc' := 31) (tgt := 34) hC dX12_whyNoPlace_28 (by decide) rfl ?_ ?_
      · refine j_iload_n (pc' := 35) hC 2 dX12_whyNoPlace_34 rfl rfl rfl ?_
        refine j_iconst (pc' := 36) (v := (0 : Int32)) hC dX12_whyNoPlace_35 (by decide) rfl ?_
        refine j_aload_n (pc' := 37) hC 0 dX12_whyNoPlace_36 rfl rfl rfl ?_
        refine j_get (pc' := 40) hC ly_X12 (M_at_0 d _) rfl 54 (by decide) fl_X12_112 rfl dX12_whyNoPlace_37 rfl ?_
        refine j_iload_n (pc' := 41) hC 1 dX12_whyNoPlace_40 rfl rfl rfl ?_
        refine j_iald (pc' := 42) hC (M_at_32 d _) dX12_whyNoPlace_41 rfl ?_
        refine j_iconst (pc' := 43) (v := (1 : Int32)) hC dX12_whyNoPlace_42 (by decide) rfl ?_
        refine j_isub (pc' := 44) hC dX12_whyNoPlace_43 rfl ?_
        refine j_callS_zr (pc' := 47) (As := [.int p2, .int (0 : Int32), .int ((σ.1 32 (p1).toNatClampNeg) - (1 : Int32))]) (st := []) hC (kX12_in l d A _ _ _ _) (jgS ml_X12_128 st_X12_in in_X12 cd_X12_in) rfl rfl rfl hyS_X12_in ⟨Nat.le_of_ble_eq_true rfl, Nat.le_of_ble_eq_true rfl⟩ rfl rfl (Nat.le_of_ble_eq_true rfl) dX12_whyNoPlace_44 rfl (fun q2 => ?_)
        refine j_if_eq (pc' := 50) (tgt := 54) hC dX12_whyNoPlace_47 (by decide) rfl ?_ ?_
        · refine j_bipush (pc' := 56) (v := (-13 : Int32)) hC dX12_whyNoPlace_54 (by decide) rfl ?_
          exact j_ret_ir hC dX12_whyNoPlace_56
        · refine j_iconst (pc' := 51) (v := (0 : Int32)) hC dX12_whyNoPlace_50 (by decide) rfl ?_
          refine j_goto (tgt := 56) hC dX12_whyNoPlace_51 (by decide) ?_
          exact j_ret_ir hC dX12_whyNoPlace_56
      · refine j_bipush (pc' := 33) (v := (-12 : Int32)) hC dX12_whyNoPlace_31 (by decide) rfl ?_
        exact j_ret_ir hC dX12_whyNoPlace_33
    · refine j_bipush (pc' := 21) (v := (-11 : Int32)) hC dX12_whyNoPlace_19 (by decide) rfl ?_
      exact j_ret_ir hC dX12_whyNoPlace_21
  · refine j_iconst (pc' := 8) (v := (-1 : Int32)) hC dX12_whyNoPlace_7 (by decide) rfl ?_
    exact j_ret_ir hC dX12_whyNoPlace_8
theorem hyV_X12_put : yX12_put.cls = RX12 ∧ yX12_put.cls ≠ "java/lang/invoke/MethodHandle" ∧ yX12_put.cls ≠ "java/lang/invoke/VarHandle" ∧ (parseMethodDescriptor yX12_put.desc).map (fun d => d.parameters.length) = some 3 := ⟨rfl, by decide +kernel, by decide +kernel, by decide +kernel⟩
noncomputable def fX12_put (σ : jS) (p1 : Int32) (p2 : Int32) (p3 : Int64) : Option (Int32 × jS) :=
  (Option.bind (fX12_whyNoPlace σ p1 p2) fun (q1 : Int32) => (if 0 ≤ q1 then (ob p1 6 (jlet (fun (a95 : Int64) => (ob (((60 : Int32) * p1) + p2) 360 (jst (jul σ 33 ((((60 : Int32) * p1) + p2)).toNatClampNeg a95) fun (σ2 : jS) => (some ((1 : Int32), σ2))))) fun (j95 : (Int64 → Option (Int32 × jS))) => (if ((-2 : Int32) - (σ.1 31 (p1).toNatClampNeg)) = 0 then (j95 (((p3.toInt32).toInt8.toInt32).toInt64)) else (if ((-2 : Int32) - (σ.1 31 (p1).toNatClampNeg)) = (1 : Int32) then (j95 (((p3.toInt32).toInt16.toInt32).toInt64)) else (if ((-2 : Int32) - (σ.1 31 (p1).toNatClampNeg)) = (2 : Int32) then (j95 ((p3.toInt32).toInt64)) else (if ((-2 : Int32) - (σ.1 31 (p1).toNatClampNeg)) = (3 : Int32) then (j95 p3) else (if (lg_cmp p3 (0 : Int64)) = 0 then (j95 (0 : Int64)) else (j95 (1 : Int64))))))))) else (some (q1, σ))))
set_option maxRecDepth 100000 in
set_option maxHeartbeats 4000000 in
theorem kX12_put (l : Launch) (d : jD) (A : Nat → Prop) (σ : jS) (p1 : Int32) (p2 : Int32) (p3 : Int64) : jMi l yX12_put (jws yX12_put cX12_put 7 (some (.int))) { frames := 5, cells := 0, slots := 0, locals := 194 } d wM A [.ref (d.2.1 0), .int p1, .int p2, .long p3] σ (fX12_put σ p1 p2 p3) := by
  refine jStart_i (lv0 := [(0, .ref (d.2.1 0)), (1, .int p1), (2, .int p2), (3, .long p3)]) (by decide) rfl (Nat.le_of_ble_eq_true rfl) rfl (fun z hC res => ?_)
  unfold fX12_put
  refine j_aload_n (pc' := 1) hC 0 dX12_put_0 rfl rfl rfl ?_
  refine j_iload_n (pc' := 2) hC 1 dX12_put_1 rfl rfl rfl ?_
  refine j_iload_n (pc' := 3) hC 2 dX12_put_2 rfl rfl rfl ?_
  refine j_callV_ir (pc' := 6) (As := [.int p1, .int p2]) (st := []) hC (M_at_0 d _) rfl (kX12_whyNoPlace l d A _ _ _) (jgV ml_X12_394 im_X12_whyNoPlace se_X12_whyNoPlace in_X12 cd_X12_whyNoPlace) rfl rfl rfl hyV_X12_whyNoPlace ⟨Nat.le_of_ble_eq_true rfl, Nat.le_of_ble_eq_true rfl⟩ rfl rfl (Nat.le_of_ble_eq_true rfl) dX12_put_3 rfl (fun q1 => ?_)
  refine j_istore (pc' := 8) (lv' := [(5, .int q1), (0, .ref (d.2.1 0)), (1, .int p1), (2, .int p2), (3, .long p3)]) hC dX12_put_6 (by decide) rfl rfl ?_
  refine j_iload (pc' := 10) hC 0 dX12_put_8 rfl rfl ?_
  refine j_if_ge (pc' := 13) (tgt := 16) hC dX12_put_10 (by decide) rfl ?_ ?_
  · refine j_bipush (pc' := 18) (v := (-2 : Int32)) hC dX12_put_16 (by decide) rfl ?_
    refine j_aload_n (pc' := 19) hC 1 dX12_put_18 rfl rfl rfl ?_
    refine j_get (pc' := 22) hC ly_X12 (M_at_0 d _) rfl 53 (by decide) fl_X12_109 rfl dX12_put_19 rfl ?_
    refine j_iload_n (pc' := 23) hC 2 dX12_put_22 rfl rfl rfl ?_
    refine j_iald (pc' := 24) hC (M_at_31 d _) dX12_put_23 rfl ?_
    refine j_isub (pc' := 25) hC dX12_put_24 rfl ?_
    refine j_istore (pc' := 27) (lv' := [(6, .int ((-2 : Int32) - (σ.1 31 (p1).toNatClampNeg))), (5, .int q1), (0, .ref (d.2.1 0)), (1, .int p1), (2, .int p2), (3, .long p3)]) hC dX12_put_25 (by decide) rfl rfl ?_
    refine j_aload_n (pc' := 28) hC 2 dX12_put_27 rfl rfl rfl ?_
    refine j_get (pc' := 31) hC ly_X12 (M_at_0 d _) rfl 55 (by decide) fl_X12_115 rfl dX12_put_28 rfl ?_
    refine j_bipush (pc' := 33) (v := (60 : Int32)) hC dX12_put_31 (by decide) rfl ?_
    refine j_iload_n (pc' := 34) hC 3 dX12_put_33 rfl rfl rfl ?_
    refine j_imul (pc' := 35) hC dX12_put_34 rfl ?_
    refine j_iload_n (pc' := 36) hC 4 dX12_put_35 rfl rfl rfl ?_
    refine j_iadd (pc' := 37) hC dX12_put_36 rfl ?_
    refine j_iload (pc' := 39) hC 0 dX12_put_37 rfl rfl ?_
    refine j_let 95 (fun a95 => σ) (fun a95 => []) (fun a95 => [.long a95, .int (((60 : Int32) * p1) + p2), .ref (d.2.1 33)]) (fun a95 => ?_) (fun j95 hj95 => ?_)
    · refine j_last (pc' := 96) hC (M_at_33 d _) (M_sa_33 d _ _) dX12_put_95 rfl ?_
      refine j_st (fun σ2 => ?_)
      refine j_iconst (pc' := 97) (v := (1 : Int32)) hC dX12_put_96 (by decide) rfl ?_
      exact j_ret_i hC dX12_put_97
    · refine j_if_ne (pc' := 42) (tgt := 49) hC dX12_put_39 (by decide) rfl ?_ ?_
      · refine j_iload (pc' := 51) hC 0 dX12_put_49 rfl rfl ?_
        refine j_iconst (pc' := 52) (v := (1 : Int32)) hC dX12_put_51 (by decide) rfl ?_
        refine j_icmp_ne (pc' := 55) (tgt := 62) hC dX12_put_52 (by decide) rfl ?_ ?_
        · refine j_iload (pc' := 64) hC 0 dX12_put_62 rfl rfl ?_
          refine j_iconst (pc' := 65) (v := (2 : Int32)) hC dX12_put_64 (by decide) rfl ?_
          refine j_icmp_ne (pc' := 68) (tgt := 74) hC dX12_put_65 (by decide) rfl ?_ ?_
          · refine j_iload (pc' := 76) hC 0 dX12_put_74 rfl rfl ?_
            refine j_iconst (pc' := 77) (v := (3 : Int32)) hC dX12_put_76 (by decide) rfl ?_
            refine j_icmp_ne (pc' := 80) (tgt := 84) hC dX12_put_77 (by decide) rfl ?_ ?_
            · refine j_lload_n (pc' := 85) hC 5 dX12_put_84 rfl rfl rfl ?_
              refine j_lconst (pc' := 86) (v := (0 : Int64)) hC dX12_put_85 (by decide) rfl ?_
              refine j_lcmp (pc' := 87) hC dX12_put_86 rfl ?_
              refine j_if_eq (pc' := 90) (tgt := 94) hC dX12_put_87 (by decide) rfl ?_ ?_
              · refine j_lconst (pc' := 95) (v := (0 : Int64)) hC dX12_put_94 (by decide) rfl ?_
                exact j_lv (lv' := []) [] rfl (hj95 (0 : Int64))
              · refine j_lconst (pc' := 91) (v := (1 : Int64)) hC dX12_put_90 (by decide) rfl ?_
                refine j_goto (tgt := 95) hC dX12_put_91 (by decide) ?_
                exact j_lv (lv' := []) [] rfl (hj95 (1 : Int64))
            · refine j_lload_n (pc' := 81) hC 5 dX12_put_80 rfl rfl rfl ?_
              refine j_goto (tgt := 95) hC dX12_put_81 (by decide) ?_
              exact j_lv (lv' := []) [] rfl (hj95 p3)
          · refine j_lload_n (pc' := 69) hC 5 dX12_put_68 rfl rfl rfl ?_
            refine j_l2i (pc' := 70) hC dX12_put_69 rfl ?_
            refine j_i2l (pc' := 71) hC dX12_put_70 rfl ?_
            refine j_goto (tgt := 95) hC dX12_put_71 (by decide) ?_
            exact j_lv (lv' := []) [] rfl (hj95 ((p3.toInt32).toInt64))
        · refine j_lload_n (pc' := 56) hC 5 dX12_put_55 rfl rfl rfl ?_
          refine j_l2i (pc' := 57) hC dX12_put_56 rfl ?_
          refine j_i2s (pc' := 58) hC dX12_put_57 rfl ?_
          refine j_i2l (pc' := 59) hC dX12_put_58 rfl ?_
          refine j_goto (tgt := 95) hC dX12_put_59 (by decide) ?_
          exact j_lv (lv' := []) [] rfl (hj95 (((p3.toInt32).toInt16.toInt32).toInt64))
      · refine j_lload_n (pc' := 43) hC 5 dX12_put_42 rfl rfl rfl ?_
        refine j_l2i (pc' := 44) hC dX12_put_43 rfl ?_
        refine j_i2b (pc' := 45) hC dX12_put_44 rfl ?_
        refine j_i2l (pc' := 46) hC dX12_put_45 rfl ?_
        refine j_goto (tgt := 95) hC dX12_put_46 (by decide) ?_
        exact j_lv (lv' := []) [] rfl (hj95 (((p3.toInt32).toInt8.toInt32).toInt64))
  · refine j_iload (pc' := 15) hC 0 dX12_put_13 rfl rfl ?_
    exact j_ret_i hC dX12_put_15
theorem hyV_X12_element : yX12_element.cls = RX12 ∧ yX12_element.cls ≠ "java/lang/invoke/MethodHandle" ∧ yX12_element.cls ≠ "java/lang/invoke/VarHandle" ∧ (parseMethodDescriptor yX12_element.desc).map (fun d => d.parameters.length) = some 2 := ⟨rfl, by decide +kernel, by decide +kernel, by decide +kernel⟩
noncomputable def fX12_element (σ : jS) (p1 : Int32) (p2 : Int32) : Option (Int64) :=
  (Option.bind (fX12_whyNoPlace σ p1 p2) fun (q1 : Int32) => (if 0 ≤ q1 then (ob (((60 : Int32) * p1) + p2) 360 (some (σ.2 33 ((((60 : Int32) * p1) + p2)).toNatClampNeg))) else (some (-9223372036854775808 : Int64))))
set_option maxRecDepth 100000 in
set_option maxHeartbeats 4000000 in
theorem kX12_element (l : Launch) (d : jD) (A : Nat → Prop) (σ : jS) (p1 : Int32) (p2 : Int32) : jMlr l yX12_element (jws yX12_element cX12_element 3 (some (.long))) { frames := 5, cells := 0, slots := 0, locals := 194 } d wM A [.ref (d.2.1 0), .int p1, .int p2] σ (fX12_element σ p1 p2) := by
  refine jStart_lr (lv0 := [(0, .ref (d.2.1 0)), (1, .int p1), (2, .int p2)]) (by decide) rfl (Nat.le_of_ble_eq_true rfl) rfl (fun z hC res => ?_)
  unfold fX12_element
  refine j_aload_n (pc' := 1) hC 0 dX12_element_0 rfl rfl rfl ?_
  refine j_iload_n (pc' := 2) hC 1 dX12_element_1 rfl rfl rfl ?_
  refine j_iload_n (pc' := 3) hC 2 dX12_element_2 rfl rfl rfl ?_
  refine j_callV_ir (pc' := 6) (As := [.int p1, .int p2]) (st := []) hC (M_at_0 d _) rfl (kX12_whyNoPlace l d A _ _ _) (jgV ml_X12_394 im_X12_whyNoPlace se_X12_whyNoPlace in_X12 cd_X12_whyNoPlace) rfl rfl rfl hyV_X12_whyNoPlace ⟨Nat.le_of_ble_eq_true rfl, Nat.le_of_ble_eq_true rfl⟩ rfl rfl (Nat.le_of_ble_eq_true rfl) dX12_element_3 rfl (fun q1 => ?_)
  refine j_if_ge (pc' := 9) (tgt := 15) hC dX12_element_6 (by decide) rfl ?_ ?_
  · refine j_aload_n (pc' := 16) hC 0 dX12_element_15 rfl rfl rfl ?_
    refine j_get (pc' := 19) hC ly_X12 (M_at_0 d _) rfl 55 (by decide) fl_X12_115 rfl dX12_element_16 rfl ?_
    refine j_bipush (pc' := 21) (v := (60 : Int32)) hC dX12_element_19 (by decide) rfl ?_
    refine j_iload_n (pc' := 22) hC 1 dX12_element_21 rfl rfl rfl ?_
    refine j_imul (pc' := 23) hC dX12_element_22 rfl ?_
    refine j_iload_n (pc' := 24) hC 2 dX12_element_23 rfl rfl rfl ?_
    refine j_iadd (pc' := 25) hC dX12_element_24 rfl ?_
    refine j_lald (pc' := 26) hC (M_at_33 d _) dX12_element_25 rfl ?_
    exact j_ret_lr hC dX12_element_26
  · refine j_ldc2 (pc' := 12) (v := (-9223372036854775808 : Int64)) hC dX12_element_9 ct_X12_399 rfl ?_
    refine j_goto (tgt := 26) hC dX12_element_12 (by decide) ?_
    exact j_ret_lr hC dX12_element_26
theorem hyV_X12_shift : yX12_shift.cls = RX12 ∧ yX12_shift.cls ≠ "java/lang/invoke/MethodHandle" ∧ yX12_shift.cls ≠ "java/lang/invoke/VarHandle" ∧ (parseMethodDescriptor yX12_shift.desc).map (fun d => d.parameters.length) = some 5 := ⟨rfl, by decide +kernel, by decide +kernel, by decide +kernel⟩
noncomputable def fX12_shift_B150 (p3 : Int32) (p4 : Int32) (p5 : Int32) (s150 : jS × Int32 → Option (Int32 × jS)) (a : jS × Int32) : Option (Int32 × jS) :=
  (if p5 ≤ a.2 then (some (p5, a.1)) else (ob a.2 60 (ob ((((60 : Int32) * p3) + p4) + a.2) 360 (jst (jul a.1 33 (((((60 : Int32) * p3) + p4) + a.2)).toNatClampNeg (a.1.2 34 (a.2).toNatClampNeg)) fun (σ3 : jS) => (s150 (σ3, (a.2 + (1 : Int32))))))))
noncomputable def fX12_shift_B113 (p1 : Int32) (p2 : Int32) (p5 : Int32) (j147 : (jS → Option (Int32 × jS))) (s113 : jS × Int32 → Option (Int32 × jS)) (a : jS × Int32) : Option (Int32 × jS) :=
  (if p5 ≤ a.2 then (j147 a.1) else (ob ((((60 : Int32) * p1) + p2) + a.2) 360 (ob a.2 60 (jst (jul a.1 34 (a.2).toNatClampNeg (a.1.2 33 (((((60 : Int32) * p1) + p2) + a.2)).toNatClampNeg)) fun (σ4 : jS) => (s113 (σ4, (a.2 + (1 : Int32))))))))
noncomputable def fX12_shift (σ : jS) (p1 : Int32) (p2 : Int32) (p3 : Int32) (p4 : Int32) (p5 : Int32) : Option (Int32 × jS) :=
  (Option.bind (fX12_isShelf σ p1) fun (q1 : Int32) => (if (jb q1) = 0 then (some ((-1 : Int32), σ)) else (Option.bind (fX12_isShelf σ p3) fun (q2 : Int32) => (if (jb q2) = 0 then (some ((-1 : Int32), σ)) else (ob p1 6 (if (σ.1 31 (p1).toNatClampNeg) = (-1 : Int32) then (some ((-11 : Int32), σ)) else (ob p3 6 (if (σ.1 31 (p3).toNatClampNeg) = (-1 : Int32) then (some ((-11 : Int32), σ)) else (ob p1 6 (if 0 ≤ (σ.1 31 (p1).toNatClampNeg) then (some ((-12 : Int32), σ)) else (ob p1 6 (ob p3 6 (if (σ.1 31 (p1).toNatClampNeg) = (σ.1 31 (p3).toNatClampNeg) then (if p5 < 0 then (some ((-13 : Int32), σ)) else (if p2 < 0 then (some ((-13 : Int32), σ)) else (if p4 < 0 then (some ((-13 : Int32), σ)) else (ob p1 6 (if ((σ.1 32 (p1).toNatClampNeg) - p5) < p2 then (some ((-13 : Int32), σ)) else (ob p3 6 (if p4 ≤ ((σ.1 32 (p3).toNatClampNeg) - p5) then (jlet (fun (a147 : jS) => (jloop (fX12_shift_B150 p3 p4 p5) jN (a147, (0 : Int32)))) fun (j147 : (jS → Option (Int32 × jS))) => (jloop (fX12_shift_B113 p1 p2 p5 j147) jN (σ, (0 : Int32)))) else (some ((-13 : Int32), σ))))))))) else (some ((-12 : Int32), σ)))))))))))))))
set_option maxRecDepth 100000 in
set_option maxHeartbeats 4000000 in
theorem kX12_shift (l : Launch) (d : jD) (A : Nat → Prop) (σ : jS) (p1 : Int32) (p2 : Int32) (p3 : Int32) (p4 : Int32) (p5 : Int32) : jMi l yX12_shift (jws yX12_shift cX12_shift 7 (some (.int))) { frames := 4, cells := 0, slots := 0, locals := 172 } d wM A [.ref (d.2.1 0), .int p1, .int p2, .int p3, .int p4, .int p5] σ (fX12_shift σ p1 p2 p3 p4 p5) := by
  refine jStart_i (lv0 := [(0, .ref (d.2.1 0)), (1, .int p1), (2, .int p2), (3, .int p3), (4, .int p4), (5, .int p5)]) (by decide) rfl (Nat.le_of_ble_eq_true rfl) rfl (fun z hC res => ?_)
  unfold fX12_shift
  refine j_iload_n (pc' := 1) hC 1 dX12_shift_0 rfl rfl rfl ?_
  refine j_callS_zr (pc' := 4) (As := [.int p1]) (st := []) hC (kX12_isShelf l d A _ _) (jgS ml_X12_136 st_X12_isShelf in_X12 cd_X12_isShelf) rfl rfl rfl hyS_X12_isShelf ⟨Nat.le_of_ble_eq_true rfl, Nat.le_of_ble_eq_true rfl⟩ rfl rfl (Nat.le_of_ble_eq_true rfl) dX12_shift_1 rfl (fun q1 => ?_)
  refine j_if_eq (pc' := 7) (tgt := 14) hC dX12_shift_4 (by decide) rfl ?_ ?_
  · refine j_iconst (pc' := 15) (v := (-1 : Int32)) hC dX12_shift_14 (by decide) rfl ?_
    exact j_ret_i hC dX12_shift_15
  · refine j_iload_n (pc' := 8) hC 3 dX12_shift_7 rfl rfl rfl ?_
    refine j_callS_zr (pc' := 11) (As := [.int p3]) (st := []) hC (kX12_isShelf l d A _ _) (jgS ml_X12_136 st_X12_isShelf in_X12 cd_X12_isShelf) rfl rfl rfl hyS_X12_isShelf ⟨Nat.le_of_ble_eq_true rfl, Nat.le_of_ble_eq_true rfl⟩ rfl rfl (Nat.le_of_ble_eq_true rfl) dX12_shift_8 rfl (fun q2 => ?_)
    refine j_if_ne (pc' := 14) (tgt := 16) hC dX12_shift_11 (by decide) rfl ?_ ?_
    · refine j_aload_n (pc' := 17) hC 0 dX12_shift_16 rfl rfl rfl ?_
      refine j_get (pc' := 20) hC ly_X12 (M_at_0 d _) rfl 53 (by decide) fl_X12_109 rfl dX12_shift_17 rfl ?_
      refine j_iload_n (pc' := 21) hC 1 dX12_shift_20 rfl rfl rfl ?_
      refine j_iald (pc' := 22) hC (M_at_31 d _) dX12_shift_21 rfl ?_
      refine j_iconst (pc' := 23) (v := (-1 : Int32)) hC dX12_shift_22 (by decide) rfl ?_
      refine j_icmp_eq (pc' := 26) (tgt := 36) hC dX12_shift_23 (by decide) rfl ?_ ?_
      · refine j_bipush (pc' := 38) (v := (-11 : Int32)) hC dX12_shift_36 (by decide) rfl ?_
        exact j_ret_i hC dX12_shift_38
      · refine j_aload_n (pc' := 27) hC 0 dX12_shift_26 rfl rfl rfl ?_
        refine j_get (pc' := 30) hC ly_X12 (M_at_0 d _) rfl 53 (by decide) fl_X12_109 rfl dX12_shift_27 rfl ?_
        refine j_iload_n (pc' := 31) hC 3 dX12_shift_30 rfl rfl rfl ?_
        refine j_iald (pc' := 32) hC (M_at_31 d _) dX12_shift_31 rfl ?_
        refine j_iconst (pc' := 33) (v := (-1 : Int32)) hC dX12_shift_32 (by decide) rfl ?_
        refine j_icmp_ne (pc' := 36) (tgt := 39) hC dX12_shift_33 (by decide) rfl ?_ ?_
        · refine j_aload_n (pc' := 40) hC 0 dX12_shift_39 rfl rfl rfl ?_
          refine j_get (pc' := 43) hC ly_X12 (M_at_0 d _) rfl 53 (by decide) fl_X12_109 rfl dX12_shift_40 rfl ?_
          refine j_iload_n (pc' := 44) hC 1 dX12_shift_43 rfl rfl rfl ?_
          refine j_iald (pc' := 45) hC (M_at_31 d _) dX12_shift_44 rfl ?_
          refine j_if_ge (pc' := 48) (tgt := 63) hC dX12_shift_45 (by decide) rfl ?_ ?_
          · refine j_bipush (pc' := 65) (v := (-12 : Int32)) hC dX12_shift_63 (by decide) rfl ?_
            exact j_ret_i hC dX12_shift_65
          · refine j_aload_n (pc' := 49) hC 0 dX12_shift_48 rfl rfl rfl ?_
            refine j_get (pc' := 52) hC ly_X12 (M_at_0 d _) rfl 53 (by decide) fl_X12_109 rfl dX12_shift_49 rfl ?_
            refine j_iload_n (pc' := 53) hC 1 dX12_shift_52 rfl rfl rfl ?_
            refine j_iald (pc' := 54) hC (M_at_31 d _) dX12_shift_53 rfl ?_
            refine j_aload_n (pc' := 55) hC 0 dX12_shift_54 rfl rfl rfl ?_
            refine j_get (pc' := 58) hC ly_X12 (M_at_0 d _) rfl 53 (by decide) fl_X12_109 rfl dX12_shift_55 rfl ?_
            refine j_iload_n (pc' := 59) hC 3 dX12_shift_58 rfl rfl rfl ?_
            refine j_iald (pc' := 60) hC (M_at_31 d _) dX12_shift_59 rfl ?_
            refine j_icmp_eq (pc' := 63) (tgt := 66) hC dX12_shift_60 (by decide) rfl ?_ ?_
            · refine j_iload (pc' := 68) hC 5 dX12_shift_66 rfl rfl ?_
              refine j_if_lt (pc' := 71) (tgt := 107) hC dX12_shift_68 (by decide) rfl ?_ ?_
              · refine j_bipush (pc' := 109) (v := (-13 : Int32)) hC dX12_shift_107 (by decide) rfl ?_
                exact j_ret_i hC dX12_shift_109
              · refine j_iload_n (pc' := 72) hC 2 dX12_shift_71 rfl rfl rfl ?_
                refine j_if_lt (pc' := 75) (tgt := 107) hC dX12_shift_72 (by decide) rfl ?_ ?_
                · refine j_bipush (pc' := 109) (v := (-13 : Int32)) hC dX12_shift_107 (by decide) rfl ?_
                  exact j_ret_i hC dX12_shift_109
                · refine j_iload (pc' := 77) hC 4 dX12_shift_75 rfl rfl ?_
                  refine j_if_lt (pc' := 80) (tgt := 107) hC dX12_shift_77 (by decide) rfl ?_ ?_
                  · refine j_bipush (pc' := 109) (v := (-13 : Int32)) hC dX12_shift_107 (by decide) rfl ?_
                    exact j_ret_i hC dX12_shift_109
                  · refine j_iload_n (pc' := 81) hC 2 dX12_shift_80 rfl rfl rfl ?_
                    refine j_aload_n (pc' := 82) hC 0 dX12_shift_81 rfl rfl rfl ?_
                    refine j_get (pc' := 85) hC ly_X12 (M_at_0 d _) rfl 54 (by decide) fl_X12_112 rfl dX12_shift_82 rfl ?_
                    refine j_iload_n (pc' := 86) hC 1 dX12_shift_85 rfl rfl rfl ?_
                    refine j_iald (pc' := 87) hC (M_at_32 d _) dX12_shift_86 rfl ?_
                    refine j_iload (pc' := 89) hC 5 dX12_shift_87 rfl rfl ?_
                    refine j_isub (pc' := 90) hC dX12_shift_89 rfl ?_
                    refine j_icmp_gt (pc' := 93) (tgt := 107) hC dX12_shift_90 (by decide) rfl ?_ ?_
                    · refine j_bipush (pc' := 109) (v := (-13 : Int32)) hC dX12_shift_107 (by decide) rfl ?_
                      exact j_ret_i hC dX12_shift_109
                    · refine j_iload (pc' := 95) hC 4 dX12_shift_93 rfl rfl ?_
                      refine j_aload_n (pc' := 96) hC 0 dX12_shift_95 rfl rfl rfl ?_
                      refine j_get (pc' := 99) hC ly_X12 (M_at_0 d _) rfl 54 (by decide) fl_X12_112 rfl dX12_shift_96 rfl ?_
                      refine j_iload_n (pc' := 100) hC 3 dX12_shift_99 rfl rfl rfl ?_
                      refine j_iald (pc' := 101) hC (M_at_32 d _) dX12_shift_100 rfl ?_
                      refine j_iload (pc' := 103) hC 5 dX12_shift_101 rfl rfl ?_
                      refine j_isub (pc' := 104) hC dX12_shift_103 rfl ?_
                      refine j_icmp_le (pc' := 107) (tgt := 110) hC dX12_shift_104 (by decide) rfl ?_ ?_
                      · refine j_iconst (pc' := 111) (v := (0 : Int32)) hC dX12_shift_110 (by decide) rfl ?_
                        refine j_istore (pc' := 113) (lv' := [(6, .int (0 : Int32)), (0, .ref (d.2.1 0)), (1, .int p1), (2, .int p2), (3, .int p3), (4, .int p4), (5, .int p5)]) hC dX12_shift_111 (by decide) rfl rfl ?_
                        refine j_let 147 (fun a147 => a147) (fun a147 => [(0, .ref (d.2.1 0)), (3, .int p3), (4, .int p4), (5, .int p5)]) (fun a147 => []) (fun a147 => ?_) (fun j147 hj147 => ?_)
                        · refine j_iconst (pc' := 148) (v := (0 : Int32)) hC dX12_shift_147 (by decide) rfl ?_
                          refine j_istore (pc' := 150) (lv' := [(6, .int (0 : Int32)), (0, .ref (d.2.1 0)), (3, .int p3), (4, .int p4), (5, .int p5)]) hC dX12_shift_148 (by decide) rfl rfl ?_
                          refine j_lv (lv' := [(0, .ref (d.2.1 0)), (3, .int p3), (4, .int p4), (5, .int p5), (6, .int (0 : Int32))]) [1, 2, 3, 4, 0] rfl ?_
                          refine j_loop 150 (fun a => a.1) (fun a => [(0, .ref (d.2.1 0)), (3, .int p3), (4, .int p4), (5, .int p5), (6, .int a.2)]) (fun s150 hs150 a => ?_) jN (a147, (0 : Int32))
                          unfold fX12_shift_B150
                          refine j_iload (pc' := 152) hC 4 dX12_shift_150 rfl rfl ?_
                          refine j_iload (pc' := 154) hC 3 dX12_shift_152 rfl rfl ?_
                          refine j_icmp_ge (pc' := 157) (tgt := 185) hC dX12_shift_154 (by decide) rfl ?_ ?_
                          · refine j_iload (pc' := 187) hC 3 dX12_shift_185 rfl rfl ?_
                            exact j_ret_i hC dX12_shift_187
                          · refine j_aload_n (pc' := 158) hC 0 dX12_shift_157 rfl rfl rfl ?_
                            refine j_get (pc' := 161) hC ly_X12 (M_at_0 d _) rfl 55 (by decide) fl_X12_115 rfl dX12_shift_158 rfl ?_
                            refine j_bipush (pc' := 163) (v := (60 : Int32)) hC dX12_shift_161 (by decide) rfl ?_
                            refine j_iload_n (pc' := 164) hC 1 dX12_shift_163 rfl rfl rfl ?_
                            refine j_imul (pc' := 165) hC dX12_shift_164 rfl ?_
                            refine j_iload (pc' := 167) hC 2 dX12_shift_165 rfl rfl ?_
                            refine j_iadd (pc' := 168) hC dX12_shift_167 rfl ?_
                            refine j_iload (pc' := 170) hC 4 dX12_shift_168 rfl rfl ?_
                            refine j_iadd (pc' := 171) hC dX12_shift_170 rfl ?_
                            refine j_aload_n (pc' := 172) hC 0 dX12_shift_171 rfl rfl rfl ?_
                            refine j_get (pc' := 175) hC ly_X12 (M_at_0 d _) rfl 56 (by decide) fl_X12_119 rfl dX12_shift_172 rfl ?_
                            refine j_iload (pc' := 177) hC 4 dX12_shift_175 rfl rfl ?_
                            refine j_lald (pc' := 178) hC (M_at_34 d _) dX12_shift_177 rfl ?_
                            refine j_last (pc' := 179) hC (M_at_33 d _) (M_sa_33 d _ _) dX12_shift_178 rfl ?_
                            refine j_st (fun σ3 => ?_)
                            refine j_iinc (pc' := 182) (v := (a.2 + (1 : Int32))) (lv' := [(6, .int (a.2 + (1 : Int32))), (0, .ref (d.2.1 0)), (3, .int p3), (4, .int p4), (5, .int p5)]) hC 4 dX12_shift_179 rfl (by decide) rfl rfl rfl ?_
                            refine j_goto (tgt := 150) hC dX12_shift_182 (by decide) ?_
                            exact j_lv (lv' := [(0, .ref (d.2.1 0)), (3, .int p3), (4, .int p4), (5, .int p5), (6, .int (a.2 + (1 : Int32)))]) [1, 2, 3, 4, 0] rfl (hs150 (σ3, (a.2 + (1 : Int32))))
                        · refine j_lv (lv' := [(0, .ref (d.2.1 0)), (1, .int p1), (2, .int p2), (3, .int p3), (4, .int p4), (5, .int p5), (6, .int (0 : Int32))]) [1, 2, 3, 4, 5, 6, 0] rfl ?_
                          refine j_loop 113 (fun a => a.1) (fun a => [(0, .ref (d.2.1 0)), (1, .int p1), (2, .int p2), (3, .int p3), (4, .int p4), (5, .int p5), (6, .int a.2)]) (fun s113 hs113 a => ?_) jN (σ, (0 : Int32))
                          unfold fX12_shift_B113
                          refine j_iload (pc' := 115) hC 6 dX12_shift_113 rfl rfl ?_
                          refine j_iload (pc' := 117) hC 5 dX12_shift_115 rfl rfl ?_
                          refine j_icmp_ge (pc' := 120) (tgt := 147) hC dX12_shift_117 (by decide) rfl ?_ ?_
                          · exact j_lv (lv' := [(0, .ref (d.2.1 0)), (3, .int p3), (4, .int p4), (5, .int p5)]) [0, 3, 4, 5] rfl (hj147 a.1)
                          · refine j_aload_n (pc' := 121) hC 0 dX12_shift_120 rfl rfl rfl ?_
                            refine j_get (pc' := 124) hC ly_X12 (M_at_0 d _) rfl 56 (by decide) fl_X12_119 rfl dX12_shift_121 rfl ?_
                            refine j_iload (pc' := 126) hC 6 dX12_shift_124 rfl rfl ?_
                            refine j_aload_n (pc' := 127) hC 0 dX12_shift_126 rfl rfl rfl ?_
                            refine j_get (pc' := 130) hC ly_X12 (M_at_0 d _) rfl 55 (by decide) fl_X12_115 rfl dX12_shift_127 rfl ?_
                            refine j_bipush (pc' := 132) (v := (60 : Int32)) hC dX12_shift_130 (by decide) rfl ?_
                            refine j_iload_n (pc' := 133) hC 1 dX12_shift_132 rfl rfl rfl ?_
                            refine j_imul (pc' := 134) hC dX12_shift_133 rfl ?_
                            refine j_iload_n (pc' := 135) hC 2 dX12_shift_134 rfl rfl rfl ?_
                            refine j_iadd (pc' := 136) hC dX12_shift_135 rfl ?_
                            refine j_iload (pc' := 138) hC 6 dX12_shift_136 rfl rfl ?_
                            refine j_iadd (pc' := 139) hC dX12_shift_138 rfl ?_
                            refine j_lald (pc' := 140) hC (M_at_33 d _) dX12_shift_139 rfl ?_
                            refine j_last (pc' := 141) hC (M_at_34 d _) (M_sa_34 d _ _) dX12_shift_140 rfl ?_
                            refine j_st (fun σ4 => ?_)
                            refine j_iinc (pc' := 144) (v := (a.2 + (1 : Int32))) (lv' := [(6, .int (a.2 + (1 : Int32))), (0, .ref (d.2.1 0)), (1, .int p1), (2, .int p2), (3, .int p3), (4, .int p4), (5, .int p5)]) hC 6 dX12_shift_141 rfl (by decide) rfl rfl rfl ?_
                            refine j_goto (tgt := 113) hC dX12_shift_144 (by decide) ?_
                            exact j_lv (lv' := [(0, .ref (d.2.1 0)), (1, .int p1), (2, .int p2), (3, .int p3), (4, .int p4), (5, .int p5), (6, .int (a.2 + (1 : Int32)))]) [1, 2, 3, 4, 5, 6, 0] rfl (hs113 (σ4, (a.2 + (1 : Int32))))
                      · refine j_bipush (pc' := 109) (v := (-13 : Int32)) hC dX12_shift_107 (by decide) rfl ?_
                        exact j_ret_i hC dX12_shift_109
            · refine j_bipush (pc' := 65) (v := (-12 : Int32)) hC dX12_shift_63 (by decide) rfl ?_
              exact j_ret_i hC dX12_shift_65
        · refine j_bipush (pc' := 38) (v := (-11 : Int32)) hC dX12_shift_36 (by decide) rfl ?_
          exact j_ret_i hC dX12_shift_38
    · refine j_iconst (pc' := 15) (v := (-1 : Int32)) hC dX12_shift_14 (by decide) rfl ?_
      exact j_ret_i hC dX12_shift_15
theorem hyV_X12_taken : yX12_taken.cls = RX12 ∧ yX12_taken.cls ≠ "java/lang/invoke/MethodHandle" ∧ yX12_taken.cls ≠ "java/lang/invoke/VarHandle" ∧ (parseMethodDescriptor yX12_taken.desc).map (fun d => d.parameters.length) = some 2 := ⟨rfl, by decide +kernel, by decide +kernel, by decide +kernel⟩
noncomputable def fX12_taken (σ : jS) (p1 : Int32) (p2 : Int32) : Option (Int32) :=
  (Option.bind (fX12_isShelf σ p1) fun (q1 : Int32) => (if (jb q1) = 0 then (some (-1 : Int32)) else (Option.bind (fX12_in σ p2 (0 : Int32) (7 : Int32)) fun (q2 : Int32) => (if (jb q2) = 0 then (some (-1 : Int32)) else (ob p1 6 (if (σ.1 31 (p1).toNatClampNeg) = (-1 : Int32) then (some (-11 : Int32)) else (ob p1 6 (if (σ.1 31 (p1).toNatClampNeg) < 0 then (some (-12 : Int32)) else (ob p1 6 (ob (σ.1 31 (p1).toNatClampNeg) 50 (Option.bind (fX12_isUnder σ (σ.1 29 ((σ.1 31 (p1).toNatClampNeg)).toNatClampNeg) p2) fun (q3 : Int32) => (if (jb q3) = 0 then (some (-12 : Int32)) else (ob p1 6 (ob (σ.1 31 (p1).toNatClampNeg) 50 (some (σ.1 29 ((σ.1 31 (p1).toNatClampNeg)).toNatClampNeg))))))))))))))))
set_option maxRecDepth 100000 in
set_option maxHeartbeats 4000000 in
theorem kX12_taken (l : Launch) (d : jD) (A : Nat → Prop) (σ : jS) (p1 : Int32) (p2 : Int32) : jMir l yX12_taken (jws yX12_taken cX12_taken 3 (some (.int))) { frames := 4, cells := 0, slots := 0, locals := 172 } d wM A [.ref (d.2.1 0), .int p1, .int p2] σ (fX12_taken σ p1 p2) := by
  refine jStart_ir (lv0 := [(0, .ref (d.2.1 0)), (1, .int p1), (2, .int p2)]) (by decide) rfl (Nat.le_of_ble_eq_true rfl) rfl (fun z hC res => ?_)
  unfold fX12_taken
  refine j_iload_n (pc' := 1) hC 1 dX12_taken_0 rfl rfl rfl ?_
  refine j_callS_zr (pc' := 4) (As := [.int p1]) (st := []) hC (kX12_isShelf l d A _ _) (jgS ml_X12_136 st_X12_isShelf in_X12 cd_X12_isShelf) rfl rfl rfl hyS_X12_isShelf ⟨Nat.le_of_ble_eq_true rfl, Nat.le_of_ble_eq_true rfl⟩ rfl rfl (Nat.le_of_ble_eq_true rfl) dX12_taken_1 rfl (fun q1 => ?_)
  refine j_if_eq (pc' := 7) (tgt := 17) hC dX12_taken_4 (by decide) rfl ?_ ?_
  · refine j_iconst (pc' := 18) (v := (-1 : Int32)) hC dX12_taken_17 (by decide) rfl ?_
    exact j_ret_ir hC dX12_taken_18
  · refine j_iload_n (pc' := 8) hC 2 dX12_taken_7 rfl rfl rfl ?_
    refine j_iconst (pc' := 9) (v := (0 : Int32)) hC dX12_taken_8 (by decide) rfl ?_
    refine j_bipush (pc' := 11) (v := (7 : Int32)) hC dX12_taken_9 (by decide) rfl ?_
    refine j_callS_zr (pc' := 14) (As := [.int p2, .int (0 : Int32), .int (7 : Int32)]) (st := []) hC (kX12_in l d A _ _ _ _) (jgS ml_X12_128 st_X12_in in_X12 cd_X12_in) rfl rfl rfl hyS_X12_in ⟨Nat.le_of_ble_eq_true rfl, Nat.le_of_ble_eq_true rfl⟩ rfl rfl (Nat.le_of_ble_eq_true rfl) dX12_taken_11 rfl (fun q2 => ?_)
    refine j_if_ne (pc' := 17) (tgt := 19) hC dX12_taken_14 (by decide) rfl ?_ ?_
    · refine j_aload_n (pc' := 20) hC 0 dX12_taken_19 rfl rfl rfl ?_
      refine j_get (pc' := 23) hC ly_X12 (M_at_0 d _) rfl 53 (by decide) fl_X12_109 rfl dX12_taken_20 rfl ?_
      refine j_iload_n (pc' := 24) hC 1 dX12_taken_23 rfl rfl rfl ?_
      refine j_iald (pc' := 25) hC (M_at_31 d _) dX12_taken_24 rfl ?_
      refine j_iconst (pc' := 26) (v := (-1 : Int32)) hC dX12_taken_25 (by decide) rfl ?_
      refine j_icmp_ne (pc' := 29) (tgt := 32) hC dX12_taken_26 (by decide) rfl ?_ ?_
      · refine j_aload_n (pc' := 33) hC 0 dX12_taken_32 rfl rfl rfl ?_
        refine j_get (pc' := 36) hC ly_X12 (M_at_0 d _) rfl 53 (by decide) fl_X12_109 rfl dX12_taken_33 rfl ?_
        refine j_iload_n (pc' := 37) hC 1 dX12_taken_36 rfl rfl rfl ?_
        refine j_iald (pc' := 38) hC (M_at_31 d _) dX12_taken_37 rfl ?_
        refine j_if_lt (pc' := 41) (tgt := 73) hC dX12_taken_38 (by decide) rfl ?_ ?_
        · refine j_bipush (pc' := 75) (v := (-12 : Int32)) hC dX12_taken_73 (by decide) rfl ?_
          exact j_ret_ir hC dX12_taken_75
        · refine j_aload_n (pc' := 42) hC 0 dX12_taken_41 rfl rfl rfl ?_
          refine j_get (pc' := 45) hC ly_X12 (M_at_0 d _) rfl 50 (by decide) fl_X12_103 rfl dX12_taken_42 rfl ?_
          refine j_aload_n (pc' := 46) hC 0 dX12_taken_45 rfl rfl rfl ?_
          refine j_get (pc' := 49) hC ly_X12 (M_at_0 d _) rfl 53 (by decide) fl_X12_109 rfl dX12_taken_46 rfl ?_
          refine j_iload_n (pc' := 50) hC 1 dX12_taken_49 rfl rfl rfl ?_
          refine j_iald (pc' := 51) hC (M_at_31 d _) dX12_taken_50 rfl ?_
          refine j_iald (pc' := 52) hC (M_at_29 d _) dX12_taken_51 rfl ?_
          refine j_iload_n (pc' := 53) hC 2 dX12_taken_52 rfl rfl rfl ?_
          refine j_callS_zr (pc' := 56) (As := [.int (σ.1 29 ((σ.1 31 (p1).toNatClampNeg)).toNatClampNeg), .int p2]) (st := []) hC (kX12_isUnder l d A _ _ _) (jgS ml_X12_358 st_X12_isUnder in_X12 cd_X12_isUnder) rfl rfl rfl hyS_X12_isUnder ⟨Nat.le_of_ble_eq_true rfl, Nat.le_of_ble_eq_true rfl⟩ rfl rfl (Nat.le_of_ble_eq_true rfl) dX12_taken_53 rfl (fun q3 => ?_)
          refine j_if_eq (pc' := 59) (tgt := 73) hC dX12_taken_56 (by decide) rfl ?_ ?_
          · refine j_bipush (pc' := 75) (v := (-12 : Int32)) hC dX12_taken_73 (by decide) rfl ?_
            exact j_ret_ir hC dX12_taken_75
          · refine j_aload_n (pc' := 60) hC 0 dX12_taken_59 rfl rfl rfl ?_
            refine j_get (pc' := 63) hC ly_X12 (M_at_0 d _) rfl 50 (by decide) fl_X12_103 rfl dX12_taken_60 rfl ?_
            refine j_aload_n (pc' := 64) hC 0 dX12_taken_63 rfl rfl rfl ?_
            refine j_get (pc' := 67) hC ly_X12 (M_at_0 d _) rfl 53 (by decide) fl_X12_109 rfl dX12_taken_64 rfl ?_
            refine j_iload_n (pc' := 68) hC 1 dX12_taken_67 rfl rfl rfl ?_
            refine j_iald (pc' := 69) hC (M_at_31 d _) dX12_taken_68 rfl ?_
            refine j_iald (pc' := 70) hC (M_at_29 d _) dX12_taken_69 rfl ?_
            refine j_goto (tgt := 75) hC dX12_taken_70 (by decide) ?_
            exact j_ret_ir hC dX12_taken_75
      · refine j_bipush (pc' := 31) (v := (-11 : Int32)) hC dX12_taken_29 (by decide) rfl ?_
        exact j_ret_ir hC dX12_taken_31
    · refine j_iconst (pc' := 18) (v := (-1 : Int32)) hC dX12_taken_17 (by decide) rfl ?_
      exact j_ret_ir hC dX12_taken_18
