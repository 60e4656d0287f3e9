theorem hyV_X9_isShelf : yX9_isShelf.cls = RX9 ∧ yX9_isShelf.cls ≠ "java/lang/invoke/MethodHandle" ∧ yX9_isShelf.cls ≠ "java/lang/invoke/VarHandle" ∧ (parseMethodDescriptor yX9_isShelf.desc).map (fun d => d.parameters.length) = some 1 := ⟨rfl, by decide +kernel, by decide +kernel, by decide +kernel⟩
noncomputable def fX9_isShelf (σ : jS) (p1 : Int32) : Option (Int32) :=
  (if p1 < 0 then (some (0 : Int32)) else (if (6 : Int32) ≤ p1 then (some (0 : Int32)) else (some (1 : Int32))))
set_option maxRecDepth 100000 in
set_option maxHeartbeats 4000000 in
theorem kX9_isShelf (l : Launch) (d : jD) (A : Nat → Prop) (σ : jS) (p1 : Int32) : jMzr l yX9_isShelf (jws yX9_isShelf cX9_isShelf 2 (some (.boolean))) { frames := 2, cells := 0, slots := 0, locals := 130 } d wX A [.ref (d.2.1 44), .int p1] σ (fX9_isShelf σ p1) := by
  refine jStart_zr (lv0 := [(0, .ref (d.2.1 44)), (1, .int p1)]) (by decide) rfl (Nat.le_of_ble_eq_true rfl) rfl (fun z hC res => ?_)
  unfold fX9_isShelf
  refine j_iload_n (pc' := 1) hC 1 dX9_isShelf_0 rfl rfl rfl ?_
  refine j_if_lt (pc' := 4) (tgt := 14) hC dX9_isShelf_1 (by decide) rfl ?_ ?_
  · refine j_iconst (pc' := 15) (v := (0 : Int32)) hC dX9_isShelf_14 (by decide) rfl ?_
    exact j_ret_zr hC (by decide) dX9_isShelf_15
  · refine j_iload_n (pc' := 5) hC 1 dX9_isShelf_4 rfl rfl rfl ?_
    refine j_bipush (pc' := 7) (v := (6 : Int32)) hC dX9_isShelf_5 (by decide) rfl ?_
    refine j_icmp_ge (pc' := 10) (tgt := 14) hC dX9_isShelf_7 (by decide) rfl ?_ ?_
    · refine j_iconst (pc' := 15) (v := (0 : Int32)) hC dX9_isShelf_14 (by decide) rfl ?_
      exact j_ret_zr hC (by decide) dX9_isShelf_15
    · refine j_iconst (pc' := 11) (v := (1 : Int32)) hC dX9_isShelf_10 (by decide) rfl ?_
      refine j_goto (tgt := 15) hC dX9_isShelf_11 (by decide) ?_
      exact j_ret_zr hC (by decide) dX9_isShelf_15
theorem hyV_X9_isEmpty : yX9_isEmpty.cls = RX9 ∧ yX9_isEmpty.cls ≠ "java/lang/invoke/MethodHandle" ∧ yX9_isEmpty.cls ≠ "java/lang/invoke/VarHandle" ∧ (parseMethodDescriptor yX9_isEmpty.desc).map (fun d => d.parameters.length) = some 1 := ⟨rfl, by decide +kernel, by decide +kernel, by decide +kernel⟩
noncomputable def fX9_isEmpty (σ : jS) (p1 : Int32) : Option (Int32) :=
  (Option.bind (fX9_isShelf σ p1) fun (q1 : Int32) => (if (jb q1) = 0 then (some (0 : Int32)) else (ob p1 6 (if (σ.1 45 (p1).toNatClampNeg) = 0 then (some (1 : Int32)) else (some (0 : Int32))))))
set_option maxRecDepth 100000 in
set_option maxHeartbeats 4000000 in
theorem kX9_isEmpty (l : Launch) (d : jD) (A : Nat → Prop) (σ : jS) (p1 : Int32) : jMzr l yX9_isEmpty (jws yX9_isEmpty cX9_isEmpty 2 (some (.boolean))) { frames := 3, cells := 0, slots := 0, locals := 151 } d wX A [.ref (d.2.1 44), .int p1] σ (fX9_isEmpty σ p1) := by
  refine jStart_zr (lv0 := [(0, .ref (d.2.1 44)), (1, .int p1)]) (by decide) rfl (Nat.le_of_ble_eq_true rfl) rfl (fun z hC res => ?_)
  unfold fX9_isEmpty
  refine j_aload_n (pc' := 1) hC 0 dX9_isEmpty_0 rfl rfl rfl ?_
  refine j_iload_n (pc' := 2) hC 1 dX9_isEmpty_1 rfl rfl rfl ?_
  refine j_callV_zr (pc' := 5) (As := [.int p1]) (st := []) hC (X_at_44 d _) rfl (kX9_isShelf l d A _ _) (jgV ml_X9_28 im_X9_isShelf se_X9_isShelf in_X9 cd_X9_isShelf) rfl rfl rfl hyV_X9_isShelf ⟨Nat.le_of_ble_eq_true rfl, Nat.le_of_ble_eq_true rfl⟩ rfl rfl (Nat.le_of_ble_eq_true rfl) dX9_isEmpty_2 rfl (fun q1 => ?_)
  refine j_if_eq (pc' := 8) (tgt := 21) hC dX9_isEmpty_5 (by decide) rfl ?_ ?_
  · refine j_iconst (pc' := 22) (v := (0 : Int32)) hC dX9_isEmpty_21 (by decide) rfl ?_
    exact j_ret_zr hC (by decide) dX9_isEmpty_22
  · refine j_aload_n (pc' := 9) hC 0 dX9_isEmpty_8 rfl rfl rfl ?_
    refine j_get (pc' := 12) hC ly_X9 (X_at_44 d _) rfl 0 (by decide) fl_X9_11 rfl dX9_isEmpty_9 rfl ?_
    refine j_iload_n (pc' := 13) hC 1 dX9_isEmpty_12 rfl rfl rfl ?_
    refine j_iald (pc' := 14) hC (X_at_45 d _) dX9_isEmpty_13 rfl ?_
    refine j_if_ne (pc' := 17) (tgt := 21) hC dX9_isEmpty_14 (by decide) rfl ?_ ?_
    · refine j_iconst (pc' := 22) (v := (0 : Int32)) hC dX9_isEmpty_21 (by decide) rfl ?_
      exact j_ret_zr hC (by decide) dX9_isEmpty_22
    · refine j_iconst (pc' := 18) (v := (1 : Int32)) hC dX9_isEmpty_17 (by decide) rfl ?_
      refine j_goto (tgt := 22) hC dX9_isEmpty_18 (by decide) ?_
      exact j_ret_zr hC (by decide) dX9_isEmpty_22
theorem hyV_X9_isRow : yX9_isRow.cls = RX9 ∧ yX9_isRow.cls ≠ "java/lang/invoke/MethodHandle" ∧ yX9_isRow.cls ≠ "java/lang/invoke/VarHandle" ∧ (parseMethodDescriptor yX9_isRow.desc).map (fun d => d.parameters.length) = some 1 := ⟨rfl, by decide +kernel, by decide +kernel, by decide +kernel⟩
noncomputable def fX9_isRow (σ : jS) (p1 : Int32) : Option (Int32) :=
  (Option.bind (fX9_isShelf σ p1) fun (q1 : Int32) => (if (jb q1) = 0 then (some (0 : Int32)) else (ob p1 6 (if (σ.1 45 (p1).toNatClampNeg) = (2 : Int32) then (some (1 : Int32)) else (some (0 : Int32))))))
set_option maxRecDepth 100000 in
set_option maxHeartbeats 4000000 in
theorem kX9_isRow (l : Launch) (d : jD) (A : Nat → Prop) (σ : jS) (p1 : Int32) : jMzr l yX9_isRow (jws yX9_isRow cX9_isRow 2 (some (.boolean))) { frames := 3, cells := 0, slots := 0, locals := 151 } d wX A [.ref (d.2.1 44), .int p1] σ (fX9_isRow σ p1) := by
  refine jStart_zr (lv0 := [(0, .ref (d.2.1 44)), (1, .int p1)]) (by decide) rfl (Nat.le_of_ble_eq_true rfl) rfl (fun z hC res => ?_)
  unfold fX9_isRow
  refine j_aload_n (pc' := 1) hC 0 dX9_isRow_0 rfl rfl rfl ?_
  refine j_iload_n (pc' := 2) hC 1 dX9_isRow_1 rfl rfl rfl ?_
  refine j_callV_zr (pc' := 5) (As := [.int p1]) (st := []) hC (X_at_44 d _) rfl (kX9_isShelf l d A _ _) (jgV ml_X9_28 im_X9_isShelf se_X9_isShelf in_X9 cd_X9_isShelf) rfl rfl rfl hyV_X9_isShelf ⟨Nat.le_of_ble_eq_true rfl, Nat.le_of_ble_eq_true rfl⟩ rfl rfl (Nat.le_of_ble_eq_true rfl) dX9_isRow_2 rfl (fun q1 => ?_)
  refine j_if_eq (pc' := 8) (tgt := 22) hC dX9_isRow_5 (by decide) rfl ?_ ?_
  · refine j_iconst (pc' := 23) (v := (0 : Int32)) hC dX9_isRow_22 (by decide) rfl ?_
    exact j_ret_zr hC (by decide) dX9_isRow_23
  · refine j_aload_n (pc' := 9) hC 0 dX9_isRow_8 rfl rfl rfl ?_
    refine j_get (pc' := 12) hC ly_X9 (X_at_44 d _) rfl 0 (by decide) fl_X9_11 rfl dX9_isRow_9 rfl ?_
    refine j_iload_n (pc' := 13) hC 1 dX9_isRow_12 rfl rfl rfl ?_
    refine j_iald (pc' := 14) hC (X_at_45 d _) dX9_isRow_13 rfl ?_
    refine j_iconst (pc' := 15) (v := (2 : Int32)) hC dX9_isRow_14 (by decide) rfl ?_
    refine j_icmp_ne (pc' := 18) (tgt := 22) hC dX9_isRow_15 (by decide) rfl ?_ ?_
    · refine j_iconst (pc' := 23) (v := (0 : Int32)) hC dX9_isRow_22 (by decide) rfl ?_
      exact j_ret_zr hC (by decide) dX9_isRow_23
    · refine j_iconst (pc' := 19) (v := (1 : Int32)) hC dX9_isRow_18 (by decide) rfl ?_
      refine j_goto (tgt := 23) hC dX9_isRow_19 (by decide) ?_
      exact j_ret_zr hC (by decide) dX9_isRow_23
theorem hyV_X9_areLikeRows : yX9_areLikeRows.cls = RX9 ∧ yX9_areLikeRows.cls ≠ "java/lang/invoke/MethodHandle" ∧ yX9_areLikeRows.cls ≠ "java/lang/invoke/VarHandle" ∧ (parseMethodDescriptor yX9_areLikeRows.desc).map (fun d => d.parameters.length) = some 2 := ⟨rfl, by decide +kernel, by decide +kernel, by decide +kernel⟩
noncomputable def fX9_areLikeRows (σ : jS) (p1 : Int32) (p2 : Int32) : Option (Int32) :=
  (Option.bind (fX9_isRow σ p1) fun (q1 : Int32) => (if (jb q1) = 0 then (some (0 : Int32)) else (Option.bind (fX9_isRow σ p2) fun (q2 : Int32) => (if (jb q2) = 0 then (some (0 : Int32)) else (ob p1 6 (ob p2 6 (if (σ.1 47 (p1).toNatClampNeg) = (σ.1 47 (p2).toNatClampNeg) then (some (1 : Int32)) else (some (0 : Int32)))))))))
set_option maxRecDepth 100000 in
set_option maxHeartbeats 4000000 in
theorem kX9_areLikeRows (l : Launch) (d : jD) (A : Nat → Prop) (σ : jS) (p1 : Int32) (p2 : Int32) : jMzr l yX9_areLikeRows (jws yX9_areLikeRows cX9_areLikeRows 3 (some (.boolean))) { frames := 4, cells := 0, slots := 0, locals := 172 } d wX A [.ref (d.2.1 44), .int p1, .int p2] σ (fX9_areLikeRows σ p1 p2) := by
  refine jStart_zr (lv0 := [(0, .ref (d.2.1 44)), (1, .int p1), (2, .int p2)]) (by decide) rfl (Nat.le_of_ble_eq_true rfl) rfl (fun z hC res => ?_)
  unfold fX9_areLikeRows
  refine j_aload_n (pc' := 1) hC 0 dX9_areLikeRows_0 rfl rfl rfl ?_
  refine j_iload_n (pc' := 2) hC 1 dX9_areLikeRows_1 rfl rfl rfl ?_
  refine j_callV_zr (pc' := 5) (As := [.int p1]) (st := []) hC (X_at_44 d _) rfl (kX9_isRow l d A _ _) (jgV ml_X9_32 im_X9_isRow se_X9_isRow in_X9 cd_X9_isRow) rfl rfl rfl hyV_X9_isRow ⟨Nat.le_of_ble_eq_true rfl, Nat.le_of_ble_eq_true rfl⟩ rfl rfl (Nat.le_of_ble_eq_true rfl) dX9_areLikeRows_2 rfl (fun q1 => ?_)
  refine j_if_eq (pc' := 8) (tgt := 35) hC dX9_areLikeRows_5 (by decide) rfl ?_ ?_
  · refine j_iconst (pc' := 36) (v := (0 : Int32)) hC dX9_areLikeRows_35 (by decide) rfl ?_
    exact j_ret_zr hC (by decide) dX9_areLikeRows_36
  · refine j_aload_n (pc' := 9) hC 0 dX9_areLikeRows_8 rfl rfl rfl ?_
    refine j_iload_n (pc' := 10) hC 2 dX9_areLikeRows_9 rfl rfl rfl ?_
    refine j_callV_zr (pc' := 13) (As := [.int p2]) (st := []) hC (X_at_44 d _) rfl (kX9_isRow l d A _ _) (jgV ml_X9_32 im_X9_isRow se_X9_isRow in_X9 cd_X9_isRow) rfl rfl rfl hyV_X9_isRow ⟨Nat.le_of_ble_eq_true rfl, Nat.le_of_ble_eq_true rfl⟩ rfl rfl (Nat.le_of_ble_eq_true rfl) dX9_areLikeRows_10 rfl (fun q2 => ?_)
    refine j_if_eq (pc' := 16) (tgt := 35) hC dX9_areLikeRows_13 (by decide) rfl ?_ ?_
    · refine j_iconst (pc' := 36) (v := (0 : Int32)) hC dX9_areLikeRows_35 (by decide) rfl ?_
      exact j_ret_zr hC (by decide) dX9_areLikeRows_36
    · refine j_aload_n (pc' := 17) hC 0 dX9_areLikeRows_16 rfl rfl rfl ?_
      refine j_get (pc' := 20) hC ly_X9 (X_at_44 d _) rfl 2 (by decide) fl_X9_18 rfl dX9_areLikeRows_17 rfl ?_
      refine j_iload_n (pc' := 21) hC 1 dX9_areLikeRows_20 rfl rfl rfl ?_
      refine j_iald (pc' := 22) hC (X_at_47 d _) dX9_areLikeRows_21 rfl ?_
      refine j_aload_n (pc' := 23) hC 0 dX9_areLikeRows_22 rfl rfl rfl ?_
      refine j_get (pc' := 26) hC ly_X9 (X_at_44 d _) rfl 2 (by decide) fl_X9_18 rfl dX9_areLikeRows_23 rfl ?_
      refine j_iload_n (pc' := 27) hC 2 dX9_areLikeRows_26 rfl rfl rfl ?_
      refine j_iald (pc' := 28) hC (X_at_47 d _) dX9_areLikeRows_27 rfl ?_
      refine j_icmp_ne (pc' := 31) (tgt := 35) hC dX9_areLikeRows_28 (by decide) rfl ?_ ?_
      · refine j_iconst (pc' := 36) (v := (0 : Int32)) hC dX9_areLikeRows_35 (by decide) rfl ?_
        exact j_ret_zr hC (by decide) dX9_areLikeRows_36
      · refine j_iconst (pc' := 32) (v := (1 : Int32)) hC dX9_areLikeRows_31 (by decide) rfl ?_
        refine j_goto (tgt := 36) hC dX9_areLikeRows_32 (by decide) ?_
        exact j_ret_zr hC (by decide) dX9_areLikeRows_36
theorem hyV_X9_refusalOfBytes : yX9_refusalOfBytes.cls = RX9 ∧ yX9_refusalOfBytes.cls ≠ "java/lang/invoke/MethodHandle" ∧ yX9_refusalOfBytes.cls ≠ "java/lang/invoke/VarHandle" ∧ (parseMethodDescriptor yX9_refusalOfBytes.desc).map (fun d => d.parameters.length) = some 1 := ⟨rfl, by decide +kernel, by decide +kernel, by decide +kernel⟩
noncomputable def fX9_refusalOfBytes (σ : jS) (p1 : Int32) : Option (Int32) :=
  (Option.bind (fX9_isEmpty σ p1) fun (q1 : Int32) => (if (jb q1) = 0 then (Option.bind (fX9_isRow σ p1) fun (q2 : Int32) => (if (jb q2) = 0 then (some (-12 : Int32)) else (ob p1 6 (if (σ.1 47 (p1).toNatClampNeg) = 0 then (some (0 : Int32)) else (some (-12 : Int32)))))) else (some (-11 : Int32))))
set_option maxRecDepth 100000 in
set_option maxHeartbeats 4000000 in
theorem kX9_refusalOfBytes (l : Launch) (d : jD) (A : Nat → Prop) (σ : jS) (p1 : Int32) : jMir l yX9_refusalOfBytes (jws yX9_refusalOfBytes cX9_refusalOfBytes 2 (some (.int))) { frames := 4, cells := 0, slots := 0, locals := 172 } d wX A [.ref (d.2.1 44), .int p1] σ (fX9_refusalOfBytes σ p1) := by
  refine jStart_ir (lv0 := [(0, .ref (d.2.1 44)), (1, .int p1)]) (by decide) rfl (Nat.le_of_ble_eq_true rfl) rfl (fun z hC res => ?_)
  unfold fX9_refusalOfBytes
  refine j_aload_n (pc' := 1) hC 0 dX9_refusalOfBytes_0 rfl rfl rfl ?_
  refine j_iload_n (pc' := 2) hC 1 dX9_refusalOfBytes_1 rfl rfl rfl ?_
  refine j_callV_zr (pc' := 5) (As := [.int p1]) (st := []) hC (X_at_44 d _) rfl (kX9_isEmpty l d A _ _) (jgV ml_X9_35 im_X9_isEmpty se_X9_isEmpty in_X9 cd_X9_isEmpty) rfl rfl rfl hyV_X9_isEmpty ⟨Nat.le_of_ble_eq_true rfl, Nat.le_of_ble_eq_true rfl⟩ rfl rfl (Nat.le_of_ble_eq_true rfl) dX9_refusalOfBytes_2 rfl (fun q1 => ?_)
  refine j_if_eq (pc' := 8) (tgt := 11) hC dX9_refusalOfBytes_5 (by decide) rfl ?_ ?_
  · refine j_aload_n (pc' := 12) hC 0 dX9_refusalOfBytes_11 rfl rfl rfl ?_
    refine j_iload_n (pc' := 13) hC 1 dX9_refusalOfBytes_12 rfl rfl rfl ?_
    refine j_callV_zr (pc' := 16) (As := [.int p1]) (st := []) hC (X_at_44 d _) rfl (kX9_isRow l d A _ _) (jgV ml_X9_32 im_X9_isRow se_X9_isRow in_X9 cd_X9_isRow) rfl rfl rfl hyV_X9_isRow ⟨Nat.le_of_ble_eq_true rfl, Nat.le_of_ble_eq_true rfl⟩ rfl rfl (Nat.le_of_ble_eq_true rfl) dX9_refusalOfBytes_13 rfl (fun q2 => ?_)
    refine j_if_eq (pc' := 19) (tgt := 32) hC dX9_refusalOfBytes_16 (by decide) rfl ?_ ?_
    · refine j_bipush (pc' := 34) (v := (-12 : Int32)) hC dX9_refusalOfBytes_32 (by decide) rfl ?_
      exact j_ret_ir hC dX9_refusalOfBytes_34
    · refine j_aload_n (pc' := 20) hC 0 dX9_refusalOfBytes_19 rfl rfl rfl ?_
      refine j_get (pc' := 23) hC ly_X9 (X_at_44 d _) rfl 2 (by decide) fl_X9_18 rfl dX9_refusalOfBytes_20 rfl ?_
      refine j_iload_n (pc' := 24) hC 1 dX9_refusalOfBytes_23 rfl rfl rfl ?_
      refine j_iald (pc' := 25) hC (X_at_47 d _) dX9_refusalOfBytes_24 rfl ?_
      refine j_if_ne (pc' := 28) (tgt := 32) hC dX9_refusalOfBytes_25 (by decide) rfl ?_ ?_
      · refine j_bipush (pc' := 34) (v := (-12 : Int32)) hC dX9_refusalOfBytes_32 (by decide) rfl ?_
        exact j_ret_ir hC dX9_refusalOfBytes_34
      · refine j_iconst (pc' := 29) (v := (0 : Int32)) hC dX9_refusalOfBytes_28 (by decide) rfl ?_
        refine j_goto (tgt := 34) hC dX9_refusalOfBytes_29 (by decide) ?_
        exact j_ret_ir hC dX9_refusalOfBytes_34
  · refine j_bipush (pc' := 10) (v := (-11 : Int32)) hC dX9_refusalOfBytes_8 (by decide) rfl ?_
    exact j_ret_ir hC dX9_refusalOfBytes_10
theorem hyV_X9_sizeOf : yX9_sizeOf.cls = RX9 ∧ yX9_sizeOf.cls ≠ "java/lang/invoke/MethodHandle" ∧ yX9_sizeOf.cls ≠ "java/lang/invoke/VarHandle" ∧ (parseMethodDescriptor yX9_sizeOf.desc).map (fun d => d.parameters.length) = some 1 := ⟨rfl, by decide +kernel, by decide +kernel, by decide +kernel⟩
noncomputable def fX9_sizeOf (σ : jS) (p1 : Int32) : Option (Int32) :=
  (Option.bind (fX9_isRow σ p1) fun (q1 : Int32) => (if (jb q1) = 0 then (some (0 : Int32)) else (ob p1 6 (some (σ.1 48 (p1).toNatClampNeg)))))
set_option maxRecDepth 100000 in
set_option maxHeartbeats 4000000 in
theorem kX9_sizeOf (l : Launch) (d : jD) (A : Nat → Prop) (σ : jS) (p1 : Int32) : jMir l yX9_sizeOf (jws yX9_sizeOf cX9_sizeOf 2 (some (.int))) { frames := 4, cells := 0, slots := 0, locals := 172 } d wX A [.ref (d.2.1 44), .int p1] σ (fX9_sizeOf σ p1) := by
  refine jStart_ir (lv0 := [(0, .ref (d.2.1 44)), (1, .int p1)]) (by decide) rfl (Nat.le_of_ble_eq_true rfl) rfl (fun z hC res => ?_)
  unfold fX9_sizeOf
  refine j_aload_n (pc' := 1) hC 0 dX9_sizeOf_0 rfl rfl rfl ?_
  refine j_iload_n (pc' := 2) hC 1 dX9_sizeOf_1 rfl rfl rfl ?_
  refine j_callV_zr (pc' := 5) (As := [.int p1]) (st := []) hC (X_at_44 d _) rfl (kX9_isRow l d A _ _) (jgV ml_X9_32 im_X9_isRow se_X9_isRow in_X9 cd_X9_isRow) rfl rfl rfl hyV_X9_isRow ⟨Nat.le_of_ble_eq_true rfl, Nat.le_of_ble_eq_true rfl⟩ rfl rfl (Nat.le_of_ble_eq_true rfl) dX9_sizeOf_2 rfl (fun q1 => ?_)
  refine j_if_eq (pc' := 8) (tgt := 17) hC dX9_sizeOf_5 (by decide) rfl ?_ ?_
  · refine j_iconst (pc' := 18) (v := (0 : Int32)) hC dX9_sizeOf_17 (by decide) rfl ?_
    exact j_ret_ir hC dX9_sizeOf_18
  · refine j_aload_n (pc' := 9) hC 0 dX9_sizeOf_8 rfl rfl rfl ?_
    refine j_get (pc' := 12) hC ly_X9 (X_at_44 d _) rfl 3 (by decide) fl_X9_21 rfl dX9_sizeOf_9 rfl ?_
    refine j_iload_n (pc' := 13) hC 1 dX9_sizeOf_12 rfl rfl rfl ?_
    refine j_iald (pc' := 14) hC (X_at_48 d _) dX9_sizeOf_13 rfl ?_
    refine j_goto (tgt := 18) hC dX9_sizeOf_14 (by decide) ?_
    exact j_ret_ir hC dX9_sizeOf_18
theorem hyV_X9_hasPlaces : yX9_hasPlaces.cls = RX9 ∧ yX9_hasPlaces.cls ≠ "java/lang/invoke/MethodHandle" ∧ yX9_hasPlaces.cls ≠ "java/lang/invoke/VarHandle" ∧ (parseMethodDescriptor yX9_hasPlaces.desc).map (fun d => d.parameters.length) = some 3 := ⟨rfl, by decide +kernel, by decide +kernel, by decide +kernel⟩
noncomputable def fX9_hasPlaces (σ : jS) (p1 : Int32) (p2 : Int32) (p3 : Int32) : Option (Int32) :=
  (Option.bind (fX9_sizeOf σ p1) fun (q1 : Int32) => (if p2 < 0 then (some (0 : Int32)) else (if p3 < 0 then (some (0 : Int32)) else (if q1 < p2 then (some (0 : Int32)) else (if (q1 - p2) < p3 then (some (0 : Int32)) else (some (1 : Int32)))))))
set_option maxRecDepth 100000 in
set_option maxHeartbeats 4000000 in
theorem kX9_hasPlaces (l : Launch) (d : jD) (A : Nat → Prop) (σ : jS) (p1 : Int32) (p2 : Int32) (p3 : Int32) : jMzr l yX9_hasPlaces (jws yX9_hasPlaces cX9_hasPlaces 5 (some (.boolean))) { frames := 5, cells := 0, slots := 0, locals := 193 } d wX A [.ref (d.2.1 44), .int p1, .int p2, .int p3] σ (fX9_hasPlaces σ p1 p2 p3) := by
  refine jStart_zr (lv0 := [(0, .ref (d.2.1 44)), (1, .int p1), (2, .int p2), (3, .int p3)]) (by decide) rfl (Nat.le_of_ble_eq_true rfl) rfl (fun z hC res => ?_)
  unfold fX9_hasPlaces
  refine j_aload_n (pc' := 1) hC 0 dX9_hasPlaces_0 rfl rfl rfl ?_
  refine j_iload_n (pc' := 2) hC 1 dX9_hasPlaces_1 rfl rfl rfl ?_
  refine j_callV_ir (pc' := 5) (As := [.int p1]) (st := []) hC (X_at_44 d _) rfl (kX9_sizeOf l d A _ _) (jgV ml_X9_42 im_X9_sizeOf se_X9_sizeOf in_X9 cd_X9_sizeOf) rfl rfl rfl hyV_X9_sizeOf ⟨Nat.le_of_ble_eq_true rfl, Nat.le_of_ble_eq_true rfl⟩ rfl rfl (Nat.le_of_ble_eq_true rfl) dX9_hasPlaces_2 rfl (fun q1 => ?_)
  refine j_istore (pc' := 7) (lv' := [(4, .int q1), (0, .ref (d.2.1 44)), (1, .int p1), (2, .int p2), (3, .int p3)]) hC dX9_hasPlaces_5 (by decide) rfl rfl ?_
  refine j_iload_n (pc' := 8) hC 3 dX9_hasPlaces_7 rfl rfl rfl ?_
  refine j_if_lt (pc' := 11) (tgt := 33) hC dX9_hasPlaces_8 (by decide) rfl ?_ ?_
  · refine j_iconst (pc' := 34) (v := (0 : Int32)) hC dX9_hasPlaces_33 (by decide) rfl ?_
    exact j_ret_zr hC (by decide) dX9_hasPlaces_34
  · refine j_iload_n (pc' := 12) hC 4 dX9_hasPlaces_11 rfl rfl rfl ?_
    refine j_if_lt (pc' := 15) (tgt := 33) hC dX9_hasPlaces_12 (by decide) rfl ?_ ?_
    · refine j_iconst (pc' := 34) (v := (0 : Int32)) hC dX9_hasPlaces_33 (by decide) rfl ?_
      exact j_ret_zr hC (by decide) dX9_hasPlaces_34
    · refine j_iload_n (pc' := 16) hC 3 dX9_hasPlaces_15 rfl rfl rfl ?_
      refine j_iload (pc' := 18) hC 0 dX9_hasPlaces_16 rfl rfl ?_
      refine j_icmp_gt (pc' := 21) (tgt := 33) hC dX9_hasPlaces_18 (by decide) rfl ?_ ?_
      · refine j_iconst (pc' := 34) (v := (0 : Int32)) hC dX9_hasPlaces_33 (by decide) rfl ?_
        exact j_ret_zr hC (by decide) dX9_hasPlaces_34
      · refine j_iload_n (pc' := 22) hC 4 dX9_hasPlaces_21 rfl rfl rfl ?_
        refine j_iload (pc' := 24) hC 0 dX9_hasPlaces_22 rfl rfl ?_
        refine j_iload_n (pc' := 25) hC 3 dX9_hasPlaces_24 rfl rfl rfl ?_
        refine j_isub (pc' := 26) hC dX9_hasPlaces_25 rfl ?_
        refine j_icmp_gt (pc' := 29) (tgt := 33) hC dX9_hasPlaces_26 (by decide) rfl ?_ ?_
        · refine j_iconst (pc' := 34) (v := (0 : Int32)) hC dX9_hasPlaces_33 (by decide) rfl ?_
          exact j_ret_zr hC (by decide) dX9_hasPlaces_34
        · refine j_iconst (pc' := 30) (v := (1 : Int32)) hC dX9_hasPlaces_29 (by decide) rfl ?_
          refine j_goto (tgt := 34) hC dX9_hasPlaces_30 (by decide) ?_
          exact j_ret_zr hC (by decide) dX9_hasPlaces_34
theorem hyV_X9_refusalAt : yX9_refusalAt.cls = RX9 ∧ yX9_refusalAt.cls ≠ "java/lang/invoke/MethodHandle" ∧ yX9_refusalAt.cls ≠ "java/lang/invoke/VarHandle" ∧ (parseMethodDescriptor yX9_refusalAt.desc).map (fun d => d.parameters.length) = some 2 := ⟨rfl, by decide +kernel, by decide +kernel, by decide +kernel⟩
noncomputable def fX9_refusalAt (σ : jS) (p1 : Int32) (p2 : Int32) : Option (Int32) :=
  (Option.bind (fX9_isShelf σ p1) fun (q1 : Int32) => (if (jb q1) = 0 then (some (-1 : Int32)) else (Option.bind (fX9_isEmpty σ p1) fun (q2 : Int32) => (if (jb q2) = 0 then (Option.bind (fX9_isRow σ p1) fun (q3 : Int32) => (if (jb q3) = 0 then (some (-12 : Int32)) else (Option.bind (fX9_hasPlaces σ p1 p2 (1 : Int32)) fun (q4 : Int32) => (if (jb q4) = 0 then (some (-13 : Int32)) else (some (0 : Int32)))))) else (some (-11 : Int32))))))
set_option maxRecDepth 100000 in
set_option maxHeartbeats 4000000 in
theorem kX9_refusalAt (l : Launch) (d : jD) (A : Nat → Prop) (σ : jS) (p1 : Int32) (p2 : Int32) : jMir l yX9_refusalAt (jws yX9_refusalAt cX9_refusalAt 3 (some (.int))) { frames := 6, cells := 0, slots := 0, locals := 217 } d wX A [.ref (d.2.1 44), .int p1, .int p2] σ (fX9_refusalAt σ p1 p2) := by
  refine jStart_ir (lv0 := [(0, .ref (d.2.1 44)), (1, .int p1), (2, .int p2)]) (by decide) rfl (Nat.le_of_ble_eq_true rfl) rfl (fun z hC res => ?_)
  unfold fX9_refusalAt
  refine j_aload_n (pc' := 1) hC 0 dX9_refusalAt_0 rfl rfl rfl ?_
  refine j_iload_n (pc' := 2) hC 1 dX9_refusalAt_1 rfl rfl rfl ?_
  refine j_callV_zr (pc' := 5) (As := [.int p1]) (st := []) hC (X_at_44 d _) rfl (kX9_isShelf l d A _ _) (jgV ml_X9_28 im_X9_isShelf se_X9_isShelf in_X9 cd_X9_isShelf) rfl rfl rfl hyV_X9_isShelf ⟨Nat.le_of_ble_eq_true rfl, Nat.le_of_ble_eq_true rfl⟩ rfl rfl (Nat.le_of_ble_eq_true rfl) dX9_refusalAt_2 rfl (fun q1 => ?_)
  refine j_if_ne (pc' := 8) (tgt := 10) hC dX9_refusalAt_5 (by decide) rfl ?_ ?_
  · refine j_aload_n (pc' := 11) hC 0 dX9_refusalAt_10 rfl rfl rfl ?_
    refine j_iload_n (pc' := 12) hC 1 dX9_refusalAt_11 rfl rfl rfl ?_
    refine j_callV_zr (pc' := 15) (As := [.int p1]) (st := []) hC (X_at_44 d _) rfl (kX9_isEmpty l d A _ _) (jgV ml_X9_35 im_X9_isEmpty se_X9_isEmpty in_X9 cd_X9_isEmpty) rfl rfl rfl hyV_X9_isEmpty ⟨Nat.le_of_ble_eq_true rfl, Nat.le_of_ble_eq_true rfl⟩ rfl rfl (Nat.le_of_ble_eq_true rfl) dX9_refusalAt_12 rfl (fun q2 => ?_)
    refine j_if_eq (pc' := 18) (tgt := 21) hC dX9_refusalAt_15 (by decide) rfl ?_ ?_
    · refine j_aload_n (pc' := 22) hC 0 dX9_refusalAt_21 rfl rfl rfl ?_
      refine j_iload_n (pc' := 23) hC 1 dX9_refusalAt_22 rfl rfl rfl ?_
      refine j_callV_zr (pc' := 26) (As := [.int p1]) (st := []) hC (X_at_44 d _) rfl (kX9_isRow l d A _ _) (jgV ml_X9_32 im_X9_isRow se_X9_isRow in_X9 cd_X9_isRow) rfl rfl rfl hyV_X9_isRow ⟨Nat.le_of_ble_eq_true rfl, Nat.le_of_ble_eq_true rfl⟩ rfl rfl (Nat.le_of_ble_eq_true rfl) dX9_refusalAt_23 rfl (fun q3 => ?_)
      refine j_if_ne (pc' := 29) (tgt := 32) hC dX9_refusalAt_26 (by decide) rfl ?_ ?_
      · refine j_aload_n (pc' := 33) hC 0 dX9_refusalAt_32 rfl rfl rfl ?_
        refine j_iload_n (pc' := 34) hC 1 dX9_refusalAt_33 rfl rfl rfl ?_
        refine j_iload_n (pc' := 35) hC 2 dX9_refusalAt_34 rfl rfl rfl ?_
        refine j_iconst (pc' := 36) (v := (1 : Int32)) hC dX9_refusalAt_35 (by decide) rfl ?_
        refine j_callV_zr (pc' := 39) (As := [.int p1, .int p2, .int (1 : Int32)]) (st := []) hC (X_at_44 d _) rfl (kX9_hasPlaces l d A _ _ _ _) (jgV ml_X9_38 im_X9_hasPlaces se_X9_hasPlaces in_X9 cd_X9_hasPlaces) rfl rfl rfl hyV_X9_hasPlaces ⟨Nat.le_of_ble_eq_true rfl, Nat.le_of_ble_eq_true rfl⟩ rfl rfl (Nat.le_of_ble_eq_true rfl) dX9_refusalAt_36 rfl (fun q4 => ?_)
        refine j_if_eq (pc' := 42) (tgt := 46) hC dX9_refusalAt_39 (by decide) rfl ?_ ?_
        · refine j_bipush (pc' := 48) (v := (-13 : Int32)) hC dX9_refusalAt_46 (by decide) rfl ?_
          exact j_ret_ir hC dX9_refusalAt_48
        · refine j_iconst (pc' := 43) (v := (0 : Int32)) hC dX9_refusalAt_42 (by decide) rfl ?_
          refine j_goto (tgt := 48) hC dX9_refusalAt_43 (by decide) ?_
          exact j_ret_ir hC dX9_refusalAt_48
      · refine j_bipush (pc' := 31) (v := (-12 : Int32)) hC dX9_refusalAt_29 (by decide) rfl ?_
        exact j_ret_ir hC dX9_refusalAt_31
    · refine j_bipush (pc' := 20) (v := (-11 : Int32)) hC dX9_refusalAt_18 (by decide) rfl ?_
      exact j_ret_ir hC dX9_refusalAt_20
  · refine j_iconst (pc' := 9) (v := (-1 : Int32)) hC dX9_refusalAt_8 (by decide) rfl ?_
    exact j_ret_ir hC dX9_refusalAt_9
theorem hyV_X9_hold : yX9_hold.cls = RX9 ∧ yX9_hold.cls ≠ "java/lang/invoke/MethodHandle" ∧ yX9_hold.cls ≠ "java/lang/invoke/VarHandle" ∧ (parseMethodDescriptor yX9_hold.desc).map (fun d => d.parameters.length) = some 2 := ⟨rfl, by decide +kernel, by decide +kernel, by decide +kernel⟩
noncomputable def fX9_hold (σ : jS) (p1 : Int32) (p2 : Int32) : Option (jS) :=
  (Option.bind (fX9_isShelf σ p1) fun (q1 : Int32) => (if (jb q1) = 0 then (some σ) else (jlet (fun (a22 : Int32) => (ob p1 6 (jst (ju σ 45 (p1).toNatClampNeg a22) fun (σ2 : jS) => (ob p1 6 (jst (ju σ2 46 (p1).toNatClampNeg p2) fun (σ3 : jS) => (some σ3)))))) fun (j22 : (Int32 → Option (jS))) => (if 0 ≤ p2 then (j22 (1 : Int32)) else (j22 (0 : Int32))))))
set_option maxRecDepth 100000 in
set_option maxHeartbeats 4000000 in
theorem kX9_hold (l : Launch) (d : jD) (A : Nat → Prop) (σ : jS) (p1 : Int32) (p2 : Int32) : jMv l yX9_hold (jws yX9_hold cX9_hold 3 none) { frames := 3, cells := 0, slots := 0, locals := 151 } d wX A [.ref (d.2.1 44), .int p1, .int p2] σ (fX9_hold σ p1 p2) := by
  refine jStart_v (lv0 := [(0, .ref (d.2.1 44)), (1, .int p1), (2, .int p2)]) (by decide) rfl (Nat.le_of_ble_eq_true rfl) rfl (fun z hC res => ?_)
  unfold fX9_hold
  refine j_aload_n (pc' := 1) hC 0 dX9_hold_0 rfl rfl rfl ?_
  refine j_iload_n (pc' := 2) hC 1 dX9_hold_1 rfl rfl rfl ?_
  refine j_callV_zr (pc' := 5) (As := [.int p1]) (st := []) hC (X_at_44 d _) rfl (kX9_isShelf l d A _ _) (jgV ml_X9_28 im_X9_isShelf se_X9_isShelf in_X9 cd_X9_isShelf) rfl rfl rfl hyV_X9_isShelf ⟨Nat.le_of_ble_eq_true rfl, Nat.le_of_ble_eq_true rfl⟩ rfl rfl (Nat.le_of_ble_eq_true rfl) dX9_hold_2 rfl (fun q1 => ?_)
  refine j_if_eq (pc' := 8) (tgt := 30) hC dX9_hold_5 (by decide) rfl ?_ ?_
  · exact j_ret_v hC dX9_hold_30
  · refine j_aload_n (pc' := 9) hC 0 dX9_hold_8 rfl rfl rfl ?_
    refine j_get (pc' := 12) hC ly_X9 (X_at_44 d _) rfl 0 (by decide) fl_X9_11 rfl dX9_hold_9 rfl ?_
    refine j_iload_n (pc' := 13) hC 1 dX9_hold_12 rfl rfl rfl ?_
    refine j_iload_n (pc' := 14) hC 2 dX9_hold_13 rfl rfl rfl ?_
    refine j_let 22 (fun a22 => σ) (fun a22 => [(0, .ref (d.2.1 44)), (1, .int p1), (2, .int p2)]) (fun a22 => [.int a22, .int p1, .ref (d.2.1 45)]) (fun a22 => ?_) (fun j22 hj22 => ?_)
    · refine j_iast (pc' := 23) hC (X_at_45 d _) (X_sa_45 d _ _) dX9_hold_22 rfl ?_
      refine j_st (fun σ2 => ?_)
      refine j_aload_n (pc' := 24) hC 0 dX9_hold_23 rfl rfl rfl ?_
      refine j_get (pc' := 27) hC ly_X9 (X_at_44 d _) rfl 1 (by decide) fl_X9_15 rfl dX9_hold_24 rfl ?_
      refine j_iload_n (pc' := 28) hC 1 dX9_hold_27 rfl rfl rfl ?_
      refine j_iload_n (pc' := 29) hC 2 dX9_hold_28 rfl rfl rfl ?_
      refine j_iast (pc' := 30) hC (X_at_46 d _) (X_sa_46 d _ _) dX9_hold_29 rfl ?_
      refine j_st (fun σ3 => ?_)
      exact j_ret_v hC dX9_hold_30
    · refine j_if_ge (pc' := 17) (tgt := 21) hC dX9_hold_14 (by decide) rfl ?_ ?_
      · refine j_iconst (pc' := 22) (v := (1 : Int32)) hC dX9_hold_21 (by decide) rfl ?_
        exact j_lv (lv' := [(0, .ref (d.2.1 44)), (1, .int p1), (2, .int p2)]) [0, 1, 2] rfl (hj22 (1 : Int32))
      · refine j_iconst (pc' := 18) (v := (0 : Int32)) hC dX9_hold_17 (by decide) rfl ?_
        refine j_goto (tgt := 22) hC dX9_hold_18 (by decide) ?_
        exact j_lv (lv' := [(0, .ref (d.2.1 44)), (1, .int p1), (2, .int p2)]) [0, 1, 2] rfl (hj22 (0 : Int32))
theorem hyV_X9_bodyOn : yX9_bodyOn.cls = RX9 ∧ yX9_bodyOn.cls ≠ "java/lang/invoke/MethodHandle" ∧ yX9_bodyOn.cls ≠ "java/lang/invoke/VarHandle" ∧ (parseMethodDescriptor yX9_bodyOn.desc).map (fun d => d.parameters.length) = some 1 := ⟨rfl, by decide +kernel, by decide +kernel, by decide +kernel⟩
noncomputable def fX9_bodyOn (σ : jS) (p1 : Int32) : Option (Int32) :=
  (Option.bind (fX9_isShelf σ p1) fun (q1 : Int32) => (if (jb q1) = 0 then (some (-1 : Int32)) else (ob p1 6 (if (σ.1 45 (p1).toNatClampNeg) = (1 : Int32) then (ob p1 6 (some (σ.1 46 (p1).toNatClampNeg))) else (some (-1 : Int32))))))
set_option maxRecDepth 100000 in
set_option maxHeartbeats 4000000 in
theorem kX9_bodyOn (l : Launch) (d : jD) (A : Nat → Prop) (σ : jS) (p1 : Int32) : jMir l yX9_bodyOn (jws yX9_bodyOn cX9_bodyOn 2 (some (.int))) { frames := 3, cells := 0, slots := 0, locals := 151 } d wX A [.ref (d.2.1 44), .int p1] σ (fX9_bodyOn σ p1) := by
  refine jStart_ir (lv0 := [(0, .ref (d.2.1 44)), (1, .int p1)]) (by decide) rfl (Nat.le_of_ble_eq_true rfl) rfl (fun z hC res => ?_)
  unfold fX9_bodyOn
  refine j_aload_n (pc' := 1) hC 0 dX9_bodyOn_0 rfl rfl rfl ?_
  refine j_iload_n (pc' := 2) hC 1 dX9_bodyOn_1 rfl rfl rfl ?_
  refine j_callV_zr (pc' := 5) (As := [.int p1]) (st := []) hC (X_at_44 d _) rfl (kX9_isShelf l d A _ _) (jgV ml_X9_28 im_X9_isShelf se_X9_isShelf in_X9 cd_X9_isShelf) rfl rfl rfl hyV_X9_isShelf ⟨Nat.le_of_ble_eq_true rfl, Nat.le_of_ble_eq_true rfl⟩ rfl rfl (Nat.le_of_ble_eq_true rfl) dX9_bodyOn_2 rfl (fun q1 => ?_)
  refine j_if_eq (pc' := 8) (tgt := 27) hC dX9_bodyOn_5 (by decide) rfl ?_ ?_
  · refine j_iconst (pc' := 28) (v := (-1 : Int32)) hC dX9_bodyOn_27 (by decide) rfl ?_
    exact j_ret_ir hC dX9_bodyOn_28
  · refine j_aload_n (pc' := 9) hC 0 dX9_bodyOn_8 rfl rfl rfl ?_
    refine j_get (pc' := 12) hC ly_X9 (X_at_44 d _) rfl 0 (by decide) fl_X9_11 rfl dX9_bodyOn_9 rfl ?_
    refine j_iload_n (pc' := 13) hC 1 dX9_bodyOn_12 rfl rfl rfl ?_
    refine j_iald (pc' := 14) hC (X_at_45 d _) dX9_bodyOn_13 rfl ?_
    refine j_iconst (pc' := 15) (v := (1 : Int32)) hC dX9_bodyOn_14 (by decide) rfl ?_
    refine j_icmp_ne (pc' := 18) (tgt := 27) hC dX9_bodyOn_15 (by decide) rfl ?_ ?_
    · refine j_iconst (pc' := 28) (v := (-1 : Int32)) hC dX9_bodyOn_27 (by decide) rfl ?_
      exact j_ret_ir hC dX9_bodyOn_28
    · refine j_aload_n (pc' := 19) hC 0 dX9_bodyOn_18 rfl rfl rfl ?_
      refine j_get (pc' := 22) hC ly_X9 (X_at_44 d _) rfl 1 (by decide) fl_X9_15 rfl dX9_bodyOn_19 rfl ?_
      refine j_iload_n (pc' := 23) hC 1 dX9_bodyOn_22 rfl rfl rfl ?_
      refine j_iald (pc' := 24) hC (X_at_46 d _) dX9_bodyOn_23 rfl ?_
      refine j_goto (tgt := 28) hC dX9_bodyOn_24 (by decide) ?_
      exact j_ret_ir hC dX9_bodyOn_28
theorem hyV_X9_elementAt : yX9_elementAt.cls = RX9 ∧ yX9_elementAt.cls ≠ "java/lang/invoke/MethodHandle" ∧ yX9_elementAt.cls ≠ "java/lang/invoke/VarHandle" ∧ (parseMethodDescriptor yX9_elementAt.desc).map (fun d => d.parameters.length) = some 2 := ⟨rfl, by decide +kernel, by decide +kernel, by decide +kernel⟩
noncomputable def fX9_elementAt (σ : jS) (p1 : Int32) (p2 : Int32) : Option (Int64) :=
  (Option.bind (fX9_hasPlaces σ p1 p2 (1 : Int32)) fun (q1 : Int32) => (if (jb q1) = 0 then (some (0 : Int64)) else (ob ((p1 * (60 : Int32)) + p2) 360 (some (σ.2 49 (((p1 * (60 : Int32)) + p2)).toNatClampNeg)))))
set_option maxRecDepth 100000 in
set_option maxHeartbeats 4000000 in
theorem kX9_elementAt (l : Launch) (d : jD) (A : Nat → Prop) (σ : jS) (p1 : Int32) (p2 : Int32) : jMlr l yX9_elementAt (jws yX9_elementAt cX9_elementAt 3 (some (.long))) { frames := 6, cells := 0, slots := 0, locals := 217 } d wX A [.ref (d.2.1 44), .int p1, .int p2] σ (fX9_elementAt σ p1 p2) := by
  refine jStart_lr (lv0 := [(0, .ref (d.2.1 44)), (1, .int p1), (2, .int p2)]) (by decide) rfl (Nat.le_of_ble_eq_true rfl) rfl (fun z hC res => ?_)
  unfold fX9_elementAt
  refine j_aload_n (pc' := 1) hC 0 dX9_elementAt_0 rfl rfl rfl ?_
  refine j_iload_n (pc' := 2) hC 1 dX9_elementAt_1 rfl rfl rfl ?_
  refine j_iload_n (pc' := 3) hC 2 dX9_elementAt_2 rfl rfl rfl ?_
  refine j_iconst (pc' := 4) (v := (1 : Int32)) hC dX9_elementAt_3 (by decide) rfl ?_
  refine j_callV_zr (pc' := 7) (As := [.int p1, .int p2, .int (1 : Int32)]) (st := []) hC (X_at_44 d _) rfl (kX9_hasPlaces l d A _ _ _ _) (jgV ml_X9_38 im_X9_hasPlaces se_X9_hasPlaces in_X9 cd_X9_hasPlaces) rfl rfl rfl hyV_X9_hasPlaces ⟨Nat.le_of_ble_eq_true rfl, Nat.le_of_ble_eq_true rfl⟩ rfl rfl (Nat.le_of_ble_eq_true rfl) dX9_elementAt_4 rfl (fun q1 => ?_)
  refine j_if_eq (pc' := 10) (tgt := 24) hC dX9_elementAt_7 (by decide) rfl ?_ ?_
  · refine j_lconst (pc' := 25) (v := (0 : Int64)) hC dX9_elementAt_24 (by decide) rfl ?_
    exact j_ret_lr hC dX9_elementAt_25
  · refine j_aload_n (pc' := 11) hC 0 dX9_elementAt_10 rfl rfl rfl ?_
    refine j_get (pc' := 14) hC ly_X9 (X_at_44 d _) rfl 4 (by decide) fl_X9_24 rfl dX9_elementAt_11 rfl ?_
    refine j_iload_n (pc' := 15) hC 1 dX9_elementAt_14 rfl rfl rfl ?_
    refine j_bipush (pc' := 17) (v := (60 : Int32)) hC dX9_elementAt_15 (by decide) rfl ?_
    refine j_imul (pc' := 18) hC dX9_elementAt_17 rfl ?_
    refine j_iload_n (pc' := 19) hC 2 dX9_elementAt_18 rfl rfl rfl ?_
    refine j_iadd (pc' := 20) hC dX9_elementAt_19 rfl ?_
    refine j_lald (pc' := 21) hC (X_at_49 d _) dX9_elementAt_20 rfl ?_
    refine j_goto (tgt := 25) hC dX9_elementAt_21 (by decide) ?_
    exact j_ret_lr hC dX9_elementAt_25
theorem hyS_X9_cut : yX9_cut.cls ≠ "java/lang/invoke/MethodHandle" ∧ yX9_cut.cls ≠ "java/lang/invoke/VarHandle" ∧ (parseMethodDescriptor yX9_cut.desc).map (fun d => d.parameters.length) = some 2 := ⟨by decide +kernel, by decide +kernel, by decide +kernel⟩
noncomputable def fX9_cut (σ : jS) (p1 : Int32) (p2 : Int64) : Option (Int64) :=
  (if p1 = (0 : Int32) then (some (((p2.toInt32).toInt8.toInt32).toInt64)) else (if p1 = (1 : Int32) then (some (((p2.toInt32).toInt16.toInt32).toInt64)) else (if p1 = (2 : Int32) then (some ((p2.toInt32).toInt64)) else (if p1 = (3 : Int32) then (some p2) else (if (lg_cmp p2 (0 : Int64)) = 0 then (some (0 : Int64)) else (some (1 : Int64)))))))
set_option maxRecDepth 100000 in
set_option maxHeartbeats 4000000 in
theorem kX9_cut (l : Launch) (d : jD) (A : Nat → Prop) (σ : jS) (p1 : Int32) (p2 : Int64) : jMlr l yX9_cut (jws yX9_cut cX9_cut 3 (some (.long))) { frames := 2, cells := 0, slots := 0, locals := 130 } d wX A [.int p1, .long p2] σ (fX9_cut σ p1 p2) := by
  refine jStart_lr (lv0 := [(0, .int p1), (1, .long p2)]) (by decide) rfl (Nat.le_of_ble_eq_true rfl) rfl (fun z hC res => ?_)
  unfold fX9_cut
  refine j_iload_n (pc' := 1) hC 0 dX9_cut_0 rfl rfl rfl ?_
  refine j_if (fun c0 => ?_) (fun c0 => ?_)
  · refine j_tableIn (tgt := 32) (off := 31) hC dX9_cut_1 (by rw [c0]; decide) (by rw [c0]; decide) (by rw [c0]; rfl) (by decide) ?_
    refine j_lload_n (pc' := 33) hC 1 dX9_cut_32 rfl rfl rfl ?_
    refine j_l2i (pc' := 34) hC dX9_cut_33 rfl ?_
    refine j_i2b (pc' := 35) hC dX9_cut_34 rfl ?_
    refine j_i2l (pc' := 36) hC dX9_cut_35 rfl ?_
    exact j_ret_lr hC dX9_cut_36
  refine j_if (fun c1 => ?_) (fun c1 => ?_)
  · refine j_tableIn (tgt := 37) (off := 36) hC dX9_cut_1 (by rw [c1]; decide) (by rw [c1]; decide) (by rw [c1]; rfl) (by decide) ?_
    refine j_lload_n (pc' := 38) hC 1 dX9_cut_37 rfl rfl rfl ?_
    refine j_l2i (pc' := 39) hC dX9_cut_38 rfl ?_
    refine j_i2s (pc' := 40) hC dX9_cut_39 rfl ?_
    refine j_i2l (pc' := 41) hC dX9_cut_40 rfl ?_
    exact j_ret_lr hC dX9_cut_41
  refine j_if (fun c2 => ?_) (fun c2 => ?_)
  · refine j_tableIn (tgt := 42) (off := 41) hC dX9_cut_1 (by rw [c2]; decide) (by rw [c2]; decide) (by rw [c2]; rfl) (by decide) ?_
    refine j_lload_n (pc' := 43) hC 1 dX9_cut_42 rfl rfl rfl ?_
    refine j_l2i (pc' := 44) hC dX9_cut_43 rfl ?_
    refine j_i2l (pc' := 45) hC dX9_cut_44 rfl ?_
    exact j_ret_lr hC dX9_cut_45
  refine j_if (fun c3 => ?_) (fun c3 => ?_)
  · refine j_tableIn (tgt := 46) (off := 45) hC dX9_cut_1 (by rw [c3]; decide) (by rw [c3]; decide) (by rw [c3]; rfl) (by decide) ?_
    refine j_lload_n (pc' := 47) hC 1 dX9_cut_46 rfl rfl rfl ?_
    exact j_ret_lr hC dX9_cut_47
  refine j_tableOut (tgt := 48) hC dX9_cut_1 (by have e0 := lv_neT c0 (a := 0) rfl; have e1 := lv_neT c1 (a := 1) rfl; have e2 := lv_neT c2 (a := 2) rfl; have e3 := lv_neT c3 (a := 3) rfl; omega) (by decide) ?_
  refine j_lload_n (pc' := 49) hC 1 dX9_cut_48 rfl rfl rfl ?_
  refine j_lconst (pc' := 50) (v := (0 : Int64)) hC dX9_cut_49 (by decide) rfl ?_
  refine j_lcmp (pc' := 51) hC dX9_cut_50 rfl ?_
  refine j_if_eq (pc' := 54) (tgt := 58) hC dX9_cut_51 (by decide) rfl ?_ ?_
  · refine j_lconst (pc' := 59) (v := (0 : Int64)) hC dX9_cut_58 (by decide) rfl ?_
    exact j_ret_lr hC dX9_cut_59
  · refine j_lconst (pc' := 55) (v := (1 : Int64)) hC dX9_cut_54 (by decide) rfl ?_
    refine j_goto (tgt := 59) hC dX9_cut_55 (by decide) ?_
    exact j_ret_lr hC dX9_cut_59
theorem hyV_X9_setElement : yX9_setElement.cls = RX9 ∧ yX9_setElement.cls ≠ "java/lang/invoke/MethodHandle" ∧ yX9_setElement.cls ≠ "java/lang/invoke/VarHandle" ∧ (parseMethodDescriptor yX9_setElement.desc).map (fun d => d.parameters.length) = some 3 := ⟨rfl, by decide +kernel, by decide +kernel, by decide +kernel⟩
noncomputable def fX9_setElement (σ : jS) (p1 : Int32) (p2 : Int32) (p3 : Int64) : Option (jS) :=
  (Option.bind (fX9_hasPlaces σ p1 p2 (1 : Int32)) fun (q1 : Int32) => (if (jb q1) = 0 then (some σ) else (ob p1 6 (Option.bind (fX9_cut σ (σ.1 47 (p1).toNatClampNeg) p3) fun (q2 : Int64) => (ob ((p1 * (60 : Int32)) + p2) 360 (jst (jul σ 49 (((p1 * (60 : Int32)) + p2)).toNatClampNeg q2) fun (σ3 : jS) => (some σ3)))))))
set_option maxRecDepth 100000 in
set_option maxHeartbeats 4000000 in
theorem kX9_setElement (l : Launch) (d : jD) (A : Nat → Prop) (σ : jS) (p1 : Int32) (p2 : Int32) (p3 : Int64) : jMv l yX9_setElement (jws yX9_setElement cX9_setElement 5 none) { frames := 6, cells := 0, slots := 0, locals := 217 } d wX A [.ref (d.2.1 44), .int p1, .int p2, .long p3] σ (fX9_setElement σ p1 p2 p3) := by
  refine jStart_v (lv0 := [(0, .ref (d.2.1 44)), (1, .int p1), (2, .int p2), (3, .long p3)]) (by decide) rfl (Nat.le_of_ble_eq_true rfl) rfl (fun z hC res => ?_)
  unfold fX9_setElement
  refine j_aload_n (pc' := 1) hC 0 dX9_setElement_0 rfl rfl rfl ?_
  refine j_iload_n (pc' := 2) hC 1 dX9_setElement_1 rfl rfl rfl ?_
  refine j_iload_n (pc' := 3) hC 2 dX9_setElement_2 rfl rfl rfl ?_
  refine j_iconst (pc' := 4) (v := (1 : Int32)) hC dX9_setElement_3 (by decide) rfl ?_
  refine j_callV_zr (pc' := 7) (As := [.int p1, .int p2, .int (1 : Int32)]) (st := []) hC (X_at_44 d _) rfl (kX9_hasPlaces l d A _ _ _ _) (jgV ml_X9_38 im_X9_hasPlaces se_X9_hasPlaces in_X9 cd_X9_hasPlaces) rfl rfl rfl hyV_X9_hasPlaces ⟨Nat.le_of_ble_eq_true rfl, Nat.le_of_ble_eq_true rfl⟩ rfl rfl (Nat.le_of_ble_eq_true rfl) dX9_setElement_4 rfl (fun q1 => ?_)
  refine j_if_eq (pc' := 10) (tgt := 31) hC dX9_setElement_7 (by decide) rfl ?_ ?_
  · exact j_ret_v hC dX9_setElement_31
  · refine j_aload_n (pc' := 11) hC 0 dX9_setElement_10 rfl rfl rfl ?_
    refine j_get (pc' := 14) hC ly_X9 (X_at_44 d _) rfl 4 (by decide) fl_X9_24 rfl dX9_setElement_11 rfl ?_
    refine j_iload_n (pc' := 15) hC 1 dX9_setElement_14 rfl rfl rfl ?_
    refine j_bipush (pc' := 17) (v := (60 : Int32)) hC dX9_setElement_15 (by decide) rfl ?_
    refine j_imul (pc' := 18) hC dX9_setElement_17 rfl ?_
    refine j_iload_n (pc' := 19) hC 2 dX9_setElement_18 rfl rfl rfl ?_
    refine j_iadd (pc' := 20) hC dX9_setElement_19 rfl ?_
    refine j_aload_n (pc' := 21) hC 0 dX9_setElement_20 rfl rfl rfl ?_
    refine j_get (pc' := 24) hC ly_X9 (X_at_44 d _) rfl 2 (by decide) fl_X9_18 rfl dX9_setElement_21 rfl ?_
    refine j_iload_n (pc' := 25) hC 1 dX9_setElement_24 rfl rfl rfl ?_
    refine j_iald (pc' := 26) hC (X_at_47 d _) dX9_setElement_25 rfl ?_
    refine j_lload_n (pc' := 27) hC 3 dX9_setElement_26 rfl rfl rfl ?_
    refine j_callS_lr (pc' := 30) (As := [.int (σ.1 47 (p1).toNatClampNeg), .long p3]) (st := [.int ((p1 * (60 : Int32)) + p2), .ref (d.2.1 49)]) hC (kX9_cut l d A _ _ _) (jgS ml_X9_52 st_X9_cut in_X9 cd_X9_cut) rfl rfl rfl hyS_X9_cut ⟨Nat.le_of_ble_eq_true rfl, Nat.le_of_ble_eq_true rfl⟩ rfl rfl (Nat.le_of_ble_eq_true rfl) dX9_setElement_27 rfl (fun q2 => ?_)
    refine j_last (pc' := 31) hC (X_at_49 d _) (X_sa_49 d _ _) dX9_setElement_30 rfl ?_
    refine j_st (fun σ3 => ?_)
    exact j_ret_v hC dX9_setElement_31
theorem hyV_X9_move : yX9_move.cls = RX9 ∧ yX9_move.cls ≠ "java/lang/invoke/MethodHandle" ∧ yX9_move.cls ≠ "java/lang/invoke/VarHandle" ∧ (parseMethodDescriptor yX9_move.desc).map (fun d => d.parameters.length) = some 5 := ⟨rfl, by decide +kernel, by decide +kernel, by decide +kernel⟩
noncomputable def fX9_move (σ : jS) (p1 : Int32) (p2 : Int32) (p3 : Int32) (p4 : Int32) (p5 : Int32) : Option (jS) :=
  (Option.bind (fX9_hasPlaces σ p1 p2 p5) fun (q1 : Int32) => (if (jb q1) = 0 then (some σ) else (Option.bind (fX9_hasPlaces σ p3 p4 p5) fun (q2 : Int32) => (if (jb q2) = 0 then (some σ) else (ocp ((p1 * (60 : Int32)) + p2) ((p3 * (60 : Int32)) + p4) p5 360 360 (jst (jcl σ 49 (va_cpy (σ.2 49) (σ.2 49) (((p1 * (60 : Int32)) + p2)).toNatClampNeg (((p3 * (60 : Int32)) + p4)).toNatClampNeg (p5).toNatClampNeg)) fun (σ3 : jS) => (some σ3)))))))
set_option maxRecDepth 100000 in
set_option maxHeartbeats 4000000 in
theorem kX9_move (l : Launch) (d : jD) (A : Nat → Prop) (σ : jS) (p1 : Int32) (p2 : Int32) (p3 : Int32) (p4 : Int32) (p5 : Int32) : jMv l yX9_move (jws yX9_move cX9_move 6 none) { frames := 6, cells := 0, slots := 0, locals := 217 } d wX A [.ref (d.2.1 44), .int p1, .int p2, .int p3, .int p4, .int p5] σ (fX9_move σ p1 p2 p3 p4 p5) := by
  refine jStart_v (lv0 := [(0, .ref (d.2.1 44)), (1, .int p1), (2, .int p2), (3, .int p3), (4, .int p4), (5, .int p5)]) (by decide) rfl (Nat.le_of_ble_eq_true rfl) rfl (fun z hC res => ?_)
  unfold fX9_move
  refine j_aload_n (pc' := 1) hC 0 dX9_move_0 rfl rfl rfl ?_
  refine j_iload_n (pc' := 2) hC 1 dX9_move_1 rfl rfl rfl ?_
  refine j_iload_n (pc' := 3) hC 2 dX9_move_2 rfl rfl rfl ?_
  refine j_iload (pc' := 5) hC 5 dX9_move_3 rfl rfl ?_
  refine j_callV_zr (pc' := 8) (As := [.int p1, .int p2, .int p5]) (st := []) hC (X_at_44 d _) rfl (kX9_hasPlaces l d A _ _ _ _) (jgV ml_X9_38 im_X9_hasPlaces se_X9_hasPlaces in_X9 cd_X9_hasPlaces) rfl rfl rfl hyV_X9_hasPlaces ⟨Nat.le_of_ble_eq_true rfl, Nat.le_of_ble_eq_true rfl⟩ rfl rfl (Nat.le_of_ble_eq_true rfl) dX9_move_5 rfl (fun q1 => ?_)
  refine j_if_eq (pc' := 11) (tgt := 49) hC dX9_move_8 (by decide) rfl ?_ ?_
  · exact j_ret_v hC dX9_move_49
  · refine j_aload_n (pc' := 12) hC 0 dX9_move_11 rfl rfl rfl ?_
    refine j_iload_n (pc' := 13) hC 3 dX9_move_12 rfl rfl rfl ?_
    refine j_iload (pc' := 15) hC 4 dX9_move_13 rfl rfl ?_
    refine j_iload (pc' := 17) hC 5 dX9_move_15 rfl rfl ?_
    refine j_callV_zr (pc' := 20) (As := [.int p3, .int p4, .int p5]) (st := []) hC (X_at_44 d _) rfl (kX9_hasPlaces l d A _ _ _ _) (jgV ml_X9_38 im_X9_hasPlaces se_X9_hasPlaces in_X9 cd_X9_hasPlaces) rfl rfl rfl hyV_X9_hasPlaces ⟨Nat.le_of_ble_eq_true rfl, Nat.le_of_ble_eq_true rfl⟩ rfl rfl (Nat.le_of_ble_eq_true rfl) dX9_move_17 rfl (fun q2 => ?_)
    refine j_if_eq (pc' := 23) (tgt := 49) hC dX9_move_20 (by decide) rfl ?_ ?_
    · exact j_ret_v hC dX9_move_49
    · refine j_aload_n (pc' := 24) hC 0 dX9_move_23 rfl rfl rfl ?_
      refine j_get (pc' := 27) hC ly_X9 (X_at_44 d _) rfl 4 (by decide) fl_X9_24 rfl dX9_move_24 rfl ?_
      refine j_iload_n (pc' := 28) hC 1 dX9_move_27 rfl rfl rfl ?_
      refine j_bipush (pc' := 30) (v := (60 : Int32)) hC dX9_move_28 (by decide) rfl ?_
      refine j_imul (pc' := 31) hC dX9_move_30 rfl ?_
      refine j_iload_n (pc' := 32) hC 2 dX9_move_31 rfl rfl rfl ?_
      refine j_iadd (pc' := 33) hC dX9_move_32 rfl ?_
      refine j_aload_n (pc' := 34) hC 0 dX9_move_33 rfl rfl rfl ?_
      refine j_get (pc' := 37) hC ly_X9 (X_at_44 d _) rfl 4 (by decide) fl_X9_24 rfl dX9_move_34 rfl ?_
      refine j_iload_n (pc' := 38) hC 3 dX9_move_37 rfl rfl rfl ?_
      refine j_bipush (pc' := 40) (v := (60 : Int32)) hC dX9_move_38 (by decide) rfl ?_
      refine j_imul (pc' := 41) hC dX9_move_40 rfl ?_
      refine j_iload (pc' := 43) hC 4 dX9_move_41 rfl rfl ?_
      refine j_iadd (pc' := 44) hC dX9_move_43 rfl ?_
      refine j_iload (pc' := 46) hC 5 dX9_move_44 rfl rfl ?_
      refine j_copyl (pc' := 49) hC ml_X9_56 na_acopy st_acopy in_J10 (X_at_49 d _) (X_at_49 d _) (X_sa_49 d _ _) (Nat.le_of_ble_eq_true rfl) (Nat.le_of_ble_eq_true rfl) dX9_move_46 rfl ?_
      refine j_st (fun σ3 => ?_)
      exact j_ret_v hC dX9_move_49
theorem hyS_J7_rangeCheck_23922 : yJ7_rangeCheck_23922.cls ≠ "java/lang/invoke/MethodHandle" ∧ yJ7_rangeCheck_23922.cls ≠ "java/lang/invoke/VarHandle" ∧ (parseMethodDescriptor yJ7_rangeCheck_23922.desc).map (fun d => d.parameters.length) = some 3 := ⟨by decide +kernel, by decide +kernel, by decide +kernel⟩
noncomputable def fJ7_rangeCheck_23922 (σ : jS) (p1 : Int32) (p2 : Int32) (p3 : Int32) : Option (jS) :=
  (if p2 ≤ p3 then (if 0 ≤ p2 then (if p3 ≤ p1 then (some σ) else none) else none) else none)
set_option maxRecDepth 100000 in
set_option maxHeartbeats 4000000 in
theorem kJ7_rangeCheck_23922 (l : Launch) (d : jD) (A : Nat → Prop) (σ : jS) (p1 : Int32) (p2 : Int32) (p3 : Int32) : jMv l yJ7_rangeCheck_23922 (jws yJ7_rangeCheck_23922 cJ7_rangeCheck_23922 3 none) { frames := 2, cells := 0, slots := 0, locals := 130 } d wX A [.int p1, .int p2, .int p3] σ (fJ7_rangeCheck_23922 σ p1 p2 p3) := by
  refine jStart_v (lv0 := [(0, .int p1), (1, .int p2), (2, .int p3)]) (by decide) rfl (Nat.le_of_ble_eq_true rfl) rfl (fun z hC res => ?_)
  unfold fJ7_rangeCheck_23922
  refine j_iload_n (pc' := 1) hC 1 dJ7_rangeCheck_23922_0 rfl rfl rfl ?_
  refine j_iload_n (pc' := 2) hC 2 dJ7_rangeCheck_23922_1 rfl rfl rfl ?_
  refine j_icmp_le (pc' := 5) (tgt := 46) hC dJ7_rangeCheck_23922_2 (by decide) rfl ?_ ?_
  · refine j_iload_n (pc' := 47) hC 1 dJ7_rangeCheck_23922_46 rfl rfl rfl ?_
    refine j_if_ge (pc' := 50) (tgt := 59) hC dJ7_rangeCheck_23922_47 (by decide) rfl ?_ ?_
    · refine j_iload_n (pc' := 60) hC 2 dJ7_rangeCheck_23922_59 rfl rfl rfl ?_
      refine j_iload_n (pc' := 61) hC 0 dJ7_rangeCheck_23922_60 rfl rfl rfl ?_
      refine j_icmp_le (pc' := 64) (tgt := 73) hC dJ7_rangeCheck_23922_61 (by decide) rfl ?_ ?_
      · exact j_ret_v hC dJ7_rangeCheck_23922_73
      · exact j_none
    · exact j_none
  · exact j_none
theorem hyS_J7_fill_bad5a : yJ7_fill_bad5a.cls ≠ "java/lang/invoke/MethodHandle" ∧ yJ7_fill_bad5a.cls ≠ "java/lang/invoke/VarHandle" ∧ (parseMethodDescriptor yJ7_fill_bad5a.desc).map (fun d => d.parameters.length) = some 4 := ⟨by decide +kernel, by decide +kernel, by decide +kernel⟩
noncomputable def fJ7_fillL_B10 (p3 : Int32) (p4 : Int64) (s10 : jS × Int32 → Option (jS)) (a : jS × Int32) : Option (jS) :=
  (if p3 ≤ a.2 then (some a.1) else (ob a.2 360 (jst (jul a.1 49 (a.2).toNatClampNeg p4) fun (σ2 : jS) => (s10 (σ2, (a.2 + (1 : Int32)))))))
noncomputable def fJ7_fillL (σ : jS) (p2 : Int32) (p3 : Int32) (p4 : Int64) : Option (jS) :=
  (Option.bind (fJ7_rangeCheck_23922 σ (360 : Int32) p2 p3) fun (q1 : jS) => (jloop (fJ7_fillL_B10 p3 p4) jN (q1, p2)))
set_option maxRecDepth 100000 in
set_option maxHeartbeats 4000000 in
theorem kJ7_fillL (l : Launch) (d : jD) (A : Nat → Prop) (σ : jS) (p2 : Int32) (p3 : Int32) (p4 : Int64) : jMv l yJ7_fill_bad5a (jws yJ7_fill_bad5a cJ7_fill_bad5a 6 none) { frames := 3, cells := 0, slots := 0, locals := 152 } d wX A [.ref (d.2.1 49), .int p2, .int p3, .long p4] σ (fJ7_fillL σ p2 p3 p4) := by
  refine jStart_v (lv0 := [(0, .ref (d.2.1 49)), (1, .int p2), (2, .int p3), (3, .long p4)]) (by decide) rfl (Nat.le_of_ble_eq_true rfl) rfl (fun z hC res => ?_)
  unfold fJ7_fillL
  refine j_aload_n (pc' := 1) hC 0 dJ7_fill_bad5a_0 rfl rfl rfl ?_
  refine j_alen (pc' := 2) (t0 := 3) (v := (360 : Int32)) hC (X_at_49 d _) rfl rfl dJ7_fill_bad5a_1 rfl ?_
  refine j_iload_n (pc' := 3) hC 1 dJ7_fill_bad5a_2 rfl rfl rfl ?_
  refine j_iload_n (pc' := 4) hC 2 dJ7_fill_bad5a_3 rfl rfl rfl ?_
  refine j_callS_v (pc' := 7) (As := [.int (360 : Int32), .int p2, .int p3]) (st := []) hC (kJ7_rangeCheck_23922 l d A _ _ _ _) (jgS ml_J7_13 st_J7_rangeCheck_23922 in_J7 cd_J7_rangeCheck_23922) rfl rfl rfl hyS_J7_rangeCheck_23922 ⟨Nat.le_of_ble_eq_true rfl, Nat.le_of_ble_eq_true rfl⟩ rfl rfl (Nat.le_of_ble_eq_true rfl) dJ7_fill_bad5a_4 rfl (fun q1 => ?_)
  refine j_iload_n (pc' := 8) hC 1 dJ7_fill_bad5a_7 rfl rfl rfl ?_
  refine j_istore (pc' := 10) (lv' := [(5, .int p2), (0, .ref (d.2.1 49)), (1, .int p2), (2, .int p3), (3, .long p4)]) hC dJ7_fill_bad5a_8 (by decide) rfl rfl ?_
  refine j_lv (lv' := [(0, .ref (d.2.1 49)), (2, .int p3), (3, .long p4), (5, .int p2)]) [1, 3, 4, 0] rfl ?_
  refine j_loop 10 (fun a => a.1) (fun a => [(0, .ref (d.2.1 49)), (2, .int p3), (3, .long p4), (5, .int a.2)]) (fun s10 hs10 a => ?_) jN (q1, p2)
  unfold fJ7_fillL_B10
  refine j_iload (pc' := 12) hC 3 dJ7_fill_bad5a_10 rfl rfl ?_
  refine j_iload_n (pc' := 13) hC 1 dJ7_fill_bad5a_12 rfl rfl rfl ?_
  refine j_icmp_ge (pc' := 16) (tgt := 27) hC dJ7_fill_bad5a_13 (by decide) rfl ?_ ?_
  · exact j_ret_v hC dJ7_fill_bad5a_27
  · refine j_aload_n (pc' := 17) hC 0 dJ7_fill_bad5a_16 rfl rfl rfl ?_
    refine j_iload (pc' := 19) hC 3 dJ7_fill_bad5a_17 rfl rfl ?_
    refine j_lload_n (pc' := 20) hC 2 dJ7_fill_bad5a_19 rfl rfl rfl ?_
    refine j_last (pc' := 21) hC (X_at_49 d _) (X_sa_49 d _ _) dJ7_fill_bad5a_20 rfl ?_
    refine j_st (fun σ2 => ?_)
    refine j_iinc (pc' := 24) (v := (a.2 + (1 : Int32))) (lv' := [(5, .int (a.2 + (1 : Int32))), (0, .ref (d.2.1 49)), (2, .int p3), (3, .long p4)]) hC 3 dJ7_fill_bad5a_21 rfl (by decide) rfl rfl rfl ?_
    refine j_goto (tgt := 10) hC dJ7_fill_bad5a_24 (by decide) ?_
    exact j_lv (lv' := [(0, .ref (d.2.1 49)), (2, .int p3), (3, .long p4), (5, .int (a.2 + (1 : Int32)))]) [1, 2, 3, 0] rfl (hs10 (σ2, (a.2 + (1 : Int32))))
theorem hyV_X9_layRow : yX9_layRow.cls = RX9 ∧ yX9_layRow.cls ≠ "java/lang/invoke/MethodHandle" ∧ yX9_layRow.cls ≠ "java/lang/invoke/VarHandle" ∧ (parseMethodDescriptor yX9_layRow.desc).map (fun d => d.parameters.length) = some 3 := ⟨rfl, by decide +kernel, by decide +kernel, by decide +kernel⟩
noncomputable def fX9_layRow (σ : jS) (p1 : Int32) (p2 : Int32) (p3 : Int32) : Option (jS) :=
  (Option.bind (fX9_isShelf σ p1) fun (q1 : Int32) => (if (jb q1) = 0 then (some σ) else (if p3 < 0 then (some σ) else (if (60 : Int32) < p3 then (some σ) else (ob p1 6 (jst (ju σ 45 (p1).toNatClampNeg (2 : Int32)) fun (σ2 : jS) => (ob p1 6 (jst (ju σ2 47 (p1).toNatClampNeg p2) fun (σ3 : jS) => (ob p1 6 (jst (ju σ3 48 (p1).toNatClampNeg p3) fun (σ4 : jS) => (Option.bind (fJ7_fillL σ4 (p1 * (60 : Int32)) ((p1 * (60 : Int32)) + p3) (0 : Int64)) fun (q5 : jS) => (some q5))))))))))))
set_option maxRecDepth 100000 in
set_option maxHeartbeats 4000000 in
theorem kX9_layRow (l : Launch) (d : jD) (A : Nat → Prop) (σ : jS) (p1 : Int32) (p2 : Int32) (p3 : Int32) : jMv l yX9_layRow (jws yX9_layRow cX9_layRow 4 none) { frames := 4, cells := 0, slots := 0, locals := 177 } d wX A [.ref (d.2.1 44), .int p1, .int p2, .int p3] σ (fX9_layRow σ p1 p2 p3) := by
  refine jStart_v (lv0 := [(0, .ref (d.2.1 44)), (1, .int p1), (2, .int p2), (3, .int p3)]) (by decide) rfl (Nat.le_of_ble_eq_true rfl) rfl (fun z hC res => ?_)
  unfold fX9_layRow
  refine j_aload_n (pc' := 1) hC 0 dX9_layRow_0 rfl rfl rfl ?_
  refine j_iload_n (pc' := 2) hC 1 dX9_layRow_1 rfl rfl rfl ?_
  refine j_callV_zr (pc' := 5) (As := [.int p1]) (st := []) hC (X_at_44 d _) rfl (kX9_isShelf l d A _ _) (jgV ml_X9_28 im_X9_isShelf se_X9_isShelf in_X9 cd_X9_isShelf) rfl rfl rfl hyV_X9_isShelf ⟨Nat.le_of_ble_eq_true rfl, Nat.le_of_ble_eq_true rfl⟩ rfl rfl (Nat.le_of_ble_eq_true rfl) dX9_layRow_2 rfl (fun q1 => ?_)
  refine j_if_eq (pc' := 8) (tgt := 57) hC dX9_layRow_5 (by decide) rfl ?_ ?_
  · exact j_ret_v hC dX9_layRow_57
  · refine j_iload_n (pc' := 9) hC 3 dX9_layRow_8 rfl rfl rfl ?_
    refine j_if_lt (pc' := 12) (tgt := 57) hC dX9_layRow_9 (by decide) rfl ?_ ?_
    · exact j_ret_v hC dX9_layRow_57
    · refine j_iload_n (pc' := 13) hC 3 dX9_layRow_12 rfl rfl rfl ?_
      refine j_bipush (pc' := 15) (v := (60 : Int32)) hC dX9_layRow_13 (by decide) rfl ?_
      refine j_icmp_gt (pc' := 18) (tgt := 57) hC dX9_layRow_15 (by decide) rfl ?_ ?_
      · exact j_ret_v hC dX9_layRow_57
      · refine j_aload_n (pc' := 19) hC 0 dX9_layRow_18 rfl rfl rfl ?_
        refine j_get (pc' := 22) hC ly_X9 (X_at_44 d _) rfl 0 (by decide) fl_X9_11 rfl dX9_layRow_19 rfl ?_
        refine j_iload_n (pc' := 23) hC 1 dX9_layRow_22 rfl rfl rfl ?_
        refine j_iconst (pc' := 24) (v := (2 : Int32)) hC dX9_layRow_23 (by decide) rfl ?_
        refine j_iast (pc' := 25) hC (X_at_45 d _) (X_sa_45 d _ _) dX9_layRow_24 rfl ?_
        refine j_st (fun σ2 => ?_)
        refine j_aload_n (pc' := 26) hC 0 dX9_layRow_25 rfl rfl rfl ?_
        refine j_get (pc' := 29) hC ly_X9 (X_at_44 d _) rfl 2 (by decide) fl_X9_18 rfl dX9_layRow_26 rfl ?_
        refine j_iload_n (pc' := 30) hC 1 dX9_layRow_29 rfl rfl rfl ?_
        refine j_iload_n (pc' := 31) hC 2 dX9_layRow_30 rfl rfl rfl ?_
        refine j_iast (pc' := 32) hC (X_at_47 d _) (X_sa_47 d _ _) dX9_layRow_31 rfl ?_
        refine j_st (fun σ3 => ?_)
        refine j_aload_n (pc' := 33) hC 0 dX9_layRow_32 rfl rfl rfl ?_
        refine j_get (pc' := 36) hC ly_X9 (X_at_44 d _) rfl 3 (by decide) fl_X9_21 rfl dX9_layRow_33 rfl ?_
        refine j_iload_n (pc' := 37) hC 1 dX9_layRow_36 rfl rfl rfl ?_
        refine j_iload_n (pc' := 38) hC 3 dX9_layRow_37 rfl rfl rfl ?_
        refine j_iast (pc' := 39) hC (X_at_48 d _) (X_sa_48 d _ _) dX9_layRow_38 rfl ?_
        refine j_st (fun σ4 => ?_)
        refine j_aload_n (pc' := 40) hC 0 dX9_layRow_39 rfl rfl rfl ?_
        refine j_get (pc' := 43) hC ly_X9 (X_at_44 d _) rfl 4 (by decide) fl_X9_24 rfl dX9_layRow_40 rfl ?_
        refine j_iload_n (pc' := 44) hC 1 dX9_layRow_43 rfl rfl rfl ?_
        refine j_bipush (pc' := 46) (v := (60 : Int32)) hC dX9_layRow_44 (by decide) rfl ?_
        refine j_imul (pc' := 47) hC dX9_layRow_46 rfl ?_
        refine j_iload_n (pc' := 48) hC 1 dX9_layRow_47 rfl rfl rfl ?_
        refine j_bipush (pc' := 50) (v := (60 : Int32)) hC dX9_layRow_48 (by decide) rfl ?_
        refine j_imul (pc' := 51) hC dX9_layRow_50 rfl ?_
        refine j_iload_n (pc' := 52) hC 3 dX9_layRow_51 rfl rfl rfl ?_
        refine j_iadd (pc' := 53) hC dX9_layRow_52 rfl ?_
        refine j_lconst (pc' := 54) (v := (0 : Int64)) hC dX9_layRow_53 (by decide) rfl ?_
        refine j_callS_v (pc' := 57) (As := [.ref (d.2.1 49), .int (p1 * (60 : Int32)), .int ((p1 * (60 : Int32)) + p3), .long (0 : Int64)]) (st := []) hC (kJ7_fillL l d A _ _ _ _) (jgS ml_X9_46 st_J7_fill_bad5a in_J7 cd_J7_fill_bad5a) rfl rfl rfl hyS_J7_fill_bad5a ⟨Nat.le_of_ble_eq_true rfl, Nat.le_of_ble_eq_true rfl⟩ rfl rfl (Nat.le_of_ble_eq_true rfl) dX9_layRow_54 rfl (fun q5 => ?_)
        exact j_ret_v hC dX9_layRow_57
