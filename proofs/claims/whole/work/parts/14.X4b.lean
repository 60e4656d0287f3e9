theorem hyV_X4_readLevel : yX4_readLevel.cls = RX4 ∧ yX4_readLevel.cls ≠ "java/lang/invoke/MethodHandle" ∧ yX4_readLevel.cls ≠ "java/lang/invoke/VarHandle" ∧ (parseMethodDescriptor yX4_readLevel.desc).map (fun d => d.parameters.length) = some 2 := ⟨rfl, by decide +kernel, by decide +kernel, by decide +kernel⟩
noncomputable def fX4_readLevel_B26 (p1 : Int32) (p2 : Int32) (r : (jS → Int32 → Int32 → Option (Int32 × jS)) × (jS → Int32 → Option (Int32 × jS)) × (jS → Int32 → Option (Int32 × jS))) (s26 : jS × Int32 → Option (Int32 × jS)) (a : jS × Int32) : Option (Int32 × jS) :=
  (if (120 : Int32) ≤ a.2 then (some ((1 : Int32), a.1)) else (Option.bind (fX4_letter a.1) fun (q2 : Int32) => (Option.bind (fX4_levelOf a.1 q2) fun (q3 : Int32) => (if q3 = p1 then (Option.bind (fX4_letter a.1) fun (q4 : Int32) => (jst (ju a.1 7 2 ((a.1.1 7 2) + (1 : Int32))) fun (σ5 : jS) => (Option.bind (r.1 σ5 (p1 + (1 : Int32)) p2) fun (q6 : (Int32 × jS)) => (if (jb q6.1) = 0 then (some ((0 : Int32), q6.2)) else (Option.bind (fX4_draw q6.2 q4) fun (q7 : jS) => (if p1 = (2 : Int32) then (some ((1 : Int32), q7)) else (s26 (q7, (a.2 + (1 : Int32)))))))))) else (some ((1 : Int32), a.1))))))
noncomputable def bX4_readLevel (r : (jS → Int32 → Int32 → Option (Int32 × jS)) × (jS → Int32 → Option (Int32 × jS)) × (jS → Int32 → Option (Int32 × jS))) (σ : jS) (p1 : Int32) (p2 : Int32) : Option (Int32 × jS) :=
  (if p1 < (5 : Int32) then (Option.bind (r.1 σ (p1 + (1 : Int32)) p2) fun (q1 : (Int32 × jS)) => (if (jb q1.1) = 0 then (some ((0 : Int32), q1.2)) else (jloop (fX4_readLevel_B26 p1 p2 r) jN (q1.2, (0 : Int32))))) else (Option.bind (r.2.1 σ p2) fun (q8 : (Int32 × jS)) => (some (q8.1, q8.2))))
theorem hyV_X4_readOperand : yX4_readOperand.cls = RX4 ∧ yX4_readOperand.cls ≠ "java/lang/invoke/MethodHandle" ∧ yX4_readOperand.cls ≠ "java/lang/invoke/VarHandle" ∧ (parseMethodDescriptor yX4_readOperand.desc).map (fun d => d.parameters.length) = some 1 := ⟨rfl, by decide +kernel, by decide +kernel, by decide +kernel⟩
noncomputable def bX4_readOperand (r : (jS → Int32 → Int32 → Option (Int32 × jS)) × (jS → Int32 → Option (Int32 × jS)) × (jS → Int32 → Option (Int32 × jS))) (σ : jS) (p1 : Int32) : Option (Int32 × jS) :=
  (Option.bind (fX4_letter σ) fun (q1 : Int32) => (Option.bind (fX4_isDigit σ q1) fun (q2 : Int32) => (if (jb q2) = 0 then (jlet (fun (a33 : Int32) => (if a33 < 0 then (if p1 < (6 : Int32) then (jlet (fun (a77 : Unit) => (jst (ju σ 7 2 ((σ.1 7 2) + (1 : Int32))) fun (σ3 : jS) => (Option.bind (r.2.1 σ3 (p1 + (1 : Int32))) fun (q4 : (Int32 × jS)) => (jlet (fun (a110 : Int32) => (Option.bind (fX4_draw q4.2 a110) fun (q5 : jS) => (some (q4.1, q5)))) fun (j110 : (Int32 → Option (Int32 × jS))) => (if q1 = (33 : Int32) then (j110 (33 : Int32)) else (j110 (126 : Int32))))))) fun (j77 : (Unit → Option (Int32 × jS))) => (if q1 = (33 : Int32) then (j77 ()) else (if q1 = (45 : Int32) then (j77 ()) else (if q1 = (40 : Int32) then (Option.bind (r.2.2 σ (p1 + (1 : Int32))) fun (q6 : (Int32 × jS)) => (if (jb q6.1) = 0 then (some ((0 : Int32), q6.2)) else (some ((1 : Int32), q6.2)))) else (some ((0 : Int32), σ)))))) else (some ((0 : Int32), σ))) else (jst (ju σ 7 2 ((σ.1 7 2) + (1 : Int32))) fun (σ7 : jS) => (Option.bind (fX4_draw σ7 ((-1 : Int32) - a33)) fun (q8 : jS) => (some ((1 : Int32), q8)))))) fun (j33 : (Int32 → Option (Int32 × jS))) => (if q1 ≤ 0 then (j33 (-1 : Int32)) else (Option.bind (some (jIx ((q1.toUInt32 % 65536).toInt32))) fun (q9 : Int32) => (j33 q9)))) else (Option.bind (fX4_readNumber σ) fun (q10 : jS) => (some ((1 : Int32), q10))))))
theorem hyV_X4_readBracket : yX4_readBracket.cls = RX4 ∧ yX4_readBracket.cls ≠ "java/lang/invoke/MethodHandle" ∧ yX4_readBracket.cls ≠ "java/lang/invoke/VarHandle" ∧ (parseMethodDescriptor yX4_readBracket.desc).map (fun d => d.parameters.length) = some 1 := ⟨rfl, by decide +kernel, by decide +kernel, by decide +kernel⟩
noncomputable def bX4_readBracket (r : (jS → Int32 → Int32 → Option (Int32 × jS)) × (jS → Int32 → Option (Int32 × jS)) × (jS → Int32 → Option (Int32 × jS))) (σ : jS) (p1 : Int32) : Option (Int32 × jS) :=
  (jst (ju σ 7 2 ((σ.1 7 2) + (1 : Int32))) fun (σ1 : jS) => (Option.bind (r.1 σ1 (0 : Int32) p1) fun (q2 : (Int32 × jS)) => (if (jb q2.1) = 0 then (some ((0 : Int32), q2.2)) else (Option.bind (fX4_letter q2.2) fun (q3 : Int32) => (if q3 = (41 : Int32) then (jst (ju q2.2 7 2 ((q2.2.1 7 2) + (1 : Int32))) fun (σ4 : jS) => (some ((1 : Int32), σ4))) else (some ((0 : Int32), q2.2)))))))
noncomputable def gX4 : Nat → ((jS → Int32 → Int32 → Option (Int32 × jS)) × (jS → Int32 → Option (Int32 × jS)) × (jS → Int32 → Option (Int32 × jS)))
  | 0 => ((fun _ _ _ => none), (fun _ _ => none), (fun _ _ => none))
  | n + 1 => (bX4_readLevel (gX4 n), bX4_readOperand (gX4 n), bX4_readBracket (gX4 n))
set_option maxRecDepth 100000 in
set_option maxHeartbeats 8000000 in
theorem kgX4 (l : Launch) (d : jD) (A : Nat → Prop) : ∀ n : Nat, (∀ (σ : jS) (p1 : Int32) (p2 : Int32), jMz l yX4_readLevel (jws yX4_readLevel cX4_readLevel 5 (some (.boolean))) { frames := 20 + n, cells := 0, slots := 0, locals := 700 + 24 * n } d wX A [.ref (d.2.1 7), .int p1, .int p2] σ ((gX4 n).1 σ p1 p2)) ∧ (∀ (σ : jS) (p1 : Int32), jMz l yX4_readOperand (jws yX4_readOperand cX4_readOperand 5 (some (.boolean))) { frames := 20 + n, cells := 0, slots := 0, locals := 700 + 24 * n } d wX A [.ref (d.2.1 7), .int p1] σ ((gX4 n).2.1 σ p1)) ∧ (∀ (σ : jS) (p1 : Int32), jMz l yX4_readBracket (jws yX4_readBracket cX4_readBracket 2 (some (.boolean))) { frames := 20 + n, cells := 0, slots := 0, locals := 700 + 24 * n } d wX A [.ref (d.2.1 7), .int p1] σ ((gX4 n).2.2 σ p1)) := by
  intro n
  induction n with
  | zero => exact ⟨(fun _ _ _  res h => by have h2 : (none : Option (Int32 × jS)) = some res := h; cases h2), (fun _ _  res h => by have h2 : (none : Option (Int32 × jS)) = some res := h; cases h2), (fun _ _  res h => by have h2 : (none : Option (Int32 × jS)) = some res := h; cases h2)⟩
  | succ n ih =>
    refine ⟨?_, ?_, ?_⟩
    · intro σ p1 p2
      refine jStart_z (lv0 := [(0, .ref (d.2.1 7)), (1, .int p1), (2, .int p2)]) (by decide) rfl (Nat.le_of_ble_eq_true rfl) rfl (fun z hC res => ?_)
      show jJ z d wX A _ _ res σ (bX4_readLevel (gX4 n) σ p1 p2) 0 _ _
      unfold bX4_readLevel
      refine j_iload_n (pc' := 1) hC 1 dX4_readLevel_0 rfl rfl rfl ?_
      refine j_iconst (pc' := 2) (v := (5 : Int32)) hC dX4_readLevel_1 (by decide) rfl ?_
      refine j_icmp_lt (pc' := 5) (tgt := 11) hC dX4_readLevel_2 (by decide) rfl ?_ ?_
      · refine j_aload_n (pc' := 12) hC 0 dX4_readLevel_11 rfl rfl rfl ?_
        refine j_iload_n (pc' := 13) hC 1 dX4_readLevel_12 rfl rfl rfl ?_
        refine j_iconst (pc' := 14) (v := (1 : Int32)) hC dX4_readLevel_13 (by decide) rfl ?_
        refine j_iadd (pc' := 15) hC dX4_readLevel_14 rfl ?_
        refine j_iload_n (pc' := 16) hC 2 dX4_readLevel_15 rfl rfl rfl ?_
        refine j_callV_z (pc' := 19) (As := [.int (p1 + (1 : Int32)), .int p2]) (st := []) hC (X_at_7 d _) rfl (ih.1 _ _ _) (jgV ml_X4_55 im_X4_readLevel se_X4_readLevel in_X4 cd_X4_readLevel) rfl rfl rfl hyV_X4_readLevel ⟨by show 20 + n + 1 ≤ 20 + (n + 1); omega, by show 8 + (5 + 11) + (700 + 24 * n) ≤ 700 + 24 * (n + 1); omega⟩ rfl rfl (Nat.le_of_ble_eq_true rfl) dX4_readLevel_16 rfl (fun q1 => ?_)
        refine j_if_ne (pc' := 22) (tgt := 24) hC dX4_readLevel_19 (by decide) rfl ?_ ?_
        · refine j_iconst (pc' := 25) (v := (0 : Int32)) hC dX4_readLevel_24 (by decide) rfl ?_
          refine j_istore_n (pc' := 26) (lv' := [(3, .int (0 : Int32)), (0, .ref (d.2.1 7)), (1, .int p1), (2, .int p2)]) hC dX4_readLevel_25 rfl (by decide) rfl rfl ?_
          refine j_lv (lv' := [(0, .ref (d.2.1 7)), (1, .int p1), (2, .int p2), (3, .int (0 : Int32))]) [1, 2, 3, 0] rfl ?_
          refine j_loop 26 (fun a => a.1) (fun a => [(0, .ref (d.2.1 7)), (1, .int p1), (2, .int p2), (3, .int a.2)]) (fun s26 hs26 a => ?_) jN (q1.2, (0 : Int32))
          unfold fX4_readLevel_B26
          refine j_iload_n (pc' := 27) hC 3 dX4_readLevel_26 rfl rfl rfl ?_
          refine j_bipush (pc' := 29) (v := (120 : Int32)) hC dX4_readLevel_27 (by decide) rfl ?_
          refine j_icmp_ge (pc' := 32) (tgt := 92) hC dX4_readLevel_29 (by decide) rfl ?_ ?_
          · refine j_iconst (pc' := 93) (v := (1 : Int32)) hC dX4_readLevel_92 (by decide) rfl ?_
            exact j_ret_z hC (by decide) dX4_readLevel_93
          · refine j_aload_n (pc' := 33) hC 0 dX4_readLevel_32 rfl rfl rfl ?_
            refine j_callV_ir (pc' := 36) (As := []) (st := []) hC (X_at_7 d _) rfl (kX4_letter l d A _) (jgV ml_X4_42 im_X4_letter se_X4_letter in_X4 cd_X4_letter) rfl rfl rfl hyV_X4_letter ⟨by show 2 + 1 ≤ 20 + (n + 1); omega, by show 8 + (1 + 11) + 130 ≤ 700 + 24 * (n + 1); omega⟩ rfl rfl (Nat.le_of_ble_eq_true rfl) dX4_readLevel_33 rfl (fun q2 => ?_)
            refine j_callS_ir (pc' := 39) (As := [.int q2]) (st := []) hC (kX4_levelOf l d A _ _) (jgS ml_X4_67 st_X4_levelOf in_X4 cd_X4_levelOf) rfl rfl rfl hyS_X4_levelOf ⟨by show 2 + 1 ≤ 20 + (n + 1); omega, by show 8 + (1 + 11) + 130 ≤ 700 + 24 * (n + 1); omega⟩ rfl rfl (Nat.le_of_ble_eq_true rfl) dX4_readLevel_36 rfl (fun q3 => ?_)
            refine j_iload_n (pc' := 40) hC 1 dX4_readLevel_39 rfl rfl rfl ?_
            refine j_icmp_ne (pc' := 43) (tgt := 92) hC dX4_readLevel_40 (by decide) rfl ?_ ?_
            · refine j_iconst (pc' := 93) (v := (1 : Int32)) hC dX4_readLevel_92 (by decide) rfl ?_
              exact j_ret_z hC (by decide) dX4_readLevel_93
            · refine j_aload_n (pc' := 44) hC 0 dX4_readLevel_43 rfl rfl rfl ?_
              refine j_callV_ir (pc' := 47) (As := []) (st := []) hC (X_at_7 d _) rfl (kX4_letter l d A _) (jgV ml_X4_42 im_X4_letter se_X4_letter in_X4 cd_X4_letter) rfl rfl rfl hyV_X4_letter ⟨by show 2 + 1 ≤ 20 + (n + 1); omega, by show 8 + (1 + 11) + 130 ≤ 700 + 24 * (n + 1); omega⟩ rfl rfl (Nat.le_of_ble_eq_true rfl) dX4_readLevel_44 rfl (fun q4 => ?_)
              refine j_istore (pc' := 49) (lv' := [(4, .int q4), (0, .ref (d.2.1 7)), (1, .int p1), (2, .int p2), (3, .int a.2)]) hC dX4_readLevel_47 (by decide) rfl rfl ?_
              refine j_aload_n (pc' := 50) hC 1 dX4_readLevel_49 rfl rfl rfl ?_
              refine j_dup (pc' := 51) hC rfl dX4_readLevel_50 rfl ?_
              refine j_get (pc' := 54) hC ly_X4 (X_at_7 d _) rfl 2 (by decide) fl_X4_32 rfl dX4_readLevel_51 rfl ?_
              refine j_iconst (pc' := 55) (v := (1 : Int32)) hC dX4_readLevel_54 (by decide) rfl ?_
              refine j_iadd (pc' := 56) hC dX4_readLevel_55 rfl ?_
              refine j_put (pc' := 59) hC ly_X4 tyX4 tyX4_ok nmX4 (X_at_7 d _) rfl 2 (by decide) fl_X4_32 rfl rfl rfl rfl (Nat.le_of_ble_eq_true rfl) (X_sf_7_2 d _ _) dX4_readLevel_56 rfl ?_
              refine j_st (fun σ5 => ?_)
              refine j_aload_n (pc' := 60) hC 1 dX4_readLevel_59 rfl rfl rfl ?_
              refine j_iload_n (pc' := 61) hC 2 dX4_readLevel_60 rfl rfl rfl ?_
              refine j_iconst (pc' := 62) (v := (1 : Int32)) hC dX4_readLevel_61 (by decide) rfl ?_
              refine j_iadd (pc' := 63) hC dX4_readLevel_62 rfl ?_
              refine j_iload_n (pc' := 64) hC 3 dX4_readLevel_63 rfl rfl rfl ?_
              refine j_callV_z (pc' := 67) (As := [.int (p1 + (1 : Int32)), .int p2]) (st := []) hC (X_at_7 d _) rfl (ih.1 _ _ _) (jgV ml_X4_55 im_X4_readLevel se_X4_readLevel in_X4 cd_X4_readLevel) rfl rfl rfl hyV_X4_readLevel ⟨by show 20 + n + 1 ≤ 20 + (n + 1); omega, by show 8 + (5 + 11) + (700 + 24 * n) ≤ 700 + 24 * (n + 1); omega⟩ rfl rfl (Nat.le_of_ble_eq_true rfl) dX4_readLevel_64 rfl (fun q6 => ?_)
              refine j_if_ne (pc' := 70) (tgt := 72) hC dX4_readLevel_67 (by decide) rfl ?_ ?_
              · refine j_aload_n (pc' := 73) hC 1 dX4_readLevel_72 rfl rfl rfl ?_
                refine j_iload (pc' := 75) hC 0 dX4_readLevel_73 rfl rfl ?_
                refine j_callV_v (pc' := 78) (As := [.int q4]) (st := []) hC (X_at_7 d _) rfl (kX4_draw l d A _ _) (jgV ml_X4_59 im_X4_draw se_X4_draw in_X4 cd_X4_draw) rfl rfl rfl hyV_X4_draw ⟨by show 2 + 1 ≤ 20 + (n + 1); omega, by show 8 + (2 + 11) + 130 ≤ 700 + 24 * (n + 1); omega⟩ rfl rfl (Nat.le_of_ble_eq_true rfl) dX4_readLevel_75 rfl (fun q7 => ?_)
                refine j_iload_n (pc' := 79) hC 2 dX4_readLevel_78 rfl rfl rfl ?_
                refine j_iconst (pc' := 80) (v := (2 : Int32)) hC dX4_readLevel_79 (by decide) rfl ?_
                refine j_icmp_ne (pc' := 83) (tgt := 86) hC dX4_readLevel_80 (by decide) rfl ?_ ?_
                · refine j_iinc (pc' := 89) (v := (a.2 + (1 : Int32))) (lv' := [(3, .int (a.2 + (1 : Int32))), (4, .int q4), (0, .ref (d.2.1 7)), (1, .int p1), (2, .int p2)]) hC 4 dX4_readLevel_86 rfl (by decide) rfl rfl rfl ?_
                  refine j_goto (tgt := 26) hC dX4_readLevel_89 (by decide) ?_
                  exact j_lv (lv' := [(0, .ref (d.2.1 7)), (1, .int p1), (2, .int p2), (3, .int (a.2 + (1 : Int32)))]) [2, 3, 4, 0] rfl (hs26 (q7, (a.2 + (1 : Int32))))
                · refine j_goto (tgt := 92) hC dX4_readLevel_83 (by decide) ?_
                  refine j_iconst (pc' := 93) (v := (1 : Int32)) hC dX4_readLevel_92 (by decide) rfl ?_
                  exact j_ret_z hC (by decide) dX4_readLevel_93
              · refine j_iconst (pc' := 71) (v := (0 : Int32)) hC dX4_readLevel_70 (by decide) rfl ?_
                exact j_ret_z hC (by decide) dX4_readLevel_71
        · refine j_iconst (pc' := 23) (v := (0 : Int32)) hC dX4_readLevel_22 (by decide) rfl ?_
          exact j_ret_z hC (by decide) dX4_readLevel_23
      · refine j_aload_n (pc' := 6) hC 0 dX4_readLevel_5 rfl rfl rfl ?_
        refine j_iload_n (pc' := 7) hC 2 dX4_readLevel_6 rfl rfl rfl ?_
        refine j_callV_z (pc' := 10) (As := [.int p2]) (st := []) hC (X_at_7 d _) rfl (ih.2.1 _ _) (jgV ml_X4_63 im_X4_readOperand se_X4_readOperand in_X4 cd_X4_readOperand) rfl rfl rfl hyV_X4_readOperand ⟨by show 20 + n + 1 ≤ 20 + (n + 1); omega, by show 8 + (5 + 11) + (700 + 24 * n) ≤ 700 + 24 * (n + 1); omega⟩ rfl rfl (Nat.le_of_ble_eq_true rfl) dX4_readLevel_7 rfl (fun q8 => ?_)
        exact j_ret_z hC rfl dX4_readLevel_10
    · intro σ p1
      refine jStart_z (lv0 := [(0, .ref (d.2.1 7)), (1, .int p1)]) (by decide) rfl (Nat.le_of_ble_eq_true rfl) rfl (fun z hC res => ?_)
      show jJ z d wX A _ _ res σ (bX4_readOperand (gX4 n) σ p1) 0 _ _
      unfold bX4_readOperand
      refine j_aload_n (pc' := 1) hC 0 dX4_readOperand_0 rfl rfl rfl ?_
      refine j_callV_ir (pc' := 4) (As := []) (st := []) hC (X_at_7 d _) rfl (kX4_letter l d A _) (jgV ml_X4_42 im_X4_letter se_X4_letter in_X4 cd_X4_letter) rfl rfl rfl hyV_X4_letter ⟨by show 2 + 1 ≤ 20 + (n + 1); omega, by show 8 + (1 + 11) + 130 ≤ 700 + 24 * (n + 1); omega⟩ rfl rfl (Nat.le_of_ble_eq_true rfl) dX4_readOperand_1 rfl (fun q1 => ?_)
      refine j_istore_n (pc' := 5) (lv' := [(2, .int q1), (0, .ref (d.2.1 7)), (1, .int p1)]) hC dX4_readOperand_4 rfl (by decide) rfl rfl ?_
      refine j_iload_n (pc' := 6) hC 0 dX4_readOperand_5 rfl rfl rfl ?_
      refine j_callS_zr (pc' := 9) (As := [.int q1]) (st := []) hC (kX4_isDigit l d A _ _) (jgS ml_X4_71 st_X4_isDigit in_X4 cd_X4_isDigit) rfl rfl rfl hyS_X4_isDigit ⟨by show 2 + 1 ≤ 20 + (n + 1); omega, by show 8 + (1 + 11) + 130 ≤ 700 + 24 * (n + 1); omega⟩ rfl rfl (Nat.le_of_ble_eq_true rfl) dX4_readOperand_6 rfl (fun q2 => ?_)
      refine j_if_eq (pc' := 12) (tgt := 18) hC dX4_readOperand_9 (by decide) rfl ?_ ?_
      · refine j_iload_n (pc' := 19) hC 0 dX4_readOperand_18 rfl rfl rfl ?_
        refine j_let 33 (fun a33 => σ) (fun a33 => [(0, .ref (d.2.1 7)), (1, .int p1), (2, .int q1)]) (fun a33 => [.int a33]) (fun a33 => ?_) (fun j33 hj33 => ?_)
        · refine j_istore_n (pc' := 34) (lv' := [(3, .int a33), (0, .ref (d.2.1 7)), (1, .int p1), (2, .int q1)]) hC dX4_readOperand_33 rfl (by decide) rfl rfl ?_
          refine j_iload_n (pc' := 35) hC 0 dX4_readOperand_34 rfl rfl rfl ?_
          refine j_if_lt (pc' := 38) (tgt := 57) hC dX4_readOperand_35 (by decide) rfl ?_ ?_
          · refine j_iload_n (pc' := 58) hC 2 dX4_readOperand_57 rfl rfl rfl ?_
            refine j_bipush (pc' := 60) (v := (6 : Int32)) hC dX4_readOperand_58 (by decide) rfl ?_
            refine j_icmp_lt (pc' := 63) (tgt := 65) hC dX4_readOperand_60 (by decide) rfl ?_ ?_
            · refine j_iload_n (pc' := 66) hC 3 dX4_readOperand_65 rfl rfl rfl ?_
              refine j_bipush (pc' := 68) (v := (33 : Int32)) hC dX4_readOperand_66 (by decide) rfl ?_
              refine j_let 77 (fun a77 => σ) (fun a77 => [(0, .ref (d.2.1 7)), (1, .int p1), (2, .int q1)]) (fun a77 => []) (fun a77 => ?_) (fun j77 hj77 => ?_)
              · refine j_aload_n (pc' := 78) hC 0 dX4_readOperand_77 rfl rfl rfl ?_
                refine j_dup (pc' := 79) hC rfl dX4_readOperand_78 rfl ?_
                refine j_get (pc' := 82) hC ly_X4 (X_at_7 d _) rfl 2 (by decide) fl_X4_32 rfl dX4_readOperand_79 rfl ?_
                refine j_iconst (pc' := 83) (v := (1 : Int32)) hC dX4_readOperand_82 (by decide) rfl ?_
                refine j_iadd (pc' := 84) hC dX4_readOperand_83 rfl ?_
                refine j_put (pc' := 87) hC ly_X4 tyX4 tyX4_ok nmX4 (X_at_7 d _) rfl 2 (by decide) fl_X4_32 rfl rfl rfl rfl (Nat.le_of_ble_eq_true rfl) (X_sf_7_2 d _ _) dX4_readOperand_84 rfl ?_
                refine j_st (fun σ3 => ?_)
                refine j_aload_n (pc' := 88) hC 0 dX4_readOperand_87 rfl rfl rfl ?_
                refine j_iload_n (pc' := 89) hC 1 dX4_readOperand_88 rfl rfl rfl ?_
                refine j_iconst (pc' := 90) (v := (1 : Int32)) hC dX4_readOperand_89 (by decide) rfl ?_
                refine j_iadd (pc' := 91) hC dX4_readOperand_90 rfl ?_
                refine j_callV_z (pc' := 94) (As := [.int (p1 + (1 : Int32))]) (st := []) hC (X_at_7 d _) rfl (ih.2.1 _ _) (jgV ml_X4_63 im_X4_readOperand se_X4_readOperand in_X4 cd_X4_readOperand) rfl rfl rfl hyV_X4_readOperand ⟨by show 20 + n + 1 ≤ 20 + (n + 1); omega, by show 8 + (5 + 11) + (700 + 24 * n) ≤ 700 + 24 * (n + 1); omega⟩ rfl rfl (Nat.le_of_ble_eq_true rfl) dX4_readOperand_91 rfl (fun q4 => ?_)
                refine j_istore (pc' := 96) (lv' := [(4, .int (jb q4.1)), (0, .ref (d.2.1 7)), (1, .int p1), (2, .int q1)]) hC dX4_readOperand_94 (by decide) rfl rfl ?_
                refine j_aload_n (pc' := 97) hC 1 dX4_readOperand_96 rfl rfl rfl ?_
                refine j_iload_n (pc' := 98) hC 3 dX4_readOperand_97 rfl rfl rfl ?_
                refine j_bipush (pc' := 100) (v := (33 : Int32)) hC dX4_readOperand_98 (by decide) rfl ?_
                refine j_let 110 (fun a110 => q4.2) (fun a110 => [(4, .int (jb q4.1))]) (fun a110 => [.int a110, .ref (d.2.1 7)]) (fun a110 => ?_) (fun j110 hj110 => ?_)
                · refine j_callV_v (pc' := 113) (As := [.int a110]) (st := []) hC (X_at_7 d _) rfl (kX4_draw l d A _ _) (jgV ml_X4_59 im_X4_draw se_X4_draw in_X4 cd_X4_draw) rfl rfl rfl hyV_X4_draw ⟨by show 2 + 1 ≤ 20 + (n + 1); omega, by show 8 + (2 + 11) + 130 ≤ 700 + 24 * (n + 1); omega⟩ rfl rfl (Nat.le_of_ble_eq_true rfl) dX4_readOperand_110 rfl (fun q5 => ?_)
                  refine j_iload (pc' := 115) hC 0 dX4_readOperand_113 rfl rfl ?_
                  exact j_ret_z hC rfl dX4_readOperand_115
                · refine j_icmp_ne (pc' := 103) (tgt := 108) hC dX4_readOperand_100 (by decide) rfl ?_ ?_
                  · refine j_bipush (pc' := 110) (v := (126 : Int32)) hC dX4_readOperand_108 (by decide) rfl ?_
                    exact j_lv (lv' := [(4, .int (jb q4.1))]) [0] rfl (hj110 (126 : Int32))
                  · refine j_bipush (pc' := 105) (v := (33 : Int32)) hC dX4_readOperand_103 (by decide) rfl ?_
                    refine j_goto (tgt := 110) hC dX4_readOperand_105 (by decide) ?_
                    exact j_lv (lv' := [(4, .int (jb q4.1))]) [0] rfl (hj110 (33 : Int32))
              · refine j_icmp_eq (pc' := 71) (tgt := 77) hC dX4_readOperand_68 (by decide) rfl ?_ ?_
                · exact j_lv (lv' := [(0, .ref (d.2.1 7)), (1, .int p1), (2, .int q1)]) [1, 2, 3] rfl (hj77 ())
                · refine j_iload_n (pc' := 72) hC 3 dX4_readOperand_71 rfl rfl rfl ?_
                  refine j_bipush (pc' := 74) (v := (45 : Int32)) hC dX4_readOperand_72 (by decide) rfl ?_
                  refine j_icmp_ne (pc' := 77) (tgt := 116) hC dX4_readOperand_74 (by decide) rfl ?_ ?_
                  · refine j_iload_n (pc' := 117) hC 3 dX4_readOperand_116 rfl rfl rfl ?_
                    refine j_bipush (pc' := 119) (v := (40 : Int32)) hC dX4_readOperand_117 (by decide) rfl ?_
                    refine j_icmp_ne (pc' := 122) (tgt := 136) hC dX4_readOperand_119 (by decide) rfl ?_ ?_
                    · refine j_iconst (pc' := 137) (v := (0 : Int32)) hC dX4_readOperand_136 (by decide) rfl ?_
                      exact j_ret_z hC (by decide) dX4_readOperand_137
                    · refine j_aload_n (pc' := 123) hC 1 dX4_readOperand_122 rfl rfl rfl ?_
                      refine j_iload_n (pc' := 124) hC 2 dX4_readOperand_123 rfl rfl rfl ?_
                      refine j_iconst (pc' := 125) (v := (1 : Int32)) hC dX4_readOperand_124 (by decide) rfl ?_
                      refine j_iadd (pc' := 126) hC dX4_readOperand_125 rfl ?_
                      refine j_callV_z (pc' := 129) (As := [.int (p1 + (1 : Int32))]) (st := []) hC (X_at_7 d _) rfl (ih.2.2 _ _) (jgV ml_X4_84 im_X4_readBracket se_X4_readBracket in_X4 cd_X4_readBracket) rfl rfl rfl hyV_X4_readBracket ⟨by show 20 + n + 1 ≤ 20 + (n + 1); omega, by show 8 + (2 + 11) + (700 + 24 * n) ≤ 700 + 24 * (n + 1); omega⟩ rfl rfl (Nat.le_of_ble_eq_true rfl) dX4_readOperand_126 rfl (fun q6 => ?_)
                      refine j_if_eq (pc' := 132) (tgt := 136) hC dX4_readOperand_129 (by decide) rfl ?_ ?_
                      · refine j_iconst (pc' := 137) (v := (0 : Int32)) hC dX4_readOperand_136 (by decide) rfl ?_
                        exact j_ret_z hC (by decide) dX4_readOperand_137
                      · refine j_iconst (pc' := 133) (v := (1 : Int32)) hC dX4_readOperand_132 (by decide) rfl ?_
                        refine j_goto (tgt := 137) hC dX4_readOperand_133 (by decide) ?_
                        exact j_ret_z hC (by decide) dX4_readOperand_137
                  · exact j_lv (lv' := [(0, .ref (d.2.1 7)), (1, .int p1), (2, .int q1)]) [1, 2, 3] rfl (hj77 ())
            · refine j_iconst (pc' := 64) (v := (0 : Int32)) hC dX4_readOperand_63 (by decide) rfl ?_
              exact j_ret_z hC (by decide) dX4_readOperand_64
          · refine j_aload_n (pc' := 39) hC 1 dX4_readOperand_38 rfl rfl rfl ?_
            refine j_dup (pc' := 40) hC rfl dX4_readOperand_39 rfl ?_
            refine j_get (pc' := 43) hC ly_X4 (X_at_7 d _) rfl 2 (by decide) fl_X4_32 rfl dX4_readOperand_40 rfl ?_
            refine j_iconst (pc' := 44) (v := (1 : Int32)) hC dX4_readOperand_43 (by decide) rfl ?_
            refine j_iadd (pc' := 45) hC dX4_readOperand_44 rfl ?_
            refine j_put (pc' := 48) hC ly_X4 tyX4 tyX4_ok nmX4 (X_at_7 d _) rfl 2 (by decide) fl_X4_32 rfl rfl rfl rfl (Nat.le_of_ble_eq_true rfl) (X_sf_7_2 d _ _) dX4_readOperand_45 rfl ?_
            refine j_st (fun σ7 => ?_)
            refine j_aload_n (pc' := 49) hC 1 dX4_readOperand_48 rfl rfl rfl ?_
            refine j_iconst (pc' := 50) (v := (-1 : Int32)) hC dX4_readOperand_49 (by decide) rfl ?_
            refine j_iload_n (pc' := 51) hC 0 dX4_readOperand_50 rfl rfl rfl ?_
            refine j_isub (pc' := 52) hC dX4_readOperand_51 rfl ?_
            refine j_callV_v (pc' := 55) (As := [.int ((-1 : Int32) - a33)]) (st := []) hC (X_at_7 d _) rfl (kX4_draw l d A _ _) (jgV ml_X4_59 im_X4_draw se_X4_draw in_X4 cd_X4_draw) rfl rfl rfl hyV_X4_draw ⟨by show 2 + 1 ≤ 20 + (n + 1); omega, by show 8 + (2 + 11) + 130 ≤ 700 + 24 * (n + 1); omega⟩ rfl rfl (Nat.le_of_ble_eq_true rfl) dX4_readOperand_52 rfl (fun q8 => ?_)
            refine j_iconst (pc' := 56) (v := (1 : Int32)) hC dX4_readOperand_55 (by decide) rfl ?_
            exact j_ret_z hC (by decide) dX4_readOperand_56
        · refine j_if_le (pc' := 22) (tgt := 32) hC dX4_readOperand_19 (by decide) rfl ?_ ?_
          · refine j_iconst (pc' := 33) (v := (-1 : Int32)) hC dX4_readOperand_32 (by decide) rfl ?_
            exact j_lv (lv' := [(0, .ref (d.2.1 7)), (1, .int p1), (2, .int q1)]) [1, 2, 0] rfl (hj33 (-1 : Int32))
          · refine j_ldcS (pc' := 24) hC dX4_readOperand_22 rfl ?_
            refine j_iload_n (pc' := 25) hC 0 dX4_readOperand_24 rfl rfl rfl ?_
            refine j_i2c (pc' := 26) hC dX4_readOperand_25 rfl ?_
            refine j_callT_ir (pc' := 29) (As := [.int ((q1.toUInt32 % 65536).toInt32)]) (st := []) hC rfl (kJ0_ix l d A _ _) (jgV ml_X4_79 im_J0_indexOf_0f7a4 se_J0_indexOf_0f7a4 in_J0 cd_J0_indexOf_0f7a4) rfl rfl rfl hyV_J0_indexOf_0f7a4 ⟨by show 5 + 1 ≤ 20 + (n + 1); omega, by show 8 + (2 + 11) + 200 ≤ 700 + 24 * (n + 1); omega⟩ rfl rfl (Nat.le_of_ble_eq_true rfl) dX4_readOperand_26 rfl (fun q9 => ?_)
            refine j_goto (tgt := 33) hC dX4_readOperand_29 (by decide) ?_
            exact j_lv (lv' := [(0, .ref (d.2.1 7)), (1, .int p1), (2, .int q1)]) [1, 2, 0] rfl (hj33 q9)
      · refine j_aload_n (pc' := 13) hC 1 dX4_readOperand_12 rfl rfl rfl ?_
        refine j_callV_v (pc' := 16) (As := []) (st := []) hC (X_at_7 d _) rfl (kX4_readNumber l d A _) (jgV ml_X4_74 im_X4_readNumber se_X4_readNumber in_X4 cd_X4_readNumber) rfl rfl rfl hyV_X4_readNumber ⟨by show 3 + 1 ≤ 20 + (n + 1); omega, by show 8 + (3 + 11) + 151 ≤ 700 + 24 * (n + 1); omega⟩ rfl rfl (Nat.le_of_ble_eq_true rfl) dX4_readOperand_13 rfl (fun q10 => ?_)
        refine j_iconst (pc' := 17) (v := (1 : Int32)) hC dX4_readOperand_16 (by decide) rfl ?_
        exact j_ret_z hC (by decide) dX4_readOperand_17
    · intro σ p1
      refine jStart_z (lv0 := [(0, .ref (d.2.1 7)), (1, .int p1)]) (by decide) rfl (Nat.le_of_ble_eq_true rfl) rfl (fun z hC res => ?_)
      show jJ z d wX A _ _ res σ (bX4_readBracket (gX4 n) σ p1) 0 _ _
      unfold bX4_readBracket
      refine j_aload_n (pc' := 1) hC 0 dX4_readBracket_0 rfl rfl rfl ?_
      refine j_dup (pc' := 2) hC rfl dX4_readBracket_1 rfl ?_
      refine j_get (pc' := 5) hC ly_X4 (X_at_7 d _) rfl 2 (by decide) fl_X4_32 rfl dX4_readBracket_2 rfl ?_
      refine j_iconst (pc' := 6) (v := (1 : Int32)) hC dX4_readBracket_5 (by decide) rfl ?_
      refine j_iadd (pc' := 7) hC dX4_readBracket_6 rfl ?_
      refine j_put (pc' := 10) hC ly_X4 tyX4 tyX4_ok nmX4 (X_at_7 d _) rfl 2 (by decide) fl_X4_32 rfl rfl rfl rfl (Nat.le_of_ble_eq_true rfl) (X_sf_7_2 d _ _) dX4_readBracket_7 rfl ?_
      refine j_st (fun σ1 => ?_)
      refine j_aload_n (pc' := 11) hC 0 dX4_readBracket_10 rfl rfl rfl ?_
      refine j_iconst (pc' := 12) (v := (0 : Int32)) hC dX4_readBracket_11 (by decide) rfl ?_
      refine j_iload_n (pc' := 13) hC 1 dX4_readBracket_12 rfl rfl rfl ?_
      refine j_callV_z (pc' := 16) (As := [.int (0 : Int32), .int p1]) (st := []) hC (X_at_7 d _) rfl (ih.1 _ _ _) (jgV ml_X4_55 im_X4_readLevel se_X4_readLevel in_X4 cd_X4_readLevel) rfl rfl rfl hyV_X4_readLevel ⟨by show 20 + n + 1 ≤ 20 + (n + 1); omega, by show 8 + (5 + 11) + (700 + 24 * n) ≤ 700 + 24 * (n + 1); omega⟩ rfl rfl (Nat.le_of_ble_eq_true rfl) dX4_readBracket_13 rfl (fun q2 => ?_)
      refine j_if_eq (pc' := 19) (tgt := 28) hC dX4_readBracket_16 (by decide) rfl ?_ ?_
      · refine j_iconst (pc' := 29) (v := (0 : Int32)) hC dX4_readBracket_28 (by decide) rfl ?_
        exact j_ret_z hC (by decide) dX4_readBracket_29
      · refine j_aload_n (pc' := 20) hC 0 dX4_readBracket_19 rfl rfl rfl ?_
        refine j_callV_ir (pc' := 23) (As := []) (st := []) hC (X_at_7 d _) rfl (kX4_letter l d A _) (jgV ml_X4_42 im_X4_letter se_X4_letter in_X4 cd_X4_letter) rfl rfl rfl hyV_X4_letter ⟨by show 2 + 1 ≤ 20 + (n + 1); omega, by show 8 + (1 + 11) + 130 ≤ 700 + 24 * (n + 1); omega⟩ rfl rfl (Nat.le_of_ble_eq_true rfl) dX4_readBracket_20 rfl (fun q3 => ?_)
        refine j_bipush (pc' := 25) (v := (41 : Int32)) hC dX4_readBracket_23 (by decide) rfl ?_
        refine j_icmp_eq (pc' := 28) (tgt := 30) hC dX4_readBracket_25 (by decide) rfl ?_ ?_
        · refine j_aload_n (pc' := 31) hC 0 dX4_readBracket_30 rfl rfl rfl ?_
          refine j_dup (pc' := 32) hC rfl dX4_readBracket_31 rfl ?_
          refine j_get (pc' := 35) hC ly_X4 (X_at_7 d _) rfl 2 (by decide) fl_X4_32 rfl dX4_readBracket_32 rfl ?_
          refine j_iconst (pc' := 36) (v := (1 : Int32)) hC dX4_readBracket_35 (by decide) rfl ?_
          refine j_iadd (pc' := 37) hC dX4_readBracket_36 rfl ?_
          refine j_put (pc' := 40) hC ly_X4 tyX4 tyX4_ok nmX4 (X_at_7 d _) rfl 2 (by decide) fl_X4_32 rfl rfl rfl rfl (Nat.le_of_ble_eq_true rfl) (X_sf_7_2 d _ _) dX4_readBracket_37 rfl ?_
          refine j_st (fun σ4 => ?_)
          refine j_iconst (pc' := 41) (v := (1 : Int32)) hC dX4_readBracket_40 (by decide) rfl ?_
          exact j_ret_z hC (by decide) dX4_readBracket_41
        · refine j_iconst (pc' := 29) (v := (0 : Int32)) hC dX4_readBracket_28 (by decide) rfl ?_
          exact j_ret_z hC (by decide) dX4_readBracket_29
theorem hyV_X4_readLine : yX4_readLine.cls = RX4 ∧ yX4_readLine.cls ≠ "java/lang/invoke/MethodHandle" ∧ yX4_readLine.cls ≠ "java/lang/invoke/VarHandle" ∧ (parseMethodDescriptor yX4_readLine.desc).map (fun d => d.parameters.length) = some 0 := ⟨rfl, by decide +kernel, by decide +kernel, by decide +kernel⟩
noncomputable def fX4_readLine (σ : jS) : Option (Int32 × jS) :=
  (Option.bind ((gX4 jG).1 σ (0 : Int32) (0 : Int32)) fun (q1 : (Int32 × jS)) => (if (jb q1.1) = 0 then (some ((0 : Int32), q1.2)) else (Option.bind (fX4_letter q1.2) fun (q2 : Int32) => (jlet (fun (a47 : jS) => (Option.bind (fX4_draw a47 (59 : Int32)) fun (q3 : jS) => (some ((1 : Int32), q3)))) fun (j47 : (jS → Option (Int32 × jS))) => (if q2 = (63 : Int32) then (jst (ju q1.2 7 2 ((q1.2.1 7 2) + (1 : Int32))) fun (σ4 : jS) => (Option.bind (fX4_draw σ4 (63 : Int32)) fun (q5 : jS) => (Option.bind ((gX4 jG).1 q5 (0 : Int32) (0 : Int32)) fun (q6 : (Int32 × jS)) => (if (jb q6.1) = 0 then (some ((0 : Int32), q6.2)) else (j47 q6.2))))) else (j47 q1.2))))))
set_option maxRecDepth 100000 in
set_option maxHeartbeats 4000000 in
theorem kX4_readLine (l : Launch) (d : jD) (A : Nat → Prop) (σ : jS) : jMz l yX4_readLine (jws yX4_readLine cX4_readLine 1 (some (.boolean))) { frames := 121, cells := 0, slots := 0, locals := 3124 } d wX A [.ref (d.2.1 7)] σ (fX4_readLine σ) := by
  refine jStart_z (lv0 := [(0, .ref (d.2.1 7))]) (by decide) rfl (Nat.le_of_ble_eq_true rfl) rfl (fun z hC res => ?_)
  unfold fX4_readLine
  refine j_aload_n (pc' := 1) hC 0 dX4_readLine_0 rfl rfl rfl ?_
  refine j_iconst (pc' := 2) (v := (0 : Int32)) hC dX4_readLine_1 (by decide) rfl ?_
  refine j_iconst (pc' := 3) (v := (0 : Int32)) hC dX4_readLine_2 (by decide) rfl ?_
  refine j_callV_z (pc' := 6) (As := [.int (0 : Int32), .int (0 : Int32)]) (st := []) hC (X_at_7 d _) rfl ((kgX4 l d A jG).1 _ _ _) (jgV ml_X4_55 im_X4_readLevel se_X4_readLevel in_X4 cd_X4_readLevel) rfl rfl rfl hyV_X4_readLevel ⟨Nat.le_of_ble_eq_true rfl, Nat.le_of_ble_eq_true rfl⟩ rfl rfl (Nat.le_of_ble_eq_true rfl) dX4_readLine_3 rfl (fun q1 => ?_)
  refine j_if_ne (pc' := 9) (tgt := 11) hC dX4_readLine_6 (by decide) rfl ?_ ?_
  · refine j_aload_n (pc' := 12) hC 0 dX4_readLine_11 rfl rfl rfl ?_
    refine j_callV_ir (pc' := 15) (As := []) (st := []) hC (X_at_7 d _) rfl (kX4_letter l d A _) (jgV ml_X4_42 im_X4_letter se_X4_letter in_X4 cd_X4_letter) rfl rfl rfl hyV_X4_letter ⟨Nat.le_of_ble_eq_true rfl, Nat.le_of_ble_eq_true rfl⟩ rfl rfl (Nat.le_of_ble_eq_true rfl) dX4_readLine_12 rfl (fun q2 => ?_)
    refine j_bipush (pc' := 17) (v := (63 : Int32)) hC dX4_readLine_15 (by decide) rfl ?_
    refine j_let 47 (fun a47 => a47) (fun a47 => [(0, .ref (d.2.1 7))]) (fun a47 => []) (fun a47 => ?_) (fun j47 hj47 => ?_)
    · refine j_aload_n (pc' := 48) hC 0 dX4_readLine_47 rfl rfl rfl ?_
      refine j_bipush (pc' := 50) (v := (59 : Int32)) hC dX4_readLine_48 (by decide) rfl ?_
      refine j_callV_v (pc' := 53) (As := [.int (59 : Int32)]) (st := []) hC (X_at_7 d _) rfl (kX4_draw l d A _ _) (jgV ml_X4_59 im_X4_draw se_X4_draw in_X4 cd_X4_draw) rfl rfl rfl hyV_X4_draw ⟨Nat.le_of_ble_eq_true rfl, Nat.le_of_ble_eq_true rfl⟩ rfl rfl (Nat.le_of_ble_eq_true rfl) dX4_readLine_50 rfl (fun q3 => ?_)
      refine j_iconst (pc' := 54) (v := (1 : Int32)) hC dX4_readLine_53 (by decide) rfl ?_
      exact j_ret_z hC (by decide) dX4_readLine_54
    · refine j_icmp_ne (pc' := 20) (tgt := 47) hC dX4_readLine_17 (by decide) rfl ?_ ?_
      · exact j_lv (lv' := [(0, .ref (d.2.1 7))]) [0] rfl (hj47 q1.2)
      · refine j_aload_n (pc' := 21) hC 0 dX4_readLine_20 rfl rfl rfl ?_
        refine j_dup (pc' := 22) hC rfl dX4_readLine_21 rfl ?_
        refine j_get (pc' := 25) hC ly_X4 (X_at_7 d _) rfl 2 (by decide) fl_X4_32 rfl dX4_readLine_22 rfl ?_
        refine j_iconst (pc' := 26) (v := (1 : Int32)) hC dX4_readLine_25 (by decide) rfl ?_
        refine j_iadd (pc' := 27) hC dX4_readLine_26 rfl ?_
        refine j_put (pc' := 30) hC ly_X4 tyX4 tyX4_ok nmX4 (X_at_7 d _) rfl 2 (by decide) fl_X4_32 rfl rfl rfl rfl (Nat.le_of_ble_eq_true rfl) (X_sf_7_2 d _ _) dX4_readLine_27 rfl ?_
        refine j_st (fun σ4 => ?_)
        refine j_aload_n (pc' := 31) hC 0 dX4_readLine_30 rfl rfl rfl ?_
        refine j_bipush (pc' := 33) (v := (63 : Int32)) hC dX4_readLine_31 (by decide) rfl ?_
        refine j_callV_v (pc' := 36) (As := [.int (63 : Int32)]) (st := []) hC (X_at_7 d _) rfl (kX4_draw l d A _ _) (jgV ml_X4_59 im_X4_draw se_X4_draw in_X4 cd_X4_draw) rfl rfl rfl hyV_X4_draw ⟨Nat.le_of_ble_eq_true rfl, Nat.le_of_ble_eq_true rfl⟩ rfl rfl (Nat.le_of_ble_eq_true rfl) dX4_readLine_33 rfl (fun q5 => ?_)
        refine j_aload_n (pc' := 37) hC 0 dX4_readLine_36 rfl rfl rfl ?_
        refine j_iconst (pc' := 38) (v := (0 : Int32)) hC dX4_readLine_37 (by decide) rfl ?_
        refine j_iconst (pc' := 39) (v := (0 : Int32)) hC dX4_readLine_38 (by decide) rfl ?_
        refine j_callV_z (pc' := 42) (As := [.int (0 : Int32), .int (0 : Int32)]) (st := []) hC (X_at_7 d _) rfl ((kgX4 l d A jG).1 _ _ _) (jgV ml_X4_55 im_X4_readLevel se_X4_readLevel in_X4 cd_X4_readLevel) rfl rfl rfl hyV_X4_readLevel ⟨Nat.le_of_ble_eq_true rfl, Nat.le_of_ble_eq_true rfl⟩ rfl rfl (Nat.le_of_ble_eq_true rfl) dX4_readLine_39 rfl (fun q6 => ?_)
        refine j_if_ne (pc' := 45) (tgt := 47) hC dX4_readLine_42 (by decide) rfl ?_ ?_
        · exact j_lv (lv' := [(0, .ref (d.2.1 7))]) [0] rfl (hj47 q6.2)
        · refine j_iconst (pc' := 46) (v := (0 : Int32)) hC dX4_readLine_45 (by decide) rfl ?_
          exact j_ret_z hC (by decide) dX4_readLine_46
  · refine j_iconst (pc' := 10) (v := (0 : Int32)) hC dX4_readLine_9 (by decide) rfl ?_
    exact j_ret_z hC (by decide) dX4_readLine_10
theorem hyV_X4_enact : yX4_enact.cls = RX4 ∧ yX4_enact.cls ≠ "java/lang/invoke/MethodHandle" ∧ yX4_enact.cls ≠ "java/lang/invoke/VarHandle" ∧ (parseMethodDescriptor yX4_enact.desc).map (fun d => d.parameters.length) = some 0 := ⟨rfl, by decide +kernel, by decide +kernel, by decide +kernel⟩
noncomputable def fX4_enact_B17 (j57 : (jS × Int32 → Option (Int32 × jS))) (s17 : jS × Int32 × Int32 → Option (Int32 × jS)) (a : jS × Int32 × Int32) : Option (Int32 × jS) :=
  (if (120 : Int32) ≤ a.2.2 then (j57 (a.1, a.2.1)) else (if a.2.1 = 0 then (j57 (a.1, a.2.1)) else (Option.bind (fX4_letter a.1) fun (q7 : Int32) => (if q7 = (59 : Int32) then (jst (ju a.1 7 2 ((a.1.1 7 2) + (1 : Int32))) fun (σ8 : jS) => (Option.bind (fX4_readLine σ8) fun (q9 : (Int32 × jS)) => (s17 (q9.2, (jb q9.1), (a.2.2 + (1 : Int32)))))) else (j57 (a.1, a.2.1))))))
noncomputable def fX4_enact (σ : jS) : Option (Int32 × jS) :=
  (jst (ju σ 7 2 (0 : Int32)) fun (σ1 : jS) => (jst (ju σ1 7 4 (0 : Int32)) fun (σ2 : jS) => (Option.bind (fX4_readLine σ2) fun (q3 : (Int32 × jS)) => (jlet (fun (a57 : jS × Int32) => (jlet (fun (a77 : Int32) => (jst (ju a57.1 7 1 (0 : Int32)) fun (σ4 : jS) => (if a77 = 0 then (some (((-100 : Int32) - (σ4.1 7 2)), σ4)) else (ocp (0 : Int32) (0 : Int32) (σ4.1 7 4) 121 121 (jst (jc σ4 10 (va_cpy (σ4.1 9) (σ4.1 10) ((0 : Int32)).toNatClampNeg ((0 : Int32)).toNatClampNeg ((σ4.1 7 4)).toNatClampNeg)) fun (σ5 : jS) => (jst (ju σ5 7 6 (σ5.1 7 4)) fun (σ6 : jS) => (some ((1 : Int32), σ6)))))))) fun (j77 : (Int32 → Option (Int32 × jS))) => (jlet (fun (a76 : Unit) => (j77 (0 : Int32))) fun (j76 : (Unit → Option (Int32 × jS))) => (if a57.2 = 0 then (j76 ()) else (if (a57.1.1 7 2) = (a57.1.1 7 1) then (j77 (1 : Int32)) else (j76 ())))))) fun (j57 : (jS × Int32 → Option (Int32 × jS))) => (jloop (fX4_enact_B17 j57) jN (q3.2, (jb q3.1), (1 : Int32)))))))
set_option maxRecDepth 100000 in
set_option maxHeartbeats 4000000 in
theorem kX4_enact (l : Launch) (d : jD) (A : Nat → Prop) (σ : jS) : jMi l yX4_enact (jws yX4_enact cX4_enact 3 (some (.int))) { frames := 122, cells := 0, slots := 0, locals := 3144 } d wX A [.ref (d.2.1 7)] σ (fX4_enact σ) := by
  refine jStart_i (lv0 := [(0, .ref (d.2.1 7))]) (by decide) rfl (Nat.le_of_ble_eq_true rfl) rfl (fun z hC res => ?_)
  unfold fX4_enact
  refine j_aload_n (pc' := 1) hC 0 dX4_enact_0 rfl rfl rfl ?_
  refine j_iconst (pc' := 2) (v := (0 : Int32)) hC dX4_enact_1 (by decide) rfl ?_
  refine j_put (pc' := 5) hC ly_X4 tyX4 tyX4_ok nmX4 (X_at_7 d _) rfl 2 (by decide) fl_X4_32 rfl rfl rfl rfl (Nat.le_of_ble_eq_true rfl) (X_sf_7_2 d _ _) dX4_enact_2 rfl ?_
  refine j_st (fun σ1 => ?_)
  refine j_aload_n (pc' := 6) hC 0 dX4_enact_5 rfl rfl rfl ?_
  refine j_iconst (pc' := 7) (v := (0 : Int32)) hC dX4_enact_6 (by decide) rfl ?_
  refine j_put (pc' := 10) hC ly_X4 tyX4 tyX4_ok nmX4 (X_at_7 d _) rfl 4 (by decide) fl_X4_35 rfl rfl rfl rfl (Nat.le_of_ble_eq_true rfl) (X_sf_7_4 d _ _) dX4_enact_7 rfl ?_
  refine j_st (fun σ2 => ?_)
  refine j_aload_n (pc' := 11) hC 0 dX4_enact_10 rfl rfl rfl ?_
  refine j_callV_z (pc' := 14) (As := []) (st := []) hC (X_at_7 d _) rfl (kX4_readLine l d A _) (jgV ml_X4_38 im_X4_readLine se_X4_readLine in_X4 cd_X4_readLine) rfl rfl rfl hyV_X4_readLine ⟨Nat.le_of_ble_eq_true rfl, Nat.le_of_ble_eq_true rfl⟩ rfl rfl (Nat.le_of_ble_eq_true rfl) dX4_enact_11 rfl (fun q3 => ?_)
  refine j_istore_n (pc' := 15) (lv' := [(1, .int (jb q3.1)), (0, .ref (d.2.1 7))]) hC dX4_enact_14 rfl (by decide) rfl rfl ?_
  refine j_iconst (pc' := 16) (v := (1 : Int32)) hC dX4_enact_15 (by decide) rfl ?_
  refine j_istore_n (pc' := 17) (lv' := [(2, .int (1 : Int32)), (1, .int (jb q3.1)), (0, .ref (d.2.1 7))]) hC dX4_enact_16 rfl (by decide) rfl rfl ?_
  refine j_let 57 (fun a57 => a57.1) (fun a57 => [(0, .ref (d.2.1 7)), (1, .int a57.2)]) (fun a57 => []) (fun a57 => ?_) (fun j57 hj57 => ?_)
  · refine j_iload_n (pc' := 58) hC 1 dX4_enact_57 rfl rfl rfl ?_
    refine j_let 77 (fun a77 => a57.1) (fun a77 => [(0, .ref (d.2.1 7))]) (fun a77 => [.int a77]) (fun a77 => ?_) (fun j77 hj77 => ?_)
    · refine j_istore_n (pc' := 78) (lv' := [(2, .int a77), (0, .ref (d.2.1 7))]) hC dX4_enact_77 rfl (by decide) rfl rfl ?_
      refine j_aload_n (pc' := 79) hC 1 dX4_enact_78 rfl rfl rfl ?_
      refine j_iconst (pc' := 80) (v := (0 : Int32)) hC dX4_enact_79 (by decide) rfl ?_
      refine j_put (pc' := 83) hC ly_X4 tyX4 tyX4_ok nmX4 (X_at_7 d _) rfl 1 (by decide) fl_X4_28 rfl rfl rfl rfl (Nat.le_of_ble_eq_true rfl) (X_sf_7_1 d _ _) dX4_enact_80 rfl ?_
      refine j_st (fun σ4 => ?_)
      refine j_iload_n (pc' := 84) hC 0 dX4_enact_83 rfl rfl rfl ?_
      refine j_if_ne (pc' := 87) (tgt := 95) hC dX4_enact_84 (by decide) rfl ?_ ?_
      · refine j_aload_n (pc' := 96) hC 1 dX4_enact_95 rfl rfl rfl ?_
        refine j_get (pc' := 99) hC ly_X4 (X_at_7 d _) rfl 3 (by decide) fl_X4_15 rfl dX4_enact_96 rfl ?_
        refine j_iconst (pc' := 100) (v := (0 : Int32)) hC dX4_enact_99 (by decide) rfl ?_
        refine j_aload_n (pc' := 101) hC 1 dX4_enact_100 rfl rfl rfl ?_
        refine j_get (pc' := 104) hC ly_X4 (X_at_7 d _) rfl 5 (by decide) fl_X4_19 rfl dX4_enact_101 rfl ?_
        refine j_iconst (pc' := 105) (v := (0 : Int32)) hC dX4_enact_104 (by decide) rfl ?_
        refine j_aload_n (pc' := 106) hC 1 dX4_enact_105 rfl rfl rfl ?_
        refine j_get (pc' := 109) hC ly_X4 (X_at_7 d _) rfl 4 (by decide) fl_X4_35 rfl dX4_enact_106 rfl ?_
        refine j_copyi (pc' := 112) hC ml_X4_46 na_acopy st_acopy in_J10 (X_at_9 d _) (X_at_10 d _) (X_sa_10 d _ _) (Nat.le_of_ble_eq_true rfl) (Nat.le_of_ble_eq_true rfl) dX4_enact_109 rfl ?_
        refine j_st (fun σ5 => ?_)
        refine j_aload_n (pc' := 113) hC 1 dX4_enact_112 rfl rfl rfl ?_
        refine j_aload_n (pc' := 114) hC 1 dX4_enact_113 rfl rfl rfl ?_
        refine j_get (pc' := 117) hC ly_X4 (X_at_7 d _) rfl 4 (by decide) fl_X4_35 rfl dX4_enact_114 rfl ?_
        refine j_put (pc' := 120) hC ly_X4 tyX4 tyX4_ok nmX4 (X_at_7 d _) rfl 6 (by decide) fl_X4_52 rfl rfl rfl rfl (Nat.le_of_ble_eq_true rfl) (X_sf_7_6 d _ _) dX4_enact_117 rfl ?_
        refine j_st (fun σ6 => ?_)
        refine j_iconst (pc' := 121) (v := (1 : Int32)) hC dX4_enact_120 (by decide) rfl ?_
        exact j_ret_i hC dX4_enact_121
      · refine j_bipush (pc' := 89) (v := (-100 : Int32)) hC dX4_enact_87 (by decide) rfl ?_
        refine j_aload_n (pc' := 90) hC 1 dX4_enact_89 rfl rfl rfl ?_
        refine j_get (pc' := 93) hC ly_X4 (X_at_7 d _) rfl 2 (by decide) fl_X4_32 rfl dX4_enact_90 rfl ?_
        refine j_isub (pc' := 94) hC dX4_enact_93 rfl ?_
        exact j_ret_i hC dX4_enact_94
    · refine j_let 76 (fun a76 => a57.1) (fun a76 => [(0, .ref (d.2.1 7))]) (fun a76 => []) (fun a76 => ?_) (fun j76 hj76 => ?_)
      · refine j_iconst (pc' := 77) (v := (0 : Int32)) hC dX4_enact_76 (by decide) rfl ?_
        exact j_lv (lv' := [(0, .ref (d.2.1 7))]) [0] rfl (hj77 (0 : Int32))
      · refine j_if_eq (pc' := 61) (tgt := 76) hC dX4_enact_58 (by decide) rfl ?_ ?_
        · exact j_lv (lv' := [(0, .ref (d.2.1 7))]) [0] rfl (hj76 ())
        · refine j_aload_n (pc' := 62) hC 0 dX4_enact_61 rfl rfl rfl ?_
          refine j_get (pc' := 65) hC ly_X4 (X_at_7 d _) rfl 2 (by decide) fl_X4_32 rfl dX4_enact_62 rfl ?_
          refine j_aload_n (pc' := 66) hC 0 dX4_enact_65 rfl rfl rfl ?_
          refine j_get (pc' := 69) hC ly_X4 (X_at_7 d _) rfl 1 (by decide) fl_X4_28 rfl dX4_enact_66 rfl ?_
          refine j_icmp_ne (pc' := 72) (tgt := 76) hC dX4_enact_69 (by decide) rfl ?_ ?_
          · exact j_lv (lv' := [(0, .ref (d.2.1 7))]) [0] rfl (hj76 ())
          · refine j_iconst (pc' := 73) (v := (1 : Int32)) hC dX4_enact_72 (by decide) rfl ?_
            refine j_goto (tgt := 77) hC dX4_enact_73 (by decide) ?_
            exact j_lv (lv' := [(0, .ref (d.2.1 7))]) [0] rfl (hj77 (1 : Int32))
  · refine j_lv (lv' := [(0, .ref (d.2.1 7)), (1, .int (jb q3.1)), (2, .int (1 : Int32))]) [2, 1, 0] rfl ?_
    refine j_loop 17 (fun a => a.1) (fun a => [(0, .ref (d.2.1 7)), (1, .int a.2.1), (2, .int a.2.2)]) (fun s17 hs17 a => ?_) jN (q3.2, (jb q3.1), (1 : Int32))
    unfold fX4_enact_B17
    refine j_iload_n (pc' := 18) hC 2 dX4_enact_17 rfl rfl rfl ?_
    refine j_bipush (pc' := 20) (v := (120 : Int32)) hC dX4_enact_18 (by decide) rfl ?_
    refine j_icmp_ge (pc' := 23) (tgt := 57) hC dX4_enact_20 (by decide) rfl ?_ ?_
    · exact j_lv (lv' := [(0, .ref (d.2.1 7)), (1, .int a.2.1)]) [0, 1] rfl (hj57 (a.1, a.2.1))
    · refine j_iload_n (pc' := 24) hC 1 dX4_enact_23 rfl rfl rfl ?_
      refine j_if_eq (pc' := 27) (tgt := 57) hC dX4_enact_24 (by decide) rfl ?_ ?_
      · exact j_lv (lv' := [(0, .ref (d.2.1 7)), (1, .int a.2.1)]) [0, 1] rfl (hj57 (a.1, a.2.1))
      · refine j_aload_n (pc' := 28) hC 0 dX4_enact_27 rfl rfl rfl ?_
        refine j_callV_ir (pc' := 31) (As := []) (st := []) hC (X_at_7 d _) rfl (kX4_letter l d A _) (jgV ml_X4_42 im_X4_letter se_X4_letter in_X4 cd_X4_letter) rfl rfl rfl hyV_X4_letter ⟨Nat.le_of_ble_eq_true rfl, Nat.le_of_ble_eq_true rfl⟩ rfl rfl (Nat.le_of_ble_eq_true rfl) dX4_enact_28 rfl (fun q7 => ?_)
        refine j_bipush (pc' := 33) (v := (59 : Int32)) hC dX4_enact_31 (by decide) rfl ?_
        refine j_icmp_ne (pc' := 36) (tgt := 57) hC dX4_enact_33 (by decide) rfl ?_ ?_
        · exact j_lv (lv' := [(0, .ref (d.2.1 7)), (1, .int a.2.1)]) [0, 1] rfl (hj57 (a.1, a.2.1))
        · refine j_aload_n (pc' := 37) hC 0 dX4_enact_36 rfl rfl rfl ?_
          refine j_dup (pc' := 38) hC rfl dX4_enact_37 rfl ?_
          refine j_get (pc' := 41) hC ly_X4 (X_at_7 d _) rfl 2 (by decide) fl_X4_32 rfl dX4_enact_38 rfl ?_
          refine j_iconst (pc' := 42) (v := (1 : Int32)) hC dX4_enact_41 (by decide) rfl ?_
          refine j_iadd (pc' := 43) hC dX4_enact_42 rfl ?_
          refine j_put (pc' := 46) hC ly_X4 tyX4 tyX4_ok nmX4 (X_at_7 d _) rfl 2 (by decide) fl_X4_32 rfl rfl rfl rfl (Nat.le_of_ble_eq_true rfl) (X_sf_7_2 d _ _) dX4_enact_43 rfl ?_
          refine j_st (fun σ8 => ?_)
          refine j_aload_n (pc' := 47) hC 0 dX4_enact_46 rfl rfl rfl ?_
          refine j_callV_z (pc' := 50) (As := []) (st := []) hC (X_at_7 d _) rfl (kX4_readLine l d A _) (jgV ml_X4_38 im_X4_readLine se_X4_readLine in_X4 cd_X4_readLine) rfl rfl rfl hyV_X4_readLine ⟨Nat.le_of_ble_eq_true rfl, Nat.le_of_ble_eq_true rfl⟩ rfl rfl (Nat.le_of_ble_eq_true rfl) dX4_enact_47 rfl (fun q9 => ?_)
          refine j_istore_n (pc' := 51) (lv' := [(1, .int (jb q9.1)), (0, .ref (d.2.1 7)), (2, .int a.2.2)]) hC dX4_enact_50 rfl (by decide) rfl rfl ?_
          refine j_iinc (pc' := 54) (v := (a.2.2 + (1 : Int32))) (lv' := [(2, .int (a.2.2 + (1 : Int32))), (1, .int (jb q9.1)), (0, .ref (d.2.1 7))]) hC 2 dX4_enact_51 rfl (by decide) rfl rfl rfl ?_
          refine j_goto (tgt := 17) hC dX4_enact_54 (by decide) ?_
          exact j_lv (lv' := [(0, .ref (d.2.1 7)), (1, .int (jb q9.1)), (2, .int (a.2.2 + (1 : Int32)))]) [2, 1, 0] rfl (hs17 (q9.2, (jb q9.1), (a.2.2 + (1 : Int32))))
