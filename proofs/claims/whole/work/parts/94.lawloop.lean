/-! THE LAW'S LOOP -/
theorem arrV_3 {c : ClassId} {f g : Nat → Value} (h : ∀ j : Nat, j < 3 → f j = g j) : arrV c 3 f = arrV c 3 g := by
  unfold arrV
  have e : (fun j : Fin 3 => f j.val) = (fun j : Fin 3 => g j.val) := funext fun j => h j.val j.isLt
  rw [e]
abbrev fLn (h0 : Nat) (u : Nat → Nat) : Nat → Option Nat := fun k => some (adX h0 u (17 + 5 * k))
theorem vX_at (d : jD) (h0 : Nat) (u : Nat → Nat) : (vX11 d h0 u)[16]? = some (u 15, .inl (d.2.2.1 4, 3, .inr (.inr (.inr (.inr (va_up (va_up (va_up (fun _ => none) (Int32.toNatClampNeg (0 : Int32)) (some (u 16))) (Int32.toNatClampNeg (1 : Int32)) (some (u 21))) (Int32.toNatClampNeg (2 : Int32)) (some (u 26)))))))) := rfl
theorem vX_set (d : jD) (h0 : Nat) (u : Nat → Nat) : (vX11 d h0 u).set 16 (u 15, .inl (d.2.2.1 4, 3, .inr (.inr (.inr (.inr (fLn h0 u)))))) = wX (d.1, adX h0 u, d.2.2) sX0 := rfl
theorem vX_P {d : jD} {h0 : Nat} {u : Nat → Nat} {A : Nat → Prop} {H : Heap} (hP : va_P d.1 vwCl (vX11 d h0 u) H) (hD : va_D A (vX11 d h0 u)) : va_P d.1 vwCl (wX (d.1, adX h0 u, d.2.2) sX0) H := by
  rw [← vX_set]
  refine va_P.set hP hD (vX_at d h0 u) ?_ (fun _ _ => rfl)
  have h16 := hP 16 _ (vX_at d h0 u)
  have h17 : H[u 15]? = some (vp_cell (d.2.2.1 4) (3, .inr (.inr (.inr (.inr (va_up (va_up (va_up (fun _ => none) (Int32.toNatClampNeg (0 : Int32)) (some (u 16))) (Int32.toNatClampNeg (1 : Int32)) (some (u 21))) (Int32.toNatClampNeg (2 : Int32)) (some (u 26)))))))) := h16
  show H[u 15]? = some (vp_cell (d.2.2.1 4) (3, .inr (.inr (.inr (.inr (fLn h0 u))))))
  rw [h17, vp_cell_q, vp_cell_q]
  refine congrArg some (arrV_3 fun j hj => ?_)
  rcases (show j = 0 ∨ j = 1 ∨ j = 2 by omega) with rfl | rfl | rfl <;> rfl
theorem vX_D {d : jD} {h0 : Nat} {u : Nat → Nat} {A : Nat → Prop} (hD : va_D A (vX11 d h0 u)) : va_D A (wX (d.1, adX h0 u, d.2.2) sX0) := by
  rw [← vX_set]
  exact va_D.set hD (vX_at d h0 u)
theorem g_impD {z : jZ} {d : jD} {A : Nat → Prop} {nL cl sl pc : Nat} {Q : State → Prop} {ws ws' : va_W} {lv : List (Nat × Value)} {st : List Value} (hP : ∀ H : Heap, va_P d.1 vwCl ws H → va_D A ws → va_P d.1 vwCl ws' H) (hD : va_D A ws → va_D A ws') (k : gJ z d A nL Q ws' cl sl pc lv st) : gJ z d A nL Q ws cl sl pc lv st := fun H locs ls h1 h2 hS hv => k H locs ls (hP H h1 h2) (hD h2) hS hv
theorem r_new : rAll sX0 sM0 := by
  refine rAll_start ?_ ?_ ?_ ?_ ?_ ?_ ?_ ?_ ?_ ?_ ?_ ?_ ?_ ?_ ?_ ?_ ?_ ?_ ?_ ?_ ?_ ?_ ?_ ?_ ?_ ?_ ?_ ?_ ?_ ?_ ?_ ?_ ?_ ?_ ?_ ?_ ?_ ?_ ?_ ?_ ?_ ?_ ?_ ?_ ?_ ?_ ?_ <;> decide
theorem li_le {k L : Nat} (hL : L ≤ 3072) (hk : k ≤ L + 6) (h : ¬ Int32.ofNat L - (6 : Int32) < Int32.ofNat k) : k + 6 ≤ L := by
  have e : (Int32.ofNat L - (6 : Int32)).toInt = (L : Int) - 6 := by
    rw [Int32.toInt_sub, Int32.toInt_ofNat_of_lt (by omega), show (6 : Int32).toInt = 6 from rfl]
    exact Int.bmod_eq_of_le (by omega) (by omega)
  rw [Int32.lt_iff_toInt_lt, e, Int32.toInt_ofNat_of_lt (by omega)] at h
  omega
set_option maxHeartbeats 4000000 in
set_option maxRecDepth 100000 in
theorem law_loop {z : jZ} {d : jD} {A : Nat → Prop} {Q : State → Prop} {l : Launch} {b L : Nat} {xs : Nat → Int32} {ax am : Nat → Nat} (hK : lK z d A l b L xs) (hend : ∀ (σx σm : jS) (k : Nat), lJ z d A Q b ax am σx σm k 1478) : ∀ (n k : Nat) (σx σm : jS), L + 12 - k < n → k ≤ L + 6 → rAll σx σm → lJ z d A Q b ax am σx σm k 18 := by
  have hK0 := hK
  obtain ⟨hC, hA, hF, hX, hbl, hbA, hL⟩ := hK
  intro n
  induction n with
  | zero => intro k σx σm h1 h2 _; omega
  | succ n ih =>
    intro k σx σm h1 h2 hAll
    refine g_iload_n (pc' := 19) hC 0 dL_law_18 rfl rfl rfl ?_
    refine g_aload_n (pc' := 20) hC 3 dL_law_19 rfl rfl rfl ?_
    refine g_slen (pc' := 21) hC hX hbl hbA dL_law_20 rfl ?_
    refine g_bipush (pc' := 23) (v := (6 : Int32)) hC dL_law_21 (by decide) rfl ?_
    refine g_isub (pc' := 24) hC dL_law_23 rfl ?_
    refine g_icmp_gt (tgt := 1478) (pc' := 27) hC dL_law_24 rfl rfl (fun _ => hend σx σm k) (fun h => ?_)
    have hk := li_le hL h2 h
    have nxt : ∀ σx1 σm1 : jS, rAll σx1 σm1 → lJ z d A Q b ax am σx1 σm1 k 1472 := by
      intro σx1 σm1 h9
      refine g_iinc (pc' := 1475) (v := Int32.ofNat (k + 6)) (lv' := [(3, .int (Int32.ofNat (k + 6))), (2, .ref (am 0)), (1, .ref (ax 0)), (0, .ref b)]) hC 0 dL_law_1472 rfl (by decide) (by rw [Int32.ofNat_add]; rfl) rfl rfl ?_
      refine g_goto (tgt := 18) hC dL_law_1475 rfl ?_
      exact ih (k + 6) σx1 σm1 (by omega) (by omega) h9
    refine g_aload_n (pc' := 28) hC 3 dL_law_27 rfl rfl rfl ?_
    refine g_iload_n (pc' := 29) hC 0 dL_law_28 rfl rfl rfl ?_
    refine g_sld (pc' := 30) hC hX hbl hbA (li_in0 (by omega) hL) dL_law_29 rfl ?_
    refine g_bipush (pc' := 32) (v := (63 : Int32)) hC dL_law_30 (by decide) rfl ?_
    refine g_iand (pc' := 33) hC dL_law_32 rfl ?_
    generalize (xs (Int32.toNatClampNeg (Int32.ofNat k)) &&& (63 : Int32)) = v
    by_cases h0 : v.toInt < 0 ∨ 38 < v.toInt
    · exact g_tableOut (tgt := 1472) hC dL_law_33 h0 rfl (nxt σx σm hAll)
    · rcases (show v.toInt = 0 ∨ v.toInt = 1 ∨ v.toInt = 2 ∨ v.toInt = 3 ∨ v.toInt = 4 ∨ v.toInt = 5 ∨ v.toInt = 6 ∨ v.toInt = 7 ∨ v.toInt = 8 ∨ v.toInt = 9 ∨ v.toInt = 10 ∨ v.toInt = 11 ∨ v.toInt = 12 ∨ v.toInt = 13 ∨ v.toInt = 14 ∨ v.toInt = 15 ∨ v.toInt = 16 ∨ v.toInt = 17 ∨ v.toInt = 18 ∨ v.toInt = 19 ∨ v.toInt = 20 ∨ v.toInt = 21 ∨ v.toInt = 22 ∨ v.toInt = 23 ∨ v.toInt = 24 ∨ v.toInt = 25 ∨ v.toInt = 26 ∨ v.toInt = 27 ∨ v.toInt = 28 ∨ v.toInt = 29 ∨ v.toInt = 30 ∨ v.toInt = 31 ∨ v.toInt = 32 ∨ v.toInt = 33 ∨ v.toInt = 34 ∨ v.toInt = 35 ∨ v.toInt = 36 ∨ v.toInt = 37 ∨ v.toInt = 38 by omega) with h9 | h9 | h9 | h9 | h9 | h9 | h9 | h9 | h9 | h9 | h9 | h9 | h9 | h9 | h9 | h9 | h9 | h9 | h9 | h9 | h9 | h9 | h9 | h9 | h9 | h9 | h9 | h9 | h9 | h9 | h9 | h9 | h9 | h9 | h9 | h9 | h9 | h9 | h9
      · exact g_tableIn (tgt := 204) (off := 171) hC dL_law_33 (by omega) (by omega) (by rw [h9]; rfl) rfl (law_case_0 hK0 hk hAll nxt)
      · exact g_tableIn (tgt := 237) (off := 204) hC dL_law_33 (by omega) (by omega) (by rw [h9]; rfl) rfl (law_case_1 hK0 hk hAll nxt)
      · exact g_tableIn (tgt := 280) (off := 247) hC dL_law_33 (by omega) (by omega) (by rw [h9]; rfl) rfl (law_case_2 hK0 hk hAll nxt)
      · exact g_tableIn (tgt := 323) (off := 290) hC dL_law_33 (by omega) (by omega) (by rw [h9]; rfl) rfl (law_case_3 hK0 hk hAll nxt)
      · exact g_tableIn (tgt := 356) (off := 323) hC dL_law_33 (by omega) (by omega) (by rw [h9]; rfl) rfl (law_case_4 hK0 hk hAll nxt)
      · exact g_tableIn (tgt := 379) (off := 346) hC dL_law_33 (by omega) (by omega) (by rw [h9]; rfl) rfl (law_case_5 hK0 hk hAll nxt)
      · exact g_tableIn (tgt := 392) (off := 359) hC dL_law_33 (by omega) (by omega) (by rw [h9]; rfl) rfl (law_case_6 hK0 hk hAll nxt)
      · exact g_tableIn (tgt := 435) (off := 402) hC dL_law_33 (by omega) (by omega) (by rw [h9]; rfl) rfl (law_case_7 hK0 hk hAll nxt)
      · exact g_tableIn (tgt := 468) (off := 435) hC dL_law_33 (by omega) (by omega) (by rw [h9]; rfl) rfl (law_case_8 hK0 hk hAll nxt)
      · exact g_tableIn (tgt := 501) (off := 468) hC dL_law_33 (by omega) (by omega) (by rw [h9]; rfl) rfl (law_case_9 hK0 hk hAll nxt)
      · exact g_tableIn (tgt := 534) (off := 501) hC dL_law_33 (by omega) (by omega) (by rw [h9]; rfl) rfl (law_case_10 hK0 hk hAll nxt)
      · exact g_tableIn (tgt := 577) (off := 544) hC dL_law_33 (by omega) (by omega) (by rw [h9]; rfl) rfl (law_case_11 hK0 hk hAll nxt)
      · exact g_tableIn (tgt := 610) (off := 577) hC dL_law_33 (by omega) (by omega) (by rw [h9]; rfl) rfl (law_case_12 hK0 hk hAll nxt)
      · exact g_tableIn (tgt := 653) (off := 620) hC dL_law_33 (by omega) (by omega) (by rw [h9]; rfl) rfl (law_case_13 hK0 hk hAll nxt)
      · exact g_tableIn (tgt := 676) (off := 643) hC dL_law_33 (by omega) (by omega) (by rw [h9]; rfl) rfl (law_case_14 hK0 hk hAll nxt)
      · exact g_tableIn (tgt := 709) (off := 676) hC dL_law_33 (by omega) (by omega) (by rw [h9]; rfl) rfl (law_case_15 hK0 hk hAll nxt)
      · exact g_tableIn (tgt := 742) (off := 709) hC dL_law_33 (by omega) (by omega) (by rw [h9]; rfl) rfl (law_case_16 hK0 hk hAll nxt)
      · exact g_tableIn (tgt := 775) (off := 742) hC dL_law_33 (by omega) (by omega) (by rw [h9]; rfl) rfl (law_case_17 hK0 hk hAll nxt)
      · exact g_tableIn (tgt := 828) (off := 795) hC dL_law_33 (by omega) (by omega) (by rw [h9]; rfl) rfl (law_case_18 hK0 hk hAll nxt)
      · exact g_tableIn (tgt := 871) (off := 838) hC dL_law_33 (by omega) (by omega) (by rw [h9]; rfl) rfl (law_case_19 hK0 hk hAll nxt)
      · exact g_tableIn (tgt := 914) (off := 881) hC dL_law_33 (by omega) (by omega) (by rw [h9]; rfl) rfl (law_case_20 hK0 hk hAll nxt)
      · exact g_tableIn (tgt := 957) (off := 924) hC dL_law_33 (by omega) (by omega) (by rw [h9]; rfl) rfl (law_case_21 hK0 hk hAll nxt)
      · exact g_tableIn (tgt := 980) (off := 947) hC dL_law_33 (by omega) (by omega) (by rw [h9]; rfl) rfl (law_case_22 hK0 hk hAll nxt)
      · exact g_tableIn (tgt := 993) (off := 960) hC dL_law_33 (by omega) (by omega) (by rw [h9]; rfl) rfl (law_case_23 hK0 hk hAll nxt)
      · exact g_tableIn (tgt := 1006) (off := 973) hC dL_law_33 (by omega) (by omega) (by rw [h9]; rfl) rfl (law_case_24 hK0 hk hAll nxt)
      · exact g_tableIn (tgt := 1029) (off := 996) hC dL_law_33 (by omega) (by omega) (by rw [h9]; rfl) rfl (law_case_25 hK0 hk hAll nxt)
      · exact g_tableIn (tgt := 1042) (off := 1009) hC dL_law_33 (by omega) (by omega) (by rw [h9]; rfl) rfl (law_case_26 hK0 hk hAll nxt)
      · exact g_tableIn (tgt := 1055) (off := 1022) hC dL_law_33 (by omega) (by omega) (by rw [h9]; rfl) rfl (law_case_27 hK0 hk hAll nxt)
      · exact g_tableIn (tgt := 1068) (off := 1035) hC dL_law_33 (by omega) (by omega) (by rw [h9]; rfl) rfl (law_case_28 hK0 hk hAll nxt)
      · exact g_tableIn (tgt := 1081) (off := 1048) hC dL_law_33 (by omega) (by omega) (by rw [h9]; rfl) rfl (law_case_29 hK0 hk hAll nxt)
      · exact g_tableIn (tgt := 1104) (off := 1071) hC dL_law_33 (by omega) (by omega) (by rw [h9]; rfl) rfl (law_case_30 hK0 hk hAll nxt)
      · exact g_tableIn (tgt := 1147) (off := 1114) hC dL_law_33 (by omega) (by omega) (by rw [h9]; rfl) rfl (law_case_31 hK0 hk hAll nxt)
      · exact g_tableIn (tgt := 1170) (off := 1137) hC dL_law_33 (by omega) (by omega) (by rw [h9]; rfl) rfl (law_case_32 hK0 hk hAll nxt)
      · exact g_tableIn (tgt := 1203) (off := 1170) hC dL_law_33 (by omega) (by omega) (by rw [h9]; rfl) rfl (law_case_33 hK0 hk hAll nxt)
      · exact g_tableIn (tgt := 1246) (off := 1213) hC dL_law_33 (by omega) (by omega) (by rw [h9]; rfl) rfl (law_case_34 hK0 hk hAll nxt)
      · exact g_tableIn (tgt := 1319) (off := 1286) hC dL_law_33 (by omega) (by omega) (by rw [h9]; rfl) rfl (law_case_35 hK0 hk hAll nxt)
      · exact g_tableIn (tgt := 1353) (off := 1320) hC dL_law_33 (by omega) (by omega) (by rw [h9]; rfl) rfl (law_case_36 hK0 hk hAll nxt)
      · exact g_tableIn (tgt := 1416) (off := 1383) hC dL_law_33 (by omega) (by omega) (by rw [h9]; rfl) rfl (law_case_37 hK0 hk hAll nxt)
      · exact g_tableIn (tgt := 1449) (off := 1416) hC dL_law_33 (by omega) (by omega) (by rw [h9]; rfl) rfl (law_case_38 hK0 hk hAll nxt)
set_option maxHeartbeats 4000000 in
set_option maxRecDepth 100000 in
theorem law_begin {z : jZ} {d : jD} {A : Nat → Prop} {Q : State → Prop} {l : Launch} {b L : Nat} {xs : Nat → Int32} (hK : lK z d A l b L xs) (hend : ∀ (ax am : Nat → Nat) (σx σm : jS) (k : Nat), lJ z d A Q b ax am σx σm k 1478) : gJ z d A 4 Q [] 0 0 0 [(0, .ref b)] [] := by
  have hK0 := hK
  obtain ⟨hC, hA, hF, hX, hbl, hbA, hL⟩ := hK
  refine g_new (pc' := 3) (cl' := 1) (sl' := 12) (fs := [.null, .null, .null, .null, .null, .null, .null, .null, .null, .null, .null, .int 0]) (ci := 11) hC hA ly_X11 tyX11 tyX11_ok cl_L_7 iq_X11 in_X11 rfl (fun j hj => by rcases (show j = 0 ∨ j = 1 ∨ j = 2 ∨ j = 3 ∨ j = 4 ∨ j = 5 ∨ j = 6 ∨ j = 7 ∨ j = 8 ∨ j = 9 ∨ j = 10 ∨ j = 11 by omega) with rfl | rfl | rfl | rfl | rfl | rfl | rfl | rfl | rfl | rfl | rfl | rfl <;> rfl) rfl rfl (Nat.le_of_ble_eq_true rfl) (Nat.le_of_ble_eq_true rfl) dL_law_0 rfl (fun q => ?_)
  refine g_ws (ws' := [(q, .inr (11, [.null, .null, .null, .null, .null, .null, .null, .null, .null, .null, .null, .int 0]))]) rfl ?_
  refine g_dup (pc' := 4) hC rfl dL_law_3 rfl ?_
  refine g_callI (pc' := 7) (cl' := 50) (sl' := 1393) (w0 := []) (st := [.ref q]) (n := 0) hC hA (iX11 l d q) rfl cd_X11_init rfl rfl in_X11 ml_L_9 im_X11_init rfl (by decide +kernel) ⟨Nat.le_of_ble_eq_true rfl, Nat.le_of_ble_eq_true rfl⟩ rfl rfl ⟨Nat.le_of_ble_eq_true rfl, Nat.le_of_ble_eq_true rfl⟩ rfl rfl (Nat.le_of_ble_eq_true rfl) rfl dL_law_4 rfl (fun u => ?_)
  refine g_ws (ws' := vX11 d q u) rfl ?_
  refine g_impD (ws' := wX (d.1, adX q u, d.2.2) sX0) (fun H h1 h2 => vX_P h1 h2) vX_D ?_
  refine g_astore_n (pc' := 8) (lv' := [(1, .ref q), (0, .ref b)]) hC dL_law_7 rfl (by decide) rfl rfl ?_
  refine g_new (pc' := 11) (cl' := 51) (sl' := 1450) (fs := [.int 0, .null, .int 0, .null, .null, .null, .null, .null, .null, .int 0, .int 0, .int 0, .int 0, .int 0, .int 0, .null, .null, .null, .null, .null, .int 0, .int 0, .int 0, .int 0, .int 0, .null, .null, .null, .null, .null, .null, .null, .int 0, .int 0, .int 0, .int 0, .int 0, .null, .null, .null, .null, .null, .int 0, .null, .null, .int 0, .null, .null, .int 0, .int 0, .null, .int 0, .null, .null, .null, .null, .null]) (ci := 12) hC hA ly_X12 tyX12 tyX12_ok cl_L_10 iq_X12 in_X12 rfl (fun j hj => by rcases (show j = 0 ∨ j = 1 ∨ j = 2 ∨ j = 3 ∨ j = 4 ∨ j = 5 ∨ j = 6 ∨ j = 7 ∨ j = 8 ∨ j = 9 ∨ j = 10 ∨ j = 11 ∨ j = 12 ∨ j = 13 ∨ j = 14 ∨ j = 15 ∨ j = 16 ∨ j = 17 ∨ j = 18 ∨ j = 19 ∨ j = 20 ∨ j = 21 ∨ j = 22 ∨ j = 23 ∨ j = 24 ∨ j = 25 ∨ j = 26 ∨ j = 27 ∨ j = 28 ∨ j = 29 ∨ j = 30 ∨ j = 31 ∨ j = 32 ∨ j = 33 ∨ j = 34 ∨ j = 35 ∨ j = 36 ∨ j = 37 ∨ j = 38 ∨ j = 39 ∨ j = 40 ∨ j = 41 ∨ j = 42 ∨ j = 43 ∨ j = 44 ∨ j = 45 ∨ j = 46 ∨ j = 47 ∨ j = 48 ∨ j = 49 ∨ j = 50 ∨ j = 51 ∨ j = 52 ∨ j = 53 ∨ j = 54 ∨ j = 55 ∨ j = 56 by omega) with rfl | rfl | rfl | rfl | rfl | rfl | rfl | rfl | rfl | rfl | rfl | rfl | rfl | rfl | rfl | rfl | rfl | rfl | rfl | rfl | rfl | rfl | rfl | rfl | rfl | rfl | rfl | rfl | rfl | rfl | rfl | rfl | rfl | rfl | rfl | rfl | rfl | rfl | rfl | rfl | rfl | rfl | rfl | rfl | rfl | rfl | rfl | rfl | rfl | rfl | rfl | rfl | rfl | rfl | rfl | rfl | rfl <;> rfl) rfl rfl (Nat.le_of_ble_eq_true rfl) (Nat.le_of_ble_eq_true rfl) dL_law_8 rfl (fun q2 => ?_)
  refine g_dup (pc' := 12) hC rfl dL_law_11 rfl ?_
  refine g_callI (pc' := 15) (cl' := 85) (sl' := 3272) (w0 := wX (d.1, adX q u, d.2.2) sX0) (st := [.ref q2]) (n := 0) hC hA (iX12 l d q2) rfl cd_X12_init rfl rfl in_X12 ml_L_12 im_X12_init rfl (by decide +kernel) ⟨Nat.le_of_ble_eq_true rfl, Nat.le_of_ble_eq_true rfl⟩ rfl rfl ⟨Nat.le_of_ble_eq_true rfl, Nat.le_of_ble_eq_true rfl⟩ rfl rfl (Nat.le_of_ble_eq_true rfl) rfl dL_law_12 rfl (fun u2 => ?_)
  refine g_ws (ws' := wX (d.1, adX q u, d.2.2) sX0 ++ wM (d.1, adX q2 u2, d.2.2) sM0) (by rw [vM_w]) ?_
  refine g_astore_n (pc' := 16) (lv' := [(2, .ref q2), (1, .ref q), (0, .ref b)]) hC dL_law_15 rfl (by decide) rfl rfl ?_
  refine g_iconst (pc' := 17) (v := Int32.ofNat 0) hC dL_law_16 (by decide) rfl ?_
  refine g_istore_n (pc' := 18) (lv' := [(3, .int (Int32.ofNat 0)), (2, .ref q2), (1, .ref q), (0, .ref b)]) hC dL_law_17 rfl (by decide) rfl rfl ?_
  refine g_widen (cl' := 86) (sl' := 3273) (by decide) (by decide) ?_
  exact law_loop hK0 (hend (adX q u) (adX q2 u2)) (L + 13) 0 sX0 sM0 (by omega) (by omega) r_new
