/-! children of both sides -/
theorem l_lt {x y : Int64} : (x < y) = (x.toInt < y.toInt) := propext Int64.lt_iff_toInt_lt
theorem lc_neg (x y : Int64) : lg_cmp x y < 0 ↔ x.toInt < y.toInt := by
  unfold lg_cmp
  by_cases a : x > y
  · rw [if_pos a]
    have : y.toInt < x.toInt := by rw [← l_lt]; exact a
    exact ⟨fun z => absurd z (by decide), fun z => by omega⟩
  · rw [if_neg a]
    have a' : ¬ y.toInt < x.toInt := by rw [← l_lt]; exact a
    by_cases b : x = y
    · rw [if_pos b]
      subst b
      exact ⟨fun z => absurd z (by decide), fun z => by omega⟩
    · rw [if_neg b]
      have : ¬ x.toInt = y.toInt := fun z => b (Int64.toInt_inj.mp z)
      exact ⟨fun _ => by omega, fun _ => by decide⟩
theorem lc_nn (x y : Int64) : 0 ≤ lg_cmp x y ↔ ¬ x.toInt < y.toInt := by
  rw [← lc_neg, Int32.not_lt]
theorem l_add {x y : Int64} (h1 : -9000000000000000000 ≤ x.toInt + y.toInt) (h2 : x.toInt + y.toInt < 9000000000000000000) : (x + y).toInt = x.toInt + y.toInt := by
  rw [Int64.toInt_add]
  exact Int.bmod_eq_of_le (by omega) (by omega)
theorem l_of (x : Int32) : x.toInt64.toInt = x.toInt := Int32.toInt_toInt64 x
theorem l_to {x : Int64} {k : Nat} (h : x.toInt = (k : Int)) (hk : k < 2 ^ 31) : x.toInt32 = nI k := by
  rw [← Int32.toInt_inj, Int64.toInt_toInt32, h, nI_T hk]
  exact Int.bmod_eq_of_le (by omega) (by omega)
theorem eq_childrenL {p2 : Int32} {s n N : Nat} (hs : s < 6) (hN : N ≤ 9) : ∀ (m i f : Nat) (at' : Int32) (σx σm : jS) (ch : Nat) (V : Nat → Nat → Int32), i + m = N → m < f → at'.toInt = p2.toInt + 3 * i → rN σx σm ch V → byR σx σm s n → ∃ r σx' σm' ch' V', jloop (fX11_children_B57 (nI s) (nI N)) f (σx, nI i, at') = some (r, σx') ∧ jloop (fX12_children_B58 (nI s) p2 (nI N)) f (σm, nI i) = some (r, σm') ∧ rN σx' σm' ch' V' ∧ ch ≤ ch' ∧ jOff [1, 2] σx σx' ∧ mOff [2, 3, 4, 5, 6, 7] [2] σm σm' := by
  intro m
  induction m with
  | zero =>
    intro i f at' σx σm ch V hi hf hat h hb
    obtain ⟨f, rfl⟩ : ∃ g, f = g + 1 := ⟨f - 1, by omega⟩
    obtain rfl : i = N := by omega
    rw [jloop_s, jloop_s]
    unfold fX11_children_B57 fX12_children_B58
    rw [if_pos ((nI_leI (by omega) (by omega)).mpr (by omega)), if_pos ((nI_leI (by omega) (by omega)).mpr (by omega))]
    exact ⟨_, _, _, ch, V, rfl, rfl, h, Nat.le_refl _, jOff.rf, mOff.rf⟩
  | succ m ih =>
    intro i f at' σx σm ch V hi hf hat h hb
    obtain ⟨f, rfl⟩ : ∃ g, f = g + 1 := ⟨f - 1, by omega⟩
    obtain ⟨hx, hm, hg⟩ := id h
    obtain ⟨b1, b2, b3, b4, b5⟩ := id hb
    have hc9 := hx.1
    have ih' := ih (i + 1) f
    obtain ⟨KX, hKX⟩ : ∃ K, K = jloop (fX11_children_B57 (nI s) (nI N)) f := ⟨_, rfl⟩
    obtain ⟨KM, hKM⟩ : ∃ K, K = jloop (fX12_children_B58 (nI s) p2 (nI N)) f := ⟨_, rfl⟩
    rw [jloop_s, jloop_s, ← hKX, ← hKM]
    rw [← hKX, ← hKM] at ih'
    unfold fX11_children_B57 fX12_children_B58
    rw [if_neg (show ¬ nI N ≤ nI i from fun z => by have := (nI_leI (by omega) (by omega)).mp z; omega), if_neg (show ¬ nI N ≤ nI i from fun z => by have := (nI_leI (by omega) (by omega)).mp z; omega), sX9_hasPlaces hs b2 b3 b1, Option.bind_some]
    have e3i : (3 : Int32) * nI i = nI (3 * i) := by
      show nI 3 * nI i = _
      rw [pk_mul]
    have hlo := i_lo p2
    have hhi := i_hi p2
    have eL : (p2.toInt64 + (nI (3 * i)).toInt64).toInt = at'.toInt := by
      rw [l_add (by rw [l_of, l_of, nI_T (by omega)]; omega) (by rw [l_of, l_of, nI_T (by omega)]; omega), l_of, l_of, nI_T (by omega), hat]
      omega
    have eL2 : (p2.toInt64 + (nI (3 * i)).toInt64 + (2 : Int64)).toInt = at'.toInt + 2 := by
      rw [l_add (by rw [eL, show (2 : Int64).toInt = 2 from rfl]; omega) (by rw [eL, show (2 : Int64).toInt = 2 from rfl]; omega), eL]
      rfl
    simp only [jb_jo, e3i, lc_neg, lc_nn, eL, eL2, ob_nI hs (show 6 < 2 ^ 31 by omega), nI_cl (show s < 2 ^ 31 by omega), b4, l_of, nI_T (show n < 2 ^ 31 by omega), show (0 : Int64).toInt = 0 from rfl]
    by_cases a : hasP n at' 3
    · have a' := a
      unfold hasP at a'
      rw [show (3 : Int32).toInt = 3 from rfl] at a'
      rw [if_neg (fun (z : ¬ hasP n at' 3) => z a), if_neg (by omega), if_neg (by omega)]
      obtain ⟨j, hj, rfl⟩ : ∃ j, j < 60 ∧ at' = nI j := isCh_of ⟨a'.1, by omega⟩
      rw [nI_T (by omega)] at a' hat eL
      rw [sX9_elementAt hs b2 b3 b1 (show j < n by omega), nI_1, sX9_elementAt hs b2 b3 b1 (show j + 1 < n by omega), show nI j + (2 : Int32) = nI (j + 2) from by show nI j + nI 2 = _; rw [nI_add], sX9_elementAt hs b2 b3 b1 (show j + 2 < n by omega), Option.bind_some, Option.bind_some, Option.bind_some]
      rw [l_to eL (by omega), jst_e, ix60' hs (by omega), show nI (60 * s + j) + (2 : Int32) = nI (60 * s + (j + 2)) from by show nI _ + nI 2 = _; rw [nI_add, Nat.add_assoc]]
      simp only [ob_nI (show 60 * s + j < 360 by omega) (show 360 < 2 ^ 31 by omega), ob_nI (show 60 * s + j + 1 < 360 by omega) (show 360 < 2 ^ 31 by omega), ob_nI (show 60 * s + (j + 2) < 360 by omega) (show 360 < 2 ^ 31 by omega), nI_cl (show 60 * s + j < 2 ^ 31 by omega), nI_cl (show 60 * s + j + 1 < 2 ^ 31 by omega), nI_cl (show 60 * s + (j + 2) < 2 ^ 31 by omega), ← b5 j (by omega), ← (show σx.2 49 (60 * s + j + 1) = σm.2 33 (60 * s + j + 1) from b5 (j + 1) (by omega)), ← b5 (j + 2) (by omega), sM_in, Option.bind_some, jb_jo, nI_1]
      rw [← Nat.add_assoc (60 * s) j 1]
      generalize (σx.2 49 (60 * s + j)).toInt32 = v0
      generalize (σx.2 49 (60 * s + j + 1)).toInt32 = v1
      generalize (σx.2 49 (60 * s + (j + 2))).toInt32 = v2
      have z0 : (0 : Int32).toInt = 0 := rfl
      have z1 : (1 : Int32).toInt = 1 := rfl
      have z3 : (3 : Int32).toInt = 3 := rfl
      have z9 : (9 : Int32).toInt = 9 := rfl
      rw [z0, z1, z3, z9]
      by_cases g : (1 ≤ v0.toInt ∧ v0.toInt ≤ 9) ∧ (0 ≤ v1.toInt ∧ v1.toInt ≤ 3) ∧ (0 ≤ v2.toInt ∧ v2.toInt ≤ 3)
      · by_cases c : ch = 9
        · rw [sX6_addFull (by rw [hx.2.1, c]) g.1 g.2.1 g.2.2, Option.bind_some, if_neg (show ¬ (0 : Int32) ≤ -3 by decide), if_pos (show σm.1 0 2 = (9 : Int32) by rw [hm.2.1, c]; rfl)]
          exact ⟨_, _, _, ch, V, rfl, rfl, h, Nat.le_refl _, jOff.rf, mOff.rf⟩
        · have hl : ch < 9 := by omega
          obtain ⟨X, e1, n1, o1⟩ := sX6_add hx hl v0 v1 v2 g.1 g.2.1 g.2.2
          obtain ⟨Y, e2, n2, o2⟩ := sM_add hm hl v0 v1 v2
          rw [e1, Option.bind_some, if_pos (nI_nn (by omega)).1, if_neg (show ¬ σm.1 0 2 = (9 : Int32) from fun z => by
            rw [hm.2.1] at z
            exact c ((nI_eq (a := ch) (b := 9) (by omega) (by omega)).mp z)), if_neg (fun z => z g.1), if_neg (fun z => z g.2.1), if_neg (fun z => z g.2.2), e2, Option.bind_some, show nI j + (3 : Int32) = nI (j + 3) from by show nI j + nI 3 = _; rw [nI_add]]
          have hN' : rN X Y (ch + 1) (jadd V ch v0 v1 v2) := ⟨n1, n2, hg.add ⟨g.1, fun z => absurd z (by decide)⟩ ⟨g.2.1, fun z => absurd z (by decide)⟩ ⟨g.2.2, fun z => absurd z (by decide)⟩⟩
          obtain ⟨r, X', Y', ch', V', f1, f2, f3, f4, f5, f6⟩ := ih' (nI (j + 3)) X Y (ch + 1) _ (by omega) (by omega) (by rw [nI_T (by omega)]; omega) hN' (hb.go o1 o2 (by intro c h1 h2; simp; omega) (by decide))
          exact ⟨r, X', Y', ch', V', f1, f2, f3, by omega, o1.trans f5, o2.trans f6⟩
      · rw [sX6_addBad g, Option.bind_some, if_neg (show ¬ (0 : Int32) ≤ -1 by decide)]
        refine ⟨_, _, _, ch, V, rfl, ?_, h, Nat.le_refl _, jOff.rf, mOff.rf⟩
        by_cases c : σm.1 0 2 = (9 : Int32)
        · rw [if_pos c]
        · rw [if_neg c]
          by_cases g0 : 1 ≤ v0.toInt ∧ v0.toInt ≤ 9
          · rw [if_neg (fun z => z g0)]
            by_cases g1 : 0 ≤ v1.toInt ∧ v1.toInt ≤ 3
            · rw [if_neg (fun z => z g1), if_pos (fun z => g ⟨g0, g1, z⟩)]
            · rw [if_pos g1]
          · rw [if_pos g0]
    · rw [if_pos a]
      unfold hasP at a
      rw [show (3 : Int32).toInt = 3 from rfl] at a
      refine ⟨_, _, _, ch, V, rfl, ?_, h, Nat.le_refl _, jOff.rf, mOff.rf⟩
      by_cases c : at'.toInt < 0
      · rw [if_pos c]
      · rw [if_neg c, if_pos (by omega)]
theorem eq_children {σx σm : jS} {ch nb : Nat} {V : Nat → Nat → Int32} (h : rN σx σm ch V) (hS : rS σx σm nb) (p1 p2 p3 : Int32) : ∃ r σx' σm' ch' V', fX11_children σx p1 p2 p3 = some (r, σx') ∧ fX12_children σm p1 p2 p3 = some (r, σm') ∧ rN σx' σm' ch' V' ∧ ch ≤ ch' ∧ jOff [1, 2] σx σx' ∧ mOff [2, 3, 4, 5, 6, 7] [2] σm σm' := by
  unfold fX11_children fX12_children
  rw [sX9_isShelf, sM_isShelf, sM_in, Option.bind_some, Option.bind_some]
  simp only [jb_jo, Option.bind_some]
  have z1 : (1 : Int32).toInt = 1 := rfl
  have z9 : (9 : Int32).toInt = 9 := rfl
  have st : ∀ r : Int32, ∃ r' σx' σm' ch' V', some (r, σx) = some (r', σx') ∧ some (r, σm) = some (r', σm') ∧ rN σx' σm' ch' V' ∧ ch ≤ ch' ∧ jOff [1, 2] σx σx' ∧ mOff [2, 3, 4, 5, 6, 7] [2] σm σm' := fun r => ⟨r, σx, σm, ch, V, rfl, rfl, h, Nat.le_refl _, jOff.rf, mOff.rf⟩
  by_cases a : isCh 6 p1
  · rw [if_neg (fun (z : ¬ isCh 6 p1) => z a), if_neg (fun (z : ¬ isCh 6 p1) => z a)]
    obtain ⟨s, hs, rfl⟩ := isCh_of a
    by_cases b : 1 ≤ p3.toInt ∧ p3.toInt ≤ 9
    · rw [if_neg (show ¬ p3 < (1 : Int32) by rw [i_lt, z1]; omega), if_pos (show p3 ≤ (9 : Int32) by rw [i_le, z9]; omega), if_neg (show ¬ ¬ ((1 : Int32).toInt ≤ p3.toInt ∧ p3.toInt ≤ (9 : Int32).toInt) by rw [z1, z9]; omega)]
      obtain ⟨N, hN, rfl⟩ : ∃ N, N < 10 ∧ p3 = nI N := isCh_of ⟨by omega, by omega⟩
      unfold fX9_refusalOfBytes
      rw [sX9_isEmpty σx hs, sX9_isRow σx hs, Option.bind_some, Option.bind_some, jlet_e]
      simp only [jb_jo, ob_nI hs (show 6 < 2 ^ 31 by omega), nI_cl (show s < 2 ^ 31 by omega)]
      rcases hS.2 s hs with ⟨q1, q2⟩ | ⟨b, hb, q1, q2, q3⟩ | ⟨k, n, hk, hn, q1, q2, q3, q4, q5, q6⟩
      · rw [q1, q2, if_neg (fun (z : ¬ (0 : Int32) = 0) => z rfl), Option.bind_some, if_pos rfl, if_pos rfl, if_pos rfl]
        exact st 0
      · have h1 := hS.1
        have n1 := nI_nn (k := b) (by omega)
        have n2 : ¬ nI b = -2 := fun z => by
          have := congrArg Int32.toInt z
          rw [nI_T (by omega), show (-2 : Int32).toInt = -2 from rfl] at this
          omega
        rw [q1, q3, if_pos (show ¬ (1 : Int32) = 0 by decide), if_pos (show ¬ (1 : Int32) = 2 by decide), Option.bind_some, if_neg (show ¬ (-12 : Int32) = -11 by decide), if_neg (show ¬ (-12 : Int32) = 0 by decide), if_neg n1.2, if_neg n2]
        exact st (-12)
      · have m := m2k hk
        have ek : (nI k = 0) = (k = 0) := propext (nI_eq (a := k) (b := 0) (by omega) (by omega))
        rw [q1, q2, q3, if_pos (show ¬ (2 : Int32) = 0 by decide), if_neg (fun (z : ¬ (2 : Int32) = 2) => z rfl), if_neg m.1]
        simp only [ek, m.2.1]
        by_cases z : k = 0
        · rw [if_pos z, Option.bind_some, if_neg (show ¬ (0 : Int32) = -11 by decide), if_pos (show (0 : Int32) = 0 from rfl), if_pos z, if_neg m.1]
          have hb : byR σx σm s n := ⟨hn, q1, q4, q5, q6⟩
          have hN9 : N ≤ 9 := by omega
          have hf : N < jN := by have := jN_ge; omega
          have hat : p2.toInt = p2.toInt + 3 * ((0 : Nat) : Int) := by omega
          have key := eq_childrenL (p2 := p2) (n := n) hs hN9 N 0 jN p2 σx σm ch V (Nat.zero_add N) hf hat h hb
          have e0 : nI 0 = (0 : Int32) := rfl
          rw [e0] at key
          exact key
        · rw [if_neg z, Option.bind_some, if_neg (show ¬ (-12 : Int32) = -11 by decide), if_neg (show ¬ (-12 : Int32) = 0 by decide), if_neg z]
          exact st (-12)
    · rw [if_pos (show ¬ ((1 : Int32).toInt ≤ p3.toInt ∧ p3.toInt ≤ (9 : Int32).toInt) by rw [z1, z9]; exact b)]
      by_cases c : p3 < (1 : Int32)
      · rw [if_pos c]
        exact st (-1)
      · rw [if_neg c, if_neg (show ¬ p3 ≤ (9 : Int32) by rw [i_le, z9]; rw [i_lt, z1] at c; omega)]
        exact st (-1)
  · rw [if_pos a, if_pos a]
    exact st (-1)
