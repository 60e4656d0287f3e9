/-! join, each of both sides -/
theorem vN_put {V : Nat → Nat → Int32} {w n v : Nat} (hv : v < 2 ^ 31) : vN (jput V w n (nI v)) w n = v := by
  unfold vN jput
  rw [if_pos ⟨rfl, rfl⟩, nI_cl hv]
theorem sM_lay7 {σ : jS} {ch : Nat} {V : Nat → Nat → Int32} (h : nM σ ch V) {c : Nat} (hc : c < ch) (v : Int32) : nM (ju σ 7 c v) ch (jput V 5 c v) := by
  have e := sM_lays h (jk0 (w := 5) (by omega) hc) v
  have h9 := h.1
  rw [show fX12_lays σ (nI 5) (nI c) v = some (ju σ 7 c v) by rw [lM_5, ob_nI (by omega) (by omega), nI_cl (by omega)]] at e
  obtain ⟨σ', e1, e2, e3⟩ := e
  cases e1
  exact e2
theorem sM_lay10 {σ : jS} {ch : Nat} {V : Nat → Nat → Int32} (h : nM σ ch V) (v : Int32) : nM (ju σ 0 10 v) ch (jput V 8 0 v) := by
  have e := sM_lays h (jk7 (w := 8) (by omega) (by omega)) v
  rw [show fX12_lays σ (nI 8) (nI 0) v = some (ju σ 0 10 v) from lM_8 σ _ v] at e
  obtain ⟨σ', e1, e2, e3⟩ := e
  cases e1
  exact e2
theorem good5 {ch c k : Nat} (hk : k ≤ 3) : goodV ch 5 c (nI k) := ⟨by
  have h1 : jlo 5 = 0 := rfl
  have h2 : jhi 5 = 3 := rfl
  rw [nI_T (by omega)]; omega, fun z => absurd z (by decide)⟩
theorem good8 {ch k : Nat} (h1 : 1 ≤ k) (hk : k ≤ 30) : goodV ch 8 0 (nI k) := ⟨by
  have h1 : jlo 8 = 1 := rfl
  have h2 : jhi 8 = 30 := rfl
  rw [nI_T (by omega)]; omega, fun z => absurd z (by decide)⟩
theorem lMo {σ σ' : jS} {lw : jL} {F : List Nat} (h : lM σ lw) (k : mOff [18, 19, 20, 21, 22, 23, 24] F σ σ') (h2 : 32 ∉ F) : lM σ' lw := h.go k (by intro c h1 h2; simp <;> omega) h2
theorem lXo {σ σ' : jS} {lw : jL} (h : lX σ lw) (k : jOff lnC σ σ') : lX σ' lw := h.go k (by rw [lnC_m]; omega) (by rw [lnC_m]; omega)
theorem eq_joinL {ch : Nat} {V : Nat → Nat → Int32} {lw : jL} (hg : nG ch V) (ho : lOk lw) (hc9 : ch ≤ 9) {c bell : Nat} (hc : c < ch) (hb : bell ≤ 3600) : ∀ (n k f : Nat) (fo so x : Int32) (σx σm : jS), k + n = 3 → n < f → nX σx ch (jput V 5 c x) → nM σm ch (jput V 5 c x) → lX σx lw → lM σm lw → rLn σx → (fo = -2 ∨ 0 ≤ fo) → ∃ fo' so' x' σx' σm', (∀ jx, jloop (fX11_join_B62 (nI bell) (nI c) (nI (jxp 5 c)) jx) f (σx, fo, so, nI k) = jx (σx', fo', so')) ∧ (∀ jm, jloop (fX12_join_B45 (nI bell) (nI c) jm) f (σm, fo, so, nI k) = jm (σm', fo', so')) ∧ nX σx' ch (jput V 5 c x') ∧ nM σm' ch (jput V 5 c x') ∧ rLn σx' ∧ jOff (2 :: lnC) σx σx' ∧ mOff [7, 18, 19, 20, 21, 22, 23, 24] [33, 34, 35, 36, 42] σm σm' := by
  intro n
  induction n with
  | zero =>
    intro k f fo so x σx σm hk hf hx hm hlx hlm hr hfo
    obtain ⟨f, rfl⟩ : ∃ g, f = g + 1 := ⟨f - 1, by omega⟩
    obtain rfl : k = 3 := by omega
    refine ⟨fo, so, x, σx, σm, fun jx => ?_, fun jm => ?_, hx, hm, hr, jOff.rf, mOff.rf⟩
    · rw [jloop_s, fX11_join_B62_eq]
      rw [if_pos (show (3 : Int32) ≤ nI 3 by decide)]
    · rw [jloop_s, fX12_join_B45_eq]
      rw [if_pos (show (3 : Int32) ≤ nI 3 by decide)]
  | succ n ih =>
    intro k f fo so x σx σm hk hf hx hm hlx hlm hr hfo
    obtain ⟨f, rfl⟩ : ∃ g, f = g + 1 := ⟨f - 1, by omega⟩
    have hk3 : k < 3 := by omega
    have k3 : ¬ (3 : Int32) ≤ nI k := by rw [show (3 : Int32) = nI 3 from rfl, nI_leI (by omega) (by omega)]; omega
    have hkp := jk0 (w := 5) (by omega) hc
    have hl := jxp_lt hkp hc9
    have hx1 : nX (ju σx 2 (jxp 5 c) (nI k)) ch (jput V 5 c (nI k)) := by
      have := hx.put hkp (nI k)
      rwa [jput_2] at this
    have hm1 : nM (ju σm 7 c (nI k)) ch (jput V 5 c (nI k)) := by
      have := sM_lay7 hm hc (nI k)
      rwa [jput_2] at this
    have hg1 : nG ch (jput V 5 c (nI k)) := hg.put (good5 (by omega))
    have o1 : jOff [2] σx (ju σx 2 (jxp 5 c) (nI k)) := jOff.u (by decide)
    have om1 : mOff [7] [] σm (ju σm 7 c (nI k)) := mOff.u (by decide) (by decide)
    have hr1 : rLn (ju σx 2 (jxp 5 c) (nI k)) := hr.all o1 (by intro i hi; simp <;> omega)
    obtain ⟨U, W, eU, eW, oW, lW, fW, zW⟩ := sX_ff hk3 hx1 hg1 (hlx.go o1 (by decide) (by decide)) ho hr1
    obtain ⟨M, eM, oM, hE, hZ⟩ := sM_goAfternoon hm1 hg1 (hlm.go om1 (by intro c h1 h2; simp <;> omega) (by decide)) ho hb
    have hv : vN (jput V 5 c (nI k)) 5 c = k := vN_put (by omega)
    obtain ⟨p, hp, ep⟩ := la_of ((qL_mem (s := k) hc9).mpr ⟨hc, hv⟩)
    have hbg := sX5_beginOf lW fW (qL_ok hc9) hc9 ho hb hp
    have hEp := ((hE k hk3).1 p hp).2.1
    rw [ep] at hbg hEp
    generalize bgn (dS (jput V 5 c (nI k)) lw k (qL (jput V 5 c (nI k)) ch k)) (qL (jput V 5 c (nI k)) ch k).length bell p = w at hbg hEp
    have oX : jOff (2 :: lnC) σx W := (o1.mono (by simp)).trans ((ff_mono hk3 oW).mono (fun c hc => List.mem_cons_of_mem _ hc))
    have oM2 : mOff [7, 18, 19, 20, 21, 22, 23, 24] [33, 34, 35, 36, 42] σm M := (om1.mono (by simp) (by simp)).trans (oM.mono (by simp) (by simp))
    have hrW : rLn W := hr1.off hk3 oW (fun i _ hi => five_ne hi) lW.1
    obtain ⟨fo', so', x', σx', σm', h1, h2, h3, h4, h5, h6, h7⟩ := ih (k + 1) f (if w < 0 then fo else if fo = -2 then nI k else if so ≤ w then fo else nI k) (if w < 0 then so else if fo = -2 then w else if so ≤ w then so else w) (nI k) W M (by omega) (by omega) (lnC_lo hx1 (ff_mono hk3 oW)) (hm1.off oM (by decide) (by decide)) (hlx.go oX (by simp [lnC]) (by simp [lnC])) (hlm.go oM2 (by intro c h1 h2; simp <;> omega) (by decide)) hrW (by
      by_cases a : w < 0
      · rw [if_pos a]; exact hfo
      · rw [if_neg a]
        by_cases b : fo = -2
        · rw [if_pos b]; exact Or.inr (nI_pos' (by omega))
        · rw [if_neg b]
          by_cases d : so ≤ w
          · rw [if_pos d]; exact hfo
          · rw [if_neg d]; exact Or.inr (nI_pos' (by omega)))
    refine ⟨fo', so', x', σx', σm', fun jx => ?_, fun jm => ?_, h3, h4, h5, oX.trans h6, oM2.trans h7⟩
    · rw [jloop_s, ← h1 jx, fX11_join_B62_eq]
      rw [if_neg k3]
      show (Option.bind (fX6_setAt σx (nI (jxp 5 c)) (nI k)) fun (q6 : jS) => _) = _
      rw [sX6_setAt _ hl, Option.bind_some]
      simp only [jaa_i hk3, eU, eW, hbg, Option.bind_some]
      unfold fX11_join_B62_J132 fX11_join_B62_J140
      simp only [nI_1]
      by_cases a : w < 0
      · simp only [a, if_true]
      · by_cases b : fo = -2
        · simp only [a, b, if_true, if_false]
        · by_cases d : so ≤ w
          · simp only [a, b, d, if_true, if_false]
          · simp only [a, b, d, if_false]
    · rw [jloop_s, ← h2 jm, fX12_join_B45_eq]
      rw [if_neg k3]
      show (ob (nI c) 9 (jst (ju σm 7 (nI c).toNatClampNeg (nI k)) fun (σ5 : jS) => _)) = _
      rw [ob_nI (by omega) (by omega), jst_e, nI_cl (by omega), eM, Option.bind_some]
      unfold fX12_join_B45_J92 fX12_join_B45_J104
      simp only [ob_nI (show c < 9 by omega) (show 9 < 2 ^ 31 by omega), nI_cl (show c < 2 ^ 31 by omega), hEp, nI_1]
      by_cases a : w < 0
      · simp only [a, if_true]
      · by_cases b : fo = -2
        · subst b
          simp only [a, if_true, if_false, show (-2 : Int32) < 0 by decide]
        · have b2 : ¬ fo < 0 := by
            rcases hfo with z | z
            · exact absurd z b
            · exact Int32.not_lt.mpr z
          by_cases d : so ≤ w
          · simp only [a, b, b2, d, Int32.not_lt.mpr d, if_true, if_false]
          · simp only [a, b, b2, d, Int32.not_le.mp d, if_true, if_false]
theorem eq_join {σx σm : jS} {ch : Nat} {V : Nat → Nat → Int32} {lw : jL} (h : rN σx σm ch V) (hlx : lX σx lw) (hlm : lM σm lw) (ho : lOk lw) (hr : rLn σx) (p1 p2 p3 : Int32) : ∃ r σx' σm', fX11_join σx p1 p2 p3 = some (r, σx') ∧ fX12_join σm p1 p2 p3 = some (r, σm') ∧ rN σx' σm' ch V ∧ rLn σx' ∧ jOff (2 :: lnC) σx σx' ∧ mOff [7, 18, 19, 20, 21, 22, 23, 24] [33, 34, 35, 36, 42] σm σm' := by
  obtain ⟨hx, hm, hg⟩ := id h
  have hc9 := hx.1
  rw [fX11_join_eq, fX12_join_eq]
  rw [sX11_isBell, sM_isBell, Option.bind_some, Option.bind_some]
  simp only [jb_jo]
  by_cases a : BL p1
  · rw [if_neg (fun (z : ¬ BL p1) => z a), if_neg (fun (z : ¬ BL p1) => z a), sX6_isChild hx, sM_isChild hm, Option.bind_some, Option.bind_some]
    simp only [jb_jo]
    by_cases b : isCh ch p2
    · rw [if_neg (fun (z : ¬ isCh ch p2) => z b), if_neg (fun (z : ¬ isCh ch p2) => z b), sM_in, Option.bind_some]
      simp only [jb_jo]
      have h2 : (1 : Int32).toInt = 1 := rfl
      have h0 : (0 : Int32).toInt = 0 := rfl
      simp only [i_lt (x := p3), i_le (x := p3), h2, h0]
      by_cases c : 0 ≤ p3.toInt ∧ p3.toInt ≤ 1
      · rw [if_neg (show ¬ p3.toInt < 0 by omega), if_pos c.2, if_neg (fun (z : ¬ (0 ≤ p3.toInt ∧ p3.toInt ≤ 1)) => z c)]
        obtain ⟨bell, b1, b2, rfl⟩ := BL_of a
        obtain ⟨c', hc, rfl⟩ := isCh_nat b
        have hkp := jk0 (w := 5) (by omega) hc
        have hl := jxp_lt hkp hc9
        have hx0 : nX σx ch (jput V 5 c' (V 5 c')) := by rw [jput_own]; exact hx
        have hm0 : nM σm ch (jput V 5 c' (V 5 c')) := by rw [jput_own]; exact hm
        obtain ⟨fo', so', x', X, M, f1, f2, n1, n2, n3, o1, o2⟩ := eq_joinL hg ho hc9 hc b2 3 0 jN (-2) (-2) (V 5 c') σx σm (by omega) (by have := jN_ge; omega) hx0 hm0 hlx hlm hr (Or.inl rfl)
        have r7 : σm.1 7 c' = V 5 c' := hm.2.2 5 c' hkp
        have f1' : ∀ jx, jloop (fX11_join_B62 (nI bell) (nI c') (nI (jxp 5 c')) jx) jN (σx, (-2 : Int32), (-2 : Int32), (0 : Int32)) = jx (X, fo', so') := f1
        have f2' : ∀ jm, jloop (fX12_join_B45 (nI bell) (nI c') jm) jN (σm, (-2 : Int32), (-2 : Int32), (0 : Int32)) = jm (M, fo', so') := f2
        have oF : jOff [2] X (ju X 2 (jxp 5 c') (V 5 c')) := jOff.u (by decide)
        refine ⟨if p3 = 0 then fo' else so', ju X 2 (jxp 5 c') (V 5 c'), ju M 7 c' (V 5 c'), ?_, ?_, ⟨?_, ?_, hg⟩, n3.all oF (by intro i hi; simp <;> omega), o1.trans (oF.mono (by simp)), o2.trans (mOff.u (by decide) (by decide))⟩
        · rw [show fX6_placeOf σx (nI c') (5 : Int32) = some (nI (jxp 5 c')) from sX6_placeOf hx hkp, Option.bind_some, sX6_valueAt _ hl, Option.bind_some, hx.2.2 5 c' hkp, f1']
          unfold fX11_join_J146
          rw [sX6_setAt _ hl, Option.bind_some]
          by_cases e : p3 = 0
          · rw [if_pos e, if_pos e]
          · rw [if_neg e, if_neg e]
        · rw [ob_nI (by omega) (by omega), f2']
          unfold fX12_join_J110
          rw [ob_nI (by omega) (by omega), jst_e, nI_cl (by omega), r7]
          by_cases e : p3 = 0
          · rw [if_pos e, if_pos e]
          · rw [if_neg e, if_neg e]
        · have := n1.put hkp (V 5 c')
          rwa [jput_2, jput_own] at this
        · have := sM_lay7 n2 hc (V 5 c')
          rwa [jput_2, jput_own] at this
      · rw [if_pos c]
        by_cases d : p3.toInt < 0
        · rw [if_pos d]
          exact ⟨_, _, _, rfl, rfl, h, hr, jOff.rf, mOff.rf⟩
        · rw [if_neg d, if_neg (by omega)]
          exact ⟨_, _, _, rfl, rfl, h, hr, jOff.rf, mOff.rf⟩
    · rw [if_pos b, if_pos b]
      exact ⟨_, _, _, rfl, rfl, h, hr, jOff.rf, mOff.rf⟩
  · rw [if_pos a, if_pos a]
    exact ⟨_, _, _, rfl, rfl, h, hr, jOff.rf, mOff.rf⟩
/-- all of a queue have been by the BELL -/
def allB (V : Nat → Nat → Int32) (ch : Nat) (lw : jL) (bell i : Nat) : Prop := ∀ p, p < (qL V ch i).length → p < rA (dS V lw i (qL V ch i)) (qL V ch i).length bell
theorem bgn_neg {d : Nat → Nat} {n bell p : Nat} (h : rT d n p < 2 ^ 31) : (bgn d n bell p < 0) = ¬ p < rA d n bell := by
  unfold bgn
  by_cases a : p < rA d n bell
  · rw [if_pos a]
    exact propext ⟨fun z => absurd z (nI_pos h), fun z => absurd a z⟩
  · rw [if_neg a]
    exact propext ⟨fun _ => a, fun _ => by decide⟩
theorem rT_le {d : Nat → Nat} {n m : Nat} (hd : ∀ p, d p ≤ m) (j : Nat) : rT d n j ≤ m * j := by
  induction j with
  | zero => exact Nat.le_refl _
  | succ j ih =>
    have := hd (j % n)
    show rT d n j + d (j % n) ≤ m * (j + 1)
    rw [Nat.mul_add, Nat.mul_one]
    omega
theorem sX5_allBegin {ch : Nat} {V : Nat → Nat → Int32} {lw : jL} {σ : jS} {i : Nat} (hL : lnX σ (17 + 5 * i) i (qL V ch i)) (hF : lnF σ (17 + 5 * i) V lw i (qL V ch i) (qL V ch i).length) (h9 : ch ≤ 9) (hO : lOk lw) {bell : Nat} (hb : bell ≤ 3600) : ∃ v, fX5_allBegin (17 + 5 * i) σ (nI bell) = some v ∧ (v = 0 ∨ v = 1) ∧ (v = 1 ↔ allB V ch lw bell i) := by
  have hl := qL_ok (V := V) (ch := ch) (s := i) h9
  have h9l := hl.2.2
  unfold fX5_allBegin
  rw [hL.2.1]
  by_cases a : (qL V ch i).length = 0
  · rw [if_pos (show nI (qL V ch i).length = 0 by rw [a]; rfl)]
    exact ⟨1, rfl, Or.inr rfl, ⟨fun _ p hp => absurd hp (by omega), fun _ => rfl⟩⟩
  · have hn : 0 < (qL V ch i).length := by omega
    have hd : ∀ p, p < (qL V ch i).length → 1 ≤ dS V lw i (qL V ch i) p := fun p _ => (tSec_b hO V _ _ _ _).1
    have hd2 : ∀ p, dS V lw i (qL V ch i) p ≤ 1200 := fun p => (tSec_b hO V _ _ _ _).2
    have hlt := rT_le (n := (qL V ch i).length) hd2 ((qL V ch i).length - 1)
    rw [if_neg (nI_ne0 hn (by omega)), show nI (qL V ch i).length - (1 : Int32) = nI ((qL V ch i).length - 1) from pk_sub (a := (qL V ch i).length) (b := 1) (by omega), ob_nI (by omega) (by omega), nI_cl (by omega), hL.2.2 _ (show (qL V ch i).length - 1 < (qL V ch i).length by omega), sX5_beginOf hL hF hl h9 hO hb (show (qL V ch i).length - 1 < (qL V ch i).length by omega), Option.bind_some]
    simp only [bgn_neg (show rT (dS V lw i (qL V ch i)) (qL V ch i).length ((qL V ch i).length - 1) < 2 ^ 31 by omega)]
    by_cases b : (qL V ch i).length - 1 < rA (dS V lw i (qL V ch i)) (qL V ch i).length bell
    · rw [if_neg (fun z => z b)]
      exact ⟨1, rfl, Or.inr rfl, ⟨fun _ p hp => by omega, fun _ => rfl⟩⟩
    · rw [if_pos b]
      exact ⟨0, rfl, Or.inl rfl, ⟨fun z => absurd z (by decide), fun z => absurd (z _ (show (qL V ch i).length - 1 < (qL V ch i).length by omega)) b⟩⟩
theorem sX_eachL {ch : Nat} {V : Nat → Nat → Int32} {lw : jL} {bell : Nat} (hg : nG ch V) (hO : lOk lw) (hb : bell ≤ 3600) : ∀ (n k f : Nat) (σ : jS) (u : Int32), k + n = 3 → n < f → nX σ ch V → lX σ lw → rLn σ → (u = 0 ∨ u = 1) → ∃ v σ', (∀ j116, jloop (fX11_each_B66 (nI bell) j116) f (σ, u, nI k) = j116 (σ', v)) ∧ (v = 0 ∨ v = 1) ∧ (v = 1 ↔ u = 1 ∧ ∀ i, k ≤ i → i < 3 → allB V ch lw bell i) ∧ jOff lnC σ σ' ∧ rLn σ' := by
  intro n
  induction n with
  | zero =>
    intro k f σ u hk hf hx hlx hr hu
    obtain ⟨f, rfl⟩ : ∃ g, f = g + 1 := ⟨f - 1, by omega⟩
    obtain rfl : k = 3 := by omega
    refine ⟨u, σ, fun j => ?_, hu, ⟨fun z => ⟨z, fun i h1 h2 => absurd h2 (by omega)⟩, fun z => z.1⟩, jOff.rf, hr⟩
    rw [jloop_s]
    unfold fX11_each_B66
    rw [if_pos (show (3 : Int32) ≤ nI 3 by decide)]
  | succ n ih =>
    intro k f σ u hk hf hx hlx hr hu
    obtain ⟨f, rfl⟩ : ∃ g, f = g + 1 := ⟨f - 1, by omega⟩
    have hc9 := hx.1
    have hk3 : k < 3 := by omega
    have k3 : ¬ (3 : Int32) ≤ nI k := by rw [show (3 : Int32) = nI 3 from rfl, nI_leI (by omega) (by omega)]; omega
    rcases hu with rfl | rfl
    · refine ⟨0, σ, fun j => ?_, Or.inl rfl, ⟨fun z => absurd z (by decide), fun z => absurd z.1 (by decide)⟩, jOff.rf, hr⟩
      rw [jloop_s]
      unfold fX11_each_B66
      rw [if_neg k3]
      exact if_pos rfl
    · obtain ⟨U, W, eU, eW, oW, lW, fW, zW⟩ := sX_ff hk3 hx hg hlx hO hr
      obtain ⟨a, ea, ha, ha1⟩ := sX5_allBegin lW fW hc9 hO hb
      have hrW : rLn W := hr.off hk3 oW (fun i _ hi => five_ne hi) lW.1
      have oW' := ff_mono hk3 oW
      have hja : jb a = a := by rcases ha with rfl | rfl <;> rfl
      obtain ⟨v, σ', h1, h2, h3, h4, h5⟩ := ih (k + 1) f W a (by omega) (by omega) (lnC_lo hx oW') (lXo hlx oW') hrW ha
      refine ⟨v, σ', fun j => ?_, h2, ?_, oW'.trans h4, h5⟩
      · rw [jloop_s, ← h1 j]
        unfold fX11_each_B66
        rw [if_neg k3, if_neg (show ¬ (1 : Int32) = 0 by decide)]
        show (jaa (nI k) fun (o6 : Nat) => (Option.bind (fX5_form o6 σ) fun (q7 : jS) => (jaa (nI k) fun (o8 : Nat) => (Option.bind (fX5_foresee o8 q7) fun (q9 : jS) => (jaa (nI k) fun (o10 : Nat) => (Option.bind (fX5_allBegin o10 q9 (nI bell)) fun (q11 : Int32) => (jloop (fX11_each_B66 (nI bell) j) f (q9, (jb q11), (nI k + (1 : Int32)))))))))) = _
        rw [jaa_i hk3, eU, Option.bind_some, jaa_i hk3, eW, Option.bind_some, jaa_i hk3, ea, Option.bind_some, hja, nI_1]
        rfl
      · rw [h3, ha1]
        constructor
        · rintro ⟨z1, z2⟩
          refine ⟨rfl, fun i h1 h2 => ?_⟩
          by_cases b : i = k
          · rw [b]; exact z1
          · exact z2 i (by omega) h2
        · rintro ⟨-, z⟩
          exact ⟨z k (Nat.le_refl _) hk3, fun i h1 h2 => z i (by omega) h2⟩
theorem sM_haveL {ch : Nat} {V : Nat → Nat → Int32} {M : jS} (hm : nM M ch V) (hg : nG ch V) : ∀ (n k f : Nat), k + n = ch → n < f → ∃ v, jloop (fX12_haveAll_B7 M) f (nI k) = some (v, M) ∧ (v = 0 ∨ v = 1) ∧ (v = 1 ↔ ∀ c, k ≤ c → c < ch → vN V 5 c < 3 → M.1 20 c ≠ 0) := by
  have hc9 := hm.1
  intro n
  induction n with
  | zero =>
    intro k f hk hf
    obtain ⟨f, rfl⟩ : ∃ g, f = g + 1 := ⟨f - 1, by omega⟩
    obtain rfl : k = ch := by omega
    refine ⟨1, ?_, Or.inr rfl, ⟨fun _ c h1 h2 => absurd h2 (by omega), fun _ => rfl⟩⟩
    rw [jloop_s]
    unfold fX12_haveAll_B7
    rw [if_pos (show M.1 0 2 ≤ nI k by rw [hm.2.1]; exact Int32.le_refl _)]
  | succ n ih =>
    intro k f hk hf
    obtain ⟨f, rfl⟩ : ∃ g, f = g + 1 := ⟨f - 1, by omega⟩
    have hkc : k < ch := by omega
    have v5 := (vN_eq hg (jk0 (w := 5) (by omega) hkc)).2
    have b5 : jhi 5 = 3 := rfl
    have r5 : M.1 7 k = nI (vN V 5 k) := sM_v hm hg (w := 5) (jk0 (by omega) hkc)
    obtain ⟨v, h1, h2, h3⟩ := ih (k + 1) f (by omega) (by omega)
    have e0 : ¬ M.1 0 2 ≤ nI k := by rw [hm.2.1, nI_leI (by omega) (by omega)]; omega
    have e3 : ((3 : Int32) ≤ nI (vN V 5 k)) = (3 ≤ vN V 5 k) := propext (nI_leI (a := 3) (b := vN V 5 k) (by omega) (by omega))
    have body : jloop (fX12_haveAll_B7 M) (f + 1) (nI k) = (if 3 ≤ vN V 5 k then jloop (fX12_haveAll_B7 M) f (nI (k + 1)) else if M.1 20 k = 0 then some ((0 : Int32), M) else jloop (fX12_haveAll_B7 M) f (nI (k + 1))) := by
      rw [jloop_s, fX12_haveAll_B7_eq]
      rw [if_neg e0, ob_nI (by omega) (by omega), nI_cl (by omega), r5, ob_nI (by omega) (by omega)]
      unfold fX12_haveAll_B7_J36
      rw [nI_1]
      simp only [e3]
    rw [body]
    by_cases a : 3 ≤ vN V 5 k
    · rw [if_pos a]
      refine ⟨v, h1, h2, h3.trans ⟨fun z c g1 g2 g3 => z c (by by_cases e : c = k; (rw [e] at g3; omega); omega) g2 g3, fun z c g1 g2 g3 => z c (by omega) g2 g3⟩⟩
    · rw [if_neg a]
      by_cases b : M.1 20 k = 0
      · rw [if_pos b]
        exact ⟨0, rfl, Or.inl rfl, ⟨fun z => absurd z (by decide), fun z => absurd b (z k (Nat.le_refl _) hkc (by omega))⟩⟩
      · rw [if_neg b]
        refine ⟨v, h1, h2, h3.trans ⟨fun z c g1 g2 g3 => ?_, fun z c g1 g2 g3 => z c (by omega) g2 g3⟩⟩
        by_cases e : c = k
        · rw [e]; exact b
        · exact z c (by omega) g2 g3
theorem sM_haveAll {ch : Nat} {V : Nat → Nat → Int32} {lw : jL} {bell : Nat} {σ : jS} (hm : nM σ ch V) (hg : nG ch V) (hlm : lM σ lw) (hO : lOk lw) (hb : bell ≤ 3600) : ∃ v σ', fX12_haveAll σ (nI bell) = some (v, σ') ∧ (v = 0 ∨ v = 1) ∧ (v = 1 ↔ ∀ i, i < 3 → allB V ch lw bell i) ∧ mOff [18, 19, 20, 21, 22, 23, 24] [33, 34, 35, 36, 42] σ σ' := by
  have hc9 := hm.1
  obtain ⟨M, eM, oM, hE, hZ⟩ := sM_goAfternoon hm hg hlm hO hb
  have hmM : nM M ch V := hm.off oM (by decide) (by decide)
  unfold fX12_haveAll
  rw [eM, Option.bind_some]
  obtain ⟨v, h1, h2, h3⟩ := sM_haveL hmM hg ch 0 jN (by omega) (by have := jN_ge; omega)
  refine ⟨v, M, h1, h2, h3.trans ?_, oM⟩
  have key : ∀ i p, i < 3 → p < (qL V ch i).length → (M.1 20 (la (qL V ch i) p) ≠ 0 ↔ p < rA (dS V lw i (qL V ch i)) (qL V ch i).length bell) := by
    intro i p hi hp
    have hd : ∀ p, p < (qL V ch i).length → 1 ≤ dS V lw i (qL V ch i) p := fun p _ => (tSec_b hO V _ _ _ _).1
    have hb2 := rA_b (d := dS V lw i (qL V ch i)) (show 0 < (qL V ch i).length by omega) hd hb
    have hle := rO_le (n := (qL V ch i).length) (p := p) (rA (dS V lw i (qL V ch i)) (qL V ch i).length bell)
    have h0 := rO_0 hp (rA (dS V lw i (qL V ch i)) (qL V ch i).length bell)
    rw [((hE i hi).1 p hp).1]
    have e : (nI (rO (qL V ch i).length p (rA (dS V lw i (qL V ch i)) (qL V ch i).length bell)) = 0) ↔ rO (qL V ch i).length p (rA (dS V lw i (qL V ch i)) (qL V ch i).length bell) = 0 := nI_eq (a := rO (qL V ch i).length p (rA (dS V lw i (qL V ch i)) (qL V ch i).length bell)) (b := 0) (by omega) (by omega)
    rw [ne_eq, e, h0]
    omega
  constructor
  · intro z i hi p hp
    have hmem := (qL_mem (V := V) hc9).mp (la_mem hp)
    exact (key i p hi hp).mp (z _ (Nat.zero_le _) hmem.1 (by omega))
  · intro z c _ hc h5
    obtain ⟨p, hp, ep⟩ := la_of ((qL_mem hc9).mpr ⟨hc, (rfl : vN V 5 c = vN V 5 c)⟩)
    have := (key _ p h5 hp).mpr (z _ h5 p hp)
    rw [ep] at this
    exact this
