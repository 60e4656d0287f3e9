/-! each, trade of both sides -/
theorem eq_eachL {ch : Nat} {V : Nat → Nat → Int32} {lw : jL} {bell : Nat} {σ0 : jS} (hg : nG ch V) (hO : lOk lw) (hc9 : ch ≤ 9) (hb : bell ≤ 3600) (h0 : σ0.1 0 10 = V 8 0) : ∀ (n f : Nat) (x : Int32) (σx σm : jS), n ≤ 30 → n + 2 < f → nX σx ch (jput V 8 0 x) → nM σm ch (jput V 8 0 (nI n)) → lX σx lw → lM σm lw → rLn σx → ∃ v x' σx' σm', (∀ jx, jloop (fX11_each_B37 (nI bell) (nI (jxp 8 0)) jx) f (σx, -2, nI n) = jx (σx', v)) ∧ jloop (fX12_each_B23 σ0 (nI bell)) f (σm, -2) = some (v, σm') ∧ nX σx' ch (jput V 8 0 x') ∧ nM σm' ch V ∧ rLn σx' ∧ jOff (2 :: lnC) σx σx' ∧ mOff [18, 19, 20, 21, 22, 23, 24] [10, 33, 34, 35, 36, 42] σm σm' := by
  have stopX : ∀ (g : Nat) (σ : jS) (v : Int32) (p : Nat) (jx : jS × Int32 → Option (Int32 × jS)), 0 ≤ v → p < 31 → jloop (fX11_each_B37 (nI bell) (nI (jxp 8 0)) jx) (g + 1) (σ, v, nI p) = jx (σ, v) := by
    intro g σ v p jx hv hp
    rw [jloop_s, fX11_each_B37_eq]
    by_cases a : nI p < (1 : Int32)
    · rw [if_pos a]
    · rw [if_neg a, if_neg (show ¬ v = -2 from fun z => by rw [z] at hv; exact absurd hv (by decide))]
  have stopM : ∀ (g : Nat) (σ : jS) (v : Int32) (y : Int32), 0 ≤ v → nM σ ch (jput V 8 0 y) → ∃ σ', jloop (fX12_each_B23 σ0 (nI bell)) (g + 1) (σ, v) = some (v, σ') ∧ nM σ' ch V ∧ mOff [] [10] σ σ' := by
    intro g σ v y hv hm
    refine ⟨ju σ 0 10 (V 8 0), ?_, ?_, mOff.f (by decide)⟩
    · rw [jloop_s, fX12_each_B23_eq]
      by_cases a : σ.1 0 10 < (1 : Int32)
      · rw [if_pos a, jst_e, h0]
      · rw [if_neg a, if_pos hv, jst_e, h0]
    · have := sM_lay10 hm (V 8 0)
      rwa [jput_2, jput_own] at this
  intro n
  induction n with
  | zero =>
    intro f x σx σm hn hf hx hm hlx hlm hr
    obtain ⟨f, rfl⟩ : ∃ g, f = g + 1 := ⟨f - 1, by omega⟩
    have e10 : σm.1 0 10 = nI 0 := hm.2.2 8 0 (jk7 (by omega) (by omega))
    refine ⟨-2, x, σx, ju σm 0 10 (V 8 0), fun jx => ?_, ?_, hx, ?_, hr, jOff.rf, mOff.f (by decide)⟩
    · rw [jloop_s, fX11_each_B37_eq]
      rw [if_pos (show nI 0 < (1 : Int32) by decide)]
    · rw [jloop_s, fX12_each_B23_eq]
      rw [if_pos (show σm.1 0 10 < (1 : Int32) by rw [e10]; decide), jst_e, h0]
    · have := sM_lay10 hm (V 8 0)
      rwa [jput_2, jput_own] at this
  | succ n ih =>
    intro f x σx σm hn hf hx hm hlx hlm hr
    obtain ⟨f, rfl⟩ : ∃ g, f = g + 1 + 1 := ⟨f - 2, by omega⟩
    have hk8 : jok ch 8 0 := jk7 (by omega) (by omega)
    have hl := jxp_lt hk8 hc9
    have e10 : σm.1 0 10 = nI (n + 1) := hm.2.2 8 0 hk8
    have hx1 : nX (ju σx 2 (jxp 8 0) (nI (n + 1))) ch (jput V 8 0 (nI (n + 1))) := by
      have := hx.put hk8 (nI (n + 1))
      rwa [jput_2] at this
    have hg1 : nG ch (jput V 8 0 (nI (n + 1))) := hg.put (good8 (by omega) (by omega))
    have o1 : jOff [2] σx (ju σx 2 (jxp 8 0) (nI (n + 1))) := jOff.u (by decide)
    obtain ⟨v, W, h1, h2, h3, oW, rW⟩ := sX_eachL hg1 hO hb 3 0 jN (ju σx 2 (jxp 8 0) (nI (n + 1))) 1 (by omega) (by have := jN_ge; omega) hx1 (hlx.go o1 (by decide) (by decide)) (hr.all o1 (by intro i hi; simp <;> omega)) (Or.inr rfl)
    have h1' : ∀ j116, jloop (fX11_each_B66 (nI bell) j116) jN (ju σx 2 (jxp 8 0) (nI (n + 1)), (1 : Int32), (0 : Int32)) = j116 (W, v) := h1
    obtain ⟨u, M, eM, g2, g3, oM⟩ := sM_haveAll hm hg1 hlm hO hb
    have huv : u = v := by
      have hiff : u = 1 ↔ v = 1 := by
        rw [g3, h3]
        exact ⟨fun z => ⟨rfl, fun i _ hi => z i hi⟩, fun z i hi => z.2 i (Nat.zero_le _) hi⟩
      rcases g2 with a | a <;> rcases h2 with b | b
      · rw [a, b]
      · exact absurd (hiff.mpr b) (by rw [a]; decide)
      · exact absurd (hiff.mp a) (by rw [b]; decide)
      · rw [a, b]
    subst huv
    have oX : jOff (2 :: lnC) σx W := (o1.mono (by simp)).trans (oW.mono (fun c hc => List.mem_cons_of_mem _ hc))
    have hmM : nM M ch (jput V 8 0 (nI (n + 1))) := hm.off oM (by decide) (by decide)
    have m10 : M.1 0 10 = nI (n + 1) := hmM.2.2 8 0 hk8
    have om1 : mOff [] [10] M (ju M 0 10 (nI n)) := mOff.f (by decide)
    have hm2 : nM (ju M 0 10 (nI n)) ch (jput V 8 0 (nI n)) := by
      have := sM_lay10 hmM (nI n)
      rwa [jput_2] at this
    have oM2 : mOff [18, 19, 20, 21, 22, 23, 24] [10, 33, 34, 35, 36, 42] σm (ju M 0 10 (nI n)) := (oM.mono (by simp) (by simp)).trans (om1.mono (by simp) (by simp))
    have bodyX : ∀ jx, jloop (fX11_each_B37 (nI bell) (nI (jxp 8 0)) jx) (f + 1 + 1) (σx, -2, nI (n + 1)) = jloop (fX11_each_B37 (nI bell) (nI (jxp 8 0)) jx) (f + 1) (W, (if u = 0 then (-2 : Int32) else nI (n + 1)), nI n) := by
      intro jx
      rw [jloop_s, fX11_each_B37_eq]
      rw [if_neg (show ¬ nI (n + 1) < (1 : Int32) from fun z => by have := (nI_ltI (a := n + 1) (b := 1) (by omega) (by omega)).mp z; omega), if_pos rfl]
      show (Option.bind (fX6_setAt σx (nI (jxp 8 0)) (nI (n + 1))) fun (q5 : jS) => _) = _
      rw [sX6_setAt _ hl, Option.bind_some, h1']
      unfold fX11_each_B37_J116 fX11_each_B37_J128
      show (if u = 0 then _ else _) = _
      by_cases a : u = 0
      · rw [if_pos a, if_pos a]
        show jloop _ _ (W, (-2 : Int32), nI (n + 1) + (-1 : Int32)) = _
        rw [pk_m1]
      · rw [if_neg a, if_neg a]
        show jloop _ _ (W, nI (n + 1), nI (n + 1) + (-1 : Int32)) = _
        rw [pk_m1]
    have bodyM : jloop (fX12_each_B23 σ0 (nI bell)) (f + 1 + 1) (σm, -2) = jloop (fX12_each_B23 σ0 (nI bell)) (f + 1) (ju M 0 10 (nI n), (if u = 0 then (-2 : Int32) else nI (n + 1))) := by
      rw [jloop_s, fX12_each_B23_eq]
      rw [if_neg (show ¬ σm.1 0 10 < (1 : Int32) from fun z => by rw [e10] at z; have := (nI_ltI (a := n + 1) (b := 1) (by omega) (by omega)).mp z; omega), if_neg (show ¬ (0 : Int32) ≤ -2 by decide)]
      show (Option.bind (fX12_haveAll σm (nI bell)) fun (q5 : (Int32 × jS)) => _) = _
      rw [eM, Option.bind_some]
      unfold fX12_each_B23_J48
      have hjb : jb u = u := by rcases g2 with z | z <;> rw [z] <;> rfl
      show (if jb u = 0 then (jst (ju M 0 10 (M.1 0 10 - (1 : Int32))) fun (σ6 : jS) => jloop (fX12_each_B23 σ0 (nI bell)) (f + 1) (σ6, (-2 : Int32))) else (jst (ju M 0 10 (M.1 0 10 - (1 : Int32))) fun (σ6 : jS) => jloop (fX12_each_B23 σ0 (nI bell)) (f + 1) (σ6, M.1 0 10))) = _
      rw [hjb, jst_e, jst_e, m10, nI_pred]
      by_cases a : u = 0
      · rw [if_pos a, if_pos a]
      · rw [if_neg a, if_neg a]
    have hxW : nX W ch (jput V 8 0 (nI (n + 1))) := lnC_lo hx1 oW
    by_cases a : u = 0
    · rw [bodyM, if_pos a]
      obtain ⟨v, x', σx', σm', q1, q2, q3, q4, q5, q6, q7⟩ := ih (f + 1) (nI (n + 1)) W (ju M 0 10 (nI n)) (by omega) (by omega) hxW hm2 (hlx.go oX (by simp [lnC]) (by simp [lnC])) (hlm.go oM2 (by intro c h1 h2; simp <;> omega) (by decide)) rW
      refine ⟨v, x', σx', σm', fun jx => ?_, q2, q3, q4, q5, oX.trans q6, oM2.trans q7⟩
      rw [bodyX, if_pos a]
      exact q1 jx
    · rw [bodyM, if_neg a]
      obtain ⟨σm', s1, s2, s3⟩ := stopM f (ju M 0 10 (nI n)) (nI (n + 1)) (nI n) (nI_pos' (by omega)) hm2
      refine ⟨nI (n + 1), nI (n + 1), W, σm', fun jx => ?_, s1, hxW, s2, rW, oX, oM2.trans (s3.mono (by simp) (by simp))⟩
      rw [bodyX, if_neg a]
      exact stopX f W _ n jx (nI_pos' (by omega)) (by omega)
theorem eq_each {σx σm : jS} {ch : Nat} {V : Nat → Nat → Int32} {lw : jL} (h : rN σx σm ch V) (hlx : lX σx lw) (hlm : lM σm lw) (ho : lOk lw) (hr : rLn σx) (p1 : Int32) : ∃ r σx' σm', fX11_each σx p1 = some (r, σx') ∧ fX12_each σm p1 = some (r, σm') ∧ rN σx' σm' ch V ∧ rLn σx' ∧ jOff (2 :: lnC) σx σx' ∧ mOff [18, 19, 20, 21, 22, 23, 24] [10, 33, 34, 35, 36, 42] σm σm' := by
  obtain ⟨hx, hm, hg⟩ := id h
  have hc9 := hx.1
  rw [fX11_each_eq]
  unfold fX12_each
  rw [sX11_isBell, sM_isBell, Option.bind_some, Option.bind_some]
  simp only [jb_jo]
  by_cases a : BL p1
  · rw [if_neg (fun (z : ¬ BL p1) => z a), if_neg (fun (z : ¬ BL p1) => z a)]
    obtain ⟨bell, b1, b2, rfl⟩ := BL_of a
    have hk8 : jok ch 8 0 := jk7 (by omega) (by omega)
    have hl := jxp_lt hk8 hc9
    have hx0 : nX σx ch (jput V 8 0 (V 8 0)) := by rw [jput_own]; exact hx
    have hm1 : nM (ju σm 0 10 (nI 30)) ch (jput V 8 0 (nI 30)) := sM_lay10 hm (nI 30)
    have om1 : mOff [] [10] σm (ju σm 0 10 (nI 30)) := mOff.f (by decide)
    have r10 : σm.1 0 10 = V 8 0 := hm.2.2 8 0 hk8
    obtain ⟨v, x', X, M, f1, f2, n1, n2, n3, o1, o2⟩ := eq_eachL (σ0 := σm) hg ho hc9 b2 r10 30 jN (V 8 0) σx (ju σm 0 10 (nI 30)) (by omega) (by have := jN_ge; omega) hx0 hm1 hlx (hlm.go om1 (by intro c h1 h2; simp) (by decide)) hr
    have f1' : ∀ jx, jloop (fX11_each_B37 (nI bell) (nI (jxp 8 0)) jx) jN (σx, (-2 : Int32), (30 : Int32)) = jx (X, v) := f1
    have oF : jOff [2] X (ju X 2 (jxp 8 0) (V 8 0)) := jOff.u (by decide)
    refine ⟨v, ju X 2 (jxp 8 0) (V 8 0), M, ?_, ?_, ⟨?_, n2, hg⟩, n3.all oF (by intro i hi; simp <;> omega), o1.trans (oF.mono (by simp)), (om1.mono (by simp) (by simp)).trans o2⟩
    · rw [show fX6_placeOf σx (0 : Int32) (8 : Int32) = some (nI (jxp 8 0)) from sX6_placeOf hx hk8, Option.bind_some, sX6_valueAt _ hl, Option.bind_some, hx.2.2 8 0 hk8, f1']
      unfold fX11_each_J136
      rw [sX6_setAt _ hl, Option.bind_some]
    · rw [jst_e]
      exact f2
    · have := n1.put hk8 (V 8 0)
      rwa [jput_2, jput_own] at this
  · rw [if_pos a, if_pos a]
    exact ⟨_, _, _, rfl, rfl, h, hr, jOff.rf, mOff.rf⟩
/-! two change places -/
def sw2 (a b c : Nat) : Nat := if c = a then b else if c = b then a else c
def swL (a b : Nat) (l : List Nat) : List Nat := l.map (sw2 a b)
theorem sw2_inj {a b x y : Nat} (h : sw2 a b x = sw2 a b y) : x = y := by
  unfold sw2 at h
  by_cases h1 : x = a <;> by_cases h2 : x = b <;> by_cases h3 : y = a <;> by_cases h4 : y = b <;> simp only [h1, h2, h3, h4, if_true, if_false] at h <;> first | omega | (simp at h; omega) | (split at h <;> omega)
theorem la_sw {a b : Nat} {l : List Nat} {k : Nat} (hk : k < l.length) : la (swL a b l) k = sw2 a b (la l k) := by
  unfold la swL
  rw [List.getElem?_map, List.getElem?_eq_getElem hk]
  rfl
theorem swL_len {a b : Nat} {l : List Nat} : (swL a b l).length = l.length := List.length_map _
theorem swL_ok {ch a b : Nat} {l : List Nat} (h : qOk ch l) (ha : a < ch) (hb : b < ch) : qOk ch (swL a b l) := by
  refine ⟨?_, fun c hc => ?_, by rw [swL_len]; exact h.2.2⟩
  · unfold swL
    exact List.pairwise_map.mpr (List.Pairwise.imp (fun hne z => hne (sw2_inj z)) h.1)
  · unfold swL at hc
    obtain ⟨x, hx, rfl⟩ := List.mem_map.mp hc
    have := h.2.1 x hx
    unfold sw2
    split
    · exact hb
    · split
      · exact ha
      · exact this
