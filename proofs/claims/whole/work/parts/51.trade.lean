theorem sX5_swap {ch : Nat} {σ : jS} {o s : Nat} {l : List Nat} (hL : lnX σ o s l) (hl : qOk ch l) (h9 : ch ≤ 9) {pa pb : Nat} (ha : pa < l.length) (hb : pb < l.length) : ∃ σ', fX5_swap o σ (nI (la l pa)) (nI (la l pb)) = some σ' ∧ jOff [o + 1] σ σ' ∧ lnX σ' o s (swL (la l pa) (la l pb) l) := by
  have h9l := hl.2.2
  unfold fX5_swap
  rw [sX5_placeOf hL hl h9 ha, Option.bind_some, sX5_placeOf hL hl h9 hb, Option.bind_some, if_neg (nI_pos (by omega)), if_neg (nI_pos (by omega)), ob_nI (by omega) (by omega), jst_e, ob_nI (by omega) (by omega), jst_e, nI_cl (by omega), nI_cl (by omega)]
  refine ⟨_, rfl, (jOff.u (by simp)).uT (by simp), ?_, ?_, fun k hk => ?_⟩
  · rw [ju_n (by omega), ju_n (by omega), hL.1]
  · rw [ju_n (by omega), ju_n (by omega), hL.2.1, swL_len]
  · rw [swL_len] at hk
    rw [ju_r, ju_r, la_sw hk]
    unfold sw2
    by_cases a : k = pb
    · rw [if_pos a, a]
      by_cases b : la l pb = la l pa
      · rw [if_pos b, b]
      · rw [if_neg b, if_pos rfl]
    · rw [if_neg a]
      by_cases b : k = pa
      · rw [if_pos b, b, if_pos rfl]
      · rw [if_neg b, hL.2.2 k hk, if_neg (fun z => b (la_inj hl.1 hk ha z)), if_neg (fun z => a (la_inj hl.1 hk hb z))]
theorem sM_swapL {a b n : Nat} {f : Nat → Nat} {p2 : Int32} (e1 : p2 / (10 : Int32) = nI a) (e2 : p2 - p2 / (10 : Int32) * (10 : Int32) = nI b) (hn : n ≤ 9) (ha : a < 9) (hb : b < 9) (hf9 : ∀ k, k < n → f k < 9) : ∀ (m k g : Nat) (σ : jS), k + m = n → m < g → σ.1 0 42 = nI n → (∀ i, i < n → σ.1 24 i = nI (if i < k then sw2 a b (f i) else f i)) → ∃ σ', (∀ j175, jloop (fX12_trade_B114 p2 j175) g (σ, nI k) = j175 σ') ∧ mOff [24] [] σ σ' ∧ mLn σ' n (fun i => sw2 a b (f i)) := by
  intro m
  induction m with
  | zero =>
    intro k g σ hk hg h42 hq
    obtain ⟨g, rfl⟩ : ∃ g', g = g' + 1 := ⟨g - 1, by omega⟩
    obtain rfl : k = n := by omega
    refine ⟨σ, fun j => ?_, mOff.rf, h42, fun i hi => ?_⟩
    · rw [jloop_s, fX12_trade_B114_eq]
      rw [if_pos (show σ.1 0 42 ≤ nI k by rw [h42]; exact Int32.le_refl _)]
    · rw [hq i hi, if_pos hi]
  | succ m ih =>
    intro k g σ hk hg h42 hq
    obtain ⟨g, rfl⟩ : ∃ g', g = g' + 1 := ⟨g - 1, by omega⟩
    have hkn : k < n := by omega
    have hfk := hf9 k hkn
    have r : σ.1 24 k = nI (f k) := by rw [hq k hkn, if_neg (by omega)]
    obtain ⟨σ', h1, h2, h3⟩ := ih (k + 1) g (ju σ 24 k (nI (sw2 a b (f k)))) (by omega) (by omega) (by rw [ju_n (by decide), h42]) (by
      intro i hi
      rw [ju_r]
      by_cases c : i = k
      · rw [if_pos c, if_pos (by omega), c]
      · rw [if_neg c, hq i hi]
        by_cases d : i < k
        · rw [if_pos d, if_pos (by omega)]
        · rw [if_neg d, if_neg (by omega)])
    refine ⟨σ', fun j => ?_, (mOff.u (by decide) (by decide)).trans h2, h3⟩
    rw [jloop_s, ← h1 j, fX12_trade_B114_eq]
    rw [if_neg (show ¬ σ.1 0 42 ≤ nI k by rw [h42, nI_leI (by omega) (by omega)]; omega)]
    unfold fX12_trade_B114_J168
    rw [e2, e1]
    have ea : (nI (f k) = nI a) = (f k = a) := propext (nI_eq (by omega) (by omega))
    have eb : (nI (f k) = nI b) = (f k = b) := propext (nI_eq (by omega) (by omega))
    simp only [ob_nI (show k < 9 by omega) (show 9 < 2 ^ 31 by omega), nI_cl (show k < 2 ^ 31 by omega), r, jst_e, nI_1, ea, eb]
    unfold sw2
    by_cases c : f k = a
    · simp only [c, if_true]
    · by_cases d : f k = b
      · have d2 : ¬ b = a := fun z => c (by rw [d]; exact z)
        simp only [d, d2, if_true, if_false]
      · simp only [c, d, if_false]
theorem bgn_hi {d : Nat → Nat} {n bell p : Nat} (h : rT d n p < 2 ^ 31) : (0 ≤ bgn d n bell p) = (p < rA d n bell) := by
  have e := bgn_neg (bell := bell) h
  have e2 : (0 ≤ bgn d n bell p) = ¬ (bgn d n bell p < 0) := propext Int32.not_lt.symm
  rw [e2, e]
  exact propext Decidable.not_not
theorem eq_trade {σx σm : jS} {ch : Nat} {V : Nat → Nat → Int32} {lw : jL} (h : rN σx σm ch V) (hlx : lX σx lw) (hlm : lM σm lw) (ho : lOk lw) (hr : rLn σx) (p1 p2 : Int32) : ∃ r σx' σm', fX11_trade σx p1 p2 = some (r, σx') ∧ fX12_trade σm p1 p2 = some (r, σm') ∧ rLn σx' ∧ jOff lnC σx σx' ∧ mOff [18, 19, 20, 21, 22, 23, 24] [33, 34, 35, 36, 42] σm σm' := by
  obtain ⟨hx, hm, hg⟩ := id h
  have hc9 := hx.1
  unfold fX11_trade
  rw [fX12_trade_eq, sX11_isBell, sM_isBell, Option.bind_some, Option.bind_some]
  simp only [jb_jo]
  by_cases hB : BL p1
  · rw [if_neg (fun (z : ¬ BL p1) => z hB), if_neg (fun (z : ¬ BL p1) => z hB)]
    by_cases hp : p2 < 0
    · rw [if_pos hp, if_pos hp]
      exact ⟨_, _, _, rfl, rfl, hr, jOff.rf, mOff.rf⟩
    · rw [if_neg hp, if_neg hp]
      obtain ⟨n, hn, rfl⟩ := nI_of hp
      obtain ⟨bell, b1, b2, rfl⟩ := BL_of hB
      rw [rm10 hn, dv10 hn]
      have hn10 : n % 10 < 2 ^ 31 := by omega
      have hd10 : n / 10 < 2 ^ 31 := by omega
      have eab : (nI (n / 10) = nI (n % 10)) = (n / 10 = n % 10) := propext (nI_eq hd10 hn10)
      have e1 : nI n / (10 : Int32) = nI (n / 10) := dv10 hn
      have e2 : nI n - nI n / (10 : Int32) * (10 : Int32) = nI (n % 10) := rm10 hn
      unfold fX12_trade_J175
      simp only [e1, eab]
      generalize n / 10 = a at *
      generalize n % 10 = b at *
      rw [sX6_isChild hx, sX6_isChild hx, sM_isChild hm, sM_isChild hm]
      simp only [Option.bind_some, jb_jo, isCh_n hd10, isCh_n hn10]
      by_cases hab : a = b
      · rw [if_pos hab]
        by_cases ca : a < ch
        · rw [if_neg (fun z => z ca), if_neg (fun z => z (hab ▸ ca)), if_pos hab]
          exact ⟨_, _, _, rfl, rfl, hr, jOff.rf, mOff.rf⟩
        · rw [if_pos ca]
          exact ⟨_, _, _, rfl, rfl, hr, jOff.rf, mOff.rf⟩
      · rw [if_neg hab]
        by_cases ca : a < ch
        · rw [if_neg (fun (z : ¬ a < ch) => z ca), if_neg (fun (z : ¬ a < ch) => z ca)]
          by_cases cb : b < ch
          · rw [if_neg (fun (z : ¬ b < ch) => z cb), if_neg (fun (z : ¬ b < ch) => z cb), if_neg hab]
            have va := (vN_eq hg (jk0 (w := 5) (by omega) ca)).2
            have vb := (vN_eq hg (jk0 (w := 5) (by omega) cb)).2
            have b5 : jhi 5 = 3 := rfl
            have ra : σm.1 7 a = nI (vN V 5 a) := sM_v hm hg (w := 5) (jk0 (by omega) ca)
            have rb : σm.1 7 b = nI (vN V 5 b) := sM_v hm hg (w := 5) (jk0 (by omega) cb)
            have e3 : (nI (vN V 5 a) = (3 : Int32)) = (vN V 5 a = 3) := propext (nI_eq (a := vN V 5 a) (b := 3) (by omega) (by omega))
            have eq5 : (nI (vN V 5 b) = nI (vN V 5 a)) = (vN V 5 b = vN V 5 a) := propext (nI_eq (by omega) (by omega))
            rw [sX6_vc hx hg 5 5 rfl (jk0 (by omega) ca), Option.bind_some, sX6_isSwing, Option.bind_some, sX6_vc hx hg 5 5 rfl (jk0 (by omega) cb), Option.bind_some]
            simp only [jb_jo, isCh_n (show vN V 5 a < 2 ^ 31 by omega), ob_nI (show a < 9 by omega) (show 9 < 2 ^ 31 by omega), ob_nI (show b < 9 by omega) (show 9 < 2 ^ 31 by omega), nI_cl (show a < 2 ^ 31 by omega), nI_cl (show b < 2 ^ 31 by omega), ra, rb, e3, eq5]
            by_cases c3 : vN V 5 a < 3
            · rw [if_neg (fun (z : ¬ vN V 5 a < 3) => z c3), if_neg (show ¬ vN V 5 a = 3 by omega)]
              by_cases cs : vN V 5 b = vN V 5 a
              · rw [if_pos cs, if_pos cs, jaa_i c3]
                obtain ⟨U, W, eU, eW, oW, lW, fW, zW⟩ := sX_ff c3 hx hg hlx ho hr
                obtain ⟨pa, hpa, epa⟩ := la_of ((qL_mem hc9).mpr ⟨ca, (rfl : vN V 5 a = vN V 5 a)⟩)
                obtain ⟨pb, hpb, epb⟩ := la_of ((qL_mem hc9).mpr ⟨cb, cs⟩)
                generalize hs : vN V 5 a = s at *
                have hql : qOk ch (qL V ch s) := qL_ok hc9
                have hbg := sX5_beginOf lW fW hql hc9 ho b2 hpa
                obtain ⟨X, eX, oX, lX1⟩ := sX5_swap lW hql hc9 hpa hpb
                rw [epa, epb] at eX lX1
                rw [epa] at hbg
                have hql2 : qOk ch (swL a b (qL V ch s)) := swL_ok hql ca cb
                have oX1 : jOff [11, 12, 14, 15, 17 + 5 * s, 17 + 5 * s + 1, 17 + 5 * s + 2, 17 + 5 * s + 3, 17 + 5 * s + 4] σx X := oW.trans (oX.mono (by simp))
                have hxX : nX X ch V := hx.off oX1 (by simp <;> omega) (by simp <;> omega)
                obtain ⟨Y, eY, oY, fY⟩ := sX5_foresee (jLn_i c3) hxX hg (hlx.go oX1 (by simp <;> omega) (by simp <;> omega)) ho c3 hql2 lX1
                have lY : lnX Y (17 + 5 * s) s (swL a b (qL V ch s)) := lX1.go oY (by simp <;> omega) (by simp <;> omega)
                have hpb' : pb < (swL a b (qL V ch s)).length := by rw [swL_len]; exact hpb
                have epb' : la (swL a b (qL V ch s)) pb = a := by
                  rw [la_sw hpb, epb]
                  unfold sw2
                  rw [if_neg (fun z => hab z.symm), if_pos rfl]
                have hbg2 := sX5_beginOf lY fY hql2 hc9 ho b2 hpb'
                rw [epb'] at hbg2
                have oY1 : jOff [11, 12, 14, 15, 17 + 5 * s, 17 + 5 * s + 1, 17 + 5 * s + 2, 17 + 5 * s + 3, 17 + 5 * s + 4] σx Y := oX1.trans (oY.mono (by simp))
                have hrY : rLn Y := hr.off c3 oY1 (fun i _ hi => five_ne hi) lY.1
                obtain ⟨M, eM, oM, hE, hZ⟩ := sM_goAfternoon hm hg hlm ho b2
                have hEa := ((hE s c3).1 pa hpa).2.1
                rw [epa] at hEa
                have hmM : nM M ch V := hm.off oM (by decide) (by decide)
                obtain ⟨N, eN, oN, zN⟩ := sM_beginAfternoon M
                have hmN : nM N ch V := hmM.off oN (by decide) (by decide)
                obtain ⟨P, eP, oP, lP⟩ := sM_layLine (s := s) hmN hg c3
                have oP' : mOff [18, 19, 20, 21, 22, 23, 24] [33, 34, 35, 36, 42] σm P := (oM.trans (oN.mono (by simp) (by simp))).trans (oP.mono (by simp) (by simp))
                obtain ⟨Q, eQ, oQ, lQ⟩ := sM_swapL (f := la (qL V ch s)) e1 e2 hql.2.2 (by omega) (by omega) (fun k hk => by have := hql.2.1 _ (la_mem hk); omega) (qL V ch s).length 0 jN P (by omega) (by have := jN_ge; have := hql.2.2; omega) lP.1 (fun i hi => by rw [if_neg (Nat.not_lt_zero _)]; exact lP.2 i hi)
                have eQ' : ∀ j175, jloop (fX12_trade_B114 (nI n) j175) jN (P, (0 : Int32)) = j175 Q := eQ
                have oQ' : mOff [18, 19, 20, 21, 22, 23, 24] [33, 34, 35, 36, 42] σm Q := oP'.trans (oQ.mono (by simp) (by simp))
                have lQ2 : mLn Q (swL a b (qL V ch s)).length (la (swL a b (qL V ch s))) := by
                  rw [swL_len]
                  refine ⟨lQ.1, fun k hk => ?_⟩
                  rw [la_sw hk]
                  exact lQ.2 k hk
                have q20 : ∀ c, c = 20 ∨ c = 21 ∨ c = 22 ∨ c = 23 → Q.1 c = N.1 c := by
                  intro c hc
                  rw [oQ.1 c (by simp <;> omega) (by omega), oP.1 c (by simp <;> omega) (by omega)]
                obtain ⟨R, eR, oR, hR, _, _⟩ := sM_goSwing (s := s) (l := swL a b (qL V ch s)) (hm.off oQ' (by decide) (by decide)) hg (lMo hlm oQ' (by decide)) ho c3 hql2 hc9 b2 lQ2 (fun c hc => by
                  rw [q20 20 (by omega), q20 21 (by omega), q20 22 (by omega)]
                  exact zN.1 c (by have := hql2.2.1 c hc; omega)) (by rw [q20 23 (by omega)]; exact zN.2 s c3)
                have hRa := (hR.1 pb hpb').2.1
                rw [epb'] at hRa
                have oR' : mOff [18, 19, 20, 21, 22, 23, 24] [33, 34, 35, 36, 42] σm R := oQ'.trans (oR.mono (by simp) (by simp))
                rw [eU, Option.bind_some, eW, Option.bind_some, hbg, Option.bind_some, eX, Option.bind_some, eY, Option.bind_some, hbg2, Option.bind_some, eM, Option.bind_some, eN, Option.bind_some, eP, Option.bind_some, eQ']
                rw [eR, Option.bind_some, hEa, hRa]
                generalize bgn (dS V lw s (qL V ch s)) (qL V ch s).length bell pa = w1
                generalize bgn (dS V lw s (swL a b (qL V ch s))) (swL a b (qL V ch s)).length bell pb = w2
                by_cases c1 : w1 < 0
                · rw [if_pos c1, if_pos c1]
                  exact ⟨_, _, _, rfl, rfl, hrY, ff_mono c3 oY1, oR'⟩
                · rw [if_neg c1, if_neg c1]
                  by_cases c2 : 0 ≤ w2
                  · rw [if_pos c2, if_pos c2]
                    exact ⟨_, _, _, rfl, rfl, hrY, ff_mono c3 oY1, oR'⟩
                  · rw [if_neg c2, if_neg c2]
                    exact ⟨_, _, _, rfl, rfl, hrY, ff_mono c3 oY1, oR'⟩
              · rw [if_neg cs, if_neg cs]
                exact ⟨_, _, _, rfl, rfl, hr, jOff.rf, mOff.rf⟩
            · rw [if_pos c3, if_pos (show vN V 5 a = 3 by omega)]
              exact ⟨_, _, _, rfl, rfl, hr, jOff.rf, mOff.rf⟩
          · rw [if_pos cb, if_pos cb]
            exact ⟨_, _, _, rfl, rfl, hr, jOff.rf, mOff.rf⟩
        · rw [if_pos ca, if_pos ca]
          exact ⟨_, _, _, rfl, rfl, hr, jOff.rf, mOff.rf⟩
  · rw [if_pos hB, if_pos hB]
    exact ⟨_, _, _, rfl, rfl, hr, jOff.rf, mOff.rf⟩
