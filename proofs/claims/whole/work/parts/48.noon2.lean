/-! afternoon, been of both sides -/
abbrev BL (p : Int32) : Prop := 1 ≤ p.toInt ∧ p.toInt ≤ 3600
theorem sM_isBell (σ : jS) (p : Int32) : fX12_isBell σ p = some (jo (BL p)) := by
  unfold fX12_isBell
  rw [sM_in, Option.bind_some]
  rfl
theorem sX11_isBell (σ : jS) (p : Int32) : fX11_isBell σ p = some (jo (BL p)) := by
  unfold fX11_isBell
  have h8 : (3600 : Int32).toInt = 3600 := rfl
  have h00 : (1 : Int32).toInt = 1 := rfl
  simp only [i_lt, h8, h00]
  by_cases h0 : p.toInt < 1
  · rw [if_pos h0, jo_0 (fun q => by omega)]
  · rw [if_neg h0]
    by_cases h1 : (3600 : Int) < p.toInt
    · rw [if_pos h1, jo_0 (fun q => by omega)]
    · rw [if_neg h1, jo_1 ⟨by omega, by omega⟩]
theorem BL_of {p : Int32} (h : BL p) : ∃ b : Nat, 1 ≤ b ∧ b ≤ 3600 ∧ p = nI b := nI_of3 (lo := 1) (hi := 3600) h.1 h.2 (by omega)
/-- the three lines know their SWINGS -/
def rLn (σ : jS) : Prop := ∀ i, i < 3 → σ.1 (17 + 5 * i) 2 = nI i
theorem jLn_i {i : Nat} (h : i < 3) : jLn (17 + 5 * i) := by
  rcases (show i = 0 ∨ i = 1 ∨ i = 2 by omega) with rfl | rfl | rfl
  · exact Or.inl rfl
  · exact Or.inr (Or.inl rfl)
  · exact Or.inr (Or.inr rfl)
theorem jaa_i {ρ : Type} {i : Nat} (h : i < 3) {K : Nat → Option ρ} : jaa (nI i) K = K (17 + 5 * i) := by
  unfold jaa
  rw [ob_nI h (by omega), nI_cl (by omega)]
/-- the cells of the lines, and those of turns in thought -/
def lnC : List Nat := [11, 12, 14, 15, 17, 18, 19, 20, 21, 22, 23, 24, 25, 26, 27, 28, 29, 30, 31]
theorem lnC_m {c : Nat} : c ∈ lnC ↔ c = 11 ∨ c = 12 ∨ c = 14 ∨ c = 15 ∨ (17 ≤ c ∧ c ≤ 31) := by
  unfold lnC
  simp only [List.mem_cons, List.not_mem_nil, or_false]
  omega
theorem sX_ff {ch : Nat} {V : Nat → Nat → Int32} {lw : jL} {σ : jS} {i : Nat} (hi : i < 3) (hx : nX σ ch V) (hg : nG ch V) (hlx : lX σ lw) (hO : lOk lw) (hr : rLn σ) : ∃ U W, fX5_form (17 + 5 * i) σ = some U ∧ fX5_foresee (17 + 5 * i) U = some W ∧ jOff [11, 12, 14, 15, 17 + 5 * i, 17 + 5 * i + 1, 17 + 5 * i + 2, 17 + 5 * i + 3, 17 + 5 * i + 4] σ W ∧ lnX W (17 + 5 * i) i (qL V ch i) ∧ lnF W (17 + 5 * i) V lw i (qL V ch i) (qL V ch i).length ∧ ∀ j, j < 9 → W.1 (17 + 5 * i + 4) j = 0 := by
  have hc9 := hx.1
  obtain ⟨U, eU, oU, lU, zU⟩ := sX5_form (jLn_i hi) hx hg hi (hr i hi)
  have oU' : jOff [11, 12, 14, 15, 17 + 5 * i, 17 + 5 * i + 1, 17 + 5 * i + 2, 17 + 5 * i + 3, 17 + 5 * i + 4] σ U := oU.mono (by simp)
  obtain ⟨W, eW, oW, fW⟩ := sX5_foresee (jLn_i hi) (hx.off oU (by simp <;> omega) (by simp <;> omega)) hg (hlx.go oU (by simp <;> omega) (by simp <;> omega)) hO hi (qL_ok hc9) lU
  refine ⟨U, W, eU, eW, oU'.trans (oW.mono (by simp)), lU.go oW (by simp <;> omega) (by simp <;> omega), fW, fun j hj => ?_⟩
  rw [oW.1 _ (by simp <;> omega)]
  exact zU j hj
theorem ff_mono {i : Nat} (hi : i < 3) {σ W : jS} (h : jOff [11, 12, 14, 15, 17 + 5 * i, 17 + 5 * i + 1, 17 + 5 * i + 2, 17 + 5 * i + 3, 17 + 5 * i + 4] σ W) : jOff lnC σ W := h.mono (fun c hc => by
  rw [lnC_m]
  simp only [List.mem_cons, List.not_mem_nil, or_false] at hc
  omega)
theorem rLn.off {S : List Nat} {σ W : jS} {i : Nat} (hi : i < 3) (h : rLn σ) (o : jOff S σ W) (hS : ∀ k, k < 3 → k ≠ i → 17 + 5 * k ∉ S) (hW : W.1 (17 + 5 * i) 2 = nI i) : rLn W := by
  intro k hk
  by_cases a : k = i
  · rw [a]; exact hW
  · rw [o.1 _ (hS k hk a)]; exact h k hk
theorem rLn.all {S : List Nat} {σ W : jS} (h : rLn σ) (o : jOff S σ W) (hS : ∀ k, k < 3 → 17 + 5 * k ∉ S) : rLn W := fun k hk => by
  rw [o.1 _ (hS k hk)]; exact h k hk
theorem five_ne {i k : Nat} (h : k ≠ i) : 17 + 5 * k ∉ [11, 12, 14, 15, 17 + 5 * i, 17 + 5 * i + 1, 17 + 5 * i + 2, 17 + 5 * i + 3, 17 + 5 * i + 4] := by
  simp only [List.mem_cons, List.not_mem_nil, or_false]
  omega
theorem eq_afternoon {σx σm : jS} {ch : Nat} {V : Nat → Nat → Int32} {lw : jL} (h : rN σx σm ch V) (hlx : lX σx lw) (hlm : lM σm lw) (ho : lOk lw) (hr : rLn σx) (p1 p2 p3 : Int32) : ∃ r σx' σm', fX11_afternoon σx p1 p2 p3 = some (r, σx') ∧ fX12_afternoon σm p1 p2 p3 = some (r, σm') ∧ rLn σx' ∧ jOff lnC σx σx' ∧ mOff [18, 19, 20, 21, 22, 23, 24] [33, 34, 35, 36, 42] σm σm' := by
  obtain ⟨hx, hm, hg⟩ := id h
  have hc9 := hx.1
  unfold fX11_afternoon fX12_afternoon
  rw [sX11_isBell, sM_isBell, Option.bind_some, Option.bind_some]
  simp only [jb_jo]
  by_cases a : BL p1
  · rw [if_neg (fun (z : ¬ BL p1) => z a), if_neg (fun (z : ¬ BL p1) => z a), sX6_isChild hx, sM_isChild hm, Option.bind_some, Option.bind_some]
    simp only [jb_jo]
    by_cases b : isCh ch p2
    · rw [if_neg (fun (z : ¬ isCh ch p2) => z b), if_neg (fun (z : ¬ isCh ch p2) => z b), sM_in, Option.bind_some]
      simp only [jb_jo]
      have h2 : (2 : Int32).toInt = 2 := rfl
      have h0 : (0 : Int32).toInt = 0 := rfl
      simp only [i_lt (x := p3), i_le (x := p3), h2, h0]
      by_cases c : 0 ≤ p3.toInt ∧ p3.toInt ≤ 2
      · rw [if_neg (show ¬ p3.toInt < 0 by omega), if_pos c.2, if_neg (fun (z : ¬ (0 ≤ p3.toInt ∧ p3.toInt ≤ 2)) => z c)]
        obtain ⟨bell, b1, b2, rfl⟩ := BL_of a
        obtain ⟨c', hc, rfl⟩ := isCh_nat b
        have v5 := (vN_eq hg (jk0 (w := 5) (by omega) hc)).2
        have b5 : jhi 5 = 3 := rfl
        obtain ⟨M, eM, oM, hE, hZ⟩ := sM_goAfternoon hm hg hlm ho b2
        rw [sX6_vc hx hg 5 5 rfl (jk0 (by omega) hc), Option.bind_some, sX6_isSwing, Option.bind_some, eM, Option.bind_some]
        simp only [jb_jo, isCh_n (show vN V 5 c' < 2 ^ 31 by omega), ob_nI (show c' < 9 by omega) (show 9 < 2 ^ 31 by omega), nI_cl (show c' < 2 ^ 31 by omega)]
        by_cases d : vN V 5 c' < 3
        · rw [if_neg (fun z => z d), jaa_i d]
          obtain ⟨U, W, eU, eW, oW, lW, fW, zW⟩ := sX_ff d hx hg hlx ho hr
          rw [eU, Option.bind_some, eW, Option.bind_some]
          obtain ⟨p, hp, ep⟩ := la_of ((qL_mem hc9).mpr ⟨hc, (rfl : vN V 5 c' = vN V 5 c')⟩)
          have hEp := (hE _ d).1 p hp
          rw [ep] at hEp
          have hrW : rLn W := hr.off d oW (fun k _ hk => five_ne hk) lW.1
          have hbg := sX5_beginOf lW fW (qL_ok hc9) hc9 ho b2 hp
          rw [ep] at hbg
          obtain ⟨X, eX, oX, lX', xe, xq⟩ := sX5_spendN (jLn_i d) ho (qL_ok hc9) b2 lW fW zW
          have hof := sX5_oftenOf lX' (qL_ok hc9) hc9 hp
          have hro := sX5_roundsOf lX' (qL_ok hc9) hc9 hp
          rw [ep] at hof hro
          have x3 : X.1 (17 + 5 * vN V 5 c' + 3) p = nI (dN V lw (vN V 5 c') (qL V ch (vN V 5 c')) p) := by
            rw [oX.1 _ (by simp <;> omega)]
            exact (fW p hp).2
          have oX' : jOff lnC σx X := (ff_mono d oW).trans (oX.mono (fun c hc => by
            rw [lnC_m]
            simp only [List.mem_cons, List.not_mem_nil, or_false] at hc
            omega))
          have hrX : rLn X := hrW.off d oX (fun k _ hk => by simp <;> omega) lX'.1
          rw [hEp.1, hEp.2.1, hEp.2.2]
          by_cases e1 : p3 = 1
          · rw [if_pos e1, if_neg (show ¬ p3 = 0 by rw [e1]; decide), if_pos e1, hbg, Option.bind_some]
            exact ⟨_, _, _, rfl, rfl, hrW, ff_mono d oW, oM⟩
          · rw [if_neg e1, if_neg e1, eX, Option.bind_some, hof, Option.bind_some, xq p hp]
            by_cases e0 : p3 = 0
            · rw [if_pos e0, if_pos e0]
              exact ⟨_, _, _, rfl, rfl, hrX, oX', oM⟩
            · rw [if_neg e0, if_neg e0, hro, Option.bind_some, x3, pk_mul]
              exact ⟨_, _, _, rfl, rfl, hrX, oX', oM⟩
        · rw [if_pos d]
          obtain ⟨z1, z2, z3⟩ := hZ c' hc (by omega)
          rw [z1, z2, z3]
          by_cases e1 : p3 = 1
          · rw [if_pos e1, if_neg (show ¬ p3 = 0 by rw [e1]; decide), if_pos e1]
            exact ⟨_, _, _, rfl, rfl, hr, jOff.rf, oM⟩
          · rw [if_neg e1, if_neg e1]
            by_cases e0 : p3 = 0
            · rw [if_pos e0]
              exact ⟨_, _, _, rfl, rfl, hr, jOff.rf, oM⟩
            · rw [if_neg e0]
              exact ⟨_, _, _, rfl, rfl, hr, jOff.rf, oM⟩
      · rw [if_pos c]
        by_cases d : p3.toInt < 0
        · rw [if_pos d]
          exact ⟨_, _, _, rfl, rfl, hr, jOff.rf, mOff.rf⟩
        · rw [if_neg d, if_neg (by omega)]
          exact ⟨_, _, _, rfl, rfl, hr, jOff.rf, mOff.rf⟩
    · rw [if_pos b, if_pos b]
      exact ⟨_, _, _, rfl, rfl, hr, jOff.rf, mOff.rf⟩
  · rw [if_pos a, if_pos a]
    exact ⟨_, _, _, rfl, rfl, hr, jOff.rf, mOff.rf⟩
theorem sX_times {W : jS} {c : Int32} {ov : Nat → Int32} (h : ∀ i, i < 3 → fX5_oftenOf (17 + 5 * i) W c = some (ov i)) : fX11_timesOnAll W c = some (0 + ov 0 + ov 1 + ov 2) := by
  unfold fX11_timesOnAll
  obtain ⟨f, hf⟩ : ∃ g, jN = g + 4 := ⟨jN - 4, by have := jN_ge; omega⟩
  have st : ∀ (i : Nat) (x : Int32) (s4 : Int32 × Int32 → Option (Int32)), i < 3 → fX11_timesOnAll_B4 W c s4 (x, nI i) = s4 (x + ov i, nI (i + 1)) := by
    intro i x s4 hi
    unfold fX11_timesOnAll_B4
    rw [if_neg (show ¬ (3 : Int32) ≤ nI i by rw [show (3 : Int32) = nI 3 from rfl, nI_leI (by omega) (by omega)]; omega), jaa_i hi, h i hi, Option.bind_some, nI_1]
  rw [hf, jloop_s, show ((0 : Int32), (0 : Int32)) = (0, nI 0) from rfl, st 0 _ _ (by omega), jloop_s, st 1 _ _ (by omega), jloop_s, st 2 _ _ (by omega), jloop_s]
  unfold fX11_timesOnAll_B4
  exact if_pos (show (3 : Int32) ≤ nI 3 by decide)
/-- all lines at the bell, and how often each CHILD has been -/
def lnE (V : Nat → Nat → Int32) (ch : Nat) (lw : jL) (bell i : Nat) (W : jS) : Prop := lnX W (17 + 5 * i) i (qL V ch i) ∧ W.1 (17 + 5 * i) 8 = nI (if (qL V ch i).length = 0 then 0 else rT (dS V lw i (qL V ch i)) (qL V ch i).length (rA (dS V lw i (qL V ch i)) (qL V ch i).length bell)) ∧ ∀ p, p < (qL V ch i).length → W.1 (17 + 5 * i + 4) p = nI (rO (qL V ch i).length p (rA (dS V lw i (qL V ch i)) (qL V ch i).length bell))
theorem lnE_times {V : Nat → Nat → Int32} {ch bell c : Nat} {lw : jL} {W M : jS} (hc9 : ch ≤ 9) (hc : c < ch) (h : ∀ i, i < 3 → lnE V ch lw bell i W) (hE : ∀ s, s < 3 → mE V lw bell s (qL V ch s) M) (hZ : ∀ c, c < ch → 3 ≤ vN V 5 c → M.1 20 c = 0 ∧ M.1 21 c = -2 ∧ M.1 22 c = 0) : fX11_timesOnAll W (nI c) = some (M.1 20 c) := by
  by_cases d : vN V 5 c < 3
  · obtain ⟨p, hp, ep⟩ := la_of ((qL_mem hc9).mpr ⟨hc, (rfl : vN V 5 c = vN V 5 c)⟩)
    have hEp := ((hE _ d).1 p hp).1
    rw [ep] at hEp
    have key := sX_times (W := W) (c := nI c) (ov := fun i => if i = vN V 5 c then M.1 20 c else 0) (fun i hi => by
      by_cases a : i = vN V 5 c
      · have := sX5_oftenOf (h i hi).1 (qL_ok hc9) hc9 (p := p) (by rw [a]; exact hp)
        rw [a] at this ⊢
        rw [ep] at this
        rw [if_pos rfl, this, (h _ d).2.2 p hp, hEp]
      · rw [if_neg a]
        exact sX5_oftenNo (h i hi).1 (qL_ok hc9) hc9 (fun z => a (((qL_mem hc9).mp z).2).symm) (by omega))
    rw [key]
    congr 1
    rcases (show vN V 5 c = 0 ∨ vN V 5 c = 1 ∨ vN V 5 c = 2 by omega) with e | e | e <;> simp [e]
  · have key := sX_times (W := W) (c := nI c) (ov := fun _ => 0) (fun i hi => sX5_oftenNo (h i hi).1 (qL_ok hc9) hc9 (fun z => d (by have := ((qL_mem hc9).mp z).2; omega)) (by omega))
    rw [key, (hZ c hc (by omega)).1]
    rfl
theorem sX_beenL {ch : Nat} {V : Nat → Nat → Int32} {lw : jL} {bell : Nat} (hg : nG ch V) (hO : lOk lw) (hb : bell ≤ 3600) : ∀ (n k f : Nat) (σ : jS), k + n = 3 → n < f → nX σ ch V → lX σ lw → rLn σ → (∀ i, i < k → lnE V ch lw bell i σ) → ∃ σ', (∀ j61, jloop (fX11_been_B21 (nI bell) j61) f (σ, nI k) = j61 σ') ∧ jOff lnC σ σ' ∧ rLn σ' ∧ ∀ i, i < 3 → lnE V ch lw bell i σ' := by
  intro n
  induction n with
  | zero =>
    intro k f σ hk hf hx hlx hr hE
    obtain ⟨f, rfl⟩ : ∃ g, f = g + 1 := ⟨f - 1, by omega⟩
    obtain rfl : k = 3 := by omega
    refine ⟨σ, fun j => ?_, jOff.rf, hr, hE⟩
    rw [jloop_s]
    unfold fX11_been_B21
    rw [if_pos (show (3 : Int32) ≤ nI 3 by decide)]
  | succ n ih =>
    intro k f σ hk hf hx hlx hr hE
    obtain ⟨f, rfl⟩ : ∃ g, f = g + 1 := ⟨f - 1, by omega⟩
    have hc9 := hx.1
    have hk3 : k < 3 := by omega
    have k3 : ¬ (3 : Int32) ≤ nI k := by rw [show (3 : Int32) = nI 3 from rfl, nI_leI (by omega) (by omega)]; omega
    obtain ⟨U, W, eU, eW, oW, lW, fW, zW⟩ := sX_ff hk3 hx hg hlx hO hr
    obtain ⟨X, eX, oX, lX', xe, xq⟩ := sX5_spendN (jLn_i hk3) hO (qL_ok hc9) hb lW fW zW
    have oX1 : jOff [11, 12, 14, 15, 17 + 5 * k, 17 + 5 * k + 1, 17 + 5 * k + 2, 17 + 5 * k + 3, 17 + 5 * k + 4] σ X := oW.trans (oX.mono (by simp))
    have hrX : rLn X := hr.off hk3 oX1 (fun i _ hi => five_ne hi) lX'.1
    obtain ⟨σ', h1, h2, h3, h4⟩ := ih (k + 1) f X (by omega) (by omega) (hx.off oX1 (by simp <;> omega) (by simp <;> omega)) (hlx.go oX1 (by simp <;> omega) (by simp <;> omega)) hrX (fun i hi => by
      by_cases a : i = k
      · rw [a]; exact ⟨lX', xe, xq⟩
      · have hEi := hE i (by omega)
        have g0 : X.1 (17 + 5 * i) = σ.1 (17 + 5 * i) := oX1.1 _ (five_ne a)
        have g1 : X.1 (17 + 5 * i + 1) = σ.1 (17 + 5 * i + 1) := oX1.1 _ (by simp only [List.mem_cons, List.not_mem_nil, or_false]; omega)
        have g4 : X.1 (17 + 5 * i + 4) = σ.1 (17 + 5 * i + 4) := oX1.1 _ (by simp only [List.mem_cons, List.not_mem_nil, or_false]; omega)
        unfold lnE lnX at *
        rw [g0, g1, g4]
        exact hEi)
    refine ⟨σ', fun j => ?_, (ff_mono hk3 oX1).trans h2, h3, h4⟩
    rw [jloop_s, ← h1 j]
    unfold fX11_been_B21
    rw [if_neg k3]
    show (jaa (nI k) fun (o4 : Nat) => (Option.bind (fX5_form o4 σ) fun (q5 : jS) => (jaa (nI k) fun (o6 : Nat) => (Option.bind (fX5_foresee o6 q5) fun (q7 : jS) => (jaa (nI k) fun (o8 : Nat) => (Option.bind (fX5_spendN o8 q7 (nI bell)) fun (q9 : jS) => (jloop (fX11_been_B21 (nI bell) j) f (q9, (nI k + (1 : Int32)))))))))) = _
    rw [jaa_i hk3, eU, Option.bind_some, jaa_i hk3, eW, Option.bind_some, jaa_i hk3, eX, Option.bind_some, nI_1]
    rfl
theorem been_bits {ch : Nat} {V : Nat → Nat → Int32} {W M : jS} (hx : nX W ch V) (hm : nM M ch V) (ht : ∀ c, c < ch → fX11_timesOnAll W (nI c) = some (M.1 20 c)) : ∀ (n k f : Nat) (b : Int32), k + n = ch → n < f → ∃ r, jloop (fX11_been_B80 W) f (b, nI k) = some (r, W) ∧ jloop (fX12_been_B42 M) f (b, nI k) = some (r, M) := by
  have hc9 := hx.1
  intro n
  induction n with
  | zero =>
    intro k f b hk hf
    obtain ⟨f, rfl⟩ : ∃ g, f = g + 1 := ⟨f - 1, by omega⟩
    obtain rfl : k = ch := by omega
    refine ⟨b, ?_, ?_⟩
    · rw [jloop_s]
      unfold fX11_been_B80
      rw [if_pos (show W.1 1 1 ≤ nI k by rw [hx.2.1]; exact Int32.le_refl _)]
    · rw [jloop_s]
      unfold fX12_been_B42
      rw [if_pos (show M.1 0 2 ≤ nI k by rw [hm.2.1]; exact Int32.le_refl _)]
  | succ n ih =>
    intro k f b hk hf
    obtain ⟨f, rfl⟩ : ∃ g, f = g + 1 := ⟨f - 1, by omega⟩
    obtain ⟨r, h1, h2⟩ := ih (k + 1) f (if M.1 20 k = 0 then b ||| ((1 : Int32) <<< (nI k &&& 31)) else b) (by omega) (by omega)
    refine ⟨r, ?_, ?_⟩
    · rw [jloop_s, ← h1]
      unfold fX11_been_B80
      rw [if_neg (show ¬ W.1 1 1 ≤ nI k by rw [hx.2.1, nI_leI (by omega) (by omega)]; omega)]
      simp only [ht k (by omega), Option.bind_some, jlet_e, nI_1]
      by_cases a : M.1 20 k = 0
      · simp only [a, if_true]
      · simp only [a, if_false]
    · rw [jloop_s, ← h2]
      unfold fX12_been_B42
      rw [if_neg (show ¬ M.1 0 2 ≤ nI k by rw [hm.2.1, nI_leI (by omega) (by omega)]; omega)]
      simp only [ob_nI (show k < 9 by omega) (show 9 < 2 ^ 31 by omega), nI_cl (show k < 2 ^ 31 by omega), jlet_e, nI_1]
      by_cases a : M.1 20 k = 0
      · simp only [a, if_true]
      · simp only [a, if_false]
theorem lnC_lo {σ σ' : jS} {ch : Nat} {V : Nat → Nat → Int32} (h : nX σ ch V) (o : jOff lnC σ σ') : nX σ' ch V := h.off o (by rw [lnC_m]; omega) (by rw [lnC_m]; omega)
theorem eq_been {σx σm : jS} {ch : Nat} {V : Nat → Nat → Int32} {lw : jL} (h : rN σx σm ch V) (hlx : lX σx lw) (hlm : lM σm lw) (ho : lOk lw) (hr : rLn σx) (p1 p2 : Int32) : ∃ r σx' σm', fX11_been σx p1 p2 = some (r, σx') ∧ fX12_been σm p1 p2 = some (r, σm') ∧ rLn σx' ∧ jOff lnC σx σx' ∧ mOff [18, 19, 20, 21, 22, 23, 24] [33, 34, 35, 36, 42] σm σm' := by
  obtain ⟨hx, hm, hg⟩ := id h
  have hc9 := hx.1
  rw [fX11_been_eq, fX12_been_eq]
  rw [sX11_isBell, sM_isBell, Option.bind_some, Option.bind_some]
  simp only [jb_jo]
  by_cases a : BL p1
  · rw [if_neg (fun (z : ¬ BL p1) => z a), if_neg (fun (z : ¬ BL p1) => z a), sM_isSwing, Option.bind_some]
    simp only [jb_jo]
    obtain ⟨bell, b1, b2, rfl⟩ := BL_of a
    obtain ⟨X, eX, oX, rX, hX⟩ := sX_beenL hg ho b2 3 0 jN σx (by omega) (by have := jN_ge; omega) hx hlx hr (fun i hi => absurd hi (by omega))
    have eX' : ∀ j61, jloop (fX11_been_B21 (nI bell) j61) jN (σx, (0 : Int32)) = j61 X := eX
    obtain ⟨M, eM, oM, hE, hZ⟩ := sM_goAfternoon hm hg hlm ho b2
    have hxX : nX X ch V := lnC_lo hx oX
    have hmM : nM M ch V := hm.off oM (by decide) (by decide)
    rw [eX']
    unfold fX11_been_J61 fX12_been_J21
    rw [eM, Option.bind_some]
    have m1 : (-1 : Int32).toInt = -1 := rfl
    have h3 : (3 : Int32).toInt = 3 := rfl
    have h0 : (0 : Int32).toInt = 0 := rfl
    by_cases b : p2 = -1
    · subst b
      rw [if_neg (show ¬ (-1 : Int32) < (-1 : Int32) by decide), if_pos (show (-1 : Int32) < (3 : Int32) by decide), if_pos (show (-1 : Int32) < 0 by decide), if_pos rfl, if_pos (show (-1 : Int32) < 0 by decide)]
      obtain ⟨r, g1, g2⟩ := been_bits hxX hmM (fun c hc => lnE_times hc9 hc hX hE hZ) ch 0 jN 0 (by omega) (by have := jN_ge; omega)
      exact ⟨r, X, M, g1, g2, rX, oX, oM⟩
    · rw [if_neg b]
      by_cases c : isCh 3 p2
      · obtain ⟨i, hi, rfl⟩ := isCh_nat c
        rw [if_neg (fun (z : ¬ isCh 3 (nI i)) => z c), if_neg (show ¬ nI i < (-1 : Int32) by rw [i_lt, nI_T (by omega), m1]; omega), if_pos (show nI i < (3 : Int32) from (nI_ltI (a := i) (b := 3) (by omega) (by omega)).mpr hi), if_neg (nI_pos (by omega)), if_neg (nI_pos (by omega)), jaa_i hi, ob_nI hi (by omega), nI_cl (by omega), (hX i hi).2.1, (hE i hi).2]
        exact ⟨_, X, M, rfl, rfl, rX, oX, oM⟩
      · rw [if_pos c]
        have hn1 : p2.toInt ≠ -1 := fun z => b (by rw [i_eq, z]; rfl)
        by_cases d : p2 < (-1 : Int32)
        · rw [if_pos d]
          exact ⟨_, _, _, rfl, rfl, hr, jOff.rf, mOff.rf⟩
        · rw [if_neg d]
          have e : ¬ p2 < (3 : Int32) := by
            rw [i_lt, m1] at d
            rw [i_lt, h3]
            intro z
            exact c ⟨by omega, by omega⟩
          rw [if_neg e]
          exact ⟨_, _, _, rfl, rfl, hr, jOff.rf, mOff.rf⟩
  · rw [if_pos a, if_pos a]
    exact ⟨_, _, _, rfl, rfl, hr, jOff.rf, mOff.rf⟩
