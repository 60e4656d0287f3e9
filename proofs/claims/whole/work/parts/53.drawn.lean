/-! drawn of both sides -/
def drQ (V : Nat → Nat → Int32) (ch : Nat) (lw : jL) (bell i : Nat) (zc : Int32 × (Nat → Nat)) : Int32 × (Nat → Nat) := if (qL V ch i).length = 0 then zc else dr (V 10 0) (qL V ch i) (dS V lw i (qL V ch i)) bell 3600 zc.1 0 0 zc.2
def drF (V : Nat → Nat → Int32) (ch : Nat) (lw : jL) (bell : Nat) : Nat → Nat → Int32 × (Nat → Nat) → Int32 × (Nat → Nat)
  | 0, _, zc => zc
  | n + 1, k, zc => drF V ch lw bell n (k + 1) (drQ V ch lw bell k zc)
theorem drQ_out {V : Nat → Nat → Int32} {ch bell i x : Nat} {lw : jL} {zc : Int32 × (Nat → Nat)} (hx : x ∉ qL V ch i) : (drQ V ch lw bell i zc).2 x = zc.2 x := by
  unfold drQ
  by_cases a : (qL V ch i).length = 0
  · rw [if_pos a]
  · rw [if_neg a]
    exact dr_out hx 3600 zc.1 0 0 zc.2 (by omega)
theorem drF_out {V : Nat → Nat → Int32} {ch bell x : Nat} {lw : jL} (hx : ∀ i, i < 3 → x ∉ qL V ch i) : ∀ n k zc, k + n ≤ 3 → (drF V ch lw bell n k zc).2 x = zc.2 x := by
  intro n
  induction n with
  | zero => intro k zc h; rfl
  | succ n ih =>
    intro k zc h
    show (drF V ch lw bell n (k + 1) (drQ V ch lw bell k zc)).2 x = zc.2 x
    rw [ih (k + 1) _ (by omega), drQ_out (hx k (by omega))]
/-- the lines, foreseen; how often: b, and c more -/
def lnD (V : Nat → Nat → Int32) (ch : Nat) (lw : jL) (b c : Nat → Nat) (W : jS) : Prop := ∀ i, i < 3 → lnX W (17 + 5 * i) i (qL V ch i) ∧ lnF W (17 + 5 * i) V lw i (qL V ch i) (qL V ch i).length ∧ ∀ p, p < (qL V ch i).length → W.1 (17 + 5 * i + 4) p = nI (b (la (qL V ch i) p) + c (la (qL V ch i) p))
theorem sX_spD3 {ch : Nat} {V : Nat → Nat → Int32} {lw : jL} {bell : Nat} {b : Nat → Nat} (hc9 : ch ≤ 9) (hO : lOk lw) (hb : bell ≤ 3600) : ∀ (n k f : Nat) (σ : jS) (zc : Int32 × (Nat → Nat)), k + n = 3 → n < f → lnD V ch lw b zc.2 σ → σ.1 36 0 = zc.1 → σ.1 36 1 = V 10 0 → ∃ σ', (∀ j, jloop (fX11_drawn_B103 (nI bell) j) f (σ, nI k) = j σ') ∧ jOff (36 :: lnC) σ σ' ∧ lnD V ch lw b (drF V ch lw bell n k zc).2 σ' ∧ σ'.1 36 0 = (drF V ch lw bell n k zc).1 ∧ σ'.1 36 1 = V 10 0 := by
  intro n
  induction n with
  | zero =>
    intro k f σ zc hk hf hD h0 h1
    obtain ⟨f, rfl⟩ : ∃ g, f = g + 1 := ⟨f - 1, by omega⟩
    obtain rfl : k = 3 := by omega
    refine ⟨σ, fun j => ?_, jOff.rf, hD, h0, h1⟩
    rw [jloop_s]
    unfold fX11_drawn_B103
    rw [if_pos (show (3 : Int32) ≤ nI 3 by decide)]
  | succ n ih =>
    intro k f σ zc hk hf hD h0 h1
    obtain ⟨f, rfl⟩ : ∃ g, f = g + 1 := ⟨f - 1, by omega⟩
    have hk3 : k < 3 := by omega
    have k3 : ¬ (3 : Int32) ≤ nI k := by rw [show (3 : Int32) = nI 3 from rfl, nI_leI (by omega) (by omega)]; omega
    obtain ⟨hL, hF, hq⟩ := hD k hk3
    obtain ⟨X, eX, oX, lX', x0, x1, xq⟩ := sX5_spendD (jLn_i hk3) hO (qL_ok hc9) hb hL hF hq
    rw [h0, h1] at x0 xq
    have eQ : (if (qL V ch k).length = 0 then (zc.1, zc.2) else dr (V 10 0) (qL V ch k) (dS V lw k (qL V ch k)) bell 3600 zc.1 0 0 zc.2) = drQ V ch lw bell k zc := rfl
    rw [eQ] at x0 xq
    have oX' : jOff (36 :: lnC) σ X := oX.mono (fun c hc => by
      rw [List.mem_cons, lnC_m]
      simp only [List.mem_cons, List.not_mem_nil, or_false] at hc
      omega)
    obtain ⟨σ', g1, g2, g3, g4, g5⟩ := ih (k + 1) f X (drQ V ch lw bell k zc) (by omega) (by omega) (fun i hi => by
      by_cases a : i = k
      · subst a
        exact ⟨lX', hF.go oX (by simp <;> omega) (by simp <;> omega), xq⟩
      · obtain ⟨hL2, hF2, hq2⟩ := hD i hi
        refine ⟨hL2.go oX (by simp <;> omega) (by simp <;> omega), hF2.go oX (by simp <;> omega) (by simp <;> omega), fun p hp => ?_⟩
        rw [oX.1 _ (by simp <;> omega), hq2 p hp, drQ_out (fun z => a (by
          have h1 := ((qL_mem hc9).mp (la_mem hp)).2
          have h2 := ((qL_mem hc9).mp z).2
          omega))]) x0 (by rw [x1, h1])
    refine ⟨σ', fun j => ?_, oX'.trans g2, g3, g4, g5⟩
    rw [jloop_s, ← g1 j]
    unfold fX11_drawn_B103
    rw [if_neg k3]
    show (jaa (nI k) fun (o6 : Nat) => (Option.bind (fX5_spendD o6 σ (nI bell)) fun (q7 : jS) => (jloop (fX11_drawn_B103 (nI bell) j) f (q7, (nI k + (1 : Int32)))))) = _
    rw [jaa_i hk3, eX, Option.bind_some, nI_1]
    rfl
theorem drB85_end {p3 z g j : Int32} {a_ : jS × Int32 × Int32} {jj : jS × Int32 → Option (Int32 × jS)} {s85 : jS × Int32 × Int32 × Int32 → Option (Int32 × jS)} {σ : jS} (hj : (3600 : Int32) ≤ j ∨ (¬ (3600 : Int32) ≤ j ∧ g = 0)) : fX12_drawn_B85 p3 a_ jj s85 (σ, z, g, j) = jj (σ, z) := by
  rw [drB_eq]
  exact drB_end hj
theorem sM_dr3 {ch : Nat} {V : Nat → Nat → Int32} {lw : jL} {bell : Nat} (hg : nG ch V) (hO : lOk lw) (hc9 : ch ≤ 9) (hb : bell ≤ 3600) : ∀ (n k f : Nat) (σ : jS) (zc : Int32 × (Nat → Nat)), k + n = 3 → n < f → nM σ ch V → lM σ lw → (∀ x, x < ch → σ.1 20 x = nI (zc.2 x)) → (∀ s, k ≤ s → s < 3 → σ.1 23 s = 0) → ∃ σ', (∀ j, jloop (fX12_drawn_B56 (nI bell) j) f (σ, zc.1, nI k) = j (σ', (drF V ch lw bell n k zc).1)) ∧ mOff [18, 19, 20, 21, 22, 23, 24] [33, 34, 35, 36, 42] σ σ' ∧ ∀ x, x < ch → σ'.1 20 x = nI ((drF V ch lw bell n k zc).2 x) := by
  intro n
  induction n with
  | zero =>
    intro k f σ zc hk hf hm hlm hq h3
    obtain ⟨f, rfl⟩ : ∃ g, f = g + 1 := ⟨f - 1, by omega⟩
    obtain rfl : k = 3 := by omega
    refine ⟨σ, fun j => ?_, mOff.rf, hq⟩
    rw [jloop_s, fX12_drawn_B56_eq]
    rw [if_pos (show (3 : Int32) ≤ nI 3 by decide)]
    rfl
  | succ n ih =>
    intro k f σ zc hk hf hm hlm hq h3
    obtain ⟨f, rfl⟩ : ∃ g, f = g + 1 := ⟨f - 1, by omega⟩
    have hk3 : k < 3 := by omega
    have k3 : ¬ (3 : Int32) ≤ nI k := by rw [show (3 : Int32) = nI 3 from rfl, nI_leI (by omega) (by omega)]; omega
    obtain ⟨U, eU, oU, hU⟩ := sM_layLine (s := k) hm hg hk3
    have hmU : nM U ch V := hm.off oU (by decide) (by decide)
    have hlU : lM U lw := hlm.go oU (by intro c h1 h2; simp <;> omega) (by decide)
    have u20 : U.1 20 = σ.1 20 := oU.1 20 (by decide) (by decide)
    have u23 : U.1 23 = σ.1 23 := oU.1 23 (by decide) (by decide)
    have hql : qOk ch (qL V ch k) := qL_ok hc9
    have hql9 := hql.2.2
    have oU' : mOff [18, 19, 20, 21, 22, 23, 24] [33, 34, 35, 36, 42] σ U := oU.mono (by simp) (by simp)
    have step : ∀ j, jloop (fX12_drawn_B56 (nI bell) j) (f + 1) (σ, zc.1, nI k) = (if (qL V ch k).length = 0 then fX12_drawn_B56_J80 (nI bell) (jloop (fX12_drawn_B56 (nI bell) j) f) (σ, zc.1, nI k) U 0 else fX12_drawn_B56_J80 (nI bell) (jloop (fX12_drawn_B56 (nI bell) j) f) (σ, zc.1, nI k) U 1) := by
      intro j
      have e42 : (U.1 0 42 ≤ 0) = ((qL V ch k).length = 0) := by
        rw [hU.1]
        refine propext ((nI_leI (a := (qL V ch k).length) (b := 0) (by omega) (by omega)).trans ⟨fun q => by omega, fun q => by omega⟩)
      rw [jloop_s, fX12_drawn_B56_eq]
      rw [if_neg k3]
      show (Option.bind (fX12_layLine σ (nI k)) fun (q4 : jS) => _) = _
      rw [eU, Option.bind_some]
      simp only [e42]
    obtain ⟨R, hR⟩ : ∃ R, R = drQ V ch lw bell k zc := ⟨_, rfl⟩
    have eF : drF V ch lw bell (n + 1) k zc = drF V ch lw bell n (k + 1) (drQ V ch lw bell k zc) := rfl
    rw [eF, ← hR]
    have hbody : ∃ W, (∀ j, jloop (fX12_drawn_B56 (nI bell) j) (f + 1) (σ, zc.1, nI k) = jloop (fX12_drawn_B56 (nI bell) j) f (W, R.1, nI (k + 1))) ∧ mOff [18, 19, 20, 21, 22, 23, 24] [33, 34, 35, 36, 42] σ W ∧ (∀ x, x < ch → W.1 20 x = nI (R.2 x)) ∧ ∀ s, s ≠ k → W.1 23 s = σ.1 23 s := by
      by_cases a : (qL V ch k).length = 0
      · have eQ : R = zc := hR.trans (if_pos a)
        rw [eQ]
        refine ⟨U, fun j => ?_, oU', fun x hx => by rw [u20]; exact hq x hx, fun s _ => by rw [u23]⟩
        rw [step, if_pos a]
        unfold fX12_drawn_B56_J80
        obtain ⟨g, hg2⟩ : ∃ g, jN = g + 1 := ⟨jN - 1, by have := jN_ge; omega⟩
        have e0 : jloop (fX12_drawn_B85 (nI bell) (σ, zc.1, nI k) (fX12_drawn_B56_J156 (jloop (fX12_drawn_B56 (nI bell) j) f) (σ, zc.1, nI k))) (g + 1) (U, zc.1, (0 : Int32), (0 : Int32)) = fX12_drawn_B56_J156 (jloop (fX12_drawn_B56 (nI bell) j) f) (σ, zc.1, nI k) (U, zc.1) := by
          rw [jloop_s]
          exact drB85_end (Or.inr ⟨show ¬ (3600 : Int32) ≤ 0 by decide, rfl⟩)
        rw [hg2]
        refine Eq.trans e0 ?_
        unfold fX12_drawn_B56_J156
        rw [nI_1]
      · have eQ : R = dr (V 10 0) (qL V ch k) (dS V lw k (qL V ch k)) bell 3600 zc.1 0 0 zc.2 := hR.trans (if_neg a)
        have hL0 : mLn U (qL V ch k).length (fun i => la (qL V ch k) ((0 + i) % (qL V ch k).length)) := by
          refine ⟨hU.1, fun i hi => ?_⟩
          show U.1 24 i = nI (la (qL V ch k) ((0 + i) % (qL V ch k).length))
          rw [Nat.zero_add, Nat.mod_eq_of_lt hi]
          exact hU.2 i hi
        obtain ⟨W, h1, h2, h4, h5⟩ := sM_drawL (s := k) (l := qL V ch k) (a_ := (σ, zc.1, nI k)) hg hO hk3 hql (by omega) hb rfl 3600 0 jN zc.1 0 0 zc.2 U (by omega) (by have := jN_ge; omega) hmU hlU hL0 (by rw [u23]; exact h3 k (Nat.le_refl _) hk3) (by omega) (Nat.zero_le _) (fun x hx => by rw [u20]; exact hq x hx)
        rw [← eQ] at h1 h4
        refine ⟨W, fun j => ?_, oU'.trans (h2.mono (by simp) (by simp)), h4, fun s hs => by rw [h5 s hs, u23]⟩
        rw [step, if_neg a]
        unfold fX12_drawn_B56_J80
        refine Eq.trans (h1 _) ?_
        unfold fX12_drawn_B56_J156
        rw [nI_1]
    obtain ⟨W, w1, w2, w3, w4⟩ := hbody
    obtain ⟨σ', g1, g2, g3⟩ := ih (k + 1) f W R (by omega) (by omega) (hm.off w2 (by decide) (by decide)) (hlm.go w2 (by intro c h1 h2; simp <;> omega) (by decide)) w3 (fun s h1 h2 => by rw [w4 s (by omega)]; exact h3 s (by omega) h2)
    refine ⟨σ', fun j => ?_, w2.trans g2, g3⟩
    rw [w1]
    exact g1 j
/-! sums -/
def sF (g : Nat → Nat) : Nat → Nat → Nat
  | 0, _ => 0
  | n + 1, k => g k + sF g n (k + 1)
theorem sF_add {g h : Nat → Nat} : ∀ n k, sF (fun i => g i + h i) n k = sF g n k + sF h n k := by
  intro n
  induction n with
  | zero => intro k; rfl
  | succ n ih =>
    intro k
    show (g k + h k) + sF (fun i => g i + h i) n (k + 1) = (g k + sF g n (k + 1)) + (h k + sF h n (k + 1))
    rw [ih]
    omega
theorem sF_0 {g : Nat → Nat} : ∀ n k, (∀ i, k ≤ i → i < k + n → g i = 0) → sF g n k = 0 := by
  intro n
  induction n with
  | zero => intro k h; rfl
  | succ n ih =>
    intro k h
    show g k + sF g n (k + 1) = 0
    rw [ih (k + 1) (fun i h1 h2 => h i (by omega) (by omega)), h k (by omega) (by omega)]
theorem sF_one {g : Nat → Nat} {x : Nat} : ∀ n k, k ≤ x → x < k + n → (∀ i, i < k + n → i ≠ x → g i = 0) → sF g n k = g x := by
  intro n
  induction n with
  | zero => intro k h1 h2 h; omega
  | succ n ih =>
    intro k h1 h2 h
    show g k + sF g n (k + 1) = g x
    by_cases a : k = x
    · subst a
      rw [sF_0 n (k + 1) (fun i h1 h2 => h i (by omega) (by omega))]
      rfl
    · rw [h k (by omega) a, ih (k + 1) (by omega) (by omega) (fun i hi => h i (by omega))]
      exact Nat.zero_add _
theorem sF_congr {g h : Nat → Nat} : ∀ n k, (∀ i, k ≤ i → i < k + n → g i = h i) → sF g n k = sF h n k := by
  intro n
  induction n with
  | zero => intro k _; rfl
  | succ n ih =>
    intro k e
    show g k + sF g n (k + 1) = h k + sF h n (k + 1)
    rw [e k (by omega) (by omega), ih (k + 1) (fun i h1 h2 => e i (by omega) (by omega))]
/-- of those that are told -/
def slct (p : Int32) (g : Nat → Nat) : Nat → Nat := fun i => if p < 0 ∨ nI i = p then g i else 0
theorem slct_add {p : Int32} {g h : Nat → Nat} {n k : Nat} : sF (slct p (fun i => g i + h i)) n k = sF (slct p g) n k + sF (slct p h) n k := by
  rw [← sF_add]
  refine sF_congr n k (fun i _ _ => ?_)
  unfold slct
  by_cases a : p < 0 ∨ nI i = p
  · rw [if_pos a, if_pos a, if_pos a]
  · rw [if_neg a, if_neg a, if_neg a]
theorem sM_sumL {ch : Nat} {V : Nat → Nat → Int32} {M : jS} {g : Nat → Nat} {p4 z : Int32} (hm : nM M ch V) (hq : ∀ x, x < ch → M.1 20 x = nI (g x)) : ∀ (n k f u : Nat), k + n = ch → n < f → ∀ j, jloop (fX12_drawn_B165 p4 (M, z) j) f (nI u, nI k) = j (nI (u + sF (slct p4 g) n k)) := by
  have hc9 := hm.1
  intro n
  induction n with
  | zero =>
    intro k f u hk hf j
    obtain ⟨f, rfl⟩ : ∃ g, f = g + 1 := ⟨f - 1, by omega⟩
    obtain rfl : k = ch := by omega
    rw [jloop_s, fX12_drawn_B165_eq]
    rw [if_pos (show M.1 0 2 ≤ nI k by rw [hm.2.1]; exact Int32.le_refl _)]
    rfl
  | succ n ih =>
    intro k f u hk hf j
    obtain ⟨f, rfl⟩ : ∃ g, f = g + 1 := ⟨f - 1, by omega⟩
    have e : sF (slct p4 g) (n + 1) k = slct p4 g k + sF (slct p4 g) n (k + 1) := rfl
    rw [jloop_s, e, ← Nat.add_assoc, ← ih (k + 1) f (u + slct p4 g k) (by omega) (by omega) j, fX12_drawn_B165_eq]
    rw [if_neg (show ¬ M.1 0 2 ≤ nI k by rw [hm.2.1, nI_leI (by omega) (by omega)]; omega)]
    unfold fX12_drawn_B165_J186 fX12_drawn_B165_J198
    simp only [ob_nI (show k < 9 by omega) (show 9 < 2 ^ 31 by omega), nI_cl (show k < 2 ^ 31 by omega), hq k (by omega), nI_add, nI_1]
    unfold slct
    by_cases a : p4 < 0
    · rw [if_pos a, if_pos (Or.inl a)]
    · rw [if_neg a]
      by_cases b : nI k = p4
      · rw [if_pos b, if_pos (Or.inr b)]
      · rw [if_neg b, if_neg (fun q => q.elim a b)]
        rfl
theorem eq_drawnL {ch : Nat} {V : Nat → Nat → Int32} {lw : jL} {bell nn : Nat} {p4 : Int32} (hg : nG ch V) (hO : lOk lw) (hc9 : ch ≤ 9) (hb : bell ≤ 3600) (hnn : nn ≤ 10) : ∀ (n k f : Nat) (z : Int32) (tot : Nat → Nat) (σx σm : jS), k + n = nn → n < f → nM σm ch V → lM σm lw → lnD V ch lw tot (fun _ => 0) σx → σx.1 36 0 = z → σx.1 36 1 = V 10 0 → (∀ x, (∀ i, i < 3 → x ∉ qL V ch i) → tot x = 0) → ∃ tot' σx' σm', (∀ jx, jloop (fX11_drawn_B94 (nI nn) (nI bell) jx) f (σx, nI k) = jx σx') ∧ jloop (fX12_drawn_B43 (nI nn) (nI bell) p4) f (σm, z, nI (sF (slct p4 tot) ch 0), nI k) = some (nI (sF (slct p4 tot') ch 0), σm') ∧ lnD V ch lw tot' (fun _ => 0) σx' ∧ (∀ x, (∀ i, i < 3 → x ∉ qL V ch i) → tot' x = 0) ∧ jOff (36 :: lnC) σx σx' ∧ mOff [18, 19, 20, 21, 22, 23, 24] [33, 34, 35, 36, 42] σm σm' := by
  intro n
  induction n with
  | zero =>
    intro k f z tot σx σm hk hf hm hlm hD h0 h1 hz
    obtain ⟨f, rfl⟩ : ∃ g, f = g + 1 := ⟨f - 1, by omega⟩
    obtain rfl : k = nn := by omega
    refine ⟨tot, σx, σm, fun jx => ?_, ?_, hD, hz, jOff.rf, mOff.rf⟩
    · rw [jloop_s, fX11_drawn_B94_eq]
      exact if_pos (Int32.le_refl _)
    · rw [jloop_s, fX12_drawn_B43_eq]
      exact if_pos (Int32.le_refl _)
  | succ n ih =>
    intro k f z tot σx σm hk hf hm hlm hD h0 h1 hz
    obtain ⟨f, rfl⟩ : ∃ g, f = g + 1 := ⟨f - 1, by omega⟩
    have hkn : ¬ nI nn ≤ nI k := by rw [nI_leI (by omega) (by omega)]; omega
    obtain ⟨X, eX, oX, dX, x0, x1⟩ := sX_spD3 (b := tot) hc9 hO hb 3 0 jN σx (z, fun _ => 0) (by omega) (by have := jN_ge; omega) hD h0 h1
    have eX' : ∀ j, jloop (fX11_drawn_B103 (nI bell) j) jN (σx, (0 : Int32)) = j X := eX
    obtain ⟨N, eN, oN, zN⟩ := sM_beginAfternoon σm
    have hmN : nM N ch V := hm.off oN (by decide) (by decide)
    obtain ⟨M, eM, oM, qM⟩ := sM_dr3 hg hO hc9 hb 3 0 jN N (z, fun _ => 0) (by omega) (by have := jN_ge; omega) hmN (hlm.go oN (by intro c h1 h2; simp <;> omega) (by decide)) (fun x hx => (zN.1 x (by omega)).1) (fun s _ hs => zN.2 s hs)
    have eM' : ∀ j, jloop (fX12_drawn_B56 (nI bell) j) jN (N, z, (0 : Int32)) = j (M, (drF V ch lw bell 3 0 (z, fun _ => 0)).1) := eM
    have oM2 : mOff [18, 19, 20, 21, 22, 23, 24] [33, 34, 35, 36, 42] σm M := (oN.mono (by simp) (by simp)).trans oM
    have hmM : nM M ch V := hm.off oM2 (by decide) (by decide)
    have hout := fun x (hx : ∀ i, i < 3 → x ∉ qL V ch i) => drF_out (bell := bell) (lw := lw) hx 3 0 (z, fun _ => 0) (by omega)
    generalize hZ : drF V ch lw bell 3 0 (z, fun _ => 0) = zc at *
    have hD2 : lnD V ch lw (fun x => tot x + zc.2 x) (fun _ => 0) X := fun i hi => ⟨(dX i hi).1, (dX i hi).2.1, fun p hp => (dX i hi).2.2 p hp⟩
    obtain ⟨tot', σx', σm', q1, q2, q3, q4, q5, q6⟩ := ih (k + 1) f zc.1 (fun x => tot x + zc.2 x) X M (by omega) (by omega) hmM (hlm.go oM2 (by intro c h1 h2; simp <;> omega) (by decide)) hD2 x0 x1 (fun x hx => by
      have a := hz x hx
      have b := hout x hx
      show tot x + zc.2 x = 0
      rw [a, b]
      rfl)
    refine ⟨tot', σx', σm', fun jx => ?_, ?_, q3, q4, oX.trans q5, oM2.trans q6⟩
    · rw [jloop_s, ← q1 jx, fX11_drawn_B94_eq]
      rw [if_neg hkn, eX']
      unfold fX11_drawn_B94_J130
      rw [nI_1]
    · rw [jloop_s, ← q2, fX12_drawn_B43_eq]
      rw [if_neg hkn, slct_add]
      show (Option.bind (fX12_beginAfternoon σm) fun (q3 : jS) => _) = _
      rw [eN, Option.bind_some, eM']
      unfold fX12_drawn_B43_J162
      have e := sM_sumL (p4 := p4) (z := zc.1) hmM qM ch 0 jN (sF (slct p4 tot) ch 0) (by omega) (by have := jN_ge; omega)
      have e' : ∀ j, jloop (fX12_drawn_B165 p4 (M, zc.1) j) jN (nI (sF (slct p4 tot) ch 0), (0 : Int32)) = j (nI (sF (slct p4 tot) ch 0 + sF (slct p4 zc.2) ch 0)) := e
      rw [e']
      unfold fX12_drawn_B43_J204
      rw [nI_1]
theorem sX_ffL {ch : Nat} {V : Nat → Nat → Int32} {lw : jL} (hg : nG ch V) (hO : lOk lw) : ∀ (n k f : Nat) (σ : jS), k + n = 3 → n < f → nX σ ch V → lX σ lw → rLn σ → (∀ i, i < k → lnX σ (17 + 5 * i) i (qL V ch i) ∧ lnF σ (17 + 5 * i) V lw i (qL V ch i) (qL V ch i).length ∧ ∀ j, j < 9 → σ.1 (17 + 5 * i + 4) j = 0) → ∃ σ', (∀ j, jloop (fX11_drawn_B59 j) f (σ, nI k) = j σ') ∧ jOff lnC σ σ' ∧ rLn σ' ∧ ∀ i, i < 3 → lnX σ' (17 + 5 * i) i (qL V ch i) ∧ lnF σ' (17 + 5 * i) V lw i (qL V ch i) (qL V ch i).length ∧ ∀ j, j < 9 → σ'.1 (17 + 5 * i + 4) j = 0 := by
  intro n
  induction n with
  | zero =>
    intro k f σ hk hf hx hlx hr hE
    obtain ⟨f, rfl⟩ : ∃ g, f = g + 1 := ⟨f - 1, by omega⟩
    obtain rfl : k = 3 := by omega
    refine ⟨σ, fun j => ?_, jOff.rf, hr, hE⟩
    rw [jloop_s]
    unfold fX11_drawn_B59
    rw [if_pos (show (3 : Int32) ≤ nI 3 by decide)]
  | succ n ih =>
    intro k f σ hk hf hx hlx hr hE
    obtain ⟨f, rfl⟩ : ∃ g, f = g + 1 := ⟨f - 1, by omega⟩
    have hk3 : k < 3 := by omega
    have k3 : ¬ (3 : Int32) ≤ nI k := by rw [show (3 : Int32) = nI 3 from rfl, nI_leI (by omega) (by omega)]; omega
    obtain ⟨U, W, eU, eW, oW, lW, fW, zW⟩ := sX_ff hk3 hx hg hlx hO hr
    have hrW : rLn W := hr.off hk3 oW (fun i _ hi => five_ne hi) lW.1
    obtain ⟨σ', h1, h2, h3, h4⟩ := ih (k + 1) f W (by omega) (by omega) (hx.off oW (by simp <;> omega) (by simp <;> omega)) (hlx.go oW (by simp <;> omega) (by simp <;> omega)) hrW (fun i hi => by
      by_cases a : i = k
      · subst a; exact ⟨lW, fW, zW⟩
      · obtain ⟨a1, a2, a3⟩ := hE i (by omega)
        refine ⟨a1.go oW (by simp <;> omega) (by simp <;> omega), a2.go oW (by simp <;> omega) (by simp <;> omega), fun j hj => ?_⟩
        rw [oW.1 _ (by simp <;> omega)]
        exact a3 j hj)
    refine ⟨σ', fun j => ?_, (ff_mono hk3 oW).trans h2, h3, h4⟩
    rw [jloop_s, ← h1 j]
    unfold fX11_drawn_B59
    rw [if_neg k3]
    show (jaa (nI k) fun (o8 : Nat) => (Option.bind (fX5_form o8 σ) fun (q9 : jS) => (jaa (nI k) fun (o10 : Nat) => (Option.bind (fX5_foresee o10 q9) fun (q11 : jS) => (jloop (fX11_drawn_B59 j) f (q11, (nI k + (1 : Int32)))))))) = _
    rw [jaa_i hk3, eU, Option.bind_some, jaa_i hk3, eW, Option.bind_some, nI_1]
    rfl
theorem lnD_times {V : Nat → Nat → Int32} {ch c : Nat} {lw : jL} {W : jS} {tot : Nat → Nat} (hc9 : ch ≤ 9) (hg : nG ch V) (hc : c < ch) (h : lnD V ch lw tot (fun _ => 0) W) (hz : ∀ x, (∀ i, i < 3 → x ∉ qL V ch i) → tot x = 0) : fX11_timesOnAll W (nI c) = some (nI (tot c)) := by
  by_cases d : vN V 5 c < 3
  · obtain ⟨p, hp, ep⟩ := la_of ((qL_mem hc9).mpr ⟨hc, (rfl : vN V 5 c = vN V 5 c)⟩)
    have key := sX_times (W := W) (c := nI c) (ov := fun i => if i = vN V 5 c then nI (tot c) else 0) (fun i hi => by
      by_cases a : i = vN V 5 c
      · have := sX5_oftenOf (h i hi).1 (qL_ok hc9) hc9 (p := p) (by rw [a]; exact hp)
        rw [a] at this ⊢
        rw [ep] at this
        rw [if_pos rfl, this, (h _ d).2.2 p hp, ep]
        rfl
      · rw [if_neg a]
        exact sX5_oftenNo (h i hi).1 (qL_ok hc9) hc9 (fun z => a (((qL_mem hc9).mp z).2).symm) (by omega))
    rw [key]
    congr 1
    rcases (show vN V 5 c = 0 ∨ vN V 5 c = 1 ∨ vN V 5 c = 2 by omega) with e | e | e <;> simp [e]
  · have hno : ∀ i, i < 3 → c ∉ qL V ch i := fun i hi z => d (by have := ((qL_mem hc9).mp z).2; omega)
    have key := sX_times (W := W) (c := nI c) (ov := fun _ => 0) (fun i hi => sX5_oftenNo (h i hi).1 (qL_ok hc9) hc9 (hno i hi) (by omega))
    rw [key, hz c hno]
    rfl
theorem sX_allL {ch : Nat} {V : Nat → Nat → Int32} {W : jS} {tot : Nat → Nat} (hx : nX W ch V) (ht : ∀ c, c < ch → fX11_timesOnAll W (nI c) = some (nI (tot c))) : ∀ (n k f u : Nat), k + n = ch → n < f → jloop (fX11_timesOfAll_B4 W) f (nI u, nI k) = some (nI (u + sF tot n k)) := by
  have hc9 := hx.1
  intro n
  induction n with
  | zero =>
    intro k f u hk hf
    obtain ⟨f, rfl⟩ : ∃ g, f = g + 1 := ⟨f - 1, by omega⟩
    obtain rfl : k = ch := by omega
    rw [jloop_s]
    unfold fX11_timesOfAll_B4
    rw [if_pos (show W.1 1 1 ≤ nI k by rw [hx.2.1]; exact Int32.le_refl _)]
    rfl
  | succ n ih =>
    intro k f u hk hf
    obtain ⟨f, rfl⟩ : ∃ g, f = g + 1 := ⟨f - 1, by omega⟩
    have e : sF tot (n + 1) k = tot k + sF tot n (k + 1) := rfl
    rw [jloop_s, e, ← Nat.add_assoc, ← ih (k + 1) f (u + tot k) (by omega) (by omega)]
    unfold fX11_timesOfAll_B4
    rw [if_neg (show ¬ W.1 1 1 ≤ nI k by rw [hx.2.1, nI_leI (by omega) (by omega)]; omega)]
    simp only [ht k (by omega), Option.bind_some, nI_add, nI_1]
theorem eq_drawn {σx σm : jS} {ch : Nat} {V : Nat → Nat → Int32} {lw : jL} (h : rN σx σm ch V) (hlx : lX σx lw) (hlm : lM σm lw) (ho : lOk lw) (hr : rLn σx) (p1 p2 p3 p4 : Int32) : ∃ r σx' σm', fX11_drawn σx p1 p2 p3 p4 = some (r, σx') ∧ fX12_drawn σm p1 p2 p3 p4 = some (r, σm') ∧ rLn σx' ∧ jOff (36 :: lnC) σx σx' ∧ mOff [18, 19, 20, 21, 22, 23, 24] [33, 34, 35, 36, 42] σm σm' := by
  obtain ⟨hx, hm, hg⟩ := id h
  have hc9 := hx.1
  rw [fX11_drawn_eq, fX12_drawn_eq, sM_in, Option.bind_some]
  simp only [jb_jo, i_lt (x := p2), i_lt (y := p2)]
  have h1 : (1 : Int32).toInt = 1 := rfl
  have h10 : (10 : Int32).toInt = 10 := rfl
  have m1 : (-1 : Int32).toInt = -1 := rfl
  rw [h1, h10]
  by_cases a : 1 ≤ p2.toInt ∧ p2.toInt ≤ 10
  · rw [if_neg (show ¬ p2.toInt < 1 by omega), if_neg (show ¬ (10 : Int) < p2.toInt by omega), if_neg (fun (z : ¬ (1 ≤ p2.toInt ∧ p2.toInt ≤ 10)) => z a), sX11_isBell, sM_isBell, Option.bind_some, Option.bind_some]
    simp only [jb_jo]
    by_cases b : BL p3
    · rw [if_neg (fun (z : ¬ BL p3) => z b), if_neg (fun (z : ¬ BL p3) => z b), sM_isChild hm, Option.bind_some]
      simp only [jb_jo]
      obtain ⟨bell, b1, b2, rfl⟩ := BL_of b
      obtain ⟨nn, n1, n2, rfl⟩ := nI_of3 (lo := 1) (hi := 10) a.1 a.2 (by omega)
      have hch : σx.1 1 1 = nI ch := hx.2.1
      have main : ∀ g : Int32, (p4 = -1 ∨ isCh ch p4) → ∃ r σx' σm', (Option.bind (fX6_valueOf σx (0 : Int32) (10 : Int32)) fun (q2 : Int32) => (Option.bind (fX3_begin σx p1 q2) fun (q3 : jS) => ((jloop (fX11_drawn_B59 (fX11_drawn_J91 (nI nn) (nI bell) p4)) jN (q3, (0 : Int32)))))) = some (r, σx') ∧ fX12_drawn_J34 σm p1 (nI nn) (nI bell) p4 () = some (r, σm') ∧ rLn σx' ∧ jOff (36 :: lnC) σx σx' ∧ mOff [18, 19, 20, 21, 22, 23, 24] [33, 34, 35, 36, 42] σm σm' := by
        intro _ hp
        rw [show fX6_valueOf σx (0 : Int32) (10 : Int32) = some (V 10 0) from sX6_valueOf hx (jk7 (w := 10) (by omega) (by omega)), Option.bind_some]
        unfold fX3_begin
        rw [jst_e, jst_e, Option.bind_some]
        obtain ⟨S, hS⟩ : ∃ S, S = ju (ju σx 36 0 p1) 36 1 (V 10 0) := ⟨_, rfl⟩
        rw [← hS]
        have oS : jOff [36] σx S := by rw [hS]; exact (jOff.u (by simp)).uT (by simp)
        have s0 : S.1 36 0 = p1 := by rw [hS, ju_i (by decide), ju_s]
        have s1 : S.1 36 1 = V 10 0 := by rw [hS, ju_s]
        obtain ⟨F, eF, oF, rF, hF⟩ := sX_ffL hg ho 3 0 jN S (by omega) (by have := jN_ge; omega) (hx.off oS (by decide) (by decide)) (hlx.go oS (by decide) (by decide)) (hr.all oS (by intro i hi; simp <;> omega)) (fun i hi => absurd hi (by omega))
        have eF' : ∀ j, jloop (fX11_drawn_B59 j) jN (S, (0 : Int32)) = j F := eF
        rw [eF']
        have f36 : F.1 36 = S.1 36 := oF.1 36 (by rw [lnC_m]; omega)
        have dF : lnD V ch lw (fun _ => 0) (fun _ => 0) F := fun i hi => ⟨(hF i hi).1, (hF i hi).2.1, fun p hp => (hF i hi).2.2 p (by have := (qL_ok (V := V) (s := i) hc9).2.2; omega)⟩
        obtain ⟨tot, X, M, q1, q2, q3, q4, q5, q6⟩ := eq_drawnL (p4 := p4) hg ho hc9 b2 n2 nn 0 jN p1 (fun _ => 0) F σm (by omega) (by have := jN_ge; omega) hm hlm dF (by rw [f36, s0]) (by rw [f36, s1]) (fun _ _ => rfl)
        have q1' : ∀ jx, jloop (fX11_drawn_B94 (nI nn) (nI bell) jx) jN (F, (0 : Int32)) = jx X := q1
        have z0 : sF (slct p4 (fun _ => 0)) ch 0 = 0 := sF_0 ch 0 (fun i _ _ => by
          unfold slct
          by_cases e : p4 < 0 ∨ nI i = p4
          · rw [if_pos e]
          · rw [if_neg e])
        rw [z0] at q2
        have q2' : jloop (fX12_drawn_B43 (nI nn) (nI bell) p4) jN (σm, p1, (0 : Int32), (0 : Int32)) = some (nI (sF (slct p4 tot) ch 0), M) := q2
        have oX : jOff (36 :: lnC) σx X := ((oS.mono (by simp)).trans (oF.mono (fun c hc => List.mem_cons_of_mem _ hc))).trans q5
        have hxX : nX X ch V := hx.off oX (by rw [List.mem_cons, lnC_m]; omega) (by rw [List.mem_cons, lnC_m]; omega)
        have rX : rLn X := fun i hi => (q3 i hi).1.1
        refine ⟨nI (sF (slct p4 tot) ch 0), X, M, ?_, q2', rX, oX, q6⟩
        unfold fX11_drawn_J91
        rw [q1']
        unfold fX11_drawn_J136
        rcases hp with rfl | hp
        · rw [if_neg (show ¬ (0 : Int32) ≤ -1 by decide)]
          unfold fX11_timesOfAll
          have e := sX_allL hxX (fun c hc => lnD_times hc9 hg hc q3 q4) ch 0 jN 0 (by omega) (by have := jN_ge; omega)
          have e' : jloop (fX11_timesOfAll_B4 X) jN ((0 : Int32), (0 : Int32)) = some (nI (0 + sF tot ch 0)) := e
          rw [e', Option.bind_some, Nat.zero_add, sF_congr (h := slct (-1) tot) ch 0 (fun i _ _ => by
            unfold slct
            rw [if_pos (Or.inl (by decide))])]
        · obtain ⟨c, hc, rfl⟩ := isCh_nat hp
          rw [if_pos (nI_pos' (by omega)), lnD_times hc9 hg hc q3 q4, Option.bind_some, sF_one (x := c) ch 0 (Nat.zero_le _) (by omega) (fun i hi2 hi => ?_)]
          · unfold slct
            rw [if_pos (Or.inr rfl)]
          · unfold slct
            rw [if_neg]
            rintro (q | q)
            · exact absurd q (nI_pos (by omega))
            · exact hi ((nI_eq (by omega) (by omega)).mp q)
      by_cases c : p4 = -1
      · rw [if_neg (show ¬ p4 < (-1 : Int32) by rw [c]; decide), if_pos (show p4 < σx.1 1 1 by rw [c, hch, i_lt, nI_T (by omega), m1]; omega), if_pos c]
        exact main 0 (Or.inl c)
      · rw [if_neg c]
        by_cases d : isCh ch p4
        · have d' := d
          unfold isCh at d
          rw [if_neg (show ¬ p4 < (-1 : Int32) by rw [i_lt, m1]; omega), if_pos (show p4 < σx.1 1 1 by rw [hch, i_lt, nI_T (by omega)]; omega), if_neg (fun z => z d')]
          exact main 0 (Or.inr d')
        · rw [if_pos d]
          by_cases e : p4 < (-1 : Int32)
          · rw [if_pos e]
            exact ⟨_, _, _, rfl, rfl, hr, jOff.rf, mOff.rf⟩
          · rw [if_neg e, if_neg (show ¬ p4 < σx.1 1 1 from fun z => d (by
              have hn1 : p4.toInt ≠ -1 := fun y => c (by rw [i_eq, y]; rfl)
              rw [i_lt, m1] at e
              rw [hch, i_lt, nI_T (by omega)] at z
              exact ⟨by omega, by omega⟩))]
            exact ⟨_, _, _, rfl, rfl, hr, jOff.rf, mOff.rf⟩
    · rw [if_pos b, if_pos b]
      exact ⟨_, _, _, rfl, rfl, hr, jOff.rf, mOff.rf⟩
  · rw [if_pos a]
    by_cases b : p2.toInt < 1
    · rw [if_pos b]
      exact ⟨_, _, _, rfl, rfl, hr, jOff.rf, mOff.rf⟩
    · rw [if_neg b, if_pos (show (10 : Int) < p2.toInt by omega)]
      exact ⟨_, _, _, rfl, rfl, hr, jOff.rf, mOff.rf⟩
