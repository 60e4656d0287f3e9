/-! turns in thought: turn, longest, counter, unfair -/
abbrev T3 (ch : Nat) (p : Int32) : Prop := 0 ≤ p.toInt ∧ p.toInt.toNat / 100 < 3 ∧ p.toInt.toNat / 10 % 10 < ch ∧ (p.toInt.toNat % 10 = 9 ∨ (p.toInt.toNat % 10 < ch ∧ p.toInt.toNat % 10 ≠ p.toInt.toNat / 10 % 10))
abbrev Q8 (p : Int32) : Prop := 0 ≤ p.toInt ∧ p.toInt ≤ 8
theorem nI_ofT {p : Int32} (h : 0 ≤ p.toInt) : p = nI p.toInt.toNat ∧ p.toInt.toNat < 2 ^ 31 := by
  have hb := i_hi p
  refine ⟨?_, by omega⟩
  rw [← Int32.toInt_inj, nI_T (by omega)]
  omega
theorem dv100 {n : Nat} (h : n < 2 ^ 31) : nI n / (100 : Int32) = nI (n / 100) := pk_div (a := n) (d := 100) h (by omega) (by omega)
theorem dv10 {n : Nat} (h : n < 2 ^ 31) : nI n / (10 : Int32) = nI (n / 10) := pk_div (a := n) (d := 10) h (by omega) (by omega)
theorem rm10 {n : Nat} (h : n < 2 ^ 31) : nI n - nI n / (10 : Int32) * (10 : Int32) = nI (n % 10) := pk_rem (a := n) (d := 10) h (by omega) (by omega)
theorem isCh_n {ch k : Nat} (h : k < 2 ^ 31) : isCh ch (nI k) = (k < ch) := by
  unfold isCh
  rw [nI_T h]
  exact propext ⟨fun q => by omega, fun q => by omega⟩
theorem mayC_n {ch t c : Nat} (h : t < 2 ^ 31) (hc : c < 2 ^ 31) : mayC ch (nI t) (nI c) = (t = 9 ∨ (t ≠ c ∧ t < ch)) := by
  unfold mayC
  rw [isCh_n h, show (nI t = 9) = (t = 9) from propext (nI_eq (a := t) (b := 9) h (by omega)), show (nI t ≠ nI c) = (t ≠ c) from propext (not_congr (nI_eq h hc))]
theorem sM_areThree {σ : jS} {ch : Nat} {V : Nat → Nat → Int32} (h : nM σ ch V) (p : Int32) : fX12_areThree σ p = some (jo (T3 ch p)) := by
  unfold fX12_areThree
  by_cases h0 : p < 0
  · rw [if_pos h0, jo_0]
    rw [i_lt] at h0
    have : (0 : Int32).toInt = 0 := rfl
    exact fun q => by have := q.1; omega
  · rw [if_neg h0]
    have h00 : 0 ≤ p.toInt := by
      rw [i_lt] at h0
      have : (0 : Int32).toInt = 0 := rfl
      omega
    obtain ⟨e, hb⟩ := nI_ofT h00
    unfold T3
    generalize p.toInt.toNat = n at *
    subst e
    rw [dv100 hb, rm10 hb, dv10 hb, rm10 (show n / 10 < 2 ^ 31 by omega)]
    simp only [sM_isSwing, sM_isChild h, Option.bind_some, jb_jo, isCh_n (show n / 100 < 2 ^ 31 by omega), isCh_n (show n / 10 % 10 < 2 ^ 31 by omega), isCh_n (show n % 10 < 2 ^ 31 by omega), show (nI (n % 10) = (9 : Int32)) = (n % 10 = 9) from propext (nI_eq (a := n % 10) (b := 9) (by omega) (by omega)), show (nI (n % 10) = nI (n / 10 % 10)) = (n % 10 = n / 10 % 10) from propext (nI_eq (by omega) (by omega))]
    by_cases a : n / 100 < 3
    · rw [if_neg (fun q => q a)]
      by_cases b : n / 10 % 10 < ch
      · rw [if_neg (fun q => q b)]
        by_cases c : n % 10 = 9
        · rw [if_pos c, jo_1 ⟨h00, a, b, Or.inl c⟩]
        · rw [if_neg c]
          by_cases d : n % 10 < ch
          · rw [if_neg (fun q => q d)]
            by_cases e : n % 10 = n / 10 % 10
            · rw [if_pos e, jo_0 (by omega)]
            · rw [if_neg e, jo_1 ⟨h00, a, b, Or.inr ⟨d, e⟩⟩]
          · rw [if_pos d, jo_0 (by omega)]
      · rw [if_pos b, jo_0 (by omega)]
    · rw [if_pos a, jo_0 (by omega)]
theorem sM_areWaiting (σ : jS) (p : Int32) : fX12_areWaiting σ p = some (jo (Q8 p)) := by
  unfold fX12_areWaiting
  rw [sM_in, Option.bind_some]
  rfl
theorem sX11_isWaiting (σ : jS) (p : Int32) : fX11_isWaiting σ p = some (jo (Q8 p)) := by
  unfold fX11_isWaiting
  have h8 : (8 : Int32).toInt = 8 := rfl
  have h00 : (0 : Int32).toInt = 0 := rfl
  simp only [i_lt, i_le, h8, h00]
  by_cases h0 : p.toInt < 0
  · simp only [h0, if_true]
    rw [jo_0 (fun q => by have := q.1; omega)]
  · by_cases h1 : p.toInt ≤ 8
    · have h2 : ¬ (8 : Int) < p.toInt := by omega
      simp only [h0, h1, h2, if_true, if_false]
      rw [jo_1 ⟨by omega, by omega⟩]
    · have h2 : (8 : Int) < p.toInt := by omega
      simp only [h0, h1, h2, if_true, if_false]
      rw [jo_0 (fun q => by have := q.2; omega)]
theorem sX11_isTold {σ : jS} {ch : Nat} {V : Nat → Nat → Int32} (h : nX σ ch V) (p q : Int32) : fX11_isTold σ p q = some (jo (T3 ch p ∧ Q8 q)) := by
  unfold fX11_isTold
  by_cases h0 : p < 0
  · rw [if_pos h0, jo_0]
    rw [i_lt] at h0
    have : (0 : Int32).toInt = 0 := rfl
    exact fun q => by have := q.1.1; omega
  · rw [if_neg h0]
    have h00 : 0 ≤ p.toInt := by
      rw [i_lt] at h0
      have : (0 : Int32).toInt = 0 := rfl
      omega
    obtain ⟨e, hb⟩ := nI_ofT h00
    unfold T3
    generalize p.toInt.toNat = n at *
    subst e
    have hs : fX11_swingOf σ (nI n) = some (nI (n / 100)) := by
      unfold fX11_swingOf
      rw [dv100 hb]
    have hc : fX11_childOf σ (nI n) = some (nI (n / 10 % 10)) := by
      unfold fX11_childOf
      rw [dv10 hb, rm10 (show n / 10 < 2 ^ 31 by omega)]
    rw [rm10 hb]
    simp only [hs, hc, sX6_isSwing, sX6_isChild h, sX6_mayCount h, sX11_isWaiting, Option.bind_some, jb_jo, isCh_n (show n / 100 < 2 ^ 31 by omega), isCh_n (show n / 10 % 10 < 2 ^ 31 by omega), mayC_n (show n % 10 < 2 ^ 31 by omega) (show n / 10 % 10 < 2 ^ 31 by omega)]
    by_cases a : n / 100 < 3
    · rw [if_neg (fun q => q a)]
      by_cases b : n / 10 % 10 < ch
      · rw [if_neg (fun q => q b)]
        by_cases c : n % 10 = 9 ∨ (n % 10 ≠ n / 10 % 10 ∧ n % 10 < ch)
        · rw [if_neg (fun q => q c)]
          by_cases d : Q8 q
          · rw [if_neg (fun z => z d), jo_1 ⟨⟨h00, a, b, by omega⟩, d⟩]
          · rw [if_pos d, jo_0 (fun z => d z.2)]
        · rw [if_pos c, jo_0 (fun z => c (by have := z.1.2.2.2; omega))]
      · rw [if_pos b, jo_0 (fun z => b z.1.2.2.1)]
    · rw [if_pos a, jo_0 (fun z => a z.1.2.1)]
/-- what is told by sc -/
theorem T3_of {ch : Nat} {p : Int32} (h : T3 ch p) (hc9 : ch ≤ 9) : ∃ s c t : Nat, s < 3 ∧ c < ch ∧ cOk ch t c ∧ p / (100 : Int32) = nI s ∧ p / (10 : Int32) - p / (10 : Int32) / (10 : Int32) * (10 : Int32) = nI c ∧ p - p / (10 : Int32) * (10 : Int32) = nI t := by
  obtain ⟨h0, h1, h2, h3⟩ := h
  obtain ⟨e, hb⟩ := nI_ofT h0
  generalize p.toInt.toNat = n at *
  subst e
  refine ⟨n / 100, n / 10 % 10, n % 10, h1, h2, ?_, dv100 hb, ?_, rm10 hb⟩
  · unfold cOk; omega
  · rw [dv10 hb, rm10 (show n / 10 < 2 ^ 31 by omega)]
theorem Q8_of {p : Int32} (h : Q8 p) : ∃ q : Nat, q ≤ 8 ∧ p = nI q := by
  obtain ⟨k, h1, h2, e⟩ := nI_of3 (lo := 0) (hi := 8) (by have := h.1; omega) (by have := h.2; omega) (by omega)
  exact ⟨k, h2, e⟩
theorem jo_and {P Q : Prop} [Decidable P] [Decidable Q] {ρ : Type} {a b : ρ} : (if (¬ (P ∧ Q)) then a else b) = (if ¬ P then a else if ¬ Q then a else b) := by
  by_cases p : P <;> by_cases q : Q <;> simp [p, q]
theorem eq_turn {σx σm : jS} {ch : Nat} {V : Nat → Nat → Int32} {lw : jL} (h : rN σx σm ch V) (hlx : lX σx lw) (hlm : lM σm lw) (ho : lOk lw) (p1 p2 p3 : Int32) : ∃ r σx' σm', fX11_turn σx p1 p2 p3 = some (r, σx') ∧ fX12_turn σm p1 p2 p3 = some (r, σm') ∧ jOff [11, 12, 14, 15] σx σx' ∧ mOff [18, 19] [33, 34, 35, 36] σm σm' := by
  obtain ⟨hx, hm, hg⟩ := h
  unfold fX11_turn fX12_turn
  rw [sX11_isTold hx, sM_areThree hm]
  simp only [Option.bind_some, jb_jo, sM_areWaiting, sM_in]
  by_cases a : T3 ch p1
  · by_cases b : Q8 p2
    · rw [if_neg (fun z => z (And.intro a b)), if_neg (fun (z : ¬ T3 ch p1) => z a), if_neg (fun (z : ¬ Q8 p2) => z b)]
      have h3 : (3 : Int32).toInt = 3 := rfl
      have h0 : (0 : Int32).toInt = 0 := rfl
      simp only [i_lt, i_le, h3, h0]
      by_cases c : 0 ≤ p3.toInt ∧ p3.toInt ≤ 3
      · have c1 : ¬ p3.toInt < 0 := by omega
        simp only [c, c1, c.2, and_self, not_true, if_true, if_false]
        obtain ⟨s, c, t, hs, hc, ht, e1, e2, e3⟩ := T3_of a hx.1
        obtain ⟨q, hq, rfl⟩ := Q8_of b
        unfold fX11_swingOf fX11_childOf fX12_turnOf
        rw [e1, e2, e3, Option.bind_some, Option.bind_some]
        obtain ⟨X, eX, oX, TX, _⟩ := sX8_think (q := q) hx hg hlx ho hs hc ht
        obtain ⟨M, eM, oM, TM⟩ := sM_goTurn (q := q) hm hg hlm ho hs hc ht
        rw [eX, eM]
        simp only [Option.bind_some]
        have nX' : nX X ch V := hx.off oX (by decide) (by decide)
        have nM' : nM M ch V := hm.off oM (by decide) (by decide)
        have bN := tN_b V lw s c t q
        rw [sX8_countedOf nX' hg TX ht hc (by omega), sM_bentOf nM' hg ht hc, TM.2.1]
        simp only [Option.bind_some, TX.2.2.2.1, TX.2.2.2.2.1, TX.2.2.2.2.2.2, TM.2.2.1, TM.2.2.2]
        rw [sM_countedBy M (bentN_le hg ht) (by omega)]
        simp only [Option.bind_some]
        by_cases d0 : p3 = 0
        · simp only [d0, if_true]
          exact ⟨_, _, _, rfl, rfl, oX, oM⟩
        · by_cases d1 : p3 = 1
          · simp only [d0, d1, if_true, if_false]
            exact ⟨_, _, _, rfl, rfl, oX, oM⟩
          · by_cases d2 : p3 = 2
            · simp only [d0, d1, d2, if_true, if_false]
              exact ⟨_, _, _, rfl, rfl, oX, oM⟩
            · simp only [d0, d1, d2, if_true, if_false]
              exact ⟨_, _, _, rfl, rfl, oX, oM⟩
      · have c2 : p3.toInt < 0 ∨ ¬ p3.toInt < 0 ∧ ¬ p3.toInt ≤ 3 := by omega
        rcases c2 with c2 | c2
        · rw [if_pos c2, if_pos c]
          exact ⟨_, _, _, rfl, rfl, jOff.rf, mOff.rf⟩
        · rw [if_neg c2.1, if_neg c2.2, if_pos c]
          exact ⟨_, _, _, rfl, rfl, jOff.rf, mOff.rf⟩
    · rw [if_pos (fun z => b z.2), if_neg (fun z => z a), if_pos b]
      exact ⟨_, _, _, rfl, rfl, jOff.rf, mOff.rf⟩
  · rw [if_pos (fun z => a z.1), if_pos a]
    exact ⟨_, _, _, rfl, rfl, jOff.rf, mOff.rf⟩
theorem eq_unfair {σx σm : jS} {ch : Nat} {V : Nat → Nat → Int32} {lw : jL} (h : rN σx σm ch V) (hlx : lX σx lw) (hlm : lM σm lw) (ho : lOk lw) (p1 p2 : Int32) : ∃ r σx' σm', fX11_unfair σx p1 p2 = some (r, σx') ∧ fX12_unfair σm p1 p2 = some (r, σm') ∧ jOff [11, 12, 14, 15] σx σx' ∧ mOff [18, 19] [33, 34, 35, 36] σm σm' := by
  obtain ⟨hx, hm, hg⟩ := h
  unfold fX11_unfair fX12_unfair
  rw [sX11_isTold hx, sM_areThree hm]
  simp only [Option.bind_some, jb_jo, sM_areWaiting]
  by_cases a : T3 ch p1
  · by_cases b : Q8 p2
    · rw [if_neg (fun z => z (And.intro a b)), if_neg (fun z => z a), if_neg (fun z => z b)]
      obtain ⟨s, c, t, hs, hc, ht, e1, e2, e3⟩ := T3_of a hx.1
      obtain ⟨q, hq, rfl⟩ := Q8_of b
      unfold fX11_swingOf fX11_childOf fX12_turnOf
      rw [e1, e2, e3, Option.bind_some, Option.bind_some]
      obtain ⟨X, eX, oX, TX, _⟩ := sX8_think (q := q) hx hg hlx ho hs hc ht
      obtain ⟨M, eM, oM, TM⟩ := sM_goTurn (q := q) hm hg hlm ho hs hc ht
      rw [eX, eM]
      simp only [Option.bind_some]
      have nX' : nX X ch V := hx.off oX (by decide) (by decide)
      have nM' : nM M ch V := hm.off oM (by decide) (by decide)
      have r8 : M.1 0 10 = nI (vN V 8 0) := sM_v nM' hg (w := 8) (n := 0) (jk7 (by omega) (by omega))
      rw [sX6_vr nX' hg 8 8 rfl (jk7 (by omega) (by omega)), TM.2.1, TX.2.2.2.1, r8]
      exact ⟨_, _, _, rfl, rfl, oX, oM⟩
    · rw [if_pos (fun z => b z.2), if_neg (fun z => z a), if_pos b]
      exact ⟨_, _, _, rfl, rfl, jOff.rf, mOff.rf⟩
  · rw [if_pos (fun z => a z.1), if_pos a]
    exact ⟨_, _, _, rfl, rfl, jOff.rf, mOff.rf⟩
theorem jput_2 {V : Nat → Nat → Int32} {w n : Nat} {a b : Int32} : jput (jput V w n a) w n b = jput V w n b := by
  funext w' n'
  unfold jput
  by_cases e : w' = w ∧ n' = n
  · rw [if_pos e, if_pos e]
  · rw [if_neg e, if_neg e, if_neg e]
theorem jput_own {V : Nat → Nat → Int32} {w n : Nat} : jput V w n (V w n) = V := by
  funext w' n'
  unfold jput
  by_cases e : w' = w ∧ n' = n
  · rw [if_pos e, e.1, e.2]
  · rw [if_neg e]
theorem sM_lay4 {σ : jS} {ch : Nat} {V : Nat → Nat → Int32} (h : nM σ ch V) {c : Nat} (hc : c < ch) (v : Int32) : nM (ju σ 4 c v) ch (jput V 2 c v) := by
  have e := sM_lays h (jk0 (w := 2) (by omega) hc) v
  have h9 := h.1
  rw [show fX12_lays σ (nI 2) (nI c) v = some (ju σ 4 c v) by rw [lM_2, ob_nI (by omega) (by omega), nI_cl (by omega)]] at e
  obtain ⟨σ', e1, e2, e3⟩ := e
  cases e1
  exact e2
theorem good2 {ch c k : Nat} (hk : k ≤ 9) : goodV ch 2 c (nI k) := ⟨by
  have h1 : jlo 2 = 0 := rfl
  have h2 : jhi 2 = 9 := rfl
  rw [nI_T (by omega)]; omega, fun z => absurd z (by decide)⟩
theorem eq_longestL {ch : Nat} {V : Nat → Nat → Int32} {lw : jL} (hg : nG ch V) (ho : lOk lw) {p1 : Int32} {s c t q : Nat} (hs : s < 3) (hc : c < ch) (hc9 : ch ≤ 9) (ht : cOk ch t c) (e1 : p1 / (100 : Int32) = nI s) (e2 : p1 / (10 : Int32) - p1 / (10 : Int32) / (10 : Int32) * (10 : Int32) = nI c) (e3 : p1 - p1 / (10 : Int32) * (10 : Int32) = nI t) : ∀ (n k f : Nat) (fo mo x : Int32) (σx σm : jS), k + n = 10 → n < f → nX σx ch (jput V 2 c x) → nM σm ch (jput V 2 c x) → lX σx lw → lM σm lw → ∃ fo' x' σx' σm', (∀ jx, jloop (fX11_longest_B43 p1 (nI q) (nI (jxp 2 c)) jx) f (σx, fo, mo, nI k) = jx (σx', fo')) ∧ (∀ jm, jloop (fX12_longest_B42 p1 (nI q) (nI c) jm) f (σm, fo, mo, nI k) = jm (σm', fo')) ∧ nX σx' ch (jput V 2 c x') ∧ nM σm' ch (jput V 2 c x') ∧ jOff [2, 11, 12, 14, 15] σx σx' ∧ mOff [4, 18, 19] [33, 34, 35, 36] σm σm' := by
  intro n
  induction n with
  | zero =>
    intro k f fo mo x σx σm hk hf hx hm hlx hlm
    obtain ⟨f, rfl⟩ : ∃ g, f = g + 1 := ⟨f - 1, by omega⟩
    obtain rfl : k = 10 := by omega
    refine ⟨fo, x, σx, σm, fun jx => ?_, fun jm => ?_, hx, hm, jOff.rf, mOff.rf⟩
    · rw [jloop_s]
      unfold fX11_longest_B43
      rw [if_pos (show (9 : Int32) < nI 10 by decide)]
    · rw [jloop_s]
      unfold fX12_longest_B42
      rw [if_pos (show (9 : Int32) < nI 10 by decide)]
  | succ n ih =>
    intro k f fo mo x σx σm hk hf hx hm hlx hlm
    obtain ⟨f, rfl⟩ : ∃ g, f = g + 1 := ⟨f - 1, by omega⟩
    have hkp := jk0 (w := 2) (by omega) hc
    have hl := jxp_lt hkp hc9
    have hx1 : nX (ju σx 2 (jxp 2 c) (nI k)) ch (jput V 2 c (nI k)) := by
      have := hx.put hkp (nI k)
      rwa [jput_2] at this
    have hm1 : nM (ju σm 4 c (nI k)) ch (jput V 2 c (nI k)) := by
      have := sM_lay4 hm hc (nI k)
      rwa [jput_2] at this
    have hg1 : nG ch (jput V 2 c (nI k)) := hg.put (good2 (by omega))
    have ox1 : jOff [2, 11, 12, 14, 15] σx (ju σx 2 (jxp 2 c) (nI k)) := jOff.u (by decide)
    have om1 : mOff [4, 18, 19] [33, 34, 35, 36] σm (ju σm 4 c (nI k)) := mOff.u (by decide) (by decide)
    obtain ⟨X, eX, oX, TX, _⟩ := sX8_think (q := q) hx1 hg1 (hlx.go ox1 (by decide) (by decide)) ho hs hc ht
    obtain ⟨M, eM, oM, TM⟩ := sM_goTurn (q := q) hm1 hg1 (hlm.go om1 (by intro c h1 h2; simp; omega) (by decide)) ho hs hc ht
    have hx2 : nX X ch (jput V 2 c (nI k)) := hx1.off oX (by decide) (by decide)
    have hm2 : nM M ch (jput V 2 c (nI k)) := hm1.off oM (by decide) (by decide)
    have ox2 : jOff [2, 11, 12, 14, 15] σx X := ox1.trans (oX.mono (by decide))
    have om2 : mOff [4, 18, 19] [33, 34, 35, 36] σm M := om1.trans (oM.mono (by decide) (by decide))
    obtain ⟨fo', x', σx', σm', h1, h2, h3, h4, h5, h6⟩ := ih (k + 1) f (if nI (tSec (jput V 2 c (nI k)) lw s c t q) ≤ mo then fo else nI k) (if nI (tSec (jput V 2 c (nI k)) lw s c t q) ≤ mo then mo else nI (tSec (jput V 2 c (nI k)) lw s c t q)) (nI k) X M (by omega) (by omega) hx2 hm2 (hlx.go ox2 (by decide) (by decide)) (hlm.go om2 (by intro c h1 h2; simp; omega) (by decide))
    have k9 : ¬ (9 : Int32) < nI k := by rw [show (9 : Int32) = nI 9 from rfl, nI_ltI (by omega) (by omega)]; omega
    refine ⟨fo', x', σx', σm', fun jx => ?_, fun jm => ?_, h3, h4, ox2.trans h5, om2.trans h6⟩
    · rw [jloop_s, ← h1 jx]
      unfold fX11_longest_B43
      rw [if_neg k9]
      show (Option.bind (fX6_setAt σx (nI (jxp 2 c)) (nI k)) fun (q6 : jS) => _) = _
      rw [sX6_setAt _ hl, Option.bind_some]
      unfold fX11_swingOf fX11_childOf
      rw [e1, e2, e3, Option.bind_some, Option.bind_some, eX, Option.bind_some, TX.2.2.2.2.1]
      by_cases a : nI (tSec (jput V 2 c (nI k)) lw s c t q) ≤ mo
      · simp only [jlet_e, a, if_true, nI_1]
      · simp only [jlet_e, a, if_false, nI_1]
    · rw [jloop_s, ← h2 jm]
      unfold fX12_longest_B42
      rw [if_neg k9, ob_nI (by omega) (by omega), jst_e, nI_cl (by omega)]
      unfold fX12_turnOf
      rw [e1, e2, e3]
      show Option.bind (Option.bind (fX12_goTurn (ju σm 4 c (nI k)) (nI s) (nI c) (nI t) (nI q)) fun (q1 : jS) => (some q1)) (fun (q6 : jS) => _) = _
      rw [eM, Option.bind_some, Option.bind_some, TM.2.2.1]
      by_cases a : nI (tSec (jput V 2 c (nI k)) lw s c t q) ≤ mo
      · have a2 : ¬ mo < nI (tSec (jput V 2 c (nI k)) lw s c t q) := Int32.not_lt.mpr a
        simp only [jlet_e, a, a2, if_true, if_false, nI_1]
      · have a2 : mo < nI (tSec (jput V 2 c (nI k)) lw s c t q) := Int32.not_le.mp a
        simp only [jlet_e, a, a2, if_true, if_false, nI_1]
theorem eq_longest {σx σm : jS} {ch : Nat} {V : Nat → Nat → Int32} {lw : jL} (h : rN σx σm ch V) (hlx : lX σx lw) (hlm : lM σm lw) (ho : lOk lw) (p1 p2 : Int32) : ∃ r σx' σm', fX11_longest σx p1 p2 = some (r, σx') ∧ fX12_longest σm p1 p2 = some (r, σm') ∧ rN σx' σm' ch V ∧ jOff [2, 11, 12, 14, 15] σx σx' ∧ mOff [4, 18, 19] [33, 34, 35, 36] σm σm' := by
  obtain ⟨hx, hm, hg⟩ := id h
  unfold fX11_longest fX12_longest
  rw [sX11_isTold hx, sM_areThree hm]
  simp only [Option.bind_some, jb_jo, sM_areWaiting]
  by_cases a : T3 ch p1
  · by_cases b : Q8 p2
    · rw [if_neg (fun z => z (And.intro a b)), if_neg (fun z => z a), if_neg (fun z => z b)]
      obtain ⟨s, c, t, hs, hc, ht, e1, e2, e3⟩ := T3_of a hx.1
      obtain ⟨q, hq, rfl⟩ := Q8_of b
      have h9 := hx.1
      have hkp := jk0 (w := 2) (by omega) hc
      have hl := jxp_lt hkp h9
      have hx0 : nX σx ch (jput V 2 c (V 2 c)) := by rw [jput_own]; exact hx
      have hm0 : nM σm ch (jput V 2 c (V 2 c)) := by rw [jput_own]; exact hm
      obtain ⟨fo', x', X, M, f1, f2, n1, n2, o1, o2⟩ := eq_longestL (q := q) hg ho hs hc h9 ht e1 e2 e3 10 0 jN 0 (-1) (V 2 c) σx σm (by omega) (by have := jN_ge; omega) hx0 hm0 hlx hlm
      have r4 : σm.1 4 c = V 2 c := hm.2.2 2 c hkp
      refine ⟨fo', ju X 2 (jxp 2 c) (V 2 c), ju M 4 c (V 2 c), ?_, ?_, ⟨?_, ?_, hg⟩, o1.uT (by decide), o2.trans (mOff.u (by decide) (by decide))⟩
      · unfold fX11_childOf
        rw [e2, Option.bind_some, show fX6_placeOf σx (nI c) (2 : Int32) = some (nI (jxp 2 c)) from sX6_placeOf hx hkp, Option.bind_some, sX6_valueAt _ hl, Option.bind_some, jlet_e, hx.2.2 2 c hkp]
        have f1' : ∀ jx, jloop (fX11_longest_B43 p1 (nI q) (nI (jxp 2 c)) jx) jN (σx, (0 : Int32), (-1 : Int32), (0 : Int32)) = jx (X, fo') := f1
        rw [f1']
        show (Option.bind (fX6_setAt X (nI (jxp 2 c)) (V 2 c)) fun (q5 : jS) => (some (fo', q5))) = _
        rw [sX6_setAt _ hl, Option.bind_some]
      · rw [jst_e, e2, ob_nI (by omega) (by omega), nI_cl (by omega), jlet_e, r4]
        have f2' : ∀ jm, jloop (fX12_longest_B42 p1 (nI q) (nI c) jm) jN (σm, (0 : Int32), (-1 : Int32), (0 : Int32)) = jm (M, fo') := f2
        rw [f2', ob_nI (by omega) (by omega), jst_e]
      · have := n1.put hkp (V 2 c)
        rwa [jput_2, jput_own] at this
      · have := sM_lay4 n2 hc (V 2 c)
        rwa [jput_2, jput_own] at this
    · rw [if_pos (fun z => b z.2), if_neg (fun z => z a), if_pos b]
      exact ⟨_, _, _, rfl, rfl, h, jOff.rf, mOff.rf⟩
  · rw [if_pos (fun z => a z.1), if_pos a]
    exact ⟨_, _, _, rfl, rfl, h, jOff.rf, mOff.rf⟩
theorem eq_counterL {ch : Nat} {V : Nat → Nat → Int32} {lw : jL} (hg : nG ch V) (ho : lOk lw) {p1 : Int32} {s c q : Nat} (hs : s < 3) (hc : c < ch) (hc9 : ch ≤ 9) (e1 : p1 / (100 : Int32) = nI s) (e2 : p1 / (10 : Int32) - p1 / (10 : Int32) / (10 : Int32) * (10 : Int32) = nI c) : ∀ (n k f : Nat) (fx fm mo : Int32) (σx σm : jS), k + n = 10 → n < f → nX σx ch V → nM σm ch V → lX σx lw → lM σm lw → ((mo = -1 ∧ k ≤ 9) ∨ fx = fm) → ∃ fo' σx' σm', jloop (fX11_counter_B20 p1 (nI q)) f (σx, fx, mo, nI k) = some (fo', σx') ∧ jloop (fX12_counter_B25 p1 (nI q)) f (σm, fm, mo, nI k) = some (fo', σm') ∧ jOff [11, 12, 14, 15] σx σx' ∧ mOff [18, 19] [33, 34, 35, 36] σm σm' := by
  intro n
  induction n with
  | zero =>
    intro k f fx fm mo σx σm hk hf hx hm hlx hlm hI
    obtain ⟨f, rfl⟩ : ∃ g, f = g + 1 := ⟨f - 1, by omega⟩
    obtain rfl : k = 10 := by omega
    have hI : fx = fm := by
      rcases hI with q | q
      · omega
      · exact q
    subst hI
    refine ⟨fx, σx, σm, ?_, ?_, jOff.rf, mOff.rf⟩
    · rw [jloop_s]
      unfold fX11_counter_B20
      rw [if_pos (show (9 : Int32) < nI 10 by decide)]
    · rw [jloop_s]
      unfold fX12_counter_B25
      rw [if_pos (show (9 : Int32) < nI 10 by decide)]
  | succ n ih =>
    intro k f fx fm mo σx σm hk hf hx hm hlx hlm hI
    obtain ⟨f, rfl⟩ : ∃ g, f = g + 1 := ⟨f - 1, by omega⟩
    have k9 : ¬ (9 : Int32) < nI k := by rw [show (9 : Int32) = nI 9 from rfl, nI_ltI (by omega) (by omega)]; omega
    have ek9 : (nI k = (9 : Int32)) = (k = 9) := propext (nI_eq (a := k) (b := 9) (by omega) (by omega))
    have ekc : (nI k = nI c) = (k = c) := propext (nI_eq (by omega) (by omega))
    by_cases hmay : k = 9 ∨ (k ≠ c ∧ k < ch)
    · have ht : cOk ch k c := by unfold cOk; omega
      have nc : ¬ k = c := by omega
      obtain ⟨X, eX, oX, TX, _⟩ := sX8_think (q := q) hx hg hlx ho hs hc ht
      obtain ⟨M, eM, oM, TM⟩ := sM_goTurn (q := q) hm hg hlm ho hs hc ht
      have bs := tSec_b ho V s c k q
      obtain ⟨fo', σx', σm', h1, h2, h5, h6⟩ := ih (k + 1) f (if nI (tSec V lw s c k q) ≤ mo then fx else nI k) (if nI (tSec V lw s c k q) ≤ mo then fm else nI k) (if nI (tSec V lw s c k q) ≤ mo then mo else nI (tSec V lw s c k q)) X M (by omega) (by omega) (hx.off oX (by decide) (by decide)) (hm.off oM (by decide) (by decide)) (hlx.go oX (by decide) (by decide)) (hlm.go oM (by intro c h1 h2; simp; omega) (by decide)) (by
        right
        by_cases a : nI (tSec V lw s c k q) ≤ mo
        · rw [if_pos a, if_pos a]
          rcases hI with z | z
          · exfalso
            rw [z.1, i_le, nI_T (by omega), show (-1 : Int32).toInt = -1 from rfl] at a
            omega
          · exact z
        · rw [if_neg a, if_neg a])
      refine ⟨fo', σx', σm', ?_, ?_, oX.trans h5, oM.trans h6⟩
      · rw [jloop_s, ← h1]
        unfold fX11_counter_B20
        rw [if_neg k9]
        unfold fX11_swingOf fX11_childOf
        simp only [e1, e2, Option.bind_some, sX6_mayCount hx, jb_jo, mayC_n (show k < 2 ^ 31 by omega) (show c < 2 ^ 31 by omega), hmay, not_true, if_false, eX, TX.2.2.2.2.1, jlet_e, nI_1]
        by_cases a : nI (tSec V lw s c k q) ≤ mo
        · simp only [a, if_true]
        · simp only [a, if_false]
      · rw [jloop_s, ← h2]
        unfold fX12_counter_B25
        rw [if_neg k9]
        simp only [e1, e2, Option.bind_some, sM_isChild hm, jb_jo, isCh_n (show k < 2 ^ 31 by omega), ek9, ekc, nc, if_false, eM, TM.2.2.1, jlet_e, nI_1]
        by_cases a : nI (tSec V lw s c k q) ≤ mo
        · have a2 : ¬ mo < nI (tSec V lw s c k q) := Int32.not_lt.mpr a
          by_cases b : k = 9
          · subst b
            simp only [a, a2, if_true, if_false]
          · have b2 : k < ch := by omega
            simp only [a, a2, b, b2, not_true, if_true, if_false]
        · have a2 : mo < nI (tSec V lw s c k q) := Int32.not_le.mp a
          by_cases b : k = 9
          · subst b
            simp only [a, a2, if_true, if_false]
          · have b2 : k < ch := by omega
            simp only [a, a2, b, b2, not_true, if_true, if_false]
    · obtain ⟨fo', σx', σm', h1, h2, h5, h6⟩ := ih (k + 1) f fx fm mo σx σm (by omega) (by omega) hx hm hlx hlm (by
        rcases hI with z | z
        · exact Or.inl ⟨z.1, by omega⟩
        · exact Or.inr z)
      refine ⟨fo', σx', σm', ?_, ?_, h5, h6⟩
      · rw [jloop_s, ← h1]
        unfold fX11_counter_B20
        rw [if_neg k9]
        unfold fX11_swingOf fX11_childOf
        simp only [e1, e2, Option.bind_some, sX6_mayCount hx, jb_jo, mayC_n (show k < 2 ^ 31 by omega) (show c < 2 ^ 31 by omega), hmay, not_false_eq_true, if_true, jlet_e, nI_1]
      · rw [jloop_s, ← h2]
        unfold fX12_counter_B25
        rw [if_neg k9]
        have b : ¬ k = 9 := by omega
        simp only [e1, e2, Option.bind_some, sM_isChild hm, jb_jo, isCh_n (show k < 2 ^ 31 by omega), ek9, ekc, b, if_false, jlet_e, nI_1]
        by_cases d : k < ch
        · have d2 : k = c := by omega
          subst d2
          simp only [d, not_true, if_false, if_true]
        · simp only [d, not_false_eq_true, if_true]
theorem eq_counter {σx σm : jS} {ch : Nat} {V : Nat → Nat → Int32} {lw : jL} (h : rN σx σm ch V) (hlx : lX σx lw) (hlm : lM σm lw) (ho : lOk lw) (p1 p2 : Int32) : ∃ r σx' σm', fX11_counter σx p1 p2 = some (r, σx') ∧ fX12_counter σm p1 p2 = some (r, σm') ∧ jOff [11, 12, 14, 15] σx σx' ∧ mOff [18, 19] [33, 34, 35, 36] σm σm' := by
  obtain ⟨hx, hm, hg⟩ := id h
  unfold fX11_counter fX12_counter
  rw [sX11_isTold hx, sM_areThree hm]
  simp only [Option.bind_some, jb_jo, sM_areWaiting]
  by_cases a : T3 ch p1
  · by_cases b : Q8 p2
    · rw [if_neg (fun z => z (And.intro a b)), if_neg (fun z => z a), if_neg (fun z => z b)]
      obtain ⟨s, c, t, hs, hc, ht, e1, e2, e3⟩ := T3_of a hx.1
      obtain ⟨q, hq, rfl⟩ := Q8_of b
      exact eq_counterL (q := q) hg ho hs hc hx.1 e1 e2 10 0 jN 9 (-1) (-1) σx σm (by omega) (by have := jN_ge; omega) hx hm hlx hlm (Or.inl ⟨rfl, by omega⟩)
    · rw [if_pos (fun z => b z.2), if_neg (fun z => z a), if_pos b]
      exact ⟨_, _, _, rfl, rfl, jOff.rf, mOff.rf⟩
  · rw [if_pos (fun z => a z.1), if_pos a]
    exact ⟨_, _, _, rfl, rfl, jOff.rf, mOff.rf⟩
