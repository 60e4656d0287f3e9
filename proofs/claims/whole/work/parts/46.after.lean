/-! afternoons: the class's spending, the reference's heads that go to the end -/
theorem rO_0 {n p : Nat} (hp : p < n) (j : Nat) : rO n p j = 0 ↔ j ≤ p := by
  induction j with
  | zero => exact ⟨fun _ => Nat.zero_le _, fun _ => rfl⟩
  | succ j ih =>
    have e : rO n p (j + 1) = rO n p j + if j % n = p then 1 else 0 := rfl
    rw [e]
    by_cases a : j ≤ p
    · have z := ih.mpr a
      rw [z, Nat.mod_eq_of_lt (show j < n by omega)]
      by_cases b : j = p
      · rw [if_pos b]; omega
      · rw [if_neg b]; omega
    · have z : rO n p j ≠ 0 := fun q => a (ih.mp q)
      by_cases b : j % n = p
      · rw [if_pos b]; omega
      · rw [if_neg b]; omega
theorem rO_le {n p : Nat} (j : Nat) : rO n p j ≤ j := by
  induction j with
  | zero => exact Nat.le_refl _
  | succ j ih =>
    have e : rO n p (j + 1) = rO n p j + if j % n = p then 1 else 0 := rfl
    rw [e]
    by_cases b : j % n = p
    · rw [if_pos b]; omega
    · rw [if_neg b]; omega
theorem bhd_mod {n j : Nat} (hn : 0 < n) : bhd n (j % n) = (j + 1) % n := by
  have h1 := Nat.mod_lt j hn
  have h2 := Nat.div_add_mod j n
  have e : (j + 1) % n = (j % n + 1) % n := by
    rw [show j + 1 = n * (j / n) + (j % n + 1) by omega, Nat.mul_add_mod]
  unfold bhd
  rw [e]
  by_cases a : j % n + 1 < n
  · rw [if_pos a, Nat.mod_eq_of_lt a]
  · rw [if_neg a, show j % n + 1 = n by omega, Nat.mod_self]
theorem sX5_spendNL {ch : Nat} {V : Nat → Nat → Int32} {lw : jL} {o s : Nat} {l : List Nat} (ho : jLn o) (hO : lOk lw) (hl : qOk ch l) (hne : 0 < l.length) {bell : Nat} (hb : bell ≤ 3600) : ∀ (m j f : Nat) (σ : jS), j + m = 3600 → m < f → lnX σ o s l → lnF σ o V lw s l l.length → rT (dS V lw s l) l.length j ≤ bell → (∀ p, p < l.length → σ.1 (o + 4) p = nI (rO l.length p j)) → ∃ σ', jloop (fX5_spendN_B8 o (nI bell)) f (σ, nI (rT (dS V lw s l) l.length j), nI (j % l.length), nI j) = some σ' ∧ jOff [o, o + 4] σ σ' ∧ lnX σ' o s l ∧ σ'.1 o 8 = nI (rT (dS V lw s l) l.length (rJ (dS V lw s l) l.length bell m j)) ∧ ∀ p, p < l.length → σ'.1 (o + 4) p = nI (rO l.length p (rJ (dS V lw s l) l.length bell m j)) := by
  have hbo := jLn_b ho
  have h9 := hl.2.2
  intro m
  induction m with
  | zero =>
    intro j f σ hj hf hL hF ht hq
    obtain ⟨f, rfl⟩ : ∃ g, f = g + 1 := ⟨f - 1, by omega⟩
    obtain rfl : j = 3600 := by omega
    have e : rJ (dS V lw s l) l.length bell 0 3600 = 3600 := rfl
    rw [e, jloop_s, fX5_spendN_B8_eq]
    rw [if_pos (show (3600 : Int32) ≤ nI 3600 by decide), jst_e]
    refine ⟨_, rfl, jOff.u (by simp), ⟨?_, ?_, ?_⟩, ?_, fun p hp => ?_⟩
    · rw [ju_i (by decide), hL.1]
    · rw [ju_i (by decide), hL.2.1]
    · rw [ju_n (by omega)]; exact hL.2.2
    · rw [ju_s]
    · rw [ju_n (by omega)]; exact hq p hp
  | succ m ih =>
    intro j f σ hj hf hL hF ht hq
    obtain ⟨f, rfl⟩ : ∃ g, f = g + 1 := ⟨f - 1, by omega⟩
    have hjl := Nat.mod_lt j hne
    have hd2 : dS V lw s l (j % l.length) ≤ 1200 := (tSec_b hO V s _ _ _).2
    have j36 : ¬ (3600 : Int32) ≤ nI j := by rw [show (3600 : Int32) = nI 3600 from rfl, nI_leI (by omega) (by omega)]; omega
    have e1 : rT (dS V lw s l) l.length (j + 1) = rT (dS V lw s l) l.length j + dS V lw s l (j % l.length) := rfl
    have eJ : rJ (dS V lw s l) l.length bell (m + 1) j = if bell < rT (dS V lw s l) l.length (j + 1) then j else rJ (dS V lw s l) l.length bell m (j + 1) := rfl
    rw [jloop_s, fX5_spendN_B8_eq]
    rw [if_neg j36]
    have e0 : ¬ σ.1 o 7 ≤ 0 := by
      rw [hL.2.1]
      intro z
      have := (nI_leI (a := l.length) (b := 0) (by omega) (by omega)).mp z
      omega
    rw [if_neg e0]
    unfold fX5_spendN_B8_J38 fX5_spendN_B8_J39
    rw [if_pos rfl]
    unfold fX5_spendN_B8_J54
    show ∃ σ', (ob (nI (j % l.length)) 9 (if (nI (rT (dS V lw s l) l.length j) + (σ.1 (o + 2) (nI (j % l.length)).toNatClampNeg)) ≤ nI bell then (ob (nI (j % l.length)) 9 (ob (nI (j % l.length)) 9 (ob (nI (j % l.length)) 9 (jst (ju σ (o + 4) (nI (j % l.length)).toNatClampNeg ((σ.1 (o + 4) (nI (j % l.length)).toNatClampNeg) + (1 : Int32))) fun (σ4 : jS) => ((fX5_spendN_B8_J91 o (jloop (fX5_spendN_B8 o (nI bell)) f) (σ, nI (rT (dS V lw s l) l.length j), nI (j % l.length), nI j)) (σ4, (nI (rT (dS V lw s l) l.length j) + (σ.1 (o + 2) (nI (j % l.length)).toNatClampNeg)))))))) else (jst (ju σ o 8 (nI (rT (dS V lw s l) l.length j))) fun (σ5 : jS) => (some σ5)))) = some σ' ∧ _
    rw [ob_nI (by omega) (by omega), ob_nI (by omega) (by omega), ob_nI (by omega) (by omega), ob_nI (by omega) (by omega), nI_cl (by omega), (hF _ hjl).1, nI_add, ← e1, hq _ hjl, nI_1]
    rw [eJ]
    by_cases a : bell < rT (dS V lw s l) l.length (j + 1)
    · rw [if_pos a, if_neg (fun z => by have := (nI_leI (by omega) (by omega)).mp z; omega), jst_e]
      refine ⟨_, rfl, jOff.u (by simp), ⟨?_, ?_, ?_⟩, ?_, fun p hp => ?_⟩
      · rw [ju_i (by decide), hL.1]
      · rw [ju_i (by decide), hL.2.1]
      · rw [ju_n (by omega)]; exact hL.2.2
      · rw [ju_s]
      · rw [ju_n (by omega)]; exact hq p hp
    · rw [if_neg a, if_pos ((nI_leI (by omega) (by omega)).mpr (by omega)), jst_e]
      have o1 : jOff [o, o + 4] σ (ju σ (o + 4) (j % l.length) (nI (rO l.length (j % l.length) j + 1))) := jOff.u (by simp)
      have hL1 : lnX (ju σ (o + 4) (j % l.length) (nI (rO l.length (j % l.length) j + 1))) o s l := by
        unfold lnX at *
        rw [ju_n (show o ≠ o + 4 by omega), ju_n (show o + 1 ≠ o + 4 by omega)]
        exact hL
      obtain ⟨σ', h1, h2, h3, h4, h5⟩ := ih (j + 1) f (ju σ (o + 4) (j % l.length) (nI (rO l.length (j % l.length) j + 1))) (by omega) (by omega) hL1 (hF.go o1 (by simp) (by simp)) (by omega) (by
        intro p hp
        have e : rO l.length p (j + 1) = rO l.length p j + if j % l.length = p then 1 else 0 := rfl
        rw [ju_r, e]
        by_cases b : p = j % l.length
        · subst b
          rw [if_pos rfl, if_pos rfl]
        · rw [if_neg b, if_neg (fun z => b z.symm), hq p hp]
          rfl)
      refine ⟨σ', ?_, o1.trans h2, h3, h4, h5⟩
      rw [← h1]
      unfold fX5_spendN_B8_J91
      show (Option.bind (fX5_behind o (ju σ (o + 4) (j % l.length) (nI (rO l.length (j % l.length) j + 1))) (nI (j % l.length))) fun (q3 : Int32) => _) = _
      rw [sX5_behind hL1 (by omega) h9, Option.bind_some, bhd_mod hne, nI_1]
theorem sX5_spendN {ch : Nat} {V : Nat → Nat → Int32} {lw : jL} {o s : Nat} {l : List Nat} {σ : jS} (ho : jLn o) (hO : lOk lw) (hl : qOk ch l) {bell : Nat} (hb : bell ≤ 3600) (hL : lnX σ o s l) (hF : lnF σ o V lw s l l.length) (hq : ∀ p, p < 9 → σ.1 (o + 4) p = 0) : ∃ σ', fX5_spendN o σ (nI bell) = some σ' ∧ jOff [o, o + 4] σ σ' ∧ lnX σ' o s l ∧ σ'.1 o 8 = nI (if l.length = 0 then 0 else rT (dS V lw s l) l.length (rA (dS V lw s l) l.length bell)) ∧ ∀ p, p < l.length → σ'.1 (o + 4) p = nI (rO l.length p (rA (dS V lw s l) l.length bell)) := by
  have hbo := jLn_b ho
  have h9 := hl.2.2
  unfold fX5_spendN
  by_cases a : l.length = 0
  · obtain ⟨f, hf⟩ : ∃ g, jN = g + 1 := ⟨jN - 1, by have := jN_ge; omega⟩
    rw [hf, jloop_s, fX5_spendN_B8_eq]
    rw [if_neg (show ¬ (3600 : Int32) ≤ 0 by decide), if_pos (show σ.1 o 7 ≤ 0 by rw [hL.2.1, a]; decide), jst_e, if_pos a]
    refine ⟨_, rfl, jOff.u (by simp), ⟨?_, ?_, ?_⟩, ?_, fun p hp => absurd hp (by omega)⟩
    · rw [ju_i (by decide), hL.1]
    · rw [ju_i (by decide), hL.2.1]
    · rw [ju_n (by omega)]; exact hL.2.2
    · rw [ju_s]; rfl
  · rw [if_neg a]
    have e : (σ, (0 : Int32), (0 : Int32), (0 : Int32)) = (σ, nI (rT (dS V lw s l) l.length 0), nI (0 % l.length), nI 0) := by
      rw [Nat.zero_mod]
      rfl
    rw [e]
    exact sX5_spendNL ho hO hl (by omega) hb 3600 0 jN σ (by omega) (by have := jN_ge; omega) hL hF (Nat.zero_le _) (fun p hp => hq p (by omega))
theorem sX5_oftenOf {ch : Nat} {σ : jS} {o s : Nat} {l : List Nat} (hL : lnX σ o s l) (hl : qOk ch l) (h9 : ch ≤ 9) {p : Nat} (hp : p < l.length) : fX5_oftenOf o σ (nI (la l p)) = some (σ.1 (o + 4) p) := by
  have := hl.2.2
  unfold fX5_oftenOf
  rw [sX5_placeOf hL hl h9 hp, Option.bind_some, if_pos (nI_pos' (by omega)), ob_nI (by omega) (by omega), nI_cl (by omega)]
theorem sX5_oftenNo {ch : Nat} {σ : jS} {o s : Nat} {l : List Nat} (hL : lnX σ o s l) (hl : qOk ch l) (h9 : ch ≤ 9) {c : Nat} (hc : c ∉ l) (hc2 : c < 2 ^ 31) : fX5_oftenOf o σ (nI c) = some 0 := by
  unfold fX5_oftenOf
  rw [sX5_placeNo hL hl h9 hc hc2, Option.bind_some, if_neg (by decide)]
theorem sX5_roundsOf {ch : Nat} {σ : jS} {o s : Nat} {l : List Nat} (hL : lnX σ o s l) (hl : qOk ch l) (h9 : ch ≤ 9) {p : Nat} (hp : p < l.length) : fX5_roundsOf o σ (nI (la l p)) = some (σ.1 (o + 3) p) := by
  have := hl.2.2
  unfold fX5_roundsOf
  rw [sX5_placeOf hL hl h9 hp, Option.bind_some, if_pos (nI_pos' (by omega)), ob_nI (by omega) (by omega), nI_cl (by omega)]
/-! the reference's line -/
def mvf (f : Nat → Nat) (n p k : Nat) : Nat := if k < p then f k else if k + 1 < n then f (k + 1) else f p
def mLn (σ : jS) (n : Nat) (f : Nat → Nat) : Prop := σ.1 0 42 = nI n ∧ ∀ k, k < n → σ.1 24 k = nI (f k)
theorem mLn.go {S F : List Nat} {σ σ' : jS} {n : Nat} {f : Nat → Nat} (h : mLn σ n f) (k : mOff S F σ σ') (h1 : 24 ∉ S) (h2 : 42 ∉ F) : mLn σ' n f := by
  unfold mLn at *
  rw [k.1 24 h1 (by decide), k.2.1 42 h2]
  exact h
theorem sM_toEndL {n p : Nat} {f : Nat → Nat} (hn : n ≤ 9) : ∀ (m k g : Nat) (σ : jS), k + m + 1 = n → m < g → p ≤ k → σ.1 0 42 = nI n → (∀ i, i < n → σ.1 24 i = nI (if i < p then f i else if i < k then f (i + 1) else f i)) → ∃ σ', (∀ j39, jloop (fX12_toEnd_B9 j39) g (σ, nI k) = j39 σ') ∧ mOff [24] [] σ σ' ∧ ∀ i, i + 1 < n → σ'.1 24 i = nI (if i < p then f i else f (i + 1)) := by
  intro m
  induction m with
  | zero =>
    intro k g σ hk hg hp h42 h
    obtain ⟨g, rfl⟩ : ∃ g', g = g' + 1 := ⟨g - 1, by omega⟩
    refine ⟨σ, fun j => ?_, mOff.rf, fun i hi => ?_⟩
    · rw [jloop_s]
      unfold fX12_toEnd_B9
      rw [if_pos (show σ.1 0 42 ≤ nI k + 1 by rw [h42, nI_1, nI_leI (by omega) (by omega)]; omega)]
    · rw [h i (by omega)]
      by_cases a : i < p
      · rw [if_pos a, if_pos a]
      · rw [if_neg a, if_neg a, if_pos (by omega)]
  | succ m ih =>
    intro k g σ hk hg hp h42 h
    obtain ⟨g, rfl⟩ : ∃ g', g = g' + 1 := ⟨g - 1, by omega⟩
    obtain ⟨σ', h1, h2, h3⟩ := ih (k + 1) g (ju σ 24 k (nI (f (k + 1)))) (by omega) (by omega) (by omega) (by rw [ju_n (by decide), h42]) (by
      intro i hi
      rw [ju_r]
      by_cases a : i = k
      · subst a
        rw [if_pos rfl, if_neg (by omega), if_pos (by omega)]
      · rw [if_neg a, h i hi]
        by_cases b : i < p
        · rw [if_pos b, if_pos b]
        · rw [if_neg b, if_neg b]
          by_cases c : i < k
          · rw [if_pos c, if_pos (by omega)]
          · rw [if_neg c, if_neg (by omega)])
    refine ⟨σ', fun j => ?_, (mOff.u (by decide) (by decide)).trans h2, h3⟩
    rw [jloop_s, ← h1 j]
    unfold fX12_toEnd_B9
    rw [if_neg (show ¬ σ.1 0 42 ≤ nI k + 1 by rw [h42, nI_1, nI_leI (by omega) (by omega)]; omega), nI_1, ob_nI (by omega) (by omega), ob_nI (by omega) (by omega), jst_e, nI_cl (by omega), nI_cl (by omega), h (k + 1) (by omega), if_neg (by omega), if_neg (by omega)]
theorem sM_toEnd {σ : jS} {n p : Nat} {f : Nat → Nat} (hn : n ≤ 9) (hp : p < n) (h : mLn σ n f) : ∃ σ', fX12_toEnd σ (nI p) = some σ' ∧ mOff [24] [] σ σ' ∧ mLn σ' n (mvf f n p) := by
  obtain ⟨U, h1, h2, h3⟩ := sM_toEndL (p := p) (f := f) hn (n - 1 - p) p jN σ (by omega) (by have := jN_ge; omega) (Nat.le_refl _) h.1 (by
    intro i hi
    rw [h.2 i hi]
    by_cases a : i < p
    · rw [if_pos a]
    · rw [if_neg a, if_neg a])
  rw [fX12_toEnd_eq, ob_nI (by omega) (by omega), h1]
  unfold fX12_toEnd_J39
  have e42 : U.1 0 42 = nI n := by rw [h2.2.1 42 (by decide), h.1]
  rw [e42, show nI n - (1 : Int32) = nI (n - 1) from pk_sub (a := n) (b := 1) (by omega), ob_nI (by omega) (by omega), jst_e, nI_cl (by omega), nI_cl (by omega), h.2 p hp]
  refine ⟨_, rfl, h2.trans (mOff.u (by decide) (by decide)), ?_, fun k hk => ?_⟩
  · rw [ju_n (by decide), e42]
  · rw [ju_r]
    unfold mvf
    by_cases a : k = n - 1
    · rw [if_pos a, if_neg (by omega), if_neg (by omega)]
    · rw [if_neg a, h3 k (by omega)]
      by_cases b : k < p
      · rw [if_pos b, if_pos b]
      · rw [if_neg b, if_neg b, if_pos (by omega)]
theorem sM_layL {ch : Nat} {V : Nat → Nat → Int32} {s : Nat} (hg : nG ch V) (hs : s < 3) : ∀ (n k f : Nat) (σ : jS), k + n = ch → n < f → nM σ ch V → σ.1 0 42 = nI (qP V ch s k).length → lR (σ.1 24) (qP V ch s k) → ∃ σ', jloop (fX12_layLine_B7 (nI s)) f (σ, nI k) = some σ' ∧ mOff [24] [42] σ σ' ∧ σ'.1 0 42 = nI (qP V ch s ch).length ∧ lR (σ'.1 24) (qP V ch s ch) := by
  intro n
  induction n with
  | zero =>
    intro k f σ hk hf hm h42 hq
    obtain ⟨f, rfl⟩ : ∃ g, f = g + 1 := ⟨f - 1, by omega⟩
    obtain rfl : k = ch := by omega
    refine ⟨σ, ?_, mOff.rf, h42, hq⟩
    rw [jloop_s]
    unfold fX12_layLine_B7
    rw [if_pos (show σ.1 0 2 ≤ nI k by rw [hm.2.1]; exact Int32.le_refl _)]
  | succ n ih =>
    intro k f σ hk hf hm h42 hq
    obtain ⟨f, rfl⟩ : ∃ g, f = g + 1 := ⟨f - 1, by omega⟩
    have h9 := hm.1
    have hkc : k < ch := by omega
    have hl := qP_len (V := V) (ch := ch) (s := s) (k := k)
    have v5 := (vN_eq hg (jk0 (w := 5) (by omega) hkc)).2
    have b5 : jhi 5 = 3 := rfl
    have r5 : σ.1 7 k = nI (vN V 5 k) := sM_v hm hg (w := 5) (jk0 (by omega) hkc)
    have e0 : ¬ σ.1 0 2 ≤ nI k := by rw [hm.2.1, nI_leI (by omega) (by omega)]; omega
    by_cases a : vN V 5 k = s
    · have e : qP V ch s (k + 1) = qP V ch s k ++ [k] := by rw [qP_s, if_pos ⟨hkc, a⟩]
      have o1 : mOff [24] [42] σ (ju (ju σ 24 (qP V ch s k).length (nI k)) 0 42 (nI ((qP V ch s k).length + 1))) := (mOff.u (by decide) (by decide)).trans (mOff.f (by decide))
      obtain ⟨σ', h1, h2', h3, h4⟩ := ih (k + 1) f (ju (ju σ 24 (qP V ch s k).length (nI k)) 0 42 (nI ((qP V ch s k).length + 1))) (by omega) (by omega) (hm.off o1 (by decide) (by decide)) (by rw [ju_s, e, List.length_append]; rfl) (by
        rw [e]
        refine hq.snoc ?_ (fun j hj => ?_)
        · rw [ju_n (by decide), ju_s]
        · rw [ju_n (by decide), ju_i (by omega)])
      refine ⟨σ', ?_, o1.trans h2', h3, h4⟩
      rw [jloop_s, ← h1, fX12_layLine_B7_eq]
      rw [if_neg e0, ob_nI (by omega) (by omega), nI_cl (by omega), r5, a, if_pos rfl, h42, ob_nI (by omega) (by omega), jst_e, nI_cl (by omega), jst_e, ju_n (by decide), h42, nI_1]
      unfold fX12_layLine_B7_J48
      rw [nI_1]
    · have e : qP V ch s (k + 1) = qP V ch s k := by rw [qP_s, if_neg (fun z => a z.2)]
      obtain ⟨σ', h1, h2', h3, h4⟩ := ih (k + 1) f σ (by omega) (by omega) hm (by rw [e, h42]) (by rw [e]; exact hq)
      refine ⟨σ', ?_, h2', h3, h4⟩
      rw [jloop_s, ← h1, fX12_layLine_B7_eq]
      rw [if_neg e0, ob_nI (by omega) (by omega), nI_cl (by omega), r5, if_neg (fun z => a ((nI_eq (by omega) (by omega)).mp z))]
      unfold fX12_layLine_B7_J48
      rw [nI_1]
theorem sM_layLine {ch : Nat} {V : Nat → Nat → Int32} {s : Nat} {σ : jS} (hm : nM σ ch V) (hg : nG ch V) (hs : s < 3) : ∃ σ', fX12_layLine σ (nI s) = some σ' ∧ mOff [24] [42] σ σ' ∧ mLn σ' (qL V ch s).length (la (qL V ch s)) := by
  have h9 := hm.1
  unfold fX12_layLine
  rw [jst_e]
  have o0 : mOff [24] [42] σ (ju σ 0 42 0) := mOff.f (by decide)
  obtain ⟨σ', h1, h2, h3, h4⟩ := sM_layL hg hs ch 0 jN (ju σ 0 42 0) (by omega) (by have := jN_ge; omega) (hm.off o0 (by decide) (by decide)) (by rw [ju_s]; rfl) (fun k hk => absurd hk (by rw [qP_0]; exact Nat.not_lt_zero _))
  rw [qL_ch h9] at h3 h4
  exact ⟨σ', h1, o0.trans h2, h3, h4⟩
/-- the turn of the one ahead -/
def hS (V : Nat → Nat → Int32) (lw : jL) (s n : Nat) (f : Nat → Nat) : Nat := tSec V lw s (f 0) (if 1 < n then f 1 else 9) (n - 1)
def hR (V : Nat → Nat → Int32) (lw : jL) (s n : Nat) (f : Nat → Nat) : Nat := tN V lw s (f 0) (if 1 < n then f 1 else 9) (n - 1)
theorem sM_goHead {ch : Nat} {V : Nat → Nat → Int32} {lw : jL} {s n bell t0 : Nat} {f : Nat → Nat} {σ : jS} (hm : nM σ ch V) (hg : nG ch V) (hl : lM σ lw) (hO : lOk lw) (hs : s < 3) (hn0 : 0 < n) (hn : n ≤ 9) (hL : mLn σ n f) (hc : ∀ k, k < n → f k < ch) (hd : 1 < n → f 0 ≠ f 1) (he : σ.1 23 s = nI t0) (ht : t0 ≤ 100000) (hb : bell ≤ 100000) : ∃ σ', fX12_goHead σ (nI s) (nI bell) = some (jo (t0 + hS V lw s n f ≤ bell), σ') ∧ mOff [18, 19, 20, 21, 22, 23, 24] [33, 34, 35, 36] σ σ' ∧ (t0 + hS V lw s n f ≤ bell → mLn σ' n (mvf f n 0) ∧ σ'.1 20 = upd (σ.1 20) (f 0) (σ.1 20 (f 0) + 1) ∧ σ'.1 21 = (if σ.1 20 (f 0) = 0 then upd (σ.1 21) (f 0) (nI t0) else σ.1 21) ∧ σ'.1 22 = upd (σ.1 22) (f 0) (σ.1 22 (f 0) + nI (hR V lw s n f)) ∧ σ'.1 23 = upd (σ.1 23) s (nI (t0 + hS V lw s n f))) ∧ (¬ t0 + hS V lw s n f ≤ bell → mOff [18, 19] [33, 34, 35, 36] σ σ') := by
  have h9 := hm.1
  have hc0 := hc 0 hn0
  have hcc : cOk ch (if 1 < n then f 1 else 9) (f 0) := by
    by_cases a : 1 < n
    · rw [if_pos a]; exact Or.inr ⟨hc 1 a, fun z => hd a z.symm⟩
    · rw [if_neg a]; exact Or.inl rfl
  obtain ⟨U, eU, oU, TU⟩ := sM_goTurn (q := n - 1) hm hg hl hO hs hc0 hcc
  have bS : hS V lw s n f ≤ 1200 := (tSec_b hO V s _ _ _).2
  have u23 : U.1 23 s = nI t0 := by rw [oU.1 23 (by decide) (by decide), he]
  have u35 : U.1 0 35 = nI (hS V lw s n f) := TU.2.2.1
  have u34 : U.1 0 34 = nI (hR V lw s n f) := TU.2.1
  have c0 : (0 : Int32).toNatClampNeg = 0 := rfl
  have l0 : σ.1 24 0 = nI (f 0) := hL.2 0 hn0
  have key : fX12_goHead σ (nI s) (nI bell) = fX12_goHead_J29 σ (nI s) (nI bell) (nI (if 1 < n then f 1 else 9)) := by
    rw [fX12_goHead_eq, ob_c (i := (0 : Int32)) 0 9 rfl (by omega) (by omega), hL.1]
    by_cases a : 1 < n
    · rw [if_pos a, if_neg (fun z => by have := (nI_leI (a := n) (b := 1) (by omega) (by omega)).mp z; omega), ob_c (i := (1 : Int32)) 1 9 rfl (by omega) (by omega), show (1 : Int32).toNatClampNeg = 1 from rfl, hL.2 1 a]
    · rw [if_neg a, if_pos (show nI n ≤ (1 : Int32) from (nI_leI (a := n) (b := 1) (by omega) (by omega)).mpr (by omega))]
      rfl
  rw [key]
  unfold fX12_goHead_J29 fX12_goHead_J76
  simp only [c0, l0, hL.1, show nI n - (1 : Int32) = nI (n - 1) from pk_sub (a := n) (b := 1) (by omega), nI_cl (show f 0 < 2 ^ 31 by omega), nI_cl (show s < 2 ^ 31 by omega)]
  rw [eU, Option.bind_some]
  simp only [ob_nI (show s < 3 by omega) (show 3 < 2 ^ 31 by omega), ob_nI (show f 0 < 9 by omega) (show 9 < 2 ^ 31 by omega), u23, u35, u34, nI_add]
  by_cases a : t0 + hS V lw s n f ≤ bell
  · rw [if_pos ((nI_leI (by omega) (by omega)).mpr a), jo_1 a]
    obtain ⟨W, eW, oW, w20, w21⟩ : ∃ W, (if (U.1 20 (f 0)) = 0 then (jst (ju U 21 (f 0) (nI t0)) fun (σ6 : jS) => (jst (ju σ6 20 (f 0) ((σ6.1 20 (f 0)) + (1 : Int32))) fun (σ2 : jS) => (jst (ju σ2 22 (f 0) ((σ2.1 22 (f 0)) + (σ2.1 0 34))) fun (σ3 : jS) => (jst (ju σ3 23 s ((σ3.1 23 s) + (σ3.1 0 35))) fun (σ4 : jS) => (Option.bind (fX12_toEnd σ4 (0 : Int32)) fun (q5 : jS) => (some ((1 : Int32), q5))))))) else (jst (ju U 20 (f 0) ((U.1 20 (f 0)) + (1 : Int32))) fun (σ2 : jS) => (jst (ju σ2 22 (f 0) ((σ2.1 22 (f 0)) + (σ2.1 0 34))) fun (σ3 : jS) => (jst (ju σ3 23 s ((σ3.1 23 s) + (σ3.1 0 35))) fun (σ4 : jS) => (Option.bind (fX12_toEnd σ4 (0 : Int32)) fun (q5 : jS) => (some ((1 : Int32), q5))))))) = (jst (ju W 20 (f 0) ((W.1 20 (f 0)) + (1 : Int32))) fun (σ2 : jS) => (jst (ju σ2 22 (f 0) ((σ2.1 22 (f 0)) + (σ2.1 0 34))) fun (σ3 : jS) => (jst (ju σ3 23 s ((σ3.1 23 s) + (σ3.1 0 35))) fun (σ4 : jS) => (Option.bind (fX12_toEnd σ4 (0 : Int32)) fun (q5 : jS) => (some ((1 : Int32), q5)))))) ∧ mOff [18, 19, 21] [33, 34, 35, 36] σ W ∧ W.1 0 = U.1 0 ∧ W.1 21 = (if σ.1 20 (f 0) = 0 then upd (σ.1 21) (f 0) (nI t0) else σ.1 21) := by
      rw [oU.1 20 (by decide) (by decide)]
      by_cases b : σ.1 20 (f 0) = 0
      · rw [if_pos b, if_pos b]
        exact ⟨ju U 21 (f 0) (nI t0), by rw [jst_e], (oU.mono (by simp) (by simp)).trans (mOff.u (by decide) (by decide)), ju_n (by decide), by rw [ju_c, oU.1 21 (by decide) (by decide)]⟩
      · rw [if_neg b, if_neg b]
        exact ⟨U, by rw [oU.1 20 (by decide) (by decide)], oU.mono (by simp) (by simp), rfl, oU.1 21 (by decide) (by decide)⟩
    have W34 : W.1 0 34 = nI (hR V lw s n f) := by rw [w20, u34]
    have W35 : W.1 0 35 = nI (hS V lw s n f) := by rw [w20, u35]
    have W23 : W.1 23 = σ.1 23 := oW.1 23 (by decide) (by decide)
    have W20 : W.1 20 = σ.1 20 := oW.1 20 (by decide) (by decide)
    have W22 : W.1 22 = σ.1 22 := oW.1 22 (by decide) (by decide)
    have hLW : mLn W n f := hL.go oW (by decide) (by decide)
    have o3 : mOff [20, 22, 23] [] W (ju (ju (ju W 20 (f 0) (σ.1 20 (f 0) + 1)) 22 (f 0) (σ.1 22 (f 0) + nI (hR V lw s n f))) 23 s (nI (t0 + hS V lw s n f))) := ((mOff.u (by decide) (by decide)).trans (mOff.u (by decide) (by decide))).trans (mOff.u (by decide) (by decide))
    obtain ⟨X, eX, oX, hX⟩ := sM_toEnd (p := 0) hn hn0 (hLW.go o3 (by decide) (by decide))
    have eX' : fX12_toEnd (ju (ju (ju W 20 (f 0) (σ.1 20 (f 0) + 1)) 22 (f 0) (σ.1 22 (f 0) + nI (hR V lw s n f))) 23 s (nI (t0 + hS V lw s n f))) (0 : Int32) = some X := eX
    refine ⟨X, eW.trans ?_, ((oW.mono (by simp) (by simp)).trans (o3.mono (by simp) (by simp))).trans (oX.mono (by simp) (by simp)), fun _ => ⟨hX, ?_, ?_, ?_, ?_⟩, fun z => absurd a z⟩
    · simp only [jst_e, ju_n (show (22 : Nat) ≠ 20 by decide), ju_n (show (0 : Nat) ≠ 20 by decide), ju_n (show (0 : Nat) ≠ 22 by decide), ju_n (show (23 : Nat) ≠ 20 by decide), ju_n (show (23 : Nat) ≠ 22 by decide), W34, W35, W23, W20, W22, he, nI_add]
      rw [eX', Option.bind_some]
    · rw [oX.1 20 (by decide) (by decide), ju_n (by decide), ju_n (by decide), ju_c, W20]
    · rw [oX.1 21 (by decide) (by decide), ju_n (by decide), ju_n (by decide), ju_n (by decide), w21]
    · rw [oX.1 22 (by decide) (by decide), ju_n (by decide), ju_c, ju_n (by decide), W22]
    · rw [oX.1 23 (by decide) (by decide), ju_c, ju_n (by decide), ju_n (by decide), W23]
  · rw [if_neg (fun z => a ((nI_leI (by omega) (by omega)).mp z)), jo_0 a]
    exact ⟨U, rfl, oU.mono (by simp) (by simp), fun z => absurd z a, fun _ => oU⟩
