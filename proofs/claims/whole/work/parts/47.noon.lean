/-! an AFTERNOON of the reference; afternoon, been of both sides -/
/-- behind j TURNS of a queue: how often, since when, how many rounds; seconds -/
def mI (V : Nat → Nat → Int32) (lw : jL) (s : Nat) (l : List Nat) (j : Nat) (σ : jS) : Prop := (∀ p, p < l.length → σ.1 20 (la l p) = nI (rO l.length p j) ∧ σ.1 21 (la l p) = (if p < j then nI (rT (dS V lw s l) l.length p) else -2) ∧ σ.1 22 (la l p) = nI (rO l.length p j * dN V lw s l p)) ∧ σ.1 23 s = nI (rT (dS V lw s l) l.length j)
theorem tld_rot {l : List Nat} {j : Nat} (hn : 0 < l.length) : (if 1 < l.length then la l ((j + 1) % l.length) else 9) = tld l (j % l.length) := by
  unfold tld
  rw [bhd_mod hn]
theorem rot_ne {l : List Nat} (hn : l.Nodup) (h1 : 1 < l.length) (j : Nat) : la l ((j + 0) % l.length) ≠ la l ((j + 1) % l.length) := by
  intro z
  have hn0 : 0 < l.length := by omega
  have h := la_inj hn (Nat.mod_lt _ hn0) (Nat.mod_lt _ hn0) z
  have e := bhd_mod (j := j) hn0
  have hml := Nat.mod_lt j hn0
  rw [Nat.add_zero] at h
  unfold bhd at e
  by_cases b : j % l.length + 1 < l.length
  · rw [if_pos b] at e; omega
  · rw [if_neg b] at e; omega
theorem sM_goSwingL {ch : Nat} {V : Nat → Nat → Int32} {lw : jL} {s bell : Nat} {l : List Nat} (hg : nG ch V) (hO : lOk lw) (hs : s < 3) (hl : qOk ch l) (hn0 : 0 < l.length) (hb : bell ≤ 3600) : ∀ (m j f : Nat) (σ : jS), j + m = 3600 → m + 2 ≤ f → nM σ ch V → lM σ lw → mLn σ l.length (fun k => la l ((j + k) % l.length)) → mI V lw s l j σ → rT (dS V lw s l) l.length j ≤ bell → ∃ σ', jloop (fX12_goSwing_B13 (nI s) (nI bell)) f (σ, 1) = some σ' ∧ mOff [18, 19, 20, 21, 22, 23, 24] [33, 34, 35, 36] σ σ' ∧ mI V lw s l (rJ (dS V lw s l) l.length bell m j) σ' ∧ (∀ c, c ∉ l → σ'.1 20 c = σ.1 20 c ∧ σ'.1 21 c = σ.1 21 c ∧ σ'.1 22 c = σ.1 22 c) ∧ ∀ k, k ≠ s → σ'.1 23 k = σ.1 23 k := by
  have h9 := hl.2.2
  have hd : ∀ p, p < l.length → 1 ≤ dS V lw s l p := fun p _ => (tSec_b hO V s _ _ _).1
  have stop : ∀ (g : Nat) (σ : jS), jloop (fX12_goSwing_B13 (nI s) (nI bell)) (g + 1) (σ, 0) = some σ := by
    intro g σ
    rw [jloop_s]
    unfold fX12_goSwing_B13
    exact if_pos rfl
  intro m
  induction m with
  | zero =>
    intro j f σ hj hf hm hlm hL hI ht
    obtain ⟨f, rfl⟩ : ∃ g, f = g + 1 + 1 := ⟨f - 2, by omega⟩
    obtain rfl : j = 3600 := by omega
    obtain ⟨U, eU, oU, _, nU⟩ := sM_goHead hm hg hlm hO hs hn0 h9 hL (fun k hk => hl.2.1 _ (la_mem (Nat.mod_lt _ hn0))) (fun h1 => rot_ne hl.1 h1 3600) hI.2 (by omega) (show bell ≤ 100000 by omega)
    have e1 : rT (dS V lw s l) l.length (3600 + 1) = rT (dS V lw s l) l.length 3600 + dS V lw s l (3600 % l.length) := rfl
    have eS : hS V lw s l.length (fun k => la l ((3600 + k) % l.length)) = dS V lw s l (3600 % l.length) := by
      unfold hS dS
      rw [← tld_rot hn0]
      try rfl
    have hge := rT_ge hn0 hd (3600 + 1)
    have hno : ¬ rT (dS V lw s l) l.length 3600 + hS V lw s l.length (fun k => la l ((3600 + k) % l.length)) ≤ bell := by rw [eS, ← e1]; omega
    have oN := nU hno
    rw [jo_0 hno] at eU
    refine ⟨U, ?_, oU, ?_, fun c _ => ?_, fun k _ => ?_⟩
    · rw [jloop_s]
      unfold fX12_goSwing_B13
      rw [if_neg (show ¬ (1 : Int32) = 0 by decide)]
      show (Option.bind (fX12_goHead σ (nI s) (nI bell)) fun (q1 : (Int32 × jS)) => (jloop (fX12_goSwing_B13 (nI s) (nI bell)) (f + 1) (q1.2, (jb q1.1)))) = _
      rw [eU, Option.bind_some]
      exact stop f U
    · unfold mI at *
      rw [oN.1 20 (by decide) (by decide), oN.1 21 (by decide) (by decide), oN.1 22 (by decide) (by decide), oN.1 23 (by decide) (by decide)]
      exact hI
    · rw [oN.1 20 (by decide) (by decide), oN.1 21 (by decide) (by decide), oN.1 22 (by decide) (by decide)]
      exact ⟨rfl, rfl, rfl⟩
    · rw [oN.1 23 (by decide) (by decide)]
  | succ m ih =>
    intro j f σ hj hf hm hlm hL hI ht
    obtain ⟨f, rfl⟩ : ∃ g, f = g + 1 + 1 := ⟨f - 2, by omega⟩
    have hml := Nat.mod_lt j hn0
    obtain ⟨U, eU, oU, yU, nU⟩ := sM_goHead hm hg hlm hO hs hn0 h9 hL (fun k hk => hl.2.1 _ (la_mem (Nat.mod_lt _ hn0))) (fun h1 => rot_ne hl.1 h1 j) hI.2 (by omega) (show bell ≤ 100000 by omega)
    have e1 : rT (dS V lw s l) l.length (j + 1) = rT (dS V lw s l) l.length j + dS V lw s l (j % l.length) := rfl
    have eS : hS V lw s l.length (fun k => la l ((j + k) % l.length)) = dS V lw s l (j % l.length) := by
      unfold hS dS
      rw [← tld_rot hn0]
      try rfl
    have eR : hR V lw s l.length (fun k => la l ((j + k) % l.length)) = dN V lw s l (j % l.length) := by
      unfold hR dN
      rw [← tld_rot hn0]
      try rfl
    rw [eS] at eU yU nU
    rw [eR] at yU
    have eJ : rJ (dS V lw s l) l.length bell (m + 1) j = if bell < rT (dS V lw s l) l.length (j + 1) then j else rJ (dS V lw s l) l.length bell m (j + 1) := rfl
    rw [eJ]
    by_cases a : rT (dS V lw s l) l.length j + dS V lw s l (j % l.length) ≤ bell
    · rw [if_neg (by omega)]
      rw [jo_1 a] at eU
      obtain ⟨y1, y20, y21, y22, y23⟩ := yU a
      have e0 : (j + 0) % l.length = j % l.length := rfl
      have hIU : mI V lw s l (j + 1) U := by
        refine ⟨fun p hp => ?_, ?_⟩
        · have hIp := hI.1 p hp
          have eO : rO l.length p (j + 1) = rO l.length p j + if j % l.length = p then 1 else 0 := rfl
          have hz := rO_0 hml j
          rw [y20, y21, y22, eO]
          by_cases b : p = j % l.length
          · subst b
            rw [if_pos rfl, e0, upd_s, upd_s, hIp.1, nI_1, hIp.2.2, nI_add]
            refine ⟨rfl, ?_, by rw [Nat.add_mul, Nat.one_mul]⟩
            have ez : (nI (rO l.length (j % l.length) j) = 0) = (j ≤ j % l.length) := by
              rw [← hz]
              exact propext (nI_eq (a := rO l.length (j % l.length) j) (b := 0) (by have := rO_le (n := l.length) (p := j % l.length) j; omega) (by omega))
            by_cases c : j ≤ j % l.length
            · have hjm : j % l.length = j := by
                have := Nat.mod_le j l.length
                omega
              rw [if_pos (ez.mpr c), upd_s, if_pos (by omega), hjm]
            · rw [if_neg (fun z => c (ez.mp z)), hIp.2.1, if_pos (by omega), if_pos (by omega)]
          · have hne : la l p ≠ la l (j % l.length) := fun z => b (la_inj hl.1 hp hml z)
            rw [if_neg (fun z => b z.symm), e0, upd_n hne, upd_n hne, hIp.1, hIp.2.2]
            refine ⟨rfl, ?_, rfl⟩
            have e21 : (if σ.1 20 (la l (j % l.length)) = 0 then upd (σ.1 21) (la l (j % l.length)) (nI (rT (dS V lw s l) l.length j)) else σ.1 21) (la l p) = σ.1 21 (la l p) := by
              by_cases c : σ.1 20 (la l (j % l.length)) = 0
              · rw [if_pos c, upd_n hne]
              · rw [if_neg c]
            rw [e21, hIp.2.1]
            by_cases c : p < j
            · rw [if_pos c, if_pos (by omega)]
            · rw [if_neg c, if_neg]
              intro z
              have : p = j := by omega
              exact b (by rw [Nat.mod_eq_of_lt (by omega)]; exact this)
        · rw [y23, upd_s]
          rfl
      have hLU : mLn U l.length (fun k => la l ((j + 1 + k) % l.length)) := by
        refine ⟨y1.1, fun k hk => ?_⟩
        rw [y1.2 k hk]
        unfold mvf
        rw [if_neg (Nat.not_lt_zero _)]
        by_cases b : k + 1 < l.length
        · rw [if_pos b]
          show nI (la l ((j + (k + 1)) % l.length)) = nI (la l ((j + 1 + k) % l.length))
          rw [show j + (k + 1) = j + 1 + k by omega]
        · rw [if_neg b]
          show nI (la l ((j + 0) % l.length)) = nI (la l ((j + 1 + k) % l.length))
          rw [show j + 1 + k = j + l.length by omega, Nat.add_mod_right]
          rfl
      obtain ⟨σ', h1, h2, h3, h4, h5⟩ := ih (j + 1) (f + 1) U (by omega) (by omega) (hm.off oU (by decide) (by decide)) (hlm.go oU (by intro c h1 h2; simp <;> omega) (by decide)) hLU hIU (by omega)
      refine ⟨σ', ?_, oU.trans h2, h3, fun c hc => ?_, fun k hk => ?_⟩
      · rw [jloop_s]
        unfold fX12_goSwing_B13
        rw [if_neg (show ¬ (1 : Int32) = 0 by decide)]
        show (Option.bind (fX12_goHead σ (nI s) (nI bell)) fun (q1 : (Int32 × jS)) => (jloop (fX12_goSwing_B13 (nI s) (nI bell)) (f + 1) (q1.2, (jb q1.1)))) = _
        rw [eU, Option.bind_some]
        exact h1
      · have hne : c ≠ la l ((j + 0) % l.length) := fun z => hc (by rw [z]; exact la_mem hml)
        obtain ⟨g1, g2, g3⟩ := h4 c hc
        rw [g1, g2, g3, y20, y21, y22, upd_n hne, upd_n hne]
        refine ⟨rfl, ?_, rfl⟩
        by_cases d : σ.1 20 (la l ((j + 0) % l.length)) = 0
        · rw [if_pos d, upd_n hne]
        · rw [if_neg d]
      · rw [h5 k hk, y23, upd_n hk]
    · rw [if_pos (by omega)]
      rw [jo_0 a] at eU
      have oN := nU a
      refine ⟨U, ?_, oU, ?_, fun c _ => ?_, fun k _ => ?_⟩
      · rw [jloop_s]
        unfold fX12_goSwing_B13
        rw [if_neg (show ¬ (1 : Int32) = 0 by decide)]
        show (Option.bind (fX12_goHead σ (nI s) (nI bell)) fun (q1 : (Int32 × jS)) => (jloop (fX12_goSwing_B13 (nI s) (nI bell)) (f + 1) (q1.2, (jb q1.1)))) = _
        rw [eU, Option.bind_some]
        exact stop f U
      · unfold mI at *
        rw [oN.1 20 (by decide) (by decide), oN.1 21 (by decide) (by decide), oN.1 22 (by decide) (by decide), oN.1 23 (by decide) (by decide)]
        exact hI
      · rw [oN.1 20 (by decide) (by decide), oN.1 21 (by decide) (by decide), oN.1 22 (by decide) (by decide)]
        exact ⟨rfl, rfl, rfl⟩
      · rw [oN.1 23 (by decide) (by decide)]
/-- as an afternoon begins -/
def mZ (σ : jS) : Prop := (∀ c, c < 9 → σ.1 20 c = 0 ∧ σ.1 21 c = -2 ∧ σ.1 22 c = 0) ∧ ∀ k, k < 3 → σ.1 23 k = 0
/-- at the bell: a queue's -/
def mE (V : Nat → Nat → Int32) (lw : jL) (bell s : Nat) (l : List Nat) (σ : jS) : Prop := (∀ p, p < l.length → σ.1 20 (la l p) = nI (rO l.length p (rA (dS V lw s l) l.length bell)) ∧ σ.1 21 (la l p) = bgn (dS V lw s l) l.length bell p ∧ σ.1 22 (la l p) = nI (rO l.length p (rA (dS V lw s l) l.length bell) * dN V lw s l p)) ∧ σ.1 23 s = nI (if l.length = 0 then 0 else rT (dS V lw s l) l.length (rA (dS V lw s l) l.length bell))
theorem sM_goSwing {ch : Nat} {V : Nat → Nat → Int32} {lw : jL} {s bell : Nat} {l : List Nat} {σ : jS} (hm : nM σ ch V) (hg : nG ch V) (hlm : lM σ lw) (hO : lOk lw) (hs : s < 3) (hl : qOk ch l) (hc9 : ch ≤ 9) (hb : bell ≤ 3600) (hL : mLn σ l.length (la l)) (hz : ∀ c, c ∈ l → σ.1 20 c = 0 ∧ σ.1 21 c = -2 ∧ σ.1 22 c = 0) (hz3 : σ.1 23 s = 0) : ∃ σ', fX12_goSwing σ (nI s) (nI bell) = some σ' ∧ mOff [18, 19, 20, 21, 22, 23, 24] [33, 34, 35, 36] σ σ' ∧ mE V lw bell s l σ' ∧ (∀ c, c ∉ l → σ'.1 20 c = σ.1 20 c ∧ σ'.1 21 c = σ.1 21 c ∧ σ'.1 22 c = σ.1 22 c) ∧ ∀ k, k ≠ s → σ'.1 23 k = σ.1 23 k := by
  have h9 := hl.2.2
  rw [fX12_goSwing_eq, hL.1]
  unfold fX12_goSwing_J12
  by_cases a : l.length = 0
  · rw [if_pos (show nI l.length ≤ 0 by rw [a]; decide)]
    obtain ⟨f, hf⟩ : ∃ g, jN = g + 1 := ⟨jN - 1, by have := jN_ge; omega⟩
    rw [hf, jloop_s]
    unfold fX12_goSwing_B13
    refine ⟨σ, if_pos rfl, mOff.rf, ⟨fun p hp => absurd hp (by omega), ?_⟩, fun c _ => ⟨rfl, rfl, rfl⟩, fun k _ => rfl⟩
    rw [if_pos a, hz3]
    rfl
  · rw [if_neg (show ¬ nI l.length ≤ 0 from fun z => by have := (nI_leI (a := l.length) (b := 0) (by omega) (by omega)).mp z; omega)]
    have hI : mI V lw s l 0 σ := by
      refine ⟨fun p hp => ?_, by rw [hz3]; rfl⟩
      obtain ⟨z1, z2, z3⟩ := hz _ (la_mem hp)
      rw [z1, z2, z3, if_neg (Nat.not_lt_zero _)]
      refine ⟨rfl, rfl, ?_⟩
      show (0 : Int32) = nI (0 * dN V lw s l p)
      rw [Nat.zero_mul]
      rfl
    have hL0 : mLn σ l.length (fun k => la l ((0 + k) % l.length)) := by
      refine ⟨hL.1, fun k hk => ?_⟩
      show σ.1 24 k = nI (la l ((0 + k) % l.length))
      rw [Nat.zero_add, Nat.mod_eq_of_lt hk]
      exact hL.2 k hk
    obtain ⟨σ', h1, h2, h3, h4, h5⟩ := sM_goSwingL hg hO hs hl (by omega) hb 3600 0 jN σ (by omega) (by have := jN_ge; omega) hm hlm hL0 hI (Nat.zero_le _)
    refine ⟨σ', h1, h2, ⟨h3.1, ?_⟩, h4, h5⟩
    rw [if_neg a]
    exact h3.2
theorem sM_bA1 : ∀ (n k f : Nat) (σ : jS), k + n = 9 → n < f → (∀ c, c < k → σ.1 20 c = 0 ∧ σ.1 21 c = -2 ∧ σ.1 22 c = 0) → ∃ σ', (∀ j36, jloop (fX12_beginAfternoon_B2 j36) f (σ, nI k) = j36 σ') ∧ mOff [20, 21, 22] [] σ σ' ∧ ∀ c, c < 9 → σ'.1 20 c = 0 ∧ σ'.1 21 c = -2 ∧ σ'.1 22 c = 0 := by
  intro n
  induction n with
  | zero =>
    intro k f σ hk hf h
    obtain ⟨f, rfl⟩ : ∃ g, f = g + 1 := ⟨f - 1, by omega⟩
    obtain rfl : k = 9 := by omega
    refine ⟨σ, fun j => ?_, mOff.rf, h⟩
    rw [jloop_s]
    unfold fX12_beginAfternoon_B2
    rw [if_pos (show (9 : Int32) ≤ nI 9 by decide)]
  | succ n ih =>
    intro k f σ hk hf h
    obtain ⟨f, rfl⟩ : ∃ g, f = g + 1 := ⟨f - 1, by omega⟩
    have k9 : ¬ (9 : Int32) ≤ nI k := by rw [show (9 : Int32) = nI 9 from rfl, nI_leI (by omega) (by omega)]; omega
    obtain ⟨σ', h1, h2, h3⟩ := ih (k + 1) f (ju (ju (ju σ 20 k 0) 21 k (-2)) 22 k 0) (by omega) (by omega) (fun c hc => by
      rw [ju_n (show (20 : Nat) ≠ 22 by decide), ju_n (show (20 : Nat) ≠ 21 by decide), ju_n (show (21 : Nat) ≠ 22 by decide), ju_r, ju_r, ju_r, ju_n (show (21 : Nat) ≠ 20 by decide), ju_n (show (22 : Nat) ≠ 21 by decide), ju_n (show (22 : Nat) ≠ 20 by decide)]
      by_cases a : c = k
      · rw [if_pos a, if_pos a, if_pos a]; exact ⟨rfl, rfl, rfl⟩
      · rw [if_neg a, if_neg a, if_neg a]; exact h c (by omega))
    refine ⟨σ', fun j => ?_, (((mOff.u (by decide) (by decide)).trans (mOff.u (by decide) (by decide))).trans (mOff.u (by decide) (by decide))).trans h2, h3⟩
    rw [jloop_s, ← h1 j]
    unfold fX12_beginAfternoon_B2
    rw [if_neg k9]
    simp only [ob_nI (show k < 9 by omega) (show 9 < 2 ^ 31 by omega), jst_e, nI_cl (show k < 2 ^ 31 by omega), nI_1]
theorem sM_bA2 : ∀ (n k f : Nat) (σ : jS), k + n = 3 → n < f → (∀ c, c < k → σ.1 23 c = 0) → ∃ σ', jloop (fX12_beginAfternoon_B38) f (σ, nI k) = some σ' ∧ mOff [23] [] σ σ' ∧ ∀ c, c < 3 → σ'.1 23 c = 0 := by
  intro n
  induction n with
  | zero =>
    intro k f σ hk hf h
    obtain ⟨f, rfl⟩ : ∃ g, f = g + 1 := ⟨f - 1, by omega⟩
    obtain rfl : k = 3 := by omega
    refine ⟨σ, ?_, mOff.rf, h⟩
    rw [jloop_s]
    unfold fX12_beginAfternoon_B38
    rw [if_pos (show (3 : Int32) ≤ nI 3 by decide)]
  | succ n ih =>
    intro k f σ hk hf h
    obtain ⟨f, rfl⟩ : ∃ g, f = g + 1 := ⟨f - 1, by omega⟩
    have k9 : ¬ (3 : Int32) ≤ nI k := by rw [show (3 : Int32) = nI 3 from rfl, nI_leI (by omega) (by omega)]; omega
    obtain ⟨σ', h1, h2, h3⟩ := ih (k + 1) f (ju σ 23 k 0) (by omega) (by omega) (fun c hc => by
      rw [ju_r]
      by_cases a : c = k
      · rw [if_pos a]
      · rw [if_neg a]; exact h c (by omega))
    refine ⟨σ', ?_, (mOff.u (by decide) (by decide)).trans h2, h3⟩
    rw [jloop_s, ← h1]
    unfold fX12_beginAfternoon_B38
    rw [if_neg k9]
    simp only [ob_nI (show k < 3 by omega) (show 3 < 2 ^ 31 by omega), jst_e, nI_cl (show k < 2 ^ 31 by omega), nI_1]
theorem sM_beginAfternoon (σ : jS) : ∃ σ', fX12_beginAfternoon σ = some σ' ∧ mOff [20, 21, 22, 23] [] σ σ' ∧ mZ σ' := by
  rw [fX12_beginAfternoon_eq]
  obtain ⟨U, h1, h2, h3⟩ := sM_bA1 9 0 jN σ (by omega) (by have := jN_ge; omega) (fun c hc => absurd hc (by omega))
  have h1' : ∀ j36, jloop (fX12_beginAfternoon_B2 j36) jN (σ, (0 : Int32)) = j36 U := h1
  rw [h1']
  obtain ⟨W, g1, g2, g3⟩ := sM_bA2 3 0 jN U (by omega) (by have := jN_ge; omega) (fun c hc => absurd hc (by omega))
  refine ⟨W, g1, (h2.mono (by simp) (by simp)).trans (g2.mono (by simp) (by simp)), fun c hc => ?_, g3⟩
  rw [g2.1 20 (by decide) (by decide), g2.1 21 (by decide) (by decide), g2.1 22 (by decide) (by decide)]
  exact h3 c hc
theorem sM_goAfternoonL {ch : Nat} {V : Nat → Nat → Int32} {lw : jL} {bell : Nat} (hg : nG ch V) (hO : lOk lw) (hc9 : ch ≤ 9) (hb : bell ≤ 3600) : ∀ (n k f : Nat) (σ : jS), k + n = 3 → n < f → nM σ ch V → lM σ lw → (∀ s, s < k → mE V lw bell s (qL V ch s) σ) → (∀ c, c < ch → k ≤ vN V 5 c → σ.1 20 c = 0 ∧ σ.1 21 c = -2 ∧ σ.1 22 c = 0) → (∀ s, k ≤ s → s < 3 → σ.1 23 s = 0) → ∃ σ', jloop (fX12_goAfternoon_B6 (nI bell)) f (σ, nI k) = some σ' ∧ mOff [18, 19, 20, 21, 22, 23, 24] [33, 34, 35, 36, 42] σ σ' ∧ (∀ s, s < 3 → mE V lw bell s (qL V ch s) σ') ∧ (∀ c, c < ch → 3 ≤ vN V 5 c → σ'.1 20 c = 0 ∧ σ'.1 21 c = -2 ∧ σ'.1 22 c = 0) := by
  intro n
  induction n with
  | zero =>
    intro k f σ hk hf hm hlm hE hZ hZ3
    obtain ⟨f, rfl⟩ : ∃ g, f = g + 1 := ⟨f - 1, by omega⟩
    obtain rfl : k = 3 := by omega
    refine ⟨σ, ?_, mOff.rf, hE, hZ⟩
    rw [jloop_s]
    unfold fX12_goAfternoon_B6
    rw [if_pos (show (3 : Int32) ≤ nI 3 by decide)]
  | succ n ih =>
    intro k f σ hk hf hm hlm hE hZ hZ3
    obtain ⟨f, rfl⟩ : ∃ g, f = g + 1 := ⟨f - 1, by omega⟩
    have k3 : ¬ (3 : Int32) ≤ nI k := by rw [show (3 : Int32) = nI 3 from rfl, nI_leI (by omega) (by omega)]; omega
    obtain ⟨U, eU, oU, hU⟩ := sM_layLine (s := k) hm hg (by omega)
    have hmU : nM U ch V := hm.off oU (by decide) (by decide)
    have hlU : lM U lw := hlm.go oU (by intro c h1 h2; simp <;> omega) (by decide)
    obtain ⟨W, eW, oW, hW, hN, h3⟩ := sM_goSwing (s := k) (l := qL V ch k) hmU hg hlU hO (by omega) (qL_ok hc9) hc9 hb hU (fun c hc => by
      rw [oU.1 20 (by decide) (by decide), oU.1 21 (by decide) (by decide), oU.1 22 (by decide) (by decide)]
      have := (qL_mem hc9).mp hc
      exact hZ c this.1 (by omega)) (by rw [oU.1 23 (by decide) (by decide)]; exact hZ3 k (by omega) (by omega))
    have u20 : U.1 20 = σ.1 20 := oU.1 20 (by decide) (by decide)
    have u21 : U.1 21 = σ.1 21 := oU.1 21 (by decide) (by decide)
    have u22 : U.1 22 = σ.1 22 := oU.1 22 (by decide) (by decide)
    have u23 : U.1 23 = σ.1 23 := oU.1 23 (by decide) (by decide)
    rw [u20, u21, u22] at hN
    rw [u23] at h3
    have oW2 : mOff [18, 19, 20, 21, 22, 23, 24] [33, 34, 35, 36, 42] σ W := (oU.mono (by simp) (by simp)).trans (oW.mono (by simp) (by simp))
    obtain ⟨σ', g1, g2, g3, g4⟩ := ih (k + 1) f W (by omega) (by omega) (hmU.off oW (by decide) (by decide)) (hlU.go oW (by intro c h1 h2; simp <;> omega) (by decide)) (fun s hs => by
      by_cases a : s = k
      · rw [a]; exact hW
      · have hEs := hE s (by omega)
        refine ⟨fun p hp => ?_, ?_⟩
        · have hmem := la_mem hp
          have hnot : la (qL V ch s) p ∉ qL V ch k := fun z => by
            have h1 := ((qL_mem hc9).mp hmem).2
            have h2 := ((qL_mem hc9).mp z).2
            omega
          obtain ⟨z1, z2, z3⟩ := hN _ hnot
          rw [z1, z2, z3]
          exact hEs.1 p hp
        · rw [h3 s a]
          exact hEs.2) (fun c hc hk5 => by
      have hnot : c ∉ qL V ch k := fun z => by
        have h2 := ((qL_mem hc9).mp z).2
        omega
      obtain ⟨z1, z2, z3⟩ := hN _ hnot
      rw [z1, z2, z3]
      exact hZ c hc (by omega)) (fun s h1 h2 => by
      rw [h3 s (by omega)]
      exact hZ3 s (by omega) h2)
    refine ⟨σ', ?_, oW2.trans g2, g3, g4⟩
    rw [jloop_s, ← g1]
    unfold fX12_goAfternoon_B6
    rw [if_neg k3]
    show (Option.bind (fX12_layLine σ (nI k)) fun (q2 : jS) => (Option.bind (fX12_goSwing q2 (nI k) (nI bell)) fun (q3 : jS) => (jloop (fX12_goAfternoon_B6 (nI bell)) f (q3, (nI k + (1 : Int32)))))) = _
    rw [eU, Option.bind_some, eW, Option.bind_some, nI_1]
    rfl
theorem sM_goAfternoon {ch : Nat} {V : Nat → Nat → Int32} {lw : jL} {bell : Nat} {σ : jS} (hm : nM σ ch V) (hg : nG ch V) (hlm : lM σ lw) (hO : lOk lw) (hb : bell ≤ 3600) : ∃ σ', fX12_goAfternoon σ (nI bell) = some σ' ∧ mOff [18, 19, 20, 21, 22, 23, 24] [33, 34, 35, 36, 42] σ σ' ∧ (∀ s, s < 3 → mE V lw bell s (qL V ch s) σ') ∧ (∀ c, c < ch → 3 ≤ vN V 5 c → σ'.1 20 c = 0 ∧ σ'.1 21 c = -2 ∧ σ'.1 22 c = 0) := by
  have hc9 := hm.1
  unfold fX12_goAfternoon
  obtain ⟨U, eU, oU, zU⟩ := sM_beginAfternoon σ
  rw [eU, Option.bind_some]
  obtain ⟨σ', h1, h2, h3, h4⟩ := sM_goAfternoonL hg hO hc9 hb 3 0 jN U (by omega) (by have := jN_ge; omega) (hm.off oU (by decide) (by decide)) (hlm.go oU (by intro c h1 h2; simp <;> omega) (by decide)) (fun s hs => absurd hs (by omega)) (fun c hc _ => zU.1 c (by omega)) (fun s _ hs => zU.2 s hs)
  exact ⟨σ', h1, (oU.mono (by simp) (by simp)).trans h2, h3, h4⟩
