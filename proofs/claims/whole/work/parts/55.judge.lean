/-! judge, who, sure of both sides -/
theorem dm10 {s t : Nat} (hs : s < 1000) (ht : t < 10) : (nI s * (10 : Int32) + nI t) / (10 : Int32) = nI s ∧ (nI s * (10 : Int32) + nI t) - (nI s * (10 : Int32) + nI t) / (10 : Int32) * (10 : Int32) = nI t := by
  have e : nI s * (10 : Int32) + nI t = nI (s * 10 + t) := by
    show nI s * nI 10 + nI t = _
    rw [pk_mul, nI_add]
  rw [e, rm10 (by omega), dv10 (by omega)]
  exact ⟨by congr 1; omega, by congr 1; omega⟩
/-- JUDGED on both sides -/
theorem eq_unlike {σx σm : jS} {ch : Nat} {V : Nat → Nat → Int32} {lw : jL} (h : rN σx σm ch V) (hlx : lX σx lw) (hlm : lM σm lw) (ho : lOk lw) {s c t q sh S : Nat} {p : Int32} (hs : s < 3) (hc : c < ch) (ht : cOk ch t c) (hsh : sh < 6) (hb : byR σx σm sh S) (e1 : p / (10 : Int32) = nI s) (e2 : p - p / (10 : Int32) * (10 : Int32) = nI t) : ∃ r σx' σm', fX11_firstUnlike σx (nI sh) p (nI c) (nI q) = some (r, σx') ∧ fX12_wrongIn σm (nI sh) (nI s) (nI c) (nI t) (nI q) = some (r, σm') ∧ jOff [11, 12, 14, 15] σx σx' ∧ mOff [18, 19] [33, 34, 35, 36] σm σm' := by
  obtain ⟨hx, hm, hg⟩ := h
  obtain ⟨hS, h5, h8, h32, hE⟩ := hb
  obtain ⟨X, eX, oX⟩ := sX11_firstUnlike (q := q) hx hg hlx ho hs hc ht hsh hS h5 h8 e1 e2
  obtain ⟨M, eM, oM⟩ := sM_wrongIn (q := q) hm hg hlm ho hs hc ht hsh hS h32 (E := fun i => σx.2 49 (60 * sh + i)) (fun i hi => (hE i hi).symm)
  exact ⟨_, X, M, eX, eM, oX, oM⟩
theorem eq_judge {σx σm : jS} {ch nb : Nat} {V : Nat → Nat → Int32} {lw : jL} (h : rN σx σm ch V) (hlx : lX σx lw) (hlm : lM σm lw) (ho : lOk lw) (hS : rS σx σm nb) (p1 p2 p3 : Int32) : ∃ r σx' σm', fX11_judge σx p1 p2 p3 = some (r, σx') ∧ fX12_judge σm p1 p2 p3 = some (r, σm') ∧ jOff [11, 12, 14, 15] σx σx' ∧ mOff [18, 19] [33, 34, 35, 36] σm σm' := by
  obtain ⟨hx, hm, hg⟩ := id h
  unfold fX11_judge fX12_judge
  rw [sX9_isShelf, sM_isShelf, sX11_isTold hx, sM_areThree hm]
  simp only [Option.bind_some, jb_jo, sM_areWaiting]
  by_cases d : isCh 6 p1
  · rw [if_neg (fun (z : ¬ isCh 6 p1) => z d), if_neg (fun (z : ¬ isCh 6 p1) => z d)]
    obtain ⟨sh, hsh, rfl⟩ := isCh_nat d
    by_cases a : T3 ch p2
    · by_cases b : Q8 p3
      · rw [if_neg (fun (z : ¬ (T3 ch p2 ∧ Q8 p3)) => z ⟨a, b⟩), if_neg (fun (z : ¬ T3 ch p2) => z a), if_neg (fun (z : ¬ Q8 p3) => z b)]
        obtain ⟨r, f1, f2, f3⟩ := eq_bytes hS hsh
        rw [f1, f2, Option.bind_some, Option.bind_some]
        rcases f3 with ⟨rfl, n, hb⟩ | ⟨g1, g2⟩
        · rw [if_pos rfl, if_pos (show (0 : Int32) ≤ 0 by decide)]
          obtain ⟨s, c, t, hs, hc, ht, e1, e2, e3⟩ := T3_of a hx.1
          obtain ⟨q, hq, rfl⟩ := Q8_of b
          have ht9 := cOk_nine ht hx.1
          unfold fX11_swingOf fX11_childOf
          rw [e1, e2, e3, Option.bind_some, Option.bind_some]
          obtain ⟨k1, k2⟩ := dm10 (s := s) (t := t) (by omega) (by omega)
          obtain ⟨r, X, M, j1, j2, j3, j4⟩ := eq_unlike (q := q) h hlx hlm ho hs hc ht hsh hb k1 k2
          rw [j1, j2]
          exact ⟨r, X, M, rfl, rfl, j3, j4⟩
        · rw [if_neg g1, if_neg g2]
          exact ⟨_, _, _, rfl, rfl, jOff.rf, mOff.rf⟩
      · rw [if_pos (fun z => b z.2), if_neg (fun (z : ¬ T3 ch p2) => z a), if_pos b]
        exact ⟨_, _, _, rfl, rfl, jOff.rf, mOff.rf⟩
    · rw [if_pos (fun z => a z.1), if_pos a]
      exact ⟨_, _, _, rfl, rfl, jOff.rf, mOff.rf⟩
  · rw [if_pos d, if_pos d]
    exact ⟨_, _, _, rfl, rfl, jOff.rf, mOff.rf⟩
theorem lM18 {σ σ' : jS} {lw : jL} (h : lM σ lw) (k : mOff [18, 19] [33, 34, 35, 36] σ σ') : lM σ' lw := h.go k (by intro c h1 h2; simp <;> omega) (by decide)
theorem lX11 {σ σ' : jS} {lw : jL} (h : lX σ lw) (k : jOff [11, 12, 14, 15] σ σ') : lX σ' lw := h.go k (by decide) (by decide)
theorem rN18 {σx σm σx' σm' : jS} {ch : Nat} {V : Nat → Nat → Int32} (h : rN σx σm ch V) (a : jOff [11, 12, 14, 15] σx σx') (b : mOff [18, 19] [33, 34, 35, 36] σm σm') : rN σx' σm' ch V := ⟨h.1.off a (by decide) (by decide), h.2.1.off b (by decide) (by decide), h.2.2⟩
theorem byR18 {σx σm σx' σm' : jS} {s n : Nat} (h : byR σx σm s n) (a : jOff [11, 12, 14, 15] σx σx') (b : mOff [18, 19] [33, 34, 35, 36] σm σm') : byR σx' σm' s n := h.go a b (by intro c h1 h2; simp <;> omega) (by decide)
theorem eq_whoL {ch : Nat} {V : Nat → Nat → Int32} {lw : jL} (ho : lOk lw) {s t q sh S : Nat} {p : Int32} (hs : s < 3) (ht : t = 9 ∨ t < ch) (hsh : sh < 6) (e1 : p / (10 : Int32) = nI s) (e2 : p - p / (10 : Int32) * (10 : Int32) = nI t) : ∀ (n k f : Nat) (b : Int32) (σx σm : jS), k + n = ch → n < f → rN σx σm ch V → lX σx lw → lM σm lw → byR σx σm sh S → ∃ r σx' σm', jloop (fX11_who_B89 (nI sh) p (nI q)) f (σx, b, nI k) = some (r, σx') ∧ jloop (fX12_who_B70 (nI sh) p (nI q)) f (σm, b, nI k) = some (r, σm') ∧ jOff [11, 12, 14, 15] σx σx' ∧ mOff [18, 19] [33, 34, 35, 36] σm σm' := by
  intro n
  induction n with
  | zero =>
    intro k f b σx σm hk hf h hlx hlm hb
    obtain ⟨f, rfl⟩ : ∃ g, f = g + 1 := ⟨f - 1, by omega⟩
    obtain rfl : k = ch := by omega
    refine ⟨b, σx, σm, ?_, ?_, jOff.rf, mOff.rf⟩
    · rw [jloop_s, fX11_who_B89_eq]
      rw [if_pos (show σx.1 1 1 ≤ nI k by rw [h.1.2.1]; exact Int32.le_refl _)]
    · rw [jloop_s, fX12_who_B70_eq]
      rw [if_pos (show σm.1 0 2 ≤ nI k by rw [h.2.1.2.1]; exact Int32.le_refl _)]
  | succ n ih =>
    intro k f b σx σm hk hf h hlx hlm hb
    obtain ⟨f, rfl⟩ : ∃ g, f = g + 1 := ⟨f - 1, by omega⟩
    have h9 := h.1.1
    have ex : ¬ σx.1 1 1 ≤ nI k := by rw [h.1.2.1, nI_leI (by omega) (by omega)]; omega
    have em : ¬ σm.1 0 2 ≤ nI k := by rw [h.2.1.2.1, nI_leI (by omega) (by omega)]; omega
    have et : (nI k = nI t) = (k = t) := propext (nI_eq (by omega) (by omega))
    by_cases a : k = t
    · obtain ⟨r, X, M, g1, g2, g3, g4⟩ := ih (k + 1) f b σx σm (by omega) (by omega) h hlx hlm hb
      refine ⟨r, X, M, ?_, ?_, g3, g4⟩
      · rw [jloop_s, ← g1, fX11_who_B89_eq]
        unfold fX11_who_B89_J131
        rw [if_neg ex, e2]
        simp only [et]
        rw [if_pos a, nI_1]
      · rw [jloop_s, ← g2, fX12_who_B70_eq]
        unfold fX12_who_B70_J118
        rw [if_neg em, e2]
        simp only [et]
        rw [if_pos a, nI_1]
    · obtain ⟨r, X, M, j1, j2, j3, j4⟩ := eq_unlike (q := q) h hlx hlm ho hs (show k < ch by omega) (show cOk ch t k by unfold cOk; omega) hsh hb e1 e2
      obtain ⟨r2, X2, M2, g1, g2, g3, g4⟩ := ih (k + 1) f (if r = -2 then b ||| ((1 : Int32) <<< (nI k &&& 31)) else b) X M (by omega) (by omega) (rN18 h j3 j4) (lX11 hlx j3) (lM18 hlm j4) (byR18 hb j3 j4)
      refine ⟨r2, X2, M2, ?_, ?_, j3.trans g3, j4.trans g4⟩
      · rw [jloop_s, ← g1, fX11_who_B89_eq]
        unfold fX11_who_B89_J131
        rw [if_neg ex]
        show (if nI k = (p - p / (10 : Int32) * (10 : Int32)) then _ else (Option.bind (fX11_firstUnlike σx (nI sh) p (nI k) (nI q)) fun (q5 : (Int32 × jS)) => (if q5.1 = (-2 : Int32) then (jloop (fX11_who_B89 (nI sh) p (nI q)) f (q5.2, (b ||| ((1 : Int32) <<< (nI k &&& 31))), (nI k + (1 : Int32)))) else (jloop (fX11_who_B89 (nI sh) p (nI q)) f (q5.2, b, (nI k + (1 : Int32))))))) = _
        rw [j1, Option.bind_some, e2, if_neg (by rw [et]; exact a), nI_1]
        by_cases z : r = -2
        · rw [if_pos z, if_pos z]
        · rw [if_neg z, if_neg z]
      · rw [jloop_s, ← g2, fX12_who_B70_eq]
        unfold fX12_who_B70_J118
        rw [if_neg em]
        show (if nI k = (p - p / (10 : Int32) * (10 : Int32)) then _ else (Option.bind (fX12_wrongIn σm (nI sh) (p / (10 : Int32)) (nI k) (p - p / (10 : Int32) * (10 : Int32)) (nI q)) fun (q5 : (Int32 × jS)) => (if q5.1 = (-2 : Int32) then (jloop (fX12_who_B70 (nI sh) p (nI q)) f (q5.2, (b ||| ((1 : Int32) <<< (nI k &&& 31))), (nI k + (1 : Int32)))) else (jloop (fX12_who_B70 (nI sh) p (nI q)) f (q5.2, b, (nI k + (1 : Int32))))))) = _
        rw [e2, e1, j2, Option.bind_some, if_neg (by rw [et]; exact a), nI_1]
        by_cases z : r = -2
        · rw [if_pos z, if_pos z]
        · rw [if_neg z, if_neg z]
theorem eq_who {σx σm : jS} {ch nb : Nat} {V : Nat → Nat → Int32} {lw : jL} (h : rN σx σm ch V) (hlx : lX σx lw) (hlm : lM σm lw) (ho : lOk lw) (hS : rS σx σm nb) (p1 p2 p3 : Int32) : ∃ r σx' σm', fX11_who σx p1 p2 p3 = some (r, σx') ∧ fX12_who σm p1 p2 p3 = some (r, σm') ∧ jOff [11, 12, 14, 15] σx σx' ∧ mOff [18, 19] [33, 34, 35, 36] σm σm' := by
  obtain ⟨hx, hm, hg⟩ := id h
  have hc9 := hx.1
  unfold fX11_who fX12_who
  rw [sX9_isShelf, sM_isShelf, sX6_isSwing, sM_isSwing]
  simp only [Option.bind_some, jb_jo, sM_areWaiting, sX11_isWaiting, jlet_e, sX6_isChild hx, sM_isChild hm]
  by_cases d : isCh 6 p1
  · rw [if_neg (fun (z : ¬ isCh 6 p1) => z d), if_neg (fun (z : ¬ isCh 6 p1) => z d)]
    obtain ⟨sh, hsh, rfl⟩ := isCh_nat d
    by_cases a : p2 < 0
    · rw [if_pos a, if_pos a]
      exact ⟨_, _, _, rfl, rfl, jOff.rf, mOff.rf⟩
    · rw [if_neg a, if_neg a]
      obtain ⟨n, hn, rfl⟩ := nI_of a
      have e1 := dv10 hn
      have e2 := rm10 hn
      rw [e2, e1]
      simp only [isCh_n (show n / 10 < 2 ^ 31 by omega), isCh_n (show n % 10 < 2 ^ 31 by omega), show (nI (n % 10) = (9 : Int32)) = (n % 10 = 9) from propext (nI_eq (a := n % 10) (b := 9) (by omega) (by omega))]
      by_cases b : n / 10 < 3
      · rw [if_neg (fun (z : ¬ n / 10 < 3) => z b), if_neg (fun (z : ¬ n / 10 < 3) => z b)]
        obtain ⟨r, f1, f2, f3⟩ := eq_bytes hS hsh
        simp only [f1, f2, Option.bind_some]
        by_cases g : n % 10 = 9 ∨ n % 10 < ch
        · by_cases c : Q8 p3
          · obtain ⟨q, hq, rfl⟩ := Q8_of c
            have main : ∃ r' σx' σm', (if r = 0 then (jloop (fX11_who_B89 (nI sh) (nI n) (nI q)) jN (σx, (0 : Int32), (0 : Int32))) else (some (r, σx))) = some (r', σx') ∧ (if 0 ≤ r then (jloop (fX12_who_B70 (nI sh) (nI n) (nI q)) jN (σm, (0 : Int32), (0 : Int32))) else (some (r, σm))) = some (r', σm') ∧ jOff [11, 12, 14, 15] σx σx' ∧ mOff [18, 19] [33, 34, 35, 36] σm σm' := by
              rcases f3 with ⟨rfl, S, hb⟩ | ⟨g1, g2⟩
              · rw [if_pos rfl, if_pos (show (0 : Int32) ≤ 0 by decide)]
                exact eq_whoL (q := q) ho b g hsh e1 e2 ch 0 jN 0 σx σm (by omega) (by have := jN_ge; omega) h hlx hlm hb
              · rw [if_neg g1, if_neg g2]
                exact ⟨_, _, _, rfl, rfl, jOff.rf, mOff.rf⟩
            rw [if_neg (fun (z : ¬ Q8 (nI q)) => z c)]
            by_cases g9 : n % 10 = 9
            · rw [if_pos g9, if_pos g9, if_neg (fun (z : ¬ Q8 (nI q)) => z c)]
              exact main
            · have g8 : n % 10 < ch := by omega
              rw [if_neg g9, if_neg g9, if_neg (fun (z : ¬ n % 10 < ch) => z g8), if_neg (fun (z : ¬ n % 10 < ch) => z g8), if_neg (fun (z : ¬ Q8 (nI q)) => z c)]
              exact main
          · rw [if_pos c]
            by_cases g9 : n % 10 = 9
            · rw [if_pos g9, if_pos c]
              exact ⟨_, _, _, rfl, rfl, jOff.rf, mOff.rf⟩
            · have g8 : n % 10 < ch := by omega
              rw [if_neg g9, if_neg (fun (z : ¬ n % 10 < ch) => z g8), if_pos c]
              exact ⟨_, _, _, rfl, rfl, jOff.rf, mOff.rf⟩
        · have g9 : ¬ n % 10 = 9 := fun z => g (Or.inl z)
          have g8 : ¬ n % 10 < ch := fun z => g (Or.inr z)
          by_cases c : Q8 p3
          · rw [if_neg (fun (z : ¬ Q8 p3) => z c), if_neg g9, if_neg g9, if_pos g8, if_pos g8]
            exact ⟨_, _, _, rfl, rfl, jOff.rf, mOff.rf⟩
          · rw [if_pos c, if_neg g9, if_pos g8]
            exact ⟨_, _, _, rfl, rfl, jOff.rf, mOff.rf⟩
      · rw [if_pos b, if_pos b]
        exact ⟨_, _, _, rfl, rfl, jOff.rf, mOff.rf⟩
  · rw [if_pos d, if_pos d]
    exact ⟨_, _, _, rfl, rfl, jOff.rf, mOff.rf⟩
theorem eq_sureL {ch : Nat} {V : Nat → Nat → Int32} {lw : jL} (ho : lOk lw) {s c q sh S : Nat} {p1 : Int32} (hs : s < 3) (hc : c < ch) (hsh : sh < 6) (e1 : p1 / (100 : Int32) = nI s) (e2 : p1 / (10 : Int32) - p1 / (10 : Int32) / (10 : Int32) * (10 : Int32) = nI c) : ∀ (n k f : Nat) (b : Int32) (σx σm : jS), k + n = 10 → n < f → rN σx σm ch V → lX σx lw → lM σm lw → byR σx σm sh S → ∃ r σx' σm', jloop (fX11_sure_B46 (nI sh) p1 (nI q)) f (σx, b, nI k) = some (r, σx') ∧ jloop (fX12_sure_B53 (nI sh) p1 (nI q) (nI c)) f (σm, b, nI k) = some (r, σm') ∧ jOff [11, 12, 14, 15] σx σx' ∧ mOff [18, 19] [33, 34, 35, 36] σm σm' := by
  intro n
  induction n with
  | zero =>
    intro k f b σx σm hk hf h hlx hlm hb
    obtain ⟨f, rfl⟩ : ∃ g, f = g + 1 := ⟨f - 1, by omega⟩
    obtain rfl : k = 10 := by omega
    refine ⟨b, σx, σm, ?_, ?_, jOff.rf, mOff.rf⟩
    · rw [jloop_s, fX11_sure_B46_eq]
      rw [if_pos (show (9 : Int32) < nI 10 by decide)]
    · rw [jloop_s, fX12_sure_B53_eq]
      rw [if_pos (show (9 : Int32) < nI 10 by decide)]
  | succ n ih =>
    intro k f b σx σm hk hf h hlx hlm hb
    obtain ⟨f, rfl⟩ : ∃ g, f = g + 1 := ⟨f - 1, by omega⟩
    have h9 := h.1.1
    have k9 : ¬ (9 : Int32) < nI k := by rw [show (9 : Int32) = nI 9 from rfl, nI_ltI (by omega) (by omega)]; omega
    have ek9 : (nI k = (9 : Int32)) = (k = 9) := propext (nI_eq (a := k) (b := 9) (by omega) (by omega))
    have ekc : (nI k = nI c) = (k = c) := propext (nI_eq (by omega) (by omega))
    have bX : ∀ s46, fX11_sure_B46 (nI sh) p1 (nI q) s46 (σx, b, nI k) = if (k = 9 ∨ (k ≠ c ∧ k < ch)) then (Option.bind (fX11_firstUnlike σx (nI sh) (nI s * (10 : Int32) + nI k) (nI c) (nI q)) fun (q8 : (Int32 × jS)) => (if q8.1 = (-2 : Int32) then (s46 (q8.2, (b ||| ((1 : Int32) <<< (nI k &&& 31))), nI (k + 1))) else (s46 (q8.2, b, nI (k + 1))))) else s46 (σx, b, nI (k + 1)) := by
      intro s46
      rw [fX11_sure_B46_eq]
      unfold fX11_sure_B46_J103 fX11_swingOf fX11_childOf
      rw [if_neg k9]
      simp only [e1, e2, Option.bind_some, sX6_mayCount h.1, jb_jo, mayC_n (show k < 2 ^ 31 by omega) (show c < 2 ^ 31 by omega), nI_1]
      by_cases a : k = 9 ∨ (k ≠ c ∧ k < ch)
      · rw [if_neg (fun z => z a), if_pos a]
      · rw [if_pos a, if_neg a]
    have bM : ∀ s53, fX12_sure_B53 (nI sh) p1 (nI q) (nI c) s53 (σm, b, nI k) = if (k = 9 ∨ (k ≠ c ∧ k < ch)) then (Option.bind (fX12_wrongIn σm (nI sh) (nI s) (nI c) (nI k) (nI q)) fun (q8 : (Int32 × jS)) => (if q8.1 = (-2 : Int32) then (s53 (q8.2, (b ||| ((1 : Int32) <<< (nI k &&& 31))), nI (k + 1))) else (s53 (q8.2, b, nI (k + 1))))) else s53 (σm, b, nI (k + 1)) := by
      intro s53
      rw [fX12_sure_B53_eq]
      unfold fX12_sure_B53_J83 fX12_sure_B53_J111
      rw [if_neg k9]
      simp only [e1, Option.bind_some, sM_isChild h.2.1, jb_jo, isCh_n (show k < 2 ^ 31 by omega), ek9, ekc, nI_1]
      by_cases a : k = 9
      · rw [if_pos a, if_pos (Or.inl a)]
      · rw [if_neg a]
        by_cases d : k < ch
        · rw [if_neg (fun z => z d)]
          by_cases e : k = c
          · rw [if_pos e, if_neg (by omega)]
          · rw [if_neg e, if_pos (Or.inr ⟨e, d⟩)]
        · rw [if_pos d, if_neg (by omega)]
    rw [jloop_s, jloop_s, bX, bM]
    by_cases a : k = 9 ∨ (k ≠ c ∧ k < ch)
    · rw [if_pos a, if_pos a]
      obtain ⟨k1, k2⟩ := dm10 (s := s) (t := k) (by omega) (by omega)
      obtain ⟨r, X, M, j1, j2, j3, j4⟩ := eq_unlike (q := q) h hlx hlm ho hs hc (show cOk ch k c by unfold cOk; omega) hsh hb k1 k2
      obtain ⟨r2, X2, M2, g1, g2, g3, g4⟩ := ih (k + 1) f (if r = -2 then b ||| ((1 : Int32) <<< (nI k &&& 31)) else b) X M (by omega) (by omega) (rN18 h j3 j4) (lX11 hlx j3) (lM18 hlm j4) (byR18 hb j3 j4)
      refine ⟨r2, X2, M2, ?_, ?_, j3.trans g3, j4.trans g4⟩
      · rw [← g1, j1, Option.bind_some]
        by_cases z : r = -2
        · rw [if_pos z, if_pos z]
        · rw [if_neg z, if_neg z]
      · rw [← g2, j2, Option.bind_some]
        by_cases z : r = -2
        · rw [if_pos z, if_pos z]
        · rw [if_neg z, if_neg z]
    · rw [if_neg a, if_neg a]
      exact ih (k + 1) f b σx σm (by omega) (by omega) h hlx hlm hb
theorem eq_sure {σx σm : jS} {ch nb : Nat} {V : Nat → Nat → Int32} {lw : jL} (h : rN σx σm ch V) (hlx : lX σx lw) (hlm : lM σm lw) (ho : lOk lw) (hS : rS σx σm nb) (p1 p2 p3 : Int32) : ∃ r σx' σm', fX11_sure σx p1 p2 p3 = some (r, σx') ∧ fX12_sure σm p1 p2 p3 = some (r, σm') ∧ jOff [11, 12, 14, 15] σx σx' ∧ mOff [18, 19] [33, 34, 35, 36] σm σm' := by
  obtain ⟨hx, hm, hg⟩ := id h
  unfold fX11_sure fX12_sure
  rw [sX9_isShelf, sM_isShelf, sX11_isTold hx, sM_areThree hm]
  simp only [Option.bind_some, jb_jo, sM_areWaiting]
  by_cases d : isCh 6 p1
  · rw [if_neg (fun (z : ¬ isCh 6 p1) => z d), if_neg (fun (z : ¬ isCh 6 p1) => z d)]
    obtain ⟨sh, hsh, rfl⟩ := isCh_nat d
    by_cases a : T3 ch p2
    · by_cases b : Q8 p3
      · rw [if_neg (fun (z : ¬ (T3 ch p2 ∧ Q8 p3)) => z ⟨a, b⟩), if_neg (fun (z : ¬ T3 ch p2) => z a), if_neg (fun (z : ¬ Q8 p3) => z b)]
        obtain ⟨r, f1, f2, f3⟩ := eq_bytes hS hsh
        rw [f1, f2, Option.bind_some, Option.bind_some]
        rcases f3 with ⟨rfl, n, hb⟩ | ⟨g1, g2⟩
        · rw [if_pos rfl, if_pos (show (0 : Int32) ≤ 0 by decide)]
          obtain ⟨s, c, t, hs, hc, ht, e1, e2, e3⟩ := T3_of a hx.1
          obtain ⟨q, hq, rfl⟩ := Q8_of b
          rw [jst_e, e2]
          exact eq_sureL (q := q) ho hs hc hsh e1 e2 10 0 jN 0 σx σm (by omega) (by have := jN_ge; omega) h hlx hlm hb
        · rw [if_neg g1, if_neg g2]
          exact ⟨_, _, _, rfl, rfl, jOff.rf, mOff.rf⟩
      · rw [if_pos (fun z => b z.2), if_neg (fun (z : ¬ T3 ch p2) => z a), if_pos b]
        exact ⟨_, _, _, rfl, rfl, jOff.rf, mOff.rf⟩
    · rw [if_pos (fun z => a z.1), if_pos a]
      exact ⟨_, _, _, rfl, rfl, jOff.rf, mOff.rf⟩
  · rw [if_pos d, if_pos d]
    exact ⟨_, _, _, rfl, rfl, jOff.rf, mOff.rf⟩
