/-! changes, kept: the latest first -/
theorem jN_40 : ∃ n, jN = n + 41 := ⟨5959, rfl⟩
theorem vcpy_lo {α : Type} {f g : Nat → α} {j : Nat} (h : j < 39) : va_cpy f g 1 0 39 j = f (j + 1) := by
  rw [pk_cpy_in (Nat.zero_le _) (by omega)]
  congr 1
  omega
theorem ocp_1 {ρ : Type} {o : Option ρ} : ocp (1 : Int32) (0 : Int32) (39 : Int32) 40 40 o = o := by
  unfold ocp
  rw [if_neg (by decide)]
/-- how many are kept when one more comes -/
def jkp (dn : Nat) : Nat := if dn < 40 then dn else 39
theorem sX1_make {σ : jS} {dn k : Nat} (hd : dn ≤ 40) (h : σ.1 3 4 = nI dn) (hk : k < 61) (v : Int32) : ∃ σ', fX1_make σ (nI k) v = some σ' ∧ jOff [2, 3, 4, 5, 6] σ σ' ∧ σ'.1 2 = upd (σ.1 2) k v ∧ σ'.1 3 4 = nI (jkp dn + 1) ∧ σ'.1 3 5 = nI (jkp dn + 1) ∧ (σ'.1 4 (jkp dn) = nI k ∧ σ'.1 5 (jkp dn) = σ.1 2 k ∧ σ'.1 6 (jkp dn) = v) ∧ ∀ c, c = 4 ∨ c = 5 ∨ c = 6 → ∀ j, j < jkp dn → σ'.1 c j = if dn < 40 then σ.1 c j else σ.1 c (j + 1) := by
  have tail : ∀ (s : jS) (d : Nat), d < 40 → s.1 3 4 = nI d → s.1 2 = σ.1 2 → ∃ σ', (ob (s.1 3 4) 40 (jst (ju s 4 ((s.1 3 4)).toNatClampNeg (nI k)) fun (σ1 : jS) => (Option.bind (fX6_valueAt σ1 (nI k)) fun (q2 : Int32) => (ob (σ1.1 3 4) 40 (jst (ju σ1 5 ((σ1.1 3 4)).toNatClampNeg q2) fun (σ3 : jS) => (ob (σ3.1 3 4) 40 (jst (ju σ3 6 ((σ3.1 3 4)).toNatClampNeg v) fun (σ4 : jS) => (jst (ju σ4 3 4 ((σ4.1 3 4) + (1 : Int32))) fun (σ5 : jS) => (jst (ju σ5 3 5 (σ5.1 3 4)) fun (σ6 : jS) => (Option.bind (fX6_setAt σ6 (nI k) v) fun (q7 : jS) => (some q7))))))))))) = some σ' ∧ jOff [2, 3, 4, 5, 6] s σ' ∧ σ'.1 2 = upd (σ.1 2) k v ∧ σ'.1 3 4 = nI (d + 1) ∧ σ'.1 3 5 = nI (d + 1) ∧ (σ'.1 4 d = nI k ∧ σ'.1 5 d = σ.1 2 k ∧ σ'.1 6 d = v) ∧ ∀ c, c = 4 ∨ c = 5 ∨ c = 6 → ∀ j, j < d → σ'.1 c j = s.1 c j := by
    intro s d hd h3 h2
    have c1 : (nI d).toNatClampNeg = d := nI_cl (by omega)
    have w2 : ∀ (q : jS) (c i : Nat) (x : Int32), c ≠ 3 → (ju q c i x).1 3 4 = q.1 3 4 := fun q c i x hc => by rw [ju_n (fun z => hc z.symm)]
    simp only [jst, h3, c1, ob_nI hd (show 40 < 2 ^ 31 by omega), sX6_valueAt _ hk, sX6_setAt _ hk, Option.bind_some, w2 _ 4 _ _ (by decide), w2 _ 5 _ _ (by decide), w2 _ 6 _ _ (by decide), ju_s, nI_1, ju_n (show (2 : Nat) ≠ 4 by decide), h2]
    refine ⟨_, rfl, ?_, ?_, ?_, ?_, ⟨?_, ?_, ?_⟩, ?_⟩
    · have m2 : (2 : Nat) ∈ [2, 3, 4, 5, 6] := by decide
      have m3 : (3 : Nat) ∈ [2, 3, 4, 5, 6] := by decide
      have m4 : (4 : Nat) ∈ [2, 3, 4, 5, 6] := by decide
      have m5 : (5 : Nat) ∈ [2, 3, 4, 5, 6] := by decide
      have m6 : (6 : Nat) ∈ [2, 3, 4, 5, 6] := by decide
      exact (((((jOff.u m4).uT m5).uT m6).uT m3).uT m3).uT m2
    · rw [ju_c, ju_n (by decide), ju_n (by decide), ju_n (by decide), ju_n (by decide), ju_n (by decide), h2]
    · rw [ju_n (by decide), ju_i (by decide), ju_s]
    · rw [ju_n (by decide), ju_s]
    · rw [ju_n (by decide), ju_n (by decide), ju_n (by decide), ju_n (by decide), ju_n (by decide), ju_s]
    · rw [ju_n (by decide), ju_n (by decide), ju_n (by decide), ju_n (by decide), ju_s]
    · rw [ju_n (by decide), ju_n (by decide), ju_n (by decide), ju_s]
    · intro c hc j hj
      have hjd : j ≠ d := by omega
      rcases hc with rfl | rfl | rfl
      · rw [ju_n (by decide), ju_n (by decide), ju_n (by decide), ju_n (by decide), ju_n (by decide), ju_i hjd]
      · rw [ju_n (by decide), ju_n (by decide), ju_n (by decide), ju_n (by decide), ju_i hjd, ju_n (by decide)]
      · rw [ju_n (by decide), ju_n (by decide), ju_n (by decide), ju_i hjd, ju_n (by decide), ju_n (by decide)]
  unfold fX1_make jlet
  by_cases hc : dn < 40
  · rw [if_pos (by rw [h]; exact (nI_ltI (a := dn) (b := 40) (by omega) (by omega)).mpr hc)]
    obtain ⟨σ', e, o, r⟩ := tail σ dn hc h rfl
    have hj : jkp dn = dn := if_pos hc
    rw [hj]
    refine ⟨σ', e, o, r.1, r.2.1, r.2.2.1, r.2.2.2.1, fun c hcc j hjj => ?_⟩
    rw [if_pos hc]
    exact r.2.2.2.2 c hcc j hjj
  · rw [if_neg (by rw [h]; intro z; exact hc ((nI_ltI (a := dn) (b := 40) (by omega) (by omega)).mp z))]
    have hj : jkp dn = 39 := if_neg hc
    have hf : fX1_forgetOldest σ = some (ju (jc (jc (jc σ 4 (va_cpy (σ.1 4) (σ.1 4) 1 0 39)) 5 (va_cpy (σ.1 5) (σ.1 5) 1 0 39)) 6 (va_cpy (σ.1 6) (σ.1 6) 1 0 39)) 3 4 39) := by
      unfold fX1_forgetOldest
      simp only [ocp_1, jst, jc_n (show (5 : Nat) ≠ 4 by decide), jc_n (show (6 : Nat) ≠ 5 by decide), jc_n (show (6 : Nat) ≠ 4 by decide)]
      rfl
    rw [hf]
    simp only [Option.bind_some]
    obtain ⟨σ', e, o, r⟩ := tail (ju (jc (jc (jc σ 4 (va_cpy (σ.1 4) (σ.1 4) 1 0 39)) 5 (va_cpy (σ.1 5) (σ.1 5) 1 0 39)) 6 (va_cpy (σ.1 6) (σ.1 6) 1 0 39)) 3 4 39) 39 (by omega) (by rw [ju_s]; rfl) (by rw [ju_n (by decide), jc_n (by decide), jc_n (by decide), jc_n (by decide)])
    rw [hj]
    refine ⟨σ', e, ?_, r.1, r.2.1, r.2.2.1, r.2.2.2.1, fun c hcc j hjj => ?_⟩
    · exact ((((jOff.k (by decide)).kT (by decide)).kT (by decide)).uT (by decide)).trans o
    · rw [if_neg hc, r.2.2.2.2 c hcc j hjj]
      rcases hcc with rfl | rfl | rfl
      · rw [ju_n (by decide), jc_n (by decide), jc_n (by decide), jc_s, vcpy_lo hjj]
      · rw [ju_n (by decide), jc_n (by decide), jc_s, vcpy_lo hjj]
      · rw [ju_n (by decide), jc_s, vcpy_lo hjj]
theorem sM_shift {j111 : jS → Option (Int32 × jS)} : ∀ (n k : Nat) (σ : jS), 1 ≤ k → k ≤ 40 → 40 < k + n → ∃ σ', jloop (fX12_changes_B34 j111) n (σ, nI k) = j111 σ' ∧ mOff [8, 9, 10, 11] [] σ σ' ∧ ∀ c, c = 8 ∨ c = 9 ∨ c = 10 ∨ c = 11 → ∀ j, j < 39 → σ'.1 c j = if k ≤ j + 1 then σ.1 c (j + 1) else σ.1 c j := by
  intro n
  induction n with
  | zero => intro k σ h1 h2 h3; omega
  | succ n ih =>
    intro k σ h1 h2 h3
    rw [jloop_s]
    by_cases hk : k = 40
    · subst hk
      refine ⟨σ, ?_, mOff.rf, fun c hc j hj => ?_⟩
      · unfold fX12_changes_B34
        rw [if_pos (by decide)]
      · rw [if_neg (by omega)]
    · have hk4 : k < 40 := by omega
      have c1 : (nI k).toNatClampNeg = k := nI_cl (by omega)
      have e1 : nI k - 1 = nI (k - 1) := pk_sub (a := k) (b := 1) h1
      have c2 : (nI (k - 1)).toNatClampNeg = k - 1 := nI_cl (by omega)
      have step : ∀ s, fX12_changes_B34 j111 s (σ, nI k) = s (ju (ju (ju (ju σ 8 (k - 1) (σ.1 8 k)) 9 (k - 1) (σ.1 9 k)) 10 (k - 1) (σ.1 10 k)) 11 (k - 1) (σ.1 11 k), nI (k + 1)) := by
        intro s
        unfold fX12_changes_B34
        rw [if_neg (by rw [show (40 : Int32) = nI 40 from rfl, nI_leI (by omega) (by omega)]; omega)]
        simp only [jst, e1, c1, c2, ob_nI hk4 (show 40 < 2 ^ 31 by omega), ob_nI (show k - 1 < 40 by omega) (show 40 < 2 ^ 31 by omega), nI_1, ju_n (show (9 : Nat) ≠ 8 by decide), ju_n (show (10 : Nat) ≠ 8 by decide), ju_n (show (10 : Nat) ≠ 9 by decide), ju_n (show (11 : Nat) ≠ 8 by decide), ju_n (show (11 : Nat) ≠ 9 by decide), ju_n (show (11 : Nat) ≠ 10 by decide)]
      rw [step]
      obtain ⟨σ', e, o, r⟩ := ih (k + 1) (ju (ju (ju (ju σ 8 (k - 1) (σ.1 8 k)) 9 (k - 1) (σ.1 9 k)) 10 (k - 1) (σ.1 10 k)) 11 (k - 1) (σ.1 11 k)) (by omega) (by omega) (by omega)
      refine ⟨σ', e, ?_, fun c hc j hj => ?_⟩
      · exact ((((mOff.u (by decide) (by decide)).trans (mOff.u (by decide) (by decide))).trans (mOff.u (by decide) (by decide))).trans (mOff.u (by decide) (by decide))).trans o
      · rw [r c hc j hj]
        have rd : ∀ i, (ju (ju (ju (ju σ 8 (k - 1) (σ.1 8 k)) 9 (k - 1) (σ.1 9 k)) 10 (k - 1) (σ.1 10 k)) 11 (k - 1) (σ.1 11 k)).1 c i = if i = k - 1 then σ.1 c k else σ.1 c i := by
          intro i
          rcases hc with rfl | rfl | rfl | rfl
          · rw [ju_n (by decide), ju_n (by decide), ju_n (by decide), ju_r]
          · rw [ju_n (by decide), ju_n (by decide), ju_r, ju_n (by decide)]
          · rw [ju_n (by decide), ju_r, ju_n (by decide), ju_n (by decide)]
          · rw [ju_r, ju_n (by decide), ju_n (by decide), ju_n (by decide)]
        rw [rd, rd]
        by_cases a : k + 1 ≤ j + 1
        · rw [if_pos a, if_neg (by omega), if_pos (by omega)]
        · rw [if_neg a]
          by_cases b : j = k - 1
          · rw [if_pos b, if_pos (by omega)]
            congr 1
            omega
          · rw [if_neg b, if_neg (by omega)]
theorem sM_changes {σ : jS} {ch dn : Nat} {V : Nat → Nat → Int32} (h : nM σ ch V) (hd : dn ≤ 40) (h13 : σ.1 0 13 = nI dn) {w n : Nat} (hk : jok ch w n) {v : Int32} (hv : V w n ≠ v) : ∃ σ', fX12_changes σ (nI w) (nI n) v = some (V w n, σ') ∧ nM σ' ch (jput V w n v) ∧ mOff [1, 2, 3, 4, 5, 6, 7, 8, 9, 10, 11] [9, 10, 11, 12, 13, 14] σ σ' ∧ σ'.1 0 13 = nI (jkp dn + 1) ∧ σ'.1 0 14 = 0 ∧ (σ'.1 8 (jkp dn) = nI w ∧ σ'.1 9 (jkp dn) = nI n ∧ σ'.1 10 (jkp dn) = V w n ∧ σ'.1 11 (jkp dn) = v) ∧ ∀ c, c = 8 ∨ c = 9 ∨ c = 10 ∨ c = 11 → ∀ j, j < jkp dn → σ'.1 c j = if dn < 40 then σ.1 c j else σ.1 c (j + 1) := by
  have tail : ∀ (s : jS) (d : Nat), d < 40 → s.1 0 13 = nI d → s.1 0 14 = 0 → nM s ch V → ∃ σ', (ob (s.1 0 13) 40 (jst (ju s 8 ((s.1 0 13)).toNatClampNeg (nI w)) fun (σ3 : jS) => (ob (σ3.1 0 13) 40 (jst (ju σ3 9 ((σ3.1 0 13)).toNatClampNeg (nI n)) fun (σ4 : jS) => (ob (σ4.1 0 13) 40 (jst (ju σ4 10 ((σ4.1 0 13)).toNatClampNeg (V w n)) fun (σ5 : jS) => (ob (σ5.1 0 13) 40 (jst (ju σ5 11 ((σ5.1 0 13)).toNatClampNeg v) fun (σ6 : jS) => (jst (ju σ6 0 13 ((σ6.1 0 13) + (1 : Int32))) fun (σ7 : jS) => (Option.bind (fX12_lays σ7 (nI w) (nI n) v) fun (q8 : jS) => (some (V w n, q8)))))))))))) = some (V w n, σ') ∧ nM σ' ch (jput V w n v) ∧ mOff [1, 2, 3, 4, 5, 6, 7, 8, 9, 10, 11] [9, 10, 11, 12, 13, 14] s σ' ∧ σ'.1 0 13 = nI (d + 1) ∧ σ'.1 0 14 = 0 ∧ (σ'.1 8 d = nI w ∧ σ'.1 9 d = nI n ∧ σ'.1 10 d = V w n ∧ σ'.1 11 d = v) ∧ ∀ c, c = 8 ∨ c = 9 ∨ c = 10 ∨ c = 11 → ∀ j, j < d → σ'.1 c j = s.1 c j := by
    intro s d hd3 h3 h4 hs
    have c1 : (nI d).toNatClampNeg = d := nI_cl (by omega)
    have w2 : ∀ (q : jS) (c i : Nat) (x : Int32), c ≠ 0 → (ju q c i x).1 0 13 = q.1 0 13 := fun q c i x hc => by rw [ju_n (fun z => hc z.symm)]
    simp only [jst, h3, c1, ob_nI hd3 (show 40 < 2 ^ 31 by omega), w2 _ 8 _ _ (by decide), w2 _ 9 _ _ (by decide), w2 _ 10 _ _ (by decide), w2 _ 11 _ _ (by decide), nI_1]
    have om : mOff [8, 9, 10, 11] [13] s (ju (ju (ju (ju (ju s 8 d (nI w)) 9 d (nI n)) 10 d (V w n)) 11 d v) 0 13 (nI (d + 1))) := ((((mOff.u (by decide) (by decide)).trans (mOff.u (by decide) (by decide))).trans (mOff.u (by decide) (by decide))).trans (mOff.u (by decide) (by decide))).trans (mOff.f (by decide))
    have hn7 : nM (ju (ju (ju (ju (ju s 8 d (nI w)) 9 d (nI n)) 10 d (V w n)) 11 d v) 0 13 (nI (d + 1))) ch V := hs.off om (by decide) (by decide)
    obtain ⟨σ', e, hn, ho⟩ := sM_lays hn7 hk v
    rw [e]
    refine ⟨σ', rfl, hn, ?_, ?_, ?_, ⟨?_, ?_, ?_, ?_⟩, ?_⟩
    · exact (om.mono (by decide) (by decide)).trans (ho.mono (by decide) (by decide))
    · rw [ho.2.1 13 (by decide), ju_s]
    · rw [ho.2.1 14 (by decide), ju_i (by decide), ju_n (by decide), ju_n (by decide), ju_n (by decide), ju_n (by decide), h4]
    · rw [ho.1 8 (by decide) (by decide), ju_n (by decide), ju_n (by decide), ju_n (by decide), ju_n (by decide), ju_s]
    · rw [ho.1 9 (by decide) (by decide), ju_n (by decide), ju_n (by decide), ju_n (by decide), ju_s]
    · rw [ho.1 10 (by decide) (by decide), ju_n (by decide), ju_n (by decide), ju_s]
    · rw [ho.1 11 (by decide) (by decide), ju_n (by decide), ju_s]
    · intro c hc j hj
      have hjd : j ≠ d := by omega
      rcases hc with rfl | rfl | rfl | rfl
      · rw [ho.1 8 (by decide) (by decide), ju_n (by decide), ju_n (by decide), ju_n (by decide), ju_n (by decide), ju_i hjd]
      · rw [ho.1 9 (by decide) (by decide), ju_n (by decide), ju_n (by decide), ju_n (by decide), ju_i hjd, ju_n (by decide)]
      · rw [ho.1 10 (by decide) (by decide), ju_n (by decide), ju_n (by decide), ju_i hjd, ju_n (by decide), ju_n (by decide)]
      · rw [ho.1 11 (by decide) (by decide), ju_n (by decide), ju_i hjd, ju_n (by decide), ju_n (by decide), ju_n (by decide)]
  unfold fX12_changes
  rw [sM_valueAt h hk]
  simp only [Option.bind_some, jst, jlet]
  rw [if_neg hv]
  have h14 : nM (ju σ 0 14 0) ch V := h.off (S := []) (F := [14]) (mOff.f (by decide)) (by decide) (by decide)
  have e13 : (ju σ 0 14 0).1 0 13 = nI dn := by rw [ju_i (by decide), h13]
  by_cases hc : dn < 40
  · rw [if_neg (by rw [e13]; intro z; have := (nI_eq (a := dn) (b := 40) (by omega) (by omega)).mp z; omega)]
    obtain ⟨σ', e, hn, o, r⟩ := tail (ju σ 0 14 0) dn hc e13 ju_s h14
    have hj : jkp dn = dn := if_pos hc
    rw [hj]
    simp only [jst] at e
    refine ⟨σ', e, hn, (mOff.f (by decide)).trans o, r.1, r.2.1, r.2.2.1, fun c hcc j hjj => ?_⟩
    rw [if_pos hc, r.2.2.2 c hcc j hjj, ju_n (by rcases hcc with rfl | rfl | rfl | rfl <;> decide)]
  · have hd4 : dn = 40 := by omega
    subst hd4
    rw [if_pos (by rw [e13]; rfl)]
    obtain ⟨n0, hN⟩ := jN_40
    rw [hN]
    have hj : jkp 40 = 39 := rfl
    obtain ⟨s, e, o, r⟩ := sM_shift (j111 := fun (a111 : jS) => (fun (a121 : jS) => (ob (a121.1 0 13) 40 ((fun (σ3 : jS) => (ob (σ3.1 0 13) 40 ((fun (σ4 : jS) => (ob (σ4.1 0 13) 40 ((fun (σ5 : jS) => (ob (σ5.1 0 13) 40 ((fun (σ6 : jS) => ((fun (σ7 : jS) => (Option.bind (fX12_lays σ7 (nI w) (nI n) v) fun (q8 : jS) => (some (V w n, q8)))) (ju σ6 0 13 ((σ6.1 0 13) + (1 : Int32))))) (ju σ5 11 ((σ5.1 0 13)).toNatClampNeg v)))) (ju σ4 10 ((σ4.1 0 13)).toNatClampNeg (V w n))))) (ju σ3 9 ((σ3.1 0 13)).toNatClampNeg (nI n))))) (ju a121 8 ((a121.1 0 13)).toNatClampNeg (nI w))))) (ju a111 0 13 ((a111.1 0 13) - (1 : Int32)))) (n0 + 41) 1 (ju σ 0 14 0) (by omega) (by omega) (by omega)
    refine (show (∃ σ', jloop (fX12_changes_B34 _) (n0 + 41) (ju σ 0 14 0, nI 1) = some (V w n, σ') ∧ _) from ?_)
    rw [e]
    have os : nM s ch V := h14.off o (by decide) (by decide)
    have s13 : s.1 0 13 = nI 40 := by rw [o.2.1 13 (by decide), e13]
    have e39 : s.1 0 13 - 1 = nI 39 := by rw [s13]; rfl
    have o39 : mOff [] [13] s (ju s 0 13 (nI 39)) := mOff.f (by decide)
    obtain ⟨σ', e2, hn, o2, r2⟩ := tail (ju s 0 13 (nI 39)) 39 (by omega) ju_s (by rw [ju_i (by decide), o.2.1 14 (by decide), ju_s]) (os.off o39 (by decide) (by decide))
    simp only [jst] at e2
    rw [hj]
    refine ⟨σ', ?_, hn, ?_, r2.1, r2.2.1, r2.2.2.1, fun c hcc j hjj => ?_⟩
    · simp only [e39]
      exact e2
    · exact (((mOff.f (by decide)).trans (o.mono (by decide) (by decide))).trans (o39.mono (by decide) (by decide))).trans o2
    · rw [if_neg (by omega), r2.2.2.2 c hcc j hjj, ju_n (by rcases hcc with rfl | rfl | rfl | rfl <;> decide), r c hcc j hjj, if_pos (by omega), ju_n (by rcases hcc with rfl | rfl | rfl | rfl <;> decide)]
