/-! changes, kept: the latest first -/
theorem jN_40 : ∃ n, jN = n + 41 := ⟨jN - 41, by have := jN_ge; omega⟩
theorem vcpy_lo {α : Type} {f g : Nat → α} {j : Nat} (h : j < 39) : va_cpy f g 1 0 39 j = f (j + 1) := by
  rw [pk_cpy_in (Nat.zero_le _) (by omega)]
  congr 1
  omega
theorem ocp_1 {ρ : Type} {o : Option ρ} : ocp (1 : Int32) (0 : Int32) (39 : Int32) 40 40 o = o := by
  unfold ocp
  rw [if_neg (by decide)]
/-- how many are kept when one more comes -/
def jkp (dn : Nat) : Nat := if dn < 40 then dn else 39
theorem sX1_make {σ : jS} {dn k : Nat} (hd : dn ≤ 40) (h : σ.1 3 4 = nI dn) (hk : k < 61) (v : Int32) : ∃ σ', fX1_make σ (nI k) v = some σ' ∧ jOff [2, 3, 4, 5, 6] σ σ' ∧ σ'.1 2 = upd (σ.1 2) k v ∧ σ'.1 3 4 = nI (jkp dn + 1) ∧ σ'.1 3 5 = nI (jkp dn + 1) ∧ (σ'.1 4 (jkp dn) = nI k ∧ σ'.1 5 (jkp dn) = σ.1 2 k ∧ σ'.1 6 (jkp dn) = v) ∧ ∀ c, c = 4 ∨ c = 5 ∨ c = 6 → ∀ j, j < jkp dn → σ'.1 c j = if dn < 40 then σ.1 c j else σ.1 c (j + 1) := by
  have tail : ∀ (s : jS) (d : Nat), d < 40 → s.1 3 4 = nI d → s.1 2 = σ.1 2 → ∃ σ', (ob (s.1 3 4) 40 (jst (ju s 4 ((s.1 3 4)).toNatClampNeg (nI k)) fun (σ1 : jS) => (Option.bind (fX6_valueAt σ1 (nI k)) fun (q2 : Int32) => (ob (σ1.1 3 4) 40 (jst (ju σ1 5 ((σ1.1 3 4)).toNatClampNeg q2) fun (σ3 : jS) => (ob (σ3.1 3 4) 40 (jst (ju σ3 6 ((σ3.1 3 4)).toNatClampNeg v) fun (σ4 : jS) => (jst (ju σ4 3 4 ((σ4.1 3 4) + (1 : Int32))) fun (σ5 : jS) => (jst (ju σ5 3 5 (σ5.1 3 4)) fun (σ6 : jS) => (Option.bind (fX6_setAt σ6 (nI k) v) fun (q7 : jS) => (some q7))))))))))) = some σ' ∧ jOff [2, 3, 4, 5, 6] s σ' ∧ σ'.1 2 = upd (σ.1 2) k v ∧ σ'.1 3 4 = nI (d + 1) ∧ σ'.1 3 5 = nI (d + 1) ∧ (σ'.1 4 d = nI k ∧ σ'.1 5 d = σ.1 2 k ∧ σ'.1 6 d = v) ∧ ∀ c, c = 4 ∨ c = 5 ∨ c = 6 → ∀ j, j < d → σ'.1 c j = s.1 c j := by
    intro s d hd h3 h2
    have c1 : (nI d).toNatClampNeg = d := nI_cl (by omega)
    have w2 : ∀ (q : jS) (c i : Nat) (x : Int32), c ≠ 3 → (ju q c i x).1 3 4 = q.1 3 4 := fun q c i x hc => by rw [ju_n (fun z => hc z.symm)]
    simp only [jst, h3, c1, ob_nI hd (show 40 < 2 ^ 31 by omega), sX6_valueAt _ hk, sX6_setAt _ hk, Option.bind_some, w2 _ 4 _ _ (by decide), w2 _ 5 _ _ (by decide), w2 _ 6 _ _ (by decide), ju_s, nI_1, ju_n (show (2 : Nat) ≠ 4 by decide), h2]
    refine ⟨_, rfl, ?_, ?_, ?_, ?_, ⟨?_, ?_, ?_⟩, ?_⟩
    · have m2 : (2 : Nat) ∈ [2, 3, 4, 5, 6] := by decide
      have m3 : (3 : Nat) ∈ [2, 3, 4, 5, 6] := by decide
      have m4 : (4 : Nat) ∈ [2, 3, 4, 5, 6] := by decide
      have m5 : (5 : Nat) ∈ [2, 3, 4, 5, 6] := by decide
      have m6 : (6 : Nat) ∈ [2, 3, 4, 5, 6] := by decide
      exact (((((jOff.u m4).uT m5).uT m6).uT m3).uT m3).uT m2
    · rw [ju_c, ju_n (by decide), ju_n (by decide), ju_n (by decide), ju_n (by decide), ju_n (by decide), h2]
    · rw [ju_n (by decide), ju_i (by decide), ju_s]
    · rw [ju_n (by decide), ju_s]
    · rw [ju_n (by decide), ju_n (by decide), ju_n (by decide), ju_n (by decide), ju_n (by decide), ju_s]
    · rw [ju_n (by decide), ju_n (by decide), ju_n (by decide), ju_n (by decide), ju_s]
    · rw [ju_n (by decide), ju_n (by decide), ju_n (by decide), ju_s]
    · intro c hc j hj
      have hjd : j ≠ d := by omega
      rcases hc with rfl | rfl | rfl
      · rw [ju_n (by decide), ju_n (by decide), ju_n (by decide), ju_n (by decide), ju_n (by decide), ju_i hjd]
      · rw [ju_n (by decide), ju_n (by decide), ju_n (by decide), ju_n (by decide), ju_i hjd, ju_n (by decide)]
      · rw [ju_n (by decide), ju_n (by decide), ju_n (by decide), ju_i hjd, ju_n (by decide), ju_n (by decide)]
  unfold fX1_make
  simp only [jlet]
  by_cases hc : dn < 40
  · have hif : σ.1 3 4 < (40 : Int32) := by rw [h]; exact (nI_ltI (a := dn) (b := 40) (by omega) (by omega)).mpr hc
    simp only [if_pos hif]
    obtain ⟨σ', e, o, r⟩ := tail σ dn hc h rfl
    have hj : jkp dn = dn := if_pos hc
    rw [hj]
    refine ⟨σ', e, o, r.1, r.2.1, r.2.2.1, r.2.2.2.1, fun c hcc j hjj => ?_⟩
    rw [if_pos hc]
    exact r.2.2.2.2 c hcc j hjj
  · have hif : ¬ σ.1 3 4 < (40 : Int32) := by rw [h]; intro z; exact hc ((nI_ltI (a := dn) (b := 40) (by omega) (by omega)).mp z)
    simp only [if_neg hif]
    have hj : jkp dn = 39 := if_neg hc
    have hf : fX1_forgetOldest σ = some (ju (jc (jc (jc σ 4 (va_cpy (σ.1 4) (σ.1 4) 1 0 39)) 5 (va_cpy (σ.1 5) (σ.1 5) 1 0 39)) 6 (va_cpy (σ.1 6) (σ.1 6) 1 0 39)) 3 4 39) := by
      unfold fX1_forgetOldest
      simp only [ocp_1, jst, jc_n (show (5 : Nat) ≠ 4 by decide), jc_n (show (6 : Nat) ≠ 5 by decide), jc_n (show (6 : Nat) ≠ 4 by decide)]
      rfl
    rw [hf]
    simp only [Option.bind_some]
    obtain ⟨σ', e, o, r⟩ := tail (ju (jc (jc (jc σ 4 (va_cpy (σ.1 4) (σ.1 4) 1 0 39)) 5 (va_cpy (σ.1 5) (σ.1 5) 1 0 39)) 6 (va_cpy (σ.1 6) (σ.1 6) 1 0 39)) 3 4 39) 39 (by omega) (by rw [ju_s]; rfl) (by rw [ju_n (by decide), jc_n (by decide), jc_n (by decide), jc_n (by decide)])
    rw [hj]
    refine ⟨σ', e, ?_, r.1, r.2.1, r.2.2.1, r.2.2.2.1, fun c hcc j hjj => ?_⟩
    · exact ((((jOff.k (by decide)).kT (by decide)).kT (by decide)).uT (by decide)).trans o
    · rw [if_neg hc, r.2.2.2.2 c hcc j hjj]
      rcases hcc with rfl | rfl | rfl
      · rw [ju_n (by decide), jc_n (by decide), jc_n (by decide), jc_s, vcpy_lo hjj]
      · rw [ju_n (by decide), jc_n (by decide), jc_s, vcpy_lo hjj]
      · rw [ju_n (by decide), jc_s, vcpy_lo hjj]
theorem sM_shift : ∀ (n k : Nat) (σ : jS), 1 ≤ k → k ≤ 40 → 40 < k + n → ∃ σ', (∀ j111, jloop (fX12_changes_B34 j111) n (σ, nI k) = j111 σ') ∧ mOff [8, 9, 10, 11] [] σ σ' ∧ ∀ c, c = 8 ∨ c = 9 ∨ c = 10 ∨ c = 11 → ∀ j, j < 39 → σ'.1 c j = if k ≤ j + 1 then σ.1 c (j + 1) else σ.1 c j := by
  intro n
  induction n with
  | zero => intro k σ h1 h2 h3; omega
  | succ n ih =>
    intro k σ h1 h2 h3
    by_cases hk : k = 40
    · subst hk
      refine ⟨σ, fun j111 => ?_, mOff.rf, fun c hc j hj => ?_⟩
      · rw [jloop_s]
        unfold fX12_changes_B34
        rw [if_pos (show (40 : Int32) ≤ nI 40 by decide)]
      · rw [if_neg (show ¬ 40 ≤ j + 1 by omega)]
    · have hk4 : k < 40 := by omega
      have c1 : (nI k).toNatClampNeg = k := nI_cl (by omega)
      have e1 : nI k - 1 = nI (k - 1) := pk_sub (a := k) (b := 1) h1
      have c2 : (nI (k - 1)).toNatClampNeg = k - 1 := nI_cl (by omega)
      have step : ∀ j111 s, fX12_changes_B34 j111 s (σ, nI k) = s (ju (ju (ju (ju σ 8 (k - 1) (σ.1 8 k)) 9 (k - 1) (σ.1 9 k)) 10 (k - 1) (σ.1 10 k)) 11 (k - 1) (σ.1 11 k), nI (k + 1)) := by
        intro j111 s
        unfold fX12_changes_B34
        rw [if_neg (by rw [show (40 : Int32) = nI 40 from rfl, nI_leI (by omega) (by omega)]; omega)]
        simp only [jst, e1, c1, c2, ob_nI hk4 (show 40 < 2 ^ 31 by omega), ob_nI (show k - 1 < 40 by omega) (show 40 < 2 ^ 31 by omega), nI_1, ju_n (show (9 : Nat) ≠ 8 by decide), ju_n (show (10 : Nat) ≠ 8 by decide), ju_n (show (10 : Nat) ≠ 9 by decide), ju_n (show (11 : Nat) ≠ 8 by decide), ju_n (show (11 : Nat) ≠ 9 by decide), ju_n (show (11 : Nat) ≠ 10 by decide)]
      obtain ⟨σ', e, o, r⟩ := ih (k + 1) (ju (ju (ju (ju σ 8 (k - 1) (σ.1 8 k)) 9 (k - 1) (σ.1 9 k)) 10 (k - 1) (σ.1 10 k)) 11 (k - 1) (σ.1 11 k)) (by omega) (by omega) (by omega)
      refine ⟨σ', fun j111 => by rw [jloop_s, step, e], ?_, fun c hc j hj => ?_⟩
      · exact ((((mOff.u (by decide) (by decide)).trans (mOff.u (by decide) (by decide))).trans (mOff.u (by decide) (by decide))).trans (mOff.u (by decide) (by decide))).trans o
      · rw [r c hc j hj]
        have rd : ∀ i, (ju (ju (ju (ju σ 8 (k - 1) (σ.1 8 k)) 9 (k - 1) (σ.1 9 k)) 10 (k - 1) (σ.1 10 k)) 11 (k - 1) (σ.1 11 k)).1 c i = if i = k - 1 then σ.1 c k else σ.1 c i := by
          intro i
          rcases hc with rfl | rfl | rfl | rfl
          · rw [ju_n (by decide), ju_n (by decide), ju_n (by decide), ju_r]
          · rw [ju_n (by decide), ju_n (by decide), ju_r, ju_n (by decide)]
          · rw [ju_n (by decide), ju_r, ju_n (by decide), ju_n (by decide)]
          · rw [ju_r, ju_n (by decide), ju_n (by decide), ju_n (by decide)]
        rw [rd, rd]
        by_cases a : k + 1 ≤ j + 1
        · rw [if_pos a, if_neg (show ¬ j + 1 = k - 1 by omega), if_pos (show k ≤ j + 1 by omega)]
        · rw [if_neg a]
          by_cases b : j = k - 1
          · rw [if_pos b, if_pos (show k ≤ j + 1 by omega), show j + 1 = k by omega]
          · rw [if_neg b, if_neg (show ¬ k ≤ j + 1 by omega)]
