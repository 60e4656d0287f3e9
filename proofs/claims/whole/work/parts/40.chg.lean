/-- what changes() does behind the keeping of the latest 39 -/
noncomputable def chgT (p1 p2 p3 q1 : Int32) (a121 : jS) : Option (Int32 × jS) :=
  (ob (a121.1 0 13) 40 (jst (ju a121 8 ((a121.1 0 13)).toNatClampNeg p1) fun (σ3 : jS) => (ob (σ3.1 0 13) 40 (jst (ju σ3 9 ((σ3.1 0 13)).toNatClampNeg p2) fun (σ4 : jS) => (ob (σ4.1 0 13) 40 (jst (ju σ4 10 ((σ4.1 0 13)).toNatClampNeg q1) fun (σ5 : jS) => (ob (σ5.1 0 13) 40 (jst (ju σ5 11 ((σ5.1 0 13)).toNatClampNeg p3) fun (σ6 : jS) => (jst (ju σ6 0 13 ((σ6.1 0 13) + (1 : Int32))) fun (σ7 : jS) => (Option.bind (fX12_lays σ7 p1 p2 p3) fun (q8 : jS) => (some (q1, q8))))))))))))
theorem chg_eq (σ : jS) (p1 p2 p3 : Int32) : fX12_changes σ p1 p2 p3 = (fX12_valueAt σ p1 p2).bind fun q1 => if q1 = p3 then some (q1, σ) else if (ju σ 0 14 0).1 0 13 = 40 then jloop (fX12_changes_B34 (fun a => chgT p1 p2 p3 q1 (ju a 0 13 (a.1 0 13 - 1)))) jN (ju σ 0 14 0, 1) else chgT p1 p2 p3 q1 (ju σ 0 14 0) := rfl
theorem sM_changes {σ : jS} {ch dn : Nat} {V : Nat → Nat → Int32} (h : nM σ ch V) (hd : dn ≤ 40) (h13 : σ.1 0 13 = nI dn) {w n : Nat} (hk : jok ch w n) {v : Int32} (hv : V w n ≠ v) : ∃ σ', fX12_changes σ (nI w) (nI n) v = some (V w n, σ') ∧ nM σ' ch (jput V w n v) ∧ mOff [1, 2, 3, 4, 5, 6, 7, 8, 9, 10, 11] [9, 10, 11, 12, 13, 14] σ σ' ∧ σ'.1 0 13 = nI (jkp dn + 1) ∧ σ'.1 0 14 = 0 ∧ (σ'.1 8 (jkp dn) = nI w ∧ σ'.1 9 (jkp dn) = nI n ∧ σ'.1 10 (jkp dn) = V w n ∧ σ'.1 11 (jkp dn) = v) ∧ ∀ c, c = 8 ∨ c = 9 ∨ c = 10 ∨ c = 11 → ∀ j, j < jkp dn → σ'.1 c j = if dn < 40 then σ.1 c j else σ.1 c (j + 1) := by
  have tail : ∀ (s : jS) (d : Nat), d < 40 → s.1 0 13 = nI d → s.1 0 14 = 0 → nM s ch V → ∃ σ', chgT (nI w) (nI n) v (V w n) s = some (V w n, σ') ∧ nM σ' ch (jput V w n v) ∧ mOff [1, 2, 3, 4, 5, 6, 7, 8, 9, 10, 11] [9, 10, 11, 12, 13, 14] s σ' ∧ σ'.1 0 13 = nI (d + 1) ∧ σ'.1 0 14 = 0 ∧ (σ'.1 8 d = nI w ∧ σ'.1 9 d = nI n ∧ σ'.1 10 d = V w n ∧ σ'.1 11 d = v) ∧ ∀ c, c = 8 ∨ c = 9 ∨ c = 10 ∨ c = 11 → ∀ j, j < d → σ'.1 c j = s.1 c j := by
    intro s d hd3 h3 h4 hs
    have c1 : (nI d).toNatClampNeg = d := nI_cl (by omega)
    have w2 : ∀ (q : jS) (c i : Nat) (x : Int32), c ≠ 0 → (ju q c i x).1 0 13 = q.1 0 13 := fun q c i x hc => by rw [ju_n (fun z => hc z.symm)]
    unfold chgT
    simp only [jst, h3, c1, ob_nI hd3 (show 40 < 2 ^ 31 by omega), w2 _ 8 _ _ (by decide), w2 _ 9 _ _ (by decide), w2 _ 10 _ _ (by decide), w2 _ 11 _ _ (by decide), nI_1]
    have om : mOff [8, 9, 10, 11] [13] s (ju (ju (ju (ju (ju s 8 d (nI w)) 9 d (nI n)) 10 d (V w n)) 11 d v) 0 13 (nI (d + 1))) := ((((mOff.u (by decide) (by decide)).trans (mOff.u (by decide) (by decide))).trans (mOff.u (by decide) (by decide))).trans (mOff.u (by decide) (by decide))).trans (mOff.f (by decide))
    have hn7 : nM (ju (ju (ju (ju (ju s 8 d (nI w)) 9 d (nI n)) 10 d (V w n)) 11 d v) 0 13 (nI (d + 1))) ch V := hs.off om (by decide) (by decide)
    obtain ⟨σ', e, hn, ho⟩ := sM_lays hn7 hk v
    rw [e]
    refine ⟨σ', rfl, hn, ?_, ?_, ?_, ⟨?_, ?_, ?_, ?_⟩, ?_⟩
    · exact (om.mono (by decide) (by decide)).trans (ho.mono (by decide) (by decide))
    · rw [ho.2.1 13 (by decide), ju_s]
    · rw [ho.2.1 14 (by decide), ju_i (by decide), ju_n (by decide), ju_n (by decide), ju_n (by decide), ju_n (by decide), h4]
    · rw [ho.1 8 (by decide) (by decide), ju_n (by decide), ju_n (by decide), ju_n (by decide), ju_n (by decide), ju_s]
    · rw [ho.1 9 (by decide) (by decide), ju_n (by decide), ju_n (by decide), ju_n (by decide), ju_s]
    · rw [ho.1 10 (by decide) (by decide), ju_n (by decide), ju_n (by decide), ju_s]
    · rw [ho.1 11 (by decide) (by decide), ju_n (by decide), ju_s]
    · intro c hc j hj
      have hjd : j ≠ d := by omega
      rcases hc with rfl | rfl | rfl | rfl
      · rw [ho.1 8 (by decide) (by decide), ju_n (by decide), ju_n (by decide), ju_n (by decide), ju_n (by decide), ju_i hjd]
      · rw [ho.1 9 (by decide) (by decide), ju_n (by decide), ju_n (by decide), ju_n (by decide), ju_i hjd, ju_n (by decide)]
      · rw [ho.1 10 (by decide) (by decide), ju_n (by decide), ju_n (by decide), ju_i hjd, ju_n (by decide), ju_n (by decide)]
      · rw [ho.1 11 (by decide) (by decide), ju_n (by decide), ju_i hjd, ju_n (by decide), ju_n (by decide), ju_n (by decide)]
  rw [chg_eq, sM_valueAt h hk]
  simp only [Option.bind_some]
  rw [if_neg hv]
  have h14 : nM (ju σ 0 14 0) ch V := h.off (S := []) (F := [14]) (mOff.f (by decide)) (by decide) (by decide)
  have e13 : (ju σ 0 14 0).1 0 13 = nI dn := by rw [ju_i (by decide), h13]
  by_cases hc : dn < 40
  · rw [if_neg (by rw [e13]; intro z; have := (nI_eq (a := dn) (b := 40) (by omega) (by omega)).mp z; omega)]
    obtain ⟨σ', e, hn, o, r⟩ := tail (ju σ 0 14 0) dn hc e13 ju_s h14
    have hj : jkp dn = dn := if_pos hc
    rw [hj]
    refine ⟨σ', e, hn, (mOff.f (by decide)).trans o, r.1, r.2.1, r.2.2.1, fun c hcc j hjj => ?_⟩
    rw [if_pos hc, r.2.2.2 c hcc j hjj, ju_n (by rcases hcc with rfl | rfl | rfl | rfl <;> decide)]
  · have hd4 : dn = 40 := by omega
    subst hd4
    rw [if_pos (by rw [e13]; rfl)]
    obtain ⟨n0, hN⟩ := jN_40
    rw [hN]
    have hj : jkp 40 = 39 := rfl
    obtain ⟨s, e, o, r⟩ := sM_shift (n0 + 41) 1 (ju σ 0 14 0) (by omega) (by omega) (by omega)
    have e' : ∀ j, jloop (fX12_changes_B34 j) (n0 + 41) (ju σ 0 14 0, (1 : Int32)) = j s := e
    rw [e']
    have os : nM s ch V := h14.off o (by decide) (by decide)
    have s13 : s.1 0 13 = nI 40 := by rw [o.2.1 13 (by decide), e13]
    have e39 : s.1 0 13 - 1 = nI 39 := by rw [s13]; rfl
    have o39 : mOff [] [13] s (ju s 0 13 (nI 39)) := mOff.f (by decide)
    obtain ⟨σ', e2, hn, o2, r2⟩ := tail (ju s 0 13 (nI 39)) 39 (by omega) ju_s (by rw [ju_i (by decide), o.2.1 14 (by decide), ju_s]) (os.off o39 (by decide) (by decide))
    rw [hj]
    refine ⟨σ', ?_, hn, ?_, r2.1, r2.2.1, r2.2.2.1, fun c hcc j hjj => ?_⟩
    · show chgT _ _ _ _ (ju s 0 13 (s.1 0 13 - 1)) = _
      rw [e39]
      exact e2
    · exact (((mOff.f (by decide)).trans (o.mono (by decide) (by decide))).trans (o39.mono (by decide) (by decide))).trans o2
    · rw [if_neg (by omega), r2.2.2.2 c hcc j hjj, ju_n (by rcases hcc with rfl | rfl | rfl | rfl <;> decide), r c hcc j hjj, if_pos (by omega), ju_n (by rcases hcc with rfl | rfl | rfl | rfl <;> decide)]
