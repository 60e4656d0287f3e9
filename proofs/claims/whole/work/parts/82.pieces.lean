/-! THE LAW works: the reference, all lines -/
theorem wM_step {σ : jS} {e k : Nat} {i : Nat × Nat} {env : Nat → Int32} {st st' : List Int32} (j : jS → Option (Int32 × jS)) (s : jS × Int32 × Int32 → Option (Int32 × jS)) (he : e ≤ 130) (hk : k < e) (hg : jGood i) (hv : σ.1 13 k = nI i.1) (hw : σ.1 14 k = nI i.2) (hE : ∀ j, j < 6 → σ.1 18 j = env j) (hl : st.length ≤ 64) (hs : stk (σ.1 19) st) (hr : jstep env i st = some st') : ∃ σ', fX12_worked_B12 0 (nI e) j s (σ, nI st.length, nI k) = s (σ', nI st'.length, nI (k + 1)) ∧ stk (σ'.1 19) st' ∧ st'.length ≤ 64 ∧ mOff [19] [] σ σ' := by
  have mo : ∀ {a : Nat} {v : Int32}, mOff [19] [] σ (ju σ 19 a v) := fun {a v} => mOff.u (by simp) (by decide)
  by_cases h1 : i.1 = 1
  · obtain ⟨a, n⟩ := i
    dsimp only at h1 hv hw
    subst h1
    have hr2 : (if st.length < 64 then some (nI n :: st) else none) = some st' := hr
    by_cases z : st.length < 64
    · rw [if_pos z] at hr2
      cases hr2
      refine ⟨_, wM_1 he hk (by omega) hv, ⟨?_, hs.cp (fun j hj => ju_i (by omega))⟩, by simp only [List.length_cons]; omega, mo⟩
      rw [ju_s, hw]
    · rw [if_neg z] at hr2; cases hr2
  by_cases h2 : i.1 = 2
  · obtain ⟨a, n⟩ := i
    dsimp only at h2 hv hw
    subst h2
    have hn : n < 6 := by
      rcases hg with h | h | h | h | h
      · exact absurd h.1 (by dsimp only; omega)
      · exact h.2
      · cases h
      · cases h
      · exact absurd h.1 (by dsimp only; omega)
    have hr2 : (if st.length < 64 then some (env n :: st) else none) = some st' := hr
    by_cases z : st.length < 64
    · rw [if_pos z] at hr2
      cases hr2
      refine ⟨_, wM_2 he hk (by omega) hn hv hw, ⟨?_, hs.cp (fun j hj => ju_i (by omega))⟩, by simp only [List.length_cons]; omega, mo⟩
      rw [ju_s, hE n hn]
    · rw [if_neg z] at hr2; cases hr2
  cases st with
  | nil =>
    exfalso
    unfold jstep at hr
    rw [if_neg h1, if_neg h2] at hr
    by_cases h3 : i.1 = 3
    · rw [if_pos h3] at hr; cases hr
    · rw [if_neg h3] at hr
      by_cases h4 : i.1 = 4
      · rw [if_pos h4] at hr; cases hr
      · rw [if_neg h4] at hr; cases hr
  | cons a r =>
    have hla : (a :: r).length = r.length + 1 := rfl
    have hs1 : σ.1 19 r.length = a := hs.1
    rw [hla] at hl ⊢
    rcases hg with h | h | h | h | h
    · exact absurd h.1 h1
    · exact absurd h.1 h2
    · subst h
      have hr2 : some ((if a = 0 then 1 else 0) :: r) = some st' := hr
      cases hr2
      have key := wM_3 (j := j) (s := s) (m := r.length + 1) he hk (by omega) (by omega) hv
      rw [show r.length + 1 - 1 = r.length by omega, hs1] at key
      exact ⟨_, key, ⟨ju_s, hs.2.cp (fun j hj => ju_i (by omega))⟩, hl, mo⟩
    · subst h
      have hr2 : some (-a :: r) = some st' := hr
      cases hr2
      have key := wM_4 (j := j) (s := s) (m := r.length + 1) he hk (by omega) (by omega) hv
      rw [show r.length + 1 - 1 = r.length by omega, hs1] at key
      exact ⟨_, key, ⟨ju_s, hs.2.cp (fun j hj => ju_i (by omega))⟩, hl, mo⟩
    · have ho := h.1
      cases r with
      | nil =>
        exfalso
        unfold jstep at hr
        rw [if_neg h1, if_neg h2, if_neg (by omega), if_neg (by omega)] at hr
        cases hr
      | cons b r =>
        have hr2 : some (jop i.1 b a :: r) = some st' := by
          unfold jstep at hr
          rw [if_neg h1, if_neg h2, if_neg (by omega), if_neg (by omega)] at hr
          exact hr
        cases hr2
        have hlb : (b :: r).length = r.length + 1 := rfl
        have hs2 : σ.1 19 r.length = b := hs.2.1
        rw [hlb] at hs1 hl ⊢
        have key := wM_5 (j := j) (s := s) (m := r.length + 1 + 1) he hk (by omega) (by omega) ho hv
        rw [show r.length + 1 + 1 - 2 = r.length by omega, show r.length + 1 + 1 - 1 = r.length + 1 by omega, hs1, hs2] at key
        exact ⟨_, key, ⟨ju_s, hs.2.2.cp (fun j hj => ju_i (by omega))⟩, by simp only [List.length_cons]; omega, mo⟩
theorem wM_run {e : Nat} {env : Nat → Int32} {jj : jS → Option (Int32 × jS)} (he : e ≤ 130) : ∀ (C : List (Nat × Nat)) (k f : Nat) (σ : jS) (st st' : List Int32), k + C.length ≤ e → (∀ i ∈ C, jGood i) → (∀ j, j < C.length → σ.1 13 (k + j) = nI (C.getD j (0, 0)).1 ∧ σ.1 14 (k + j) = nI (C.getD j (0, 0)).2) → (∀ j, j < 6 → σ.1 18 j = env j) → st.length ≤ 64 → stk (σ.1 19) st → jrun env C st = some st' → ∃ σ', jloop (fX12_worked_B12 0 (nI e) jj) (f + C.length) (σ, nI st.length, nI k) = jloop (fX12_worked_B12 0 (nI e) jj) f (σ', nI st'.length, nI (k + C.length)) ∧ stk (σ'.1 19) st' ∧ st'.length ≤ 64 ∧ mOff [19] [] σ σ' := by
  intro C
  induction C with
  | nil =>
    intro k f σ st st' hk hg hv hE hl hs hr
    have hr2 : some st = some st' := hr
    cases hr2
    exact ⟨σ, rfl, hs, hl, mOff.rf⟩
  | cons i C ih =>
    intro k f σ st st' hk hg hv hE hl hs hr
    simp only [List.length_cons] at hk
    have hr2 : (jstep env i st).bind (jrun env C) = some st' := hr
    obtain ⟨s1, q1, q2⟩ := Option.bind_eq_some_iff.mp hr2
    have hv0 := hv 0 (by simp)
    have hv1 : σ.1 13 k = nI i.1 := by simpa using hv0.1
    have hv2 : σ.1 14 k = nI i.2 := by simpa using hv0.2
    obtain ⟨σ1, e1, e2, e3, e4⟩ := wM_step jj (jloop (fX12_worked_B12 0 (nI e) jj) (f + C.length)) he (show k < e by omega) (hg i (by simp)) hv1 hv2 hE hl hs q1
    obtain ⟨σ2, f1, f2, f3, f4⟩ := ih (k + 1) f σ1 s1 st' (by omega) (fun j hj => hg j (by simp [hj])) (fun j hj => by
      rw [e4.1 13 (by decide) (by decide), e4.1 14 (by decide) (by decide)]
      have := hv (j + 1) (by simp only [List.length_cons]; omega)
      rw [show k + 1 + j = k + (j + 1) by omega, this.1, this.2]
      simp [List.getD]) (fun j hj => by rw [e4.1 18 (by decide) (by decide)]; exact hE j hj) e3 e2 q2
    refine ⟨σ2, ?_, f2, f3, e4.trans f4⟩
    rw [List.length_cons, show f + (C.length + 1) = (f + C.length) + 1 by omega, jloop_s, e1, f1, show k + 1 + C.length = k + (C.length + 1) by omega]
/-- a piece worked -/
theorem wM_piece {env : Nat → Int32} {C : List (Nat × Nat)} {f : (Nat → Int32) → Int32} {k : Nat} {σ : jS} (hC : jSeg C 36 f) (hk : k + C.length ≤ 125) (hg : ∀ i ∈ C, jGood i) (hv : ∀ j, j < C.length → σ.1 13 (k + j) = nI (C.getD j (0, 0)).1 ∧ σ.1 14 (k + j) = nI (C.getD j (0, 0)).2) (hE : ∀ j, j < 6 → σ.1 18 j = env j) : ∃ σ', fX12_worked σ 0 (nI k) (nI (k + C.length)) = some (jval env C, σ') ∧ mOff [19] [] σ σ' := by
  obtain ⟨g, hgN⟩ : ∃ g, jN = (g + 1) + C.length := ⟨jN - 1 - C.length, by have := jN_ge; omega⟩
  rw [fX12_worked_eq, mE0, hgN]
  obtain ⟨σ', e1, e2, e3, e4⟩ := wM_run (jj := fX12_worked_J188) (show k + C.length ≤ 130 by omega) C k (g + 1) σ [] _ (Nat.le_refl _) hg hv hE (by simp) trivial (hC.val env)
  refine ⟨σ', ?_, e4⟩
  have e1' : jloop (fX12_worked_B12 0 (nI (k + C.length)) fX12_worked_J188) (g + 1 + C.length) (σ, (0 : Int32), nI k) = jloop (fX12_worked_B12 0 (nI (k + C.length)) fX12_worked_J188) (g + 1) (σ', nI 1, nI (k + C.length)) := e1
  rw [e1', jloop_s, fX12_worked_B12_eq]
  simp only [mE0]
  rw [if_pos (Int32.le_refl _)]
  unfold fX12_worked_J188
  rw [ob_c (i := (0 : Int32)) 0 130 rfl (by omega) (by omega), show σ'.1 19 ((0 : Int32)).toNatClampNeg = jval env C from e2.1]
