/-! THE LAW works: the class, a piece and a line -/
theorem jEnc_lt {i : Nat × Nat} (h : jGood i) (h1 : ¬ i.1 = 1) (h2 : ¬ i.1 = 2) : ∃ v, v < 256 ∧ jEnc i = nI v ∧ ((i = (3, 0) ∧ v = 33) ∨ (i = (4, 0) ∧ v = 126) ∨ (jOpr i.1 ∧ v = i.1)) := by
  rcases h with h | h | h | h | h
  · exact absurd h.1 h1
  · exact absurd h.1 h2
  · exact ⟨33, by omega, by rw [h]; rfl, Or.inl ⟨h, rfl⟩⟩
  · exact ⟨126, by omega, by rw [h]; rfl, Or.inr (Or.inl ⟨h, rfl⟩)⟩
  · obtain ⟨a, b⟩ := i
    obtain ⟨h, hb⟩ := h
    dsimp only at h hb h1 h2
    subst hb
    exact ⟨a, by omega, jEnc_op h, Or.inr (Or.inr ⟨h, rfl⟩)⟩
theorem wX_step {σ : jS} {N k : Nat} {c : Int32} {i : Nat × Nat} {env : Nat → Int32} {st st' : List Int32} (s : jS × Int32 × Int32 × Int32 → Option (Int32 × jS)) (h6 : σ.1 7 6 = nI N) (hN : N ≤ 121) (hk : k < N) (hg : jGood i) (hv : σ.1 10 k = jEnc i) (he : ∀ j, j < 6 → σ.1 12 j = env j) (hl : st.length ≤ 64) (hs : stk (σ.1 11) st) (hr : jstep env i st = some st') : ∃ σ', fX4_worth_B6 s (σ, nI st.length, c, nI k) = s (σ', nI st'.length, c, nI (k + 1)) ∧ stk (σ'.1 11) st' ∧ st'.length ≤ 64 ∧ jOff [11] σ σ' := by
  by_cases h1 : i.1 = 1
  · obtain ⟨a, n⟩ := i
    dsimp only at h1
    subst h1
    have hn : n < 10000 := by
      rcases hg with h | h | h | h | h
      · exact h.2
      · exact absurd h.1 (by dsimp only; omega)
      · cases h
      · cases h
      · exact absurd h.1 (by dsimp only; omega)
    have hr2 : (if st.length < 64 then some (nI n :: st) else none) = some st' := hr
    by_cases z : st.length < 64
    · rw [if_pos z] at hr2
      cases hr2
      refine ⟨_, wX_num h6 hN hk z hn hv, ⟨ju_s, hs.cp (fun j hj => ju_i (by omega))⟩, by simp only [List.length_cons]; omega, jOff.u (by simp)⟩
    · rw [if_neg z] at hr2; cases hr2
  by_cases h2 : i.1 = 2
  · obtain ⟨a, n⟩ := i
    dsimp only at h2
    subst h2
    have hn : n < 6 := by
      rcases hg with h | h | h | h | h
      · exact absurd h.1 (by dsimp only; omega)
      · exact h.2
      · cases h
      · cases h
      · exact absurd h.1 (by dsimp only; omega)
    have hr2 : (if st.length < 64 then some (env n :: st) else none) = some st' := hr
    by_cases z : st.length < 64
    · rw [if_pos z] at hr2
      cases hr2
      refine ⟨_, wX_name h6 hN hk z hn hv, ⟨?_, hs.cp (fun j hj => ju_i (by omega))⟩, by simp only [List.length_cons]; omega, jOff.u (by simp)⟩
      rw [ju_s, he n hn]
    · rw [if_neg z] at hr2; cases hr2
  obtain ⟨v, hv1, hv2, hv3⟩ := jEnc_lt hg h1 h2
  rw [hv2] at hv
  cases st with
  | nil =>
    exfalso
    unfold jstep at hr
    rw [if_neg h1, if_neg h2] at hr
    by_cases h3 : i.1 = 3
    · rw [if_pos h3] at hr; cases hr
    · rw [if_neg h3] at hr
      by_cases h4 : i.1 = 4
      · rw [if_pos h4] at hr; cases hr
      · rw [if_neg h4] at hr; cases hr
  | cons a r =>
    have hla : (a :: r).length = r.length + 1 := rfl
    have hs1 : σ.1 11 r.length = a := hs.1
    have key := wX_sign (s := s) (c := c) (m := (a :: r).length) h6 hN hk (by rw [hla]; omega) hl hv1 hv
    rw [hla] at key
    rw [show r.length + 1 - 1 = r.length by omega, hs1] at key
    rw [hla]
    rcases hv3 with ⟨rfl, rfl⟩ | ⟨rfl, rfl⟩ | ⟨ho, rfl⟩
    · have hr2 : some ((if a = 0 then 1 else 0) :: r) = some st' := hr
      cases hr2
      rw [if_neg (by omega), if_neg (by omega), if_pos rfl] at key
      exact ⟨_, key, ⟨ju_s, hs.2.cp (fun j hj => ju_i (by omega))⟩, hl, jOff.u (by simp)⟩
    · have hr2 : some (-a :: r) = some st' := hr
      cases hr2
      rw [if_neg (by omega), if_neg (by omega), if_neg (by omega), if_pos rfl] at key
      exact ⟨_, key, ⟨ju_s, hs.2.cp (fun j hj => ju_i (by omega))⟩, hl, jOff.u (by simp)⟩
    · rw [if_neg (by omega), if_neg (by omega), if_neg (by omega), if_neg (by omega)] at key
      cases r with
      | nil =>
        exfalso
        unfold jstep at hr
        rw [if_neg h1, if_neg h2, if_neg (by omega), if_neg (by omega)] at hr
        cases hr
      | cons b r =>
        have hr2 : some (jop i.1 b a :: r) = some st' := by
          unfold jstep at hr
          rw [if_neg h1, if_neg h2, if_neg (by omega), if_neg (by omega)] at hr
          exact hr
        cases hr2
        have hlb : (b :: r).length = r.length + 1 := rfl
        have hs2 : σ.1 11 r.length = b := hs.2.1
        rw [hlb] at key ⊢
        rw [if_neg (by omega), show r.length + 1 + 1 - 2 = r.length by omega, hs2, sX4_joined ho, Option.bind_some] at key
        refine ⟨_, key, ⟨ju_s, hs.2.2.cp (fun j hj => ju_i (by omega))⟩, by simp only [List.length_cons] at hl ⊢; omega, jOff.u (by simp)⟩
theorem wX_run {N : Nat} {env : Nat → Int32} (hN : N ≤ 121) : ∀ (C : List (Nat × Nat)) (k f : Nat) (σ : jS) (c : Int32) (st st' : List Int32), k + C.length ≤ N → σ.1 7 6 = nI N → (∀ i ∈ C, jGood i) → (∀ j, j < C.length → σ.1 10 (k + j) = jEnc (C.getD j (0, 0))) → (∀ j, j < 6 → σ.1 12 j = env j) → st.length ≤ 64 → stk (σ.1 11) st → jrun env C st = some st' → ∃ σ', jloop fX4_worth_B6 (f + C.length) (σ, nI st.length, c, nI k) = jloop fX4_worth_B6 f (σ', nI st'.length, c, nI (k + C.length)) ∧ stk (σ'.1 11) st' ∧ st'.length ≤ 64 ∧ jOff [11] σ σ' := by
  intro C
  induction C with
  | nil =>
    intro k f σ c st st' hk h6 hg hv he hl hs hr
    have hr2 : some st = some st' := hr
    cases hr2
    exact ⟨σ, rfl, hs, hl, jOff.rf⟩
  | cons i C ih =>
    intro k f σ c st st' hk h6 hg hv he hl hs hr
    simp only [List.length_cons] at hk
    have hr2 : (jstep env i st).bind (jrun env C) = some st' := hr
    obtain ⟨s1, q1, q2⟩ := Option.bind_eq_some_iff.mp hr2
    obtain ⟨σ1, e1, e2, e3, e4⟩ := wX_step (c := c) (jloop fX4_worth_B6 (f + C.length)) h6 hN (show k < N by omega) (hg i (by simp)) (by have := hv 0 (by simp); simpa using this) he hl hs q1
    obtain ⟨σ2, f1, f2, f3, f4⟩ := ih (k + 1) f σ1 c s1 st' (by omega) (by rw [e4.1 7 (by decide)]; exact h6) (fun j hj => hg j (by simp [hj])) (fun j hj => by
      rw [e4.1 10 (by decide)]
      have := hv (j + 1) (by simp only [List.length_cons]; omega)
      rw [show k + 1 + j = k + (j + 1) by omega, this]
      simp [List.getD]) (fun j hj => by rw [e4.1 12 (by decide)]; exact he j hj) e3 e2 q2
    refine ⟨σ2, ?_, f2, f3, e4.trans f4⟩
    rw [List.length_cons, show f + (C.length + 1) = (f + C.length) + 1 by omega, jloop_s, e1, f1, show k + 1 + C.length = k + (C.length + 1) by omega]
