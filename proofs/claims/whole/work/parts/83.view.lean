/-! THE LAW works: a view of the law for both sides -/
noncomputable def gJ47 (a47 : jS × Int32) : Option (Int32 × jS) := (ob a47.2 122 (ob a47.2 122 (Option.bind (fX12_worked a47.1 (0 : Int32) (a47.1.1 16 (a47.2).toNatClampNeg) (a47.1.1 17 (a47.2).toNatClampNeg)) fun (q1 : (Int32 × jS)) => (some (q1.1, q1.2)))))
def mLaw (σ : jS) (Ls : jLs) : Prop := σ.1 15 0 = nI Ls.length ∧ (∀ i, i < (lFlat Ls).length → σ.1 13 i = nI ((lFlat Ls).getD i (0, 0)).1 ∧ σ.1 14 i = nI ((lFlat Ls).getD i (0, 0)).2) ∧ ∀ i, i < Ls.length → σ.1 16 i = nI ((lFlat (Ls.take i)).length + (Ls.getD i ([], [])).1.length) ∧ σ.1 17 i = nI (lFlat (Ls.take (i + 1))).length
theorem mLaw.cp {σ σ' : jS} {Ls : jLs} (h : mLaw σ Ls) (k : ∀ c, 13 ≤ c → c ≤ 17 → σ'.1 c = σ.1 c) : mLaw σ' Ls := by
  unfold mLaw at *
  rw [k 13 (by omega) (by omega), k 14 (by omega) (by omega), k 15 (by omega) (by omega), k 16 (by omega) (by omega), k 17 (by omega) (by omega)]
  exact h
theorem flat_drop (Ls : jLs) (i : Nat) : lFlat Ls = lFlat (Ls.take i) ++ lFlat (Ls.drop i) := by
  unfold lFlat
  rw [← List.flatten_append, ← List.map_append, List.take_append_drop]
theorem getD_mid {A B C : List (Nat × Nat)} {j : Nat} (h : j < B.length) : (A ++ (B ++ C)).getD (A.length + j) (0, 0) = B.getD j (0, 0) := by
  simp [List.getD, List.getElem?_append_right, List.getElem?_append_left h]
theorem wM_lines {Ls : jLs} {env : Nat → Int32} (hl : Ls.length ≤ 61) (hf : (lFlat Ls).length ≤ 120) (hg : ∀ L ∈ Ls, jLin L) : ∀ (n k f : Nat) (σ : jS), k + n = Ls.length → n < f → mLaw σ Ls → (∀ j, j < 6 → σ.1 18 j = env j) → ∃ σ', jloop (fX12_gives_B7 0 gJ47) f (σ, nI (lFlat (Ls.take k)).length, nI k) = some (lvl2 env (Ls.drop k), σ') ∧ mOff [19] [] σ σ' := by
  have c0 : (0 : Int32).toNatClampNeg = 0 := rfl
  have o0 : ∀ {ρ : Type} {o : Option ρ}, ob (0 : Int32) 2 o = o := fun {ρ o} => ob_c (i := (0 : Int32)) 0 2 rfl (by omega) (by omega)
  have e61 : ∀ n, (61 : Int32) * 0 + nI n = nI n := fun n => by
    show nI 61 * nI 0 + nI n = _
    rw [pk_mul, nI_add, Nat.mul_zero, Nat.zero_add]
  intro n
  induction n with
  | zero =>
    intro k f σ hk hf' hm hE
    obtain ⟨f, rfl⟩ : ∃ z, f = z + 1 := ⟨f - 1, by omega⟩
    have hk2 : k = Ls.length := by omega
    rw [jloop_s]
    unfold fX12_gives_B7
    rw [o0, c0, hm.1, e61, if_pos ((nI_leI (by omega) (by omega)).mpr (by omega)), hk2, List.drop_length]
    exact ⟨σ, rfl, mOff.rf⟩
  | succ n ih =>
    intro k f σ hk hf' hm hE
    obtain ⟨f, rfl⟩ : ∃ z, f = z + 1 := ⟨f - 1, by omega⟩
    have hkl : k < Ls.length := by omega
    have hmem : Ls.getD k ([], []) ∈ Ls := by simp [List.getD, List.getElem?_eq_getElem hkl]
    obtain ⟨g1, ⟨f2, g2⟩, g3, g4⟩ := hg _ hmem
    obtain ⟨m1, m2, m3⟩ := id hm
    obtain ⟨m16, m17⟩ := m3 k hkl
    have t1 := take_1 Ls k hkl
    have t2 := take_len Ls (k + 1)
    have hd : Ls.drop k = Ls.getD k ([], []) :: Ls.drop (k + 1) := by
      rw [List.drop_eq_getElem_cons hkl]
      congr 1
      simp [List.getD, List.getElem?_eq_getElem hkl]
    have hfl := flat_drop Ls (k + 1)
    rw [t1] at hfl t2
    rw [t1] at m17
    obtain ⟨S, hS⟩ : ∃ S, S = lFlat (Ls.take k) := ⟨_, rfl⟩
    obtain ⟨L, hL⟩ : ∃ L, L = Ls.getD k ([], []) := ⟨_, rfl⟩
    have ih' := ih (k + 1) f
    rw [t1] at ih'
    rw [← hS, ← hL] at hfl t2 m16 m17 ih'
    rw [← hL] at g1 g2 g3 g4 hd
    rw [← hS]
    simp only [List.length_append] at t2 m17 ih'
    rw [hd]
    -- the pieces where they lie
    have p1 : ∀ σ', mLaw σ' Ls → ∀ j, j < L.1.length → σ'.1 13 (S.length + j) = nI (L.1.getD j (0, 0)).1 ∧ σ'.1 14 (S.length + j) = nI (L.1.getD j (0, 0)).2 := fun σ' hm' j hj => by
      have := hm'.2.1 (S.length + j) (by omega)
      rw [hfl, List.append_assoc, List.append_assoc, getD_mid hj] at this
      exact this
    have p2 : ∀ σ', mLaw σ' Ls → ∀ j, j < L.2.length → σ'.1 13 (S.length + L.1.length + j) = nI (L.2.getD j (0, 0)).1 ∧ σ'.1 14 (S.length + L.1.length + j) = nI (L.2.getD j (0, 0)).2 := fun σ' hm' j hj => by
      have := hm'.2.1 (S.length + L.1.length + j) (by omega)
      rw [hfl, show S ++ (L.1 ++ L.2) ++ lFlat (Ls.drop (k + 1)) = (S ++ L.1) ++ (L.2 ++ lFlat (Ls.drop (k + 1))) by simp only [List.append_assoc], ← List.length_append, getD_mid hj] at this
      rw [← List.length_append]
      exact this
    have last : ∀ σ', mLaw σ' Ls → (∀ j, j < 6 → σ'.1 18 j = env j) → σ'.1 16 k = nI (S.length + L.1.length) → σ'.1 17 k = nI (S.length + (L.1.length + L.2.length)) → ∃ σ2, gJ47 (σ', nI k) = some (jval env L.2, σ2) ∧ mOff [19] [] σ' σ2 := fun σ' hm' hE' a b => by
      obtain ⟨σ2, e1, e2⟩ := wM_piece (env := env) (k := S.length + L.1.length) g2 (by omega) g4 (p2 σ' hm') hE'
      refine ⟨σ2, ?_, e2⟩
      unfold gJ47
      rw [ob_nI (by omega) (by omega), ob_nI (by omega) (by omega), nI_cl (by omega), a, b, ← Nat.add_assoc, e1]
      rfl
    rw [jloop_s]
    obtain ⟨K, hK⟩ : ∃ K, K = jloop (fX12_gives_B7 0 gJ47) f := ⟨_, rfl⟩
    rw [← hK] at ih' ⊢
    unfold fX12_gives_B7
    rw [o0, c0, hm.1, e61, if_neg (show ¬ nI Ls.length ≤ nI k from fun z => by have := (nI_leI (by omega) (by omega)).mp z; omega), ob_nI (by omega) (by omega), nI_cl (by omega), m16]
    by_cases z : L.1 = []
    · have hz : L.1.length = 0 := by rw [z]; rfl
      obtain ⟨σ2, e1, e2⟩ := last σ hm hE m16 m17
      rw [if_pos (show nI (S.length + L.1.length) = nI S.length by rw [hz, Nat.add_zero]), e1]
      refine ⟨σ2, ?_, e2⟩
      show some (jval env L.2, σ2) = some ((if ¬ L.1 = [] ∧ jval env L.1 = 0 then lvl2 env (Ls.drop (k + 1)) else jval env L.2), σ2)
      rw [if_neg (fun y => y.1 z)]
    · have hz := len_pos z
      obtain ⟨f1, h1⟩ : ∃ f, jSeg L.1 36 f := by
        rcases g1 with g1 | g1
        · exact absurd g1 z
        · exact g1
      obtain ⟨σ1, e1, e2⟩ := wM_piece (env := env) (k := S.length) h1 (by omega) g3 (p1 σ hm) hE
      have hm1 := hm.cp (σ' := σ1) (fun c c1 c2 => e2.1 c (by simp; omega) (by omega))
      have hE1 : ∀ j, j < 6 → σ1.1 18 j = env j := fun j hj => by rw [e2.1 18 (by decide) (by decide)]; exact hE j hj
      have a16 : σ1.1 16 k = nI (S.length + L.1.length) := by rw [e2.1 16 (by decide) (by decide)]; exact m16
      have a17 : σ1.1 17 k = nI (S.length + (L.1.length + L.2.length)) := by rw [e2.1 17 (by decide) (by decide)]; exact m17
      rw [if_neg (show ¬ nI (S.length + L.1.length) = nI S.length from fun y => by have := (nI_eq (by omega) (by omega)).mp y; omega), ob_nI (by omega) (by omega), e1, Option.bind_some]
      show ∃ σ', (if jval env L.1 = 0 then (ob (nI k) 122 (K (σ1, (σ1.1 17 k), (nI k + (1 : Int32))))) else gJ47 (σ1, nI k)) = some ((if ¬ L.1 = [] ∧ jval env L.1 = 0 then lvl2 env (Ls.drop (k + 1)) else jval env L.2), σ') ∧ mOff [19] [] σ σ'
      by_cases y : jval env L.1 = 0
      · rw [if_pos y, if_pos ⟨z, y⟩, ob_nI (by omega) (by omega), a17, nI_1]
        obtain ⟨σ2, q1, q2⟩ := ih' σ1 (by omega) (by omega) hm1 hE1
        exact ⟨σ2, q1, e2.trans q2⟩
      · obtain ⟨σ2, q1, q2⟩ := last σ1 hm1 hE1 a16 a17
        rw [if_neg y, if_neg (fun w => y w.2), q1]
        exact ⟨σ2, rfl, e2.trans q2⟩
