/-! THE LAW: law of both sides -/
theorem rLw.cp {σx σm σx' σm' : jS} (h : rLw σx σm) (a : σx'.1 7 6 = σx.1 7 6) (b : σx'.1 10 = σx.1 10) (c : σm'.1 0 32 = σm.1 0 32) (d : σm'.1 15 0 = σm.1 15 0) (e : ∀ i, i < 130 → σm'.1 13 i = σm.1 13 i ∧ σm'.1 14 i = σm.1 14 i) (f : ∀ i, i < 61 → σm'.1 16 i = σm.1 16 i ∧ σm'.1 17 i = σm.1 17 i) : rLw σx' σm' := by
  unfold rLw rLs at *
  rw [a, b, c, d]
  rcases h with h | ⟨Ls, h1, h2, h3, h4, h5, h6, h7, h8, h9, h10, h11⟩
  · exact Or.inl h
  · refine Or.inr ⟨Ls, h1, h2, h3, h4, h5, h6, h7, h8, h9, fun i hi => ?_, fun i hi => ?_⟩
    · rw [(e i (by omega)).1, (e i (by omega)).2]; exact h10 i hi
    · rw [(f i (by omega)).1, (f i (by omega)).2]; exact h11 i hi
noncomputable def mKf (a86 : jS) : Option (Int32 × jS) := (jst (ju a86 0 20 (0 : Int32)) fun (σ7 : jS) => (if (σ7.1 0 22) < 0 then (jlet (fun (a163 : jS) => (ob (1 : Int32) 2 (ob (0 : Int32) 2 (jst (ju a163 15 ((0 : Int32)).toNatClampNeg (a163.1 15 ((1 : Int32)).toNatClampNeg)) fun (σ8 : jS) => (jloop (fX12_readText_B177 (0 : Int32)) jN (σ8, (0 : Int32))))))) fun (j163 : (jS → Option (Int32 × jS))) => (jloop (fX12_readText_B105 (0 : Int32) j163) jN (σ7, (0 : Int32)))) else (some ((σ7.1 0 22), σ7))))
noncomputable def mJf (a64 : jS) : Option (Int32 × jS) := if 0 ≤ (a64.1 0 22) then mKf a64 else (if (a64.1 0 20) ≤ (a64.1 0 21) then mKf a64 else (Option.bind (fX12_faulty a64) fun (q13 : jS) => mKf q13))
theorem mFr.rf {W : Nat} {t : Nat → Int32} {σ : jS} (b : σ.1 0 20 = nI W ∧ ∀ i, i < W → σ.1 12 i = t i) : mFr W t σ σ := ⟨b, fun _ _ _ => rfl, rfl, fun _ _ => rfl, fun _ _ => ⟨rfl, rfl⟩, fun _ _ => ⟨rfl, rfl⟩, rfl⟩
theorem mKf_no {W : Nat} {t : Nat → Int32} {σ0 σ : jS} {p : Nat} (hp : p ≤ 200) (h : mX W t σ0 σ p) : mKf σ = some (nI p, ju σ 0 20 0) := by
  unfold mKf
  rw [jst_e, ju_i (show (22 : Nat) ≠ 20 by decide), h.2.1, if_neg (show ¬ nI p < 0 from fun z => by have := (nI_nn (k := p) (by omega)).1; rw [i_le] at this; rw [i_lt] at z; omega)]
theorem mJ_no {W : Nat} {t : Nat → Int32} {σ0 σ : jS} {p : Nat} (hW : W ≤ 120) (hp : p ≤ W) (h : mX W t σ0 σ p ∨ (p < W ∧ ∃ Ls' D' e', mO W t σ0 σ p Ls' D' e')) : ∃ σ', mJf σ = some (nI p, ju σ' 0 20 0) ∧ mFr W t σ0 σ' := by
  unfold mJf
  rcases h with h | ⟨hp2, Ls, D, e, h⟩
  · rw [h.2.1, if_pos (nn_p hp hW)]
    exact ⟨σ, mKf_no (by omega) h, h.1⟩
  · obtain ⟨σ', e1, e2⟩ := h.st.fault
    have k := h.no e2
    rw [h.2.2.1, if_neg (show ¬ (0 : Int32) ≤ -1 by decide), h.1.2.2.2.1 20 (by omega), h.1.1.1, h.2.1, if_neg (show ¬ nI W ≤ nI p from fun z => by have := (nI_leI (by omega) (by omega)).mp z; omega), e1, Option.bind_some]
    exact ⟨σ', mKf_no (by omega) k, k.1⟩
theorem take_len (Ls : jLs) (i : Nat) : (lFlat (Ls.take i)).length ≤ (lFlat Ls).length := by
  have e : lFlat Ls = lFlat (Ls.take i) ++ lFlat (Ls.drop i) := by
    unfold lFlat
    rw [← List.flatten_append, ← List.map_append, List.take_append_drop]
  rw [e, List.length_append]
  omega
theorem take_1 (Ls : jLs) (i : Nat) (h : i < Ls.length) : lFlat (Ls.take (i + 1)) = lFlat (Ls.take i) ++ ((Ls.getD i ([], [])).1 ++ (Ls.getD i ([], [])).2) := by
  have e : Ls.take (i + 1) = Ls.take i ++ [Ls.getD i ([], [])] := by
    rw [List.take_add_one]
    congr 1
    simp [List.getD, List.getElem?_eq_getElem h]
  rw [e, lFlat_app]
theorem good_lt {i : Nat × Nat} (h : jGood i) : i.1 < 128 := by
  unfold jGood at h
  rcases h with h | h | h | h | h
  · omega
  · omega
  · rw [h]; decide
  · rw [h]; decide
  · omega
theorem good_flat {Ls : jLs} (h : ∀ L ∈ Ls, jLin L) : ∀ i ∈ lFlat Ls, jGood i := by
  intro i hi
  unfold lFlat at hi
  obtain ⟨l, hl, hil⟩ := List.mem_flatten.mp hi
  obtain ⟨L, hL, rfl⟩ := List.mem_map.mp hl
  rcases List.mem_append.mp hil with z | z
  · exact (h L hL).2.2.1 i z
  · exact (h L hL).2.2.2 i z
theorem mJ_yes {W : Nat} {t : Nat → Int32} {σ0 σ : jS} {Ls : jLs} {e : Int32} (hW : W ≤ 120) (hl : Ls.length ≤ 61) (hf : (lFlat Ls).length ≤ 120) (hg : ∀ L ∈ Ls, jLin L) (h : mO W t σ0 σ W Ls (lFlat Ls) e) : ∃ σ', mJf σ = some (-1, σ') ∧ σ'.1 0 20 = 0 ∧ σ'.1 15 0 = nI Ls.length ∧ (∀ i, i < (lFlat Ls).length → σ'.1 13 i = nI ((lFlat Ls).getD i (0, 0)).1 ∧ σ'.1 14 i = nI ((lFlat Ls).getD i (0, 0)).2) ∧ (∀ i, i < Ls.length → σ'.1 16 i = nI ((lFlat (Ls.take i)).length + (Ls.getD i ([], [])).1.length) ∧ σ'.1 17 i = nI (lFlat (Ls.take (i + 1))).length) ∧ mOffI [13, 14, 15, 16, 17] [20, 21, 22, 23, 24] σ0 σ' ∧ σ'.2 = σ0.2 := by
  obtain ⟨⟨b, h1, h2, h3, h4, h5, h6⟩, k1, k2, k3, k4, k5, k6, k7, k8⟩ := h
  have c0 : (0 : Int32).toNatClampNeg = 0 := rfl
  have c1 : (1 : Int32).toNatClampNeg = 1 := rfl
  have o1 : ∀ {ρ : Type} {o : Option ρ}, ob (1 : Int32) 2 o = o := fun {ρ o} => ob_c 1 2 rfl (by omega) (by omega)
  have o0 : ∀ {ρ : Type} {o : Option ρ}, ob (0 : Int32) 2 o = o := fun {ρ o} => ob_c 0 2 rfl (by omega) (by omega)
  unfold mJf
  rw [k2, if_neg (show ¬ (0 : Int32) ≤ -1 by decide), h3 20 (by omega), b.1, k1, if_pos (Int32.le_refl _)]
  unfold mKf
  rw [jst_e, ju_i (show (22 : Nat) ≠ 20 by decide), k2, if_pos (show (-1 : Int32) < 0 by decide), jlet_e]
  have hgl := good_flat hg
  obtain ⟨A, a1, a2, a3, a4⟩ := mCp1 (j163 := fun (a163 : jS) => (ob (1 : Int32) 2 (ob (0 : Int32) 2 (jst (ju a163 15 ((0 : Int32)).toNatClampNeg (a163.1 15 ((1 : Int32)).toNatClampNeg)) fun (σ8 : jS) => (jloop (fX12_readText_B177 (0 : Int32)) jN (σ8, (0 : Int32))))))) (N := (lFlat Ls).length) (by omega) (lFlat Ls).length 0 jN (ju σ 0 20 0) (by omega) (by have := jN_ge; omega) (by rw [ju_i (by decide)]; exact k4) (fun j hj => by
    rw [ju_n (by decide)]
    refine ⟨((lFlat Ls).getD j (0, 0)).1, ?_, (k5 j hj).1⟩
    have : (lFlat Ls).getD j (0, 0) ∈ lFlat Ls := by
      simp [List.getD, List.getElem?_eq_getElem hj]
    exact good_lt (hgl _ this))
  have a15 : A.1 15 = σ.1 15 := by rw [a2 15 (by decide) (by decide), ju_n (by decide)]
  have a16 : A.1 16 = σ.1 16 := by rw [a2 16 (by decide) (by decide), ju_n (by decide)]
  have a17 : A.1 17 = σ.1 17 := by rw [a2 17 (by decide) (by decide), ju_n (by decide)]
  obtain ⟨B, b1, b2, b3, b4⟩ := mCp2 (N := Ls.length) hl Ls.length 0 jN (ju A 15 0 (A.1 15 1)) (by omega) (by have := jN_ge; omega) (by rw [ju_s, a15, k6]) (fun j hj => by
    have z := k7 j hj
    have t1 := take_len Ls (j + 1)
    have t2 := take_1 Ls j hj
    rw [ju_n (by decide), ju_n (by decide), a16, a17]
    refine ⟨⟨_, ?_, z.1⟩, ⟨_, ?_, z.2⟩⟩
    · rw [t2, List.length_append, List.length_append] at t1; omega
    · omega)
  refine ⟨B, ?_, ?_, ?_, fun i hi => ?_, fun i hi => ?_, ⟨fun c hc hc0 => ?_, fun k hk => ?_⟩, ?_⟩
  · show jloop (fX12_readText_B105 (0 : Int32) _) jN (ju σ 0 20 0, nI 0) = _
    rw [a1, o1, o0, c0, c1, jst_e]
    exact b1
  · rw [b2 0 (by decide) (by decide), ju_n (by decide), a2 0 (by decide) (by decide), ju_s]
  · rw [b2 15 (by decide) (by decide), ju_s, a15, k6]
  · rw [b2 13 (by decide) (by decide), b2 14 (by decide) (by decide), ju_n (by decide), ju_n (by decide), (a4 i).1, (a4 i).2, if_pos (by omega), if_pos (by omega), ju_n (by decide), ju_n (by decide)]
    exact k5 i hi
  · rw [(b4 i).1, (b4 i).2, if_pos (by omega), if_pos (by omega), ju_n (by decide), ju_n (by decide), a16, a17]
    exact k7 i hi
  · have c13 : c ≠ 13 := fun z => hc (by simp [z])
    have c14 : c ≠ 14 := fun z => hc (by simp [z])
    have c15 : c ≠ 15 := fun z => hc (by simp [z])
    have c16 : c ≠ 16 := fun z => hc (by simp [z])
    have c17 : c ≠ 17 := fun z => hc (by simp [z])
    rw [b2 c c16 c17, ju_n c15, a2 c c13 c14, ju_n hc0]
    exact h1 c hc0 (by omega)
  · have k20 : k ≠ 20 := fun z => hk (by simp [z])
    have k21 : k ≠ 21 := fun z => hk (by simp [z])
    have k22 : k ≠ 22 := fun z => hk (by simp [z])
    have k23 : k ≠ 23 := fun z => hk (by simp [z])
    have k24 : k ≠ 24 := fun z => hk (by simp [z])
    rw [b2 0 (by decide) (by decide), ju_n (by decide), a2 0 (by decide) (by decide), ju_i k20]
    exact h3 k (by omega)
  · rw [b3, ju_2, a3, ju_2]
    exact h2
