/-! THE LAW: the whole text -/
def lnFX (Ls : jLs) : List Int32 := (Ls.map lnXs).flatten
theorem lnFX_app (Ls : jLs) (L : List (Nat × Nat) × List (Nat × Nat)) : lnFX (Ls ++ [L]) = lnFX Ls ++ lnXs L := by
  unfold lnFX
  simp
theorem r_text {W : Nat} {t : Nat → Int32} (hT : tOk W t) : ∀ (n p k : Nat) (Ls : jLs), W - p ≤ n → p ≤ W → k ≤ p → 2 * Ls.length ≤ p + 1 → (lFlat Ls).length ≤ p → (lnFX Ls).length ≤ p + 1 → (∀ L ∈ Ls, jLin L) → ∃ p', p' ≤ W ∧ ((p' = W ∧ ∃ Ls' : jLs, 2 * Ls'.length ≤ W + 1 ∧ (Ls.length ≤ Ls'.length) ∧ (lFlat Ls').length ≤ W ∧ (lnFX Ls').length ≤ W + 1 ∧ (∀ L ∈ Ls', jLin L) ∧ (∀ σ0 σ j f, n < f → xS W t σ0 σ p (lnFX Ls) → ∃ σ', jloop (fX4_enact_B17 j) f (σ, (1 : Int32), nI k) = j (σ', 1) ∧ xS W t σ0 σ' W (lnFX Ls')) ∧ (∀ σ0 σ e j f, n < f → mO W t σ0 σ p Ls (lFlat Ls) e → ∃ σ' e', jloop (fX12_readText_B31 j) f σ = j σ' ∧ mO W t σ0 σ' W Ls' (lFlat Ls') e')) ∨ ((∀ σ0 σ j f, n + 1 < f → xS W t σ0 σ p (lnFX Ls) → ∃ r σ' D', jloop (fX4_enact_B17 j) f (σ, (1 : Int32), nI k) = j (σ', r) ∧ (r = 0 ∨ (r = 1 ∧ p' < W)) ∧ xS W t σ0 σ' p' D') ∧ (∀ σ0 σ e j f, n + 1 < f → mO W t σ0 σ p Ls (lFlat Ls) e → ∃ σ', jloop (fX12_readText_B31 j) f σ = j σ' ∧ (mX W t σ0 σ' p' ∨ (p' < W ∧ ∃ Ls' D' e', mO W t σ0 σ' p' Ls' D' e'))))) := by
  have hW := hT.1
  intro n
  induction n with
  | zero =>
    intro p k Ls hn hp hk hl h1 h2 h3
    obtain rfl : p = W := by omega
    have hc : cL p t p = 200 := by
      unfold cL
      rw [if_neg (fun z => by omega)]
    refine ⟨p, Nat.le_refl _, Or.inl ⟨rfl, Ls, hl, Nat.le_refl _, h1, h2, h3, fun σ0 σ j f hf h => ?_, fun σ0 σ e j f hf h => ?_⟩⟩
    · obtain ⟨f, rfl⟩ : ∃ z, f = z + 1 := ⟨f - 1, by omega⟩
      obtain ⟨v, e1, e2⟩ := sX4_letter hT h hp
      rw [jloop_s]
      unfold fX4_enact_B17
      by_cases a : (120 : Int32) ≤ nI k
      · rw [if_pos a]; exact ⟨σ, rfl, h⟩
      · rw [if_neg a, if_neg (show ¬ (1 : Int32) = 0 by decide), e1, Option.bind_some, if_neg (show ¬ v = (59 : Int32) by rw [show (v = (59 : Int32)) = (cL p t p = 59) from e2.is 59 (by omega)]; omega)]
        exact ⟨σ, rfl, h⟩
    · obtain ⟨f, rfl⟩ : ∃ z, f = z + 1 := ⟨f - 1, by omega⟩
      obtain ⟨v, e1, e2⟩ := sM_look hT h.st.1 hp
      rw [jloop_s]
      unfold fX12_readText_B31
      rw [h.2.2.1, if_neg (show ¬ (0 : Int32) ≤ -1 by decide), e1, Option.bind_some, if_neg (show ¬ v = (59 : Int32) by rw [show (v = (59 : Int32)) = (cL p t p = 59) from e2.is 59 (by omega)]; omega)]
      exact ⟨σ, e, rfl, h⟩
  | succ n ih =>
    intro p k Ls hn hp hk hl h1 h2 h3
    by_cases c : cL W t p = 59
    · have hpW : p < W := cL_lt (t := t) (fun z => by omega)
      have xs : ∀ σ0 σ D, xS W t σ0 σ p D → ∀ j s, fX4_enact_B17 j s (σ, (1 : Int32), nI k) = Option.bind (fX4_readLine (ju σ 7 2 (σ.1 7 2 + 1))) fun (q9 : (Int32 × jS)) => (s (q9.2, (jb q9.1), nI (k + 1))) := by
        intro σ0 σ D h j s
        obtain ⟨v, e1, e2⟩ := sX4_letter hT h hp
        unfold fX4_enact_B17
        rw [if_neg (show ¬ (120 : Int32) ≤ nI k from fun z => by have := (nI_leI (a := 120) (by omega) (by omega)).mp z; omega), if_neg (show ¬ (1 : Int32) = 0 by decide), e1, Option.bind_some, if_pos (show v = (59 : Int32) by rw [show (v = (59 : Int32)) = (cL W t p = 59) from e2.is 59 (by omega)]; exact c), jst_e, nI_1]
      have ms : ∀ σ0 σ e, mO W t σ0 σ p Ls (lFlat Ls) e → ∀ j s, fX12_readText_B31 j s σ = Option.bind (fX12_line (ju σ 0 21 (σ.1 0 21 + 1))) s := by
        intro σ0 σ e h j s
        obtain ⟨v, e1, e2⟩ := sM_look hT h.st.1 hp
        unfold fX12_readText_B31
        rw [h.2.2.1, if_neg (show ¬ (0 : Int32) ≤ -1 by decide), e1, Option.bind_some, if_pos (show v = (59 : Int32) by rw [show (v = (59 : Int32)) = (cL W t p = 59) from e2.is 59 (by omega)]; exact c), jst_e]
      obtain ⟨p2, r1, r2, r3⟩ := r_line hT (show p + 1 ≤ W by omega)
      rcases r3 with ⟨L, y1, y2, y3, y4, y5, y6⟩ | ⟨y5, y6⟩
      · obtain ⟨p3, s1, s3⟩ := ih p2 (k + 1) (Ls ++ [L]) (by omega) r2 (by omega) (by rw [List.length_append, List.length_singleton]; omega) (by rw [lFlat_app, List.length_append]; omega) (by rw [lnFX_app, List.length_append]; omega) (fun M hM => by
          rcases List.mem_append.mp hM with z | z
          · exact h3 M z
          · rw [List.mem_singleton.mp z]; exact y1)
        have xdo : ∀ σ0 σ j f, xS W t σ0 σ p (lnFX Ls) → ∃ σ2, jloop (fX4_enact_B17 j) (f + 1) (σ, (1 : Int32), nI k) = jloop (fX4_enact_B17 j) f (σ2, (1 : Int32), nI (k + 1)) ∧ xS W t σ0 σ2 p2 (lnFX (Ls ++ [L])) := by
          intro σ0 σ j f h
          obtain ⟨σ2, e1, e2⟩ := y5 σ0 _ _ h2 h.on
          refine ⟨σ2, ?_, by rw [lnFX_app]; exact e2⟩
          rw [jloop_s, xs σ0 σ _ h, e1, Option.bind_some]
          rfl
        have mdo : ∀ σ0 σ e j f, mO W t σ0 σ p Ls (lFlat Ls) e → ∃ σ2 e2, jloop (fX12_readText_B31 j) (f + 1) σ = jloop (fX12_readText_B31 j) f σ2 ∧ mO W t σ0 σ2 p2 (Ls ++ [L]) (lFlat (Ls ++ [L])) e2 := by
          intro σ0 σ e j f h
          obtain ⟨σ2, e2, e1, k2⟩ := y6 σ0 _ Ls e (by omega) (by omega) h.on
          refine ⟨σ2, e2, ?_, k2⟩
          rw [jloop_s, ms σ0 σ e h, e1, Option.bind_some]
        refine ⟨p3, s1, ?_⟩
        rcases s3 with ⟨z0, Ls', z1, z1', z2, z3, z4, z5, z6⟩ | ⟨z5, z6⟩
        · refine Or.inl ⟨z0, Ls', z1, by rw [List.length_append, List.length_singleton] at z1'; omega, z2, z3, z4, fun σ0 σ j f hf h => ?_, fun σ0 σ e j f hf h => ?_⟩
          · obtain ⟨f, rfl⟩ : ∃ z, f = z + 1 := ⟨f - 1, by omega⟩
            obtain ⟨σ2, e1, e2⟩ := xdo σ0 σ j f h
            obtain ⟨σ3, e3, e4⟩ := z5 σ0 σ2 j f (by omega) e2
            exact ⟨σ3, e1.trans e3, e4⟩
          · obtain ⟨f, rfl⟩ : ∃ z, f = z + 1 := ⟨f - 1, by omega⟩
            obtain ⟨σ2, e2, e1, k2⟩ := mdo σ0 σ e j f h
            obtain ⟨σ3, e3, e4, k4⟩ := z6 σ0 σ2 e2 j f (by omega) k2
            exact ⟨σ3, e3, e1.trans e4, k4⟩
        · refine Or.inr ⟨fun σ0 σ j f hf h => ?_, fun σ0 σ e j f hf h => ?_⟩
          · obtain ⟨f, rfl⟩ : ∃ z, f = z + 1 := ⟨f - 1, by omega⟩
            obtain ⟨σ2, e1, e2⟩ := xdo σ0 σ j f h
            obtain ⟨r, σ3, D3, e3, e4⟩ := z5 σ0 σ2 j f (by omega) e2
            exact ⟨r, σ3, D3, e1.trans e3, e4⟩
          · obtain ⟨f, rfl⟩ : ∃ z, f = z + 1 := ⟨f - 1, by omega⟩
            obtain ⟨σ2, e2, e1, k2⟩ := mdo σ0 σ e j f h
            obtain ⟨σ3, e3, k3⟩ := z6 σ0 σ2 e2 j f (by omega) k2
            exact ⟨σ3, e1.trans e3, k3⟩
      · refine ⟨p2, r2, Or.inr ⟨fun σ0 σ j f hf h => ?_, fun σ0 σ e j f hf h => ?_⟩⟩
        · obtain ⟨f, rfl⟩ : ∃ z, f = z + 1 + 1 := ⟨f - 2, by omega⟩
          obtain ⟨r, σ2, D2, e1, e2, e3⟩ := y5 σ0 _ _ h2 h.on
          rcases e2 with rfl | ⟨rfl, hd⟩
          · refine ⟨0, σ2, D2, ?_, Or.inl rfl, e3⟩
            rw [jloop_s, xs σ0 σ _ h, e1, Option.bind_some, jloop_s]
            unfold fX4_enact_B17
            rw [show jb (0 : Int32) = 0 from by decide]
            by_cases a : (120 : Int32) ≤ nI (k + 1)
            · rw [if_pos a]
            · rw [if_neg a, if_pos rfl]
          · obtain ⟨v, e4, e5⟩ := sX4_letter hT e3 r2
            refine ⟨1, σ2, D2, ?_, Or.inr ⟨rfl, cL_lt (t := t) (fun z => by omega)⟩, e3⟩
            rw [jloop_s, xs σ0 σ _ h, e1, Option.bind_some, jloop_s]
            unfold fX4_enact_B17
            rw [show jb (1 : Int32) = 1 from by decide]
            by_cases a : (120 : Int32) ≤ nI (k + 1)
            · rw [if_pos a]
            · rw [if_neg a, if_neg (show ¬ (1 : Int32) = 0 by decide), e4, Option.bind_some, if_neg (show ¬ v = (59 : Int32) by rw [show (v = (59 : Int32)) = (cL W t p2 = 59) from e5.is 59 (by omega)]; omega)]
        · obtain ⟨f, rfl⟩ : ∃ z, f = z + 1 + 1 := ⟨f - 2, by omega⟩
          obtain ⟨σ2, e1, k2⟩ := y6 σ0 _ Ls e (by omega) (by omega) h.on
          refine ⟨σ2, ?_, Or.inl k2⟩
          rw [jloop_s, ms σ0 σ e h, e1, Option.bind_some, jloop_s]
          unfold fX12_readText_B31
          rw [k2.2.1, if_pos (nn_p r2 hW)]
    · have xs : ∀ σ0 σ j f, xS W t σ0 σ p (lnFX Ls) → jloop (fX4_enact_B17 j) (f + 1) (σ, (1 : Int32), nI k) = j (σ, 1) := by
        intro σ0 σ j f h
        obtain ⟨v, e1, e2⟩ := sX4_letter hT h hp
        rw [jloop_s]
        unfold fX4_enact_B17
        by_cases a : (120 : Int32) ≤ nI k
        · rw [if_pos a]
        · rw [if_neg a, if_neg (show ¬ (1 : Int32) = 0 by decide), e1, Option.bind_some, if_neg (show ¬ v = (59 : Int32) by rw [show (v = (59 : Int32)) = (cL W t p = 59) from e2.is 59 (by omega)]; exact c)]
      have ms : ∀ σ0 σ e j f, mO W t σ0 σ p Ls (lFlat Ls) e → jloop (fX12_readText_B31 j) (f + 1) σ = j σ := by
        intro σ0 σ e j f h
        obtain ⟨v, e1, e2⟩ := sM_look hT h.st.1 hp
        rw [jloop_s]
        unfold fX12_readText_B31
        rw [h.2.2.1, if_neg (show ¬ (0 : Int32) ≤ -1 by decide), e1, Option.bind_some, if_neg (show ¬ v = (59 : Int32) by rw [show (v = (59 : Int32)) = (cL W t p = 59) from e2.is 59 (by omega)]; exact c)]
      by_cases a : p = W
      · subst a
        refine ⟨p, Nat.le_refl _, Or.inl ⟨rfl, Ls, hl, Nat.le_refl _, h1, h2, h3, fun σ0 σ j f hf h => ?_, fun σ0 σ e j f hf h => ?_⟩⟩
        · obtain ⟨f, rfl⟩ : ∃ z, f = z + 1 := ⟨f - 1, by omega⟩
          exact ⟨σ, xs σ0 σ j f h, h⟩
        · obtain ⟨f, rfl⟩ : ∃ z, f = z + 1 := ⟨f - 1, by omega⟩
          exact ⟨σ, e, ms σ0 σ e j f h, h⟩
      · refine ⟨p, hp, Or.inr ⟨fun σ0 σ j f hf h => ?_, fun σ0 σ e j f hf h => ?_⟩⟩
        · obtain ⟨f, rfl⟩ : ∃ z, f = z + 1 := ⟨f - 1, by omega⟩
          exact ⟨1, σ, _, xs σ0 σ j f h, Or.inr ⟨rfl, by omega⟩, h⟩
        · obtain ⟨f, rfl⟩ : ∃ z, f = z + 1 := ⟨f - 1, by omega⟩
          exact ⟨σ, ms σ0 σ e j f h, Or.inr ⟨by omega, Ls, _, e, h⟩⟩
