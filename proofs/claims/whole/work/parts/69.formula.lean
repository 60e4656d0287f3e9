/-! THE LAW: operands; a whole formula -/
theorem rOut.congr {W : Nat} {t : Nat → Int32} {o p d : Nat} {X X' : jS → Option (Int32 × jS)} {M M' : jS → Option jS} (h : rOut W t o p X M d) (hX : ∀ σ0 σ D, xS W t σ0 σ p D → X' σ = X σ) (hM : ∀ σ0 σ D, mS W t σ0 σ p o D → M' σ = M σ) : rOut W t o p X' M' d := by
  obtain ⟨p', h1, h2, h3⟩ := h
  refine ⟨p', h1, h2, ?_⟩
  rcases h3 with ⟨C, y1, y2, y3, y4, y5⟩ | ⟨y4, y5⟩
  · refine Or.inl ⟨C, y1, y2, y3, fun σ0 σ D hD h => ?_, fun σ0 σ D hD h => ?_⟩
    · rw [hX σ0 σ D h]; exact y4 σ0 σ D hD h
    · rw [hM σ0 σ D h]; exact y5 σ0 σ D hD h
  · refine Or.inr ⟨fun σ0 σ D hD h => ?_, fun σ0 σ D hD h => ?_⟩
    · rw [hX σ0 σ D h]; exact y4 σ0 σ D hD h
    · rw [hM σ0 σ D h]; exact y5 σ0 σ D hD h
theorem rOut.mono {W : Nat} {t : Nat → Int32} {o p d d' : Nat} {X : jS → Option (Int32 × jS)} {M : jS → Option jS} (h : rOut W t o p X M d) (hd : d ≤ d') : rOut W t o p X M d' := by
  obtain ⟨p', h1, h2, h3⟩ := h
  refine ⟨p', h1, h2, ?_⟩
  rcases h3 with ⟨C, y1, ⟨f, y2⟩, y3⟩ | y
  · exact Or.inl ⟨C, y1, ⟨f, y2.mono hd⟩, y3⟩
  · exact Or.inr y
theorem lvl_is {c l : Nat} (hl : l < 5) : lvl c = nI l ↔ (l = 0 ∧ c = 124) ∨ (l = 1 ∧ c = 38) ∨ (l = 2 ∧ (c = 60 ∨ c = 61 ∨ c = 62)) ∨ (l = 3 ∧ (c = 43 ∨ c = 45)) ∨ (l = 4 ∧ (c = 42 ∨ c = 47 ∨ c = 37)) := by
  by_cases a : jOpr c
  · have key : ∀ k, k < 5 → (lvl c = nI k → (nI k = nI l ↔ k = l)) := fun k hk _ => nI_eq (by omega) (by omega)
    rcases a with rfl | rfl | rfl | rfl | rfl | rfl | rfl | rfl | rfl | rfl
    · rw [show lvl 37 = nI 4 from rfl, nI_eq (by omega) (by omega)]; omega
    · rw [show lvl 38 = nI 1 from rfl, nI_eq (by omega) (by omega)]; omega
    · rw [show lvl 42 = nI 4 from rfl, nI_eq (by omega) (by omega)]; omega
    · rw [show lvl 43 = nI 3 from rfl, nI_eq (by omega) (by omega)]; omega
    · rw [show lvl 45 = nI 3 from rfl, nI_eq (by omega) (by omega)]; omega
    · rw [show lvl 47 = nI 4 from rfl, nI_eq (by omega) (by omega)]; omega
    · rw [show lvl 60 = nI 2 from rfl, nI_eq (by omega) (by omega)]; omega
    · rw [show lvl 61 = nI 2 from rfl, nI_eq (by omega) (by omega)]; omega
    · rw [show lvl 62 = nI 2 from rfl, nI_eq (by omega) (by omega)]; omega
    · rw [show lvl 124 = nI 0 from rfl, nI_eq (by omega) (by omega)]; omega
  · constructor
    · intro z; exact absurd (lvl_opr z hl) a
    · intro z; exfalso; apply a; omega
theorem nn_p {p W : Nat} (hp : p ≤ W) (hW : W ≤ 120) : 0 ≤ nI p := (nI_nn (by omega)).1
theorem spec_product {W : Nat} {t : Nat → Int32} (hT : tOk W t) (m : Nat) : mSpec W t 4 (gX12p m).1 (fX12_product_B4 (gX12p m)) := by
  have hW := hT.1
  refine ⟨fun s σ0 σ p n h hp => ?_, fun s σ0 σ p o D h hp hc => ?_, fun s σ0 σ p o D h hp hc => ?_⟩
  · unfold fX12_product_B4
    rw [h.2.1, if_pos (nn_p hp hW)]
  · obtain ⟨v, e1, e2⟩ := sM_look hT h.1 hp
    rw [lvl_is (by omega)] at hc
    unfold fX12_product_B4
    rw [h.2.1, if_neg (show ¬ (0 : Int32) ≤ -1 by decide), e1]
    simp only [Option.bind_some, jlet_e, jst_e, show (v = (42 : Int32)) = (cL W t p = 42) from e2.is 42 (by omega), show (v = (47 : Int32)) = (cL W t p = 47) from e2.is 47 (by omega), show (v = (37 : Int32)) = (cL W t p = 37) from e2.is 37 (by omega)]
    rw [if_neg (by omega), if_neg (by omega), if_neg (by omega)]
  · obtain ⟨v, e1, e2⟩ := sM_look hT h.1 hp
    have hop := lvl_opr hc (by omega)
    rw [lvl_is (by omega)] at hc
    have ev : v = nI (cL W t p) := by rw [e2.is _ (by omega)]
    unfold fX12_product_B4
    rw [h.2.1, if_neg (show ¬ (0 : Int32) ≤ -1 by decide), e1]
    simp only [Option.bind_some, jlet_e, jst_e, show (v = (42 : Int32)) = (cL W t p = 42) from e2.is 42 (by omega), show (v = (47 : Int32)) = (cL W t p = 47) from e2.is 47 (by omega), show (v = (37 : Int32)) = (cL W t p = 37) from e2.is 37 (by omega)]
    by_cases a1 : cL W t p = 42
    · rw [if_pos a1, ev]
      rfl
    · rw [if_neg a1]
      by_cases a2 : cL W t p = 47
      · rw [if_pos a2, ev]
        rfl
      · rw [if_neg a2, if_pos (by omega), ev]
        rfl
theorem spec_sum {W : Nat} {t : Nat → Int32} (hT : tOk W t) (m : Nat) : mSpec W t 3 (gX12p m).2.1 (fX12_sum_B4 (gX12p m)) := by
  have hW := hT.1
  refine ⟨fun s σ0 σ p n h hp => ?_, fun s σ0 σ p o D h hp hc => ?_, fun s σ0 σ p o D h hp hc => ?_⟩
  · unfold fX12_sum_B4
    rw [h.2.1, if_pos (nn_p hp hW)]
  · obtain ⟨v, e1, e2⟩ := sM_look hT h.1 hp
    rw [lvl_is (by omega)] at hc
    unfold fX12_sum_B4
    rw [h.2.1, if_neg (show ¬ (0 : Int32) ≤ -1 by decide), e1]
    simp only [Option.bind_some, jlet_e, jst_e, show (v = (43 : Int32)) = (cL W t p = 43) from e2.is 43 (by omega), show (v = (45 : Int32)) = (cL W t p = 45) from e2.is 45 (by omega)]
    rw [if_neg (by omega), if_neg (by omega)]
  · obtain ⟨v, e1, e2⟩ := sM_look hT h.1 hp
    have hop := lvl_opr hc (by omega)
    rw [lvl_is (by omega)] at hc
    have ev : v = nI (cL W t p) := by rw [e2.is _ (by omega)]
    unfold fX12_sum_B4
    rw [h.2.1, if_neg (show ¬ (0 : Int32) ≤ -1 by decide), e1]
    simp only [Option.bind_some, jlet_e, jst_e, show (v = (43 : Int32)) = (cL W t p = 43) from e2.is 43 (by omega), show (v = (45 : Int32)) = (cL W t p = 45) from e2.is 45 (by omega)]
    by_cases a1 : cL W t p = 43
    · rw [if_pos a1, ev]
      rfl
    · rw [if_neg a1, if_pos (by omega), ev]
      rfl
theorem spec_both {W : Nat} {t : Nat → Int32} (hT : tOk W t) (m : Nat) : mSpec W t 1 (gX12p m).2.2.2.1 (fX12_both_B4 (gX12p m)) := by
  have hW := hT.1
  refine ⟨fun s σ0 σ p n h hp => ?_, fun s σ0 σ p o D h hp hc => ?_, fun s σ0 σ p o D h hp hc => ?_⟩
  · unfold fX12_both_B4
    rw [h.2.1, if_pos (nn_p hp hW)]
  · obtain ⟨v, e1, e2⟩ := sM_look hT h.1 hp
    rw [lvl_is (by omega)] at hc
    unfold fX12_both_B4
    rw [h.2.1, if_neg (show ¬ (0 : Int32) ≤ -1 by decide), e1, Option.bind_some]
    simp only [show (v = (38 : Int32)) = (cL W t p = 38) from e2.is 38 (by omega)]
    rw [if_neg (by omega)]
  · obtain ⟨v, e1, e2⟩ := sM_look hT h.1 hp
    rw [lvl_is (by omega)] at hc
    have hc' : cL W t p = 38 := by omega
    unfold fX12_both_B4
    rw [h.2.1, if_neg (show ¬ (0 : Int32) ≤ -1 by decide), e1, Option.bind_some]
    simp only [show (v = (38 : Int32)) = (cL W t p = 38) from e2.is 38 (by omega)]
    rw [if_pos hc', jst_e, hc']
    rfl
theorem spec_either {W : Nat} {t : Nat → Int32} (hT : tOk W t) (m : Nat) : mSpec W t 0 (gX12p m).2.2.2.2.1 (fX12_either_B4 (gX12p m)) := by
  have hW := hT.1
  refine ⟨fun s σ0 σ p n h hp => ?_, fun s σ0 σ p o D h hp hc => ?_, fun s σ0 σ p o D h hp hc => ?_⟩
  · unfold fX12_either_B4
    rw [h.2.1, if_pos (nn_p hp hW)]
  · obtain ⟨v, e1, e2⟩ := sM_look hT h.1 hp
    rw [lvl_is (by omega)] at hc
    unfold fX12_either_B4
    rw [h.2.1, if_neg (show ¬ (0 : Int32) ≤ -1 by decide), e1, Option.bind_some]
    simp only [show (v = (124 : Int32)) = (cL W t p = 124) from e2.is 124 (by omega)]
    rw [if_neg (by omega)]
  · obtain ⟨v, e1, e2⟩ := sM_look hT h.1 hp
    rw [lvl_is (by omega)] at hc
    have hc' : cL W t p = 124 := by omega
    unfold fX12_either_B4
    rw [h.2.1, if_neg (show ¬ (0 : Int32) ≤ -1 by decide), e1, Option.bind_some]
    simp only [show (v = (124 : Int32)) = (cL W t p = 124) from e2.is 124 (by omega)]
    rw [if_pos hc', jst_e, hc']
    rfl
noncomputable def cmpB (m : Nat) (s : jS → Option jS) (q1 : jS) : Option jS := Option.bind (fX12_look q1) fun (q2 : Int32) => (if 0 ≤ (q1.1 0 22) then (some q1) else (jlet (fun (a35 : Unit) => (jst (ju q1 0 21 ((q1.1 0 21) + (1 : Int32))) fun (σ3 : jS) => (Option.bind ((gX12p m).2.2.1 σ3) fun (q4 : jS) => (Option.bind (fX12_addStep q4 q2 (0 : Int32)) fun (q5 : jS) => (s q5))))) fun (j35 : (Unit → Option (jS))) => (if q2 = (60 : Int32) then (j35 ()) else (if q2 = (61 : Int32) then (j35 ()) else (if q2 = (62 : Int32) then (j35 ()) else (some q1))))))
theorem spec_cmp {W : Nat} {t : Nat → Int32} (hT : tOk W t) (m : Nat) : mSpec W t 2 (gX12p m).2.2.1 (cmpB m) := by
  have hW := hT.1
  refine ⟨fun s σ0 σ p n h hp => ?_, fun s σ0 σ p o D h hp hc => ?_, fun s σ0 σ p o D h hp hc => ?_⟩
  · obtain ⟨v, e1, e2⟩ := sM_look hT h.1 hp
    unfold cmpB
    rw [e1, Option.bind_some, h.2.1, if_pos (nn_p hp hW)]
  · obtain ⟨v, e1, e2⟩ := sM_look hT h.1 hp
    rw [lvl_is (by omega)] at hc
    unfold cmpB
    rw [e1, Option.bind_some, h.2.1, if_neg (show ¬ (0 : Int32) ≤ -1 by decide), jlet_e]
    simp only [show (v = (60 : Int32)) = (cL W t p = 60) from e2.is 60 (by omega), show (v = (61 : Int32)) = (cL W t p = 61) from e2.is 61 (by omega), show (v = (62 : Int32)) = (cL W t p = 62) from e2.is 62 (by omega)]
    rw [if_neg (by omega), if_neg (by omega), if_neg (by omega)]
  · obtain ⟨v, e1, e2⟩ := sM_look hT h.1 hp
    have hop := lvl_opr hc (by omega)
    rw [lvl_is (by omega)] at hc
    have ev : v = nI (cL W t p) := by rw [e2.is _ (by omega)]
    unfold cmpB
    rw [e1, Option.bind_some, h.2.1, if_neg (show ¬ (0 : Int32) ≤ -1 by decide), jlet_e]
    simp only [show (v = (60 : Int32)) = (cL W t p = 60) from e2.is 60 (by omega), show (v = (61 : Int32)) = (cL W t p = 61) from e2.is 61 (by omega), show (v = (62 : Int32)) = (cL W t p = 62) from e2.is 62 (by omega)]
    by_cases a1 : cL W t p = 60
    · rw [if_pos a1, jst_e, ev]
      rfl
    · rw [if_neg a1]
      by_cases a2 : cL W t p = 61
      · rw [if_pos a2, jst_e, ev]
        rfl
      · rw [if_neg a2, if_pos (by omega), jst_e, ev]
        rfl
/-- from operands to a whole formula -/
theorem r_formula {W : Nat} {t : Nat → Int32} (hT : tOk W t) {o d g m : Nat} (hs : ∀ p, p ≤ W → rOut W t o p (fun σ => (gX4 g).2.1 σ (nI o)) (gX12p m).1 d) : ∀ p, p ≤ W → rOut W t o p (fun σ => (gX4 (g + 6)).1 σ (nI 0) (nI o)) (fun σ => (gX12p (m + 5)).2.2.2.2.2 σ) (d + 5) := by
  have hW := hT.1
  have hN : 6000 ≤ jN := jN_ge
  have s5 : ∀ p, p ≤ W → rOut W t o p (fun σ => (gX4 (g + 1)).1 σ (nI (4 + 1)) (nI o)) (gX12p m).1 d := by
    intro p hp
    refine (hs p hp).congr (fun σ0 σ D h => ?_) (fun σ0 σ D h => rfl)
    show bX4_readLevel (gX4 g) σ (nI 5) (nI o) = _
    unfold bX4_readLevel
    rw [if_neg (show ¬ nI 5 < (5 : Int32) by decide)]
    show (Option.bind ((gX4 g).2.1 σ (nI o)) fun (q8 : (Int32 × jS)) => (some (q8.1, q8.2))) = (gX4 g).2.1 σ (nI o)
    cases (gX4 g).2.1 σ (nI o) <;> rfl
  have s4 := r_level hT (l := 4) (by omega) s5 (fun p A hp hA => r_loop hT (by omega) (by omega) s5 (spec_product hT m) W p 0 jN jN A (by omega) hp (by omega) (by omega) (by omega) hA) (fun σ0 σ p n h hp => by
    obtain ⟨f, hf⟩ : ∃ f, jN = f + 1 := ⟨jN - 1, by omega⟩
    rw [hf, jloop_s]
    exact (spec_product hT m).1 _ σ0 σ p n h hp)
  have s3 := r_level hT (l := 3) (sub := (gX12p (m + 1)).2.1) (by omega) s4 (fun p A hp hA => r_loop hT (by omega) (by omega) s4 (spec_sum hT (m + 1)) W p 0 jN jN A (by omega) hp (by omega) (by omega) (by omega) hA) (fun σ0 σ p n h hp => by
    obtain ⟨f, hf⟩ : ∃ f, jN = f + 1 := ⟨jN - 1, by omega⟩
    rw [hf, jloop_s]
    exact (spec_sum hT (m + 1)).1 _ σ0 σ p n h hp)
  have s2 := r_level hT (l := 2) (sub := (gX12p (m + 2)).2.2.1) (MT := fun σ => cmpB (m + 2) some σ) (by omega) s3 (fun p A hp hA => by
    obtain ⟨f, hf⟩ : ∃ f, jN = f + 1 := ⟨jN - 1, by omega⟩
    rw [hf]
    exact r_once hT s3 (spec_cmp hT (m + 2)) hp hA) (fun σ0 σ p n h hp => (spec_cmp hT (m + 2)).1 _ σ0 σ p n h hp)
  have s1 := r_level hT (l := 1) (sub := (gX12p (m + 3)).2.2.2.1) (by omega) s2 (fun p A hp hA => r_loop hT (by omega) (by omega) s2 (spec_both hT (m + 3)) W p 0 jN jN A (by omega) hp (by omega) (by omega) (by omega) hA) (fun σ0 σ p n h hp => by
    obtain ⟨f, hf⟩ : ∃ f, jN = f + 1 := ⟨jN - 1, by omega⟩
    rw [hf, jloop_s]
    exact (spec_both hT (m + 3)).1 _ σ0 σ p n h hp)
  have s0 := r_level hT (l := 0) (sub := (gX12p (m + 4)).2.2.2.2.1) (by omega) s1 (fun p A hp hA => r_loop hT (by omega) (by omega) s1 (spec_either hT (m + 4)) W p 0 jN jN A (by omega) hp (by omega) (by omega) (by omega) hA) (fun σ0 σ p n h hp => by
    obtain ⟨f, hf⟩ : ∃ f, jN = f + 1 := ⟨jN - 1, by omega⟩
    rw [hf, jloop_s]
    exact (spec_either hT (m + 4)).1 _ σ0 σ p n h hp)
  exact s0
