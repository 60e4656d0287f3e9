/-! THE LAW: operands -/
def nmN (c : Nat) : Int32 := if c = 104 then 0 else if c = 115 then 1 else if c = 119 then 2 else if c = 114 then 3 else if c = 113 then 4 else if c = 112 then 5 else -1
theorem nmN_jIx {v : Int32} {c : Nat} (h : lFX v c) : jIx v = nmN c := by
  unfold jIx nmN
  simp only [show (v = (104 : Int32)) = (c = 104) from h.is 104 (by omega), show (v = (115 : Int32)) = (c = 115) from h.is 115 (by omega), show (v = (119 : Int32)) = (c = 119) from h.is 119 (by omega), show (v = (114 : Int32)) = (c = 114) from h.is 114 (by omega), show (v = (113 : Int32)) = (c = 113) from h.is 113 (by omega), show (v = (112 : Int32)) = (c = 112) from h.is 112 (by omega)]
theorem sX_name {v : Int32} {c : Nat} (h : lFX v c) {ρ : Type} (j : Int32 → Option ρ) : (if v ≤ 0 then (j (-1 : Int32)) else (Option.bind (some (jIx ((v.toUInt32 % 65536).toInt32))) fun (q9 : Int32) => (j q9))) = j (nmN c) := by
  by_cases a : v ≤ 0
  · rw [if_pos a]
    have : nmN c = -1 := by
      rcases h with ⟨rfl, h2⟩ | ⟨rfl, h2⟩
      · have : c = 0 := by
          have := (nI_leI (b := 0) (by omega) (by omega)).mp a
          omega
        subst this
        rfl
      · rfl
    rw [this]
  · rw [if_neg a, Option.bind_some]
    rw [i_le, show (0 : Int32).toInt = 0 from rfl] at a
    have e : (v.toUInt32 % 65536).toInt32 = v := by
      refine lg_i2c_word (by omega) ?_
      rcases h with ⟨rfl, h2⟩ | ⟨rfl, h2⟩
      · rw [nI_T (by omega)]; omega
      · rcases h2 with rfl | h2
        · decide
        · omega
    rw [e, nmN_jIx h]
theorem sX_nameJ {v : Int32} {c : Nat} (h : lFX v c) {ρ : Type} (B : Int32 → Option ρ) : jlet B (fun (j33 : (Int32 → Option ρ)) => (if v ≤ 0 then (j33 (-1 : Int32)) else (Option.bind (some (jIx ((v.toUInt32 % 65536).toInt32))) fun (q9 : Int32) => (j33 q9)))) = B (nmN c) := sX_name h B
theorem sM_name {σ : jS} {v : Int32} {c : Nat} (h : lFM v c) : fX12_nameOf σ v = some (nmN c) := by
  unfold fX12_nameOf nmN
  simp only [show (v = (104 : Int32)) = (c = 104) from h.is 104 (by omega), show (v = (115 : Int32)) = (c = 115) from h.is 115 (by omega), show (v = (119 : Int32)) = (c = 119) from h.is 119 (by omega), show (v = (114 : Int32)) = (c = 114) from h.is 114 (by omega), show (v = (113 : Int32)) = (c = 113) from h.is 113 (by omega), show (v = (112 : Int32)) = (c = 112) from h.is 112 (by omega)]
  by_cases a1 : c = 104
  · rw [if_pos a1, if_pos a1]
  rw [if_neg a1, if_neg a1]
  by_cases a2 : c = 115
  · subst a2; rfl
  by_cases a3 : c = 119
  · subst a3; rfl
  by_cases a4 : c = 114
  · subst a4; rfl
  by_cases a5 : c = 113
  · subst a5; rfl
  by_cases a6 : c = 112
  · subst a6; rfl
  rw [if_neg a6, if_neg a5, if_neg a4, if_neg a2, if_neg a3, if_neg a2, if_neg a3, if_neg a4, if_neg a5, if_neg a6]
theorem nmN_or (c : Nat) : (nmN c = -1 ∧ ¬ (c = 104 ∨ c = 115 ∨ c = 119 ∨ c = 114 ∨ c = 113 ∨ c = 112)) ∨ (∃ i, i < 6 ∧ nmN c = nI i ∧ 100 < c ∧ c < 128) := by
  by_cases h : c = 104 ∨ c = 115 ∨ c = 119 ∨ c = 114 ∨ c = 113 ∨ c = 112
  · right
    rcases h with rfl | rfl | rfl | rfl | rfl | rfl
    · exact ⟨0, by omega, rfl, by omega, by omega⟩
    · exact ⟨1, by omega, rfl, by omega, by omega⟩
    · exact ⟨2, by omega, rfl, by omega, by omega⟩
    · exact ⟨3, by omega, rfl, by omega, by omega⟩
    · exact ⟨4, by omega, rfl, by omega, by omega⟩
    · exact ⟨5, by omega, rfl, by omega, by omega⟩
  · left
    refine ⟨?_, h⟩
    unfold nmN
    rw [if_neg (by omega), if_neg (by omega), if_neg (by omega), if_neg (by omega), if_neg (by omega), if_neg (by omega)]
theorem mS.opens {W : Nat} {t : Nat → Int32} {σ0 σ : jS} {p o : Nat} {D : List (Nat × Nat)} (h : mS W t σ0 σ p o D) (ho : o < 6) : ∃ σ', fX12_opens σ = some (1, σ') ∧ mS W t σ0 σ' (p + 1) (o + 1) D := by
  obtain ⟨⟨b, h1, h2, h3, h4, h5⟩, k1, k2, k3, k4⟩ := h
  unfold fX12_opens
  rw [k2, if_neg (show ¬ nI o = (6 : Int32) from fun z => by have := (nI_eq (b := 6) (by omega) (by omega)).mp z; omega), jst_e, jst_e, nI_1, ju_i (show (21 : Nat) ≠ 23 by decide), h4, nI_1]
  refine ⟨_, rfl, ⟨b, fun c c1 c2 c3 => ?_, ?_, fun k z1 z2 z3 z4 => ?_, ?_, fun i hi => ?_⟩, ?_, ?_, ?_, fun i hi => ?_⟩
  · rw [ju_n c1, ju_n c1]; exact h1 c c1 c2 c3
  · rw [ju_2, ju_2]; exact h2
  · rw [ju_i z1, ju_i z3]; exact h3 k z1 z2 z3 z4
  · rw [ju_s]
  · rw [ju_n (by decide), ju_n (by decide), ju_n (by decide), ju_n (by decide)]; exact h5 i hi
  · rw [ju_i (by decide), ju_i (by decide)]; exact k1
  · rw [ju_i (by decide), ju_s]
  · rw [ju_i (by decide), ju_i (by decide)]; exact k3
  · rw [ju_n (by decide), ju_n (by decide), ju_n (by decide), ju_n (by decide)]; exact k4 i hi
theorem mS.full {W : Nat} {t : Nat → Int32} {σ0 σ : jS} {p : Nat} {D : List (Nat × Nat)} (h : mS W t σ0 σ p 6 D) : ∃ σ', fX12_opens σ = some (0, σ') ∧ mF W t σ0 σ' p D.length := by
  obtain ⟨σ', e, k⟩ := h.fault
  refine ⟨σ', ?_, k⟩
  unfold fX12_opens
  rw [h.2.2.1, if_pos (show nI 6 = (6 : Int32) from rfl), e]
  rfl
theorem mS.close {W : Nat} {t : Nat → Int32} {σ0 σ : jS} {p o : Nat} {D : List (Nat × Nat)} (h : mS W t σ0 σ p (o + 1) D) : mS W t σ0 (ju σ 0 23 (σ.1 0 23 - 1)) p o D := by
  obtain ⟨⟨b, h1, h2, h3, h4, h5⟩, k1, k2, k3, k4⟩ := h
  have e : nI (o + 1) - (1 : Int32) = nI o := by
    show nI (o + 1) - nI 1 = _
    rw [pk_sub (by omega), Nat.add_sub_cancel]
  refine ⟨⟨b, fun c c1 c2 c3 => ?_, ?_, fun k z1 z2 z3 z4 => ?_, ?_, fun i hi => ?_⟩, ?_, ?_, ?_, fun i hi => ?_⟩
  · rw [ju_n c1]; exact h1 c c1 c2 c3
  · rw [ju_2]; exact h2
  · rw [ju_i z3]; exact h3 k z1 z2 z3 z4
  · rw [ju_i (by decide)]; exact h4
  · rw [ju_n (by decide), ju_n (by decide)]; exact h5 i hi
  · rw [ju_i (by decide)]; exact k1
  · rw [ju_s, k2, e]
  · rw [ju_i (by decide)]; exact k3
  · rw [ju_n (by decide), ju_n (by decide)]; exact k4 i hi
theorem mF.close {W : Nat} {t : Nat → Int32} {σ0 σ : jS} {p n : Nat} {v : Int32} (h : mF W t σ0 σ p n) : mF W t σ0 (ju σ 0 23 v) p n := by
  obtain ⟨⟨b, h1, h2, h3, h4, h5⟩, k1, k2⟩ := h
  refine ⟨⟨b, fun c c1 c2 c3 => ?_, ?_, fun k z1 z2 z3 z4 => ?_, ?_, fun i hi => ?_⟩, ?_, ?_⟩
  · rw [ju_n c1]; exact h1 c c1 c2 c3
  · rw [ju_2]; exact h2
  · rw [ju_i z3]; exact h3 k z1 z2 z3 z4
  · rw [ju_i (by decide)]; exact h4
  · rw [ju_n (by decide), ju_n (by decide)]; exact h5 i hi
  · rw [ju_i (by decide)]; exact k1
  · rw [ju_i (by decide)]; exact k2
/-- the class: an operand by its letter -/
theorem sX_oper {W : Nat} {t : Nat → Int32} (hT : tOk W t) {g o p : Nat} (ho : o ≤ 6) (hp : p ≤ W) {σ0 σ : jS} {D : List Int32} (h : xS W t σ0 σ p D) : (gX4 (g + 1)).2.1 σ (nI o) = (if dgt (cL W t p) then (Option.bind (fX4_readNumber σ) fun q => some (1, q)) else if 0 ≤ nmN (cL W t p) then (Option.bind (fX4_draw (ju σ 7 2 (σ.1 7 2 + 1)) (-1 - nmN (cL W t p))) fun (q8 : jS) => (some ((1 : Int32), q8))) else if o = 6 then some (0, σ) else if cL W t p = 33 ∨ cL W t p = 45 then (Option.bind ((gX4 g).2.1 (ju σ 7 2 (σ.1 7 2 + 1)) (nI (o + 1))) fun q4 => Option.bind (fX4_draw q4.2 (if cL W t p = 33 then 33 else 126)) fun (q5 : jS) => (some (q4.1, q5))) else if cL W t p = 40 then (Option.bind ((gX4 g).2.2 σ (nI (o + 1))) fun (q6 : (Int32 × jS)) => (if (jb q6.1) = 0 then (some ((0 : Int32), q6.2)) else (some ((1 : Int32), q6.2)))) else some (0, σ)) := by
  obtain ⟨v, e1, e2⟩ := sX4_letter hT h hp
  show bX4_readOperand (gX4 g) σ (nI o) = _
  unfold bX4_readOperand
  rw [e1, Option.bind_some, sX4_digit e2, Option.bind_some]
  have hj := jb_jo (dgt (cL W t p))
  by_cases a : dgt (cL W t p)
  · rw [if_neg (fun z => (hj.mp z) a), if_pos a]
  · rw [if_pos (hj.mpr a), if_neg a, sX_nameJ e2]
    rcases nmN_or (cL W t p) with ⟨b1, b2⟩ | ⟨i, hi, b1, b2, b3⟩
    · rw [b1, if_pos (show (-1 : Int32) < 0 by decide), if_neg (show ¬ (0 : Int32) ≤ -1 by decide)]
      simp only [jlet_e, jst_e, nI_1]
      simp only [show (v = (33 : Int32)) = (cL W t p = 33) from e2.is 33 (by omega), show (v = (45 : Int32)) = (cL W t p = 45) from e2.is 45 (by omega), show (v = (40 : Int32)) = (cL W t p = 40) from e2.is 40 (by omega)]
      by_cases c : o = 6
      · subst c
        rw [if_neg (show ¬ nI 6 < (6 : Int32) by decide), if_pos rfl]
      · rw [if_pos (show nI o < (6 : Int32) from (nI_ltI (b := 6) (by omega) (by omega)).mpr (by omega)), if_neg c]
        by_cases c1 : cL W t p = 33
        · rw [if_pos c1, if_pos (Or.inl c1), if_pos c1]
          congr 1
          funext q4
          rw [if_pos c1]
        · rw [if_neg c1]
          by_cases c2 : cL W t p = 45
          · rw [if_pos c2, if_pos (Or.inr c2)]
            congr 1
            funext q4
            rw [if_neg c1, if_neg c1]
          · rw [if_neg c2, if_neg (show ¬ (cL W t p = 33 ∨ cL W t p = 45) by omega)]
    · rw [b1, if_neg (show ¬ nI i < 0 from fun z => by have := (nI_nn (k := i) (by omega)).1; rw [i_le] at this; rw [i_lt] at z; omega), if_pos (nI_nn (k := i) (by omega)).1, jst_e]
/-- the reference: an operand by its letter -/
theorem sM_oper {W : Nat} {t : Nat → Int32} (hT : tOk W t) {m o p : Nat} (hp : p ≤ W) {σ0 σ : jS} {D : List (Nat × Nat)} (h : mS W t σ0 σ p o D) : (gX12p (m + 1)).1 σ = (if 0 ≤ nmN (cL W t p) then (Option.bind (fX12_addStep σ (2 : Int32) (nmN (cL W t p))) fun (q15 : jS) => some (ju q15 0 21 (q15.1 0 21 + 1))) else if cL W t p = 33 ∨ cL W t p = 45 then (Option.bind (fX12_opens σ) fun (q3 : (Int32 × jS)) => (if (jb q3.1) = 0 then (some q3.2) else (Option.bind ((gX12p m).1 q3.2) fun (q4 : jS) => Option.bind (fX12_addStep (ju q4 0 23 (q4.1 0 23 - 1)) (if cL W t p = 33 then 3 else 4) (0 : Int32)) fun (q6 : jS) => some q6))) else if cL W t p = 40 then (Option.bind (fX12_opens σ) fun (q8 : (Int32 × jS)) => (if (jb q8.1) = 0 then (some q8.2) else (Option.bind ((gX12p m).2.2.2.2.2 q8.2) fun (q9 : jS) => (if (q9.1 0 22) < 0 then (Option.bind (fX12_look q9) fun (q10 : Int32) => (if q10 = (41 : Int32) then some (ju (ju q9 0 21 (q9.1 0 21 + 1)) 0 23 ((ju q9 0 21 (q9.1 0 21 + 1)).1 0 23 - 1)) else (Option.bind (fX12_faulty q9) fun (q13 : jS) => (some q13)))) else (some q9))))) else (Option.bind (fX12_figure σ) fun (q7 : jS) => (some q7))) := by
  obtain ⟨v, e1, e2⟩ := sM_look hT h.1 hp
  show bX12_operand (gX12p m) σ = _
  unfold bX12_operand
  rw [e1, Option.bind_some, sM_name e2, Option.bind_some, Option.bind_some]
  rcases nmN_or (cL W t p) with ⟨b1, b2⟩ | ⟨i, hi, b1, b2, b3⟩
  · rw [b1, if_pos (show (-1 : Int32) < 0 by decide), if_neg (show ¬ (0 : Int32) ≤ -1 by decide)]
    simp only [jlet_e, jst_e]
    simp only [show (v = (33 : Int32)) = (cL W t p = 33) from e2.is 33 (by omega), show (v = (45 : Int32)) = (cL W t p = 45) from e2.is 45 (by omega), show (v = (40 : Int32)) = (cL W t p = 40) from e2.is 40 (by omega)]
    by_cases c1 : cL W t p = 33
    · rw [if_pos c1, if_pos (Or.inl c1)]
      simp only [if_pos c1]
    · rw [if_neg c1]
      by_cases c2 : cL W t p = 45
      · rw [if_pos c2, if_pos (Or.inr c2)]
        simp only [if_neg c1]
      · rw [if_neg c2, if_neg (show ¬ (cL W t p = 33 ∨ cL W t p = 45) by omega)]
  · rw [b1, if_neg (show ¬ nI i < 0 from fun z => by have := (nI_nn (k := i) (by omega)).1; rw [i_le] at this; rw [i_lt] at z; omega), if_pos (nI_nn (k := i) (by omega)).1]
    rfl
