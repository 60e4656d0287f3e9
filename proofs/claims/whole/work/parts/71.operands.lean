/-! THE LAW: operands, by how many are open -/
theorem bind_sm {α : Type} (x : Option α) : (Option.bind x fun q => some q) = x := by cases x <;> rfl
theorem nmN_neg {c : Nat} (h : ¬ (c = 104 ∨ c = 115 ∨ c = 119 ∨ c = 114 ∨ c = 113 ∨ c = 112)) : ¬ (0 : Int32) ≤ nmN c := by
  rcases nmN_or c with ⟨b1, b2⟩ | ⟨i, hi, b1, b2, b3⟩
  · rw [b1]; decide
  · exfalso
    unfold nmN at b1
    rw [if_neg (by omega), if_neg (by omega), if_neg (by omega), if_neg (by omega), if_neg (by omega), if_neg (by omega)] at b1
    exact (nI_nn (k := i) (by omega)).2 b1.symm
theorem r_operand {W : Nat} {t : Nat → Int32} (hT : tOk W t) : ∀ k o, o + k = 6 → ∀ gx gm, 2 + 8 * k ≤ gx → 1 + 6 * k ≤ gm → ∀ p, p ≤ W → rOut W t o p (fun σ => (gX4 gx).2.1 σ (nI o)) (gX12p gm).1 (1 + 5 * k) := by
  have hW := hT.1
  intro k
  induction k with
  | zero =>
    intro o ho gx gm hgx hgm p hp
    obtain rfl : o = 6 := by omega
    obtain ⟨g, rfl⟩ : ∃ z, gx = z + 1 := ⟨gx - 1, by omega⟩
    obtain ⟨m, rfl⟩ : ∃ z, gm = z + 1 := ⟨gm - 1, by omega⟩
    by_cases a : dgt (cL W t p)
    · refine (r_num hT hp a).congr (fun σ0 σ D h => ?_) (fun σ0 σ D h => ?_) |>.mono (by omega)
      · show (gX4 (g + 1)).2.1 σ (nI 6) = _
        rw [sX_oper hT (by omega) hp h, if_pos a]
      · rw [sM_oper hT hp h, if_neg (nmN_neg (by omega)), if_neg (by omega), if_neg (by omega), bind_sm]
    · rcases nmN_or (cL W t p) with ⟨b1, b2⟩ | ⟨i, hi, b1, b2, b3⟩
      · refine ⟨p, Nat.le_refl _, hp, Or.inr ⟨fun σ0 σ D hD h => ⟨0, σ, D, ?_, Or.inl rfl, h⟩, fun σ0 σ D hD h => ?_⟩⟩
        · show (gX4 (g + 1)).2.1 σ (nI 6) = _
          rw [sX_oper hT (by omega) hp h, if_neg a, if_neg (nmN_neg b2), if_pos rfl]
        · rw [sM_oper hT hp h, if_neg (nmN_neg b2)]
          obtain ⟨σ', e, q⟩ := h.full
          by_cases c1 : cL W t p = 33 ∨ cL W t p = 45
          · rw [if_pos c1, e, Option.bind_some, if_pos (show jb 0 = 0 by decide)]
            exact ⟨σ', _, rfl, q, by omega⟩
          · rw [if_neg c1]
            by_cases c2 : cL W t p = 40
            · rw [if_pos c2, e, Option.bind_some, if_pos (show jb 0 = 0 by decide)]
              exact ⟨σ', _, rfl, q, by omega⟩
            · rw [if_neg c2, bind_sm]
              obtain ⟨σ', e, q⟩ := m_nofig hT hp a (by omega) h
              exact ⟨σ', _, e, q, by omega⟩
      · have hpW : p < W := cL_lt (t := t) (fun z => by omega)
        refine ⟨p + 1, by omega, by omega, Or.inl ⟨[(2, i)], by simp, ⟨_, (jSeg.name i).mono (by omega)⟩, fun j hj => ?_, fun σ0 σ D hD h => ?_, fun σ0 σ D hD h => ?_⟩⟩
        · rw [List.mem_singleton.mp hj]; exact Or.inr (Or.inl ⟨rfl, hi⟩)
        · obtain ⟨σ', e, q⟩ := h.on.draw (jEnc (2, i)) (by omega)
          refine ⟨σ', ?_, q⟩
          show (gX4 (g + 1)).2.1 σ (nI 6) = _
          rw [sX_oper hT (by omega) hp h, if_neg a, b1, if_pos (nI_nn (k := i) (by omega)).1, show (-1 : Int32) - nI i = jEnc (2, i) from rfl, e]
          rfl
        · obtain ⟨σ', e, q⟩ := h.step (a := 2) (b := i) (by omega) (by omega)
          refine ⟨_, ?_, q.on⟩
          rw [sM_oper hT hp h, b1, if_pos (nI_nn (k := i) (by omega)).1, show fX12_addStep σ (2 : Int32) (nI i) = some σ' from e]
          rfl
  | succ k ih =>
    intro o ho gx gm hgx hgm p hp
    obtain ⟨g, rfl⟩ : ∃ z, gx = z + 1 + 1 := ⟨gx - 2, by omega⟩
    obtain ⟨m, rfl⟩ : ∃ z, gm = z + 1 := ⟨gm - 1, by omega⟩
    by_cases a : dgt (cL W t p)
    · refine (r_num hT hp a).congr (fun σ0 σ D h => ?_) (fun σ0 σ D h => ?_) |>.mono (by omega)
      · show (gX4 (g + 1 + 1)).2.1 σ (nI o) = _
        rw [sX_oper hT (by omega) hp h, if_pos a]
      · rw [sM_oper hT hp h, if_neg (nmN_neg (by omega)), if_neg (by omega), if_neg (by omega), bind_sm]
    · rcases nmN_or (cL W t p) with ⟨b1, b2⟩ | ⟨i, hi, b1, b2, b3⟩
      · have nn := nmN_neg b2
        have o6 : ¬ o = 6 := by omega
        by_cases c1 : cL W t p = 33 ∨ cL W t p = 45
        · have hpW : p < W := cL_lt (t := t) (fun z => by omega)
          obtain ⟨p2, r1, r2, r3⟩ := ih (o + 1) (by omega) (g + 1) m (by omega) (by omega) (p + 1) (by omega)
          have xE : ∀ σ0 σ D, xS W t σ0 σ p D → (gX4 (g + 1 + 1)).2.1 σ (nI o) = (Option.bind ((gX4 (g + 1)).2.1 (ju σ 7 2 (σ.1 7 2 + 1)) (nI (o + 1))) fun q4 => Option.bind (fX4_draw q4.2 (if cL W t p = 33 then 33 else 126)) fun (q5 : jS) => (some (q4.1, q5))) := fun σ0 σ D h => by
            rw [sX_oper hT (by omega) hp h, if_neg a, if_neg nn, if_neg o6, if_pos c1]
          obtain ⟨w, hw, hw2, hwS⟩ : ∃ w : Nat, (w = 3 ∨ w = 4) ∧ (if cL W t p = 33 then (3 : Int32) else 4) = nI w ∧ (if cL W t p = 33 then (33 : Int32) else 126) = jEnc (w, 0) := by
            by_cases z : cL W t p = 33
            · exact ⟨3, Or.inl rfl, by rw [if_pos z]; rfl, by rw [if_pos z]; rfl⟩
            · exact ⟨4, Or.inr rfl, by rw [if_neg z]; rfl, by rw [if_neg z]; rfl⟩
          have mE : ∀ σ0 σ D, mS W t σ0 σ p o D → (gX12p (m + 1)).1 σ = (Option.bind (fX12_opens σ) fun (q3 : (Int32 × jS)) => (if (jb q3.1) = 0 then (some q3.2) else (Option.bind ((gX12p m).1 q3.2) fun (q4 : jS) => Option.bind (fX12_addStep (ju q4 0 23 (q4.1 0 23 - 1)) (nI w) (nI 0)) fun (q6 : jS) => some q6))) := fun σ0 σ D h => by
            rw [sM_oper hT hp h, if_neg nn, if_pos c1, hw2]
            rfl
          rcases r3 with ⟨C, y1, ⟨f, y2⟩, y3, y4, y5⟩ | ⟨y4, y5⟩
          · refine ⟨p2, by omega, r2, Or.inl ⟨C ++ [(w, 0)], ?_, ?_, ?_, fun σ0 σ D hD h => ?_, fun σ0 σ D hD h => ?_⟩⟩
            · simp only [List.length_append, List.length_cons, List.length_nil]; omega
            · rcases hw with rfl | rfl
              · exact ⟨_, (y2.no).mono (by omega)⟩
              · exact ⟨_, (y2.neg).mono (by omega)⟩
            · intro j hj
              rcases List.mem_append.mp hj with hj | hj
              · exact y3 j hj
              · rw [List.mem_singleton.mp hj]
                rcases hw with rfl | rfl
                · exact Or.inr (Or.inr (Or.inl rfl))
                · exact Or.inr (Or.inr (Or.inr (Or.inl rfl)))
            · obtain ⟨σ1, e1, e2⟩ := y4 σ0 _ D (by omega) h.on
              dsimp only at e1
              obtain ⟨σ2, e3, e4⟩ := e2.draw (jEnc (w, 0)) (by rw [List.length_append, List.length_map]; omega)
              refine ⟨σ2, ?_, ?_⟩
              · show (gX4 (g + 1 + 1)).2.1 σ (nI o) = _
                rw [xE σ0 σ D h, e1, Option.bind_some, hwS, e3]
                rfl
              · rw [List.map_append, ← List.append_assoc]
                exact e4
            · obtain ⟨σ0', e0, k0⟩ := h.opens (by omega)
              obtain ⟨σ1, e1, e2⟩ := y5 σ0 σ0' D (by omega) k0
              obtain ⟨σ2, e3, e4⟩ := e2.close.step (a := w) (b := 0) (by rw [List.length_append]; omega) (by omega)
              refine ⟨σ2, ?_, ?_⟩
              · rw [mE σ0 σ D h, e0, Option.bind_some, if_neg (show ¬ jb 1 = 0 by decide), e1, Option.bind_some, e3]
                rfl
              · rw [← List.append_assoc]
                exact e4
          · refine ⟨p2, by omega, r2, Or.inr ⟨fun σ0 σ D hD h => ?_, fun σ0 σ D hD h => ?_⟩⟩
            · obtain ⟨r, σ1, D1, e1, e2, e3⟩ := y4 σ0 _ D (by omega) h.on
              dsimp only at e1
              obtain ⟨σ2, D2, e4, e5⟩ := e3.drawAny (jEnc (w, 0))
              refine ⟨r, σ2, D2, ?_, e2, e5⟩
              show (gX4 (g + 1 + 1)).2.1 σ (nI o) = _
              rw [xE σ0 σ D h, e1, Option.bind_some, hwS, e4]
              rfl
            · obtain ⟨σ0', e0, k0⟩ := h.opens (by omega)
              obtain ⟨σ1, n1, e1, e2, e3⟩ := y5 σ0 σ0' D (by omega) k0
              obtain ⟨σ2, e4, e5⟩ := (e2.close (v := σ1.1 0 23 - 1)).step (a := w) (b := nI 0) (by omega) (by omega)
              refine ⟨σ2, n1 + 1, ?_, e5, by omega⟩
              rw [mE σ0 σ D h, e0, Option.bind_some, if_neg (show ¬ jb 1 = 0 by decide), e1, Option.bind_some, e4]
              rfl
        · by_cases c2 : cL W t p = 40
          · have hpW : p < W := cL_lt (t := t) (fun z => by omega)
            obtain ⟨g0, hg0⟩ : ∃ z, g = z + 6 := ⟨g - 6, by omega⟩
            obtain ⟨m0, hm0⟩ : ∃ z, m = z + 5 := ⟨m - 5, by omega⟩
            have hf := r_formula hT (o := o + 1) (d := 1 + 5 * k) (g := g0) (m := m0) (fun p hp => ih (o + 1) (by omega) g0 m0 (by omega) (by omega) p hp) (p + 1) (by omega)
            rw [← hg0, ← hm0] at hf
            obtain ⟨p2, r1, r2, r3⟩ := hf
            have xE : ∀ σ0 σ D, xS W t σ0 σ p D → (gX4 (g + 1 + 1)).2.1 σ (nI o) = Option.bind (Option.bind ((gX4 g).1 (ju σ 7 2 (σ.1 7 2 + 1)) (nI 0) (nI (o + 1))) (fun (q2 : (Int32 × jS)) => if (jb q2.1) = 0 then some ((0 : Int32), q2.2) else Option.bind (fX4_letter q2.2) (fun (q3 : Int32) => if q3 = (41 : Int32) then some ((1 : Int32), ju q2.2 7 2 (q2.2.1 7 2 + 1)) else some ((0 : Int32), q2.2)))) (fun (q6 : (Int32 × jS)) => if (jb q6.1) = 0 then some ((0 : Int32), q6.2) else some ((1 : Int32), q6.2)) := fun σ0 σ D h => by
              rw [sX_oper hT (by omega) hp h, if_neg a, if_neg nn, if_neg o6, if_neg c1, if_pos c2]
              rfl
            have mE : ∀ σ0 σ D, mS W t σ0 σ p o D → (gX12p (m + 1)).1 σ = (Option.bind (fX12_opens σ) fun (q8 : (Int32 × jS)) => (if (jb q8.1) = 0 then (some q8.2) else (Option.bind ((gX12p m).2.2.2.2.2 q8.2) fun (q9 : jS) => (if (q9.1 0 22) < 0 then (Option.bind (fX12_look q9) fun (q10 : Int32) => (if q10 = (41 : Int32) then some (ju (ju q9 0 21 (q9.1 0 21 + 1)) 0 23 ((ju q9 0 21 (q9.1 0 21 + 1)).1 0 23 - 1)) else (Option.bind (fX12_faulty q9) fun (q13 : jS) => (some q13)))) else (some q9))))) := fun σ0 σ D h => by
              rw [sM_oper hT hp h, if_neg nn, if_neg c1, if_pos c2]
            rcases r3 with ⟨C, y1, ⟨f, y2⟩, y3, y4, y5⟩ | ⟨y4, y5⟩
            · by_cases c3 : cL W t p2 = 41
              · have hp2W : p2 < W := cL_lt (t := t) (fun z => by omega)
                refine ⟨p2 + 1, by omega, by omega, Or.inl ⟨C, by omega, ⟨f, y2.mono (by omega)⟩, y3, fun σ0 σ D hD h => ?_, fun σ0 σ D hD h => ?_⟩⟩
                · obtain ⟨σ1, e1, e2⟩ := y4 σ0 _ D (by omega) h.on
                  dsimp only at e1
                  obtain ⟨v, e3, e4⟩ := sX4_letter hT e2 r2
                  refine ⟨_, ?_, e2.on⟩
                  show (gX4 (g + 1 + 1)).2.1 σ (nI o) = _
                  rw [xE σ0 σ D h, e1, Option.bind_some, if_neg (show ¬ jb 1 = 0 by decide), e3, Option.bind_some, if_pos (show v = (41 : Int32) by rw [show (v = (41 : Int32)) = (cL W t p2 = 41) from e4.is 41 (by omega)]; exact c3), Option.bind_some, if_neg (show ¬ jb 1 = 0 by decide)]
                · obtain ⟨σ0', e0, k0⟩ := h.opens (by omega)
                  obtain ⟨σ1, e1, e2⟩ := y5 σ0 σ0' D (by omega) k0
                  dsimp only at e1
                  obtain ⟨v, e3, e4⟩ := sM_look hT e2.1 r2
                  refine ⟨_, ?_, e2.on.close⟩
                  rw [mE σ0 σ D h, e0, Option.bind_some, if_neg (show ¬ jb 1 = 0 by decide), e1, Option.bind_some, e2.2.1, if_pos (show (-1 : Int32) < 0 by decide), e3, Option.bind_some, if_pos (show v = (41 : Int32) by rw [show (v = (41 : Int32)) = (cL W t p2 = 41) from e4.is 41 (by omega)]; exact c3)]
              · refine ⟨p2, by omega, r2, Or.inr ⟨fun σ0 σ D hD h => ?_, fun σ0 σ D hD h => ?_⟩⟩
                · obtain ⟨σ1, e1, e2⟩ := y4 σ0 _ D (by omega) h.on
                  dsimp only at e1
                  obtain ⟨v, e3, e4⟩ := sX4_letter hT e2 r2
                  refine ⟨0, σ1, _, ?_, Or.inl rfl, e2⟩
                  show (gX4 (g + 1 + 1)).2.1 σ (nI o) = _
                  rw [xE σ0 σ D h, e1, Option.bind_some, if_neg (show ¬ jb 1 = 0 by decide), e3, Option.bind_some, if_neg (show ¬ v = (41 : Int32) by rw [show (v = (41 : Int32)) = (cL W t p2 = 41) from e4.is 41 (by omega)]; exact c3), Option.bind_some, if_pos (show jb 0 = 0 by decide)]
                · obtain ⟨σ0', e0, k0⟩ := h.opens (by omega)
                  obtain ⟨σ1, e1, e2⟩ := y5 σ0 σ0' D (by omega) k0
                  dsimp only at e1
                  obtain ⟨v, e3, e4⟩ := sM_look hT e2.1 r2
                  obtain ⟨σ2, e5, e6⟩ := e2.fault
                  refine ⟨σ2, _, ?_, e6, by rw [List.length_append]; omega⟩
                  rw [mE σ0 σ D h, e0, Option.bind_some, if_neg (show ¬ jb 1 = 0 by decide), e1, Option.bind_some, e2.2.1, if_pos (show (-1 : Int32) < 0 by decide), e3, Option.bind_some, if_neg (show ¬ v = (41 : Int32) by rw [show (v = (41 : Int32)) = (cL W t p2 = 41) from e4.is 41 (by omega)]; exact c3), e5]
                  rfl
            · refine ⟨p2, by omega, r2, Or.inr ⟨fun σ0 σ D hD h => ?_, fun σ0 σ D hD h => ?_⟩⟩
              · obtain ⟨r, σ1, D1, e1, e2, e3⟩ := y4 σ0 _ D (by omega) h.on
                dsimp only at e1
                refine ⟨0, σ1, D1, ?_, Or.inl rfl, e3⟩
                show (gX4 (g + 1 + 1)).2.1 σ (nI o) = _
                rw [xE σ0 σ D h, e1, Option.bind_some]
                rcases e2 with rfl | ⟨rfl, hd⟩
                · rw [if_pos (show jb 0 = 0 by decide), Option.bind_some, if_pos (show jb 0 = 0 by decide)]
                · obtain ⟨v, e4, e5⟩ := sX4_letter hT e3 r2
                  rw [if_neg (show ¬ jb 1 = 0 by decide), e4, Option.bind_some, if_neg (show ¬ v = (41 : Int32) by rw [show (v = (41 : Int32)) = (cL W t p2 = 41) from e5.is 41 (by omega)]; omega), Option.bind_some, if_pos (show jb 0 = 0 by decide)]
              · obtain ⟨σ0', e0, k0⟩ := h.opens (by omega)
                obtain ⟨σ1, n1, e1, e2, e3⟩ := y5 σ0 σ0' D (by omega) k0
                dsimp only at e1
                refine ⟨σ1, n1, ?_, e2, by omega⟩
                rw [mE σ0 σ D h, e0, Option.bind_some, if_neg (show ¬ jb 1 = 0 by decide), e1, Option.bind_some, e2.2.1, if_neg (show ¬ nI p2 < 0 from fun z => by have := nn_p r2 hW; rw [i_le] at this; rw [i_lt] at z; omega)]
          · refine ⟨p, Nat.le_refl _, hp, Or.inr ⟨fun σ0 σ D hD h => ⟨0, σ, D, ?_, Or.inl rfl, h⟩, fun σ0 σ D hD h => ?_⟩⟩
            · show (gX4 (g + 1 + 1)).2.1 σ (nI o) = _
              rw [sX_oper hT (by omega) hp h, if_neg a, if_neg nn, if_neg o6, if_neg c1, if_neg c2]
            · rw [sM_oper hT hp h, if_neg nn, if_neg c1, if_neg c2, bind_sm]
              obtain ⟨σ', e, q⟩ := m_nofig hT hp a (by omega) h
              exact ⟨σ', _, e, q, by omega⟩
      · have hpW : p < W := cL_lt (t := t) (fun z => by omega)
        refine ⟨p + 1, by omega, by omega, Or.inl ⟨[(2, i)], by simp, ⟨_, (jSeg.name i).mono (by omega)⟩, fun j hj => ?_, fun σ0 σ D hD h => ?_, fun σ0 σ D hD h => ?_⟩⟩
        · rw [List.mem_singleton.mp hj]; exact Or.inr (Or.inl ⟨rfl, hi⟩)
        · obtain ⟨σ', e, q⟩ := h.on.draw (jEnc (2, i)) (by omega)
          refine ⟨σ', ?_, q⟩
          show (gX4 (g + 1 + 1)).2.1 σ (nI o) = _
          rw [sX_oper hT (by omega) hp h, if_neg a, b1, if_pos (nI_nn (k := i) (by omega)).1, show (-1 : Int32) - nI i = jEnc (2, i) from rfl, e]
          rfl
        · obtain ⟨σ', e, q⟩ := h.step (a := 2) (b := i) (by omega) (by omega)
          refine ⟨_, ?_, q.on⟩
          rw [sM_oper hT hp h, b1, if_pos (nI_nn (k := i) (by omega)).1, show fX12_addStep σ (2 : Int32) (nI i) = some σ' from e]
          rfl
/-- a whole formula, nothing open -/
theorem r_whole {W : Nat} {t : Nat → Int32} (hT : tOk W t) : ∀ p, p ≤ W → rOut W t 0 p (fun σ => (gX4 jG).1 σ (nI 0) (nI 0)) (fun σ => (gX12p jG).2.2.2.2.2 σ) 36 := by
  intro p hp
  exact r_formula hT (o := 0) (d := 31) (g := 94) (m := 95) (fun p hp => r_operand hT 6 0 rfl 94 95 (by omega) (by omega) p hp) p hp
