/-! THE LAW: a line, both sides at once -/
def mFin (n : Nat) (a : jS) : Option jS := some (ju (ju a 17 (61 + n) (vp_nar .short ((a.1 0 24).toInt16.toInt32))) 15 1 (a.1 15 1 + 1))
theorem sM_line {W : Nat} {t : Nat → Int32} {σ0 σ : jS} {p : Nat} {Ls : jLs} {D : List (Nat × Nat)} {e : Int32} (h : mO W t σ0 σ p Ls D e) (hn : Ls.length ≤ 60) (hD : D.length ≤ 150) : fX12_line σ = Option.bind ((gX12p jG).2.2.2.2.2 (ju σ 16 (61 + Ls.length) (nI D.length))) (fun q2 => if 0 ≤ q2.1 0 22 then mFin Ls.length q2 else Option.bind (fX12_look q2) (fun q5 => if q5 = (63 : Int32) then Option.bind ((gX12p jG).2.2.2.2.2 (ju (ju q2 0 21 (q2.1 0 21 + 1)) 16 (61 + Ls.length) (vp_nar .short (((ju q2 0 21 (q2.1 0 21 + 1)).1 0 24).toInt16.toInt32)))) (mFin Ls.length) else mFin Ls.length q2)) := by
  have h1 : σ.1 15 1 = nI Ls.length := h.2.2.2.2.2.2.1
  have hJ : (fun (a66 : jS) => (ob ((61 : Int32) + (σ.1 15 ((1 : Int32)).toNatClampNeg)) 122 (jst (ju a66 17 (((61 : Int32) + (σ.1 15 ((1 : Int32)).toNatClampNeg))).toNatClampNeg (vp_nar .short ((a66.1 0 24).toInt16.toInt32))) fun (σ3 : jS) => (ob (1 : Int32) 2 (ob (1 : Int32) 2 (jst (ju σ3 15 ((1 : Int32)).toNatClampNeg ((σ3.1 15 ((1 : Int32)).toNatClampNeg) + (1 : Int32))) fun (σ4 : jS) => (some σ4))))))) = mFin Ls.length := funext fun a66 => sM_lineEnd hn h1
  unfold fX12_line
  rw [hJ]
  have c1 : (1 : Int32).toNatClampNeg = 1 := rfl
  have e61 : (61 : Int32) + nI Ls.length = nI (61 + Ls.length) := by
    show nI 61 + nI _ = _
    rw [nI_add]
  have o1 : ∀ {o : Option jS}, ob (1 : Int32) 2 o = o := fun {o} => ob_c 1 2 rfl (by omega) (by omega)
  have o2 : ∀ {o : Option jS}, ob (nI (61 + Ls.length)) 122 o = o := fun {o} => ob_nI (by omega) (by omega)
  simp only [c1, h1, e61, o1, o2, nI_cl (show 61 + Ls.length < 2 ^ 31 by omega), jst_e, jlet_e, h.2.2.2.2.1, nar_s (show D.length < 200 by omega)]
theorem mX.fin {W : Nat} {t : Nat → Int32} {σ0 σ : jS} {p n : Nat} (h : mX W t σ0 σ p) : ∃ σ', mFin n σ = some σ' ∧ mX W t σ0 σ' p := by
  refine ⟨_, rfl, (h.1.g (by omega)).g (by omega), ?_, ?_⟩
  · rw [ju_n (by decide), ju_n (by decide)]; exact h.2.1
  · rw [ju_n (by decide), ju_n (by decide)]; exact h.2.2
theorem mO.finish {W : Nat} {t : Nat → Int32} {σ0 σ : jS} {p : Nat} {Ls : jLs} {L : List (Nat × Nat) × List (Nat × Nat)} (h : mO W t σ0 σ p Ls (lFlat Ls ++ (L.1 ++ L.2)) (nI ((lFlat Ls).length + L.1.length))) (hl : (lFlat Ls ++ (L.1 ++ L.2)).length < 200) : ∃ σ' e, mFin Ls.length σ = some σ' ∧ mO W t σ0 σ' p (Ls ++ [L]) (lFlat (Ls ++ [L])) e := by
  obtain ⟨e, k⟩ := h.fin
  refine ⟨_, e, ?_, k⟩
  unfold mFin
  rw [h.2.2.2.2.1, h.2.2.2.2.2.2.1, nar_s hl, nI_1]
theorem xS.fin59 {W : Nat} {t : Nat → Int32} {σ0 σ : jS} {p : Nat} {D : List Int32} (h : xS W t σ0 σ p D) : ∃ σ' D', (Option.bind (fX4_draw σ (59 : Int32)) fun (q3 : jS) => (some ((1 : Int32), q3))) = some (1, σ') ∧ xS W t σ0 σ' p D' := by
  obtain ⟨σ', D', e, k⟩ := h.drawAny 59
  exact ⟨σ', D', by rw [e]; rfl, k⟩
theorem r_line {W : Nat} {t : Nat → Int32} (hT : tOk W t) {p : Nat} (hp : p ≤ W) : ∃ p', p ≤ p' ∧ p' ≤ W ∧ ((∃ L, jLin L ∧ p < p' ∧ (L.1 ++ L.2).length ≤ p' - p ∧ (lnXs L).length ≤ p' - p + 1 ∧ (∀ σ0 σ D, D.length ≤ p → xS W t σ0 σ p D → ∃ σ', fX4_readLine σ = some (1, σ') ∧ xS W t σ0 σ' p' (D ++ lnXs L)) ∧ (∀ σ0 σ Ls e, (lFlat Ls).length ≤ p → Ls.length ≤ 60 → mO W t σ0 σ p Ls (lFlat Ls) e → ∃ σ' e', fX12_line σ = some σ' ∧ mO W t σ0 σ' p' (Ls ++ [L]) (lFlat (Ls ++ [L])) e')) ∨ ((∀ σ0 σ D, D.length ≤ p → xS W t σ0 σ p D → ∃ r σ' D', fX4_readLine σ = some (r, σ') ∧ (r = 0 ∨ (r = 1 ∧ dgt (cL W t p'))) ∧ xS W t σ0 σ' p' D') ∧ (∀ σ0 σ Ls e, (lFlat Ls).length ≤ p → Ls.length ≤ 60 → mO W t σ0 σ p Ls (lFlat Ls) e → ∃ σ', fX12_line σ = some σ' ∧ mX W t σ0 σ' p'))) := by
  have hW := hT.1
  have xL : ∀ σ, fX4_readLine σ = Option.bind ((gX4 jG).1 σ (nI 0) (nI 0)) (fun (q1 : (Int32 × jS)) => if (jb q1.1) = 0 then some ((0 : Int32), q1.2) else Option.bind (fX4_letter q1.2) (fun (q2 : Int32) => if q2 = (63 : Int32) then Option.bind (fX4_draw (ju q1.2 7 2 ((q1.2.1 7 2) + (1 : Int32))) (63 : Int32)) (fun (q5 : jS) => Option.bind ((gX4 jG).1 q5 (nI 0) (nI 0)) (fun (q6 : (Int32 × jS)) => if (jb q6.1) = 0 then some ((0 : Int32), q6.2) else (Option.bind (fX4_draw q6.2 (59 : Int32)) fun (q3 : jS) => (some ((1 : Int32), q3))))) else (Option.bind (fX4_draw q1.2 (59 : Int32)) fun (q3 : jS) => (some ((1 : Int32), q3))))) := fun σ => rfl
  obtain ⟨p1, r1, r2, r3⟩ := r_whole hT p hp
  rcases r3 with ⟨C, y1, ⟨f, y2⟩, y3, y4, y5⟩ | ⟨y4, y5⟩
  · have hC := len_pos (y2.ne (by omega))
    by_cases c : cL W t p1 = 63
    · have hp1W : p1 < W := cL_lt (t := t) (fun z => by omega)
      have xdo : ∀ σ0 σ D, D.length ≤ p → xS W t σ0 σ p D → ∃ σ2, xS W t σ0 σ2 (p1 + 1) (D ++ (C.map jEnc ++ [63])) ∧ fX4_readLine σ = Option.bind ((gX4 jG).1 σ2 (nI 0) (nI 0)) (fun (q6 : (Int32 × jS)) => if (jb q6.1) = 0 then some ((0 : Int32), q6.2) else (Option.bind (fX4_draw q6.2 (59 : Int32)) fun (q3 : jS) => (some ((1 : Int32), q3)))) := by
        intro σ0 σ D hD h
        obtain ⟨σ1, e1, e2⟩ := y4 σ0 σ D hD h
        dsimp only at e1
        obtain ⟨v, e3, e4⟩ := sX4_letter hT e2 r2
        obtain ⟨σ2, e5, e6⟩ := e2.on.draw 63 (by rw [List.length_append, List.length_map]; omega)
        refine ⟨σ2, by rw [← List.append_assoc]; exact e6, ?_⟩
        rw [xL, e1, Option.bind_some, if_neg (show ¬ jb 1 = 0 by decide), e3, Option.bind_some, if_pos (show v = (63 : Int32) by rw [show (v = (63 : Int32)) = (cL W t p1 = 63) from e4.is 63 (by omega)]; exact c), e5, Option.bind_some]
      have mdo : ∀ σ0 σ Ls e, (lFlat Ls).length ≤ p → Ls.length ≤ 60 → mO W t σ0 σ p Ls (lFlat Ls) e → ∃ σ2, mO W t σ0 σ2 (p1 + 1) Ls (lFlat Ls ++ C) (nI ((lFlat Ls).length + C.length)) ∧ fX12_line σ = Option.bind ((gX12p jG).2.2.2.2.2 σ2) (mFin Ls.length) := by
        intro σ0 σ Ls e hD hn h
        have k1 := h.at16 (v := nI (lFlat Ls).length)
        obtain ⟨σ1, e1, e2⟩ := y5 _ _ _ hD k1.st
        dsimp only at e1
        have k2 := k1.run e2
        obtain ⟨v, e3, e4⟩ := sM_look hT e2.1 r2
        refine ⟨_, k2.on.at16, ?_⟩
        rw [sM_line h hn (by omega), e1, Option.bind_some, e2.2.1, if_neg (show ¬ (0 : Int32) ≤ -1 by decide), e3, Option.bind_some, if_pos (show v = (63 : Int32) by rw [show (v = (63 : Int32)) = (cL W t p1 = 63) from e4.is 63 (by omega)]; exact c), k2.on.2.2.2.2.1, nar_s (by rw [List.length_append]; omega), List.length_append]
      obtain ⟨p2, s1, s2, s3⟩ := r_whole hT (p1 + 1) (by omega)
      rcases s3 with ⟨C2, z1, ⟨f2, z2⟩, z3, z4, z5⟩ | ⟨z4, z5⟩
      · have hC2 := len_pos (z2.ne (by omega))
        have eX : lnXs (C, C2) = (C.map jEnc ++ [63]) ++ (C2.map jEnc ++ [59]) := by
          unfold lnXs
          rw [if_neg (y2.ne (by omega))]
        refine ⟨p2, by omega, s2, Or.inl ⟨(C, C2), ⟨Or.inr ⟨f, y2⟩, ⟨f2, z2⟩, y3, z3⟩, by omega, ?_, ?_, fun σ0 σ D hD h => ?_, fun σ0 σ Ls e hD hn h => ?_⟩⟩
        · simp only [List.length_append]; omega
        · rw [eX]; simp only [List.length_append, List.length_map, List.length_cons, List.length_nil]; omega
        · obtain ⟨σ2, e1, e2⟩ := xdo σ0 σ D hD h
          obtain ⟨σ3, e3, e4⟩ := z4 σ0 σ2 _ (by simp only [List.length_append, List.length_map, List.length_cons, List.length_nil]; omega) e1
          dsimp only at e3
          obtain ⟨σ4, e5, e6⟩ := e4.draw 59 (by simp only [List.length_append, List.length_map, List.length_cons, List.length_nil]; omega)
          refine ⟨σ4, ?_, ?_⟩
          · rw [e2, e3, Option.bind_some, if_neg (show ¬ jb 1 = 0 by decide), e5]
            rfl
          · rw [eX, ← List.append_assoc, ← List.append_assoc]
            exact e6
        · obtain ⟨σ2, e1, e2⟩ := mdo σ0 σ Ls e hD hn h
          obtain ⟨σ3, e3, e4⟩ := z5 _ σ2 _ (by rw [List.length_append]; omega) e1.st
          dsimp only at e3
          have k := e1.run e4
          rw [List.append_assoc] at k
          obtain ⟨σ4, e5, e6, e7⟩ := mO.finish (L := (C, C2)) k (by simp only [List.length_append]; omega)
          exact ⟨σ4, e5, by rw [e2, e3, Option.bind_some, e6], e7⟩
      · refine ⟨p2, by omega, s2, Or.inr ⟨fun σ0 σ D hD h => ?_, fun σ0 σ Ls e hD hn h => ?_⟩⟩
        · obtain ⟨σ2, e1, e2⟩ := xdo σ0 σ D hD h
          obtain ⟨r, σ3, D3, e3, e4, e5⟩ := z4 σ0 σ2 _ (by simp only [List.length_append, List.length_map, List.length_cons, List.length_nil]; omega) e1
          dsimp only at e3
          rcases e4 with rfl | ⟨rfl, hd⟩
          · exact ⟨0, σ3, D3, by rw [e2, e3, Option.bind_some, if_pos (show jb 0 = 0 by decide)], Or.inl rfl, e5⟩
          · obtain ⟨σ4, D4, e6, e7⟩ := e5.fin59
            exact ⟨1, σ4, D4, by rw [e2, e3, Option.bind_some, if_neg (show ¬ jb 1 = 0 by decide), e6], Or.inr ⟨rfl, hd⟩, e7⟩
        · obtain ⟨σ2, e1, e2⟩ := mdo σ0 σ Ls e hD hn h
          obtain ⟨σ3, n3, e3, e4, e5⟩ := z5 _ σ2 _ (by rw [List.length_append]; omega) e1.st
          dsimp only at e3
          obtain ⟨σ4, e6, e7⟩ := (e1.no e4).fin (n := Ls.length)
          exact ⟨σ4, by rw [e2, e3, Option.bind_some, e6], e7⟩
    · have eX : lnXs ([], C) = C.map jEnc ++ [59] := by
        unfold lnXs
        rw [if_pos rfl]
        rfl
      refine ⟨p1, r1, r2, Or.inl ⟨([], C), ⟨Or.inl rfl, ⟨f, y2⟩, fun i hi => absurd hi (by simp), y3⟩, by omega, ?_, ?_, fun σ0 σ D hD h => ?_, fun σ0 σ Ls e hD hn h => ?_⟩⟩
      · show ([] ++ C).length ≤ _
        rw [List.nil_append]; exact y1
      · rw [eX]; simp only [List.length_append, List.length_map, List.length_cons, List.length_nil]; omega
      · obtain ⟨σ1, e1, e2⟩ := y4 σ0 σ D hD h
        dsimp only at e1
        obtain ⟨v, e3, e4⟩ := sX4_letter hT e2 r2
        obtain ⟨σ2, e5, e6⟩ := e2.draw 59 (by rw [List.length_append, List.length_map]; omega)
        refine ⟨σ2, ?_, by rw [eX, ← List.append_assoc]; exact e6⟩
        rw [xL, e1, Option.bind_some, if_neg (show ¬ jb 1 = 0 by decide), e3, Option.bind_some, if_neg (show ¬ v = (63 : Int32) by rw [show (v = (63 : Int32)) = (cL W t p1 = 63) from e4.is 63 (by omega)]; exact c), e5]
        rfl
      · have k1 := h.at16 (v := nI (lFlat Ls).length)
        obtain ⟨σ1, e1, e2⟩ := y5 _ _ _ hD k1.st
        dsimp only at e1
        have k2 := k1.run e2
        obtain ⟨v, e3, e4⟩ := sM_look hT e2.1 r2
        obtain ⟨σ4, e5, e6, e7⟩ := mO.finish (L := ([], C)) k2 (by simp only [List.length_append, List.length_nil]; omega)
        refine ⟨σ4, e5, ?_, e7⟩
        rw [sM_line h hn (by omega), e1, Option.bind_some, e2.2.1, if_neg (show ¬ (0 : Int32) ≤ -1 by decide), e3, Option.bind_some, if_neg (show ¬ v = (63 : Int32) by rw [show (v = (63 : Int32)) = (cL W t p1 = 63) from e4.is 63 (by omega)]; exact c), e6]
  · refine ⟨p1, r1, r2, Or.inr ⟨fun σ0 σ D hD h => ?_, fun σ0 σ Ls e hD hn h => ?_⟩⟩
    · obtain ⟨r, σ1, D1, e1, e2, e3⟩ := y4 σ0 σ D hD h
      dsimp only at e1
      rcases e2 with rfl | ⟨rfl, hd⟩
      · exact ⟨0, σ1, D1, by rw [xL, e1, Option.bind_some, if_pos (show jb 0 = 0 by decide)], Or.inl rfl, e3⟩
      · obtain ⟨v, e4, e5⟩ := sX4_letter hT e3 r2
        obtain ⟨σ4, D4, e6, e7⟩ := e3.fin59
        exact ⟨1, σ4, D4, by rw [xL, e1, Option.bind_some, if_neg (show ¬ jb 1 = 0 by decide), e4, Option.bind_some, if_neg (show ¬ v = (63 : Int32) by rw [show (v = (63 : Int32)) = (cL W t p1 = 63) from e5.is 63 (by omega)]; omega), e6], Or.inr ⟨rfl, hd⟩, e7⟩
    · have k1 := h.at16 (v := nI (lFlat Ls).length)
      obtain ⟨σ1, n1, e1, e2, e3⟩ := y5 _ _ _ hD k1.st
      dsimp only at e1
      obtain ⟨σ4, e6, e7⟩ := (k1.no e2).fin (n := Ls.length)
      exact ⟨σ4, by rw [sM_line h hn (by omega), e1, Option.bind_some, e2.2.1, if_pos (nn_p r2 hW), e6], e7⟩
