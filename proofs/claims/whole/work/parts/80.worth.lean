/-! THE LAW works: the class, all lines -/
def jval (env : Nat → Int32) (C : List (Nat × Nat)) : Int32 := match jrun env C [] with
  | some (v :: _) => v
  | _ => 0
def lvl2 (env : Nat → Int32) : jLs → Int32
  | [] => 0
  | L :: r => if ¬ L.1 = [] ∧ jval env L.1 = 0 then lvl2 env r else jval env L.2
theorem jSeg.val {C : List (Nat × Nat)} {f : (Nat → Int32) → Int32} (h : jSeg C 36 f) (env : Nat → Int32) : jrun env C [] = some [jval env C] := by
  have e := h env [] (by simp)
  unfold jval
  rw [e]
def cAt (F : Nat → Int32) (k : Nat) (X : List Int32) : Prop := ∀ j, j < X.length → F (k + j) = X.getD j 0
theorem cAt.l {F : Nat → Int32} {k : Nat} {A B : List Int32} (h : cAt F k (A ++ B)) : cAt F k A := fun j hj => by
  rw [h j (by rw [List.length_append]; omega)]
  simp [List.getD, List.getElem?_append_left hj]
theorem cAt.r {F : Nat → Int32} {k : Nat} {A B : List Int32} (h : cAt F k (A ++ B)) : cAt F (k + A.length) B := fun j hj => by
  have := h (A.length + j) (by rw [List.length_append]; omega)
  rw [show k + A.length + j = k + (A.length + j) by omega, this]
  simp [List.getD, List.getElem?_append_right]
theorem cAt.enc {F : Nat → Int32} {k : Nat} {C : List (Nat × Nat)} (h : cAt F k (C.map jEnc)) : ∀ j, j < C.length → F (k + j) = jEnc (C.getD j (0, 0)) := fun j hj => by
  rw [h j (by rw [List.length_map]; exact hj)]
  simp [List.getD, List.getElem?_eq_getElem hj]
theorem cAt.one {F : Nat → Int32} {k : Nat} {v : Int32} (h : cAt F k [v]) : F k = v := by
  have := h 0 (by simp)
  simpa using this
theorem cAt.cp {F G : Nat → Int32} {k : Nat} {X : List Int32} (h : cAt F k X) (e : G = F) : cAt G k X := by rw [e]; exact h
theorem wX_lines {N : Nat} {env : Nat → Int32} (hN : N ≤ 121) : ∀ (Ls : jLs) (k f : Nat) (σ : jS), k + (lnFX Ls).length = N → σ.1 7 6 = nI N → cAt (σ.1 10) k (lnFX Ls) → (∀ L ∈ Ls, jLin L) → (∀ j, j < 6 → σ.1 12 j = env j) → (lnFX Ls).length < f → ∃ σ', jloop fX4_worth_B6 f (σ, nI 0, 1, nI k) = some (lvl2 env Ls, σ') ∧ jOff [11] σ σ' := by
  intro Ls
  induction Ls with
  | nil =>
    intro k f σ hk h6 hc hg he hf
    obtain ⟨f, rfl⟩ : ∃ z, f = z + 1 := ⟨f - 1, by omega⟩
    have hk' : k = N := by simpa [lnFX] using hk
    subst hk'
    refine ⟨σ, ?_, jOff.rf⟩
    rw [jloop_s, fX4_worth_B6_eq]
    rw [if_pos (show σ.1 7 6 ≤ nI k by rw [h6]; exact Int32.le_refl _)]
    rfl
  | cons L r ih =>
    intro k f σ hk h6 hc hg he hf
    obtain ⟨C1, C2⟩ := L
    obtain ⟨g1, ⟨f2, g2⟩, g3, g4⟩ := hg (C1, C2) (by simp)
    dsimp only at g1 g2 g3 g4
    have eF : lnFX ((C1, C2) :: r) = lnXs (C1, C2) ++ lnFX r := by simp [lnFX]
    rw [eF] at hk hc hf
    rw [List.length_append] at hk hf
    have v2 := g2.val env
    -- the second piece and its end
    have tail : ∀ (k2 f' : Nat) (σ2 : jS) (c : Int32), k2 + (C2.length + 1) + (lnFX r).length = N → jOff [11] σ σ2 → cAt (σ.1 10) k2 ((C2.map jEnc ++ [59]) ++ lnFX r) → C2.length + 1 + (lnFX r).length < f' → ∃ σ', jloop fX4_worth_B6 f' (σ2, nI 0, c, nI k2) = some ((if c = 0 then lvl2 env r else jval env C2), σ') ∧ jOff [11] σ σ' := by
      intro k2 f' σ2 c hk2 ho hc2 hf'
      obtain ⟨f', rfl⟩ : ∃ z, f' = (z + 1) + C2.length := ⟨f' - 1 - C2.length, by omega⟩
      have hA := hc2.l
      obtain ⟨σ3, e1, e2, e3, e4⟩ := wX_run hN C2 k2 (f' + 1) σ2 c [] _ (by omega) (by rw [ho.1 7 (by decide)]; exact h6) g4 (by rw [ho.1 10 (by decide)]; exact hA.l.enc) (fun j hj => by rw [ho.1 12 (by decide)]; exact he j hj) (by simp) trivial v2
      have h59 : σ3.1 10 (k2 + C2.length) = nI 59 := by
        rw [e4.1 10 (by decide), ho.1 10 (by decide)]
        have := hA.r.one
        rw [List.length_map] at this
        exact this
      have key := wX_sign (s := jloop fX4_worth_B6 f') (c := c) (m := 1) (k := k2 + C2.length) (N := N) (by rw [e4.1 7 (by decide), ho.1 7 (by decide)]; exact h6) hN (by omega) (by omega) (by omega) (by omega) h59
      have e5 : jloop fX4_worth_B6 (f' + 1 + C2.length) (σ2, nI 0, c, nI k2) = fX4_worth_B6 (jloop fX4_worth_B6 f') (σ3, nI 1, c, nI (k2 + C2.length)) := e1
      rw [e5, key, if_pos rfl]
      by_cases z : c = 0
      · rw [if_pos z, if_pos z]
        have ho3 := ho.trans e4
        obtain ⟨σ4, q1, q2⟩ := ih (k2 + C2.length + 1) f' σ3 (by omega) (by rw [ho3.1 7 (by decide)]; exact h6) (by
          rw [ho3.1 10 (by decide)]
          have := hc2.r
          rw [List.length_append, List.length_map, List.length_singleton] at this
          exact this) (fun L hL => hg L (by simp [hL])) (fun j hj => by rw [ho3.1 12 (by decide)]; exact he j hj) (by omega)
        exact ⟨σ4, q1, ho3.trans q2⟩
      · rw [if_neg z, if_neg z]
        exact ⟨σ3, by rw [show σ3.1 11 (1 - 1) = jval env C2 from e2.1], ho.trans e4⟩
    by_cases z : C1 = []
    · subst z
      have eX : lnXs ([], C2) = C2.map jEnc ++ [59] := by
        unfold lnXs
        rw [if_pos rfl]
        rfl
      rw [eX] at hk hc hf
      simp only [List.length_append, List.length_map, List.length_singleton] at hk hf
      obtain ⟨σ', e1, e2⟩ := tail k f σ 1 (by omega) jOff.rf hc (by omega)
      refine ⟨σ', ?_, e2⟩
      rw [e1, if_neg (show ¬ (1 : Int32) = 0 by decide)]
      show some (jval env C2, σ') = some ((if ¬ ([] : List (Nat × Nat)) = [] ∧ jval env [] = 0 then lvl2 env r else jval env C2), σ')
      rw [if_neg (fun y => y.1 rfl)]
    · have eX : lnXs (C1, C2) = (C1.map jEnc ++ [63]) ++ (C2.map jEnc ++ [59]) := by
        unfold lnXs
        rw [if_neg z]
      rw [eX] at hk hc hf
      simp only [List.length_append, List.length_map, List.length_singleton] at hk hf
      rw [List.append_assoc] at hc
      obtain ⟨f1, g1⟩ : ∃ f, jSeg C1 36 f := by
        rcases g1 with g1 | g1
        · exact absurd g1 z
        · exact g1
      have v1 := g1.val env
      obtain ⟨f', rfl⟩ : ∃ z, f = (z + 1) + C1.length := ⟨f - 1 - C1.length, by omega⟩
      obtain ⟨σ3, e1, e2, e3, e4⟩ := wX_run hN C1 k (f' + 1) σ 1 [] _ (by omega) h6 g3 hc.l.l.enc he (by simp) trivial v1
      have h63 : σ3.1 10 (k + C1.length) = nI 63 := by
        rw [e4.1 10 (by decide)]
        have := hc.l.r.one
        rw [List.length_map] at this
        exact this
      have key := wX_sign (s := jloop fX4_worth_B6 f') (c := 1) (m := 1) (k := k + C1.length) (N := N) (by rw [e4.1 7 (by decide)]; exact h6) hN (by omega) (by omega) (by omega) (by omega) h63
      have e5 : jloop fX4_worth_B6 (f' + 1 + C1.length) (σ, nI 0, 1, nI k) = fX4_worth_B6 (jloop fX4_worth_B6 f') (σ3, nI 1, 1, nI (k + C1.length)) := e1
      rw [if_neg (by omega), if_pos rfl, show σ3.1 11 (1 - 1) = jval env C1 from e2.1] at key
      obtain ⟨σ', q1, q2⟩ := tail (k + C1.length + 1) f' σ3 (if jval env C1 = 0 then 0 else 1) (by omega) e4 (by
        have := hc.r
        rw [List.length_append, List.length_map, List.length_singleton] at this
        exact this) (by omega)
      refine ⟨σ', ?_, q2⟩
      rw [e5, key]
      show jloop fX4_worth_B6 f' (σ3, nI 0, (if jval env C1 = 0 then 0 else 1), nI (k + C1.length + 1)) = _
      rw [q1]
      show some ((if (if jval env C1 = 0 then (0 : Int32) else 1) = 0 then lvl2 env r else jval env C2), σ') = some ((if ¬ C1 = [] ∧ jval env C1 = 0 then lvl2 env r else jval env C2), σ')
      by_cases y : jval env C1 = 0
      · rw [if_pos y, if_pos rfl, if_pos ⟨z, y⟩]
      · rw [if_neg y, if_neg (show ¬ (1 : Int32) = 0 by decide), if_neg (fun w => y w.2)]
