/-! THE LAW: the levels of a formula -/
def lvl (c : Nat) : Int32 := if c = 37 then 4 else if c = 38 then 1 else if c = 42 then 4 else if c = 43 then 3 else if c = 45 then 3 else if c = 47 then 4 else if c = 60 then 2 else if c = 61 then 2 else if c = 62 then 2 else if c = 124 then 0 else -1
theorem sX4_levelOf {σ : jS} {v : Int32} {c : Nat} (h : lFX v c) : fX4_levelOf σ v = some (lvl c) := by
  unfold fX4_levelOf lvl
  simp only [show (v = (37 : Int32)) = (c = 37) from h.is 37 (by omega), show (v = (38 : Int32)) = (c = 38) from h.is 38 (by omega), show (v = (42 : Int32)) = (c = 42) from h.is 42 (by omega), show (v = (43 : Int32)) = (c = 43) from h.is 43 (by omega), show (v = (45 : Int32)) = (c = 45) from h.is 45 (by omega), show (v = (47 : Int32)) = (c = 47) from h.is 47 (by omega), show (v = (60 : Int32)) = (c = 60) from h.is 60 (by omega), show (v = (61 : Int32)) = (c = 61) from h.is 61 (by omega), show (v = (62 : Int32)) = (c = 62) from h.is 62 (by omega), show (v = (124 : Int32)) = (c = 124) from h.is 124 (by omega)]
  by_cases a1 : c = 37
  · rw [if_pos a1, if_pos a1]
  rw [if_neg a1, if_neg a1]
  by_cases a2 : c = 38
  · rw [if_pos a2, if_pos a2]
  rw [if_neg a2, if_neg a2]
  by_cases a3 : c = 42
  · rw [if_pos a3, if_pos a3]
  rw [if_neg a3, if_neg a3]
  by_cases a4 : c = 43
  · rw [if_pos a4, if_pos a4]
  rw [if_neg a4, if_neg a4]
  by_cases a5 : c = 45
  · rw [if_pos a5, if_pos a5]
  rw [if_neg a5, if_neg a5]
  by_cases a6 : c = 47
  · rw [if_pos a6, if_pos a6]
  rw [if_neg a6, if_neg a6]
  by_cases a7 : c = 60
  · rw [if_pos a7, if_pos a7]
  rw [if_neg a7, if_neg a7]
  by_cases a8 : c = 61
  · rw [if_pos a8, if_pos a8]
  rw [if_neg a8, if_neg a8]
  by_cases a9 : c = 62
  · rw [if_pos a9, if_pos a9]
  rw [if_neg a9, if_neg a9]
  by_cases a0 : c = 124
  · rw [if_pos a0, if_pos a0]
  rw [if_neg a0, if_neg a0]
theorem lvl_no {c : Nat} (h : ¬ jOpr c) : lvl c = -1 := by
  unfold lvl
  rw [if_neg (fun z => h (by omega)), if_neg (fun z => h (by omega)), if_neg (fun z => h (by omega)), if_neg (fun z => h (by omega)), if_neg (fun z => h (by omega)), if_neg (fun z => h (by omega)), if_neg (fun z => h (by omega)), if_neg (fun z => h (by omega)), if_neg (fun z => h (by omega)), if_neg (fun z => h (by omega))]
theorem lvl_opr {c l : Nat} (h : lvl c = nI l) (hl : l < 5) : jOpr c := by
  by_cases a : jOpr c
  · exact a
  · rw [lvl_no a] at h
    exact absurd h.symm (nI_nn (by omega)).2
theorem lvl_dgt {c l : Nat} (h : dgt c) (hl : l < 5) : ¬ lvl c = nI l := fun z => by
  have := lvl_opr z hl
  omega
theorem lvl_200 {l : Nat} (hl : l < 5) : ¬ lvl 200 = nI l := fun z => by
  have := lvl_opr z hl
  omega
theorem jEnc_op {c : Nat} (h : jOpr c) : jEnc (c, 0) = nI c := by
  unfold jEnc
  show (if c = 1 then nI (256 + 0) else if c = 2 then -1 - nI 0 else if c = 3 then 33 else if c = 4 then 126 else nI c) = _
  rw [if_neg (by omega), if_neg (by omega), if_neg (by omega), if_neg (by omega)]
def tYes (W : Nat) (t : Nat → Int32) (o p : Nat) (X : jS → Option (Int32 × jS)) (M : jS → Option jS) (d p' : Nat) (A C : List (Nat × Nat)) : Prop := C.length ≤ p' - p ∧ (∃ f, jSeg (A ++ C) d f) ∧ (∀ i ∈ C, jGood i) ∧ (∀ σ0 σ D, D.length ≤ p → xS W t σ0 σ p D → ∃ σ', X σ = some (1, σ') ∧ xS W t σ0 σ' p' (D ++ C.map jEnc)) ∧ (∀ σ0 σ D, D.length ≤ p → mS W t σ0 σ p o D → ∃ σ', M σ = some σ' ∧ mS W t σ0 σ' p' o (D ++ C))
def tOut (W : Nat) (t : Nat → Int32) (o p : Nat) (X : jS → Option (Int32 × jS)) (M : jS → Option jS) (d : Nat) (A : List (Nat × Nat)) : Prop := ∃ p', p ≤ p' ∧ p' ≤ W ∧ ((∃ C, tYes W t o p X M d p' A C) ∨ rNo W t o p X M p')
/-- what the rest of a level does in the reference, one sign -/
def mSpec (W : Nat) (t : Nat → Int32) (l : Nat) (sub : jS → Option jS) (B : (jS → Option jS) → jS → Option jS) : Prop := (∀ s σ0 σ p n, mF W t σ0 σ p n → p ≤ W → B s σ = some σ) ∧ (∀ s σ0 σ p o D, mS W t σ0 σ p o D → p ≤ W → ¬ lvl (cL W t p) = nI l → B s σ = some σ) ∧ (∀ s σ0 σ p o D, mS W t σ0 σ p o D → p ≤ W → lvl (cL W t p) = nI l → B s σ = Option.bind (sub (ju σ 0 21 (σ.1 0 21 + 1))) fun q => Option.bind (fX12_addStep q (nI (cL W t p)) (nI 0)) s)
theorem sX_stop {W : Nat} {t : Nat → Int32} (hT : tOk W t) {l g k p : Nat} {o' : Int32} (hl : l < 5) {σ0 σ : jS} {D : List Int32} (h : xS W t σ0 σ p D) (hp : p ≤ W) (hk : k ≤ 2000) (hc : ¬ lvl (cL W t p) = nI l) (s : jS × Int32 → Option (Int32 × jS)) : fX4_readLevel_B26 (nI l) o' (gX4 g) s (σ, nI k) = some (1, σ) := by
  unfold fX4_readLevel_B26
  obtain ⟨v, e1, e2⟩ := sX4_letter hT h hp
  by_cases a : (120 : Int32) ≤ nI k
  · rw [if_pos a]
  · rw [if_neg a, e1, Option.bind_some, sX4_levelOf e2, Option.bind_some, if_neg hc]
theorem r_loop {W : Nat} {t : Nat → Int32} (hT : tOk W t) {o d l g : Nat} (hl : l < 5) (hl2 : ¬ l = 2) {sub : jS → Option jS} {B : (jS → Option jS) → jS → Option jS} (hs : ∀ p, p ≤ W → rOut W t o p (fun σ => (gX4 g).1 σ (nI (l + 1)) (nI o)) sub d) (hB : mSpec W t l sub B) : ∀ (n p k fx fm : Nat) (A : List (Nat × Nat)), W - p ≤ n → p ≤ W → k ≤ p → n + 2 < fx → n + 2 < fm → (∃ f, jSeg A (d + 1) f) → tOut W t o p (fun σ => jloop (fX4_readLevel_B26 (nI l) (nI o) (gX4 g)) fx (σ, nI k)) (fun σ => jloop B fm σ) (d + 1) A := by
  have hW := hT.1
  intro n
  induction n with
  | zero =>
    intro p k fx fm A hn hp hk hx hm hA
    obtain ⟨fx, rfl⟩ : ∃ z, fx = z + 1 := ⟨fx - 1, by omega⟩
    obtain ⟨fm, rfl⟩ : ∃ z, fm = z + 1 := ⟨fm - 1, by omega⟩
    have hc : cL W t p = 200 := by
      unfold cL
      rw [if_neg (fun z => by omega)]
    have hc2 : ¬ lvl (cL W t p) = nI l := by rw [hc]; exact lvl_200 hl
    refine ⟨p, Nat.le_refl _, hp, Or.inl ⟨[], Nat.zero_le _, by rw [List.append_nil]; exact hA, fun i hi => absurd hi (by simp), fun σ0 σ D hD h => ⟨σ, ?_, by rw [List.map_nil, List.append_nil]; exact h⟩, fun σ0 σ D hD h => ⟨σ, ?_, by rw [List.append_nil]; exact h⟩⟩⟩
    · exact sX_stop hT hl h hp (by omega) hc2 _
    · exact hB.2.1 _ σ0 σ p o D h hp hc2
  | succ n ih =>
    intro p k fx fm A hn hp hk hx hm hA
    obtain ⟨fx, rfl⟩ : ∃ z, fx = z + 1 := ⟨fx - 1, by omega⟩
    obtain ⟨fm, rfl⟩ : ∃ z, fm = z + 1 := ⟨fm - 1, by omega⟩
    by_cases hc2 : lvl (cL W t p) = nI l
    · have hop := lvl_opr hc2 hl
      have hpW : p < W := cL_lt (t := t) (fun z => by omega)
      have xstep : ∀ σ0 σ D, xS W t σ0 σ p D → ∀ s, fX4_readLevel_B26 (nI l) (nI o) (gX4 g) s (σ, nI k) = Option.bind ((gX4 g).1 (ju σ 7 2 (σ.1 7 2 + 1)) (nI (l + 1)) (nI o)) fun (q6 : (Int32 × jS)) => (if (jb q6.1) = 0 then (some ((0 : Int32), q6.2)) else (Option.bind (fX4_draw q6.2 (nI (cL W t p))) fun (q7 : jS) => (s (q7, nI (k + 1))))) := by
        intro σ0 σ D h s
        obtain ⟨v, e1, e2⟩ := sX4_letter hT h hp
        unfold fX4_readLevel_B26
        have ev : v = nI (cL W t p) := by
          rw [e2.is _ (by omega)]
        rw [if_neg (show ¬ (120 : Int32) ≤ nI k from fun z => by have := (nI_leI (a := 120) (by omega) (by omega)).mp z; omega), e1, Option.bind_some, sX4_levelOf e2, Option.bind_some, if_pos hc2, Option.bind_some, jst_e, nI_1, nI_1, ev]
        have hl2' : ¬ nI l = (2 : Int32) := fun z => hl2 ((nI_eq (b := 2) (by omega) (by omega)).mp z)
        simp only [if_neg hl2']
      obtain ⟨p2, r1, r2, r3⟩ := hs (p + 1) (by omega)
      rcases r3 with ⟨C2, y1, ⟨f2, y2⟩, y3, y4, y5⟩ | ⟨y4, y5⟩
      · obtain ⟨f1, hA1⟩ := hA
        obtain ⟨p3, s1, s2, s3⟩ := ih p2 (k + 1) fx fm (A ++ (C2 ++ [(cL W t p, 0)])) (by omega) r2 (by omega) (by omega) (by omega) ⟨_, jSeg.two hop hA1 y2⟩
        have xdo : ∀ σ0 σ D, D.length ≤ p → xS W t σ0 σ p D → ∃ σ2, jloop (fX4_readLevel_B26 (nI l) (nI o) (gX4 g)) (fx + 1) (σ, nI k) = jloop (fX4_readLevel_B26 (nI l) (nI o) (gX4 g)) fx (σ2, nI (k + 1)) ∧ xS W t σ0 σ2 p2 (D ++ (C2 ++ [(cL W t p, 0)]).map jEnc) := by
          intro σ0 σ D hD h
          obtain ⟨σ1, e1, e2⟩ := y4 σ0 _ D (by omega) h.on
          dsimp only at e1
          obtain ⟨σ2, e3, e4⟩ := e2.draw (nI (cL W t p)) (by rw [List.length_append, List.length_map]; omega)
          refine ⟨σ2, ?_, ?_⟩
          · rw [jloop_s, xstep σ0 σ D h, e1, Option.bind_some, if_neg (show ¬ jb 1 = 0 by decide), e3, Option.bind_some]
          · rw [List.map_append, ← List.append_assoc, List.map_cons, List.map_nil, jEnc_op hop]
            exact e4
        have mdo : ∀ σ0 σ D, D.length ≤ p → mS W t σ0 σ p o D → ∃ σ2, jloop B (fm + 1) σ = jloop B fm σ2 ∧ mS W t σ0 σ2 p2 o (D ++ (C2 ++ [(cL W t p, 0)])) := by
          intro σ0 σ D hD h
          obtain ⟨σ1, e1, e2⟩ := y5 σ0 _ D (by omega) h.on
          obtain ⟨σ2, e3, e4⟩ := e2.step (a := cL W t p) (b := 0) (by rw [List.length_append]; omega) (by omega)
          refine ⟨σ2, ?_, ?_⟩
          · rw [jloop_s, hB.2.2 _ σ0 σ p o D h hp hc2, e1, Option.bind_some, e3, Option.bind_some]
          · rw [← List.append_assoc]
            exact e4
        refine ⟨p3, by omega, s2, ?_⟩
        rcases s3 with ⟨C3, z1, z2, z3, z4, z5⟩ | ⟨z4, z5⟩
        · refine Or.inl ⟨(C2 ++ [(cL W t p, 0)]) ++ C3, ?_, ?_, ?_, fun σ0 σ D hD h => ?_, fun σ0 σ D hD h => ?_⟩
          · simp only [List.length_append, List.length_cons, List.length_nil]; omega
          · rw [← List.append_assoc]; exact z2
          · intro i hi
            rcases List.mem_append.mp hi with hi | hi
            · rcases List.mem_append.mp hi with hi | hi
              · exact y3 i hi
              · rw [List.mem_singleton.mp hi]
                exact Or.inr (Or.inr (Or.inr (Or.inr ⟨hop, rfl⟩)))
            · exact z3 i hi
          · obtain ⟨σ2, e1, e2⟩ := xdo σ0 σ D hD h
            obtain ⟨σ3, e3, e4⟩ := z4 σ0 σ2 _ (by simp only [List.length_append, List.length_map, List.length_cons, List.length_nil]; omega) e2
            refine ⟨σ3, e1.trans e3, ?_⟩
            rw [List.map_append, ← List.append_assoc]
            exact e4
          · obtain ⟨σ2, e1, e2⟩ := mdo σ0 σ D hD h
            obtain ⟨σ3, e3, e4⟩ := z5 σ0 σ2 _ (by simp only [List.length_append, List.length_cons, List.length_nil]; omega) e2
            refine ⟨σ3, e1.trans e3, ?_⟩
            rw [← List.append_assoc]
            exact e4
        · refine Or.inr ⟨fun σ0 σ D hD h => ?_, fun σ0 σ D hD h => ?_⟩
          · obtain ⟨σ2, e1, e2⟩ := xdo σ0 σ D hD h
            obtain ⟨r, σ3, D3, e3, e4⟩ := z4 σ0 σ2 _ (by simp only [List.length_append, List.length_map, List.length_cons, List.length_nil]; omega) e2
            exact ⟨r, σ3, D3, e1.trans e3, e4⟩
          · obtain ⟨σ2, e1, e2⟩ := mdo σ0 σ D hD h
            obtain ⟨σ3, n3, e3, e4, e5⟩ := z5 σ0 σ2 _ (by simp only [List.length_append, List.length_cons, List.length_nil]; omega) e2
            refine ⟨σ3, n3, e1.trans e3, e4, ?_⟩
            simp only [List.length_append, List.length_cons, List.length_nil] at e5
            omega
      · refine ⟨p2, by omega, r2, Or.inr ⟨fun σ0 σ D hD h => ?_, fun σ0 σ D hD h => ?_⟩⟩
        · obtain ⟨r, σ1, D1, e1, e2, e3⟩ := y4 σ0 _ D (by omega) h.on
          dsimp only at e1
          rcases e2 with rfl | ⟨rfl, hd⟩
          · refine ⟨0, σ1, D1, ?_, Or.inl rfl, e3⟩
            show jloop _ (fx + 1) (σ, nI k) = _
            rw [jloop_s, xstep σ0 σ D h, e1, Option.bind_some, if_pos (show jb 0 = 0 by decide)]
          · obtain ⟨σ2, D2, e4, e5⟩ := e3.drawAny (nI (cL W t p))
            refine ⟨1, σ2, D2, ?_, Or.inr ⟨rfl, hd⟩, e5⟩
            obtain ⟨fx, rfl⟩ : ∃ z, fx = z + 1 := ⟨fx - 1, by omega⟩
            show jloop _ (fx + 1 + 1) (σ, nI k) = _
            rw [jloop_s, xstep σ0 σ D h, e1, Option.bind_some, if_neg (show ¬ jb 1 = 0 by decide), e4, Option.bind_some, jloop_s]
            exact sX_stop hT hl e5 r2 (by omega) (lvl_dgt hd hl) _
        · obtain ⟨σ1, n1, e1, e2, e3⟩ := y5 σ0 _ D (by omega) h.on
          obtain ⟨σ2, e4, e5⟩ := e2.step (a := cL W t p) (b := nI 0) (by omega) (by omega)
          obtain ⟨fm, rfl⟩ : ∃ z, fm = z + 1 := ⟨fm - 1, by omega⟩
          refine ⟨σ2, n1 + 1, ?_, e5, by omega⟩
          show jloop B (fm + 1 + 1) σ = _
          rw [jloop_s, hB.2.2 _ σ0 σ p o D h hp hc2, e1, Option.bind_some, e4, Option.bind_some, jloop_s]
          exact hB.1 _ σ0 σ2 p2 _ e5 r2
    · refine ⟨p, Nat.le_refl _, hp, Or.inl ⟨[], Nat.zero_le _, by rw [List.append_nil]; exact hA, fun i hi => absurd hi (by simp), fun σ0 σ D hD h => ⟨σ, ?_, by rw [List.map_nil, List.append_nil]; exact h⟩, fun σ0 σ D hD h => ⟨σ, ?_, by rw [List.append_nil]; exact h⟩⟩⟩
      · exact sX_stop hT hl h hp (by omega) hc2 _
      · exact hB.2.1 _ σ0 σ p o D h hp hc2
/-- comparison: once -/
theorem r_once {W : Nat} {t : Nat → Int32} (hT : tOk W t) {o d g : Nat} {sub : jS → Option jS} {B : (jS → Option jS) → jS → Option jS} (hs : ∀ p, p ≤ W → rOut W t o p (fun σ => (gX4 g).1 σ (nI (2 + 1)) (nI o)) sub d) (hB : mSpec W t 2 sub B) {p fx : Nat} {A : List (Nat × Nat)} (hp : p ≤ W) (hA : ∃ f, jSeg A (d + 1) f) : tOut W t o p (fun σ => jloop (fX4_readLevel_B26 (nI 2) (nI o) (gX4 g)) (fx + 1) (σ, nI 0)) (fun σ => B some σ) (d + 1) A := by
  have hW := hT.1
  by_cases hc2 : lvl (cL W t p) = nI 2
  · have hop := lvl_opr hc2 (by omega)
    have hpW : p < W := cL_lt (t := t) (fun z => by omega)
    have xstep : ∀ σ0 σ D, xS W t σ0 σ p D → ∀ s, fX4_readLevel_B26 (nI 2) (nI o) (gX4 g) s (σ, nI 0) = Option.bind ((gX4 g).1 (ju σ 7 2 (σ.1 7 2 + 1)) (nI (2 + 1)) (nI o)) fun (q6 : (Int32 × jS)) => (if (jb q6.1) = 0 then (some ((0 : Int32), q6.2)) else (Option.bind (fX4_draw q6.2 (nI (cL W t p))) fun (q7 : jS) => (some ((1 : Int32), q7)))) := by
      intro σ0 σ D h s
      obtain ⟨v, e1, e2⟩ := sX4_letter hT h hp
      unfold fX4_readLevel_B26
      have ev : v = nI (cL W t p) := by
        rw [e2.is _ (by omega)]
      rw [if_neg (show ¬ (120 : Int32) ≤ nI 0 by decide), e1, Option.bind_some, sX4_levelOf e2, Option.bind_some, if_pos hc2, Option.bind_some, jst_e, nI_1, ev]
      simp only [if_pos (show nI 2 = (2 : Int32) from rfl)]
    obtain ⟨p2, r1, r2, r3⟩ := hs (p + 1) (by omega)
    rcases r3 with ⟨C2, y1, ⟨f2, y2⟩, y3, y4, y5⟩ | ⟨y4, y5⟩
    · obtain ⟨f1, hA1⟩ := hA
      refine ⟨p2, by omega, r2, Or.inl ⟨C2 ++ [(cL W t p, 0)], ?_, ⟨_, jSeg.two hop hA1 y2⟩, ?_, fun σ0 σ D hD h => ?_, fun σ0 σ D hD h => ?_⟩⟩
      · simp only [List.length_append, List.length_cons, List.length_nil]; omega
      · intro i hi
        rcases List.mem_append.mp hi with hi | hi
        · exact y3 i hi
        · rw [List.mem_singleton.mp hi]
          exact Or.inr (Or.inr (Or.inr (Or.inr ⟨hop, rfl⟩)))
      · obtain ⟨σ1, e1, e2⟩ := y4 σ0 _ D (by omega) h.on
        dsimp only at e1
        obtain ⟨σ2, e3, e4⟩ := e2.draw (nI (cL W t p)) (by rw [List.length_append, List.length_map]; omega)
        refine ⟨σ2, ?_, ?_⟩
        · show jloop _ (fx + 1) (σ, nI 0) = _
          rw [jloop_s, xstep σ0 σ D h, e1, Option.bind_some, if_neg (show ¬ jb 1 = 0 by decide), e3, Option.bind_some]
        · rw [List.map_append, ← List.append_assoc, List.map_cons, List.map_nil, jEnc_op hop]
          exact e4
      · obtain ⟨σ1, e1, e2⟩ := y5 σ0 _ D (by omega) h.on
        obtain ⟨σ2, e3, e4⟩ := e2.step (a := cL W t p) (b := 0) (by rw [List.length_append]; omega) (by omega)
        refine ⟨σ2, ?_, ?_⟩
        · show B some σ = _
          rw [hB.2.2 _ σ0 σ p o D h hp hc2, e1, Option.bind_some, e3, Option.bind_some]
        · rw [← List.append_assoc]
          exact e4
    · refine ⟨p2, by omega, r2, Or.inr ⟨fun σ0 σ D hD h => ?_, fun σ0 σ D hD h => ?_⟩⟩
      · obtain ⟨r, σ1, D1, e1, e2, e3⟩ := y4 σ0 _ D (by omega) h.on
        dsimp only at e1
        rcases e2 with rfl | ⟨rfl, hd⟩
        · refine ⟨0, σ1, D1, ?_, Or.inl rfl, e3⟩
          show jloop _ (fx + 1) (σ, nI 0) = _
          rw [jloop_s, xstep σ0 σ D h, e1, Option.bind_some, if_pos (show jb 0 = 0 by decide)]
        · obtain ⟨σ2, D2, e4, e5⟩ := e3.drawAny (nI (cL W t p))
          refine ⟨1, σ2, D2, ?_, Or.inr ⟨rfl, hd⟩, e5⟩
          show jloop _ (fx + 1) (σ, nI 0) = _
          rw [jloop_s, xstep σ0 σ D h, e1, Option.bind_some, if_neg (show ¬ jb 1 = 0 by decide), e4, Option.bind_some]
      · obtain ⟨σ1, n1, e1, e2, e3⟩ := y5 σ0 _ D (by omega) h.on
        obtain ⟨σ2, e4, e5⟩ := e2.step (a := cL W t p) (b := nI 0) (by omega) (by omega)
        refine ⟨σ2, n1 + 1, ?_, e5, by omega⟩
        show B some σ = _
        rw [hB.2.2 _ σ0 σ p o D h hp hc2, e1, Option.bind_some, e4, Option.bind_some]
  · refine ⟨p, Nat.le_refl _, hp, Or.inl ⟨[], Nat.zero_le _, by rw [List.append_nil]; exact hA, fun i hi => absurd hi (by simp), fun σ0 σ D hD h => ⟨σ, ?_, by rw [List.map_nil, List.append_nil]; exact h⟩, fun σ0 σ D hD h => ⟨σ, ?_, by rw [List.append_nil]; exact h⟩⟩⟩
    · exact sX_stop hT (by omega) h hp (by omega) hc2 _
    · exact hB.2.1 _ σ0 σ p o D h hp hc2
/-- a level: what is under it, then the rest -/
theorem r_level {W : Nat} {t : Nat → Int32} (hT : tOk W t) {o d l g : Nat} (hl : l < 5) {sub MT : jS → Option jS} (hs : ∀ p, p ≤ W → rOut W t o p (fun σ => (gX4 g).1 σ (nI (l + 1)) (nI o)) sub d) (hR : ∀ p A, p ≤ W → (∃ f, jSeg A (d + 1) f) → tOut W t o p (fun σ => jloop (fX4_readLevel_B26 (nI l) (nI o) (gX4 g)) jN (σ, nI 0)) MT (d + 1) A) (hF : ∀ σ0 σ p n, mF W t σ0 σ p n → p ≤ W → MT σ = some σ) : ∀ p, p ≤ W → rOut W t o p (fun σ => (gX4 (g + 1)).1 σ (nI l) (nI o)) (fun σ => Option.bind (sub σ) MT) (d + 1) := by
  have hW := hT.1
  intro p hp
  have ex : ∀ σ, (gX4 (g + 1)).1 σ (nI l) (nI o) = Option.bind ((gX4 g).1 σ (nI (l + 1)) (nI o)) fun (q1 : (Int32 × jS)) => (if (jb q1.1) = 0 then (some ((0 : Int32), q1.2)) else (jloop (fX4_readLevel_B26 (nI l) (nI o) (gX4 g)) jN (q1.2, nI 0))) := by
    intro σ
    show bX4_readLevel (gX4 g) σ (nI l) (nI o) = _
    unfold bX4_readLevel
    rw [if_pos (show nI l < (5 : Int32) from (nI_ltI (b := 5) (by omega) (by omega)).mpr hl), nI_1]
    rfl
  obtain ⟨p2, r1, r2, r3⟩ := hs p hp
  rcases r3 with ⟨C, y1, ⟨f, y2⟩, y3, y4, y5⟩ | ⟨y4, y5⟩
  · obtain ⟨p3, s1, s2, s3⟩ := hR p2 C r2 ⟨f, y2.mono (by omega)⟩
    refine ⟨p3, by omega, s2, ?_⟩
    rcases s3 with ⟨C3, z1, z2, z3, z4, z5⟩ | ⟨z4, z5⟩
    · refine Or.inl ⟨C ++ C3, ?_, z2, ?_, fun σ0 σ D hD h => ?_, fun σ0 σ D hD h => ?_⟩
      · simp only [List.length_append]; omega
      · intro i hi
        rcases List.mem_append.mp hi with hi | hi
        · exact y3 i hi
        · exact z3 i hi
      · obtain ⟨σ2, e1, e2⟩ := y4 σ0 σ D hD h
        dsimp only at e1
        obtain ⟨σ3, e3, e4⟩ := z4 σ0 σ2 _ (by simp only [List.length_append, List.length_map]; omega) e2
        refine ⟨σ3, ?_, ?_⟩
        · show (gX4 (g + 1)).1 σ (nI l) (nI o) = _
          rw [ex, e1, Option.bind_some, if_neg (show ¬ jb 1 = 0 by decide)]
          exact e3
        · rw [List.map_append, ← List.append_assoc]
          exact e4
      · obtain ⟨σ2, e1, e2⟩ := y5 σ0 σ D hD h
        obtain ⟨σ3, e3, e4⟩ := z5 σ0 σ2 _ (by simp only [List.length_append]; omega) e2
        refine ⟨σ3, ?_, ?_⟩
        · show Option.bind (sub σ) MT = _
          rw [e1, Option.bind_some]
          exact e3
        · rw [← List.append_assoc]
          exact e4
    · refine Or.inr ⟨fun σ0 σ D hD h => ?_, fun σ0 σ D hD h => ?_⟩
      · obtain ⟨σ2, e1, e2⟩ := y4 σ0 σ D hD h
        dsimp only at e1
        obtain ⟨r, σ3, D3, e3, e4⟩ := z4 σ0 σ2 _ (by simp only [List.length_append, List.length_map]; omega) e2
        refine ⟨r, σ3, D3, ?_, e4⟩
        show (gX4 (g + 1)).1 σ (nI l) (nI o) = _
        rw [ex, e1, Option.bind_some, if_neg (show ¬ jb 1 = 0 by decide)]
        exact e3
      · obtain ⟨σ2, e1, e2⟩ := y5 σ0 σ D hD h
        obtain ⟨σ3, n3, e3, e4, e5⟩ := z5 σ0 σ2 _ (by simp only [List.length_append]; omega) e2
        refine ⟨σ3, n3, ?_, e4, ?_⟩
        · show Option.bind (sub σ) MT = _
          rw [e1, Option.bind_some]
          exact e3
        · simp only [List.length_append] at e5
          omega
  · refine ⟨p2, r1, r2, Or.inr ⟨fun σ0 σ D hD h => ?_, fun σ0 σ D hD h => ?_⟩⟩
    · obtain ⟨r, σ1, D1, e1, e2, e3⟩ := y4 σ0 σ D hD h
      dsimp only at e1
      rcases e2 with rfl | ⟨rfl, hd⟩
      · refine ⟨0, σ1, D1, ?_, Or.inl rfl, e3⟩
        show (gX4 (g + 1)).1 σ (nI l) (nI o) = _
        rw [ex, e1, Option.bind_some, if_pos (show jb 0 = 0 by decide)]
      · refine ⟨1, σ1, D1, ?_, Or.inr ⟨rfl, hd⟩, e3⟩
        show (gX4 (g + 1)).1 σ (nI l) (nI o) = _
        obtain ⟨n, hn⟩ : ∃ n, jN = n + 1 := ⟨jN - 1, by have := jN_ge; omega⟩
        rw [ex, e1, Option.bind_some, if_neg (show ¬ jb 1 = 0 by decide), hn, jloop_s]
        exact sX_stop hT hl e3 r2 (by omega) (lvl_dgt hd hl) _
    · obtain ⟨σ1, n1, e1, e2, e3⟩ := y5 σ0 σ D hD h
      refine ⟨σ1, n1, ?_, e2, e3⟩
      show Option.bind (sub σ) MT = _
      rw [e1, Option.bind_some]
      exact hF σ0 σ1 p2 n1 e2 r2
