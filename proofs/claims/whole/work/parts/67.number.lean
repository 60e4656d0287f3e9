/-! THE LAW: what a piece of the text gives, on both sides at once -/
def jGood (i : Nat × Nat) : Prop := (i.1 = 1 ∧ i.2 < 10000) ∨ (i.1 = 2 ∧ i.2 < 6) ∨ (i = (3, 0)) ∨ (i = (4, 0)) ∨ (jOpr i.1 ∧ i.2 = 0)
def rYes (W : Nat) (t : Nat → Int32) (o p : Nat) (X : jS → Option (Int32 × jS)) (M : jS → Option jS) (d p' : Nat) (C : List (Nat × Nat)) : Prop := C.length ≤ p' - p ∧ (∃ f, jSeg C d f) ∧ (∀ i ∈ C, jGood i) ∧ (∀ σ0 σ D, D.length ≤ p → xS W t σ0 σ p D → ∃ σ', X σ = some (1, σ') ∧ xS W t σ0 σ' p' (D ++ C.map jEnc)) ∧ (∀ σ0 σ D, D.length ≤ p → mS W t σ0 σ p o D → ∃ σ', M σ = some σ' ∧ mS W t σ0 σ' p' o (D ++ C))
def rNo (W : Nat) (t : Nat → Int32) (o p : Nat) (X : jS → Option (Int32 × jS)) (M : jS → Option jS) (p' : Nat) : Prop := (∀ σ0 σ D, D.length ≤ p → xS W t σ0 σ p D → ∃ r σ' D', X σ = some (r, σ') ∧ (r = 0 ∨ (r = 1 ∧ dgt (cL W t p'))) ∧ xS W t σ0 σ' p' D') ∧ (∀ σ0 σ D, D.length ≤ p → mS W t σ0 σ p o D → ∃ σ' n, M σ = some σ' ∧ mF W t σ0 σ' p' n ∧ n ≤ D.length + (p' - p) + 1)
def rOut (W : Nat) (t : Nat → Int32) (o p : Nat) (X : jS → Option (Int32 × jS)) (M : jS → Option jS) (d : Nat) : Prop := ∃ p', p ≤ p' ∧ p' ≤ W ∧ ((∃ C, rYes W t o p X M d p' C) ∨ rNo W t o p X M p')
theorem figL {W : Nat} {t : Nat → Int32} (hT : tOk W t) : ∀ (e p n cnt : Nat), cnt + e = 4 → p ≤ W → n < 10 ^ cnt → ∃ p' n' cnt', p' + cnt = p + cnt' ∧ cnt ≤ cnt' ∧ cnt' ≤ 4 ∧ p' ≤ W ∧ (cnt' = 4 ∨ ¬ dgt (cL W t p')) ∧ (dgt (cL W t p) → cnt < 4 → cnt < cnt') ∧ (¬ dgt (cL W t p) → cnt' = cnt) ∧ n' < 10 ^ cnt' ∧ (∀ σ0 σ D j f, e < f → xS W t σ0 σ p D → ∃ σ', jloop (fX4_readNumber_B4 j) f (σ, nI n, nI cnt) = j (σ', nI n') ∧ xS W t σ0 σ' p' D) ∧ (∀ σ0 σ o D j f, e < f → mS W t σ0 σ p o D → ∃ σ', jloop (fX12_figure_B4 j) f (σ, nI n, nI cnt) = j (σ', nI n', nI cnt') ∧ mS W t σ0 σ' p' o D) := by
  intro e
  induction e with
  | zero =>
    intro p n cnt hc hp hn
    obtain rfl : cnt = 4 := by omega
    refine ⟨p, n, 4, rfl, Nat.le_refl _, Nat.le_refl _, hp, Or.inl rfl, fun _ z => by omega, fun _ => rfl, hn, fun σ0 σ D j f hf h => ?_, fun σ0 σ o D j f hf h => ?_⟩
    · obtain ⟨f, rfl⟩ : ∃ g, f = g + 1 := ⟨f - 1, by omega⟩
      rw [jloop_s]
      unfold fX4_readNumber_B4
      rw [if_pos (show (4 : Int32) ≤ nI 4 by decide)]
      exact ⟨σ, rfl, h⟩
    · obtain ⟨f, rfl⟩ : ∃ g, f = g + 1 := ⟨f - 1, by omega⟩
      rw [jloop_s]
      unfold fX12_figure_B4
      rw [if_pos (show (4 : Int32) ≤ nI 4 by decide)]
      exact ⟨σ, rfl, h⟩
  | succ e ih =>
    intro p n cnt hc hp hn
    have hW := hT.1
    have hcnt : cnt < 4 := by omega
    have hn4 : n < 1000 := by
      have : 10 ^ cnt ≤ 10 ^ 3 := Nat.pow_le_pow_right (by decide) (by omega)
      omega
    by_cases a : dgt (cL W t p)
    · have hpW : p < W := cL_lt (t := t) (fun z => by omega)
      obtain ⟨p', n', cnt', q1, q2, q3, q4, q5, q6, q7, q8, q9, q10⟩ := ih (p + 1) (n * 10 + (cL W t p - 48)) (cnt + 1) (by omega) (by omega) (by rw [Nat.pow_succ]; generalize 10 ^ cnt = P at hn ⊢; omega)
      have ev : ∀ c, dgt c → nI n * (10 : Int32) + nI c - (48 : Int32) = nI (n * 10 + (c - 48)) := fun c hc => by
        show nI n * nI 10 + nI c - nI 48 = _
        rw [pk_mul, nI_add, pk_sub (by omega)]
        congr 1
        omega
      have ev' : ∀ c, dgt c → (10 : Int32) * nI n + nI c - (48 : Int32) = nI (n * 10 + (c - 48)) := fun c hc => by
        show nI 10 * nI n + nI c - nI 48 = _
        rw [pk_mul, nI_add, pk_sub (by omega)]
        congr 1
        omega
      refine ⟨p', n', cnt', by omega, by omega, q3, q4, q5, fun _ _ => by omega, fun z => absurd a z, q8, fun σ0 σ D j f hf h => ?_, fun σ0 σ o D j f hf h => ?_⟩
      · obtain ⟨f, rfl⟩ : ∃ g, f = g + 1 := ⟨f - 1, by omega⟩
        obtain ⟨v, e1, e2⟩ := sX4_letter hT h hp
        obtain ⟨σ', e3, e4⟩ := q9 σ0 _ D j f (by omega) h.on
        rw [jloop_s]
        obtain ⟨K, hK⟩ : ∃ K, K = jloop (fX4_readNumber_B4 j) f := ⟨_, rfl⟩
        rw [← hK] at e3 ⊢
        unfold fX4_readNumber_B4
        rw [if_neg (show ¬ (4 : Int32) ≤ nI cnt from fun z => by have := (nI_leI (a := 4) (by omega) (by omega)).mp z; omega), e1, Option.bind_some, sX4_digit e2, Option.bind_some]
        simp only [jb_jo]
        rw [if_neg (fun z => z a), Option.bind_some, jst_e, e2.dg a, ev _ a, nI_1]
        exact ⟨σ', e3, e4⟩
      · obtain ⟨f, rfl⟩ : ∃ g, f = g + 1 := ⟨f - 1, by omega⟩
        obtain ⟨v, e1, e2⟩ := sM_look hT h.1 hp
        obtain ⟨σ', e3, e4⟩ := q10 σ0 _ o D j f (by omega) h.on
        rw [jloop_s]
        obtain ⟨K, hK⟩ : ∃ K, K = jloop (fX12_figure_B4 j) f := ⟨_, rfl⟩
        rw [← hK] at e3 ⊢
        unfold fX12_figure_B4
        rw [if_neg (show ¬ (4 : Int32) ≤ nI cnt from fun z => by have := (nI_leI (a := 4) (by omega) (by omega)).mp z; omega), e1, Option.bind_some, sM_digit e2, Option.bind_some]
        simp only [jb_jo]
        rw [if_neg (fun z => z a), Option.bind_some, jst_e, e2.dg a, ev' _ a, nI_1]
        exact ⟨σ', e3, e4⟩
    · refine ⟨p, n, cnt, rfl, Nat.le_refl _, by omega, hp, Or.inr a, fun z => absurd z a, fun _ => rfl, hn, fun σ0 σ D j f hf h => ?_, fun σ0 σ o D j f hf h => ?_⟩
      · obtain ⟨f, rfl⟩ : ∃ g, f = g + 1 := ⟨f - 1, by omega⟩
        obtain ⟨v, e1, e2⟩ := sX4_letter hT h hp
        rw [jloop_s]
        unfold fX4_readNumber_B4
        rw [if_neg (show ¬ (4 : Int32) ≤ nI cnt from fun z => by have := (nI_leI (a := 4) (by omega) (by omega)).mp z; omega), e1, Option.bind_some, sX4_digit e2, Option.bind_some]
        simp only [jb_jo]
        rw [if_pos a]
        exact ⟨σ, rfl, h⟩
      · obtain ⟨f, rfl⟩ : ∃ g, f = g + 1 := ⟨f - 1, by omega⟩
        obtain ⟨v, e1, e2⟩ := sM_look hT h.1 hp
        rw [jloop_s]
        unfold fX12_figure_B4
        rw [if_neg (show ¬ (4 : Int32) ≤ nI cnt from fun z => by have := (nI_leI (a := 4) (by omega) (by omega)).mp z; omega), e1, Option.bind_some, sM_digit e2, Option.bind_some]
        simp only [jb_jo]
        rw [if_pos a]
        exact ⟨σ, rfl, h⟩
/-- a NUMBER -/
theorem r_num {W : Nat} {t : Nat → Int32} (hT : tOk W t) {o p : Nat} (hp : p ≤ W) (hd : dgt (cL W t p)) : rOut W t o p (fun σ => Option.bind (fX4_readNumber σ) fun q => some (1, q)) fX12_figure 1 := by
  have hW := hT.1
  obtain ⟨p', n', cnt', q1, q2, q3, q4, q5, q6, q7, q8, q9, q10⟩ := figL hT 4 p 0 0 rfl hp (by decide)
  have q6' := q6 hd (by omega)
  have hn : n' < 10000 := by
    have : 10 ^ cnt' ≤ 10 ^ 4 := Nat.pow_le_pow_right (by decide) q3
    omega
  refine ⟨p', by omega, q4, ?_⟩
  have xP : ∀ σ0 σ D, D.length ≤ p → xS W t σ0 σ p D → ∃ σ', (Option.bind (fX4_readNumber σ) fun q => some ((1 : Int32), q)) = some (1, σ') ∧ xS W t σ0 σ' p' (D ++ [jEnc (1, n')]) := by
    intro σ0 σ D hD h
    obtain ⟨σ1, e1, e2⟩ := q9 σ0 σ D (fun (a48 : jS × Int32) => (Option.bind (fX4_draw a48.1 ((256 : Int32) + a48.2)) fun (q1 : jS) => (some q1))) jN (by have := jN_ge; omega) h
    have hpW : p < W := cL_lt (t := t) (fun z => by omega)
    obtain ⟨σ2, e3, e4⟩ := e2.draw (nI (256 + n')) (by omega)
    have e5 : fX4_readNumber σ = some σ2 := by
      unfold fX4_readNumber
      rw [jlet_e]
      show jloop (fX4_readNumber_B4 _) jN (σ, nI 0, nI 0) = _
      rw [e1]
      show (Option.bind (fX4_draw σ1 (nI 256 + nI n')) fun (q1 : jS) => (some q1)) = _
      rw [nI_add, e3]
      rfl
    rw [e5]
    exact ⟨σ2, rfl, e4⟩
  by_cases a : dgt (cL W t p')
  · right
    refine ⟨fun σ0 σ D hD h => ?_, fun σ0 σ D hD h => ?_⟩
    · obtain ⟨σ', e1, e2⟩ := xP σ0 σ D hD h
      exact ⟨1, σ', _, e1, Or.inr ⟨rfl, a⟩, e2⟩
    · have h4 : cnt' = 4 := by
        rcases q5 with z | z
        · exact z
        · exact absurd a z
      subst h4
      obtain ⟨J, hJ⟩ : ∃ J : jS × Int32 × Int32 → Option jS, J = fun (a52 : jS × Int32 × Int32) => (jlet (fun (a74 : jS) => (Option.bind (fX12_addStep a74 (1 : Int32) a52.2.1) fun (q1 : jS) => (some q1))) fun (j74 : (jS → Option (jS))) => (jlet (fun (a70 : Unit) => (Option.bind (fX12_faulty a52.1) fun (q2 : jS) => (j74 q2))) fun (j70 : (Unit → Option (jS))) => (if a52.2.2 = 0 then (j70 ()) else (Option.bind (fX12_look a52.1) fun (q3 : Int32) => (Option.bind (fX12_in a52.1 q3 (48 : Int32) (57 : Int32)) fun (q4 : Int32) => (if (jb q4) = 0 then (j74 a52.1) else (j70 ()))))))) := ⟨_, rfl⟩
      obtain ⟨σ1, e1, e2⟩ := q10 σ0 σ o D J jN (by have := jN_ge; omega) h
      obtain ⟨v, e3, e4⟩ := sM_look hT e2.1 q4
      obtain ⟨σ2, e5, e6⟩ := e2.fault
      obtain ⟨σ3, e7, e8⟩ := e6.step (a := 1) (b := nI n') (by omega) (by omega)
      refine ⟨σ3, D.length + 1, ?_, e8, by omega⟩
      unfold fX12_figure
      rw [jlet_e, ← hJ]
      show jloop (fX12_figure_B4 J) jN (σ, nI 0, nI 0) = _
      rw [e1, hJ]
      show (if nI 4 = 0 then (Option.bind (fX12_faulty σ1) fun (q2 : jS) => (Option.bind (fX12_addStep q2 (nI 1) (nI n')) fun (q1 : jS) => (some q1))) else (Option.bind (fX12_look σ1) fun (q3 : Int32) => (Option.bind (fX12_in σ1 q3 (48 : Int32) (57 : Int32)) fun (q4 : Int32) => (if (jb q4) = 0 then (Option.bind (fX12_addStep σ1 (nI 1) (nI n')) fun (q1 : jS) => (some q1)) else (Option.bind (fX12_faulty σ1) fun (q2 : jS) => (Option.bind (fX12_addStep q2 (nI 1) (nI n')) fun (q1 : jS) => (some q1))))))) = _
      rw [if_neg (show ¬ nI 4 = 0 by decide), e3, Option.bind_some, sM_digit e4, Option.bind_some]
      simp only [jb_jo]
      rw [if_neg (fun z => z a), e5, Option.bind_some, e7]
      rfl
  · left
    refine ⟨[(1, n')], by show 1 ≤ _; omega, ⟨_, jSeg.num n'⟩, fun i hi => ?_, fun σ0 σ D hD h => ?_, fun σ0 σ D hD h => ?_⟩
    · rw [List.mem_singleton.mp hi]; exact Or.inl ⟨rfl, hn⟩
    · exact xP σ0 σ D hD h
    · obtain ⟨J, hJ⟩ : ∃ J : jS × Int32 × Int32 → Option jS, J = fun (a52 : jS × Int32 × Int32) => (jlet (fun (a74 : jS) => (Option.bind (fX12_addStep a74 (1 : Int32) a52.2.1) fun (q1 : jS) => (some q1))) fun (j74 : (jS → Option (jS))) => (jlet (fun (a70 : Unit) => (Option.bind (fX12_faulty a52.1) fun (q2 : jS) => (j74 q2))) fun (j70 : (Unit → Option (jS))) => (if a52.2.2 = 0 then (j70 ()) else (Option.bind (fX12_look a52.1) fun (q3 : Int32) => (Option.bind (fX12_in a52.1 q3 (48 : Int32) (57 : Int32)) fun (q4 : Int32) => (if (jb q4) = 0 then (j74 a52.1) else (j70 ()))))))) := ⟨_, rfl⟩
      obtain ⟨σ1, e1, e2⟩ := q10 σ0 σ o D J jN (by have := jN_ge; omega) h
      obtain ⟨v, e3, e4⟩ := sM_look hT e2.1 q4
      obtain ⟨σ3, e7, e8⟩ := e2.step (a := 1) (b := n') (by omega) (by omega)
      refine ⟨σ3, ?_, e8⟩
      unfold fX12_figure
      rw [jlet_e, ← hJ]
      show jloop (fX12_figure_B4 J) jN (σ, nI 0, nI 0) = _
      rw [e1, hJ]
      show (if nI cnt' = 0 then (Option.bind (fX12_faulty σ1) fun (q2 : jS) => (Option.bind (fX12_addStep q2 (nI 1) (nI n')) fun (q1 : jS) => (some q1))) else (Option.bind (fX12_look σ1) fun (q3 : Int32) => (Option.bind (fX12_in σ1 q3 (48 : Int32) (57 : Int32)) fun (q4 : Int32) => (if (jb q4) = 0 then (Option.bind (fX12_addStep σ1 (nI 1) (nI n')) fun (q1 : jS) => (some q1)) else (Option.bind (fX12_faulty σ1) fun (q2 : jS) => (Option.bind (fX12_addStep q2 (nI 1) (nI n')) fun (q1 : jS) => (some q1))))))) = _
      rw [if_neg (show ¬ nI cnt' = 0 from fun z => by have := (nI_eq (b := 0) (by omega) (by omega)).mp z; omega), e3, Option.bind_some, sM_digit e4, Option.bind_some]
      simp only [jb_jo]
      rw [if_pos a, e7]
      rfl
/-- no NUMBER: the reference's FAULT -/
theorem m_nofig {W : Nat} {t : Nat → Int32} (hT : tOk W t) {o p : Nat} (hp : p ≤ W) (hd : ¬ dgt (cL W t p)) {σ0 σ : jS} {D : List (Nat × Nat)} (hD : D.length ≤ 125) (h : mS W t σ0 σ p o D) : ∃ σ', fX12_figure σ = some σ' ∧ mF W t σ0 σ' p (D.length + 1) := by
  obtain ⟨p', n', cnt', q1, q2, q3, q4, q5, q6, q7, q8, q9, q10⟩ := figL hT 4 p 0 0 rfl hp (by decide)
  obtain rfl := q7 hd
  obtain rfl : p' = p := by omega
  obtain ⟨J, hJ⟩ : ∃ J : jS × Int32 × Int32 → Option jS, J = fun (a52 : jS × Int32 × Int32) => (jlet (fun (a74 : jS) => (Option.bind (fX12_addStep a74 (1 : Int32) a52.2.1) fun (q1 : jS) => (some q1))) fun (j74 : (jS → Option (jS))) => (jlet (fun (a70 : Unit) => (Option.bind (fX12_faulty a52.1) fun (q2 : jS) => (j74 q2))) fun (j70 : (Unit → Option (jS))) => (if a52.2.2 = 0 then (j70 ()) else (Option.bind (fX12_look a52.1) fun (q3 : Int32) => (Option.bind (fX12_in a52.1 q3 (48 : Int32) (57 : Int32)) fun (q4 : Int32) => (if (jb q4) = 0 then (j74 a52.1) else (j70 ()))))))) := ⟨_, rfl⟩
  obtain ⟨σ1, e1, e2⟩ := q10 σ0 σ o D J jN (by have := jN_ge; omega) h
  obtain ⟨σ2, e5, e6⟩ := e2.fault
  obtain ⟨σ3, e7, e8⟩ := e6.step (a := 1) (b := nI n') (by omega) (by omega)
  refine ⟨σ3, ?_, e8⟩
  unfold fX12_figure
  rw [jlet_e, ← hJ]
  show jloop (fX12_figure_B4 J) jN (σ, nI 0, nI 0) = _
  rw [e1, hJ]
  show (if nI 0 = 0 then (Option.bind (fX12_faulty σ1) fun (q2 : jS) => (Option.bind (fX12_addStep q2 (nI 1) (nI n')) fun (q1 : jS) => (some q1))) else (Option.bind (fX12_look σ1) fun (q3 : Int32) => (Option.bind (fX12_in σ1 q3 (48 : Int32) (57 : Int32)) fun (q4 : Int32) => (if (jb q4) = 0 then (Option.bind (fX12_addStep σ1 (nI 1) (nI n')) fun (q1 : jS) => (some q1)) else (Option.bind (fX12_faulty σ1) fun (q2 : jS) => (Option.bind (fX12_addStep q2 (nI 1) (nI n')) fun (q1 : jS) => (some q1))))))) = _
  rw [if_pos (show nI 0 = 0 from rfl), e5, Option.bind_some, e7]
  rfl
