/-! BODIES: body, act, trace, count of both sides -/
def xT (σ0 σ : jS) (T : List Nat) : Prop := (∀ c, c ≠ 41 → c ≠ 43 → σ.1 c = σ0.1 c) ∧ σ.1 41 1 = σ0.1 41 1 ∧ σ.2 = σ0.2 ∧ σ.1 41 3 = nI T.length ∧ ∀ i, i < T.length → i < 24 → σ.1 43 i = nI (T.getD i 0)
def mT (σ0 σ : jS) (T : List Nat) : Prop := (∀ c, c ≠ 0 → c ≠ 30 → σ.1 c = σ0.1 c) ∧ (∀ j, j ≠ 51 → σ.1 0 j = σ0.1 0 j) ∧ σ.2 = σ0.2 ∧ σ.1 0 51 = nI T.length ∧ ∀ i, i < T.length → i < 24 → σ.1 30 i = nI (T.getD i 0)
theorem gD_app1 {T : List Nat} {b i : Nat} (h : i < T.length) : (T ++ [b]).getD i 0 = T.getD i 0 := by
  simp [List.getD, List.getElem?_append_left h]
theorem gD_app2 {T : List Nat} {b : Nat} : (T ++ [b]).getD T.length 0 = b := by
  simp [List.getD]
theorem xT_push {σ0 σ : jS} {T : List Nat} (h : xT σ0 σ T) (hl : T.length ≤ 1000) (b : Nat) : ∃ σ1, xT σ0 σ1 (T ++ [b]) ∧ ∀ {ρ : Type} (K : jS → Option ρ), (jlet (fun (a28 : jS) => (jst (ju a28 41 3 ((a28.1 41 3) + (1 : Int32))) fun (σ1 : jS) => K σ1)) fun (j28 : (jS → Option ρ)) => (if (24 : Int32) ≤ (σ.1 41 3) then (j28 σ) else (ob (σ.1 41 3) 24 (jst (ju σ 43 ((σ.1 41 3)).toNatClampNeg (nI b)) fun (σ17 : jS) => (j28 σ17))))) = K σ1 := by
  obtain ⟨h1, h2, h3, h4, h5⟩ := h
  have hlen : (T ++ [b]).length = T.length + 1 := by simp
  by_cases a : 24 ≤ T.length
  · refine ⟨ju σ 41 3 (σ.1 41 3 + 1), ⟨fun c c1 c2 => ?_, ?_, ?_, ?_, fun i hi hi2 => ?_⟩, fun {ρ} K => ?_⟩
    · rw [ju_n c1]; exact h1 c c1 c2
    · rw [ju_i (by omega)]; exact h2
    · rw [ju_2]; exact h3
    · rw [ju_s, h4, nI_1, hlen]
    · rw [ju_n (by omega), h5 i (by omega) hi2, gD_app1 (by omega)]
    · rw [jlet_e, h4, if_pos (show (24 : Int32) ≤ nI T.length from (nI_leI (a := 24) (by omega) (by omega)).mpr a)]
      show K (ju σ 41 3 (σ.1 41 3 + 1)) = _
      rw [h4]
  · refine ⟨ju (ju σ 43 T.length (nI b)) 41 3 (σ.1 41 3 + 1), ⟨fun c c1 c2 => ?_, ?_, ?_, ?_, fun i hi hi2 => ?_⟩, fun {ρ} K => ?_⟩
    · rw [ju_n c1, ju_n c2]; exact h1 c c1 c2
    · rw [ju_i (by omega), ju_n (by omega)]; exact h2
    · rw [ju_2, ju_2]; exact h3
    · rw [ju_s, h4, nI_1, hlen]
    · rw [ju_n (by omega)]
      by_cases e : i = T.length
      · subst e
        rw [ju_s, gD_app2]
      · rw [ju_i e, h5 i (by omega) hi2, gD_app1 (by omega)]
    · rw [jlet_e, h4, if_neg (show ¬ (24 : Int32) ≤ nI T.length from fun z => a ((nI_leI (a := 24) (by omega) (by omega)).mp z)), ob_nI (by omega) (by omega), nI_cl (by omega)]
      show K (ju (ju σ 43 T.length (nI b)) 41 3 ((ju σ 43 T.length (nI b)).1 41 3 + 1)) = _
      rw [ju_n (show (41 : Nat) ≠ 43 by decide), h4]
theorem mT_push {σ0 σ : jS} {T : List Nat} (h : mT σ0 σ T) (hl : T.length ≤ 1000) (b : Nat) : ∃ σ1, fX12_ran σ (nI b) = some σ1 ∧ mT σ0 σ1 (T ++ [b]) := by
  obtain ⟨h1, h2, h3, h4, h5⟩ := h
  have hlen : (T ++ [b]).length = T.length + 1 := by simp
  unfold fX12_ran
  by_cases a : 24 ≤ T.length
  · rw [h4, if_pos (show (24 : Int32) ≤ nI T.length from (nI_leI (a := 24) (by omega) (by omega)).mpr a)]
    refine ⟨_, rfl, ⟨fun c c1 c2 => ?_, fun j hj => ?_, ?_, ?_, fun i hi hi2 => ?_⟩⟩
    · rw [ju_n c1]; exact h1 c c1 c2
    · rw [ju_i hj]; exact h2 j hj
    · rw [ju_2]; exact h3
    · rw [ju_s, nI_1, hlen]
    · rw [ju_n (by omega), h5 i (by omega) hi2, gD_app1 (by omega)]
  · rw [h4, if_neg (show ¬ (24 : Int32) ≤ nI T.length from fun z => a ((nI_leI (a := 24) (by omega) (by omega)).mp z)), ob_nI (by omega) (by omega), nI_cl (by omega), jst_e, jst_e, ju_n (show (0 : Nat) ≠ 30 by decide), h4]
    refine ⟨_, rfl, ⟨fun c c1 c2 => ?_, fun j hj => ?_, ?_, ?_, fun i hi hi2 => ?_⟩⟩
    · rw [ju_n c1, ju_n c2]; exact h1 c c1 c2
    · rw [ju_i hj, ju_n (by decide)]; exact h2 j hj
    · rw [ju_2, ju_2]; exact h3
    · rw [ju_s, nI_1, hlen]
    · rw [ju_n (by omega)]
      by_cases e : i = T.length
      · subst e
        rw [ju_s, gD_app2]
      · rw [ju_i e, h5 i (by omega) hi2, gD_app1 (by omega)]
def bOwn (k a : Nat) : Nat := ([1, 10, 11, 2, 20, 0, 0, 0, 0, 30, 0, 0, 0, 41, 40, 0, 0, 0, 0, 50, 0, 0, 60, 61, 70, 0, 0, 0, 81, 80, 0, 0] : List Nat).getD (4 * k + a) 0
def bAbv (k : Nat) : Nat := ([9, 0, 0, 2, 1, 3, 0, 6] : List Nat).getD k 0
def bFrom : Nat → Nat → Nat → Nat
  | 0, _, _ => 0
  | f + 1, k, a => if bOwn k a = 0 then bFrom f (bAbv k) a else bOwn k a
theorem bO_1 : ∀ k, k < 8 → ∀ a, a < 4 → nI k * (4 : Int32) + nI a = nI (4 * k + a) ∧ jOWN (4 * k + a) = nI (bOwn k a) ∧ (bOwn k a = 0 ↔ nI (bOwn k a) = 0) := by decide
theorem bO_2 : ∀ a, a < 4 → ¬ bOwn 0 a = 0 := by decide
theorem bO_3 : ∀ k, k < 8 → ¬ k = 0 → jABOVE k = nI (bAbv k) ∧ bAbv k < 8 := by decide
theorem bO_4 : ∀ k, k < 8 → ∀ a, a < 4 → ¬ bFrom 8 k a = 0 := by decide
theorem sX0_kind {σ : jS} {k : Nat} (h : k < 8) : fX0_isKind σ (nI k) = some 1 := by
  unfold fX0_isKind
  rw [if_neg (show ¬ nI k < 0 from fun z => by have := (nI_ltI (b := 0) (by omega) (by omega)).mp z; omega), if_neg (show ¬ (8 : Int32) ≤ nI k from fun z => by have := (nI_leI (a := 8) (by omega) (by omega)).mp z; omega)]
theorem sX0_fromL {σ : jS} {a : Nat} (ha : a < 4) : ∀ (n k c f : Nat), k < 8 → c + n ≤ 8 → ¬ bFrom n k a = 0 → n ≤ f → jloop (fX0_bodyFrom_B4 σ (nI a)) f (nI k, nI c) = some (nI (bFrom n k a)) := by
  intro n
  induction n with
  | zero => intro k c f _ _ h; exact absurd rfl h
  | succ n ih =>
    intro k c f hk hc h hf
    obtain ⟨f, rfl⟩ : ∃ g, f = g + 1 := ⟨f - 1, by omega⟩
    obtain ⟨e1, e2, e3⟩ := bO_1 k hk a ha
    rw [jloop_s]
    unfold fX0_bodyFrom_B4
    rw [if_neg (show ¬ (8 : Int32) ≤ nI c from fun z => by have := (nI_leI (a := 8) (by omega) (by omega)).mp z; omega), sX0_kind hk, Option.bind_some, if_neg (show ¬ jb 1 = 0 by decide), e1, ob_nI (show 4 * k + a < 32 by omega) (by omega), nI_cl (by omega), e2]
    by_cases z : bOwn k a = 0
    · have hk0 : ¬ k = 0 := fun q => by subst q; exact bO_2 a ha z
      obtain ⟨b1, b2⟩ := bO_3 k hk hk0
      have eF : bFrom (n + 1) k a = bFrom n (bAbv k) a := if_pos z
      rw [eF] at h ⊢
      rw [if_pos (e3.mp z), ob_nI (by omega) (by omega), nI_cl (by omega), b1, nI_1]
      exact ih (bAbv k) (c + 1) f b2 (by omega) h (by omega)
    · have eF : bFrom (n + 1) k a = bOwn k a := if_neg z
      rw [if_neg (fun q => z (e3.mpr q)), eF]
theorem sX0_from {σ : jS} {k a : Nat} (hk : k < 8) (ha : a < 4) : fX0_bodyFrom σ (nI k) (nI a) = some (nI (bFrom 8 k a)) := by
  unfold fX0_bodyFrom
  exact sX0_fromL ha 8 k 0 jN hk (by omega) (bO_4 k hk a ha) (by have := jN_ge; omega)
def pRun : Nat → Nat → Int32 → Nat → Int32 → Option (Int32 × List Nat)
  | 0, _, _, _, _ => none
  | g + 1, k, x, b, n =>
    if b = 1 then some (n + x, [1]) else
    if b = 2 then (pRun g k x (bFrom 8 k 1) n).bind (fun q => (pRun g k x (bFrom 8 k 2) 1).bind (fun r => some (q.1 - r.1, 2 :: (q.2 ++ r.2)))) else
    if b = 10 then (pRun g k x (bFrom 8 k 0) n).bind (fun q => some (q.1 * 2, 10 :: q.2)) else
    if b = 11 then some (n ^^^ x, [11]) else
    if b = 20 then (pRun g k x (bFrom 8 (bAbv 1) 0) n).bind (fun q => some (q.1 + 3, 20 :: q.2)) else
    if b = 30 then (pRun g k x (bFrom 8 (bAbv 2) 1) n).bind (fun q => some (-q.1, 30 :: q.2)) else
    if b = 40 then (pRun g k x (bFrom 8 (bAbv 3) 2) n).bind (fun q => some (q.1 * 3, 40 :: q.2)) else
    if b = 41 then (pRun g k x (bFrom 8 (bAbv 3) 1) (n + 1)).bind (fun q => some (q.1, 41 :: q.2)) else
    if b = 50 then (pRun g k x (bFrom 8 (bAbv 4) 3) n).bind (fun q => some (q.1 ^^^ 5, 50 :: q.2)) else
    if b = 60 then (pRun g k x (bFrom 8 (bAbv 5) 2) n).bind (fun q => (pRun g k x (bFrom 8 k 0) 2).bind (fun r => some (q.1 - r.1, 60 :: (q.2 ++ r.2)))) else
    if b = 61 then (pRun g k x (bFrom 8 (bAbv 5) 3) n).bind (fun q => some (q.1 + 1, 61 :: q.2)) else
    if b = 70 then (pRun g k x (bFrom 8 (bAbv 6) 0) n).bind (fun q => some (q.1 * 2, 70 :: q.2)) else
    if b = 80 then (pRun g k x (bFrom 8 (bAbv 7) 1) n).bind (fun q => (pRun g k x (bFrom 8 k 2) 2).bind (fun r => some (q.1 + r.1, 80 :: (q.2 ++ r.2)))) else
    if b = 81 then (pRun g k x (bFrom 8 (bAbv 7) 0) n).bind (fun q => some (q.1 - 1, 81 :: q.2)) else
    none
/-- what a body's run, at each depth that the tables allow, answers: the class's side -/
def rOkX (σ0 : jS) (x : Int32) (g k : Nat) : Prop := ∀ b n v L, pRun g k x b n = some (v, L) → ∀ f dd T σ, 2 * g ≤ f → dd + g ≤ 41 → xT σ0 σ T → T.length + L.length ≤ 1000 → ∃ σ', (gX0 f).2.2 σ x (nI b) n (nI dd) = some (v, σ') ∧ xT σ0 σ' (T ++ L)
theorem sX0_kindOf {σ0 σ : jS} {T : List Nat} {i k nb : Nat} (h : xT σ0 σ T) (hi : i < nb) (hn : nb ≤ 50) (hb : σ0.1 41 1 = nI nb) (hk : σ0.1 42 i = nI k) : fX0_kindOf σ (nI i) = some (nI k) := by
  unfold fX0_kindOf fX0_isBody
  rw [if_neg (show ¬ nI i < 0 from fun z => by have := (nI_ltI (b := 0) (by omega) (by omega)).mp z; omega), h.2.1, hb, if_neg (show ¬ nI nb ≤ nI i from fun z => by have := (nI_leI (by omega) (by omega)).mp z; omega), Option.bind_some, if_neg (show ¬ jb 1 = 0 by decide), ob_nI (by omega) (by omega), nI_cl (by omega), h.1 42 (by decide) (by decide), hk]
theorem own_ok {σ0 : jS} {i k nb g : Nat} (hi : i < nb) (hn : nb ≤ 50) (hb : σ0.1 41 1 = nI nb) (hk0 : σ0.1 42 i = nI k) (hk : k < 8) (ih : rOkX σ0 (nI i) g k) {a : Nat} (ha : a < 4) {n v : Int32} {L : List Nat} (h : pRun g k (nI i) (bFrom 8 k a) n = some (v, L)) {f dd : Nat} {T : List Nat} {σ : jS} (hf : 2 * g + 1 ≤ f) (hd : dd + 1 + g ≤ 41) (hT : xT σ0 σ T) (hl : T.length + L.length ≤ 1000) : ∃ σ', (gX0 f).1 σ (nI i) (nI a) n (nI dd) = some (v, σ') ∧ xT σ0 σ' (T ++ L) := by
  obtain ⟨f, rfl⟩ : ∃ z, f = z + 1 := ⟨f - 1, by omega⟩
  obtain ⟨σ', e, h'⟩ := ih (bFrom 8 k a) n v L h f (dd + 1) T σ (by omega) (by omega) hT hl
  refine ⟨σ', ?_, h'⟩
  show bX0_own (gX0 f) σ (nI i) (nI a) n (nI dd) = _
  unfold bX0_own
  rw [sX0_kindOf hT hi hn hb hk0, Option.bind_some, sX0_from hk ha, Option.bind_some, nI_1, e, Option.bind_some]
theorem abv_ok {σ0 : jS} {i k g : Nat} (ih : rOkX σ0 (nI i) g k) {w a : Nat} (hw : w < 8) (hw0 : ¬ w = 0) (ha : a < 4) {n v : Int32} {L : List Nat} (h : pRun g k (nI i) (bFrom 8 (bAbv w) a) n = some (v, L)) {f dd : Nat} {T : List Nat} {σ : jS} (hf : 2 * g + 1 ≤ f) (hd : dd + 1 + g ≤ 41) (hT : xT σ0 σ T) (hl : T.length + L.length ≤ 1000) : ∃ σ', (gX0 f).2.1 σ (nI i) (nI w) (nI a) n (nI dd) = some (v, σ') ∧ xT σ0 σ' (T ++ L) := by
  obtain ⟨f, rfl⟩ : ∃ z, f = z + 1 := ⟨f - 1, by omega⟩
  obtain ⟨σ', e, h'⟩ := ih (bFrom 8 (bAbv w) a) n v L h f (dd + 1) T σ (by omega) (by omega) hT hl
  refine ⟨σ', ?_, h'⟩
  obtain ⟨b1, b2⟩ := bO_3 w hw hw0
  show bX0_above (gX0 f) σ (nI i) (nI w) (nI a) n (nI dd) = _
  unfold bX0_above
  rw [ob_nI hw (by omega), nI_cl (by omega), b1, sX0_from b2 ha, Option.bind_some, nI_1, e, Option.bind_some]
theorem run_ok {σ0 : jS} {i k nb : Nat} (hi : i < nb) (hn : nb ≤ 50) (hb : σ0.1 41 1 = nI nb) (hk0 : σ0.1 42 i = nI k) (hk : k < 8) : ∀ g, rOkX σ0 (nI i) g k := by
  intro g
  induction g with
  | zero =>
    intro b n v L h
    cases h
  | succ g ih =>
    intro b n v L h f dd T σ hf hd hT hl
    obtain ⟨f, rfl⟩ : ∃ z, f = z + 1 := ⟨f - 1, by omega⟩
    show ∃ σ', bX0_run (gX0 f) σ (nI i) (nI b) n (nI dd) = some (v, σ') ∧ _
    unfold bX0_run
    obtain ⟨σ1, h1, eP⟩ := xT_push hT (by omega) b
    rw [if_pos (show nI dd ≤ (40 : Int32) from (nI_leI (b := 40) (by omega) (by omega)).mpr (by omega)), eP]
    have hl1 : (T ++ [b]).length = T.length + 1 := by simp
    unfold pRun at h
    by_cases c1 : b = 1
    · subst c1
      rw [if_pos (show (1 : Nat) = 1 from rfl)] at h
      rw [if_pos (show nI 1 = (1 : Int32) from rfl)]
      obtain ⟨rfl, rfl⟩ := Prod.mk.inj (Option.some.inj h)
      exact ⟨σ1, rfl, h1⟩
    by_cases c2 : b = 2
    · subst c2
      rw [if_neg (show ¬ (2 : Nat) = 1 by decide), if_pos (show (2 : Nat) = 2 from rfl)] at h
      rw [if_neg (show ¬ nI 2 = (1 : Int32) by decide), if_pos (show nI 2 = (2 : Int32) from rfl)]
      obtain ⟨q, hq, h⟩ := Option.bind_eq_some_iff.mp h
      obtain ⟨r, hr, e⟩ := Option.bind_eq_some_iff.mp h
      obtain ⟨qv, qL⟩ := q
      obtain ⟨rv, rL⟩ := r
      obtain ⟨rfl, rfl⟩ := Prod.mk.inj (Option.some.inj e)
      simp only [List.length_cons, List.length_append] at hl
      obtain ⟨σ2, eσ2, h2⟩ := own_ok hi hn hb hk0 hk ih (a := 1) (by omega) hq (f := f) (dd := dd) (T := T ++ [2]) (by omega) (by omega) h1 (by simp only [List.length_append, List.length_cons, List.length_nil]; omega)
      rw [show (gX0 f).1 σ1 (nI i) (1 : Int32) n (nI dd) = some (_, σ2) from eσ2, Option.bind_some]
      obtain ⟨σ3, eσ3, h3⟩ := own_ok hi hn hb hk0 hk ih (a := 2) (by omega) hr (f := f) (dd := dd) (T := T ++ [2] ++ qL) (by omega) (by omega) h2 (by simp only [List.length_append, List.length_cons, List.length_nil]; omega)
      rw [show (gX0 f).1 σ2 (nI i) (2 : Int32) (1 : Int32) (nI dd) = some (_, σ3) from eσ3, Option.bind_some]
      exact ⟨σ3, rfl, by simpa [List.append_assoc] using h3⟩
    by_cases c10 : b = 10
    · subst c10
      rw [if_neg (show ¬ (10 : Nat) = 1 by decide), if_neg (show ¬ (10 : Nat) = 2 by decide), if_pos (show (10 : Nat) = 10 from rfl)] at h
      rw [if_neg (show ¬ nI 10 = (1 : Int32) by decide), if_neg (show ¬ nI 10 = (2 : Int32) by decide), if_pos (show nI 10 = (10 : Int32) from rfl)]
      obtain ⟨q, hq, e⟩ := Option.bind_eq_some_iff.mp h
      obtain ⟨qv, qL⟩ := q
      obtain ⟨rfl, rfl⟩ := Prod.mk.inj (Option.some.inj e)
      simp only [List.length_cons] at hl
      obtain ⟨σ2, eσ2, h2⟩ := own_ok hi hn hb hk0 hk ih (a := 0) (by omega) hq (f := f) (dd := dd) (T := T ++ [10]) (by omega) (by omega) h1 (by simp only [List.length_append, List.length_cons, List.length_nil]; omega)
      rw [show (gX0 f).1 σ1 (nI i) (0 : Int32) n (nI dd) = some (_, σ2) from eσ2, Option.bind_some]
      exact ⟨σ2, rfl, by simpa [List.append_assoc] using h2⟩
    by_cases c11 : b = 11
    · subst c11
      rw [if_neg (show ¬ (11 : Nat) = 1 by decide), if_neg (show ¬ (11 : Nat) = 2 by decide), if_neg (show ¬ (11 : Nat) = 10 by decide), if_pos (show (11 : Nat) = 11 from rfl)] at h
      rw [if_neg (show ¬ nI 11 = (1 : Int32) by decide), if_neg (show ¬ nI 11 = (2 : Int32) by decide), if_neg (show ¬ nI 11 = (10 : Int32) by decide), if_pos (show nI 11 = (11 : Int32) from rfl)]
      obtain ⟨rfl, rfl⟩ := Prod.mk.inj (Option.some.inj h)
      exact ⟨σ1, rfl, h1⟩
    by_cases c20 : b = 20
    · subst c20
      rw [if_neg (show ¬ (20 : Nat) = 1 by decide), if_neg (show ¬ (20 : Nat) = 2 by decide), if_neg (show ¬ (20 : Nat) = 10 by decide), if_neg (show ¬ (20 : Nat) = 11 by decide), if_pos (show (20 : Nat) = 20 from rfl)] at h
      rw [if_neg (show ¬ nI 20 = (1 : Int32) by decide), if_neg (show ¬ nI 20 = (2 : Int32) by decide), if_neg (show ¬ nI 20 = (10 : Int32) by decide), if_neg (show ¬ nI 20 = (11 : Int32) by decide), if_pos (show nI 20 = (20 : Int32) from rfl)]
      obtain ⟨q, hq, e⟩ := Option.bind_eq_some_iff.mp h
      obtain ⟨qv, qL⟩ := q
      obtain ⟨rfl, rfl⟩ := Prod.mk.inj (Option.some.inj e)
      simp only [List.length_cons] at hl
      obtain ⟨σ2, eσ2, h2⟩ := abv_ok ih (w := 1) (a := 0) (by omega) (by omega) (by omega) hq (f := f) (dd := dd) (T := T ++ [20]) (by omega) (by omega) h1 (by simp only [List.length_append, List.length_cons, List.length_nil]; omega)
      rw [show (gX0 f).2.1 σ1 (nI i) (1 : Int32) (0 : Int32) n (nI dd) = some (_, σ2) from eσ2, Option.bind_some]
      exact ⟨σ2, rfl, by simpa [List.append_assoc] using h2⟩
    by_cases c30 : b = 30
    · subst c30
      rw [if_neg (show ¬ (30 : Nat) = 1 by decide), if_neg (show ¬ (30 : Nat) = 2 by decide), if_neg (show ¬ (30 : Nat) = 10 by decide), if_neg (show ¬ (30 : Nat) = 11 by decide), if_neg (show ¬ (30 : Nat) = 20 by decide), if_pos (show (30 : Nat) = 30 from rfl)] at h
      rw [if_neg (show ¬ nI 30 = (1 : Int32) by decide), if_neg (show ¬ nI 30 = (2 : Int32) by decide), if_neg (show ¬ nI 30 = (10 : Int32) by decide), if_neg (show ¬ nI 30 = (11 : Int32) by decide), if_neg (show ¬ nI 30 = (20 : Int32) by decide), if_pos (show nI 30 = (30 : Int32) from rfl)]
      obtain ⟨q, hq, e⟩ := Option.bind_eq_some_iff.mp h
      obtain ⟨qv, qL⟩ := q
      obtain ⟨rfl, rfl⟩ := Prod.mk.inj (Option.some.inj e)
      simp only [List.length_cons] at hl
      obtain ⟨σ2, eσ2, h2⟩ := abv_ok ih (w := 2) (a := 1) (by omega) (by omega) (by omega) hq (f := f) (dd := dd) (T := T ++ [30]) (by omega) (by omega) h1 (by simp only [List.length_append, List.length_cons, List.length_nil]; omega)
      rw [show (gX0 f).2.1 σ1 (nI i) (2 : Int32) (1 : Int32) n (nI dd) = some (_, σ2) from eσ2, Option.bind_some]
      exact ⟨σ2, rfl, by simpa [List.append_assoc] using h2⟩
    by_cases c40 : b = 40
    · subst c40
      rw [if_neg (show ¬ (40 : Nat) = 1 by decide), if_neg (show ¬ (40 : Nat) = 2 by decide), if_neg (show ¬ (40 : Nat) = 10 by decide), if_neg (show ¬ (40 : Nat) = 11 by decide), if_neg (show ¬ (40 : Nat) = 20 by decide), if_neg (show ¬ (40 : Nat) = 30 by decide), if_pos (show (40 : Nat) = 40 from rfl)] at h
      rw [if_neg (show ¬ nI 40 = (1 : Int32) by decide), if_neg (show ¬ nI 40 = (2 : Int32) by decide), if_neg (show ¬ nI 40 = (10 : Int32) by decide), if_neg (show ¬ nI 40 = (11 : Int32) by decide), if_neg (show ¬ nI 40 = (20 : Int32) by decide), if_neg (show ¬ nI 40 = (30 : Int32) by decide), if_pos (show nI 40 = (40 : Int32) from rfl)]
      obtain ⟨q, hq, e⟩ := Option.bind_eq_some_iff.mp h
      obtain ⟨qv, qL⟩ := q
      obtain ⟨rfl, rfl⟩ := Prod.mk.inj (Option.some.inj e)
      simp only [List.length_cons] at hl
      obtain ⟨σ2, eσ2, h2⟩ := abv_ok ih (w := 3) (a := 2) (by omega) (by omega) (by omega) hq (f := f) (dd := dd) (T := T ++ [40]) (by omega) (by omega) h1 (by simp only [List.length_append, List.length_cons, List.length_nil]; omega)
      rw [show (gX0 f).2.1 σ1 (nI i) (3 : Int32) (2 : Int32) n (nI dd) = some (_, σ2) from eσ2, Option.bind_some]
      exact ⟨σ2, rfl, by simpa [List.append_assoc] using h2⟩
    by_cases c41 : b = 41
    · subst c41
      rw [if_neg (show ¬ (41 : Nat) = 1 by decide), if_neg (show ¬ (41 : Nat) = 2 by decide), if_neg (show ¬ (41 : Nat) = 10 by decide), if_neg (show ¬ (41 : Nat) = 11 by decide), if_neg (show ¬ (41 : Nat) = 20 by decide), if_neg (show ¬ (41 : Nat) = 30 by decide), if_neg (show ¬ (41 : Nat) = 40 by decide), if_pos (show (41 : Nat) = 41 from rfl)] at h
      rw [if_neg (show ¬ nI 41 = (1 : Int32) by decide), if_neg (show ¬ nI 41 = (2 : Int32) by decide), if_neg (show ¬ nI 41 = (10 : Int32) by decide), if_neg (show ¬ nI 41 = (11 : Int32) by decide), if_neg (show ¬ nI 41 = (20 : Int32) by decide), if_neg (show ¬ nI 41 = (30 : Int32) by decide), if_neg (show ¬ nI 41 = (40 : Int32) by decide), if_pos (show nI 41 = (41 : Int32) from rfl)]
      obtain ⟨q, hq, e⟩ := Option.bind_eq_some_iff.mp h
      obtain ⟨qv, qL⟩ := q
      obtain ⟨rfl, rfl⟩ := Prod.mk.inj (Option.some.inj e)
      simp only [List.length_cons] at hl
      obtain ⟨σ2, eσ2, h2⟩ := abv_ok ih (w := 3) (a := 1) (by omega) (by omega) (by omega) hq (f := f) (dd := dd) (T := T ++ [41]) (by omega) (by omega) h1 (by simp only [List.length_append, List.length_cons, List.length_nil]; omega)
      rw [show (gX0 f).2.1 σ1 (nI i) (3 : Int32) (1 : Int32) (n + 1) (nI dd) = some (_, σ2) from eσ2, Option.bind_some]
      exact ⟨σ2, rfl, by simpa [List.append_assoc] using h2⟩
    by_cases c50 : b = 50
    · subst c50
      rw [if_neg (show ¬ (50 : Nat) = 1 by decide), if_neg (show ¬ (50 : Nat) = 2 by decide), if_neg (show ¬ (50 : Nat) = 10 by decide), if_neg (show ¬ (50 : Nat) = 11 by decide), if_neg (show ¬ (50 : Nat) = 20 by decide), if_neg (show ¬ (50 : Nat) = 30 by decide), if_neg (show ¬ (50 : Nat) = 40 by decide), if_neg (show ¬ (50 : Nat) = 41 by decide), if_pos (show (50 : Nat) = 50 from rfl)] at h
      rw [if_neg (show ¬ nI 50 = (1 : Int32) by decide), if_neg (show ¬ nI 50 = (2 : Int32) by decide), if_neg (show ¬ nI 50 = (10 : Int32) by decide), if_neg (show ¬ nI 50 = (11 : Int32) by decide), if_neg (show ¬ nI 50 = (20 : Int32) by decide), if_neg (show ¬ nI 50 = (30 : Int32) by decide), if_neg (show ¬ nI 50 = (40 : Int32) by decide), if_neg (show ¬ nI 50 = (41 : Int32) by decide), if_pos (show nI 50 = (50 : Int32) from rfl)]
      obtain ⟨q, hq, e⟩ := Option.bind_eq_some_iff.mp h
      obtain ⟨qv, qL⟩ := q
      obtain ⟨rfl, rfl⟩ := Prod.mk.inj (Option.some.inj e)
      simp only [List.length_cons] at hl
      obtain ⟨σ2, eσ2, h2⟩ := abv_ok ih (w := 4) (a := 3) (by omega) (by omega) (by omega) hq (f := f) (dd := dd) (T := T ++ [50]) (by omega) (by omega) h1 (by simp only [List.length_append, List.length_cons, List.length_nil]; omega)
      rw [show (gX0 f).2.1 σ1 (nI i) (4 : Int32) (3 : Int32) n (nI dd) = some (_, σ2) from eσ2, Option.bind_some]
      exact ⟨σ2, rfl, by simpa [List.append_assoc] using h2⟩
    by_cases c60 : b = 60
    · subst c60
      rw [if_neg (show ¬ (60 : Nat) = 1 by decide), if_neg (show ¬ (60 : Nat) = 2 by decide), if_neg (show ¬ (60 : Nat) = 10 by decide), if_neg (show ¬ (60 : Nat) = 11 by decide), if_neg (show ¬ (60 : Nat) = 20 by decide), if_neg (show ¬ (60 : Nat) = 30 by decide), if_neg (show ¬ (60 : Nat) = 40 by decide), if_neg (show ¬ (60 : Nat) = 41 by decide), if_neg (show ¬ (60 : Nat) = 50 by decide), if_pos (show (60 : Nat) = 60 from rfl)] at h
      rw [if_neg (show ¬ nI 60 = (1 : Int32) by decide), if_neg (show ¬ nI 60 = (2 : Int32) by decide), if_neg (show ¬ nI 60 = (10 : Int32) by decide), if_neg (show ¬ nI 60 = (11 : Int32) by decide), if_neg (show ¬ nI 60 = (20 : Int32) by decide), if_neg (show ¬ nI 60 = (30 : Int32) by decide), if_neg (show ¬ nI 60 = (40 : Int32) by decide), if_neg (show ¬ nI 60 = (41 : Int32) by decide), if_neg (show ¬ nI 60 = (50 : Int32) by decide), if_pos (show nI 60 = (60 : Int32) from rfl)]
      obtain ⟨q, hq, h⟩ := Option.bind_eq_some_iff.mp h
      obtain ⟨r, hr, e⟩ := Option.bind_eq_some_iff.mp h
      obtain ⟨qv, qL⟩ := q
      obtain ⟨rv, rL⟩ := r
      obtain ⟨rfl, rfl⟩ := Prod.mk.inj (Option.some.inj e)
      simp only [List.length_cons, List.length_append] at hl
      obtain ⟨σ2, eσ2, h2⟩ := abv_ok ih (w := 5) (a := 2) (by omega) (by omega) (by omega) hq (f := f) (dd := dd) (T := T ++ [60]) (by omega) (by omega) h1 (by simp only [List.length_append, List.length_cons, List.length_nil]; omega)
      rw [show (gX0 f).2.1 σ1 (nI i) (5 : Int32) (2 : Int32) n (nI dd) = some (_, σ2) from eσ2, Option.bind_some]
      obtain ⟨σ3, eσ3, h3⟩ := own_ok hi hn hb hk0 hk ih (a := 0) (by omega) hr (f := f) (dd := dd) (T := T ++ [60] ++ qL) (by omega) (by omega) h2 (by simp only [List.length_append, List.length_cons, List.length_nil]; omega)
      rw [show (gX0 f).1 σ2 (nI i) (0 : Int32) (2 : Int32) (nI dd) = some (_, σ3) from eσ3, Option.bind_some]
      exact ⟨σ3, rfl, by simpa [List.append_assoc] using h3⟩
    by_cases c61 : b = 61
    · subst c61
      rw [if_neg (show ¬ (61 : Nat) = 1 by decide), if_neg (show ¬ (61 : Nat) = 2 by decide), if_neg (show ¬ (61 : Nat) = 10 by decide), if_neg (show ¬ (61 : Nat) = 11 by decide), if_neg (show ¬ (61 : Nat) = 20 by decide), if_neg (show ¬ (61 : Nat) = 30 by decide), if_neg (show ¬ (61 : Nat) = 40 by decide), if_neg (show ¬ (61 : Nat) = 41 by decide), if_neg (show ¬ (61 : Nat) = 50 by decide), if_neg (show ¬ (61 : Nat) = 60 by decide), if_pos (show (61 : Nat) = 61 from rfl)] at h
      rw [if_neg (show ¬ nI 61 = (1 : Int32) by decide), if_neg (show ¬ nI 61 = (2 : Int32) by decide), if_neg (show ¬ nI 61 = (10 : Int32) by decide), if_neg (show ¬ nI 61 = (11 : Int32) by decide), if_neg (show ¬ nI 61 = (20 : Int32) by decide), if_neg (show ¬ nI 61 = (30 : Int32) by decide), if_neg (show ¬ nI 61 = (40 : Int32) by decide), if_neg (show ¬ nI 61 = (41 : Int32) by decide), if_neg (show ¬ nI 61 = (50 : Int32) by decide), if_neg (show ¬ nI 61 = (60 : Int32) by decide), if_pos (show nI 61 = (61 : Int32) from rfl)]
      obtain ⟨q, hq, e⟩ := Option.bind_eq_some_iff.mp h
      obtain ⟨qv, qL⟩ := q
      obtain ⟨rfl, rfl⟩ := Prod.mk.inj (Option.some.inj e)
      simp only [List.length_cons] at hl
      obtain ⟨σ2, eσ2, h2⟩ := abv_ok ih (w := 5) (a := 3) (by omega) (by omega) (by omega) hq (f := f) (dd := dd) (T := T ++ [61]) (by omega) (by omega) h1 (by simp only [List.length_append, List.length_cons, List.length_nil]; omega)
      rw [show (gX0 f).2.1 σ1 (nI i) (5 : Int32) (3 : Int32) n (nI dd) = some (_, σ2) from eσ2, Option.bind_some]
      exact ⟨σ2, rfl, by simpa [List.append_assoc] using h2⟩
    by_cases c70 : b = 70
    · subst c70
      rw [if_neg (show ¬ (70 : Nat) = 1 by decide), if_neg (show ¬ (70 : Nat) = 2 by decide), if_neg (show ¬ (70 : Nat) = 10 by decide), if_neg (show ¬ (70 : Nat) = 11 by decide), if_neg (show ¬ (70 : Nat) = 20 by decide), if_neg (show ¬ (70 : Nat) = 30 by decide), if_neg (show ¬ (70 : Nat) = 40 by decide), if_neg (show ¬ (70 : Nat) = 41 by decide), if_neg (show ¬ (70 : Nat) = 50 by decide), if_neg (show ¬ (70 : Nat) = 60 by decide), if_neg (show ¬ (70 : Nat) = 61 by decide), if_pos (show (70 : Nat) = 70 from rfl)] at h
      rw [if_neg (show ¬ nI 70 = (1 : Int32) by decide), if_neg (show ¬ nI 70 = (2 : Int32) by decide), if_neg (show ¬ nI 70 = (10 : Int32) by decide), if_neg (show ¬ nI 70 = (11 : Int32) by decide), if_neg (show ¬ nI 70 = (20 : Int32) by decide), if_neg (show ¬ nI 70 = (30 : Int32) by decide), if_neg (show ¬ nI 70 = (40 : Int32) by decide), if_neg (show ¬ nI 70 = (41 : Int32) by decide), if_neg (show ¬ nI 70 = (50 : Int32) by decide), if_neg (show ¬ nI 70 = (60 : Int32) by decide), if_neg (show ¬ nI 70 = (61 : Int32) by decide), if_pos (show nI 70 = (70 : Int32) from rfl)]
      obtain ⟨q, hq, e⟩ := Option.bind_eq_some_iff.mp h
      obtain ⟨qv, qL⟩ := q
      obtain ⟨rfl, rfl⟩ := Prod.mk.inj (Option.some.inj e)
      simp only [List.length_cons] at hl
      obtain ⟨σ2, eσ2, h2⟩ := abv_ok ih (w := 6) (a := 0) (by omega) (by omega) (by omega) hq (f := f) (dd := dd) (T := T ++ [70]) (by omega) (by omega) h1 (by simp only [List.length_append, List.length_cons, List.length_nil]; omega)
      rw [show (gX0 f).2.1 σ1 (nI i) (6 : Int32) (0 : Int32) n (nI dd) = some (_, σ2) from eσ2, Option.bind_some]
      exact ⟨σ2, rfl, by simpa [List.append_assoc] using h2⟩
    by_cases c80 : b = 80
    · subst c80
      rw [if_neg (show ¬ (80 : Nat) = 1 by decide), if_neg (show ¬ (80 : Nat) = 2 by decide), if_neg (show ¬ (80 : Nat) = 10 by decide), if_neg (show ¬ (80 : Nat) = 11 by decide), if_neg (show ¬ (80 : Nat) = 20 by decide), if_neg (show ¬ (80 : Nat) = 30 by decide), if_neg (show ¬ (80 : Nat) = 40 by decide), if_neg (show ¬ (80 : Nat) = 41 by decide), if_neg (show ¬ (80 : Nat) = 50 by decide), if_neg (show ¬ (80 : Nat) = 60 by decide), if_neg (show ¬ (80 : Nat) = 61 by decide), if_neg (show ¬ (80 : Nat) = 70 by decide), if_pos (show (80 : Nat) = 80 from rfl)] at h
      rw [if_neg (show ¬ nI 80 = (1 : Int32) by decide), if_neg (show ¬ nI 80 = (2 : Int32) by decide), if_neg (show ¬ nI 80 = (10 : Int32) by decide), if_neg (show ¬ nI 80 = (11 : Int32) by decide), if_neg (show ¬ nI 80 = (20 : Int32) by decide), if_neg (show ¬ nI 80 = (30 : Int32) by decide), if_neg (show ¬ nI 80 = (40 : Int32) by decide), if_neg (show ¬ nI 80 = (41 : Int32) by decide), if_neg (show ¬ nI 80 = (50 : Int32) by decide), if_neg (show ¬ nI 80 = (60 : Int32) by decide), if_neg (show ¬ nI 80 = (61 : Int32) by decide), if_neg (show ¬ nI 80 = (70 : Int32) by decide), if_pos (show nI 80 = (80 : Int32) from rfl)]
      obtain ⟨q, hq, h⟩ := Option.bind_eq_some_iff.mp h
      obtain ⟨r, hr, e⟩ := Option.bind_eq_some_iff.mp h
      obtain ⟨qv, qL⟩ := q
      obtain ⟨rv, rL⟩ := r
      obtain ⟨rfl, rfl⟩ := Prod.mk.inj (Option.some.inj e)
      simp only [List.length_cons, List.length_append] at hl
      obtain ⟨σ2, eσ2, h2⟩ := abv_ok ih (w := 7) (a := 1) (by omega) (by omega) (by omega) hq (f := f) (dd := dd) (T := T ++ [80]) (by omega) (by omega) h1 (by simp only [List.length_append, List.length_cons, List.length_nil]; omega)
      rw [show (gX0 f).2.1 σ1 (nI i) (7 : Int32) (1 : Int32) n (nI dd) = some (_, σ2) from eσ2, Option.bind_some]
      obtain ⟨σ3, eσ3, h3⟩ := own_ok hi hn hb hk0 hk ih (a := 2) (by omega) hr (f := f) (dd := dd) (T := T ++ [80] ++ qL) (by omega) (by omega) h2 (by simp only [List.length_append, List.length_cons, List.length_nil]; omega)
      rw [show (gX0 f).1 σ2 (nI i) (2 : Int32) (2 : Int32) (nI dd) = some (_, σ3) from eσ3, Option.bind_some]
      exact ⟨σ3, rfl, by simpa [List.append_assoc] using h3⟩
    by_cases c81 : b = 81
    · subst c81
      rw [if_neg (show ¬ (81 : Nat) = 1 by decide), if_neg (show ¬ (81 : Nat) = 2 by decide), if_neg (show ¬ (81 : Nat) = 10 by decide), if_neg (show ¬ (81 : Nat) = 11 by decide), if_neg (show ¬ (81 : Nat) = 20 by decide), if_neg (show ¬ (81 : Nat) = 30 by decide), if_neg (show ¬ (81 : Nat) = 40 by decide), if_neg (show ¬ (81 : Nat) = 41 by decide), if_neg (show ¬ (81 : Nat) = 50 by decide), if_neg (show ¬ (81 : Nat) = 60 by decide), if_neg (show ¬ (81 : Nat) = 61 by decide), if_neg (show ¬ (81 : Nat) = 70 by decide), if_neg (show ¬ (81 : Nat) = 80 by decide), if_pos (show (81 : Nat) = 81 from rfl)] at h
      rw [if_neg (show ¬ nI 81 = (1 : Int32) by decide), if_neg (show ¬ nI 81 = (2 : Int32) by decide), if_neg (show ¬ nI 81 = (10 : Int32) by decide), if_neg (show ¬ nI 81 = (11 : Int32) by decide), if_neg (show ¬ nI 81 = (20 : Int32) by decide), if_neg (show ¬ nI 81 = (30 : Int32) by decide), if_neg (show ¬ nI 81 = (40 : Int32) by decide), if_neg (show ¬ nI 81 = (41 : Int32) by decide), if_neg (show ¬ nI 81 = (50 : Int32) by decide), if_neg (show ¬ nI 81 = (60 : Int32) by decide), if_neg (show ¬ nI 81 = (61 : Int32) by decide), if_neg (show ¬ nI 81 = (70 : Int32) by decide), if_neg (show ¬ nI 81 = (80 : Int32) by decide), if_pos (show nI 81 = (81 : Int32) from rfl)]
      obtain ⟨q, hq, e⟩ := Option.bind_eq_some_iff.mp h
      obtain ⟨qv, qL⟩ := q
      obtain ⟨rfl, rfl⟩ := Prod.mk.inj (Option.some.inj e)
      simp only [List.length_cons] at hl
      obtain ⟨σ2, eσ2, h2⟩ := abv_ok ih (w := 7) (a := 0) (by omega) (by omega) (by omega) hq (f := f) (dd := dd) (T := T ++ [81]) (by omega) (by omega) h1 (by simp only [List.length_append, List.length_cons, List.length_nil]; omega)
      rw [show (gX0 f).2.1 σ1 (nI i) (7 : Int32) (0 : Int32) n (nI dd) = some (_, σ2) from eσ2, Option.bind_some]
      exact ⟨σ2, rfl, by simpa [List.append_assoc] using h2⟩
    exfalso
    rw [if_neg c1, if_neg c2, if_neg c10, if_neg c11, if_neg c20, if_neg c30, if_neg c40, if_neg c41, if_neg c50, if_neg c60, if_neg c61, if_neg c70, if_neg c80, if_neg c81] at h
    cases h
