/-! queues: the CHILDREN of a SWING by numbers; each place's TURN; when it begins -/
def la (l : List Nat) (k : Nat) : Nat := l[k]?.getD 0
theorem la_l {l : List Nat} {c k : Nat} (h : k < l.length) : la (l ++ [c]) k = la l k := by
  unfold la
  rw [List.getElem?_append_left h]
theorem la_r {l : List Nat} {c : Nat} : la (l ++ [c]) l.length = c := by
  unfold la
  rw [List.getElem?_concat_length]
  rfl
theorem la_mem {l : List Nat} {k : Nat} (h : k < l.length) : la l k ∈ l := by
  unfold la
  rw [List.getElem?_eq_getElem h]
  exact List.getElem_mem h
theorem la_of {l : List Nat} {c : Nat} (h : c ∈ l) : ∃ k, k < l.length ∧ la l k = c := by
  obtain ⟨k, hk, e⟩ := List.getElem_of_mem h
  refine ⟨k, hk, ?_⟩
  unfold la
  rw [List.getElem?_eq_getElem hk]
  exact e
theorem la_inj {l : List Nat} (hn : l.Nodup) {i j : Nat} (hi : i < l.length) (hj : j < l.length) (h : la l i = la l j) : i = j := by
  unfold la at h
  rw [List.getElem?_eq_getElem hi, List.getElem?_eq_getElem hj] at h
  have h' : l[i] = l[j] := h
  have hp := List.pairwise_iff_getElem.mp hn
  rcases Nat.lt_trichotomy i j with z | z | z
  · exact absurd h' (hp i j hi hj z)
  · exact z
  · exact absurd h'.symm (hp j i hj hi z)
def qP (V : Nat → Nat → Int32) (ch s k : Nat) : List Nat := (List.range k).filter (fun c => decide (c < ch ∧ vN V 5 c = s))
def qL (V : Nat → Nat → Int32) (ch s : Nat) : List Nat := qP V ch s 9
theorem qP_s {V : Nat → Nat → Int32} {ch s k : Nat} : qP V ch s (k + 1) = if k < ch ∧ vN V 5 k = s then qP V ch s k ++ [k] else qP V ch s k := by
  unfold qP
  rw [List.range_succ, List.filter_append]
  by_cases h : k < ch ∧ vN V 5 k = s
  · rw [if_pos h]
    simp [h]
  · rw [if_neg h]
    simp [h]
theorem qP_0 {V : Nat → Nat → Int32} {ch s : Nat} : qP V ch s 0 = [] := rfl
theorem qP_len {V : Nat → Nat → Int32} {ch s k : Nat} : (qP V ch s k).length ≤ k := by
  have := List.length_filter_le (fun c => decide (c < ch ∧ vN V 5 c = s)) (List.range k)
  rw [List.length_range] at this
  exact this
theorem qP_mem {V : Nat → Nat → Int32} {ch s k c : Nat} : c ∈ qP V ch s k ↔ c < k ∧ c < ch ∧ vN V 5 c = s := by
  unfold qP
  rw [List.mem_filter, List.mem_range, decide_eq_true_iff]
theorem qP_nd {V : Nat → Nat → Int32} {ch s k : Nat} : (qP V ch s k).Nodup := List.Nodup.sublist List.filter_sublist List.nodup_range
theorem qP_ch {V : Nat → Nat → Int32} {ch s : Nat} (m : Nat) : qP V ch s (ch + m) = qP V ch s ch := by
  induction m with
  | zero => rfl
  | succ m ih =>
    rw [show ch + (m + 1) = ch + m + 1 by omega, qP_s, if_neg (by omega), ih]
theorem qL_ch {V : Nat → Nat → Int32} {ch s : Nat} (h : ch ≤ 9) : qP V ch s ch = qL V ch s := by
  have := qP_ch (V := V) (ch := ch) (s := s) (9 - ch)
  rw [show ch + (9 - ch) = 9 by omega] at this
  exact this.symm
theorem qL_mem {V : Nat → Nat → Int32} {ch s c : Nat} (h : ch ≤ 9) : c ∈ qL V ch s ↔ c < ch ∧ vN V 5 c = s := by
  unfold qL
  rw [qP_mem]
  omega
/-- a row of cells holds a queue -/
def lR (f : Nat → Int32) (l : List Nat) : Prop := ∀ k, k < l.length → f k = nI (la l k)
theorem lR.snoc {f f' : Nat → Int32} {l : List Nat} {c : Nat} (h : lR f l) (h1 : f' l.length = nI c) (h2 : ∀ k, k < l.length → f' k = f k) : lR f' (l ++ [c]) := by
  intro k hk
  rw [List.length_append, List.length_singleton] at hk
  by_cases a : k = l.length
  · subst a
    rw [la_r, h1]
  · rw [la_l (by omega), h2 k (by omega), h k (by omega)]
/-- a queue as it may be -/
def qOk (ch : Nat) (l : List Nat) : Prop := l.Nodup ∧ (∀ c, c ∈ l → c < ch) ∧ l.length ≤ 9
theorem qL_ok {V : Nat → Nat → Int32} {ch s : Nat} (h : ch ≤ 9) : qOk ch (qL V ch s) := ⟨qP_nd, fun c hc => ((qL_mem h).mp hc).1, qP_len⟩
def bhd (n p : Nat) : Nat := if p + 1 < n then p + 1 else 0
/-- who counts for the one at a place -/
def tld (l : List Nat) (p : Nat) : Nat := if 1 < l.length then la l (bhd l.length p) else 9
theorem bhd_lt {n p : Nat} (h : p < n) : bhd n p < n := by
  unfold bhd
  by_cases a : p + 1 < n
  · rw [if_pos a]; exact a
  · rw [if_neg a]; omega
theorem tld_ok {ch : Nat} {l : List Nat} (h : qOk ch l) {p : Nat} (hp : p < l.length) : cOk ch (tld l p) (la l p) := by
  unfold tld
  by_cases a : 1 < l.length
  · rw [if_pos a]
    have hb := bhd_lt hp
    refine Or.inr ⟨h.2.1 _ (la_mem hb), fun z => ?_⟩
    have := la_inj h.1 hb hp z
    unfold bhd at this
    by_cases b : p + 1 < l.length
    · rw [if_pos b] at this; omega
    · rw [if_neg b] at this; omega
  · rw [if_neg a]
    exact Or.inl rfl
def dS (V : Nat → Nat → Int32) (lw : jL) (s : Nat) (l : List Nat) (p : Nat) : Nat := tSec V lw s (la l p) (tld l p) (l.length - 1)
def dN (V : Nat → Nat → Int32) (lw : jL) (s : Nat) (l : List Nat) (p : Nat) : Nat := tN V lw s (la l p) (tld l p) (l.length - 1)
/-! the class's lines -/
theorem jLn_b {o : Nat} (h : jLn o) : 17 ≤ o ∧ o ≤ 27 := by
  rcases h with rfl | rfl | rfl <;> decide
theorem sX5_formL {ch : Nat} {V : Nat → Nat → Int32} {o s : Nat} (ho : jLn o) (hg : nG ch V) (hs : s < 3) : ∀ (n k f : Nat) (σ : jS), k + n = 9 → n < f → nX σ ch V → σ.1 o 2 = nI s → σ.1 o 7 = nI (qP V ch s k).length → lR (σ.1 (o + 1)) (qP V ch s k) → ∃ σ', (∀ j66, jloop (fX5_form_B7 o j66) f (σ, nI k) = j66 σ') ∧ jOff [o, o + 1] σ σ' ∧ σ'.1 o 2 = nI s ∧ σ'.1 o 7 = nI (qL V ch s).length ∧ lR (σ'.1 (o + 1)) (qL V ch s) := by
  intro n
  have hb := jLn_b ho
  induction n with
  | zero =>
    intro k f σ hk hf hx h2 h7 hq
    obtain ⟨f, rfl⟩ : ∃ g, f = g + 1 := ⟨f - 1, by omega⟩
    obtain rfl : k = 9 := by omega
    refine ⟨σ, fun j => ?_, jOff.rf, h2, h7, hq⟩
    rw [jloop_s]
    unfold fX5_form_B7
    rw [if_pos (show (9 : Int32) ≤ nI 9 by decide)]
  | succ n ih =>
    intro k f σ hk hf hx h2 h7 hq
    obtain ⟨f, rfl⟩ : ∃ g, f = g + 1 := ⟨f - 1, by omega⟩
    have k9 : ¬ (9 : Int32) ≤ nI k := by rw [show (9 : Int32) = nI 9 from rfl, nI_leI (by omega) (by omega)]; omega
    have hl := qP_len (V := V) (ch := ch) (s := s) (k := k)
    by_cases a : k < ch ∧ vN V 5 k = s
    · have e : qP V ch s (k + 1) = qP V ch s k ++ [k] := by rw [qP_s, if_pos a]
      have o1 : jOff [o, o + 1] σ (ju (ju σ (o + 1) (qP V ch s k).length (nI k)) o 7 (nI ((qP V ch s k).length + 1))) := (jOff.u (by simp)).uT (by simp)
      obtain ⟨σ', h1, h2', h3, h4, h5⟩ := ih (k + 1) f (ju (ju σ (o + 1) (qP V ch s k).length (nI k)) o 7 (nI ((qP V ch s k).length + 1))) (by omega) (by omega) (hx.off o1 (by simp <;> omega) (by simp <;> omega)) (by rw [ju_i (by decide), ju_n (by omega), h2]) (by rw [ju_s, e, List.length_append]; rfl) (by
        rw [e]
        refine hq.snoc ?_ (fun j hj => ?_)
        · rw [ju_n (by omega), ju_s]
        · rw [ju_n (by omega), ju_i (by omega)])
      refine ⟨σ', fun j => ?_, o1.trans h2', h3, h4, h5⟩
      rw [jloop_s, ← h1 j, fX5_form_B7_eq]
      rw [if_neg k9, sX6_isChild hx, Option.bind_some]
      simp only [jb_jo, isCh_n (show k < 2 ^ 31 by omega)]
      rw [if_neg (fun z => z a.1), sX6_vc hx hg 5 5 rfl (jk0 (by omega) a.1), Option.bind_some, a.2, h2, if_pos rfl, h7, ob_nI (by omega) (by omega), jst_e, nI_cl (by omega), jst_e, ju_n (by omega), h7, nI_1]
      unfold fX5_form_B7_J60
      rw [nI_1]
    · have e : qP V ch s (k + 1) = qP V ch s k := by rw [qP_s, if_neg a]
      obtain ⟨σ', h1, h2', h3, h4, h5⟩ := ih (k + 1) f σ (by omega) (by omega) hx h2 (by rw [e, h7]) (by rw [e]; exact hq)
      refine ⟨σ', fun j => ?_, h2', h3, h4, h5⟩
      rw [jloop_s, ← h1 j, fX5_form_B7_eq]
      rw [if_neg k9, sX6_isChild hx, Option.bind_some]
      simp only [jb_jo, isCh_n (show k < 2 ^ 31 by omega)]
      unfold fX5_form_B7_J60
      rw [nI_1]
      by_cases b : k < ch
      · have v5 := (vN_eq hg (jk0 (w := 5) (by omega) b)).2
        have b5 : jhi 5 = 3 := rfl
        rw [if_neg (fun z => z b), sX6_vc hx hg 5 5 rfl (jk0 (by omega) b), Option.bind_some, h2, if_neg (fun z => a ⟨b, (nI_eq (by omega) (by omega)).mp z⟩)]
      · rw [if_pos b]
theorem sJ7_fillI {o : Nat} (ho : jLn o) : ∀ (n k f : Nat) (σ : jS), k + n = 9 → n < f → (∀ j, j < k → σ.1 (o + 4) j = 0) → ∃ σ', jloop (fJ7_fillI_B5 o 0) f (σ, nI k) = some σ' ∧ jOff [o + 4] σ σ' ∧ ∀ j, j < 9 → σ'.1 (o + 4) j = 0 := by
  intro n
  induction n with
  | zero =>
    intro k f σ hk hf h
    obtain ⟨f, rfl⟩ : ∃ g, f = g + 1 := ⟨f - 1, by omega⟩
    obtain rfl : k = 9 := by omega
    refine ⟨σ, ?_, jOff.rf, h⟩
    rw [jloop_s]
    unfold fJ7_fillI_B5
    rw [if_pos (show (9 : Int32) ≤ nI 9 by decide)]
  | succ n ih =>
    intro k f σ hk hf h
    obtain ⟨f, rfl⟩ : ∃ g, f = g + 1 := ⟨f - 1, by omega⟩
    have k9 : ¬ (9 : Int32) ≤ nI k := by rw [show (9 : Int32) = nI 9 from rfl, nI_leI (by omega) (by omega)]; omega
    obtain ⟨σ', h1, h2, h3⟩ := ih (k + 1) f (ju σ (o + 4) k 0) (by omega) (by omega) (fun j hj => by
      rw [ju_r]
      by_cases a : j = k
      · rw [if_pos a]
      · rw [if_neg a]; exact h j (by omega))
    refine ⟨σ', ?_, (jOff.u (by simp)).trans h2, h3⟩
    rw [jloop_s, ← h1]
    unfold fJ7_fillI_B5
    rw [if_neg k9, ob_nI (by omega) (by omega), jst_e, nI_cl (by omega), nI_1]
/-- a line that has formed -/
def lnX (σ : jS) (o s : Nat) (l : List Nat) : Prop := σ.1 o 2 = nI s ∧ σ.1 o 7 = nI l.length ∧ lR (σ.1 (o + 1)) l
theorem lnX.go {S : List Nat} {σ σ' : jS} {o s : Nat} {l : List Nat} (h : lnX σ o s l) (k : jOff S σ σ') (h1 : o ∉ S) (h2 : o + 1 ∉ S) : lnX σ' o s l := by
  unfold lnX at *
  rw [k.1 o h1, k.1 (o + 1) h2]
  exact h
theorem sX5_form {ch : Nat} {V : Nat → Nat → Int32} {σ : jS} {o s : Nat} (ho : jLn o) (hx : nX σ ch V) (hg : nG ch V) (hs : s < 3) (h2 : σ.1 o 2 = nI s) : ∃ σ', fX5_form o σ = some σ' ∧ jOff [o, o + 1, o + 4] σ σ' ∧ lnX σ' o s (qL V ch s) ∧ ∀ j, j < 9 → σ'.1 (o + 4) j = 0 := by
  have hb := jLn_b ho
  rw [fX5_form_eq, jst_e]
  have o0 : jOff [o, o + 1, o + 4] σ (ju σ o 7 0) := jOff.u (by simp)
  obtain ⟨U, h1, o1, u2, u7, uq⟩ := sX5_formL ho hg hs 9 0 jN (ju σ o 7 0) (by omega) (by have := jN_ge; omega) (hx.off o0 (by simp <;> omega) (by simp <;> omega)) (by rw [ju_i (by decide), h2]) (by rw [ju_s]; rfl) (fun k hk => absurd hk (by rw [qP_0]; exact Nat.not_lt_zero _))
  have h1' : ∀ j66, jloop (fX5_form_B7 o j66) jN (ju σ o 7 0, (0 : Int32)) = j66 U := h1
  rw [h1']
  unfold fX5_form_J66 fJ7_fillI
  obtain ⟨W, e, oW, hW⟩ := sJ7_fillI ho 9 0 jN U (by omega) (by have := jN_ge; omega) (fun j hj => absurd hj (by omega))
  have e' : jloop (fJ7_fillI_B5 o 0) jN (U, (0 : Int32)) = some W := e
  rw [e', Option.bind_some]
  have l1 : lnX U o s (qL V ch s) := ⟨u2, u7, uq⟩
  exact ⟨W, rfl, (o0.trans (o1.mono (by simp))).trans (oW.mono (by simp)), l1.go oW (by simp) (by simp), hW⟩
theorem sX5_behind {σ : jS} {o s : Nat} {l : List Nat} (h : lnX σ o s l) {p : Nat} (hp : p < 1000) (hl : l.length ≤ 9) : fX5_behind o σ (nI p) = some (nI (bhd l.length p)) := by
  unfold fX5_behind bhd
  rw [h.2.1, nI_1]
  by_cases a : p + 1 < l.length
  · rw [if_pos a, if_neg (fun z => by have := (nI_leI (by omega) (by omega)).mp z; omega)]
  · rw [if_neg a, if_pos ((nI_leI (by omega) (by omega)).mpr (by omega))]
    rfl
/-- what is foreseen of each place -/
def lnF (σ : jS) (o : Nat) (V : Nat → Nat → Int32) (lw : jL) (s : Nat) (l : List Nat) (k : Nat) : Prop := ∀ p, p < k → σ.1 (o + 2) p = nI (dS V lw s l p) ∧ σ.1 (o + 3) p = nI (dN V lw s l p)
theorem lnF.go {S : List Nat} {σ σ' : jS} {o s k : Nat} {V : Nat → Nat → Int32} {lw : jL} {l : List Nat} (h : lnF σ o V lw s l k) (j : jOff S σ σ') (h1 : o + 2 ∉ S) (h2 : o + 3 ∉ S) : lnF σ' o V lw s l k := by
  unfold lnF at *
  rw [j.1 _ h1, j.1 _ h2]
  exact h
theorem sX5_foreseeL {ch : Nat} {V : Nat → Nat → Int32} {lw : jL} {o s : Nat} {l : List Nat} (ho : jLn o) (hg : nG ch V) (hO : lOk lw) (hs : s < 3) (hl : qOk ch l) : ∀ (n k f : Nat) (σ : jS), k + n = l.length → n < f → nX σ ch V → lX σ lw → lnX σ o s l → lnF σ o V lw s l k → ∃ σ', jloop (fX5_foresee_B2 o) f (σ, nI k) = some σ' ∧ jOff [11, 12, 14, 15, o + 2, o + 3] σ σ' ∧ lnF σ' o V lw s l l.length := by
  intro n
  have hb := jLn_b ho
  have h9 := hl.2.2
  induction n with
  | zero =>
    intro k f σ hk hf hx hlx hL hF
    obtain ⟨f, rfl⟩ : ∃ g, f = g + 1 := ⟨f - 1, by omega⟩
    obtain rfl : k = l.length := by omega
    refine ⟨σ, ?_, jOff.rf, hF⟩
    rw [jloop_s]
    unfold fX5_foresee_B2
    rw [if_pos (show σ.1 o 7 ≤ nI l.length by rw [hL.2.1]; exact Int32.le_refl _)]
  | succ n ih =>
    intro k f σ hk hf hx hlx hL hF
    obtain ⟨f, rfl⟩ : ∃ g, f = g + 1 := ⟨f - 1, by omega⟩
    have hkl : k < l.length := by omega
    have hc : la l k < ch := hl.2.1 _ (la_mem hkl)
    obtain ⟨U, eU, oU, TU, _⟩ := sX8_think (q := l.length - 1) hx hg hlx hO hs hc (tld_ok hl hkl)
    have o1 : jOff [11, 12, 14, 15, o + 2, o + 3] σ (ju (ju U (o + 2) k (nI (dS V lw s l k))) (o + 3) k (nI (dN V lw s l k))) := ((oU.mono (by simp)).uT (by simp)).uT (by simp)
    have hLU : lnX U o s l := hL.go oU (by simp <;> omega) (by simp <;> omega)
    obtain ⟨σ', h1, h2, h3⟩ := ih (k + 1) f (ju (ju U (o + 2) k (nI (dS V lw s l k))) (o + 3) k (nI (dN V lw s l k))) (by omega) (by omega) (hx.off o1 (by simp <;> omega) (by simp <;> omega)) (hlx.go o1 (by simp <;> omega) (by simp <;> omega)) (hL.go o1 (by simp <;> omega) (by simp <;> omega)) (by
      intro p hp
      rw [ju_n (show o + 2 ≠ o + 3 by omega), ju_r, ju_r, ju_n (show o + 3 ≠ o + 2 by omega)]
      by_cases a : p = k
      · rw [if_pos a, if_pos a, a]
        exact ⟨rfl, rfl⟩
      · rw [if_neg a, if_neg a, oU.1 _ (by simp <;> omega), oU.1 _ (by simp <;> omega)]
        exact hF p (by omega))
    refine ⟨σ', ?_, o1.trans h2, h3⟩
    rw [jloop_s, ← h1, fX5_foresee_B2_eq]
    have e0 : ¬ σ.1 o 7 ≤ nI k := by rw [hL.2.1, nI_leI (by omega) (by omega)]; omega
    rw [if_neg e0]
    have key : fX5_foresee_B2_J33 o (jloop (fX5_foresee_B2 o) f) (σ, nI k) (nI (tld l k)) = jloop (fX5_foresee_B2 o) f (ju (ju U (o + 2) k (nI (dS V lw s l k))) (o + 3) k (nI (dN V lw s l k)), nI (k + 1)) := by
      unfold fX5_foresee_B2_J33
      show (ob (nI k) 9 (Option.bind (fX8_think σ (σ.1 o 2) (σ.1 (o + 1) (nI k).toNatClampNeg) (nI (tld l k)) ((σ.1 o 7) - (1 : Int32))) fun (q1 : jS) => _)) = _
      rw [ob_nI (by omega) (by omega), nI_cl (by omega), hL.1, hL.2.2 k hkl, hL.2.1, show nI l.length - (1 : Int32) = nI (l.length - 1) from pk_sub (a := l.length) (b := 1) (by omega), eU, Option.bind_some]
      show (ob (nI k) 9 (jst (ju U (o + 2) k (U.1 14 4)) fun (σ2 : jS) => (ob (nI k) 9 (jst (ju σ2 (o + 3) k (σ2.1 14 3)) fun (σ3 : jS) => (jloop (fX5_foresee_B2 o) f (σ3, (nI k + (1 : Int32)))))))) = _
      rw [ob_nI (by omega) (by omega), jst_e, ob_nI (by omega) (by omega), jst_e, ju_n (by omega), TU.2.2.2.1, TU.2.2.2.2.1, nI_1]
      rfl
    show (if (σ.1 o 7) ≤ (1 : Int32) then _ else _) = _
    rw [hL.2.1]
    by_cases a : 1 < l.length
    · rw [if_neg (show ¬ nI l.length ≤ (1 : Int32) from fun z => by have := (nI_leI (a := l.length) (b := 1) (by omega) (by omega)).mp z; omega)]
      show (Option.bind (fX5_behind o σ (nI k)) fun (q4 : Int32) => (ob q4 9 (fX5_foresee_B2_J33 o (jloop (fX5_foresee_B2 o) f) (σ, nI k) (σ.1 (o + 1) (q4).toNatClampNeg)))) = _
      have hbl := bhd_lt hkl
      have et : la l (bhd l.length k) = tld l k := by unfold tld; rw [if_pos a]
      rw [sX5_behind hL (by omega) h9, Option.bind_some, ob_nI (by omega) (by omega), nI_cl (by omega), hL.2.2 _ hbl, et, key]
    · rw [if_pos (show nI l.length ≤ (1 : Int32) from (nI_leI (a := l.length) (b := 1) (by omega) (by omega)).mpr (by omega))]
      have et : tld l k = 9 := by unfold tld; rw [if_neg a]
      rw [et] at key
      exact key
theorem sX5_foresee {ch : Nat} {V : Nat → Nat → Int32} {lw : jL} {σ : jS} {o s : Nat} {l : List Nat} (ho : jLn o) (hx : nX σ ch V) (hg : nG ch V) (hlx : lX σ lw) (hO : lOk lw) (hs : s < 3) (hl : qOk ch l) (hL : lnX σ o s l) : ∃ σ', fX5_foresee o σ = some σ' ∧ jOff [11, 12, 14, 15, o + 2, o + 3] σ σ' ∧ lnF σ' o V lw s l l.length := by
  unfold fX5_foresee
  have h9 := hl.2.2
  exact sX5_foreseeL ho hg hO hs hl l.length 0 jN σ (by omega) (by have := jN_ge; omega) hx hlx hL (fun p hp => absurd hp (by omega))
theorem sX5_placeOfL {σ : jS} {o s : Nat} {l : List Nat} (hL : lnX σ o s l) (hn : l.Nodup) (h9 : l.length ≤ 9) {p : Nat} (hp : p < l.length) (hc : la l p < 2 ^ 31) (hall : ∀ c, c ∈ l → c < 2 ^ 31) : ∀ (n k f : Nat), k + n = p → n < f → jloop (fX5_placeOf_B2 o σ (nI (la l p))) f (nI k) = some (nI p) := by
  intro n
  induction n with
  | zero =>
    intro k f hk hf
    obtain ⟨f, rfl⟩ : ∃ g, f = g + 1 := ⟨f - 1, by omega⟩
    obtain rfl : k = p := by omega
    rw [jloop_s]
    unfold fX5_placeOf_B2
    rw [hL.2.1, if_neg (fun z => by have := (nI_leI (by omega) (by omega)).mp z; omega), ob_nI (by omega) (by omega), nI_cl (by omega), hL.2.2 _ hp, if_pos rfl]
  | succ n ih =>
    intro k f hk hf
    obtain ⟨f, rfl⟩ : ∃ g, f = g + 1 := ⟨f - 1, by omega⟩
    rw [jloop_s, ← ih (k + 1) f (by omega) (by omega)]
    unfold fX5_placeOf_B2
    have hkl : k < l.length := by omega
    rw [hL.2.1, if_neg (fun z => by have := (nI_leI (by omega) (by omega)).mp z; omega), ob_nI (by omega) (by omega), nI_cl (by omega), hL.2.2 _ hkl, if_neg (fun z => by have := la_inj hn hkl hp ((nI_eq (hall _ (la_mem hkl)) hc).mp z); omega), nI_1]
theorem sX5_placeOf {σ : jS} {ch o s : Nat} {l : List Nat} (hL : lnX σ o s l) (hl : qOk ch l) (h9 : ch ≤ 9) {p : Nat} (hp : p < l.length) : fX5_placeOf o σ (nI (la l p)) = some (nI p) := by
  unfold fX5_placeOf
  have hall : ∀ c, c ∈ l → c < 2 ^ 31 := fun c hc => by have := hl.2.1 c hc; omega
  have := hl.2.2
  exact sX5_placeOfL hL hl.1 hl.2.2 hp (hall _ (la_mem hp)) hall p 0 jN (by omega) (by have := jN_ge; omega)
theorem sX5_placeNoL {σ : jS} {o s : Nat} {l : List Nat} (hL : lnX σ o s l) (h9 : l.length ≤ 9) {c : Int32} (hc : ∀ k, k < l.length → ¬ nI (la l k) = c) : ∀ (n k f : Nat), k + n = l.length → n < f → jloop (fX5_placeOf_B2 o σ c) f (nI k) = some (-1) := by
  intro n
  induction n with
  | zero =>
    intro k f hk hf
    obtain ⟨f, rfl⟩ : ∃ g, f = g + 1 := ⟨f - 1, by omega⟩
    obtain rfl : k = l.length := by omega
    rw [jloop_s]
    unfold fX5_placeOf_B2
    rw [hL.2.1, if_pos (Int32.le_refl _)]
  | succ n ih =>
    intro k f hk hf
    obtain ⟨f, rfl⟩ : ∃ g, f = g + 1 := ⟨f - 1, by omega⟩
    rw [jloop_s, ← ih (k + 1) f (by omega) (by omega)]
    unfold fX5_placeOf_B2
    have hkl : k < l.length := by omega
    rw [hL.2.1, if_neg (fun z => by have := (nI_leI (by omega) (by omega)).mp z; omega), ob_nI (by omega) (by omega), nI_cl (by omega), hL.2.2 _ hkl, if_neg (hc k hkl), nI_1]
theorem sX5_placeNo {σ : jS} {ch o s : Nat} {l : List Nat} (hL : lnX σ o s l) (hl : qOk ch l) (h9 : ch ≤ 9) {c : Nat} (hc : c ∉ l) (hc2 : c < 2 ^ 31) : fX5_placeOf o σ (nI c) = some (-1) := by
  unfold fX5_placeOf
  have := hl.2.2
  refine sX5_placeNoL hL hl.2.2 (fun k hk z => hc ?_) l.length 0 jN (by omega) (by have := jN_ge; omega)
  have hm := la_mem hk
  have := hl.2.1 _ hm
  rw [← (nI_eq (by omega) hc2).mp z]
  exact hm
/-! turns of an AFTERNOON: seconds behind j of them, how often each place, how many to the BELL -/
def rT (d : Nat → Nat) (n : Nat) : Nat → Nat
  | 0 => 0
  | j + 1 => rT d n j + d (j % n)
def rO (n p : Nat) : Nat → Nat
  | 0 => 0
  | j + 1 => rO n p j + if j % n = p then 1 else 0
def rJ (d : Nat → Nat) (n bell : Nat) : Nat → Nat → Nat
  | 0, j => j
  | f + 1, j => if bell < rT d n (j + 1) then j else rJ d n bell f (j + 1)
def rA (d : Nat → Nat) (n bell : Nat) : Nat := rJ d n bell 3600 0
theorem rT_ge {d : Nat → Nat} {n : Nat} (hn : 0 < n) (hd : ∀ p, p < n → 1 ≤ d p) (j : Nat) : j ≤ rT d n j := by
  induction j with
  | zero => exact Nat.le_refl _
  | succ j ih =>
    have := hd (j % n) (Nat.mod_lt _ hn)
    show j + 1 ≤ rT d n j + d (j % n)
    omega
theorem rT_mono {d : Nat → Nat} {n : Nat} {i j : Nat} (h : i ≤ j) : rT d n i ≤ rT d n j := by
  induction j with
  | zero => obtain rfl : i = 0 := by omega
            exact Nat.le_refl _
  | succ j ih =>
    by_cases a : i = j + 1
    · rw [a]; exact Nat.le_refl _
    · have := ih (by omega)
      show rT d n i ≤ rT d n j + d (j % n)
      omega
theorem rJ_b {d : Nat → Nat} {n bell : Nat} : ∀ f j, rT d n j ≤ bell → j ≤ rJ d n bell f j ∧ rJ d n bell f j ≤ j + f ∧ rT d n (rJ d n bell f j) ≤ bell ∧ (rJ d n bell f j < j + f → bell < rT d n (rJ d n bell f j + 1)) := by
  intro f
  induction f with
  | zero => intro j h; exact ⟨Nat.le_refl _, Nat.le_refl _, h, fun z => absurd z (by show ¬ j < j + 0; omega)⟩
  | succ f ih =>
    intro j h
    have e : rJ d n bell (f + 1) j = if bell < rT d n (j + 1) then j else rJ d n bell f (j + 1) := rfl
    rw [e]
    by_cases a : bell < rT d n (j + 1)
    · rw [if_pos a]
      exact ⟨Nat.le_refl _, by omega, h, fun _ => a⟩
    · rw [if_neg a]
      have := ih (j + 1) (by omega)
      refine ⟨by omega, by omega, this.2.2.1, fun z => this.2.2.2 (by omega)⟩
theorem rA_b {d : Nat → Nat} {n bell : Nat} (hn : 0 < n) (hd : ∀ p, p < n → 1 ≤ d p) (hb : bell ≤ 3600) : rA d n bell ≤ 3600 ∧ rT d n (rA d n bell) ≤ bell ∧ bell < rT d n (rA d n bell + 1) := by
  have h := rJ_b (d := d) (n := n) (bell := bell) 3600 0 (Nat.zero_le _)
  unfold rA
  refine ⟨by omega, h.2.2.1, ?_⟩
  by_cases a : rJ d n bell 3600 0 < 0 + 3600
  · exact h.2.2.2 a
  · have := rT_ge hn hd (rJ d n bell 3600 0 + 1)
    omega
theorem rA_lt {d : Nat → Nat} {n bell : Nat} (hn : 0 < n) (hd : ∀ p, p < n → 1 ≤ d p) (hb : bell ≤ 3600) (p : Nat) : p < rA d n bell ↔ rT d n (p + 1) ≤ bell := by
  have h := rA_b hn hd hb
  constructor
  · intro z
    have := rT_mono (d := d) (n := n) (show p + 1 ≤ rA d n bell from z)
    omega
  · intro z
    by_cases a : p < rA d n bell
    · exact a
    · have := rT_mono (d := d) (n := n) (show rA d n bell + 1 ≤ p + 1 by omega)
      omega
/-- when the first TURN of a place begins -/
def bgn (d : Nat → Nat) (n bell p : Nat) : Int32 := if p < rA d n bell then nI (rT d n p) else -2
theorem sX5_beginOfL {ch : Nat} {V : Nat → Nat → Int32} {lw : jL} {σ : jS} {o s : Nat} {l : List Nat} (hL : lnX σ o s l) (hF : lnF σ o V lw s l l.length) (hl : qOk ch l) (h9 : ch ≤ 9) (hO : lOk lw) {bell : Nat} (hb : bell ≤ 3600) {p : Nat} (hp : p < l.length) : ∀ (n k f : Nat), k + n = p → n < f → rT (dS V lw s l) l.length k ≤ bell → jloop (fX5_beginOf_B5 o σ (nI (la l p)) (nI bell)) f (nI (rT (dS V lw s l) l.length k), nI k) = some (bgn (dS V lw s l) l.length bell p) := by
  have h9l := hl.2.2
  have hn : 0 < l.length := by omega
  have hd : ∀ p, p < l.length → 1 ≤ dS V lw s l p := fun p _ => (tSec_b hO V s _ _ _).1
  have hd2 : ∀ p, dS V lw s l p ≤ 1200 := fun p => (tSec_b hO V s _ _ _).2
  have hall : ∀ c, c ∈ l → c < 2 ^ 31 := fun c hc => by have := hl.2.1 c hc; omega
  intro n
  induction n with
  | zero =>
    intro k f hk hf ht
    obtain ⟨f, rfl⟩ : ∃ g, f = g + 1 := ⟨f - 1, by omega⟩
    obtain rfl : k = p := by omega
    rw [jloop_s]
    unfold fX5_beginOf_B5
    show (if (σ.1 o 7) ≤ nI k then (some (-2 : Int32)) else (ob (nI k) 9 (if (nI (rT (dS V lw s l) l.length k) + (σ.1 (o + 2) (nI k).toNatClampNeg)) ≤ nI bell then (ob (nI k) 9 (if (σ.1 (o + 1) (nI k).toNatClampNeg) = nI (la l k) then (some (nI (rT (dS V lw s l) l.length k))) else _)) else (some (-2 : Int32))))) = _
    rw [hL.2.1, if_neg (fun z => by have := (nI_leI (by omega) (by omega)).mp z; omega), ob_nI (by omega) (by omega), ob_nI (by omega) (by omega), nI_cl (by omega), hL.2.2 _ hp, if_pos rfl, (hF k hp).1, nI_add]
    have e1 : rT (dS V lw s l) l.length (k + 1) = rT (dS V lw s l) l.length k + dS V lw s l k := by
      show rT (dS V lw s l) l.length k + dS V lw s l (k % l.length) = _
      rw [Nat.mod_eq_of_lt hp]
    have h1 := rA_lt hn hd hb k
    have h2 := hd2 k
    unfold bgn
    by_cases a : k < rA (dS V lw s l) l.length bell
    · rw [if_pos a, if_pos ((nI_leI (by omega) (by omega)).mpr (by rw [← e1]; exact h1.mp a))]
    · rw [if_neg a, if_neg (fun z => a (h1.mpr (by rw [e1]; exact (nI_leI (by omega) (by omega)).mp z)))]
  | succ n ih =>
    intro k f hk hf ht
    obtain ⟨f, rfl⟩ : ∃ g, f = g + 1 := ⟨f - 1, by omega⟩
    have hkl : k < l.length := by omega
    have e1 : rT (dS V lw s l) l.length (k + 1) = rT (dS V lw s l) l.length k + dS V lw s l k := by
      show rT (dS V lw s l) l.length k + dS V lw s l (k % l.length) = _
      rw [Nat.mod_eq_of_lt hkl]
    have h2 := hd2 k
    rw [jloop_s]
    unfold fX5_beginOf_B5
    show (if (σ.1 o 7) ≤ nI k then (some (-2 : Int32)) else (ob (nI k) 9 (if (nI (rT (dS V lw s l) l.length k) + (σ.1 (o + 2) (nI k).toNatClampNeg)) ≤ nI bell then (ob (nI k) 9 (if (σ.1 (o + 1) (nI k).toNatClampNeg) = nI (la l p) then (some (nI (rT (dS V lw s l) l.length k))) else (ob (nI k) 9 (jloop (fX5_beginOf_B5 o σ (nI (la l p)) (nI bell)) f ((nI (rT (dS V lw s l) l.length k) + (σ.1 (o + 2) (nI k).toNatClampNeg)), (nI k + (1 : Int32))))))) else (some (-2 : Int32))))) = _
    rw [hL.2.1, if_neg (fun z => by have := (nI_leI (by omega) (by omega)).mp z; omega), ob_nI (by omega) (by omega), ob_nI (by omega) (by omega), ob_nI (by omega) (by omega), nI_cl (by omega), hL.2.2 _ hkl, (hF k hkl).1, nI_add, nI_1, ← e1]
    by_cases a : rT (dS V lw s l) l.length (k + 1) ≤ bell
    · rw [if_pos ((nI_leI (by omega) (by omega)).mpr a), if_neg (fun z => by have := la_inj hl.1 hkl hp ((nI_eq (hall _ (la_mem hkl)) (hall _ (la_mem hp))).mp z); omega)]
      exact ih (k + 1) f (by omega) (by omega) a
    · rw [if_neg (fun z => a ((nI_leI (by omega) (by omega)).mp z))]
      unfold bgn
      rw [if_neg]
      intro z
      have h1 := (rA_lt hn hd hb p).mp z
      have := rT_mono (d := dS V lw s l) (n := l.length) (show k + 1 ≤ p + 1 by omega)
      omega
theorem sX5_beginOf {ch : Nat} {V : Nat → Nat → Int32} {lw : jL} {σ : jS} {o s : Nat} {l : List Nat} (hL : lnX σ o s l) (hF : lnF σ o V lw s l l.length) (hl : qOk ch l) (h9 : ch ≤ 9) (hO : lOk lw) {bell : Nat} (hb : bell ≤ 3600) {p : Nat} (hp : p < l.length) : fX5_beginOf o σ (nI (la l p)) (nI bell) = some (bgn (dS V lw s l) l.length bell p) := by
  unfold fX5_beginOf
  have := hl.2.2
  exact sX5_beginOfL hL hF hl h9 hO hb hp p 0 jN (by omega) (by have := jN_ge; omega) (Nat.zero_le _)
