/-! orders of a queue's places, one behind another: as the class goes on, as the reference goes into them -/
def swp (l : List Nat) (a b : Nat) : List Nat := (l.set a (la l b)).set b (la l a)
def gI (l : List Nat) : Nat → Option Nat
  | 0 => none
  | i + 1 => if la l (i + 1) < la l i then gI l i else some i
def jI (l : List Nat) (g : Nat) : Nat → Nat
  | 0 => 0
  | j + 1 => if j + 1 ≤ g then j + 1 else if la l (j + 1) < la l g then jI l g j else j + 1
def rvl : Nat → List Nat → Nat → Nat → List Nat
  | 0, l, _, _ => l
  | m + 1, l, lo, hi => if hi ≤ lo then l else rvl m (swp l lo hi) (lo + 1) (hi - 1)
def nxt (l : List Nat) : Option (List Nat) := match gI l (l.length - 1) with
  | none => none
  | some g => some (rvl 6 (swp l g (jI l g (l.length - 1))) (g + 1) (l.length - 1))
def its : Nat → List Nat → List (List Nat)
  | 0, _ => []
  | m + 1, l => l :: (match nxt l with
    | none => []
    | some l' => its m l')
def roI (rc : Nat → List (List Nat)) : Nat → Nat → List (List Nat)
  | 0, _ => []
  | m + 1, i => rc i ++ roI rc m (i + 1)
def ro (n : Nat) : Nat → List Nat → Nat → List (List Nat)
  | 0, P, _ => [P]
  | r + 1, P, U => roI (fun i => if U.testBit i then [] else ro n r (P ++ [i]) (U ||| 1 <<< i)) n 0
theorem ro_its : ∀ n, n < 6 → its 120 (List.range n) = ro n n [] 0 := by decide +kernel
def pOk (n : Nat) (l : List Nat) : Bool := l.length == n && l.all (fun x => decide (x < n)) && (List.range n).all (fun i => (List.range n).all (fun j => i == j || la l i != la l j))
theorem its_ok : ∀ n, n < 6 → ∀ l ∈ its 120 (List.range n), pOk n l = true := by decide +kernel
theorem pOk_len {n : Nat} {l : List Nat} (h : pOk n l = true) : l.length = n := by
  unfold pOk at h
  simp only [Bool.and_eq_true, beq_iff_eq] at h
  exact h.1.1
theorem pOk_lt {n i : Nat} {l : List Nat} (h : pOk n l = true) (hi : i < n) : la l i < n := by
  have hl := pOk_len h
  unfold pOk at h
  simp only [Bool.and_eq_true, List.all_eq_true, decide_eq_true_iff] at h
  exact h.1.2 _ (la_mem (by omega))
theorem pOk_ne {n i j : Nat} {l : List Nat} (h : pOk n l = true) (hi : i < n) (hj : j < n) (hne : i ≠ j) : la l i ≠ la l j := by
  unfold pOk at h
  simp only [Bool.and_eq_true, List.all_eq_true, List.mem_range, Bool.or_eq_true, beq_iff_eq, bne_iff_ne] at h
  rcases h.2 i hi j hj with q | q
  · exact absurd q hne
  · exact q
/-- the best so far -/
def bst (W : List Nat → Nat) (b : Option (Nat × List Nat)) (l : List Nat) : Option (Nat × List Nat) := match b with
  | none => some (W l, l)
  | some (w, l0) => if W l < w then some (W l, l) else some (w, l0)
theorem swp_len {l : List Nat} {a b : Nat} : (swp l a b).length = l.length := by
  unfold swp
  rw [List.length_set, List.length_set]
theorem la_swp {l : List Nat} {a b k : Nat} (ha : a < l.length) (hb : b < l.length) : la (swp l a b) k = if k = b then la l a else if k = a then la l b else la l k := by
  unfold swp
  by_cases h1 : k = b
  · subst h1
    rw [if_pos rfl]
    show ((l.set a (la l k)).set k (la l a))[k]?.getD 0 = _
    rw [List.getElem?_set_self (by rw [List.length_set]; exact hb)]
    rfl
  · rw [if_neg h1]
    show ((l.set a (la l b)).set b (la l a))[k]?.getD 0 = _
    rw [List.getElem?_set_ne (fun z => h1 z.symm)]
    by_cases h2 : k = a
    · subst h2
      rw [if_pos rfl, List.getElem?_set_self ha]
      rfl
    · rw [if_neg h2, List.getElem?_set_ne (fun z => h2 z.symm)]
      rfl
/-! the class: the next order -/
theorem sX7_swap {σ : jS} {l : List Nat} {a b : Nat} (h5 : l.length ≤ 5) (hL : lR (σ.1 34) l) (ha : a < l.length) (hb : b < l.length) : ∃ σ', fX7_swap σ (nI a) (nI b) = some σ' ∧ jOff [34] σ σ' ∧ lR (σ'.1 34) (swp l a b) := by
  unfold fX7_swap
  simp only [ob_nI (show a < 5 by omega) (show 5 < 2 ^ 31 by omega), ob_nI (show b < 5 by omega) (show 5 < 2 ^ 31 by omega), nI_cl (show a < 2 ^ 31 by omega), nI_cl (show b < 2 ^ 31 by omega), jst_e, hL a ha, hL b hb]
  refine ⟨_, rfl, (jOff.u (by simp)).uT (by simp), fun k hk => ?_⟩
  rw [swp_len] at hk
  rw [la_swp ha hb, ju_r, ju_r]
  by_cases h1 : k = b
  · rw [if_pos h1, if_pos h1]
  · rw [if_neg h1, if_neg h1]
    by_cases h2 : k = a
    · rw [if_pos h2, if_pos h2]
    · rw [if_neg h2, if_neg h2]
      exact hL k hk
theorem sX7_rev {l0 : List Nat} : ∀ (m lo hi f : Nat) (l : List Nat) (σ : jS), hi ≤ lo + m → m < f → l.length ≤ 5 → lo ≤ 5 → hi < l.length → lR (σ.1 34) l → ∃ σ', jloop fX7_goOn_B91 f (σ, nI lo, nI hi) = some (1, σ') ∧ jOff [34] σ σ' ∧ lR (σ'.1 34) (rvl m l lo hi) := by
  intro m
  induction m with
  | zero =>
    intro lo hi f l σ hm hf h5 hlo hhi hL
    obtain ⟨f, rfl⟩ : ∃ g, f = g + 1 := ⟨f - 1, by omega⟩
    refine ⟨σ, ?_, jOff.rf, hL⟩
    rw [jloop_s]
    unfold fX7_goOn_B91
    exact if_pos ((nI_leI (by omega) (by omega)).mpr (by omega))
  | succ m ih =>
    intro lo hi f l σ hm hf h5 hlo hhi hL
    obtain ⟨f, rfl⟩ : ∃ g, f = g + 1 := ⟨f - 1, by omega⟩
    have e : rvl (m + 1) l lo hi = if hi ≤ lo then l else rvl m (swp l lo hi) (lo + 1) (hi - 1) := rfl
    rw [e, jloop_s]
    by_cases a : hi ≤ lo
    · rw [if_pos a]
      refine ⟨σ, ?_, jOff.rf, hL⟩
      unfold fX7_goOn_B91
      exact if_pos ((nI_leI (by omega) (by omega)).mpr a)
    · rw [if_neg a]
      obtain ⟨U, eU, oU, hU⟩ := sX7_swap h5 hL (show lo < l.length by omega) hhi
      obtain ⟨σ', h1, h2, h3⟩ := ih (lo + 1) (hi - 1) f (swp l lo hi) U (by omega) (by omega) (by rw [swp_len]; exact h5) (by omega) (by rw [swp_len]; omega) hU
      refine ⟨σ', ?_, oU.trans h2, h3⟩
      have em : nI hi + (-1 : Int32) = nI (hi - 1) := by
        have := pk_m1 (hi - 1)
        rwa [show hi - 1 + 1 = hi by omega] at this
      rw [← h1]
      unfold fX7_goOn_B91
      show (if nI hi ≤ nI lo then (some ((1 : Int32), σ)) else (Option.bind (fX7_swap σ (nI lo) (nI hi)) fun (q2 : jS) => (jloop fX7_goOn_B91 f (q2, (nI lo + (1 : Int32)), (nI hi + (-1 : Int32)))))) = _
      rw [if_neg (fun z => a ((nI_leI (by omega) (by omega)).mp z)), eU, Option.bind_some, nI_1, em]
      rfl
theorem sX7_gI {σ : jS} {l : List Nat} (h5 : l.length ≤ 5) (hL : lR (σ.1 34) l) (hlt : ∀ k, k < l.length → la l k < 100) : ∀ (i f : Nat), i < l.length → i + 1 < f → ∀ j34, jloop (fX7_goOn_B7 σ j34) f (if i = 0 then -1 else nI (i - 1)) = j34 (match gI l i with | none => -1 | some g => nI g) := by
  intro i
  induction i with
  | zero =>
    intro f hi hf j34
    obtain ⟨f, rfl⟩ : ∃ g, f = g + 1 := ⟨f - 1, by omega⟩
    rw [jloop_s]
    unfold fX7_goOn_B7
    rw [if_pos rfl]
    exact if_pos (show (-1 : Int32) < 0 by decide)
  | succ i ih =>
    intro f hi hf j34
    obtain ⟨f, rfl⟩ : ∃ g, f = g + 1 := ⟨f - 1, by omega⟩
    have e : gI l (i + 1) = if la l (i + 1) < la l i then gI l i else some i := rfl
    have em : nI i + (-1 : Int32) = (if i = 0 then -1 else nI (i - 1)) := by
      by_cases z : i = 0
      · rw [if_pos z, z]; rfl
      · rw [if_neg z]
        have := pk_m1 (i - 1)
        rwa [show i - 1 + 1 = i by omega] at this
    have h1 := hlt i (by omega)
    have h2 := hlt (i + 1) hi
    rw [if_neg (show ¬ i + 1 = 0 by omega), show i + 1 - 1 = i by omega, e, jloop_s]
    show (if nI i < 0 then (j34 (nI i)) else (ob (nI i) 5 (ob (nI i + (1 : Int32)) 5 (if (σ.1 34 (nI i).toNatClampNeg) ≤ (σ.1 34 ((nI i + (1 : Int32))).toNatClampNeg) then (j34 (nI i)) else (jloop (fX7_goOn_B7 σ j34) f (nI i + (-1 : Int32))))))) = _
    rw [if_neg (nI_pos (by omega)), nI_1, ob_nI (by omega) (by omega), ob_nI (by omega) (by omega), nI_cl (by omega), nI_cl (by omega), hL i (by omega), hL (i + 1) hi, em]
    by_cases a : la l (i + 1) < la l i
    · rw [if_neg (fun z => by have := (nI_leI (by omega) (by omega)).mp z; omega), if_pos a]
      exact ih f (by omega) (by omega) j34
    · rw [if_pos ((nI_leI (by omega) (by omega)).mpr (by omega)), if_neg a]
theorem sX7_jI {σ : jS} {l : List Nat} {g : Nat} (h5 : l.length ≤ 5) (hL : lR (σ.1 34) l) (hlt : ∀ k, k < l.length → la l k < 100) (hg : g < l.length) : ∀ (j f : Nat), g ≤ j → j < l.length → j < f → ∀ j73, jloop (fX7_goOn_B47 σ (nI g) j73) f (nI j) = j73 (nI (jI l g j)) := by
  intro j
  induction j with
  | zero =>
    intro f hgj hj hf j73
    obtain ⟨f, rfl⟩ : ∃ g, f = g + 1 := ⟨f - 1, by omega⟩
    rw [jloop_s]
    unfold fX7_goOn_B47
    rw [if_pos ((nI_leI (by omega) (by omega)).mpr (by omega))]
    rfl
  | succ j ih =>
    intro f hgj hj hf j73
    obtain ⟨f, rfl⟩ : ∃ g, f = g + 1 := ⟨f - 1, by omega⟩
    have e : jI l g (j + 1) = if j + 1 ≤ g then j + 1 else if la l (j + 1) < la l g then jI l g j else j + 1 := rfl
    have h1 := hlt g hg
    have h2 := hlt (j + 1) hj
    rw [e, jloop_s]
    show (if nI (j + 1) ≤ nI g then (j73 (nI (j + 1))) else (ob (nI (j + 1)) 5 (ob (nI g) 5 (if (σ.1 34 (nI g).toNatClampNeg) ≤ (σ.1 34 (nI (j + 1)).toNatClampNeg) then (j73 (nI (j + 1))) else (jloop (fX7_goOn_B47 σ (nI g) j73) f (nI (j + 1) + (-1 : Int32))))))) = _
    by_cases a : j + 1 ≤ g
    · rw [if_pos ((nI_leI (by omega) (by omega)).mpr a), if_pos a]
    · rw [if_neg (fun z => a ((nI_leI (by omega) (by omega)).mp z)), if_neg a, ob_nI (by omega) (by omega), ob_nI (by omega) (by omega), nI_cl (by omega), nI_cl (by omega), hL g hg, hL (j + 1) hj, pk_m1]
      by_cases b : la l (j + 1) < la l g
      · rw [if_neg (fun z => by have := (nI_leI (by omega) (by omega)).mp z; omega), if_pos b]
        exact ih f (by omega) (by omega) (by omega) j73
      · rw [if_pos ((nI_leI (by omega) (by omega)).mpr (by omega)), if_neg b]
theorem gI_lt {l : List Nat} : ∀ i g, gI l i = some g → g < i := by
  intro i
  induction i with
  | zero => intro g h; cases h
  | succ i ih =>
    intro g h
    have e : gI l (i + 1) = if la l (i + 1) < la l i then gI l i else some i := rfl
    rw [e] at h
    by_cases a : la l (i + 1) < la l i
    · rw [if_pos a] at h
      have := ih g h
      omega
    · rw [if_neg a] at h
      cases h
      omega
theorem jI_le {l : List Nat} {g : Nat} : ∀ j, jI l g j ≤ j := by
  intro j
  induction j with
  | zero => exact Nat.le_refl _
  | succ j ih =>
    have e : jI l g (j + 1) = if j + 1 ≤ g then j + 1 else if la l (j + 1) < la l g then jI l g j else j + 1 := rfl
    rw [e]
    split
    · omega
    · split <;> omega
theorem sX7_goOn {σ : jS} {l : List Nat} (h5 : l.length ≤ 5) (h3 : σ.1 32 3 = nI l.length) (hL : lR (σ.1 34) l) (hlt : ∀ k, k < l.length → la l k < 100) : ∃ σ', fX7_goOn σ = some ((match nxt l with | none => 0 | some _ => 1), σ') ∧ jOff [34] σ σ' ∧ lR (σ'.1 34) (match nxt l with | none => l | some l' => l') := by
  rw [fX7_goOn_eq, h3]
  by_cases h0 : l.length = 0
  · have en : nxt l = none := by
      unfold nxt
      rw [h0]
      rfl
    rw [en]
    obtain ⟨f, hf⟩ : ∃ g, jN = g + 1 := ⟨jN - 1, by have := jN_ge; omega⟩
    refine ⟨σ, ?_, jOff.rf, hL⟩
    rw [hf, jloop_s, h0]
    unfold fX7_goOn_B7 fX7_goOn_J34
    rw [if_pos (show nI 0 - (2 : Int32) < 0 by decide), if_neg (show ¬ (0 : Int32) ≤ nI 0 - 2 by decide)]
  · have es : nI l.length - (2 : Int32) = (if l.length - 1 = 0 then -1 else nI (l.length - 1 - 1)) := by
      by_cases z : l.length - 1 = 0
      · rw [if_pos z, show l.length = 1 by omega]; rfl
      · rw [if_neg z, show nI l.length - (2 : Int32) = nI (l.length - 2) from pk_sub (a := l.length) (b := 2) (by omega)]
        congr 1
    rw [es, sX7_gI h5 hL hlt (l.length - 1) jN (by omega) (by have := jN_ge; omega)]
    unfold fX7_goOn_J34
    unfold nxt
    have hgl := gI_lt (l := l) (l.length - 1)
    cases hgI : gI l (l.length - 1) with
    | none =>
      refine ⟨σ, ?_, jOff.rf, hL⟩
      exact if_neg (show ¬ (0 : Int32) ≤ -1 by decide)
    | some g =>
      have hg := hgl g hgI
      have e1 : nI l.length - (1 : Int32) = nI (l.length - 1) := pk_sub (a := l.length) (b := 1) (by omega)
      have hj := jI_le (l := l) (g := g) (l.length - 1)
      obtain ⟨U, eU, oU, hU⟩ := sX7_swap h5 hL (show g < l.length by omega) (show jI l g (l.length - 1) < l.length by omega)
      obtain ⟨σ', r1, r2, r3⟩ := sX7_rev (l0 := l) 6 (g + 1) (l.length - 1) jN (swp l g (jI l g (l.length - 1))) U (by omega) (by have := jN_ge; omega) (by rw [swp_len]; exact h5) (by omega) (by rw [swp_len]; omega) hU
      refine ⟨σ', ?_, oU.trans r2, r3⟩
      show (if 0 ≤ nI g then ((jloop (fX7_goOn_B47 σ (nI g) (fX7_goOn_J73 σ (nI g))) jN ((σ.1 32 3) - (1 : Int32)))) else (some ((0 : Int32), σ))) = some (1, σ')
      rw [if_pos (nI_pos' (by omega)), h3, e1, sX7_jI h5 hL hlt (by omega) (l.length - 1) jN (by omega) (by omega) (by have := jN_ge; omega)]
      unfold fX7_goOn_J73
      rw [eU, Option.bind_some, nI_1, oU.1 32 (by decide), h3, e1]
      exact r1
