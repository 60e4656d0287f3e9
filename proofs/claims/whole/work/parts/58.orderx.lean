/-! the class: the least of all orders -/
def wS (T : Nat → Nat → Nat) (l : List Nat) (n : Nat) : Nat → Nat → Nat
  | 0, _ => 0
  | m + 1, k => (n - 1 - k) * T (la l k) (la l (k + 1)) + wS T l n m (k + 1)
def wO (T : Nat → Nat → Nat) (n : Nat) (l : List Nat) : Nat := wS T l n (n - 1) 0
theorem wS_le {T : Nat → Nat → Nat} {l : List Nat} {n : Nat} (hT : ∀ p q, T p q ≤ 1200) (hn : n ≤ 5) : ∀ m k, wS T l n m k ≤ m * 4800 := by
  intro m
  induction m with
  | zero => intro k; exact Nat.zero_le _
  | succ m ih =>
    intro k
    have h1 := ih (k + 1)
    have h2 := hT (la l k) (la l (k + 1))
    have h3 : (n - 1 - k) * T (la l k) (la l (k + 1)) ≤ 4 * 1200 := Nat.mul_le_mul (by omega) h2
    show (n - 1 - k) * T (la l k) (la l (k + 1)) + wS T l n m (k + 1) ≤ (m + 1) * 4800
    omega
theorem wO_le {T : Nat → Nat → Nat} {l : List Nat} {n : Nat} (hT : ∀ p q, T p q ≤ 1200) (hn : n ≤ 5) : wO T n l ≤ 20000 := by
  have := wS_le (l := l) hT hn (n - 1) 0
  unfold wO
  have h2 : (n - 1) * 4800 ≤ 4 * 4800 := Nat.mul_le_mul (by omega) (Nat.le_refl _)
  omega
/-- the table of how long each lasts if another counts -/
def tab (σ : jS) (n : Nat) (T : Nat → Nat → Nat) : Prop := ∀ p q, p < n → q < n → p ≠ q → σ.1 33 (p * 5 + q) = nI (T p q)
theorem sX7_waitsL {σ : jS} {n : Nat} {l : List Nat} {T : Nat → Nat → Nat} (hn : n ≤ 5) (h3 : σ.1 32 3 = nI n) (hL : lR (σ.1 34) l) (hl : pOk n l = true) (hT : tab σ n T) : ∀ (m k f u : Nat), k + m + 1 = n → m < f → jloop (fX7_waitsTogether_B4 σ) f (nI u, nI k) = some (nI (u + wS T l n m k)) := by
  have hlen := pOk_len hl
  intro m
  induction m with
  | zero =>
    intro k f u hk hf
    obtain ⟨f, rfl⟩ : ∃ g, f = g + 1 := ⟨f - 1, by omega⟩
    rw [jloop_s]
    unfold fX7_waitsTogether_B4
    rw [if_pos (show σ.1 32 3 ≤ nI k + 1 by rw [h3, nI_1, nI_leI (by omega) (by omega)]; omega)]
    rfl
  | succ m ih =>
    intro k f u hk hf
    obtain ⟨f, rfl⟩ : ∃ g, f = g + 1 := ⟨f - 1, by omega⟩
    have e : wS T l n (m + 1) k = (n - 1 - k) * T (la l k) (la l (k + 1)) + wS T l n m (k + 1) := rfl
    have a1 := pOk_lt hl (show k < n by omega)
    have a2 := pOk_lt hl (show k + 1 < n by omega)
    have a3 := pOk_ne hl (show k < n by omega) (show k + 1 < n by omega) (by omega)
    have ei : nI (la l k) * (5 : Int32) + nI (la l (k + 1)) = nI (la l k * 5 + la l (k + 1)) := by
      show nI (la l k) * nI 5 + nI (la l (k + 1)) = _
      rw [pk_mul, nI_add]
    rw [e, ← Nat.add_assoc, ← ih (k + 1) f (u + (n - 1 - k) * T (la l k) (la l (k + 1))) (by omega) (by omega), jloop_s]
    show (if (σ.1 32 3) ≤ (nI k + (1 : Int32)) then (some (nI u)) else (ob (nI k) 5 (ob (nI k + (1 : Int32)) 5 (ob (((σ.1 34 (nI k).toNatClampNeg) * (5 : Int32)) + (σ.1 34 ((nI k + (1 : Int32))).toNatClampNeg)) 25 (jst (nI u + ((((σ.1 32 3) - (1 : Int32)) - nI k) * (σ.1 33 ((((σ.1 34 (nI k).toNatClampNeg) * (5 : Int32)) + (σ.1 34 ((nI k + (1 : Int32))).toNatClampNeg))).toNatClampNeg))) fun (y1 : Int32) => (jloop (fX7_waitsTogether_B4 σ) f (y1, (nI k + (1 : Int32))))))))) = _
    rw [h3, nI_1, if_neg (fun z => by have := (nI_leI (by omega) (by omega)).mp z; omega), ob_nI (by omega) (by omega), ob_nI (by omega) (by omega), nI_cl (by omega), nI_cl (by omega), hL k (by omega), hL (k + 1) (by omega), ei, ob_nI (by omega) (by omega), nI_cl (by omega), hT _ _ a1 a2 a3, jst_e, show nI n - (1 : Int32) = nI (n - 1) from pk_sub (a := n) (b := 1) (by omega), pk_sub (by omega), pk_mul, nI_add]
theorem sX7_waits {σ : jS} {n : Nat} {l : List Nat} {T : Nat → Nat → Nat} (hn : n ≤ 5) (h3 : σ.1 32 3 = nI n) (hL : lR (σ.1 34) l) (hl : pOk n l = true) (hT : tab σ n T) : fX7_waitsTogether σ = some (nI (wO T n l)) := by
  unfold fX7_waitsTogether wO
  by_cases a : n = 0
  · subst a
    obtain ⟨f, hf⟩ : ∃ g, jN = g + 1 := ⟨jN - 1, by have := jN_ge; omega⟩
    rw [hf, jloop_s]
    unfold fX7_waitsTogether_B4
    rw [if_pos (show σ.1 32 3 ≤ (0 : Int32) + 1 by rw [h3]; decide)]
    rfl
  · have := sX7_waitsL hn h3 hL hl hT (n - 1) 0 jN 0 (by omega) (by have := jN_ge; omega)
    rw [Nat.zero_add] at this
    exact this
/-- the best that the class has -/
def bX (σ : jS) (n : Nat) (b : Option (Nat × List Nat)) : Prop := match b with
  | none => True
  | some (w, l) => σ.1 32 4 = nI w ∧ w ≤ 20000 ∧ l.length = n ∧ lR (σ.1 35) l
theorem ocp_n {ρ : Type} {n : Nat} (hn : n ≤ 5) {o : Option ρ} : ocp (0 : Int32) (0 : Int32) (nI n) 5 5 o = o := by
  unfold ocp
  rcases (show n = 0 ∨ n = 1 ∨ n = 2 ∨ n = 3 ∨ n = 4 ∨ n = 5 by omega) with rfl | rfl | rfl | rfl | rfl | rfl <;> exact if_neg (by decide)
theorem bst_ne (w : List Nat → Nat) (b : Option (Nat × List Nat)) (l : List Nat) : bst w b l ≠ none := by
  cases b with
  | none => exact fun h => by cases h
  | some wl =>
    obtain ⟨x, y⟩ := wl
    show (if w l < x then some (w l, l) else some (x, y)) ≠ none
    by_cases a : w l < x
    · rw [if_pos a]; exact fun h => by cases h
    · rw [if_neg a]; exact fun h => by cases h
theorem sX7_seekL {n : Nat} {T : Nat → Nat → Nat} (hn : n ≤ 5) (hT12 : ∀ p q, T p q ≤ 1200) : ∀ (m k f : Nat) (l : List Nat) (b : Option (Nat × List Nat)) (σ : jS), k + m = 120 → m + 1 < f → (∀ l' ∈ its m l, pOk n l' = true) → σ.1 32 3 = nI n → lR (σ.1 34) l → tab σ n T → (b = none ↔ k = 0) → bX σ n b → ∃ σ', jloop fX7_seek_B4 f (σ, 1, nI k) = some σ' ∧ jOff [32, 34, 35] σ σ' ∧ σ'.1 32 3 = nI n ∧ bX σ' n ((its m l).foldl (bst (wO T n)) b) := by
  intro m
  induction m with
  | zero =>
    intro k f l b σ hk hf hall h3 hL hT hb0 hb
    obtain ⟨f, rfl⟩ : ∃ g, f = g + 1 := ⟨f - 1, by omega⟩
    obtain rfl : k = 120 := by omega
    refine ⟨σ, ?_, jOff.rf, h3, hb⟩
    rw [jloop_s, fX7_seek_B4_eq]
    exact if_pos (show (120 : Int32) ≤ nI 120 by decide)
  | succ m ih =>
    intro k f l b σ hk hf hall h3 hL hT hb0 hb
    obtain ⟨f, rfl⟩ : ∃ g, f = g + 1 + 1 := ⟨f - 2, by omega⟩
    have eI : its (m + 1) l = l :: (match nxt l with
      | none => []
      | some l' => its m l') := rfl
    rw [eI] at hall
    have hl := hall l (List.mem_cons_self)
    have hlen := pOk_len hl
    have hw := wO_le (l := l) hT12 hn
    have hk120 : ¬ (120 : Int32) ≤ nI k := by rw [show (120 : Int32) = nI 120 from rfl, nI_leI (by omega) (by omega)]; omega
    -- the best is kept
    obtain ⟨S, eS, oS, s3, bS⟩ : ∃ S, fX7_seek_B4 (jloop fX7_seek_B4 (f + 1)) (σ, 1, nI k) = fX7_seek_B4_J53 (jloop fX7_seek_B4 (f + 1)) (σ, 1, nI k) S ∧ jOff [32, 35] σ S ∧ S.1 32 3 = nI n ∧ bX S n (bst (wO T n) b l) := by
      have start : fX7_seek_B4 (jloop fX7_seek_B4 (f + 1)) (σ, 1, nI k) = (if nI k = 0 then fX7_seek_B4_J31 (jloop fX7_seek_B4 (f + 1)) (σ, 1, nI k) (nI (wO T n l)) () else if σ.1 32 4 ≤ nI (wO T n l) then fX7_seek_B4_J53 (jloop fX7_seek_B4 (f + 1)) (σ, 1, nI k) σ else fX7_seek_B4_J31 (jloop fX7_seek_B4 (f + 1)) (σ, 1, nI k) (nI (wO T n l)) ()) := by
        rw [fX7_seek_B4_eq]
        rw [if_neg hk120, if_neg (show ¬ (1 : Int32) = 0 by decide)]
        show (Option.bind (fX7_waitsTogether σ) fun (q2 : Int32) => _) = _
        rw [sX7_waits hn h3 hL hl hT, Option.bind_some]
      have k0 : nI k = 0 ↔ k = 0 := nI_eq (a := k) (b := 0) (by omega) (by omega)
      have upd1 : ∀ (_ : k = 0 ∨ ¬ σ.1 32 4 ≤ nI (wO T n l)), ∃ S, fX7_seek_B4 (jloop fX7_seek_B4 (f + 1)) (σ, 1, nI k) = fX7_seek_B4_J53 (jloop fX7_seek_B4 (f + 1)) (σ, 1, nI k) S ∧ jOff [32, 35] σ S ∧ S.1 32 3 = nI n ∧ bX S n (some (wO T n l, l)) := by
        intro hlt
        refine ⟨jc (ju σ 32 4 (nI (wO T n l))) 35 (va_cpy (σ.1 34) (σ.1 35) 0 0 n), ?_, (jOff.u (by simp)).kT (by simp), ?_, ?_, hw, hlen, fun j hj => ?_⟩
        · have st2 : fX7_seek_B4 (jloop fX7_seek_B4 (f + 1)) (σ, 1, nI k) = fX7_seek_B4_J31 (jloop fX7_seek_B4 (f + 1)) (σ, 1, nI k) (nI (wO T n l)) () := by
            rw [start]
            rcases hlt with h | h
            · exact if_pos (k0.mpr h)
            · by_cases c : k = 0
              · exact if_pos (k0.mpr c)
              · rw [if_neg (fun z => c (k0.mp z)), if_neg h]
          rw [st2]
          show (jst (ju σ 32 4 (nI (wO T n l))) fun (σ3 : jS) => (ocp (0 : Int32) (0 : Int32) (σ3.1 32 3) 5 5 (jst (jc σ3 35 (va_cpy (σ3.1 34) (σ3.1 35) ((0 : Int32)).toNatClampNeg ((0 : Int32)).toNatClampNeg ((σ3.1 32 3)).toNatClampNeg)) fun (σ4 : jS) => ((fX7_seek_B4_J53 (jloop fX7_seek_B4 (f + 1)) (σ, 1, nI k)) σ4)))) = _
          rw [jst_e, ju_i (show (3 : Nat) ≠ 4 by decide), h3, ocp_n hn, jst_e, ju_n (show (34 : Nat) ≠ 32 by decide), ju_n (show (35 : Nat) ≠ 32 by decide), nI_cl (by omega)]
          rfl
        · rw [jc_n (by decide), ju_i (by decide), h3]
        · rw [jc_n (by decide), ju_s]
        · rw [jc_s, pk_cpy_in (Nat.zero_le _) (by omega)]
          show σ.1 34 (0 + (j - 0)) = _
          rw [Nat.sub_zero, Nat.zero_add]
          exact hL j hj
      cases b with
      | none =>
        exact upd1 (.inl (hb0.mp rfl))
      | some wl =>
        obtain ⟨w, l0⟩ := wl
        obtain ⟨hb1, hb2, hb3, hb4⟩ := hb
        have e : bst (wO T n) (some (w, l0)) l = if wO T n l < w then some (wO T n l, l) else some (w, l0) := rfl
        rw [e]
        by_cases a : wO T n l < w
        · rw [if_pos a]
          exact upd1 (.inr (by rw [hb1, nI_leI (by omega) (by omega)]; omega))
        · rw [if_neg a]
          refine ⟨σ, ?_, jOff.rf, h3, hb1, hb2, hb3, hb4⟩
          rw [start, if_neg (fun z => by cases hb0.mpr (k0.mp z)), if_pos (by rw [hb1, nI_leI (by omega) (by omega)]; omega)]
    have sL : lR (S.1 34) l := by rw [oS.1 34 (by decide)]; exact hL
    have sT : tab S n T := fun p q h1 h2 h3 => by rw [oS.1 33 (by decide)]; exact hT p q h1 h2 h3
    obtain ⟨G, eG, oG, hG⟩ := sX7_goOn (σ := S) (l := l) (by omega) (by rw [s3, hlen]) sL (fun j hj => by have := pOk_lt hl (show j < n by omega); omega)
    have g3 : G.1 32 3 = nI n := by rw [oG.1 32 (by decide), s3]
    have oG1 : jOff [32, 34, 35] σ G := (oS.mono (by simp)).trans (oG.mono (by simp))
    have gT : tab G n T := fun p q h1 h2 h3 => by rw [oG.1 33 (by decide)]; exact sT p q h1 h2 h3
    have bG : bX G n (bst (wO T n) b l) := by
      have e32 : G.1 32 = S.1 32 := oG.1 32 (by decide)
      have e35 : G.1 35 = S.1 35 := oG.1 35 (by decide)
      unfold bX at *
      rw [e32, e35]
      exact bS
    rw [eI, jloop_s, eS]
    unfold fX7_seek_B4_J53
    rw [eG, Option.bind_some]
    cases hn2 : nxt l with
    | none =>
      refine ⟨G, ?_, oG1, g3, bG⟩
      show jloop fX7_seek_B4 (f + 1) (G, jb 0, nI k + (1 : Int32)) = some G
      rw [nI_1, jloop_s, fX7_seek_B4_eq]
      by_cases a : (120 : Int32) ≤ nI (k + 1)
      · exact if_pos a
      · rw [if_neg a]
        exact if_pos rfl
    | some l' =>
      rw [hn2] at hall hG
      obtain ⟨σ', q1, q2, q3, q4⟩ := ih (k + 1) (f + 1) l' (bst (wO T n) b l) G (by omega) (by omega) (fun x hx => hall x (List.mem_cons_of_mem _ hx)) g3 hG gT (by
        constructor
        · intro z; exact absurd z (bst_ne _ _ _)
        · intro z; omega) bG
      refine ⟨σ', ?_, oG1.trans q2, q3, q4⟩
      show jloop fX7_seek_B4 (f + 1) (G, jb 1, nI k + (1 : Int32)) = some σ'
      rw [nI_1]
      exact q1
/-- how long the one at a place lasts if the one at another counts -/
def dT (V : Nat → Nat → Int32) (lw : jL) (s : Nat) (Q : List Nat) (p q : Nat) : Nat := tSec V lw s (la Q p) (la Q q) (Q.length - 1)
theorem sX5_pairI {ch : Nat} {V : Nat → Nat → Int32} {lw : jL} {o s p : Nat} {Q : List Nat} {τ : jS} (ho : jLn o) (hg : nG ch V) (hO : lOk lw) (hs : s < 3) (hq : qOk ch Q) (hn : Q.length ≤ 5) (hp : p < Q.length) : ∀ (m k f : Nat) (σ : jS), k + m = Q.length → m < f → nX σ ch V → lX σ lw → lnX σ o s Q → (∀ q, q < k → p ≠ q → σ.1 33 (p * 5 + q) = nI (dT V lw s Q p q)) → ∃ σ', (∀ j97, jloop (fX5_foreseePairs_B18 o 5 (τ, nI p) j97) f (σ, nI k) = j97 σ') ∧ jOff [11, 12, 14, 15, 33] σ σ' ∧ (∀ q, q < Q.length → p ≠ q → σ'.1 33 (p * 5 + q) = nI (dT V lw s Q p q)) ∧ ∀ p' q, p' ≠ p → q < 5 → σ'.1 33 (p' * 5 + q) = σ.1 33 (p' * 5 + q) := by
  have hb := jLn_b ho
  intro m
  induction m with
  | zero =>
    intro k f σ hk hf hx hlx hL hT
    obtain ⟨f, rfl⟩ : ∃ g, f = g + 1 := ⟨f - 1, by omega⟩
    obtain rfl : k = Q.length := by omega
    refine ⟨σ, fun j => ?_, jOff.rf, hT, fun _ _ _ _ => rfl⟩
    rw [jloop_s, fX5_foreseePairs_B18_eq]
    exact if_pos (show σ.1 o 7 ≤ nI Q.length by rw [hL.2.1]; exact Int32.le_refl _)
  | succ m ih =>
    intro k f σ hk hf hx hlx hL hT
    obtain ⟨f, rfl⟩ : ∃ g, f = g + 1 := ⟨f - 1, by omega⟩
    have hkl : k < Q.length := by omega
    have e0 : ¬ σ.1 o 7 ≤ nI k := by rw [hL.2.1, nI_leI (by omega) (by omega)]; omega
    have e5 : ¬ (5 : Int32) ≤ nI k := by rw [show (5 : Int32) = nI 5 from rfl, nI_leI (by omega) (by omega)]; omega
    have ei : nI p * (5 : Int32) + nI k = nI (p * 5 + k) := by
      show nI p * nI 5 + nI k = _
      rw [pk_mul, nI_add]
    have epk : (nI p = nI k) = (p = k) := propext (nI_eq (by omega) (by omega))
    have e25 : ¬ (25 : Int32) ≤ nI (p * 5 + k) := by rw [show (25 : Int32) = nI 25 from rfl, nI_leI (by omega) (by omega)]; omega
    by_cases a : p = k
    · obtain ⟨σ', h1, h2, h3, h4⟩ := ih (k + 1) f σ (by omega) (by omega) hx hlx hL (fun q hq' hne => hT q (by omega) hne)
      refine ⟨σ', fun j => ?_, h2, h3, h4⟩
      rw [jloop_s, ← h1 j, fX5_foreseePairs_B18_eq]
      rw [if_neg e0, if_neg e5]
      simp only [epk]
      rw [if_pos a]
      unfold fX5_foreseePairs_B18_J91
      rw [nI_1]
    · obtain ⟨U, eU, oU, TU, _⟩ := sX8_think (q := Q.length - 1) hx hg hlx hO hs (hq.2.1 _ (la_mem hp)) (show cOk ch (la Q k) (la Q p) from Or.inr ⟨hq.2.1 _ (la_mem hkl), fun z => a (la_inj hq.1 hp hkl z.symm)⟩)
      have o1 : jOff [11, 12, 14, 15, 33] σ (ju U 33 (p * 5 + k) (nI (dT V lw s Q p k))) := (oU.mono (by simp)).uT (by simp)
      obtain ⟨σ', h1, h2, h3, h4⟩ := ih (k + 1) f (ju U 33 (p * 5 + k) (nI (dT V lw s Q p k))) (by omega) (by omega) (hx.off o1 (by simp <;> omega) (by simp <;> omega)) (hlx.go o1 (by simp <;> omega) (by simp <;> omega)) (hL.go o1 (by simp <;> omega) (by simp <;> omega)) (fun q hq' hne => by
        rw [ju_r]
        by_cases b : q = k
        · rw [b, if_pos rfl]
        · rw [if_neg (by omega), oU.1 33 (by decide)]
          exact hT q (by omega) hne)
      refine ⟨σ', fun j => ?_, o1.trans h2, h3, fun p' q hp' hq' => ?_⟩
      · rw [jloop_s, ← h1 j, fX5_foreseePairs_B18_eq]
        rw [if_neg e0, if_neg e5]
        simp only [epk]
        rw [if_neg a]
        unfold fX5_foreseePairs_B18_J91
        rw [ei, if_neg e25, ob_nI (by omega) (by omega), ob_nI (by omega) (by omega), nI_cl (by omega), nI_cl (by omega), hL.1, hL.2.2 p hp, hL.2.2 k hkl, hL.2.1, show nI Q.length - (1 : Int32) = nI (Q.length - 1) from pk_sub (a := Q.length) (b := 1) (by omega), eU, Option.bind_some, ob_nI (by omega) (by omega), jst_e, nI_cl (by omega), TU.2.2.2.2.1, nI_1]
        rfl
      · rw [h4 p' q hp' hq', ju_i (by omega), oU.1 33 (by decide)]
theorem sX5_pairO {ch : Nat} {V : Nat → Nat → Int32} {lw : jL} {o s : Nat} {Q : List Nat} (ho : jLn o) (hg : nG ch V) (hO : lOk lw) (hs : s < 3) (hq : qOk ch Q) (hn : Q.length ≤ 5) : ∀ (m k f : Nat) (σ : jS), k + m = Q.length → m < f → nX σ ch V → lX σ lw → lnX σ o s Q → (∀ p q, p < k → q < Q.length → p ≠ q → σ.1 33 (p * 5 + q) = nI (dT V lw s Q p q)) → ∃ σ', jloop (fX5_foreseePairs_B2 o 5) f (σ, nI k) = some σ' ∧ jOff [11, 12, 14, 15, 33] σ σ' ∧ tab σ' Q.length (dT V lw s Q) := by
  have hb := jLn_b ho
  intro m
  induction m with
  | zero =>
    intro k f σ hk hf hx hlx hL hT
    obtain ⟨f, rfl⟩ : ∃ g, f = g + 1 := ⟨f - 1, by omega⟩
    obtain rfl : k = Q.length := by omega
    refine ⟨σ, ?_, jOff.rf, hT⟩
    rw [jloop_s, fX5_foreseePairs_B2_eq]
    exact if_pos (show σ.1 o 7 ≤ nI Q.length by rw [hL.2.1]; exact Int32.le_refl _)
  | succ m ih =>
    intro k f σ hk hf hx hlx hL hT
    obtain ⟨f, rfl⟩ : ∃ g, f = g + 1 := ⟨f - 1, by omega⟩
    have hkl : k < Q.length := by omega
    have e0 : ¬ σ.1 o 7 ≤ nI k := by rw [hL.2.1, nI_leI (by omega) (by omega)]; omega
    have e5 : ¬ (5 : Int32) ≤ nI k := by rw [show (5 : Int32) = nI 5 from rfl, nI_leI (by omega) (by omega)]; omega
    obtain ⟨U, h1, o1, r1, r2⟩ := sX5_pairI (τ := σ) ho hg hO hs hq hn hkl Q.length 0 jN σ (by omega) (by have := jN_ge; omega) hx hlx hL (fun q hq' => absurd hq' (by omega))
    have h1' : ∀ j97, jloop (fX5_foreseePairs_B18 o 5 (σ, nI k) j97) jN (σ, (0 : Int32)) = j97 U := h1
    obtain ⟨σ', g1, g2, g3⟩ := ih (k + 1) f U (by omega) (by omega) (hx.off o1 (by decide) (by decide)) (hlx.go o1 (by decide) (by decide)) (hL.go o1 (by simp <;> omega) (by simp <;> omega)) (fun p q hp hq' hne => by
      by_cases a : p = k
      · subst a; exact r1 q hq' hne
      · rw [r2 p q a (by omega)]
        exact hT p q (by omega) hq' hne)
    refine ⟨σ', ?_, o1.trans g2, g3⟩
    rw [jloop_s, ← g1, fX5_foreseePairs_B2_eq]
    rw [if_neg e0, if_neg e5, h1']
    unfold fX5_foreseePairs_B2_J97
    rw [nI_1]
theorem la_range {n k : Nat} (h : k < n) : la (List.range n) k = k := by
  unfold la
  rw [List.getElem?_range h]
  rfl
theorem sX7_beginL {n : Nat} (hn : n ≤ 5) : ∀ (m k f : Nat) (σ : jS), k + m = n → m < f → σ.1 32 3 = nI n → (∀ j, j < k → σ.1 34 j = nI j) → ∃ σ', jloop fX7_begin_B11 f (σ, nI k) = some σ' ∧ jOff [34] σ σ' ∧ lR (σ'.1 34) (List.range n) := by
  intro m
  induction m with
  | zero =>
    intro k f σ hk hf h3 hL
    obtain ⟨f, rfl⟩ : ∃ g, f = g + 1 := ⟨f - 1, by omega⟩
    obtain rfl : k = n := by omega
    refine ⟨σ, ?_, jOff.rf, fun j hj => ?_⟩
    · rw [jloop_s]
      unfold fX7_begin_B11
      exact if_pos (show σ.1 32 3 ≤ nI k by rw [h3]; exact Int32.le_refl _)
    · rw [List.length_range] at hj
      rw [la_range hj]
      exact hL j hj
  | succ m ih =>
    intro k f σ hk hf h3 hL
    obtain ⟨f, rfl⟩ : ∃ g, f = g + 1 := ⟨f - 1, by omega⟩
    obtain ⟨σ', g1, g2, g3⟩ := ih (k + 1) f (ju σ 34 k (nI k)) (by omega) (by omega) (by rw [ju_n (by decide), h3]) (fun j hj => by
      rw [ju_r]
      by_cases a : j = k
      · rw [if_pos a, a]
      · rw [if_neg a]; exact hL j (by omega))
    refine ⟨σ', ?_, (jOff.u (by simp)).trans g2, g3⟩
    rw [jloop_s, ← g1]
    unfold fX7_begin_B11
    rw [if_neg (show ¬ σ.1 32 3 ≤ nI k by rw [h3, nI_leI (by omega) (by omega)]; omega), ob_nI (by omega) (by omega), jst_e, nI_cl (by omega), nI_1]
/-- the least order of a queue -/
def ordB (V : Nat → Nat → Int32) (lw : jL) (s : Nat) (Q : List Nat) : Option (Nat × List Nat) := (ro Q.length Q.length [] 0).foldl (bst (wO (dT V lw s Q) Q.length)) none
theorem sX_order {ch : Nat} {V : Nat → Nat → Int32} {lw : jL} {o s : Nat} {Q : List Nat} {σ : jS} (ho : jLn o) (hx : nX σ ch V) (hg : nG ch V) (hlx : lX σ lw) (hO : lOk lw) (hs : s < 3) (hq : qOk ch Q) (hn : Q.length ≤ 5) (hL : lnX σ o s Q) : ∃ A B C, fX7_begin σ (nI Q.length) = some A ∧ fX5_foreseePairs o A 5 = some B ∧ fX7_seek B = some C ∧ jOff [11, 12, 14, 15, 32, 33, 34, 35] σ C ∧ C.1 32 3 = nI Q.length ∧ bX C Q.length (ordB V lw s Q) := by
  have hb := jLn_b ho
  have e5 : (if (5 : Int32) < nI Q.length then (5 : Int32) else nI Q.length) = nI Q.length := if_neg (fun z => by have := (nI_ltI (a := 5) (b := Q.length) (by omega) (by omega)).mp z; omega)
  have o0 : jOff [32, 34] σ (ju σ 32 3 (nI Q.length)) := jOff.u (by simp)
  obtain ⟨A, eA, oA, rA⟩ := sX7_beginL hn Q.length 0 jN (ju σ 32 3 (nI Q.length)) (by omega) (by have := jN_ge; omega) ju_s (fun j hj => absurd hj (by omega))
  have oA1 : jOff [32, 34] σ A := o0.trans (oA.mono (by simp))
  have a3 : A.1 32 3 = nI Q.length := by rw [oA.1 32 (by decide), ju_s]
  obtain ⟨B, eB, oB, tB⟩ := sX5_pairO ho hg hO hs hq hn Q.length 0 jN A (by omega) (by have := jN_ge; omega) (hx.off oA1 (by decide) (by decide)) (hlx.go oA1 (by decide) (by decide)) (hL.go oA1 (by simp <;> omega) (by simp <;> omega)) (fun p q hp => absurd hp (by omega))
  obtain ⟨C, eC, oC, c3, bC⟩ := sX7_seekL (T := dT V lw s Q) hn (fun p q => (tSec_b hO V s _ _ _).2) 120 0 jN (List.range Q.length) none B (by omega) (by have := jN_ge; omega) (its_ok Q.length (by omega)) (by rw [oB.1 32 (by decide), a3]) (by rw [oB.1 34 (by decide)]; exact rA) tB ⟨fun _ => rfl, fun _ => rfl⟩ trivial
  refine ⟨A, B, C, ?_, eB, ?_, ?_, c3, ?_⟩
  · unfold fX7_begin
    rw [e5, jst_e]
    exact eA
  · unfold fX7_seek
    exact eC
  · exact ((oA1.mono (by simp)).trans (oB.mono (by simp))).trans (oC.mono (by simp))
  · unfold ordB
    rw [← ro_its Q.length (by omega)]
    exact bC
