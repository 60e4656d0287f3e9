/-! the reference: all orders gone into; order of both sides -/
def tD (D : Nat → Nat) : Nat → Nat
  | 0 => 0
  | k + 1 => tD D k + D k
def sD (D : Nat → Nat) : Nat → Nat
  | 0 => 0
  | k + 1 => sD D k + tD D k
theorem wS_sD {T : Nat → Nat → Nat} {l : List Nat} {n : Nat} {D : Nat → Nat} (hD : ∀ k, k + 1 < n → D k = T (la l k) (la l (k + 1))) : ∀ m k, k + m + 1 = n → wS T l n m k + sD D k + (n - k) * tD D k = sD D n := by
  intro m
  induction m with
  | zero =>
    intro k hk
    obtain rfl : n = k + 1 := by omega
    show 0 + sD D k + (k + 1 - k) * tD D k = sD D k + tD D k
    rw [show k + 1 - k = 1 by omega, Nat.one_mul, Nat.zero_add]
  | succ m ih =>
    intro k hk
    have h := ih (k + 1) (by omega)
    have e1 : sD D (k + 1) = sD D k + tD D k := rfl
    have e2 : tD D (k + 1) = tD D k + D k := rfl
    have e3 : wS T l n (m + 1) k = (n - 1 - k) * T (la l k) (la l (k + 1)) + wS T l n m (k + 1) := rfl
    rw [e1, e2, Nat.mul_add] at h
    rw [e3, ← hD k (by omega)]
    have e4 : (n - k) * tD D k = (n - (k + 1)) * tD D k + tD D k := by
      rw [show n - k = (n - (k + 1)) + 1 by omega, Nat.add_mul, Nat.one_mul]
    rw [e4, show n - 1 - k = n - (k + 1) by omega]
    omega
theorem wO_sD {T : Nat → Nat → Nat} {l : List Nat} {n : Nat} {D : Nat → Nat} (hD : ∀ k, k + 1 < n → D k = T (la l k) (la l (k + 1))) : wO T n l = sD D n := by
  unfold wO
  by_cases a : n = 0
  · subst a
    rfl
  · have := wS_sD (T := T) (l := l) (n := n) hD (n - 1) 0 (by omega)
    have e1 : sD D 0 = 0 := rfl
    have e2 : tD D 0 = 0 := rfl
    rw [e1, e2, Nat.mul_zero] at this
    exact this
/-- the turn of a place in an order, as the reference has it -/
def oD (V : Nat → Nat → Int32) (lw : jL) (s n : Nat) (c : Nat → Nat) (k : Nat) : Nat := tSec V lw s (c k) (if n = 1 then 9 else c ((k + 1) % n)) (n - 1)
theorem tD_le {D : Nat → Nat} (h : ∀ k, D k ≤ 1200) : ∀ k, tD D k ≤ 1200 * k := by
  intro k
  induction k with
  | zero => exact Nat.le_refl _
  | succ k ih =>
    have := h k
    show tD D k + D k ≤ 1200 * (k + 1)
    omega
theorem sM_waitsL {ch : Nat} {V : Nat → Nat → Int32} {lw : jL} {s n : Nat} {c : Nat → Nat} (hg : nG ch V) (hO : lOk lw) (hs : s < 3) (hn : n ≤ 5) (hc : ∀ k, k < n → c k < ch) (hne : ∀ i j, i < n → j < n → i ≠ j → c i ≠ c j) : ∀ (m k f : Nat) (σ : jS), k + m = n → m < f → nM σ ch V → lM σ lw → mLn σ n c → ∃ σ', jloop (fX12_waitsOf_B7 (nI s)) f (σ, nI (tD (oD V lw s n c) k), nI (sD (oD V lw s n c) k), nI k) = some (nI (sD (oD V lw s n c) n), σ') ∧ mOff [18, 19] [33, 34, 35, 36] σ σ' := by
  intro m
  induction m with
  | zero =>
    intro k f σ hk hf hm hlm hL
    obtain ⟨f, rfl⟩ : ∃ g, f = g + 1 := ⟨f - 1, by omega⟩
    obtain rfl : k = n := by omega
    refine ⟨σ, ?_, mOff.rf⟩
    rw [jloop_s, fX12_waitsOf_B7_eq]
    exact if_pos (show σ.1 0 42 ≤ nI k by rw [hL.1]; exact Int32.le_refl _)
  | succ m ih =>
    intro k f σ hk hf hm hlm hL
    obtain ⟨f, rfl⟩ : ∃ g, f = g + 1 := ⟨f - 1, by omega⟩
    have hkn : k < n := by omega
    have hmod := Nat.mod_lt (k + 1) (show 0 < n by omega)
    have hco : cOk ch (if n = 1 then 9 else c ((k + 1) % n)) (c k) := by
      by_cases a : n = 1
      · rw [if_pos a]; exact Or.inl rfl
      · rw [if_neg a]
        refine Or.inr ⟨hc _ hmod, hne _ _ hmod hkn ?_⟩
        by_cases b : k + 1 < n
        · rw [Nat.mod_eq_of_lt b]; omega
        · rw [show k + 1 = n by omega, Nat.mod_self]; omega
    obtain ⟨U, eU, oU, TU⟩ := sM_goTurn (q := n - 1) hm hg hlm hO hs (hc k hkn) hco
    obtain ⟨σ', h1, h2⟩ := ih (k + 1) f U (by omega) (by omega) (hm.off oU (by decide) (by decide)) (hlm.go oU (by intro c h1 h2; simp <;> omega) (by decide)) (hL.go oU (by decide) (by decide))
    refine ⟨σ', ?_, oU.trans h2⟩
    have eD : U.1 0 35 = nI (oD V lw s n c k) := TU.2.2.1
    have e1 : tD (oD V lw s n c) (k + 1) = tD (oD V lw s n c) k + oD V lw s n c k := rfl
    have e2 : sD (oD V lw s n c) (k + 1) = sD (oD V lw s n c) k + tD (oD V lw s n c) k := rfl
    rw [e1, e2] at h1
    have key : fX12_waitsOf_B7_J56 (nI s) (jloop (fX12_waitsOf_B7 (nI s)) f) (σ, nI (tD (oD V lw s n c) k), nI (sD (oD V lw s n c) k), nI k) (nI (if n = 1 then 9 else c ((k + 1) % n))) = some (nI (sD (oD V lw s n c) n), σ') := by
      unfold fX12_waitsOf_B7_J56
      show (Option.bind (fX12_goTurn σ (nI s) (σ.1 24 (nI k).toNatClampNeg) (nI (if n = 1 then 9 else c ((k + 1) % n))) ((σ.1 0 42) - (1 : Int32))) fun (q1 : jS) => _) = _
      rw [nI_cl (by omega), hL.2 k hkn, hL.1, show nI n - (1 : Int32) = nI (n - 1) from pk_sub (a := n) (b := 1) (by omega), eU, Option.bind_some]
      show jloop (fX12_waitsOf_B7 (nI s)) f (U, (nI (tD (oD V lw s n c) k) + (U.1 0 35)), (nI (sD (oD V lw s n c) k) + nI (tD (oD V lw s n c) k)), (nI k + (1 : Int32))) = _
      rw [eD, nI_add, nI_add, nI_1]
      exact h1
    have en1 : (nI n = (1 : Int32)) = (n = 1) := propext (nI_eq (a := n) (b := 1) (by omega) (by omega))
    rw [jloop_s, fX12_waitsOf_B7_eq]
    rw [if_neg (show ¬ σ.1 0 42 ≤ nI k by rw [hL.1, nI_leI (by omega) (by omega)]; omega), ob_nI (by omega) (by omega), hL.1]
    simp only [en1]
    by_cases a : n = 1
    · rw [if_pos a]
      rw [if_pos a] at key
      exact key
    · rw [if_neg a]
      rw [if_neg a] at key
      have hod : ∀ {ρ : Type} {o : Option ρ}, od (nI n) o = o := fun {ρ o} => if_neg (fun z => by have := (nI_eq (a := n) (b := 0) (by omega) (by omega)).mp z; omega)
      have er : nI k + (1 : Int32) - (nI k + (1 : Int32)) / nI n * nI n = nI ((k + 1) % n) := by
        rw [nI_1]
        exact pk_rem (a := k + 1) (d := n) (by omega) (by omega) (by omega)
      rw [hod, er, ob_nI (by omega) (by omega), nI_cl (by omega), hL.2 _ hmod]
      exact key
/-- the best that the reference has -/
def bM (σ : jS) (n : Nat) (Q : List Nat) (b : Option (Nat × List Nat)) : Prop := match b with
  | none => σ.1 0 45 = -1
  | some (w, l) => σ.1 0 45 = nI w ∧ w ≤ 20000 ∧ ∀ i, i < n → σ.1 26 i = nI (la Q (la l i))
theorem bM.go {S F : List Nat} {σ σ' : jS} {n : Nat} {Q : List Nat} {b : Option (Nat × List Nat)} (h : bM σ n Q b) (o : mOff S F σ σ') (h1 : 26 ∉ S) (h2 : 45 ∉ F) : bM σ' n Q b := by
  unfold bM at *
  rw [o.1 26 h1 (by decide), o.2.1 45 h2]
  exact h
theorem sM_keepL {n : Nat} {Q : List Nat} {l : List Nat} (hn : n ≤ 5) : ∀ (m k f : Nat) (σ : jS), k + m = n → m < f → mLn σ n (fun i => la Q (la l i)) → (∀ i, i < k → σ.1 26 i = nI (la Q (la l i))) → ∃ σ', jloop fX12_goOrders_B41 f (σ, nI k) = some σ' ∧ mOff [26] [] σ σ' ∧ ∀ i, i < n → σ'.1 26 i = nI (la Q (la l i)) := by
  intro m
  induction m with
  | zero =>
    intro k f σ hk hf hL hq
    obtain ⟨f, rfl⟩ : ∃ g, f = g + 1 := ⟨f - 1, by omega⟩
    obtain rfl : k = n := by omega
    refine ⟨σ, ?_, mOff.rf, hq⟩
    rw [jloop_s]
    unfold fX12_goOrders_B41
    exact if_pos (show σ.1 0 42 ≤ nI k by rw [hL.1]; exact Int32.le_refl _)
  | succ m ih =>
    intro k f σ hk hf hL hq
    obtain ⟨f, rfl⟩ : ∃ g, f = g + 1 := ⟨f - 1, by omega⟩
    have o1 : mOff [26] [] σ (ju σ 26 k (nI (la Q (la l k)))) := mOff.u (by decide) (by decide)
    obtain ⟨σ', h1, h2, h3⟩ := ih (k + 1) f (ju σ 26 k (nI (la Q (la l k)))) (by omega) (by omega) (hL.go o1 (by decide) (by decide)) (fun i hi => by
      rw [ju_r]
      by_cases a : i = k
      · rw [if_pos a, a]
      · rw [if_neg a]; exact hq i (by omega))
    refine ⟨σ', ?_, o1.trans h2, h3⟩
    rw [jloop_s, ← h1]
    unfold fX12_goOrders_B41
    rw [if_neg (show ¬ σ.1 0 42 ≤ nI k by rw [hL.1, nI_leI (by omega) (by omega)]; omega), ob_nI (by omega) (by omega), ob_nI (by omega) (by omega), jst_e, nI_cl (by omega), hL.2 k (by omega), nI_1]
theorem bits5 : ∀ U, U < 32 → ∀ i, i < 5 → ((((nI U >>> (nI i &&& 31)) &&& (1 : Int32)) = (1 : Int32)) ↔ U.testBit i = true) ∧ (nI U ||| ((1 : Int32) <<< (nI i &&& 31))) = nI (U ||| 1 <<< i) ∧ (U ||| 1 <<< i) < 32 := by decide +kernel
/-- how the reference stands among its orders -/
def iM (ch : Nat) (V : Nat → Nat → Int32) (lw : jL) (Q : List Nat) (b : Option (Nat × List Nat)) (σ : jS) : Prop := nM σ ch V ∧ lM σ lw ∧ σ.1 0 42 = nI Q.length ∧ (∀ i, i < Q.length → σ.1 25 i = nI (la Q i)) ∧ bM σ Q.length Q b
theorem sM_goOrders {ch : Nat} {V : Nat → Nat → Int32} {lw : jL} {s : Nat} {Q : List Nat} (hg : nG ch V) (hO : lOk lw) (hs : s < 3) (hq : qOk ch Q) (hn : Q.length ≤ 5) : ∀ (r g : Nat) (P : List Nat) (U : Nat) (b : Option (Nat × List Nat)) (σ : jS), P.length + r = Q.length → r < g → U < 32 → iM ch V lw Q b σ → (∀ j, j < P.length → σ.1 24 j = nI (la Q (la P j))) → (∀ l ∈ ro Q.length r P U, pOk Q.length l = true) → ∃ σ', (gX12o g) σ (nI s) (nI P.length) (nI U) = some σ' ∧ iM ch V lw Q ((ro Q.length r P U).foldl (bst (wO (dT V lw s Q) Q.length)) b) σ' ∧ mOff [18, 19, 24, 26] [33, 34, 35, 36, 45] σ σ' ∧ ∀ j, j < P.length → σ'.1 24 j = σ.1 24 j := by
  intro r
  induction r with
  | zero =>
    intro g P U b σ hP hgr hU hI hpre hall
    obtain ⟨g, rfl⟩ : ∃ g', g = g' + 1 := ⟨g - 1, by omega⟩
    have eR : ro Q.length 0 P U = [P] := rfl
    rw [eR] at hall ⊢
    have hp := hall P (List.mem_cons_self)
    obtain ⟨hm, hlm, h42, hmem, hb⟩ := hI
    have hlt : ∀ k, k < Q.length → la P k < Q.length := fun k hk => pOk_lt hp hk
    have hcs : ∀ k, k < Q.length → la Q (la P k) < ch := fun k hk => hq.2.1 _ (la_mem (hlt k hk))
    have hne : ∀ i j, i < Q.length → j < Q.length → i ≠ j → la Q (la P i) ≠ la Q (la P j) := fun i j hi hj hij z => pOk_ne hp hi hj hij (la_inj hq.1 (hlt i hi) (hlt j hj) z)
    have hL : mLn σ Q.length (fun i => la Q (la P i)) := ⟨h42, fun k hk => hpre k (by omega)⟩
    have eW : wO (dT V lw s Q) Q.length P = sD (oD V lw s Q.length (fun i => la Q (la P i))) Q.length := wO_sD (fun k hk => by
      unfold oD dT
      rw [if_neg (by omega), Nat.mod_eq_of_lt hk])
    have hW := wO_le (T := dT V lw s Q) (l := P) (fun p q => (tSec_b hO V s _ _ _).2) hn
    obtain ⟨X, eX, oX⟩ := sM_waitsL hg hO hs hn hcs hne Q.length 0 jN σ (by omega) (by have := jN_ge; omega) hm hlm hL
    have eX' : fX12_waitsOf σ (nI s) = some (nI (wO (dT V lw s Q) Q.length P), X) := by
      rw [eW]
      exact eX
    have hb' : bM X Q.length Q b := hb.go oX (by decide) (by decide)
    have hmX : nM X ch V := hm.off oX (by decide) (by decide)
    have hlX : lM X lw := hlm.go oX (by intro c h1 h2; simp <;> omega) (by decide)
    have e42 : X.1 0 42 = nI Q.length := by rw [oX.2.1 42 (by decide), h42]
    have e25 : ∀ i, i < Q.length → X.1 25 i = nI (la Q i) := fun i hi => by rw [oX.1 25 (by decide) (by decide)]; exact hmem i hi
    have start : (gX12o (g + 1)) σ (nI s) (nI P.length) (nI U) = (if X.1 0 45 < 0 then bX12_goOrders_J32 (nI (wO (dT V lw s Q) Q.length P), X) () else if nI (wO (dT V lw s Q) Q.length P) < X.1 0 45 then bX12_goOrders_J32 (nI (wO (dT V lw s Q) Q.length P), X) () else some X) := by
      show bX12_goOrders (gX12o g) σ (nI s) (nI P.length) (nI U) = _
      rw [bX12_goOrders_eq, if_pos (show nI P.length = σ.1 0 42 by rw [h42]; congr 1), eX', Option.bind_some]
    have updw : ∃ σ', bX12_goOrders_J32 (nI (wO (dT V lw s Q) Q.length P), X) () = some σ' ∧ iM ch V lw Q (some (wO (dT V lw s Q) Q.length P, P)) σ' ∧ mOff [18, 19, 24, 26] [33, 34, 35, 36, 45] σ σ' ∧ ∀ j, j < P.length → σ'.1 24 j = σ.1 24 j := by
      unfold bX12_goOrders_J32
      rw [jst_e]
      have o1 : mOff [26] [45] X (ju X 0 45 (nI (wO (dT V lw s Q) Q.length P))) := mOff.f (by decide)
      obtain ⟨Y, eY, oY, hY⟩ := sM_keepL (l := P) hn Q.length 0 jN (ju X 0 45 (nI (wO (dT V lw s Q) Q.length P))) (by omega) (by have := jN_ge; omega) ((hL.go oX (by decide) (by decide)).go o1 (by decide) (by decide)) (fun i hi => absurd hi (by omega))
      have oXY : mOff [26] [45] X Y := o1.trans (oY.mono (by simp) (by simp))
      refine ⟨Y, eY, ⟨hmX.off oXY (by decide) (by decide), hlX.go oXY (by intro c h1 h2; simp <;> omega) (by decide), ?_, fun i hi => ?_, ?_, hW, hY⟩, (oX.mono (by simp) (by simp)).trans (oXY.mono (by simp) (by simp)), fun j hj => ?_⟩
      · rw [oXY.2.1 42 (by decide), e42]
      · rw [oXY.1 25 (by decide) (by decide)]; exact e25 i hi
      · rw [oY.2.1 45 (by decide), ju_s]
      · rw [oXY.1 24 (by decide) (by decide), oX.1 24 (by decide) (by decide)]
    rw [start]
    show ∃ σ', _ ∧ iM ch V lw Q (bst (wO (dT V lw s Q) Q.length) b P) σ' ∧ _
    cases b with
    | none =>
      have h45 : X.1 0 45 = -1 := hb'
      rw [if_pos (show X.1 0 45 < 0 by rw [h45]; decide)]
      exact updw
    | some wl =>
      obtain ⟨w, l0⟩ := wl
      obtain ⟨b1, b2, b3⟩ := hb'
      have e : bst (wO (dT V lw s Q) Q.length) (some (w, l0)) P = if wO (dT V lw s Q) Q.length P < w then some (wO (dT V lw s Q) Q.length P, P) else some (w, l0) := rfl
      rw [e, if_neg (show ¬ X.1 0 45 < 0 by rw [b1]; exact nI_pos (by omega)), b1]
      by_cases a : wO (dT V lw s Q) Q.length P < w
      · rw [if_pos a, if_pos ((nI_ltI (by omega) (by omega)).mpr a)]
        exact updw
      · rw [if_neg a, if_neg (fun z => a ((nI_ltI (by omega) (by omega)).mp z))]
        exact ⟨X, rfl, ⟨hmX, hlX, e42, e25, b1, b2, b3⟩, oX.mono (by simp) (by simp), fun j hj => by rw [oX.1 24 (by decide) (by decide)]⟩
  | succ r ih =>
    intro g P U b σ hP hgr hU hI hpre hall
    obtain ⟨g, rfl⟩ : ∃ g', g = g' + 1 := ⟨g - 1, by omega⟩
    have eR : ro Q.length (r + 1) P U = roI (fun i => if U.testBit i then [] else ro Q.length r (P ++ [i]) (U ||| 1 <<< i)) Q.length 0 := rfl
    rw [eR] at hall ⊢
    have inner : ∀ (m i f : Nat) (b : Option (Nat × List Nat)) (σ : jS), i + m = Q.length → m < f → iM ch V lw Q b σ → (∀ j, j < P.length → σ.1 24 j = nI (la Q (la P j))) → (∀ l ∈ roI (fun i => if U.testBit i then [] else ro Q.length r (P ++ [i]) (U ||| 1 <<< i)) m i, pOk Q.length l = true) → ∃ σ', jloop (fX12_goOrders_B74 (nI s) (nI P.length) (nI U) (gX12o g)) f (σ, nI i) = some σ' ∧ iM ch V lw Q ((roI (fun i => if U.testBit i then [] else ro Q.length r (P ++ [i]) (U ||| 1 <<< i)) m i).foldl (bst (wO (dT V lw s Q) Q.length)) b) σ' ∧ mOff [18, 19, 24, 26] [33, 34, 35, 36, 45] σ σ' ∧ ∀ j, j < P.length → σ'.1 24 j = σ.1 24 j := by
      intro m
      induction m with
      | zero =>
        intro i f b σ hi hf hI hpre hall
        obtain ⟨f, rfl⟩ : ∃ g, f = g + 1 := ⟨f - 1, by omega⟩
        obtain rfl : i = Q.length := by omega
        refine ⟨σ, ?_, hI, mOff.rf, fun _ _ => rfl⟩
        rw [jloop_s, fX12_goOrders_B74_eq]
        exact if_pos (show σ.1 0 42 ≤ nI Q.length by rw [hI.2.2.1]; exact Int32.le_refl _)
      | succ m ihm =>
        intro i f b σ hi hf hI hpre hall
        obtain ⟨f, rfl⟩ : ∃ g, f = g + 1 := ⟨f - 1, by omega⟩
        have hiQ : i < Q.length := by omega
        have eI : roI (fun i => if U.testBit i then [] else ro Q.length r (P ++ [i]) (U ||| 1 <<< i)) (m + 1) i = (if U.testBit i then [] else ro Q.length r (P ++ [i]) (U ||| 1 <<< i)) ++ roI (fun i => if U.testBit i then [] else ro Q.length r (P ++ [i]) (U ||| 1 <<< i)) m (i + 1) := rfl
        rw [eI] at hall ⊢
        rw [List.foldl_append]
        obtain ⟨bit1, bit2, bit3⟩ := bits5 U hU i (by omega)
        have e0 : ¬ σ.1 0 42 ≤ nI i := by rw [hI.2.2.1, nI_leI (by omega) (by omega)]; omega
        have step : fX12_goOrders_B74 (nI s) (nI P.length) (nI U) (gX12o g) (jloop (fX12_goOrders_B74 (nI s) (nI P.length) (nI U) (gX12o g)) f) (σ, nI i) = (if U.testBit i = true then jloop (fX12_goOrders_B74 (nI s) (nI P.length) (nI U) (gX12o g)) f (σ, nI (i + 1)) else (Option.bind ((gX12o g) (ju σ 24 P.length (nI (la Q i))) (nI s) (nI (P.length + 1)) (nI (U ||| 1 <<< i))) fun (q2 : jS) => jloop (fX12_goOrders_B74 (nI s) (nI P.length) (nI U) (gX12o g)) f (q2, nI (i + 1)))) := by
          rw [fX12_goOrders_B74_eq]
          unfold fX12_goOrders_B74_J123
          rw [if_neg e0]
          simp only [propext bit1, bit2, ob_nI (show i < 9 by omega) (show 9 < 2 ^ 31 by omega), ob_nI (show P.length < 9 by omega) (show 9 < 2 ^ 31 by omega), nI_cl (show i < 2 ^ 31 by omega), nI_cl (show P.length < 2 ^ 31 by omega), jst_e, nI_1, hI.2.2.2.1 i hiQ]
        rw [jloop_s, step]
        by_cases a : U.testBit i = true
        · rw [if_pos a, if_pos a]
          rw [if_pos a] at hall
          exact ihm (i + 1) f b σ (by omega) (by omega) hI hpre (fun l hl => hall l hl)
        · rw [if_neg a, if_neg a]
          rw [if_neg a] at hall
          have o1 : mOff [24] [] σ (ju σ 24 P.length (nI (la Q i))) := mOff.u (by decide) (by decide)
          have hI1 : iM ch V lw Q b (ju σ 24 P.length (nI (la Q i))) := by
            obtain ⟨i1, i2, i3, i4, i5⟩ := hI
            refine ⟨i1.off o1 (by decide) (by decide), i2.go o1 (by intro c h1 h2; simp <;> omega) (by decide), ?_, fun k hk => ?_, i5.go o1 (by decide) (by decide)⟩
            · rw [o1.2.1 42 (by decide), i3]
            · rw [o1.1 25 (by decide) (by decide)]; exact i4 k hk
          obtain ⟨X, eX, iX, oX, pX⟩ := ih g (P ++ [i]) (U ||| 1 <<< i) b (ju σ 24 P.length (nI (la Q i))) (by rw [List.length_append, List.length_singleton]; omega) (by omega) bit3 hI1 (fun j hj => by
            rw [List.length_append, List.length_singleton] at hj
            rw [ju_r]
            by_cases d : j = P.length
            · rw [if_pos d, d, la_r]
            · rw [if_neg d, la_l (by omega)]
              exact hpre j (by omega)) (fun l hl => hall l (List.mem_append_left _ hl))
          rw [List.length_append, List.length_singleton] at eX pX
          have preX : ∀ j, j < P.length → X.1 24 j = σ.1 24 j := fun j hj => by rw [pX j (by omega), ju_i (by omega)]
          obtain ⟨σ', h1, h2, h3, h4⟩ := ihm (i + 1) f _ X (by omega) (by omega) iX (fun j hj => by rw [preX j hj]; exact hpre j hj) (fun l hl => hall l (List.mem_append_right _ hl))
          refine ⟨σ', ?_, h2, ((o1.mono (by simp) (by simp)).trans oX).trans h3, fun j hj => by rw [h4 j hj, preX j hj]⟩
          rw [eX, Option.bind_some]
          exact h1
    obtain ⟨σ', h1, h2, h3, h4⟩ := inner Q.length 0 jN b σ (by omega) (by have := jN_ge; omega) hI hpre hall
    refine ⟨σ', ?_, h2, h3, h4⟩
    show bX12_goOrders (gX12o g) σ (nI s) (nI P.length) (nI U) = _
    rw [bX12_goOrders_eq, if_neg (fun z => by rw [hI.2.2.1] at z; have := (nI_eq (by omega) (by omega)).mp z; omega)]
    exact h1
theorem bst_some {W : List Nat → Nat} : ∀ (xs : List (List Nat)) (b : Option (Nat × List Nat)), (b ≠ none ∨ xs ≠ []) → ∃ w l, xs.foldl (bst W) b = some (w, l) ∧ (b = some (w, l) ∨ l ∈ xs) := by
  intro xs
  induction xs with
  | nil =>
    intro b h
    cases b with
    | none => rcases h with h | h <;> exact absurd rfl h
    | some wl => exact ⟨wl.1, wl.2, rfl, Or.inl rfl⟩
  | cons x xs ih =>
    intro b h
    have e : (x :: xs).foldl (bst W) b = xs.foldl (bst W) (bst W b x) := rfl
    rw [e]
    cases b with
    | none =>
      obtain ⟨w, l, h1, h2⟩ := ih (bst W none x) (Or.inl (by intro z; cases z))
      refine ⟨w, l, h1, Or.inr ?_⟩
      rcases h2 with h2 | h2
      · cases h2
        exact List.mem_cons_self
      · exact List.mem_cons_of_mem _ h2
    | some wl =>
      obtain ⟨w0, l0⟩ := wl
      have eb : bst W (some (w0, l0)) x = if W x < w0 then some (W x, x) else some (w0, l0) := rfl
      rw [eb]
      by_cases a : W x < w0
      · rw [if_pos a]
        obtain ⟨w, l, h1, h2⟩ := ih (some (W x, x)) (Or.inl (by intro z; cases z))
        refine ⟨w, l, h1, Or.inr ?_⟩
        rcases h2 with h2 | h2
        · cases h2
          exact List.mem_cons_self
        · exact List.mem_cons_of_mem _ h2
      · rw [if_neg a]
        obtain ⟨w, l, h1, h2⟩ := ih (some (w0, l0)) (Or.inl (by intro z; cases z))
        refine ⟨w, l, h1, ?_⟩
        rcases h2 with h2 | h2
        · exact Or.inl h2
        · exact Or.inr (List.mem_cons_of_mem _ h2)
theorem ordB_some {V : Nat → Nat → Int32} {lw : jL} {s : Nat} {Q : List Nat} (hn : Q.length ≤ 5) : ∃ w l, ordB V lw s Q = some (w, l) ∧ pOk Q.length l = true := by
  unfold ordB
  rw [← ro_its Q.length (by omega)]
  obtain ⟨w, l, h1, h2⟩ := bst_some (W := wO (dT V lw s Q) Q.length) (its 120 (List.range Q.length)) none (Or.inr (by
    have e : its 120 (List.range Q.length) = List.range Q.length :: (match nxt (List.range Q.length) with
      | none => []
      | some l' => its 119 l') := rfl
    rw [e]
    exact List.cons_ne_nil _ _))
  refine ⟨w, l, h1, ?_⟩
  rcases h2 with h2 | h2
  · cases h2
  · exact its_ok Q.length (by omega) l h2
theorem sM_membL {n : Nat} {f : Nat → Nat} (hn : n ≤ 9) : ∀ (m k g : Nat) (σ : jS), k + m = n → m < g → mLn σ n f → (∀ i, i < k → σ.1 25 i = nI (f i)) → ∃ σ', (∀ j69, jloop (fX12_order_B43 j69) g (σ, nI k) = j69 σ') ∧ mOff [25] [] σ σ' ∧ ∀ i, i < n → σ'.1 25 i = nI (f i) := by
  intro m
  induction m with
  | zero =>
    intro k g σ hk hg hL hq
    obtain ⟨g, rfl⟩ : ∃ g', g = g' + 1 := ⟨g - 1, by omega⟩
    obtain rfl : k = n := by omega
    refine ⟨σ, fun j => ?_, mOff.rf, hq⟩
    rw [jloop_s]
    unfold fX12_order_B43
    exact if_pos (show σ.1 0 42 ≤ nI k by rw [hL.1]; exact Int32.le_refl _)
  | succ m ih =>
    intro k g σ hk hg hL hq
    obtain ⟨g, rfl⟩ : ∃ g', g = g' + 1 := ⟨g - 1, by omega⟩
    have o1 : mOff [25] [] σ (ju σ 25 k (nI (f k))) := mOff.u (by decide) (by decide)
    obtain ⟨σ', h1, h2, h3⟩ := ih (k + 1) g (ju σ 25 k (nI (f k))) (by omega) (by omega) (hL.go o1 (by decide) (by decide)) (fun i hi => by
      rw [ju_r]
      by_cases a : i = k
      · rw [if_pos a, a]
      · rw [if_neg a]; exact hq i (by omega))
    refine ⟨σ', fun j => ?_, o1.trans h2, h3⟩
    rw [jloop_s, ← h1 j]
    unfold fX12_order_B43
    rw [if_neg (show ¬ σ.1 0 42 ≤ nI k by rw [hL.1, nI_leI (by omega) (by omega)]; omega), ob_nI (by omega) (by omega), ob_nI (by omega) (by omega), jst_e, nI_cl (by omega), hL.2 k (by omega), nI_1]
theorem eq_order {σx σm : jS} {ch : Nat} {V : Nat → Nat → Int32} {lw : jL} (h : rN σx σm ch V) (hlx : lX σx lw) (hlm : lM σm lw) (ho : lOk lw) (hr : rLn σx) (p1 p2 : Int32) : ∃ r σx' σm', fX11_order σx p1 p2 = some (r, σx') ∧ fX12_order σm p1 p2 = some (r, σm') ∧ rLn σx' ∧ jOff (32 :: 33 :: 34 :: 35 :: lnC) σx σx' ∧ mOff [18, 19, 24, 25, 26] [33, 34, 35, 36, 42, 45] σm σm' := by
  obtain ⟨hx, hm, hg⟩ := id h
  have hc9 := hx.1
  unfold fX11_order
  rw [fX12_order_eq, sX6_isSwing, sM_isSwing, Option.bind_some, Option.bind_some]
  simp only [jb_jo]
  by_cases a : isCh 3 p1
  · rw [if_neg (fun (z : ¬ isCh 3 p1) => z a), if_neg (fun (z : ¬ isCh 3 p1) => z a)]
    obtain ⟨s, hs, rfl⟩ := isCh_nat a
    have hql : qOk ch (qL V ch s) := qL_ok hc9
    have hq9 := hql.2.2
    obtain ⟨X, eX, oX, lX1, _⟩ := sX5_form (jLn_i hs) hx hg hs (hr s hs)
    obtain ⟨M, eM, oM, lM1⟩ := sM_layLine (s := s) hm hg hs
    have m1 : (-1 : Int32).toInt = -1 := rfl
    have hTn := nI_T (k := (qL V ch s).length) (by omega)
    have hT1 : (nI (qL V ch s).length - 1).toInt = ((qL V ch s).length : Int) - 1 := by
      rw [i_sub] <;> rw [hTn, show (1 : Int32).toInt = 1 from rfl] <;> omega
    rw [eM, Option.bind_some, sM_in, Option.bind_some, lM1.1]
    simp only [jb_jo, hT1, m1]
    have oXl : jOff (32 :: 33 :: 34 :: 35 :: lnC) σx X := oX.mono (fun c hc => by
      simp only [List.mem_cons, lnC_m]
      simp only [List.mem_cons, List.not_mem_nil, or_false] at hc
      omega)
    have rX : rLn X := hr.off hs oX (fun k _ hk => by simp <;> omega) lX1.1
    have oMl : mOff [18, 19, 24, 25, 26] [33, 34, 35, 36, 42, 45] σm M := oM.mono (by simp) (by simp)
    by_cases b : -1 ≤ p2.toInt ∧ p2.toInt ≤ ((qL V ch s).length : Int) - 1
    · rw [if_pos (show (-1 : Int32) ≤ p2 by rw [i_le, m1]; exact b.1), if_neg (fun (z : ¬ (-1 ≤ p2.toInt ∧ p2.toInt ≤ ((qL V ch s).length : Int) - 1)) => z b), jaa_i hs, eX, Option.bind_some, lX1.2.1, if_pos (show p2 < nI (qL V ch s).length by rw [i_lt, hTn]; omega)]
      have e5 : (nI (qL V ch s).length ≤ (5 : Int32)) = ((qL V ch s).length ≤ 5) := propext (nI_leI (a := (qL V ch s).length) (b := 5) (by omega) (by omega))
      simp only [e5]
      by_cases c : (qL V ch s).length ≤ 5
      · rw [if_pos c, if_pos c]
        obtain ⟨A, B, C, eA, eB, eC, oC, c3, bC⟩ := sX_order (jLn_i hs) (hx.off oX (by simp <;> omega) (by simp <;> omega)) hg (hlx.go oX (by simp <;> omega) (by simp <;> omega)) ho hs hql c lX1
        obtain ⟨w, l, eO, pl⟩ := ordB_some (V := V) (lw := lw) (s := s) c
        rw [eO] at bC
        obtain ⟨c4, c5, c6, c7⟩ := bC
        have llen := pOk_len pl
        have lC : lnX C (17 + 5 * s) s (qL V ch s) := lX1.go oC (by simp <;> omega) (by simp <;> omega)
        have rC' : rLn C := rX.all oC (by intro k hk; simp <;> omega)
        have oC' : jOff (32 :: 33 :: 34 :: 35 :: lnC) σx C := oXl.trans (oC.mono (fun c hc => by
          simp only [List.mem_cons, lnC_m]
          simp only [List.mem_cons, List.not_mem_nil, or_false] at hc
          omega))
        obtain ⟨N, eN, oN, hN⟩ := sM_membL hq9 (qL V ch s).length 0 jN M (by omega) (by have := jN_ge; omega) lM1 (fun i hi => absurd hi (by omega))
        have eN' : ∀ j69, jloop (fX12_order_B43 j69) jN (M, (0 : Int32)) = j69 N := eN
        have oN1 : mOff [25] [45] N (ju N 0 45 (-1)) := mOff.f (by decide)
        have oN2 : mOff [18, 19, 24, 25, 26] [33, 34, 35, 36, 42, 45] σm (ju N 0 45 (-1)) := (oMl.trans (oN.mono (by simp) (by simp))).trans (oN1.mono (by simp) (by simp))
        obtain ⟨O, eO2, iO, oO, _⟩ := sM_goOrders hg ho hs hql c (qL V ch s).length jG [] 0 none (ju N 0 45 (-1)) (by simp) (by show (qL V ch s).length < 100; omega) (by decide) ⟨hm.off oN2 (by decide) (by decide), hlm.go oN2 (by intro c h1 h2; simp <;> omega) (by decide), by rw [ju_i (by decide), oN.2.1 42 (by decide), lM1.1], fun i hi => by rw [ju_n (by decide)]; exact hN i hi, ju_s⟩ (fun j hj => absurd hj (by simp)) (fun l hl => by
          rw [← ro_its (qL V ch s).length (by omega)] at hl
          exact its_ok (qL V ch s).length (by omega) l hl)
        have eO3 : (gX12o jG) (ju N 0 45 (-1)) (nI s) (0 : Int32) (0 : Int32) = some O := eO2
        have bO : bM O (qL V ch s).length (qL V ch s) (ordB V lw s (qL V ch s)) := iO.2.2.2.2
        rw [eO] at bO
        obtain ⟨b4, b5, b6⟩ := bO
        rw [eA, Option.bind_some, eB, Option.bind_some, eC, Option.bind_some, eN']
        unfold fX12_order_J69
        rw [jst_e, eO3, Option.bind_some]
        have oO' : mOff [18, 19, 24, 25, 26] [33, 34, 35, 36, 42, 45] σm O := oN2.trans (oO.mono (by simp) (by simp))
        by_cases d : 0 ≤ p2
        · rw [if_pos d, if_pos d]
          rw [i_le, show (0 : Int32).toInt = 0 from rfl] at d
          obtain ⟨k, _, hk, rfl⟩ := nI_of3 (lo := 0) (hi := (qL V ch s).length - 1) (by omega) (by omega) (by omega)
          have hkn : k < (qL V ch s).length := by
            have := nI_T (k := k) (by omega)
            omega
          have hlk := pOk_lt pl hkn
          have eF : fX7_foundAt C (nI k) = some (nI (la l k)) := by
            unfold fX7_foundAt
            rw [if_neg (nI_pos (by omega)), c3, if_neg (fun z => by have := (nI_leI (by omega) (by omega)).mp z; omega), ob_nI (by omega) (by omega), nI_cl (by omega), c7 k (by omega)]
          have eCh : fX5_childAt (17 + 5 * s) C (nI (la l k)) = some (nI (la (qL V ch s) (la l k))) := by
            unfold fX5_childAt
            rw [if_neg (nI_pos (by omega)), lC.2.1, if_neg (fun z => by have := (nI_leI (by omega) (by omega)).mp z; omega), ob_nI (by omega) (by omega), nI_cl (by omega), lC.2.2 _ hlk]
          rw [eF, Option.bind_some, eCh, Option.bind_some, ob_nI (by omega) (by omega), nI_cl (by omega), b6 k hkn]
          exact ⟨_, C, O, rfl, rfl, rC', oC', oO'⟩
        · rw [if_neg d, if_neg d, c4, b4]
          exact ⟨_, C, O, rfl, rfl, rC', oC', oO'⟩
      · rw [if_neg c, if_neg c]
        exact ⟨_, X, M, rfl, rfl, rX, oXl, oMl⟩
    · rw [if_pos b]
      by_cases c : (-1 : Int32) ≤ p2
      · rw [if_pos c, jaa_i hs, eX, Option.bind_some, lX1.2.1, if_neg (show ¬ p2 < nI (qL V ch s).length from fun z => b (by
          rw [i_le, m1] at c
          rw [i_lt, hTn] at z
          omega))]
        exact ⟨_, X, M, rfl, rfl, rX, oXl, oMl⟩
      · rw [if_neg c]
        exact ⟨_, σx, M, rfl, rfl, hr, jOff.rf, oMl⟩
  · rw [if_pos a, if_pos a]
    exact ⟨_, _, _, rfl, rfl, hr, jOff.rf, mOff.rf⟩
