/-! BODIES: the reference, and both sides are the same -/
def pSw (k : Nat) (x n : Int32) : Int32 × List Nat := if k = 1 ∨ k = 4 then (n + x + 3, [20, 1]) else if k = 7 then ((n + x) * 2 - 1, [81, 70, 1]) else if k = 6 then ((n + x) * 2, [70, 1]) else (n + x, [1])
def pPc (k : Nat) (x n : Int32) : Int32 × List Nat := ((pSw k x n).1 * 2, 10 :: (pSw k x n).2)
def pLc (k : Nat) (x n : Int32) : Int32 × List Nat := (-(pPc k x n).1, 30 :: (pPc k x n).2)
def pWt (k : Nat) (x n : Int32) : Int32 × List Nat := if k = 5 then ((n ^^^ x) * 3 - (pSw k x 2).1, 60 :: ([40, 11] ++ (pSw k x 2).2)) else if k = 3 then ((n ^^^ x) * 3, [40, 11]) else (n ^^^ x, [11])
def pCt (k : Nat) (x n : Int32) : Int32 × List Nat := if k = 3 ∨ k = 5 then ((pLc k x (n + 1)).1, 41 :: (pLc k x (n + 1)).2) else if k = 7 then ((pPc k x n).1 + (pWt k x 2).1, 80 :: ((pPc k x n).2 ++ (pWt k x 2).2)) else if k = 2 then pLc k x n else pPc k x n
def pPt (k : Nat) (x n : Int32) : Int32 × List Nat := ((pCt k x n).1 - (pWt k x 1).1, 2 :: ((pCt k x n).2 ++ (pWt k x 1).2))
def pTl (k : Nat) (x n : Int32) : Int32 × List Nat := if k = 4 then ((pPt k x n).1 ^^^ 5, 50 :: (pPt k x n).2) else if k = 5 then ((pPt k x n).1 + 1, 61 :: (pPt k x n).2) else pPt k x n
def pAct (k : Nat) (x n : Int32) (a : Nat) : Int32 × List Nat := if a = 0 then pSw k x n else if a = 1 then pCt k x n else if a = 2 then pWt k x n else pTl k x n
theorem c8 {k : Nat} (h : k < 8) : k = 0 ∨ k = 1 ∨ k = 2 ∨ k = 3 ∨ k = 4 ∨ k = 5 ∨ k = 6 ∨ k = 7 := by omega
theorem c4 {k : Nat} (h : k < 4) : k = 0 ∨ k = 1 ∨ k = 2 ∨ k = 3 := by omega
theorem pRun_eq : ∀ k, k < 8 → ∀ a, a < 4 → ∀ x n, pRun 12 k x (bFrom 8 k a) n = some (pAct k x n a) := by
  intro k hk a ha x n
  rcases c8 hk with rfl | rfl | rfl | rfl | rfl | rfl | rfl | rfl <;> rcases c4 ha with rfl | rfl | rfl | rfl <;> rfl
theorem pSw_len (k : Nat) (x n : Int32) : (pSw k x n).2.length ≤ 3 := by
  unfold pSw
  split
  · simp
  · split
    · simp
    · split <;> simp
theorem pWt_len (k : Nat) (x n : Int32) : (pWt k x n).2.length ≤ 6 := by
  unfold pWt
  have := pSw_len k x 2
  split
  · simp only [List.length_cons, List.length_append, List.length_nil]; omega
  · split <;> simp
theorem pPc_len (k : Nat) (x n : Int32) : (pPc k x n).2.length ≤ 4 := by
  unfold pPc
  have := pSw_len k x n
  simp only [List.length_cons]; omega
theorem pLc_len (k : Nat) (x n : Int32) : (pLc k x n).2.length ≤ 5 := by
  unfold pLc
  have := pPc_len k x n
  simp only [List.length_cons]; omega
theorem pCt_len (k : Nat) (x n : Int32) : (pCt k x n).2.length ≤ 11 := by
  unfold pCt
  have a1 := pPc_len k x n
  have a2 := pLc_len k x n
  have a3 := pLc_len k x (n + 1)
  have a4 := pWt_len k x 2
  split
  · simp only [List.length_cons]; omega
  · split
    · simp only [List.length_cons, List.length_append]; omega
    · split <;> omega
theorem pPt_len (k : Nat) (x n : Int32) : (pPt k x n).2.length ≤ 18 := by
  unfold pPt
  have a1 := pCt_len k x n
  have a4 := pWt_len k x 1
  simp only [List.length_cons, List.length_append]; omega
theorem pAct_len (k : Nat) (x n : Int32) (a : Nat) : (pAct k x n a).2.length ≤ 20 := by
  unfold pAct
  have a1 := pSw_len k x n
  have a2 := pCt_len k x n
  have a3 := pWt_len k x n
  have a4 := pPt_len k x n
  split
  · omega
  · split
    · omega
    · split
      · omega
      · unfold pTl
        split
        · simp only [List.length_cons]; omega
        · split
          · simp only [List.length_cons]; omega
          · omega
/-- a KIND is under a KIND -/
abbrev und (k t : Nat) : Prop := t = 0 ∨ k = t ∨ (t = 1 ∧ k = 4) ∨ (t = 2 ∧ (k = 3 ∨ k = 5)) ∨ (t = 3 ∧ k = 5) ∨ (t = 6 ∧ k = 7)
theorem sM_under {σ : jS} : ∀ k, k < 8 → ∀ t, t < 8 → fX12_isUnder σ (nI k) (nI t) = some (jo (und k t)) := by
  intro k hk t ht
  rcases c8 hk with rfl | rfl | rfl | rfl | rfl | rfl | rfl | rfl <;> rcases c8 ht with rfl | rfl | rfl | rfl | rfl | rfl | rfl | rfl <;> rfl
theorem sX_under {σ : jS} : ∀ k, k < 8 → ∀ t, t < 8 → fX0_isUnder σ (nI k) (nI t) = some (jo (und k t)) := by
  intro k hk t ht
  unfold fX0_isUnder
  obtain ⟨n, hn⟩ : ∃ n, jN = n + 10 := ⟨jN - 10, by have := jN_ge; omega⟩
  rw [hn]
  rcases c8 hk with rfl | rfl | rfl | rfl | rfl | rfl | rfl | rfl <;> rcases c8 ht with rfl | rfl | rfl | rfl | rfl | rfl | rfl | rfl <;> rfl
theorem mK {σ0 σ : jS} {T : List Nat} {i k : Nat} (h : mT σ0 σ T) (hk : σ0.1 29 i = nI k) : σ.1 29 i = nI k := by
  rw [h.1 29 (by decide) (by decide), hk]
theorem k_eq {k : Nat} (hk : k < 8) (t : Nat) (ht : t < 8) : (nI k = nI t) = (k = t) := propext (nI_eq (by omega) (by omega))
theorem sM_plain {σ0 σ : jS} {T : List Nat} {x n : Int32} (h : mT σ0 σ T) (hl : T.length ≤ 1000) : ∃ σ', fX12_plainSwings σ x n = some (n + x, σ') ∧ mT σ0 σ' (T ++ [1]) := by
  unfold fX12_plainSwings
  obtain ⟨σ1, e, h1⟩ := mT_push h hl 1
  rw [show fX12_ran σ (1 : Int32) = some σ1 from e, Option.bind_some]
  exact ⟨σ1, rfl, h1⟩
theorem sM_short {σ0 σ : jS} {T : List Nat} {x n : Int32} (h : mT σ0 σ T) (hl : T.length ≤ 900) : ∃ σ', fX12_shortSwings σ x n = some ((n + x) * 2, σ') ∧ mT σ0 σ' (T ++ [70, 1]) := by
  unfold fX12_shortSwings
  obtain ⟨σ1, e, h1⟩ := mT_push h (by omega) 70
  rw [show fX12_ran σ (70 : Int32) = some σ1 from e, Option.bind_some]
  obtain ⟨σ2, e2, h2⟩ := sM_plain (x := x) (n := n) h1 (by simp; omega)
  rw [e2, Option.bind_some]
  exact ⟨σ2, rfl, by simpa [List.append_assoc] using h2⟩
theorem sM_swinging {σ0 σ : jS} {T : List Nat} {i k : Nat} {n : Int32} (h : mT σ0 σ T) (hl : T.length ≤ 800) (hi : i < 50) (hk : k < 8) (hk0 : σ0.1 29 i = nI k) : ∃ σ', fX12_swinging σ (nI i) n = some ((pSw k (nI i) n).1, σ') ∧ mT σ0 σ' (T ++ (pSw k (nI i) n).2) := by
  unfold fX12_swinging pSw
  simp only [ob_nI hi (show 50 < 2 ^ 31 by omega), nI_cl (show i < 2 ^ 31 by omega), mK h hk0]
  rw [show fX12_isUnder σ (nI k) (1 : Int32) = some (jo (und k 1)) from sM_under k hk 1 (by omega), Option.bind_some]
  simp only [jb_jo, show (nI k = (7 : Int32)) = (k = 7) from k_eq hk 7 (by omega), show (nI k = (6 : Int32)) = (k = 6) from k_eq hk 6 (by omega)]
  by_cases a : k = 1 ∨ k = 4
  · rw [if_neg (fun z => z (by unfold und; omega)), if_pos a]
    obtain ⟨σ1, e, h1⟩ := mT_push h (by omega) 20
    rw [show fX12_ran σ (20 : Int32) = some σ1 from e, Option.bind_some]
    obtain ⟨σ2, e2, h2⟩ := sM_plain (x := nI i) (n := n) h1 (by simp; omega)
    rw [e2, Option.bind_some]
    exact ⟨σ2, rfl, by simpa [List.append_assoc] using h2⟩
  · rw [if_pos (show ¬ und k 1 by unfold und; omega), if_neg a]
    by_cases b : k = 7
    · rw [if_pos b, if_pos b]
      obtain ⟨σ1, e, h1⟩ := mT_push h (by omega) 81
      rw [show fX12_ran σ (81 : Int32) = some σ1 from e, Option.bind_some]
      obtain ⟨σ2, e2, h2⟩ := sM_short (x := nI i) (n := n) h1 (by simp; omega)
      rw [e2, Option.bind_some]
      exact ⟨σ2, rfl, by simpa [List.append_assoc] using h2⟩
    · rw [if_neg b, if_neg b]
      by_cases c : k = 6
      · rw [if_pos c, if_pos c]
        obtain ⟨σ2, e2, h2⟩ := sM_short (x := nI i) (n := n) h (by omega)
        rw [e2, Option.bind_some]
        exact ⟨σ2, rfl, h2⟩
      · rw [if_neg c, if_neg c]
        obtain ⟨σ2, e2, h2⟩ := sM_plain (x := nI i) (n := n) h (by omega)
        rw [e2, Option.bind_some]
        exact ⟨σ2, rfl, h2⟩
theorem sM_pc {σ0 σ : jS} {T : List Nat} {i k : Nat} {n : Int32} (h : mT σ0 σ T) (hl : T.length ≤ 700) (hi : i < 50) (hk : k < 8) (hk0 : σ0.1 29 i = nI k) : ∃ σ', fX12_plainCounts σ (nI i) n = some ((pPc k (nI i) n).1, σ') ∧ mT σ0 σ' (T ++ (pPc k (nI i) n).2) := by
  unfold fX12_plainCounts pPc
  obtain ⟨σ1, e, h1⟩ := mT_push h (by omega) 10
  rw [show fX12_ran σ (10 : Int32) = some σ1 from e, Option.bind_some]
  obtain ⟨σ2, e2, h2⟩ := sM_swinging (n := n) h1 (by simp; omega) hi hk hk0
  rw [e2, Option.bind_some]
  exact ⟨σ2, rfl, by simpa [List.append_assoc] using h2⟩
theorem sM_lc {σ0 σ : jS} {T : List Nat} {i k : Nat} {n : Int32} (h : mT σ0 σ T) (hl : T.length ≤ 600) (hi : i < 50) (hk : k < 8) (hk0 : σ0.1 29 i = nI k) : ∃ σ', fX12_longCounts σ (nI i) n = some ((pLc k (nI i) n).1, σ') ∧ mT σ0 σ' (T ++ (pLc k (nI i) n).2) := by
  unfold fX12_longCounts pLc
  obtain ⟨σ1, e, h1⟩ := mT_push h (by omega) 30
  rw [show fX12_ran σ (30 : Int32) = some σ1 from e, Option.bind_some]
  obtain ⟨σ2, e2, h2⟩ := sM_pc (n := n) h1 (by simp; omega) hi hk hk0
  rw [e2, Option.bind_some]
  exact ⟨σ2, rfl, by simpa [List.append_assoc] using h2⟩
theorem sM_pw {σ0 σ : jS} {T : List Nat} {x n : Int32} (h : mT σ0 σ T) (hl : T.length ≤ 700) : ∃ σ', fX12_plainWaits σ x n = some (n ^^^ x, σ') ∧ mT σ0 σ' (T ++ [11]) := by
  unfold fX12_plainWaits
  obtain ⟨σ1, e, h1⟩ := mT_push h (by omega) 11
  rw [show fX12_ran σ (11 : Int32) = some σ1 from e, Option.bind_some]
  exact ⟨σ1, rfl, h1⟩
theorem sM_hw {σ0 σ : jS} {T : List Nat} {x n : Int32} (h : mT σ0 σ T) (hl : T.length ≤ 600) : ∃ σ', fX12_helpedWaits σ x n = some ((n ^^^ x) * 3, σ') ∧ mT σ0 σ' (T ++ [40, 11]) := by
  unfold fX12_helpedWaits
  obtain ⟨σ1, e, h1⟩ := mT_push h (by omega) 40
  rw [show fX12_ran σ (40 : Int32) = some σ1 from e, Option.bind_some]
  obtain ⟨σ2, e2, h2⟩ := sM_pw (x := x) (n := n) h1 (by simp; omega)
  rw [e2, Option.bind_some]
  exact ⟨σ2, rfl, by simpa [List.append_assoc] using h2⟩
theorem sM_waiting {σ0 σ : jS} {T : List Nat} {i k : Nat} {n : Int32} (h : mT σ0 σ T) (hl : T.length ≤ 500) (hi : i < 50) (hk : k < 8) (hk0 : σ0.1 29 i = nI k) : ∃ σ', fX12_waiting σ (nI i) n = some ((pWt k (nI i) n).1, σ') ∧ mT σ0 σ' (T ++ (pWt k (nI i) n).2) := by
  unfold fX12_waiting pWt
  simp only [ob_nI hi (show 50 < 2 ^ 31 by omega), nI_cl (show i < 2 ^ 31 by omega), mK h hk0]
  simp only [show (nI k = (5 : Int32)) = (k = 5) from k_eq hk 5 (by omega), show (nI k = (3 : Int32)) = (k = 3) from k_eq hk 3 (by omega)]
  by_cases a : k = 5
  · rw [if_pos a, if_pos a]
    obtain ⟨σ1, e, h1⟩ := mT_push h (by omega) 60
    rw [show fX12_ran σ (60 : Int32) = some σ1 from e, Option.bind_some]
    obtain ⟨σ2, e2, h2⟩ := sM_hw (x := nI i) (n := n) h1 (by simp; omega)
    rw [e2, Option.bind_some]
    obtain ⟨σ3, e3, h3⟩ := sM_swinging (n := 2) h2 (by simp; omega) hi hk hk0
    rw [e3, Option.bind_some]
    exact ⟨σ3, rfl, by simpa [List.append_assoc] using h3⟩
  · rw [if_neg a, if_neg a]
    by_cases b : k = 3
    · rw [if_pos b, if_pos b]
      obtain ⟨σ2, e2, h2⟩ := sM_hw (x := nI i) (n := n) h (by omega)
      rw [e2, Option.bind_some]
      exact ⟨σ2, rfl, h2⟩
    · rw [if_neg b, if_neg b]
      obtain ⟨σ2, e2, h2⟩ := sM_pw (x := nI i) (n := n) h (by omega)
      rw [e2, Option.bind_some]
      exact ⟨σ2, rfl, h2⟩
theorem sM_counting {σ0 σ : jS} {T : List Nat} {i k : Nat} {n : Int32} (h : mT σ0 σ T) (hl : T.length ≤ 400) (hi : i < 50) (hk : k < 8) (hk0 : σ0.1 29 i = nI k) : ∃ σ', fX12_counting σ (nI i) n = some ((pCt k (nI i) n).1, σ') ∧ mT σ0 σ' (T ++ (pCt k (nI i) n).2) := by
  unfold fX12_counting pCt
  simp only [ob_nI hi (show 50 < 2 ^ 31 by omega), nI_cl (show i < 2 ^ 31 by omega), mK h hk0]
  rw [show fX12_isUnder σ (nI k) (3 : Int32) = some (jo (und k 3)) from sM_under k hk 3 (by omega), Option.bind_some]
  simp only [jb_jo, show (nI k = (7 : Int32)) = (k = 7) from k_eq hk 7 (by omega), show (nI k = (2 : Int32)) = (k = 2) from k_eq hk 2 (by omega)]
  by_cases a : k = 3 ∨ k = 5
  · rw [if_neg (fun z => z (by unfold und; omega)), if_pos a]
    obtain ⟨σ1, e, h1⟩ := mT_push h (by omega) 41
    rw [show fX12_ran σ (41 : Int32) = some σ1 from e, Option.bind_some]
    obtain ⟨σ2, e2, h2⟩ := sM_lc (n := n + 1) h1 (by simp; omega) hi hk hk0
    rw [e2, Option.bind_some]
    exact ⟨σ2, rfl, by simpa [List.append_assoc] using h2⟩
  · rw [if_pos (show ¬ und k 3 by unfold und; omega), if_neg a]
    by_cases b : k = 7
    · rw [if_pos b, if_pos b]
      obtain ⟨σ1, e, h1⟩ := mT_push h (by omega) 80
      rw [show fX12_ran σ (80 : Int32) = some σ1 from e, Option.bind_some]
      obtain ⟨σ2, e2, h2⟩ := sM_pc (n := n) h1 (by simp; omega) hi hk hk0
      rw [e2, Option.bind_some]
      have := pPc_len k (nI i) n
      obtain ⟨σ3, e3, h3⟩ := sM_waiting (n := 2) h2 (by simp only [List.length_append, List.length_cons, List.length_nil]; omega) hi hk hk0
      rw [e3, Option.bind_some]
      exact ⟨σ3, rfl, by simpa [List.append_assoc] using h3⟩
    · rw [if_neg b, if_neg b]
      by_cases c : k = 2
      · rw [if_pos c, if_pos c]
        obtain ⟨σ2, e2, h2⟩ := sM_lc (n := n) h (by omega) hi hk hk0
        rw [e2, Option.bind_some]
        exact ⟨σ2, rfl, h2⟩
      · rw [if_neg c, if_neg c]
        obtain ⟨σ2, e2, h2⟩ := sM_pc (n := n) h (by omega) hi hk hk0
        rw [e2, Option.bind_some]
        exact ⟨σ2, rfl, h2⟩
theorem sM_pt {σ0 σ : jS} {T : List Nat} {i k : Nat} {n : Int32} (h : mT σ0 σ T) (hl : T.length ≤ 300) (hi : i < 50) (hk : k < 8) (hk0 : σ0.1 29 i = nI k) : ∃ σ', fX12_plainTells σ (nI i) n = some ((pPt k (nI i) n).1, σ') ∧ mT σ0 σ' (T ++ (pPt k (nI i) n).2) := by
  unfold fX12_plainTells pPt
  obtain ⟨σ1, e, h1⟩ := mT_push h (by omega) 2
  rw [show fX12_ran σ (2 : Int32) = some σ1 from e, Option.bind_some]
  obtain ⟨σ2, e2, h2⟩ := sM_counting (n := n) h1 (by simp; omega) hi hk hk0
  rw [e2, Option.bind_some]
  have := pCt_len k (nI i) n
  obtain ⟨σ3, e3, h3⟩ := sM_waiting (n := 1) h2 (by simp only [List.length_append, List.length_cons, List.length_nil]; omega) hi hk hk0
  rw [e3, Option.bind_some]
  exact ⟨σ3, rfl, by simpa [List.append_assoc] using h3⟩
theorem sM_telling {σ0 σ : jS} {T : List Nat} {i k : Nat} {n : Int32} (h : mT σ0 σ T) (hl : T.length ≤ 200) (hi : i < 50) (hk : k < 8) (hk0 : σ0.1 29 i = nI k) : ∃ σ', fX12_telling σ (nI i) n = some ((pTl k (nI i) n).1, σ') ∧ mT σ0 σ' (T ++ (pTl k (nI i) n).2) := by
  unfold fX12_telling pTl
  simp only [ob_nI hi (show 50 < 2 ^ 31 by omega), nI_cl (show i < 2 ^ 31 by omega), mK h hk0]
  simp only [show (nI k = (5 : Int32)) = (k = 5) from k_eq hk 5 (by omega), show (nI k = (4 : Int32)) = (k = 4) from k_eq hk 4 (by omega)]
  by_cases a : k = 4
  · rw [if_pos a, if_pos a]
    obtain ⟨σ1, e, h1⟩ := mT_push h (by omega) 50
    rw [show fX12_ran σ (50 : Int32) = some σ1 from e, Option.bind_some]
    obtain ⟨σ2, e2, h2⟩ := sM_pt (n := n) h1 (by simp; omega) hi hk hk0
    rw [e2, Option.bind_some]
    exact ⟨σ2, rfl, by simpa [List.append_assoc] using h2⟩
  · rw [if_neg a, if_neg a]
    by_cases b : k = 5
    · rw [if_pos b, if_pos b]
      obtain ⟨σ1, e, h1⟩ := mT_push h (by omega) 61
      rw [show fX12_ran σ (61 : Int32) = some σ1 from e, Option.bind_some]
      obtain ⟨σ2, e2, h2⟩ := sM_pt (n := n) h1 (by simp; omega) hi hk hk0
      rw [e2, Option.bind_some]
      exact ⟨σ2, rfl, by simpa [List.append_assoc] using h2⟩
    · rw [if_neg b, if_neg b]
      obtain ⟨σ2, e2, h2⟩ := sM_pt (n := n) h (by omega) hi hk hk0
      rw [e2, Option.bind_some]
      exact ⟨σ2, rfl, h2⟩
/-- BODIES of both sides -/
def rB (σx σm : jS) (nb : Nat) : Prop := nb ≤ 50 ∧ σx.1 41 1 = nI nb ∧ σm.1 0 49 = nI nb ∧ (∀ i, i < nb → ∃ k, k < 8 ∧ σx.1 42 i = nI k ∧ σm.1 29 i = nI k) ∧ ∃ tr, tr ≤ 50 ∧ σx.1 41 3 = nI tr ∧ σm.1 0 51 = nI tr ∧ ∀ i, i < tr → i < 24 → σx.1 43 i = σm.1 30 i
theorem rB.go {S S' F' : List Nat} {σx σm σx' σm' : jS} {nb : Nat} (h : rB σx σm nb) (a : ∀ c, c = 41 ∨ c = 42 ∨ c = 43 → σx'.1 c = σx.1 c) (b : mOff S' F' σm σm') (h1 : 29 ∉ S') (h2 : 30 ∉ S') (h3 : 49 ∉ F') (h4 : 51 ∉ F') : rB σx' σm' nb := by
  unfold rB at *
  rw [a 41 (by omega), a 42 (by omega), a 43 (by omega), b.1 29 h1 (by decide), b.1 30 h2 (by decide), b.2.1 49 h3, b.2.1 51 h4]
  exact h
theorem isIn {p : Int32} {n : Nat} (hn : n < 2 ^ 31) : (∃ k, k < n ∧ p = nI k) ∨ (p < 0 ∨ nI n ≤ p) := by
  by_cases h : 0 ≤ p.toInt ∧ p.toInt < (n : Int)
  · refine Or.inl ⟨p.toInt.toNat, by omega, ?_⟩
    rw [← Int32.toInt_inj, nI_T (by omega)]
    omega
  · refine Or.inr ?_
    rw [i_lt, i_le, nI_T hn]
    have : (0 : Int32).toInt = 0 := rfl
    omega
theorem eq_body {σx σm : jS} {nb : Nat} (h : rB σx σm nb) (p : Int32) : ∃ r σx' σm' nb', fX11_body σx p = some (r, σx') ∧ fX12_body σm p = some (r, σm') ∧ rB σx' σm' nb' ∧ nb ≤ nb' ∧ jOff [41, 42] σx σx' ∧ mOff [29] [49] σm σm' := by
  obtain ⟨h0, h1, h2, h3, tr, t0, t1, t2, t3⟩ := id h
  unfold fX11_body fX0_add fX0_isKind fX12_body fX12_in
  rcases isIn (p := p) (n := 8) (by omega) with ⟨k, hk, rfl⟩ | a
  · rw [if_neg (show ¬ nI k < 0 from fun z => by have := (nI_ltI (b := 0) (by omega) (by omega)).mp z; omega), if_neg (show ¬ (8 : Int32) ≤ nI k from fun z => by have := (nI_leI (a := 8) (by omega) (by omega)).mp z; omega), if_neg (show ¬ nI k < (0 : Int32) from fun z => by have := (nI_ltI (b := 0) (by omega) (by omega)).mp z; omega), if_neg (show ¬ (7 : Int32) < nI k from fun z => by have := (nI_ltI (a := 7) (by omega) (by omega)).mp z; omega), Option.bind_some, Option.bind_some, if_neg (show ¬ jb 1 = 0 by decide), if_neg (show ¬ jb 1 = 0 by decide), h1, h2]
    by_cases b : nb = 50
    · subst b
      rw [if_neg (show ¬ nI 50 < (50 : Int32) by decide), if_pos (show nI 50 = (50 : Int32) from rfl)]
      exact ⟨_, _, _, 50, rfl, rfl, h, Nat.le_refl _, jOff.rf, mOff.rf⟩
    · rw [if_pos (show nI nb < (50 : Int32) from (nI_ltI (b := 50) (by omega) (by omega)).mpr (by omega)), if_neg (show ¬ nI nb = (50 : Int32) from fun z => b ((nI_eq (b := 50) (by omega) (by omega)).mp z)), ob_nI (by omega) (by omega), ob_nI (by omega) (by omega), nI_cl (by omega), jst_e, jst_e, jst_e, jst_e, ju_n (show (41 : Nat) ≠ 42 by decide), ju_n (show (0 : Nat) ≠ 29 by decide), h1, h2, ju_s, ju_s]
      refine ⟨_, _, _, nb + 1, rfl, rfl, ⟨by omega, ?_, ?_, fun i hi => ?_, tr, t0, ?_, ?_, fun i hi hi2 => ?_⟩, by omega, (jOff.u (by simp)).uT (by simp), (mOff.u (by simp) (by decide)).trans (mOff.f (by simp))⟩
      · simp [ju_g, nI_1]
      · simp [ju_g, nI_1]
      · by_cases e : i = nb
        · subst e
          exact ⟨k, hk, by simp [ju_g], by simp [ju_g]⟩
        · obtain ⟨k', a1, a2, a3⟩ := h3 i (by omega)
          exact ⟨k', a1, by simp [ju_g, e, a2], by simp [ju_g, e, a3]⟩
      · simp [ju_g, t1]
      · simp [ju_g, t2]
      · simp [ju_g, t3 i hi hi2]
  · have e1 : (if p < 0 then some (0 : Int32) else if (8 : Int32) ≤ p then some 0 else some 1) = some 0 := by
      rcases a with a | a
      · rw [if_pos a]
      · by_cases b : p < 0
        · rw [if_pos b]
        · rw [if_neg b, if_pos (show (8 : Int32) ≤ p from a)]
    have e2 : (if p < (0 : Int32) then some (0 : Int32) else if (7 : Int32) < p then some 0 else some 1) = some 0 := by
      rcases a with a | a
      · rw [if_pos a]
      · by_cases b : p < 0
        · rw [if_pos b]
        · rw [if_neg b, if_pos (show (7 : Int32) < p by rw [i_le] at a; rw [i_lt]; have : (nI 8).toInt = 8 := rfl; have : (7 : Int32).toInt = 7 := rfl; omega)]
    rw [e1, e2, Option.bind_some, Option.bind_some, if_pos (show jb 0 = 0 by decide), if_pos (show jb 0 = 0 by decide)]
    exact ⟨_, _, _, nb, rfl, rfl, h, Nat.le_refl _, jOff.rf, mOff.rf⟩
theorem eq_trace {σx σm : jS} {nb : Nat} (h : rB σx σm nb) (p : Int32) : ∃ r, fX11_trace σx p = some r ∧ fX12_trace σm p = some r := by
  obtain ⟨h0, h1, h2, h3, tr, t0, t1, t2, t3⟩ := id h
  unfold fX11_trace fX0_traceAt fX12_trace
  rw [t1, t2]
  by_cases a : p < 0
  · rw [if_pos a, if_pos a]; exact ⟨_, rfl, rfl⟩
  · rw [if_neg a, if_neg a]
    by_cases b : nI tr ≤ p
    · rw [if_pos b, if_pos b]; exact ⟨_, rfl, rfl⟩
    · rw [if_neg b, if_neg b]
      by_cases c : (24 : Int32) ≤ p
      · rw [if_pos c, if_pos c]; exact ⟨_, rfl, rfl⟩
      · rw [if_neg c, if_neg c]
        rcases isIn (p := p) (n := 24) (by omega) with ⟨k, hk, rfl⟩ | d
        · rw [ob_nI (by omega) (by omega), ob_nI (by omega) (by omega), nI_cl (by omega), t3 k (by have := mt (nI_leI (a := tr) (b := k) (by omega) (by omega)).mpr b; omega) hk]
          exact ⟨_, rfl, rfl⟩
        · rcases d with d | d
          · exact absurd d a
          · exact absurd d c
theorem eq_act {σx σm : jS} {nb : Nat} (h : rB σx σm nb) (p1 p2 p3 : Int32) : ∃ r σx' σm', fX11_act σx p1 p2 p3 = some (r, σx') ∧ fX12_act σm p1 p2 p3 = some (r, σm') ∧ rB σx' σm' nb ∧ jOff [41, 43] σx σx' ∧ mOff [30] [51] σm σm' := by
  obtain ⟨h0, h1, h2, h3, tr, t0, t1, t2, t3⟩ := id h
  unfold fX11_act fX0_perform fX12_act
  rw [jst_e, jst_e]
  obtain ⟨A, hA⟩ : ∃ A, A = ju σx 41 3 0 := ⟨_, rfl⟩
  obtain ⟨B, hB⟩ : ∃ B, B = ju σm 0 51 0 := ⟨_, rfl⟩
  rw [← hA, ← hB]
  have oA : jOff [41, 43] σx A := by rw [hA]; exact jOff.u (by simp)
  have oB : mOff [30] [51] σm B := by rw [hB]; exact mOff.f (by simp)
  have A1 : A.1 41 1 = nI nb := by rw [hA, ju_i (by decide), h1]
  have A3 : A.1 41 3 = nI 0 := by rw [hA, ju_s]; rfl
  have B1 : B.1 0 49 = nI nb := by rw [hB, ju_i (by decide), h2]
  have B3 : B.1 0 51 = nI 0 := by rw [hB, ju_s]; rfl
  have A42 : ∀ i, i < nb → ∃ k, k < 8 ∧ A.1 42 i = nI k ∧ B.1 29 i = nI k := by
    rw [hA, hB, ju_n (by decide), ju_n (by decide)]; exact h3
  have h' : rB A B nb := ⟨h0, A1, B1, A42, 0, by omega, A3, B3, fun i hi => by omega⟩
  unfold fX0_isBody fX12_isBody fX12_in
  rw [A1, B1]
  have e1 : nI nb - 1 < p1 ↔ nI nb ≤ p1 := by
    rw [i_lt, i_le, i_sub (by rw [nI_T (by omega)]; have : (1 : Int32).toInt = 1 := rfl; omega) (by rw [nI_T (by omega)]; have : (1 : Int32).toInt = 1 := rfl; omega), nI_T (by omega)]
    have : (1 : Int32).toInt = 1 := rfl
    omega
  simp only [e1]
  rcases isIn (p := p1) (n := nb) (by omega) with ⟨i, hi, rfl⟩ | a
  · rw [if_neg (show ¬ nI i < 0 from fun z => by have := (nI_ltI (b := 0) (by omega) (by omega)).mp z; omega), if_neg (show ¬ nI nb ≤ nI i from fun z => by have := (nI_leI (by omega) (by omega)).mp z; omega), Option.bind_some, Option.bind_some, Option.bind_some, if_neg (show ¬ jb 1 = 0 by decide), if_neg (show ¬ jb 1 = 0 by decide)]
    rcases isIn (p := p2) (n := 4) (by omega) with ⟨a, ha, rfl⟩ | b
    · rw [if_neg (show ¬ nI a < 0 from fun z => by have := (nI_ltI (b := 0) (by omega) (by omega)).mp z; omega), if_pos (show nI a < (4 : Int32) from (nI_ltI (b := 4) (by omega) (by omega)).mpr ha), if_neg (show ¬ nI a < (0 : Int32) from fun z => by have := (nI_ltI (b := 0) (by omega) (by omega)).mp z; omega), if_neg (show ¬ (3 : Int32) < nI a from fun z => by have := (nI_ltI (a := 3) (by omega) (by omega)).mp z; omega), Option.bind_some, if_neg (show ¬ jb 1 = 0 by decide)]
      obtain ⟨k, hk, k1, k2⟩ := A42 i hi
      obtain ⟨g, hg, hgG⟩ : ∃ g, 50 ≤ g ∧ g = jG := ⟨jG, by decide, rfl⟩
      rw [← hgG]
      have hxT : xT A A [] := ⟨fun _ _ _ => rfl, rfl, rfl, A3, fun i hi => by simp at hi⟩
      have hmT : mT B B [] := ⟨fun _ _ _ => rfl, fun _ _ => rfl, rfl, B3, fun i hi => by simp at hi⟩
      have hL := pAct_len k (nI i) p3 a
      obtain ⟨X, eX, TX⟩ := own_ok hi h0 A1 k1 hk (run_ok hi h0 A1 k1 hk 12) ha (n := p3) (v := (pAct k (nI i) p3 a).1) (L := (pAct k (nI i) p3 a).2) (pRun_eq k hk a ha (nI i) p3) (f := g) (dd := 0) (T := []) (σ := A) (by omega) (by omega) hxT (by simp; omega)
      rw [show (gX0 g).1 A (nI i) (nI a) p3 (0 : Int32) = some (_, X) from eX, Option.bind_some]
      have cM : ∃ σ', (if nI a = 0 then (Option.bind (fX12_swinging B (nI i) p3) fun (q7 : (Int32 × jS)) => (some (q7.1, q7.2))) else (if nI a = (1 : Int32) then (Option.bind (fX12_counting B (nI i) p3) fun (q6 : (Int32 × jS)) => (some (q6.1, q6.2))) else (if nI a = (2 : Int32) then (Option.bind (fX12_waiting B (nI i) p3) fun (q5 : (Int32 × jS)) => (some (q5.1, q5.2))) else (Option.bind (fX12_telling B (nI i) p3) fun (q4 : (Int32 × jS)) => (some (q4.1, q4.2)))))) = some ((pAct k (nI i) p3 a).1, σ') ∧ mT B σ' ([] ++ (pAct k (nI i) p3 a).2) := by
        simp only [show (nI a = (0 : Int32)) = (a = 0) from k_eq (by omega) 0 (by omega), show (nI a = (1 : Int32)) = (a = 1) from k_eq (by omega) 1 (by omega), show (nI a = (2 : Int32)) = (a = 2) from k_eq (by omega) 2 (by omega)]
        unfold pAct
        by_cases c0 : a = 0
        · rw [if_pos c0, if_pos c0]
          obtain ⟨Y, e, t⟩ := sM_swinging (n := p3) hmT (by simp) (show i < 50 by omega) hk k2
          rw [e]; exact ⟨Y, rfl, t⟩
        · rw [if_neg c0, if_neg c0]
          by_cases c1 : a = 1
          · rw [if_pos c1, if_pos c1]
            obtain ⟨Y, e, t⟩ := sM_counting (n := p3) hmT (by simp) (show i < 50 by omega) hk k2
            rw [e]; exact ⟨Y, rfl, t⟩
          · rw [if_neg c1, if_neg c1]
            by_cases c2 : a = 2
            · rw [if_pos c2, if_pos c2]
              obtain ⟨Y, e, t⟩ := sM_waiting (n := p3) hmT (by simp) (show i < 50 by omega) hk k2
              rw [e]; exact ⟨Y, rfl, t⟩
            · rw [if_neg c2, if_neg c2]
              obtain ⟨Y, e, t⟩ := sM_telling (n := p3) hmT (by simp) (show i < 50 by omega) hk k2
              rw [e]; exact ⟨Y, rfl, t⟩
      obtain ⟨Y, eY, TY⟩ := cM
      rw [eY]
      rw [List.nil_append] at TX TY
      generalize pAct k (nI i) p3 a = W at *
      obtain ⟨x1, x2, x3, x4, x5⟩ := TX
      obtain ⟨y1, y2, y3, y4, y5⟩ := TY
      refine ⟨_, X, Y, rfl, rfl, ⟨h0, by rw [x2, A1], by rw [y2 49 (by decide), B1], ?_, W.2.length, by omega, x4, y4, fun j hj hj2 => by rw [x5 j hj hj2, y5 j hj hj2]⟩, oA.trans ⟨fun c hc => x1 c (fun e => hc (by simp [e])) (fun e => hc (by simp [e])), x3⟩, oB.trans ⟨fun c hc c0 => y1 c c0 (fun e => hc (by simp [e])), fun j hj => y2 j (fun e => hj (by simp [e])), y3⟩⟩
      rw [x1 42 (by decide) (by decide), y1 29 (by decide) (by decide)]
      exact A42
    · have e3 : (if p2 < (0 : Int32) then some (0 : Int32) else if (3 : Int32) < p2 then some 0 else some 1) = some 0 := by
        rcases b with b | b
        · rw [if_pos b]
        · by_cases c : p2 < 0
          · rw [if_pos c]
          · rw [if_neg c, if_pos (show (3 : Int32) < p2 by rw [i_le] at b; rw [i_lt]; have : (nI 4).toInt = 4 := rfl; have : (3 : Int32).toInt = 3 := rfl; omega)]
      rw [e3, Option.bind_some, if_pos (show jb 0 = 0 by decide)]
      refine ⟨0, A, B, ?_, rfl, h', oA, oB⟩
      by_cases c : p2 < 0
      · rw [if_pos c]; rfl
      · rcases b with b | b
        · exact absurd b c
        · rw [if_neg c, if_neg (show ¬ p2 < (4 : Int32) from Int32.not_lt.mpr b)]; rfl
  · have e2 : (if p1 < (0 : Int32) then some (0 : Int32) else if nI nb ≤ p1 then some 0 else some 1) = some 0 := by
      by_cases c : p1 < 0
      · rw [if_pos c]
      · rcases a with a | a
        · exact absurd a c
        · rw [if_neg c, if_pos a]
    rw [e2, Option.bind_some, Option.bind_some, Option.bind_some, if_pos (show jb 0 = 0 by decide), if_pos (show jb 0 = 0 by decide)]
    exact ⟨0, A, B, rfl, rfl, h', oA, oB⟩
