/-! THE LAW works: the reference, a piece -/
theorem mE0 {e : Nat} : (130 : Int32) * 0 + nI e = nI e := by
  show nI 130 * nI 0 + nI e = _
  rw [pk_mul, nI_add, Nat.mul_zero, Nat.zero_add]
theorem wM_1 {σ : jS} {e k m : Nat} {j : jS → Option (Int32 × jS)} {s : jS × Int32 × Int32 → Option (Int32 × jS)} (he : e ≤ 130) (hk : k < e) (hm : m < 130) (hv : σ.1 13 k = nI 1) : fX12_worked_B12 0 (nI e) j s (σ, nI m, nI k) = s (ju σ 19 m (σ.1 14 k), nI (m + 1), nI (k + 1)) := by
  rw [fX12_worked_B12_eq]
  unfold fX12_worked_B12_J45 fX12_worked_B12_J79 fX12_worked_B12_J182
  simp only [mE0, nI_cl (show k < 2 ^ 31 by omega), hv, ob_nI (show k < 260 by omega) (show 260 < 2 ^ 31 by omega), ob_nI hm (show 130 < 2 ^ 31 by omega), nI_cl (show m < 2 ^ 31 by omega), jst_e, nI_1]
  rw [if_neg (show ¬ nI e ≤ nI k from fun z => by have := (nI_leI (by omega) (by omega)).mp z; omega)]
  rfl
theorem wM_2 {σ : jS} {e k m n : Nat} {j : jS → Option (Int32 × jS)} {s : jS × Int32 × Int32 → Option (Int32 × jS)} (he : e ≤ 130) (hk : k < e) (hm : m < 130) (hn : n < 6) (hv : σ.1 13 k = nI 2) (hw : σ.1 14 k = nI n) : fX12_worked_B12 0 (nI e) j s (σ, nI m, nI k) = s (ju σ 19 m (σ.1 18 n), nI (m + 1), nI (k + 1)) := by
  rw [fX12_worked_B12_eq]
  unfold fX12_worked_B12_J45 fX12_worked_B12_J79 fX12_worked_B12_J182
  simp only [mE0, nI_cl (show k < 2 ^ 31 by omega), hv, hw, ob_nI (show k < 260 by omega) (show 260 < 2 ^ 31 by omega), ob_nI hm (show 130 < 2 ^ 31 by omega), nI_cl (show m < 2 ^ 31 by omega), jst_e, nI_1, ob_nI hn (show 6 < 2 ^ 31 by omega), nI_cl (show n < 2 ^ 31 by omega)]
  rw [if_neg (show ¬ nI e ≤ nI k from fun z => by have := (nI_leI (by omega) (by omega)).mp z; omega)]
  rfl
theorem wM_3 {σ : jS} {e k m : Nat} {j : jS → Option (Int32 × jS)} {s : jS × Int32 × Int32 → Option (Int32 × jS)} (he : e ≤ 130) (hk : k < e) (hm1 : 1 ≤ m) (hm : m ≤ 130) (hv : σ.1 13 k = nI 3) : fX12_worked_B12 0 (nI e) j s (σ, nI m, nI k) = s (ju σ 19 (m - 1) (if σ.1 19 (m - 1) = 0 then 1 else 0), nI m, nI (k + 1)) := by
  rw [fX12_worked_B12_eq]
  unfold fX12_worked_B12_J117 fX12_worked_B12_J182
  simp only [mE0, nI_cl (show k < 2 ^ 31 by omega), hv, nI_m1 hm1, ob_nI (show k < 260 by omega) (show 260 < 2 ^ 31 by omega), ob_nI (show m - 1 < 130 by omega) (show 130 < 2 ^ 31 by omega), nI_cl (show m - 1 < 2 ^ 31 by omega), jst_e, nI_1]
  rw [if_neg (show ¬ nI e ≤ nI k from fun z => by have := (nI_leI (by omega) (by omega)).mp z; omega), if_neg (show ¬ nI 3 = (1 : Int32) by decide), if_neg (show ¬ nI 3 = (2 : Int32) by decide), if_pos (show nI 3 = (3 : Int32) from rfl)]
  by_cases b : σ.1 19 (m - 1) = 0
  · simp only [if_pos b]
  · simp only [if_neg b]
theorem wM_4 {σ : jS} {e k m : Nat} {j : jS → Option (Int32 × jS)} {s : jS × Int32 × Int32 → Option (Int32 × jS)} (he : e ≤ 130) (hk : k < e) (hm1 : 1 ≤ m) (hm : m ≤ 130) (hv : σ.1 13 k = nI 4) : fX12_worked_B12 0 (nI e) j s (σ, nI m, nI k) = s (ju σ 19 (m - 1) (-(σ.1 19 (m - 1))), nI m, nI (k + 1)) := by
  rw [fX12_worked_B12_eq]
  unfold fX12_worked_B12_J182
  simp only [mE0, nI_cl (show k < 2 ^ 31 by omega), hv, nI_m1 hm1, ob_nI (show k < 260 by omega) (show 260 < 2 ^ 31 by omega), ob_nI (show m - 1 < 130 by omega) (show 130 < 2 ^ 31 by omega), nI_cl (show m - 1 < 2 ^ 31 by omega), jst_e, nI_1]
  rw [if_neg (show ¬ nI e ≤ nI k from fun z => by have := (nI_leI (by omega) (by omega)).mp z; omega), if_neg (show ¬ nI 4 = (1 : Int32) by decide), if_neg (show ¬ nI 4 = (2 : Int32) by decide), if_neg (show ¬ nI 4 = (3 : Int32) by decide), if_pos (show nI 4 = (4 : Int32) from rfl)]
theorem wM_5 {σ : jS} {e k m o : Nat} {j : jS → Option (Int32 × jS)} {s : jS × Int32 × Int32 → Option (Int32 × jS)} (he : e ≤ 130) (hk : k < e) (hm1 : 2 ≤ m) (hm : m ≤ 130) (ho : jOpr o) (hv : σ.1 13 k = nI o) : fX12_worked_B12 0 (nI e) j s (σ, nI m, nI k) = s (ju σ 19 (m - 2) (jop o (σ.1 19 (m - 2)) (σ.1 19 (m - 1))), nI (m - 1), nI (k + 1)) := by
  rw [fX12_worked_B12_eq]
  unfold fX12_worked_B12_J182
  have ev : ∀ j, j < 37 → ¬ nI o = nI j := fun j hj z => by have := (nI_eq (by omega) (by omega)).mp z; omega
  simp only [mE0, nI_cl (show k < 2 ^ 31 by omega), hv, nI_p1 (show 1 ≤ m by omega), nI_m1 (show 1 ≤ m - 1 by omega), show m - 1 - 1 = m - 2 by omega, ob_nI (show k < 260 by omega) (show 260 < 2 ^ 31 by omega), ob_nI (show m - 1 < 130 by omega) (show 130 < 2 ^ 31 by omega), ob_nI (show m - 2 < 130 by omega) (show 130 < 2 ^ 31 by omega), nI_cl (show m - 1 < 2 ^ 31 by omega), nI_cl (show m - 2 < 2 ^ 31 by omega), jst_e, nI_1, sM_twoOf ho, Option.bind_some]
  rw [if_neg (show ¬ nI e ≤ nI k from fun z => by have := (nI_leI (by omega) (by omega)).mp z; omega), if_neg (show ¬ nI o = (1 : Int32) from ev 1 (by omega)), if_neg (show ¬ nI o = (2 : Int32) from ev 2 (by omega)), if_neg (show ¬ nI o = (3 : Int32) from ev 3 (by omega)), if_neg (show ¬ nI o = (4 : Int32) from ev 4 (by omega))]
