/-! THE LAW works: the class -/
def stk (F : Nat → Int32) : List Int32 → Prop
  | [] => True
  | a :: r => F r.length = a ∧ stk F r
theorem stk.cp {F G : Nat → Int32} : ∀ {st : List Int32}, stk F st → (∀ j, j < st.length → G j = F j) → stk G st := by
  intro st
  induction st with
  | nil => intro _ _; exact trivial
  | cons a r ih =>
    intro h k
    exact ⟨by rw [k r.length (by simp)]; exact h.1, ih h.2 (fun j hj => k j (by simp only [List.length_cons]; omega))⟩
theorem nI_m1 {m : Nat} (h : 1 ≤ m) : nI m - (1 : Int32) = nI (m - 1) := by
  show nI m - nI 1 = _
  rw [pk_sub h]
theorem nI_p1 {m : Nat} (h : 1 ≤ m) : nI m + (-1 : Int32) = nI (m - 1) := by
  rw [← nI_m1 h, Int32.sub_eq_add_neg]
theorem nn_lt {m : Nat} (h : m < 2 ^ 31) : ¬ nI m < 0 := fun z => by have := (nI_nn h).1; rw [i_le] at this; rw [i_lt] at z; omega
theorem wX_num {σ : jS} {N k m n : Nat} {c : Int32} {s : jS × Int32 × Int32 × Int32 → Option (Int32 × jS)} (h6 : σ.1 7 6 = nI N) (hN : N ≤ 121) (hk : k < N) (hm : m < 64) (hn : n < 10000) (hv : σ.1 10 k = nI (256 + n)) : fX4_worth_B6 s (σ, nI m, c, nI k) = s (ju σ 11 m (nI n), nI (m + 1), c, nI (k + 1)) := by
  rw [fX4_worth_B6_eq]
  have e1 : nI (256 + n) - (256 : Int32) = nI n := by
    show nI (256 + n) - nI 256 = _
    rw [pk_sub (by omega), Nat.add_sub_cancel_left]
  simp only [nI_cl (show k < 2 ^ 31 by omega), hv, h6]
  rw [if_neg (show ¬ nI N ≤ nI k from fun z => by have := (nI_leI (by omega) (by omega)).mp z; omega), ob_nI (by omega) (by omega), if_neg (nn_lt (by omega)), if_neg (show ¬ nI (256 + n) < (256 : Int32) from fun z => by have := (nI_ltI (b := 256) (by omega) (by omega)).mp z; omega)]
  unfold fX4_worth_B6_J35 fX4_worth_B6_J59 fX4_worth_B6_J220 fX4_lay
  simp only [nI_cl (show k < 2 ^ 31 by omega), hv, e1]
  rw [if_pos (nI_nn (by omega)).1, if_neg (nn_lt (by omega)), if_pos (show nI m < (64 : Int32) from (nI_ltI (b := 64) (by omega) (by omega)).mpr hm), ob_nI (by omega) (by omega), nI_cl (by omega), jst_e, Option.bind_some]
  simp only [nI_1]
theorem wX_name {σ : jS} {N k m n : Nat} {c : Int32} {s : jS × Int32 × Int32 × Int32 → Option (Int32 × jS)} (h6 : σ.1 7 6 = nI N) (hN : N ≤ 121) (hk : k < N) (hm : m < 64) (hn : n < 6) (hv : σ.1 10 k = -1 - nI n) : fX4_worth_B6 s (σ, nI m, c, nI k) = s (ju σ 11 m (σ.1 12 n), nI (m + 1), c, nI (k + 1)) := by
  rw [fX4_worth_B6_eq]
  have key : ∀ n, n < 6 → (-1 : Int32) - nI n < 0 ∧ ¬ (0 : Int32) ≤ -1 - nI n ∧ (-1 : Int32) - (-1 - nI n) = nI n := by decide
  obtain ⟨k1, k2, k3⟩ := key n hn
  simp only [nI_cl (show k < 2 ^ 31 by omega), hv, h6]
  rw [if_neg (show ¬ nI N ≤ nI k from fun z => by have := (nI_leI (by omega) (by omega)).mp z; omega), ob_nI (by omega) (by omega), if_pos k1]
  unfold fX4_worth_B6_J35 fX4_worth_B6_J59 fX4_worth_B6_J220 fX4_lay fX4_valueNamed
  simp only [nI_cl (show k < 2 ^ 31 by omega), hv, k3]
  rw [if_neg k2, if_neg (nn_lt (by omega)), if_neg (show ¬ (6 : Int32) ≤ nI n from fun z => by have := (nI_leI (a := 6) (by omega) (by omega)).mp z; omega), ob_nI (by omega) (by omega), nI_cl (by omega), Option.bind_some, if_neg (nn_lt (by omega)), if_pos (show nI m < (64 : Int32) from (nI_ltI (b := 64) (by omega) (by omega)).mpr hm), ob_nI (by omega) (by omega), nI_cl (by omega), jst_e, Option.bind_some]
  simp only [nI_1]
/-- a sign with m laid: what comes -/
theorem wX_sign {σ : jS} {N k m v : Nat} {c : Int32} {s : jS × Int32 × Int32 × Int32 → Option (Int32 × jS)} (h6 : σ.1 7 6 = nI N) (hN : N ≤ 121) (hk : k < N) (hm1 : 1 ≤ m) (hm : m ≤ 64) (hv1 : v < 256) (hv : σ.1 10 k = nI v) : fX4_worth_B6 s (σ, nI m, c, nI k) = (if v = 59 then (if c = 0 then s (σ, nI (m - 1), 1, nI (k + 1)) else some (σ.1 11 (m - 1), σ)) else if v = 63 then s (σ, nI (m - 1), (if σ.1 11 (m - 1) = 0 then 0 else 1), nI (k + 1)) else if v = 33 then s (ju σ 11 (m - 1) (if σ.1 11 (m - 1) = 0 then 1 else 0), nI m, c, nI (k + 1)) else if v = 126 then s (ju σ 11 (m - 1) (-(σ.1 11 (m - 1))), nI m, c, nI (k + 1)) else if m < 2 then s (σ, nI m, c, nI (k + 1)) else Option.bind (fX4_joined σ (nI v) (σ.1 11 (m - 2)) (σ.1 11 (m - 1))) fun q4 => s (ju σ 11 (m - 2) q4, nI (m - 1), c, nI (k + 1))) := by
  rw [fX4_worth_B6_eq]
  have ev : ∀ j, j < 200 → (nI v = nI j) = (v = j) := fun j hj => propext (nI_eq (by omega) (by omega))
  unfold fX4_worth_B6_J103 fX4_worth_B6_J117 fX4_worth_B6_J155 fX4_worth_B6_J185 fX4_worth_B6_J129 fX4_worth_B6_J134 fX4_worth_B6_J220
  simp only [nI_cl (show k < 2 ^ 31 by omega), hv, h6, nI_m1 hm1, nI_p1 hm1, nI_cl (show m - 1 < 2 ^ 31 by omega), show (nI v = (59 : Int32)) = (v = 59) from ev 59 (by omega), show (nI v = (63 : Int32)) = (v = 63) from ev 63 (by omega), show (nI v = (33 : Int32)) = (v = 33) from ev 33 (by omega), show (nI v = (126 : Int32)) = (v = 126) from ev 126 (by omega), nI_1, ob_nI (show m - 1 < 64 by omega) (show 64 < 2 ^ 31 by omega), jst_e]
  rw [if_neg (show ¬ nI N ≤ nI k from fun z => by have := (nI_leI (by omega) (by omega)).mp z; omega), ob_nI (by omega) (by omega), if_neg (nn_lt (by omega)), if_pos (show nI v < (256 : Int32) from (nI_ltI (b := 256) (by omega) (by omega)).mpr hv1), if_neg (show ¬ nI m < (1 : Int32) from fun z => by have := (nI_ltI (b := 1) (by omega) (by omega)).mp z; omega), if_pos (show nI m ≤ (64 : Int32) from (nI_leI (b := 64) (by omega) (by omega)).mpr hm)]
  by_cases a1 : v = 59
  · simp only [if_pos a1]
  · simp only [if_neg a1]
    by_cases a2 : v = 63
    · simp only [if_pos a2]
      by_cases b : σ.1 11 (m - 1) = 0
      · simp only [if_pos b]
      · simp only [if_neg b]
    · simp only [if_neg a2]
      by_cases a3 : v = 33
      · simp only [if_pos a3, if_neg (show ¬ v = 126 by omega)]
        by_cases b : σ.1 11 (m - 1) = 0
        · simp only [if_pos b]
        · simp only [if_neg b]
      · simp only [if_neg a3]
        by_cases a4 : v = 126
        · simp only [if_pos a4]
        · simp only [if_neg a4]
          by_cases b : m < 2
          · simp only [if_pos b, if_pos (show nI m < (2 : Int32) from (nI_ltI (b := 2) (by omega) (by omega)).mpr b)]
          · simp only [if_neg b, if_neg (show ¬ nI m < (2 : Int32) from fun z => b ((nI_ltI (b := 2) (by omega) (by omega)).mp z)), nI_m1 (show 1 ≤ m - 1 by omega), show m - 1 - 1 = m - 2 by omega, ob_nI (show m - 2 < 64 by omega) (show 64 < 2 ^ 31 by omega), nI_cl (show m - 2 < 2 ^ 31 by omega)]
