/-! the calls child, mend, undo, redo -/
theorem dv_neg {x : Int32} (h : x.toInt < 0) : (x / (10 : Int32)).toInt ≤ 0 := by
  rw [Int32.toInt_div_of_ne_right x 10 (by decide), show (10 : Int32).toInt = 10 from rfl]
  have h1 : x.toInt = -((-x.toInt).toNat : Int) := by omega
  rw [h1, Int.neg_tdiv, Int.tdiv_eq_ediv_of_nonneg (by omega)]
  omega
theorem dv_nat {k : Nat} (h : k < 2 ^ 31) : nI k / (10 : Int32) = nI (k / 10) := pk_div (a := k) (d := 10) h (by omega) (by omega)
theorem rm_nat {k : Nat} (h : k < 2 ^ 31) : nI k - nI k / (10 : Int32) * (10 : Int32) = nI (k % 10) := pk_rem (a := k) (d := 10) h (by omega) (by omega)
theorem dv_nat2 {k : Nat} (h : k < 2 ^ 31) : nI k / (100 : Int32) = nI (k / 100) := pk_div (a := k) (d := 100) h (by omega) (by omega)
/-- a number is a natural, or below 0 -/
theorem nat_or (x : Int32) : x.toInt < 0 ∨ ∃ k : Nat, k < 2 ^ 31 ∧ x = nI k := by
  by_cases h : x.toInt < 0
  · exact Or.inl h
  · have hb := i_hi x
    obtain ⟨k, -, h2, e⟩ := nI_of3 (lo := 0) (hi := 2147483647) (x := x) (by omega) (by omega) (by omega)
    exact Or.inr ⟨k, by omega, e⟩
/-- the numbers of both sides -/
def rN (σx σm : jS) (ch : Nat) (V : Nat → Nat → Int32) : Prop := nX σx ch V ∧ nM σm ch V ∧ nG ch V
theorem eq_child {σx σm : jS} {ch : Nat} {V : Nat → Nat → Int32} (h : rN σx σm ch V) (p q : Int32) : ∃ r σx' σm' ch' V', fX11_child σx p q = some (r, σx') ∧ fX12_child σm p q = some (r, σm') ∧ rN σx' σm' ch' V' ∧ ch ≤ ch' ∧ jOff [1, 2] σx σx' ∧ mOff [2, 3, 4, 5, 6, 7] [2] σm σm' := by
  obtain ⟨hx, hm, hg⟩ := h
  have hc := hx.1
  unfold fX11_child fX12_child
  rw [sM_in, sM_in]
  simp only [Option.bind_some, jb_jo]
  have z0 : (0 : Int32).toInt = 0 := rfl
  have z1 : (1 : Int32).toInt = 1 := rfl
  have z3 : (3 : Int32).toInt = 3 := rfl
  have z9 : (9 : Int32).toInt = 9 := rfl
  rw [z0, z1, z3, z9]
  simp only [i_lt, z0, z3]
  rcases nat_or p with hp | ⟨k, hk, rfl⟩
  · refine ⟨-1, σx, σm, ch, V, ?_, ?_, ⟨hx, hm, hg⟩, Nat.le_refl _, jOff.rf, mOff.rf⟩
    · rw [sX6_addBad (fun z => by have := dv_neg hp; omega)]
      rfl
    · rw [if_pos hp]
  · rw [rm_nat hk, dv_nat hk]
    have t1 : (nI (k / 10)).toInt = ((k / 10 : Nat) : Int) := nI_T (by omega)
    have t2 : (nI (k % 10)).toInt = ((k % 10 : Nat) : Int) := nI_T (by omega)
    have t3 : (nI k).toInt = (k : Int) := nI_T hk
    by_cases a : (1 ≤ (nI (k / 10)).toInt ∧ (nI (k / 10)).toInt ≤ 9) ∧ (0 ≤ (nI (k % 10)).toInt ∧ (nI (k % 10)).toInt ≤ 3) ∧ (0 ≤ q.toInt ∧ q.toInt ≤ 3)
    · obtain ⟨a1, a2, a3⟩ := a
      rw [if_neg (by omega), if_neg (fun z => z a1), if_neg (by omega), if_neg (fun z => z a3)]
      by_cases b : ch = 9
      · refine ⟨-3, σx, σm, ch, V, ?_, ?_, ⟨hx, hm, hg⟩, Nat.le_refl _, jOff.rf, mOff.rf⟩
        · rw [sX6_addFull (by rw [hx.2.1, b]) a1 a2 a3]
          rfl
        · rw [if_pos (by rw [hm.2.1, b]; rfl)]
      · have hl : ch < 9 := by omega
        obtain ⟨σx', e1, n1, o1⟩ := sX6_add hx hl _ _ q a1 a2 a3
        obtain ⟨σm', e2, n2, o2⟩ := sM_add hm hl (nI (k / 10)) (nI (k % 10)) q
        refine ⟨nI ch, σx', σm', ch + 1, jadd V ch (nI (k / 10)) (nI (k % 10)) q, ?_, ?_, ⟨n1, n2, ?_⟩, by omega, o1, o2⟩
        · rw [e1]; rfl
        · rw [if_neg, e2]
          · rfl
          · rw [hm.2.1]
            intro z
            exact b ((nI_eq (a := ch) (b := 9) (by omega) (by omega)).mp z)
        · exact hg.add ⟨a1, fun z => absurd z (by decide)⟩ ⟨a2, fun z => absurd z (by decide)⟩ ⟨a3, fun z => absurd z (by decide)⟩
    · refine ⟨-1, σx, σm, ch, V, ?_, ?_, ⟨hx, hm, hg⟩, Nat.le_refl _, jOff.rf, mOff.rf⟩
      · rw [sX6_addBad a]
        rfl
      · rw [if_neg (by omega)]
        by_cases a1 : 1 ≤ (nI (k / 10)).toInt ∧ (nI (k / 10)).toInt ≤ 9
        · rw [if_neg (fun z => z a1)]
          by_cases a2 : 3 < (nI (k % 10)).toInt
          · rw [if_pos a2]
          · rw [if_neg a2, if_pos]
            intro a3
            exact a ⟨a1, ⟨by omega, by omega⟩, a3⟩
        · rw [if_pos a1]
/-- a number of the reference becomes another -/
theorem sM_lays {σ : jS} {ch : Nat} {V : Nat → Nat → Int32} (h : nM σ ch V) {w n : Nat} (hk : jok ch w n) (v : Int32) : ∃ σ', fX12_lays σ (nI w) (nI n) v = some σ' ∧ nM σ' ch (jput V w n v) ∧ mOff [1, 2, 3, 4, 5, 6, 7] [9, 10, 11, 12] σ σ' := by
  have hc := h.1
  have hn : n < 9 := by rcases hk with q | q | q <;> omega
  have key : ∀ σ' : jS, σ'.1 0 2 = σ.1 0 2 → (∀ w' n', jok ch w' n' → jmv σ' w' n' = if w' = w ∧ n' = n then v else jmv σ w' n') → nM σ' ch (jput V w n v) := fun σ' h1 h2 => ⟨hc, h1.trans h.2.1, fun w' n' hw => by
    rw [h2 w' n' hw]
    unfold jput
    by_cases e : w' = w ∧ n' = n
    · rw [if_pos e, if_pos e]
    · rw [if_neg e, if_neg e, h.2.2 w' n' hw]⟩
  rcases jok_cases hk with rfl | rfl | rfl | rfl | rfl | rfl | rfl | rfl | rfl | rfl | rfl
  · rw [lM_0, ob_nI (hn) (by omega), nI_cl (by omega)]
    refine ⟨_, rfl, key _ (by rw [ju_n (by decide)]) (fun w' n' hw => ?_), mOff.u (by decide) (by decide)⟩
    rcases jok_cases hw with rfl | rfl | rfl | rfl | rfl | rfl | rfl | rfl | rfl | rfl | rfl <;> simp [jmv_0, jmv_1, jmv_2, jmv_3, jmv_4, jmv_5, jmv_6, jmv_7, jmv_8, jmv_9, jmv_10, ju_n, ju_r]
  · rw [lM_1, ob_nI (hn) (by omega), nI_cl (by omega)]
    refine ⟨_, rfl, key _ (by rw [ju_n (by decide)]) (fun w' n' hw => ?_), mOff.u (by decide) (by decide)⟩
    rcases jok_cases hw with rfl | rfl | rfl | rfl | rfl | rfl | rfl | rfl | rfl | rfl | rfl <;> simp [jmv_0, jmv_1, jmv_2, jmv_3, jmv_4, jmv_5, jmv_6, jmv_7, jmv_8, jmv_9, jmv_10, ju_n, ju_r]
  · rw [lM_2, ob_nI (hn) (by omega), nI_cl (by omega)]
    refine ⟨_, rfl, key _ (by rw [ju_n (by decide)]) (fun w' n' hw => ?_), mOff.u (by decide) (by decide)⟩
    rcases jok_cases hw with rfl | rfl | rfl | rfl | rfl | rfl | rfl | rfl | rfl | rfl | rfl <;> simp [jmv_0, jmv_1, jmv_2, jmv_3, jmv_4, jmv_5, jmv_6, jmv_7, jmv_8, jmv_9, jmv_10, ju_n, ju_r]
  · rw [lM_3, ob_nI (hn) (by omega), nI_cl (by omega)]
    refine ⟨_, rfl, key _ (by rw [ju_n (by decide)]) (fun w' n' hw => ?_), mOff.u (by decide) (by decide)⟩
    rcases jok_cases hw with rfl | rfl | rfl | rfl | rfl | rfl | rfl | rfl | rfl | rfl | rfl <;> simp [jmv_0, jmv_1, jmv_2, jmv_3, jmv_4, jmv_5, jmv_6, jmv_7, jmv_8, jmv_9, jmv_10, ju_n, ju_r]
  · rw [lM_4, ob_nI (hn) (by omega), nI_cl (by omega)]
    refine ⟨_, rfl, key _ (by rw [ju_n (by decide)]) (fun w' n' hw => ?_), mOff.u (by decide) (by decide)⟩
    rcases jok_cases hw with rfl | rfl | rfl | rfl | rfl | rfl | rfl | rfl | rfl | rfl | rfl <;> simp [jmv_0, jmv_1, jmv_2, jmv_3, jmv_4, jmv_5, jmv_6, jmv_7, jmv_8, jmv_9, jmv_10, ju_n, ju_r]
  · rw [lM_5, ob_nI (hn) (by omega), nI_cl (by omega)]
    refine ⟨_, rfl, key _ (by rw [ju_n (by decide)]) (fun w' n' hw => ?_), mOff.u (by decide) (by decide)⟩
    rcases jok_cases hw with rfl | rfl | rfl | rfl | rfl | rfl | rfl | rfl | rfl | rfl | rfl <;> simp [jmv_0, jmv_1, jmv_2, jmv_3, jmv_4, jmv_5, jmv_6, jmv_7, jmv_8, jmv_9, jmv_10, ju_n, ju_r]
  · rw [lM_6, ob_nI (by rcases hk with q | q | q <;> omega) (by omega), nI_cl (by omega)]
    refine ⟨_, rfl, key _ (by rw [ju_n (by decide)]) (fun w' n' hw => ?_), mOff.u (by decide) (by decide)⟩
    rcases jok_cases hw with rfl | rfl | rfl | rfl | rfl | rfl | rfl | rfl | rfl | rfl | rfl <;> simp [jmv_0, jmv_1, jmv_2, jmv_3, jmv_4, jmv_5, jmv_6, jmv_7, jmv_8, jmv_9, jmv_10, ju_n, ju_r]
  · have h0 : n = 0 := by rcases hk with q | q | q <;> omega
    subst h0
    rw [lM_7]
    refine ⟨_, rfl, key _ (by rw [ju_i (by decide)]) (fun w' n' hw => ?_), mOff.f (by decide)⟩
    have hw0 : 7 ≤ w' → n' = 0 := fun z => by rcases hw with q | q | q <;> omega
    rcases jok_cases hw with rfl | rfl | rfl | rfl | rfl | rfl | rfl | rfl | rfl | rfl | rfl <;> simp [jmv_0, jmv_1, jmv_2, jmv_3, jmv_4, jmv_5, jmv_6, jmv_7, jmv_8, jmv_9, jmv_10, ju_n, ju_r]
    all_goals exact fun z => absurd (hw0 (by decide)) z
  · have h0 : n = 0 := by rcases hk with q | q | q <;> omega
    subst h0
    rw [lM_8]
    refine ⟨_, rfl, key _ (by rw [ju_i (by decide)]) (fun w' n' hw => ?_), mOff.f (by decide)⟩
    have hw0 : 7 ≤ w' → n' = 0 := fun z => by rcases hw with q | q | q <;> omega
    rcases jok_cases hw with rfl | rfl | rfl | rfl | rfl | rfl | rfl | rfl | rfl | rfl | rfl <;> simp [jmv_0, jmv_1, jmv_2, jmv_3, jmv_4, jmv_5, jmv_6, jmv_7, jmv_8, jmv_9, jmv_10, ju_n, ju_r]
    all_goals exact fun z => absurd (hw0 (by decide)) z
  · have h0 : n = 0 := by rcases hk with q | q | q <;> omega
    subst h0
    rw [lM_9]
    refine ⟨_, rfl, key _ (by rw [ju_i (by decide)]) (fun w' n' hw => ?_), mOff.f (by decide)⟩
    have hw0 : 7 ≤ w' → n' = 0 := fun z => by rcases hw with q | q | q <;> omega
    rcases jok_cases hw with rfl | rfl | rfl | rfl | rfl | rfl | rfl | rfl | rfl | rfl | rfl <;> simp [jmv_0, jmv_1, jmv_2, jmv_3, jmv_4, jmv_5, jmv_6, jmv_7, jmv_8, jmv_9, jmv_10, ju_n, ju_r]
    all_goals exact fun z => absurd (hw0 (by decide)) z
  · have h0 : n = 0 := by rcases hk with q | q | q <;> omega
    subst h0
    rw [lM_10]
    refine ⟨_, rfl, key _ (by rw [ju_i (by decide)]) (fun w' n' hw => ?_), mOff.f (by decide)⟩
    have hw0 : 7 ≤ w' → n' = 0 := fun z => by rcases hw with q | q | q <;> omega
    rcases jok_cases hw with rfl | rfl | rfl | rfl | rfl | rfl | rfl | rfl | rfl | rfl | rfl <;> simp [jmv_0, jmv_1, jmv_2, jmv_3, jmv_4, jmv_5, jmv_6, jmv_7, jmv_8, jmv_9, jmv_10, ju_n, ju_r]
    all_goals exact fun z => absurd (hw0 (by decide)) z
