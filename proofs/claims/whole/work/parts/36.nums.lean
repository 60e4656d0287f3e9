/-! the reference's reads -/
/-- nothing outside these cells, and of cell 0 nothing outside these fields, has changed -/
def mOff (S F : List Nat) (σ σ' : jS) : Prop := (∀ c, c ∉ S → c ≠ 0 → σ'.1 c = σ.1 c) ∧ (∀ k, k ∉ F → σ'.1 0 k = σ.1 0 k) ∧ σ'.2 = σ.2
theorem mOff.rf {S F : List Nat} {σ : jS} : mOff S F σ σ := ⟨fun _ _ _ => rfl, fun _ _ => rfl, rfl⟩
theorem mOff.trans {S F : List Nat} {a b c : jS} (h : mOff S F a b) (k : mOff S F b c) : mOff S F a c := ⟨fun q h1 h2 => (k.1 q h1 h2).trans (h.1 q h1 h2), fun q h1 => (k.2.1 q h1).trans (h.2.1 q h1), k.2.2.trans h.2.2⟩
theorem mOff.mono {S F S' F' : List Nat} {a b : jS} (h : mOff S F a b) (h1 : ∀ c ∈ S, c ∈ S') (h2 : ∀ c ∈ F, c ∈ F') : mOff S' F' a b := ⟨fun q z y => h.1 q (fun x => z (h1 q x)) y, fun q z => h.2.1 q (fun x => z (h2 q x)), h.2.2⟩
theorem mOff.u {S F : List Nat} {σ : jS} {c i : Nat} {v : Int32} (h : c ∈ S) (h0 : c ≠ 0) : mOff S F σ (ju σ c i v) := ⟨fun q hq _ => ju_n (fun e => hq (e ▸ h)), fun k _ => by rw [ju_n (fun e => h0 e.symm)], rfl⟩
theorem mOff.f {S F : List Nat} {σ : jS} {i : Nat} {v : Int32} (h : i ∈ F) : mOff S F σ (ju σ 0 i v) := ⟨fun q _ h2 => ju_n h2, fun k hk => ju_i (fun e => hk (e ▸ h)), rfl⟩
theorem sM_in (σ : jS) (p a b : Int32) : fX12_in σ p a b = some (jo (a.toInt ≤ p.toInt ∧ p.toInt ≤ b.toInt)) := by
  unfold fX12_in
  simp only [i_lt]
  by_cases h0 : p.toInt < a.toInt
  · rw [if_pos h0, jo_0 (fun q => by omega)]
  · rw [if_neg h0]
    by_cases h1 : b.toInt < p.toInt
    · rw [if_pos h1, jo_0 (fun q => by omega)]
    · rw [if_neg h1, jo_1 ⟨by omega, by omega⟩]
theorem sM_isChild {σ : jS} {ch : Nat} {V : Nat → Nat → Int32} (h : nM σ ch V) (p : Int32) : fX12_isChild σ p = some (jo (isCh ch p)) := by
  unfold fX12_isChild
  have hc := h.1
  rw [sM_in, h.2.1]
  simp only [Option.bind_some]
  have h1 : (nI ch - 1).toInt = (ch : Int) - 1 := by
    rw [i_sub] <;> rw [nI_T (by omega), show (1 : Int32).toInt = 1 from rfl] <;> omega
  have h0 : (0 : Int32).toInt = 0 := rfl
  rw [h1, h0]
  congr 1
  exact jo_eq (by unfold isCh; omega)
theorem sM_isSwing (σ : jS) (p : Int32) : fX12_isSwing σ p = some (jo (isCh 3 p)) := by
  unfold fX12_isSwing
  rw [sM_in]
  simp only [Option.bind_some]
  congr 1
  exact jo_eq (by
    have h2 : (2 : Int32).toInt = 2 := rfl
    have h0 : (0 : Int32).toInt = 0 := rfl
    unfold isCh; omega)
/-- a number that can be told of: its what, its number -/
abbrev okI (ch : Nat) (n w : Int32) : Prop := (isCh 6 w ∧ isCh ch n) ∨ (w = 6 ∧ isCh 3 n) ∨ ((7 ≤ w.toInt ∧ w.toInt ≤ 10) ∧ n = 0)
theorem okI_nat {ch : Nat} {n w : Int32} (h : okI ch n w) : ∃ w' n', jok ch w' n' ∧ w = nI w' ∧ n = nI n' := by
  rcases h with h | h | h
  · obtain ⟨a, ha, rfl⟩ := isCh_nat h.1
    obtain ⟨b, hb, rfl⟩ := isCh_nat h.2
    exact ⟨a, b, Or.inl ⟨ha, hb⟩, rfl, rfl⟩
  · obtain ⟨b, hb, rfl⟩ := isCh_nat h.2
    exact ⟨6, b, Or.inr (Or.inl ⟨rfl, hb⟩), h.1, rfl⟩
  · obtain ⟨a, h1, h2, rfl⟩ := nI_of3 (lo := 7) (hi := 10) h.1.1 h.1.2 (by omega)
    exact ⟨a, 0, Or.inr (Or.inr ⟨h1, h2, rfl⟩), rfl, h.2⟩
theorem okI_of {ch w n : Nat} (h : jok ch w n) (hc : ch ≤ 9) : okI ch (nI n) (nI w) := by
  rcases h with h | h | h
  · exact Or.inl ⟨isCh_nI h.1 (by omega), isCh_nI h.2 hc⟩
  · exact Or.inr (Or.inl ⟨by rw [h.1]; rfl, isCh_nI h.2 (by omega)⟩)
  · exact Or.inr (Or.inr ⟨by rw [nI_T (by omega)]; omega, by rw [h.2.2]; rfl⟩)
theorem sX6_placeBad {σ : jS} {ch : Nat} {V : Nat → Nat → Int32} (h : nX σ ch V) {n w : Int32} (hk : ¬ okI ch n w) : fX6_placeOf σ n w = some (-1) := by
  unfold fX6_placeOf
  rw [sX6_isChild h, sX6_isSwing]
  simp only [Option.bind_some, jb_jo]
  have h0 : (0 : Int32).toInt = 0 := rfl
  have h6 : (6 : Int32).toInt = 6 := rfl
  have h10 : (10 : Int32).toInt = 10 := rfl
  simp only [i_lt, i_le, h0, h6, h10]
  by_cases a0 : w.toInt < 0
  · rw [if_pos a0]
  rw [if_neg a0]
  by_cases a1 : w.toInt ≤ 10
  · rw [if_pos a1]
    by_cases a2 : 6 ≤ w.toInt
    · rw [if_pos a2]
      by_cases a3 : w = 6
      · rw [if_pos a3, if_pos (fun q => hk (Or.inr (Or.inl ⟨a3, q⟩)))]
      · rw [if_neg a3, if_neg]
        intro q
        refine hk (Or.inr (Or.inr ⟨⟨?_, a1⟩, q⟩))
        have : w.toInt ≠ 6 := fun z => a3 (by rw [i_eq, z]; rfl)
        omega
    · rw [if_neg a2, if_pos (fun q => hk (Or.inl ⟨⟨by omega, by omega⟩, q⟩))]
  · rw [if_neg a1]
theorem sM_isOne {σ : jS} {ch : Nat} {V : Nat → Nat → Int32} (h : nM σ ch V) (n w : Int32) : fX12_isOne σ n w = some (jo (okI ch n w)) := by
  unfold fX12_isOne
  rw [sM_in, sM_in, sM_isChild h, sM_isSwing]
  simp only [Option.bind_some, jb_jo]
  have h0 : (0 : Int32).toInt = 0 := rfl
  have h5 : (5 : Int32).toInt = 5 := rfl
  have h7 : (7 : Int32).toInt = 7 := rfl
  have h10 : (10 : Int32).toInt = 10 := rfl
  rw [h0, h5, h7, h10]
  by_cases a1 : 0 ≤ w.toInt ∧ w.toInt ≤ 5
  · rw [if_neg (fun q => q a1)]
    congr 1
    refine jo_eq ⟨fun q => Or.inl ⟨⟨by omega, by omega⟩, q⟩, ?_⟩
    rintro (q | q | q)
    · exact q.2
    · have : w.toInt = 6 := by rw [q.1]; rfl
      omega
    · omega
  · rw [if_pos a1]
    by_cases a3 : w = 6
    · rw [if_pos a3]
      congr 1
      refine jo_eq ⟨fun q => Or.inr (Or.inl ⟨a3, q⟩), ?_⟩
      have : w.toInt = 6 := by rw [a3]; rfl
      rintro (q | q | q)
      · unfold isCh at q; omega
      · exact q.2
      · omega
    · rw [if_neg a3]
      have a4 : w.toInt ≠ 6 := fun z => a3 (by rw [i_eq, z]; rfl)
      by_cases a5 : 7 ≤ w.toInt ∧ w.toInt ≤ 10
      · rw [if_neg (fun q => q a5)]
        by_cases a6 : n = 0
        · rw [if_pos a6, jo_1 (Or.inr (Or.inr ⟨a5, a6⟩))]
        · rw [if_neg a6, jo_0]
          rintro (q | q | q)
          · unfold isCh at q; omega
          · exact a3 q.1
          · exact a6 q.2
      · rw [if_pos a5, jo_0]
        rintro (q | q | q)
        · unfold isCh at q; omega
        · exact a3 q.1
        · exact a5 q.1
/-- what a number may become -/
abbrev goodV (ch w n : Nat) (v : Int32) : Prop := ((jlo w : Int) ≤ v.toInt ∧ v.toInt ≤ (jhi w : Int)) ∧ (w = 4 → mayC ch v (nI n))

theorem vM_0 (σ : jS) (p : Int32) : fX12_valueAt σ (nI 0) p = ob p 9 (some (σ.1 2 p.toNatClampNeg)) := rfl
theorem lM_0 (σ : jS) (p v : Int32) : fX12_lays σ (nI 0) p v = ob p 9 (some (ju σ 2 p.toNatClampNeg v)) := rfl
theorem mM_0 (σ : jS) (p v : Int32) : fX12_mayBe σ p (nI 0) v = (fX12_in σ v 1 9).bind fun q => some q := rfl
theorem vM_1 (σ : jS) (p : Int32) : fX12_valueAt σ (nI 1) p = ob p 9 (some (σ.1 3 p.toNatClampNeg)) := rfl
theorem lM_1 (σ : jS) (p v : Int32) : fX12_lays σ (nI 1) p v = ob p 9 (some (ju σ 3 p.toNatClampNeg v)) := rfl
theorem mM_1 (σ : jS) (p v : Int32) : fX12_mayBe σ p (nI 1) v = (fX12_in σ v 0 3).bind fun q => some q := rfl
theorem vM_2 (σ : jS) (p : Int32) : fX12_valueAt σ (nI 2) p = ob p 9 (some (σ.1 4 p.toNatClampNeg)) := rfl
theorem lM_2 (σ : jS) (p v : Int32) : fX12_lays σ (nI 2) p v = ob p 9 (some (ju σ 4 p.toNatClampNeg v)) := rfl
theorem mM_2 (σ : jS) (p v : Int32) : fX12_mayBe σ p (nI 2) v = (fX12_in σ v 0 9).bind fun q => some q := rfl
theorem vM_3 (σ : jS) (p : Int32) : fX12_valueAt σ (nI 3) p = ob p 9 (some (σ.1 5 p.toNatClampNeg)) := rfl
theorem lM_3 (σ : jS) (p v : Int32) : fX12_lays σ (nI 3) p v = ob p 9 (some (ju σ 5 p.toNatClampNeg v)) := rfl
theorem mM_3 (σ : jS) (p v : Int32) : fX12_mayBe σ p (nI 3) v = (fX12_in σ v 0 3).bind fun q => some q := rfl
theorem vM_4 (σ : jS) (p : Int32) : fX12_valueAt σ (nI 4) p = ob p 9 (some (σ.1 6 p.toNatClampNeg)) := rfl
theorem lM_4 (σ : jS) (p v : Int32) : fX12_lays σ (nI 4) p v = ob p 9 (some (ju σ 6 p.toNatClampNeg v)) := rfl
theorem vM_5 (σ : jS) (p : Int32) : fX12_valueAt σ (nI 5) p = ob p 9 (some (σ.1 7 p.toNatClampNeg)) := rfl
theorem lM_5 (σ : jS) (p v : Int32) : fX12_lays σ (nI 5) p v = ob p 9 (some (ju σ 7 p.toNatClampNeg v)) := rfl
theorem mM_5 (σ : jS) (p v : Int32) : fX12_mayBe σ p (nI 5) v = (fX12_in σ v 0 3).bind fun q => some q := rfl
theorem vM_6 (σ : jS) (p : Int32) : fX12_valueAt σ (nI 6) p = ob p 3 (some (σ.1 1 p.toNatClampNeg)) := rfl
theorem lM_6 (σ : jS) (p v : Int32) : fX12_lays σ (nI 6) p v = ob p 3 (some (ju σ 1 p.toNatClampNeg v)) := rfl
theorem mM_6 (σ : jS) (p v : Int32) : fX12_mayBe σ p (nI 6) v = (fX12_in σ v 1 9).bind fun q => some q := rfl
theorem vM_7 (σ : jS) (p : Int32) : fX12_valueAt σ (nI 7) p = some (σ.1 0 9) := rfl
theorem lM_7 (σ : jS) (p v : Int32) : fX12_lays σ (nI 7) p v = some (ju σ 0 9 v) := rfl
theorem mM_7 (σ : jS) (p v : Int32) : fX12_mayBe σ p (nI 7) v = (fX12_in σ v 0 3).bind fun q => some q := rfl
theorem vM_8 (σ : jS) (p : Int32) : fX12_valueAt σ (nI 8) p = some (σ.1 0 10) := rfl
theorem lM_8 (σ : jS) (p v : Int32) : fX12_lays σ (nI 8) p v = some (ju σ 0 10 v) := rfl
theorem mM_8 (σ : jS) (p v : Int32) : fX12_mayBe σ p (nI 8) v = (fX12_in σ v 1 30).bind fun q => some q := rfl
theorem vM_9 (σ : jS) (p : Int32) : fX12_valueAt σ (nI 9) p = some (σ.1 0 11) := rfl
theorem lM_9 (σ : jS) (p v : Int32) : fX12_lays σ (nI 9) p v = some (ju σ 0 11 v) := rfl
theorem mM_9 (σ : jS) (p v : Int32) : fX12_mayBe σ p (nI 9) v = (fX12_in σ v 0 200).bind fun q => some q := rfl
theorem vM_10 (σ : jS) (p : Int32) : fX12_valueAt σ (nI 10) p = some (σ.1 0 12) := rfl
theorem lM_10 (σ : jS) (p v : Int32) : fX12_lays σ (nI 10) p v = some (ju σ 0 12 v) := rfl
theorem mM_10 (σ : jS) (p v : Int32) : fX12_mayBe σ p (nI 10) v = (fX12_in σ v 0 12).bind fun q => some q := rfl
theorem mM_4 (σ : jS) (p v : Int32) : fX12_mayBe σ p (nI 4) v = (if v = 9 then some 1 else (fX12_isChild σ v).bind fun q => if jb q = 0 then some 0 else if v = p then some 0 else some 1) := rfl
theorem jok_cases {ch w n : Nat} (h : jok ch w n) : w = 0 ∨ w = 1 ∨ w = 2 ∨ w = 3 ∨ w = 4 ∨ w = 5 ∨ w = 6 ∨ w = 7 ∨ w = 8 ∨ w = 9 ∨ w = 10 := by rcases h with q | q | q <;> omega
theorem sM_valueAt {σ : jS} {ch : Nat} {V : Nat → Nat → Int32} (h : nM σ ch V) {w n : Nat} (hk : jok ch w n) : fX12_valueAt σ (nI w) (nI n) = some (V w n) := by
  have hc := h.1
  have hv := h.2.2 w n hk
  have hn : n < 9 := by rcases hk with q | q | q <;> omega
  rcases jok_cases hk with rfl | rfl | rfl | rfl | rfl | rfl | rfl | rfl | rfl | rfl | rfl
  · rw [vM_0, ob_nI hn (by omega), nI_cl (by omega)]; exact congrArg some hv
  · rw [vM_1, ob_nI hn (by omega), nI_cl (by omega)]; exact congrArg some hv
  · rw [vM_2, ob_nI hn (by omega), nI_cl (by omega)]; exact congrArg some hv
  · rw [vM_3, ob_nI hn (by omega), nI_cl (by omega)]; exact congrArg some hv
  · rw [vM_4, ob_nI hn (by omega), nI_cl (by omega)]; exact congrArg some hv
  · rw [vM_5, ob_nI hn (by omega), nI_cl (by omega)]; exact congrArg some hv
  · rw [vM_6, ob_nI (by rcases hk with q | q | q <;> omega) (by omega), nI_cl (by omega)]; exact congrArg some hv
  · rw [vM_7]; exact congrArg some hv
  · rw [vM_8]; exact congrArg some hv
  · rw [vM_9]; exact congrArg some hv
  · rw [vM_10]; exact congrArg some hv
theorem sM_mayBe {σ : jS} {ch : Nat} {V : Nat → Nat → Int32} (h : nM σ ch V) {w n : Nat} (hk : jok ch w n) (v : Int32) : fX12_mayBe σ (nI n) (nI w) v = some (jo (goodV ch w n v)) := by
  have hc := h.1
  rcases jok_cases hk with rfl | rfl | rfl | rfl | rfl | rfl | rfl | rfl | rfl | rfl | rfl
  · rw [mM_0, sM_in]
    simp only [Option.bind_some]
    congr 1
    refine jo_eq ?_
    have h1 : (1 : Int32).toInt = 1 := rfl
    have h2 : (9 : Int32).toInt = 9 := rfl
    have h3 : jlo 0 = 1 := rfl
    have h4 : jhi 0 = 9 := rfl
    rw [h1, h2]
    unfold goodV
    rw [h3, h4]
    exact ⟨fun q => ⟨q, fun z => absurd z (by decide)⟩, fun q => q.1⟩
  · rw [mM_1, sM_in]
    simp only [Option.bind_some]
    congr 1
    refine jo_eq ?_
    have h1 : (0 : Int32).toInt = 0 := rfl
    have h2 : (3 : Int32).toInt = 3 := rfl
    have h3 : jlo 1 = 0 := rfl
    have h4 : jhi 1 = 3 := rfl
    rw [h1, h2]
    unfold goodV
    rw [h3, h4]
    exact ⟨fun q => ⟨q, fun z => absurd z (by decide)⟩, fun q => q.1⟩
  · rw [mM_2, sM_in]
    simp only [Option.bind_some]
    congr 1
    refine jo_eq ?_
    have h1 : (0 : Int32).toInt = 0 := rfl
    have h2 : (9 : Int32).toInt = 9 := rfl
    have h3 : jlo 2 = 0 := rfl
    have h4 : jhi 2 = 9 := rfl
    rw [h1, h2]
    unfold goodV
    rw [h3, h4]
    exact ⟨fun q => ⟨q, fun z => absurd z (by decide)⟩, fun q => q.1⟩
  · rw [mM_3, sM_in]
    simp only [Option.bind_some]
    congr 1
    refine jo_eq ?_
    have h1 : (0 : Int32).toInt = 0 := rfl
    have h2 : (3 : Int32).toInt = 3 := rfl
    have h3 : jlo 3 = 0 := rfl
    have h4 : jhi 3 = 3 := rfl
    rw [h1, h2]
    unfold goodV
    rw [h3, h4]
    exact ⟨fun q => ⟨q, fun z => absurd z (by decide)⟩, fun q => q.1⟩
  · rw [mM_4, sM_isChild h]
    simp only [Option.bind_some, jb_jo]
    have h3 : jlo 4 = 0 := rfl
    have h4 : jhi 4 = 9 := rfl
    have h9 : (9 : Int32).toInt = 9 := rfl
    by_cases a : v = 9
    · rw [if_pos a, jo_1]
      unfold goodV
      rw [h3, h4, a, h9]
      exact ⟨⟨by omega, by omega⟩, fun _ => Or.inl rfl⟩
    · rw [if_neg a]
      by_cases b : isCh ch v
      · rw [if_neg (fun q => q b)]
        by_cases e : v = nI n
        · rw [if_pos e, jo_0]
          rintro ⟨-, q⟩
          rcases q rfl with q | q
          · exact a q
          · exact q.1 e
        · rw [if_neg e, jo_1]
          unfold goodV
          rw [h3, h4]
          unfold isCh at b
          exact ⟨⟨by omega, by omega⟩, fun _ => Or.inr ⟨e, b⟩⟩
      · rw [if_pos b, jo_0]
        rintro ⟨-, q⟩
        rcases q rfl with q | q
        · exact a q
        · exact b q.2
  · rw [mM_5, sM_in]
    simp only [Option.bind_some]
    congr 1
    refine jo_eq ?_
    have h1 : (0 : Int32).toInt = 0 := rfl
    have h2 : (3 : Int32).toInt = 3 := rfl
    have h3 : jlo 5 = 0 := rfl
    have h4 : jhi 5 = 3 := rfl
    rw [h1, h2]
    unfold goodV
    rw [h3, h4]
    exact ⟨fun q => ⟨q, fun z => absurd z (by decide)⟩, fun q => q.1⟩
  · rw [mM_6, sM_in]
    simp only [Option.bind_some]
    congr 1
    refine jo_eq ?_
    have h1 : (1 : Int32).toInt = 1 := rfl
    have h2 : (9 : Int32).toInt = 9 := rfl
    have h3 : jlo 6 = 1 := rfl
    have h4 : jhi 6 = 9 := rfl
    rw [h1, h2]
    unfold goodV
    rw [h3, h4]
    exact ⟨fun q => ⟨q, fun z => absurd z (by decide)⟩, fun q => q.1⟩
  · rw [mM_7, sM_in]
    simp only [Option.bind_some]
    congr 1
    refine jo_eq ?_
    have h1 : (0 : Int32).toInt = 0 := rfl
    have h2 : (3 : Int32).toInt = 3 := rfl
    have h3 : jlo 7 = 0 := rfl
    have h4 : jhi 7 = 3 := rfl
    rw [h1, h2]
    unfold goodV
    rw [h3, h4]
    exact ⟨fun q => ⟨q, fun z => absurd z (by decide)⟩, fun q => q.1⟩
  · rw [mM_8, sM_in]
    simp only [Option.bind_some]
    congr 1
    refine jo_eq ?_
    have h1 : (1 : Int32).toInt = 1 := rfl
    have h2 : (30 : Int32).toInt = 30 := rfl
    have h3 : jlo 8 = 1 := rfl
    have h4 : jhi 8 = 30 := rfl
    rw [h1, h2]
    unfold goodV
    rw [h3, h4]
    exact ⟨fun q => ⟨q, fun z => absurd z (by decide)⟩, fun q => q.1⟩
  · rw [mM_9, sM_in]
    simp only [Option.bind_some]
    congr 1
    refine jo_eq ?_
    have h1 : (0 : Int32).toInt = 0 := rfl
    have h2 : (200 : Int32).toInt = 200 := rfl
    have h3 : jlo 9 = 0 := rfl
    have h4 : jhi 9 = 200 := rfl
    rw [h1, h2]
    unfold goodV
    rw [h3, h4]
    exact ⟨fun q => ⟨q, fun z => absurd z (by decide)⟩, fun q => q.1⟩
  · rw [mM_10, sM_in]
    simp only [Option.bind_some]
    congr 1
    refine jo_eq ?_
    have h1 : (0 : Int32).toInt = 0 := rfl
    have h2 : (12 : Int32).toInt = 12 := rfl
    have h3 : jlo 10 = 0 := rfl
    have h4 : jhi 10 = 12 := rfl
    rw [h1, h2]
    unfold goodV
    rw [h3, h4]
    exact ⟨fun q => ⟨q, fun z => absurd z (by decide)⟩, fun q => q.1⟩
theorem sX6_isWithin (σ : jS) {w : Nat} (hw : w ≤ 10) (v : Int32) : fX6_isWithin σ (nI w) v = some (jo ((jlo w : Int) ≤ v.toInt ∧ v.toInt ≤ (jhi w : Int))) := by
  unfold fX6_isWithin
  rw [if_neg (nI_pos (by omega)), if_neg (by rw [show (10 : Int32) = nI 10 from rfl, nI_ltI (by omega) (by omega)]; omega), ob_nI (by omega) (by omega), ob_nI (by omega) (by omega), nI_cl (by omega)]
  have h1 : (jLEAST w).toInt = (jlo w : Int) := by
    have : ∀ k, k ≤ 10 → (jLEAST k).toInt = (jlo k : Int) := by decide
    exact this w hw
  have h2 : (jMOST w).toInt = (jhi w : Int) := by
    have : ∀ k, k ≤ 10 → (jMOST k).toInt = (jhi k : Int) := by decide
    exact this w hw
  simp only [i_lt, h1, h2]
  by_cases a : v.toInt < (jlo w : Int)
  · rw [if_pos a, jo_0 (fun q => by omega)]
  · rw [if_neg a]
    by_cases b : (jhi w : Int) < v.toInt
    · rw [if_pos b, jo_0 (fun q => by omega)]
    · rw [if_neg b, jo_1 ⟨by omega, by omega⟩]
theorem sX6_mayBe {σ : jS} {ch : Nat} {V : Nat → Nat → Int32} (h : nX σ ch V) {w n : Nat} (hk : jok ch w n) (v : Int32) : fX6_mayBe σ (nI n) (nI w) v = some (jo (goodV ch w n v)) := by
  have hw : w ≤ 10 := by rcases hk with q | q | q <;> omega
  unfold fX6_mayBe
  rw [sX6_isWithin σ hw, sX6_mayCount h]
  simp only [Option.bind_some, jb_jo]
  have e4 : (nI w = (4 : Int32)) = (w = 4) := propext (nI_eq (a := w) (b := 4) (by omega) (by omega))
  simp only [e4]
  by_cases a : (jlo w : Int) ≤ v.toInt ∧ v.toInt ≤ (jhi w : Int)
  · rw [if_neg (fun q => q a)]
    by_cases b : w = 4
    · rw [if_pos b]
      by_cases c : mayC ch v (nI n)
      · rw [if_neg (fun q => q c), jo_1 ⟨a, fun _ => c⟩]
      · rw [if_pos c, jo_0 (fun q => c (q.2 b))]
    · rw [if_neg b, jo_1 ⟨a, fun z => absurd z b⟩]
  · rw [if_pos a, jo_0 (fun q => a q.1)]
/-! the call of -/
theorem eq_of {σx σm : jS} {ch : Nat} {V : Nat → Nat → Int32} (hx : nX σx ch V) (hm : nM σm ch V) (p1 p2 : Int32) : ∃ r, fX11_of σx p1 p2 = some r ∧ fX12_of σm p1 p2 = some r := by
  unfold fX11_of fX12_of
  rw [sM_isOne hm]
  simp only [Option.bind_some, jb_jo]
  by_cases a : okI ch p1 p2
  · obtain ⟨w, n, hk, rfl, rfl⟩ := okI_nat a
    refine ⟨V w n, ?_, ?_⟩
    · rw [sX6_placeOf hx hk]
      simp only [Option.bind_some]
      rw [if_pos (nI_pos' (n := jxp w n) (by have := jxp_lt hk hx.1; omega)), sX6_valueAt _ (jxp_lt hk hx.1), hx.2.2 w n hk]
      rfl
    · rw [if_neg (fun q => q a), sM_valueAt hm hk]
      rfl
  · refine ⟨-1, ?_, ?_⟩
    · rw [sX6_placeBad hx a]
      rfl
    · rw [if_pos a]
