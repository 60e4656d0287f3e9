theorem jix_b : ∀ k : Nat, k < 256 → ∀ b ∈ ([104, 115, 119, 114, 113, 112] : List Int32), ((b = (nI k).toInt8.toInt32) ↔ (nI k = b)) := by decide +kernel
theorem jix_out {x : Int32} (h : x < 0 ∨ 255 < x) : jIx x = -1 := by
  have e : ∀ b ∈ ([104, 115, 119, 114, 113, 112] : List Int32), ¬ x = b := by
    intro b hb z
    subst z
    revert h
    revert hb x
    decide +kernel
  unfold jIx
  rw [if_neg (e 104 (by decide)), if_neg (e 115 (by decide)), if_neg (e 119 (by decide)), if_neg (e 114 (by decide)), if_neg (e 113 (by decide)), if_neg (e 112 (by decide))]
theorem jix_in {k : Nat} (hk : k < 256) : fJ1_indexOfChar_4cfef (fun _ _ => 0, fun _ _ => 0) (nI k) 0 6 = some (jIx (nI k)) := by
  have hN : ∃ n, jN = n + 7 := ⟨jN - 7, by have := jN_ge; omega⟩
  obtain ⟨n, hn⟩ := hN
  have b := jix_b k hk
  unfold fJ1_indexOfChar_4cfef
  rw [hn]
  have s0 : ∀ s, fJ1_indexOfChar_4cfef_B7 (nI k) 6 s 0 = if (104 : Int32) = (nI k).toInt8.toInt32 then some 0 else s 1 := fun s => rfl
  have s1 : ∀ s, fJ1_indexOfChar_4cfef_B7 (nI k) 6 s 1 = if (115 : Int32) = (nI k).toInt8.toInt32 then some 1 else s 2 := fun s => rfl
  have s2 : ∀ s, fJ1_indexOfChar_4cfef_B7 (nI k) 6 s 2 = if (119 : Int32) = (nI k).toInt8.toInt32 then some 2 else s 3 := fun s => rfl
  have s3 : ∀ s, fJ1_indexOfChar_4cfef_B7 (nI k) 6 s 3 = if (114 : Int32) = (nI k).toInt8.toInt32 then some 3 else s 4 := fun s => rfl
  have s4 : ∀ s, fJ1_indexOfChar_4cfef_B7 (nI k) 6 s 4 = if (113 : Int32) = (nI k).toInt8.toInt32 then some 4 else s 5 := fun s => rfl
  have s5 : ∀ s, fJ1_indexOfChar_4cfef_B7 (nI k) 6 s 5 = if (112 : Int32) = (nI k).toInt8.toInt32 then some 5 else s 6 := fun s => rfl
  have s6 : ∀ s, fJ1_indexOfChar_4cfef_B7 (nI k) 6 s 6 = some (-1) := fun s => rfl
  have js : ∀ (m : Nat) (a : Int32), jloop (fJ1_indexOfChar_4cfef_B7 (nI k) 6) (m + 1) a = fJ1_indexOfChar_4cfef_B7 (nI k) 6 (jloop (fJ1_indexOfChar_4cfef_B7 (nI k) 6) m) a := fun _ _ => rfl
  rw [js (n + 6), s0, js (n + 5), s1, js (n + 4), s2, js (n + 3), s3, js (n + 2), s4, js (n + 1), s5, js n, s6]
  simp only [b 104 (by decide), b 115 (by decide), b 119 (by decide), b 114 (by decide), b 113 (by decide), b 112 (by decide)]
  unfold jIx
  by_cases c0 : nI k = 104
  · rw [if_pos c0, if_pos c0]
  rw [if_neg c0, if_neg c0]
  by_cases c1 : nI k = 115
  · rw [if_pos c1, if_pos c1]
  rw [if_neg c1, if_neg c1]
  by_cases c2 : nI k = 119
  · rw [if_pos c2, if_pos c2]
  rw [if_neg c2, if_neg c2]
  by_cases c3 : nI k = 114
  · rw [if_pos c3, if_pos c3]
  rw [if_neg c3, if_neg c3]
  by_cases c4 : nI k = 113
  · rw [if_pos c4, if_pos c4]
  rw [if_neg c4, if_neg c4]
  by_cases c5 : nI k = 112
  · rw [if_pos c5, if_pos c5]
  rw [if_neg c5, if_neg c5]
theorem jix_ok (σ : jS) (x : Int32) : fJ0_indexOf_0f7a4 σ x = some (jIx x) := by
  have h1 : fJ0_indexOf_0f7a4 σ x = (fJ1_indexOf_4cfef σ x 0 6).bind fun q => some q := by
    have e : fJ0_length_8abf5 σ = some 6 := rfl
    have e2 : fJ0_isLatin1_aae02 σ = some 1 := rfl
    unfold fJ0_indexOf_0f7a4 fJ0_indexOf_7cf53
    rw [e, e2]
    simp only [Option.bind_some]
    rw [if_neg (by decide)]
    cases fJ1_indexOf_4cfef σ x 0 6 <;> rfl
  rw [h1]
  unfold fJ1_indexOf_4cfef fJ1_canEncode_9a6ad
  by_cases a : x < 0
  · rw [if_pos a, jix_out (Or.inl a)]
    rfl
  · rw [if_neg a]
    by_cases b : 255 < x
    · rw [if_pos b, jix_out (Or.inr b)]
      rfl
    · rw [if_neg b]
      have hx : ∃ k : Nat, k < 256 ∧ x = nI k := by
        refine ⟨x.toNatClampNeg, ?_, ?_⟩
        · have h0 : (0 : Int32) ≤ x := Int32.not_lt.mp a
          have h2 := Int32.le_iff_toInt_le.mp (Int32.not_lt.mp b)
          have h3 : x.toInt = x.toNatClampNeg := Int32.toInt_eq_toNatClampNeg h0
          rw [h3, show (255 : Int32).toInt = 255 from rfl] at h2
          omega
        · exact (Int32.ofNat_toNatClampNeg x (Int32.not_lt.mp a)).symm
      obtain ⟨k, hk, rfl⟩ := hx
      have e := jix_in hk
      have e3 : fJ1_indexOfChar_4cfef σ (nI k) 0 6 = fJ1_indexOfChar_4cfef (fun _ _ => 0, fun _ _ => 0) (nI k) 0 6 := rfl
      simp only [Option.bind_some]
      rw [if_neg (by decide), if_pos (by decide)]
      rw [show (if (0 : Int32) < (0 : Int32) then (0 : Int32) else 0) = 0 from rfl, show (if (6 : Int32) < (6 : Int32) then (6 : Int32) else 6) = 6 from rfl, e3, e]
      rfl
