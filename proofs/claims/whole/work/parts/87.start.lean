/-! the beginning: all alike -/
theorem rAll_start {σx σm : jS} (x1 : σx.1 1 1 = 0) (x54 : σx.1 2 54 = 6) (x55 : σx.1 2 55 = 6) (x56 : σx.1 2 56 = 6) (x57 : σx.1 2 57 = 2) (x58 : σx.1 2 58 = 20) (x59 : σx.1 2 59 = 0) (x60 : σx.1 2 60 = 0) (x34 : σx.1 3 4 = 0) (x35 : σx.1 3 5 = 0) (x71 : σx.1 7 1 = 0) (x76 : σx.1 7 6 = 0) (xd1 : σx.1 37 1 = 0) (xd2 : σx.1 37 2 = 0) (xd3 : σx.1 37 3 = 0) (xd4 : σx.1 37 4 = 0) (xd5 : σx.1 37 5 = 0) (xd6 : σx.1 37 6 = 0) (xd7 : σx.1 37 7 = -2) (x011 : σx.1 0 11 = 0) (xl0 : σx.1 17 2 = 0) (xl1 : σx.1 22 2 = 1) (xl2 : σx.1 27 2 = 2) (xs : ∀ s, s < 6 → σx.1 45 s = 0) (xb1 : σx.1 41 1 = 0) (xb3 : σx.1 41 3 = 0) (m2 : σm.1 0 2 = 0) (ml : ∀ s, s < 3 → σm.1 1 s = 6) (m9 : σm.1 0 9 = 2) (m10 : σm.1 0 10 = 20) (m11 : σm.1 0 11 = 0) (m12 : σm.1 0 12 = 0) (m13 : σm.1 0 13 = 0) (m14 : σm.1 0 14 = 0) (m20 : σm.1 0 20 = 0) (m32 : σm.1 0 32 = 0) (md0 : σm.1 27 0 = 0) (md1 : σm.1 27 1 = 0) (md2 : σm.1 27 2 = 0) (md3 : σm.1 27 3 = 0) (md4 : σm.1 27 4 = 0) (md5 : σm.1 27 5 = -2) (md6 : σm.1 27 6 = -1) (m48 : σm.1 0 48 = 0) (ms : ∀ s, s < 6 → σm.1 31 s = -1) (m49 : σm.1 0 49 = 0) (m51 : σm.1 0 51 = 0) : rAll σx σm := by
  have jb0 : jb 0 = 0 := by decide
  refine ⟨0, fun w n => jmv σm w n, 0, ⟨⟨by omega, x1, fun w n hk => ?_⟩, ⟨by omega, m2, fun w n hk => rfl⟩, fun w n hk => ?_⟩, ⟨0, 0, by omega, by omega, x34, x35, m13, m14, fun i hi => by omega⟩, Or.inl ⟨x76, by rw [m32]; exact jb0⟩, ⟨0, fun _ => 0, ⟨by omega, fun i hi => by omega⟩, ⟨x71, fun i hi => by omega⟩, m20, fun i hi => by omega⟩, ⟨?_, ?_, ?_, ?_, ?_, ?_, ⟨0, by omega, xd6⟩, Or.inl ⟨by rw [xd1]; exact jb0, md6⟩⟩, Or.inl ⟨by rw [x011]; exact jb0, by rw [m48]; exact jb0⟩, fun i hi => ?_, ⟨by omega, fun s hs => Or.inl ⟨xs s hs, ms s hs⟩⟩, ⟨by omega, xb1, m49, fun i hi => by omega, 0, by omega, xb3, m51, fun i hi => by omega⟩⟩
  · rcases hk with ⟨h1, h2⟩ | ⟨rfl, h2⟩ | ⟨h1, h2, rfl⟩
    · omega
    · have : n = 0 ∨ n = 1 ∨ n = 2 := by omega
      rcases this with rfl | rfl | rfl
      · show σx.1 2 54 = σm.1 1 0
        rw [x54, ml 0 (by omega)]
      · show σx.1 2 55 = σm.1 1 1
        rw [x55, ml 1 (by omega)]
      · show σx.1 2 56 = σm.1 1 2
        rw [x56, ml 2 (by omega)]
    · have : w = 7 ∨ w = 8 ∨ w = 9 ∨ w = 10 := by omega
      rcases this with rfl | rfl | rfl | rfl
      · show σx.1 2 57 = σm.1 0 9
        rw [x57, m9]
      · show σx.1 2 58 = σm.1 0 10
        rw [x58, m10]
      · show σx.1 2 59 = σm.1 0 11
        rw [x59, m11]
      · show σx.1 2 60 = σm.1 0 12
        rw [x60, m12]
  · rcases hk with ⟨h1, h2⟩ | ⟨rfl, h2⟩ | ⟨h1, h2, rfl⟩
    · omega
    · refine ⟨?_, fun z => absurd z (by decide)⟩
      show ((jlo 6 : Int) ≤ (σm.1 1 n).toInt ∧ (σm.1 1 n).toInt ≤ (jhi 6 : Int))
      rw [ml n h2]
      decide
    · refine ⟨?_, fun z => by omega⟩
      have : w = 7 ∨ w = 8 ∨ w = 9 ∨ w = 10 := by omega
      rcases this with rfl | rfl | rfl | rfl
      · show ((jlo 7 : Int) ≤ (σm.1 0 9).toInt ∧ (σm.1 0 9).toInt ≤ (jhi 7 : Int))
        rw [m9]; decide
      · show ((jlo 8 : Int) ≤ (σm.1 0 10).toInt ∧ (σm.1 0 10).toInt ≤ (jhi 8 : Int))
        rw [m10]; decide
      · show ((jlo 9 : Int) ≤ (σm.1 0 11).toInt ∧ (σm.1 0 11).toInt ≤ (jhi 9 : Int))
        rw [m11]; decide
      · show ((jlo 10 : Int) ≤ (σm.1 0 12).toInt ∧ (σm.1 0 12).toInt ≤ (jhi 10 : Int))
        rw [m12]; decide
  · rw [md0, xd2]
  · rw [md1, xd3]
  · rw [md2, xd4]
  · rw [md3, xd5]
  · rw [md4, xd6]
  · rw [md5, xd7]
  · have : i = 0 ∨ i = 1 ∨ i = 2 := by omega
    rcases this with rfl | rfl | rfl
    · exact xl0
    · exact xl1
    · exact xl2
