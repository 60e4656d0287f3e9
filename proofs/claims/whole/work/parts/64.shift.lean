/-! SHELVES: put, element, shift, taken of both sides -/
theorem eq_place {σx σm : jS} {nb : Nat} (h : rS σx σm nb) (p1 p2 : Int32) : ∃ r, fX9_refusalAt σx p1 p2 = some r ∧ fX12_whyNoPlace σm p1 p2 = some r ∧ ((r = 0 ∧ ∃ s i n k, s < 6 ∧ i < n ∧ n ≤ 60 ∧ k < 5 ∧ p1 = nI s ∧ p2 = nI i ∧ σx.1 45 s = 2 ∧ σx.1 47 s = nI k ∧ σm.1 31 s = -2 - nI k ∧ σx.1 48 s = nI n ∧ σm.1 32 s = nI n ∧ ∀ i, i < n → σx.2 49 (60 * s + i) = σm.2 33 (60 * s + i)) ∨ (¬ r = 0 ∧ ¬ 0 ≤ r)) := by
  unfold fX9_refusalAt fX12_whyNoPlace
  rw [sX9_isShelf, sM_isShelf, Option.bind_some, Option.bind_some]
  simp only [jb_jo]
  by_cases a : isCh 6 p1
  · rw [if_neg (fun (z : ¬ isCh 6 p1) => z a), if_neg (fun (z : ¬ isCh 6 p1) => z a)]
    obtain ⟨s, hs, rfl⟩ := isCh_of a
    rw [sX9_isEmpty σx hs, sX9_isRow σx hs, Option.bind_some, Option.bind_some]
    simp only [jb_jo, ob_nI hs (show 6 < 2 ^ 31 by omega), nI_cl (show s < 2 ^ 31 by omega)]
    rcases h.2 s hs with ⟨q1, q2⟩ | ⟨b, hb, q1, q2, q3⟩ | ⟨k, n, hk, hn, q1, q2, q3, q4, q5, q6⟩
    · rw [q1, q2, if_neg (fun (z : ¬ (0 : Int32) = 0) => z rfl), if_pos rfl]
      exact ⟨-11, rfl, rfl, Or.inr ⟨by decide, by decide⟩⟩
    · have h1 := h.1
      have n1 := nI_nn (k := b) (by omega)
      rw [q1, q3, if_pos (show ¬ (1 : Int32) = 0 by decide), if_pos (show ¬ (1 : Int32) = 2 by decide), if_neg n1.2, if_neg (show ¬ nI b < 0 from fun z => by have := n1.1; rw [i_le] at this; rw [i_lt] at z; omega)]
      exact ⟨-12, rfl, rfl, Or.inr ⟨by decide, by decide⟩⟩
    · have m := m2k hk
      rw [sX9_hasPlaces hs q1 q4 hn, q1, q3, q5, sM_in, Option.bind_some, Option.bind_some, if_pos (show ¬ (2 : Int32) = 0 by decide), if_neg (fun (z : ¬ (2 : Int32) = 2) => z rfl), if_neg m.1, if_pos m.2.2.1]
      simp only [jb_jo]
      have e1 : ((0 : Int32).toInt ≤ p2.toInt ∧ p2.toInt ≤ (nI n - 1).toInt) ↔ isCh n p2 := by
        rw [i_sub (by rw [nI_T (by omega), show (1 : Int32).toInt = 1 from rfl]; omega) (by rw [nI_T (by omega), show (1 : Int32).toInt = 1 from rfl]; omega), nI_T (by omega), show (1 : Int32).toInt = 1 from rfl, show (0 : Int32).toInt = 0 from rfl]
        unfold isCh; omega
      have e2 : hasP n p2 1 ↔ isCh n p2 := by
        unfold hasP isCh
        rw [show (1 : Int32).toInt = 1 from rfl]
        omega
      simp only [e1, e2]
      by_cases c : isCh n p2
      · rw [if_neg (fun (z : ¬ isCh n p2) => z c)]
        obtain ⟨i, hi, rfl⟩ := isCh_of c
        exact ⟨0, rfl, rfl, Or.inl ⟨rfl, s, i, n, k, hs, hi, hn, hk, rfl, rfl, q1, q2, q3, q4, q5, q6⟩⟩
      · rw [if_pos c]
        exact ⟨-13, rfl, rfl, Or.inr ⟨by decide, by decide⟩⟩
  · rw [if_pos a, if_pos a]
    exact ⟨-1, rfl, rfl, Or.inr ⟨by decide, by decide⟩⟩
theorem eq_element {σx σm : jS} {nb : Nat} (h : rS σx σm nb) (p1 p2 : Int32) : ∃ r, fX11_element σx p1 p2 = some r ∧ fX12_element σm p1 p2 = some r := by
  unfold fX11_element fX12_element
  obtain ⟨r, e1, e2, e3⟩ := eq_place h p1 p2
  rw [e1, e2, Option.bind_some, Option.bind_some]
  rcases e3 with ⟨rfl, s, i, n, k, hs, hi, hn, hk, rfl, rfl, q1, q2, q3, q4, q5, q6⟩ | ⟨a, b⟩
  · rw [if_pos rfl, if_pos (Int32.le_refl 0), sX9_elementAt hs q1 q4 hn hi, Option.bind_some, ix60' hs (by omega), ob_nI (by omega) (by omega), nI_cl (by omega), q6 i hi]
    exact ⟨_, rfl, rfl⟩
  · rw [if_neg a, if_neg b]
    exact ⟨_, rfl, rfl⟩
theorem sX9_cut {σ : jS} {k : Nat} (hk : k < 5) (p3 : Int64) {ρ : Type} (j : Int64 → Option ρ) : ∃ v, fX9_cut σ (nI k) p3 = some v ∧ (if nI k = (0 : Int32) then (j (((p3.toInt32).toInt8.toInt32).toInt64)) else (if nI k = (1 : Int32) then (j (((p3.toInt32).toInt16.toInt32).toInt64)) else (if nI k = (2 : Int32) then (j ((p3.toInt32).toInt64)) else (if nI k = (3 : Int32) then (j p3) else (if (lg_cmp p3 (0 : Int64)) = 0 then (j (0 : Int64)) else (j (1 : Int64))))))) = j v := by
  unfold fX9_cut
  by_cases c0 : nI k = (0 : Int32)
  · rw [if_pos c0, if_pos c0]; exact ⟨_, rfl, rfl⟩
  · rw [if_neg c0, if_neg c0]
    by_cases c1 : nI k = (1 : Int32)
    · rw [if_pos c1, if_pos c1]; exact ⟨_, rfl, rfl⟩
    · rw [if_neg c1, if_neg c1]
      by_cases c2 : nI k = (2 : Int32)
      · rw [if_pos c2, if_pos c2]; exact ⟨_, rfl, rfl⟩
      · rw [if_neg c2, if_neg c2]
        by_cases c3 : nI k = (3 : Int32)
        · rw [if_pos c3, if_pos c3]; exact ⟨_, rfl, rfl⟩
        · rw [if_neg c3, if_neg c3]
          by_cases c4 : (lg_cmp p3 (0 : Int64)) = 0
          · rw [if_pos c4, if_pos c4]; exact ⟨_, rfl, rfl⟩
          · rw [if_neg c4, if_neg c4]; exact ⟨_, rfl, rfl⟩
theorem eq_put {σx σm : jS} {nb : Nat} (h : rS σx σm nb) (p1 p2 : Int32) (p3 : Int64) : ∃ r σx' σm', fX11_put σx p1 p2 p3 = some (r, σx') ∧ fX12_put σm p1 p2 p3 = some (r, σm') ∧ rS σx' σm' nb ∧ σx'.1 = σx.1 ∧ σm'.1 = σm.1 := by
  unfold fX11_put fX12_put
  obtain ⟨r, e1, e2, e3⟩ := eq_place h p1 p2
  rw [e1, e2, Option.bind_some, Option.bind_some]
  rcases e3 with ⟨rfl, s, i, n, k, hs, hi, hn, hk, rfl, rfl, q1, q2, q3, q4, q5, q6⟩ | ⟨a, b⟩
  · have m := m2k hk
    rw [if_pos rfl, if_pos (Int32.le_refl 0), jlet_e]
    simp only [ob_nI hs (show 6 < 2 ^ 31 by omega), nI_cl (show s < 2 ^ 31 by omega), q3, m.2.2.2.1, ix60' hs (show i < 60 by omega), ob_nI (show 60 * s + i < 360 by omega) (show 360 < 2 ^ 31 by omega), nI_cl (show 60 * s + i < 2 ^ 31 by omega), jst_e]
    obtain ⟨v, c1, c2⟩ := sX9_cut (σ := σx) hk p3 (fun (a95 : Int64) => some ((1 : Int32), jul σm 33 (60 * s + i) a95))
    rw [c2]
    unfold fX9_setElement
    rw [sX9_hasPlaces hs q1 q4 hn, Option.bind_some]
    simp only [jb_jo, hasP_1 (show i < 2 ^ 31 by omega)]
    rw [if_neg (fun (z : ¬ i < n) => z hi), ob_nI hs (by omega), nI_cl (by omega), q2, c1, Option.bind_some, ix60 hs (by omega), ob_nI (by omega) (by omega), nI_cl (by omega), jst_e, Option.bind_some]
    refine ⟨_, _, _, rfl, rfl, h.upd (s0 := s) (fun t ht hne => ⟨rfl, rfl, rfl, rfl, rfl, rfl, fun j hj => ⟨?_, ?_⟩⟩) (Or.inr (Or.inr ⟨k, n, hk, hn, q1, q2, q3, q4, q5, fun j hj => ?_⟩)), rfl, rfl⟩
    · exact jul_i (by omega)
    · exact jul_i (by omega)
    · by_cases c : j = i
      · subst c
        rw [jul_s, jul_s]
      · rw [jul_i (by omega), jul_i (by omega)]
        exact q6 j hj
  · rw [if_neg a, if_neg b]
    exact ⟨_, _, _, rfl, rfl, h, rfl, rfl⟩
theorem sM_shiftA {p1 p2 p5 : Int32} {j147 : jS → Option (Int32 × jS)} {b m : Nat} (hb : b + m ≤ 360) (hm : m ≤ 60) (e1 : (60 : Int32) * p1 + p2 = nI b) (e5 : p5 = nI m) : ∀ (n j f : Nat) (σ : jS), j + n = m → n < f → ∃ σ', jloop (fX12_shift_B113 p1 p2 p5 j147) f (σ, nI j) = j147 σ' ∧ σ'.1 = σ.1 ∧ σ'.2 33 = σ.2 33 ∧ ∀ i, σ'.2 34 i = if j ≤ i ∧ i < m then σ.2 33 (b + i) else σ.2 34 i := by
  have e0 : ∀ s a, fX12_shift_B113 p1 p2 p5 j147 s a = (if nI m ≤ a.2 then (j147 a.1) else (ob (nI b + a.2) 360 (ob a.2 60 (jst (jul a.1 34 (a.2).toNatClampNeg (a.1.2 33 ((nI b + a.2)).toNatClampNeg)) fun (σ4 : jS) => (s (σ4, (a.2 + (1 : Int32)))))))) := by
    intro s a
    unfold fX12_shift_B113
    rw [e1, e5]
  intro n
  induction n with
  | zero =>
    intro j f σ hj hf
    obtain ⟨f, rfl⟩ : ∃ g, f = g + 1 := ⟨f - 1, by omega⟩
    rw [jloop_s, e0, if_pos ((nI_leI (by omega) (by omega)).mpr (by omega))]
    exact ⟨σ, rfl, rfl, rfl, fun i => by rw [if_neg (by omega)]⟩
  | succ n ih =>
    intro j f σ hj hf
    obtain ⟨f, rfl⟩ : ∃ g, f = g + 1 := ⟨f - 1, by omega⟩
    rw [jloop_s, e0, if_neg (show ¬ nI m ≤ nI j from fun z => by have := (nI_leI (by omega) (by omega)).mp z; omega)]
    simp only [nI_add, nI_1]
    rw [ob_nI (by omega) (by omega), ob_nI (by omega) (by omega), nI_cl (by omega), nI_cl (by omega), jst_e]
    obtain ⟨σ', f1, f2, f3, f4⟩ := ih (j + 1) f (jul σ 34 j (σ.2 33 (b + j))) (by omega) (by omega)
    refine ⟨σ', f1, f2, by rw [f3, jul_n (by decide)], fun i => ?_⟩
    rw [f4 i, jul_n (show (33 : Nat) ≠ 34 by decide)]
    by_cases c : i = j
    · subst c
      rw [if_neg (by omega), if_pos (by omega), jul_s]
    · rw [jul_i c]
      by_cases d : j ≤ i ∧ i < m
      · rw [if_pos d, if_pos (by omega)]
      · rw [if_neg d, if_neg (by omega)]
theorem sM_shiftB {p3 p4 p5 : Int32} {b m : Nat} (hb : b + m ≤ 360) (hm : m ≤ 60) (e1 : (60 : Int32) * p3 + p4 = nI b) (e5 : p5 = nI m) : ∀ (n j f : Nat) (σ : jS), j + n = m → n < f → ∃ σ', jloop (fX12_shift_B150 p3 p4 p5) f (σ, nI j) = some (p5, σ') ∧ σ'.1 = σ.1 ∧ ∀ i, σ'.2 33 i = if b + j ≤ i ∧ i < b + m then σ.2 34 (i - b) else σ.2 33 i := by
  have e0 : ∀ s a, fX12_shift_B150 p3 p4 p5 s a = (if nI m ≤ a.2 then (some (p5, a.1)) else (ob a.2 60 (ob (nI b + a.2) 360 (jst (jul a.1 33 ((nI b + a.2)).toNatClampNeg (a.1.2 34 (a.2).toNatClampNeg)) fun (σ3 : jS) => (s (σ3, (a.2 + (1 : Int32)))))))) := by
    intro s a
    unfold fX12_shift_B150
    rw [e1, e5]
  intro n
  induction n with
  | zero =>
    intro j f σ hj hf
    obtain ⟨f, rfl⟩ : ∃ g, f = g + 1 := ⟨f - 1, by omega⟩
    rw [jloop_s, e0, if_pos ((nI_leI (by omega) (by omega)).mpr (by omega))]
    exact ⟨σ, rfl, rfl, fun i => by rw [if_neg (by omega)]⟩
  | succ n ih =>
    intro j f σ hj hf
    obtain ⟨f, rfl⟩ : ∃ g, f = g + 1 := ⟨f - 1, by omega⟩
    rw [jloop_s, e0, if_neg (show ¬ nI m ≤ nI j from fun z => by have := (nI_leI (by omega) (by omega)).mp z; omega)]
    simp only [nI_add, nI_1]
    rw [ob_nI (by omega) (by omega), ob_nI (by omega) (by omega), nI_cl (by omega), nI_cl (by omega), jst_e]
    obtain ⟨σ', f1, f2, f4⟩ := ih (j + 1) f (jul σ 33 (b + j) (σ.2 34 j)) (by omega) (by omega)
    refine ⟨σ', f1, f2, fun i => ?_⟩
    rw [f4 i, jul_n (show (34 : Nat) ≠ 33 by decide)]
    by_cases c : i = b + j
    · subst c
      rw [if_neg (by omega), if_pos (by omega), jul_s, show b + j - b = j by omega]
    · rw [jul_i c]
      by_cases d : b + j ≤ i ∧ i < b + m
      · rw [if_pos d, if_pos (by omega)]
      · rw [if_neg d, if_neg (by omega)]
theorem isBd {σx σm : jS} {nb s : Nat} (h : rS σx σm nb) (hs : s < 6) : (σx.1 45 s = 0 ↔ σm.1 31 s = -1) ∧ (σx.1 45 s = 1 ↔ 0 ≤ σm.1 31 s) ∧ (σx.1 45 s = 2 ↔ σm.1 31 s < 0 ∧ ¬ σm.1 31 s = -1) := by
  rcases h.2 s hs with ⟨q1, q2⟩ | ⟨b, hb, q1, q2, q3⟩ | ⟨k, n, hk, hn, q1, q2, q3, q4, q5, q6⟩
  · rw [q1, q2]; decide
  · have h1 := h.1
    have n1 := nI_nn (k := b) (by omega)
    have n2 : ¬ nI b < 0 := fun z => by have := n1.1; rw [i_le] at this; rw [i_lt] at z; omega
    rw [q1, q3]
    exact ⟨⟨fun z => (by cases z), fun z => absurd z n1.2⟩, ⟨fun _ => n1.1, fun _ => rfl⟩, ⟨fun z => (by cases z), fun z => absurd z.1 n2⟩⟩
  · have m := m2k hk
    rw [q1, q3]
    exact ⟨⟨fun z => (by cases z), fun z => absurd z m.1⟩, ⟨fun z => (by cases z), fun z => absurd z m.2.2.2.2⟩, ⟨fun _ => ⟨m.2.2.1, m.1⟩, fun _ => rfl⟩⟩
theorem eq_shift {σx σm : jS} {nb : Nat} (h : rS σx σm nb) (p1 p2 p3 p4 p5 : Int32) : ∃ r σx' σm', fX11_shift σx p1 p2 p3 p4 p5 = some (r, σx') ∧ fX12_shift σm p1 p2 p3 p4 p5 = some (r, σm') ∧ rS σx' σm' nb ∧ σx'.1 = σx.1 ∧ σm'.1 = σm.1 := by
  unfold fX11_shift fX12_shift
  rw [sX9_isShelf, sM_isShelf, sX9_isShelf, sM_isShelf, Option.bind_some, Option.bind_some, Option.bind_some, Option.bind_some]
  simp only [jb_jo]
  by_cases a : isCh 6 p1
  · rw [if_neg (fun (z : ¬ isCh 6 p1) => z a), if_neg (fun (z : ¬ isCh 6 p1) => z a)]
    by_cases b : isCh 6 p3
    · rw [if_neg (fun (z : ¬ isCh 6 p3) => z b), if_neg (fun (z : ¬ isCh 6 p3) => z b)]
      obtain ⟨s, hs, rfl⟩ := isCh_of a
      obtain ⟨t, ht, rfl⟩ := isCh_of b
      have bs := isBd h hs
      have bt := isBd h ht
      rw [sX9_isEmpty σx hs, sX9_isEmpty σx ht, Option.bind_some, Option.bind_some]
      unfold fX9_areLikeRows
      rw [sX9_isRow σx hs, sX9_isRow σx ht, Option.bind_some, Option.bind_some]
      simp only [jb_jo, ob_nI hs (show 6 < 2 ^ 31 by omega), nI_cl (show s < 2 ^ 31 by omega), ob_nI ht (show 6 < 2 ^ 31 by omega), nI_cl (show t < 2 ^ 31 by omega)]
      by_cases c : σx.1 45 s = 0
      · rw [if_neg (fun (z : ¬ σx.1 45 s = 0) => z c), if_pos (bs.1.mp c)]
        exact ⟨_, _, _, rfl, rfl, h, rfl, rfl⟩
      · rw [if_pos c, if_neg (fun z => c (bs.1.mpr z))]
        by_cases d : σx.1 45 t = 0
        · rw [if_neg (fun (z : ¬ σx.1 45 t = 0) => z d), if_pos (bt.1.mp d)]
          exact ⟨_, _, _, rfl, rfl, h, rfl, rfl⟩
        · rw [if_pos d, if_neg (fun z => d (bt.1.mpr z))]
          rcases h.2 s hs with ⟨q1, q2⟩ | ⟨b, hb, q1, q2, q3⟩ | ⟨k, n, hk, hn, q1, q2, q3, q4, q5, q6⟩
          · exact absurd q1 c
          · rw [if_pos (show ¬ σx.1 45 s = 2 by rw [q1]; decide), Option.bind_some, if_pos (show jb 0 = 0 by decide), if_pos (bs.2.1.mp q1)]
            exact ⟨_, _, _, rfl, rfl, h, rfl, rfl⟩
          · have m := m2k hk
            rw [if_neg (fun (z : ¬ σx.1 45 s = 2) => z q1), if_neg (show ¬ 0 ≤ σm.1 31 s by rw [q3]; exact m.2.2.2.2)]
            rcases h.2 t ht with ⟨w1, w2⟩ | ⟨b, hb, w1, w2, w3⟩ | ⟨k', n', hk', hn', w1, w2, w3, w4, w5, w6⟩
            · exact absurd w1 d
            · rw [if_pos (show ¬ σx.1 45 t = 2 by rw [w1]; decide), Option.bind_some, if_pos (show jb 0 = 0 by decide), if_neg (show ¬ σm.1 31 s = σm.1 31 t from fun z => by
                rw [q3, w3] at z
                have h1 := h.1
                have := (nI_nn (k := b) (by omega)).1
                rw [← z] at this
                exact m.2.2.2.2 this)]
              exact ⟨_, _, _, rfl, rfl, h, rfl, rfl⟩
            · have m' := m2k hk'
              have ekk : (nI k = nI k') ↔ (σm.1 31 s = σm.1 31 t) := by
                rw [q3, w3]
                constructor
                · intro z; rw [z]
                · intro z
                  rw [← m.2.2.2.1, ← m'.2.2.2.1, z]
              rw [if_neg (fun (z : ¬ σx.1 45 t = 2) => z w1), q2, w2]
              by_cases e : nI k = nI k'
              · rw [if_pos e, if_pos (ekk.mp e), Option.bind_some, if_neg (show ¬ jb 1 = 0 by decide), sX9_hasPlaces hs q1 q4 hn, sX9_hasPlaces ht w1 w4 hn', Option.bind_some, Option.bind_some, q5, w5]
                simp only [jb_jo]
                have h0 : (0 : Int32).toInt = 0 := rfl
                have hnT := nI_T (k := n) (by omega)
                have hnT' := nI_T (k := n') (by omega)
                by_cases g5 : p5 < 0
                · rw [if_pos g5, if_pos (show ¬ hasP n p2 p5 by rw [i_lt, h0] at g5; unfold hasP; omega)]
                  exact ⟨_, _, _, rfl, rfl, h, rfl, rfl⟩
                · rw [if_neg g5]
                  rw [i_lt, h0] at g5
                  have hb5 := i_hi p5
                  have s1 : (nI n - p5).toInt = (n : Int) - p5.toInt := by rw [i_sub (by rw [hnT]; omega) (by rw [hnT]; omega), hnT]
                  have s2 : (nI n' - p5).toInt = (n' : Int) - p5.toInt := by rw [i_sub (by rw [hnT']; omega) (by rw [hnT']; omega), hnT']
                  by_cases g2 : p2 < 0
                  · rw [if_pos g2, if_pos (show ¬ hasP n p2 p5 by rw [i_lt, h0] at g2; unfold hasP; omega)]
                    exact ⟨_, _, _, rfl, rfl, h, rfl, rfl⟩
                  · rw [if_neg g2]
                    rw [i_lt, h0] at g2
                    by_cases g4 : p4 < 0
                    · rw [if_pos g4, if_pos (show ¬ hasP n' p4 p5 by rw [i_lt, h0] at g4; unfold hasP; omega)]
                      refine ⟨-13, σx, σm, ?_, rfl, h, rfl, rfl⟩
                      by_cases z : hasP n p2 p5
                      · rw [if_neg (fun (y : ¬ hasP n p2 p5) => y z)]
                      · rw [if_pos z]
                    · rw [if_neg g4]
                      rw [i_lt, h0] at g4
                      by_cases g : hasP n p2 p5
                      · rw [if_neg (fun (y : ¬ hasP n p2 p5) => y g), if_neg (show ¬ nI n - p5 < p2 by rw [i_lt, s1]; unfold hasP at g; omega)]
                        by_cases g' : hasP n' p4 p5
                        · rw [if_neg (fun (y : ¬ hasP n' p4 p5) => y g'), if_pos (show p4 ≤ nI n' - p5 by rw [i_le, s2]; unfold hasP at g'; omega)]
                          unfold hasP at g g'
                          obtain ⟨i, hi, rfl⟩ : ∃ i, i < 61 ∧ p2 = nI i := isCh_of ⟨g.1, by omega⟩
                          obtain ⟨j, hj, rfl⟩ : ∃ j, j < 61 ∧ p4 = nI j := isCh_of ⟨g'.1, by omega⟩
                          obtain ⟨c5, hc5, rfl⟩ : ∃ j, j < 61 ∧ p5 = nI j := isCh_of ⟨g.2.1, by omega⟩
                          rw [nI_T (by omega), nI_T (by omega)] at g g'
                          unfold fX9_move
                          rw [sX9_hasPlaces hs q1 q4 hn, sX9_hasPlaces ht w1 w4 hn', Option.bind_some, Option.bind_some]
                          simp only [jb_jo]
                          have x60 : ∀ {s i : Nat}, nI s * (60 : Int32) + nI i = nI (60 * s + i) := fun {s i} => by
                            show nI s * nI 60 + nI i = _
                            rw [pk_mul, nI_add, Nat.mul_comm]
                          have x60' : ∀ {s i : Nat}, (60 : Int32) * nI s + nI i = nI (60 * s + i) := fun {s i} => by
                            show nI 60 * nI s + nI i = _
                            rw [pk_mul, nI_add]
                          rw [if_neg (show ¬ ¬ hasP n (nI i) (nI c5) from fun z => z (by unfold hasP; rw [nI_T (by omega), nI_T (by omega)]; omega)), if_neg (show ¬ ¬ hasP n' (nI j) (nI c5) from fun z => z (by unfold hasP; rw [nI_T (by omega), nI_T (by omega)]; omega)), x60, x60, nI_cl (by omega), nI_cl (by omega), nI_cl (by omega)]
                          unfold ocp
                          rw [nI_cl (by omega), nI_cl (by omega), nI_cl (by omega)]
                          have nn : ∀ {k : Nat}, k < 2 ^ 31 → ¬ nI k < 0 := fun {k} hk z => by rw [i_lt, nI_T hk, h0] at z; omega
                          rw [if_neg (show ¬ (nI (60 * s + i) < 0 ∨ nI (60 * t + j) < 0 ∨ nI c5 < 0 ∨ ¬ 60 * s + i + c5 ≤ 360 ∨ ¬ 60 * t + j + c5 ≤ 360) from fun z => by
                            rcases z with z | z | z | z | z
                            · exact nn (by omega) z
                            · exact nn (by omega) z
                            · exact nn (by omega) z
                            · omega
                            · omega), jst_e, Option.bind_some, jlet_e]
                          obtain ⟨A, a1, a2, a3, a4⟩ := sM_shiftA (p1 := nI s) (p2 := nI i) (p5 := nI c5) (j147 := fun (a147 : jS) => (jloop (fX12_shift_B150 (nI t) (nI j) (nI c5)) jN (a147, (0 : Int32)))) (b := 60 * s + i) (m := c5) (by omega) (by omega) x60' rfl c5 0 jN σm (by omega) (by have := jN_ge; omega)
                          obtain ⟨B, b1, b2, b3⟩ := sM_shiftB (p3 := nI t) (p4 := nI j) (p5 := nI c5) (b := 60 * t + j) (m := c5) (by omega) (by omega) x60' rfl c5 0 jN A (by omega) (by have := jN_ge; omega)
                          refine ⟨_, _, B, rfl, a1.trans b1, h.upd (s0 := t) (fun u hu hne => ⟨rfl, rfl, rfl, rfl, by rw [b2, a2], by rw [b2, a2], fun l hl => ⟨?_, ?_⟩⟩) (Or.inr (Or.inr ⟨k', n', hk', hn', w1, w2, by rw [b2, a2]; exact w3, w4, by rw [b2, a2]; exact w5, fun l hl => ?_⟩)), rfl, by rw [b2, a2]⟩
                          · rw [jcl_s, pk_cpy_out (by omega)]
                          · rw [b3, if_neg (by omega), a3]
                          · rw [jcl_s, b3]
                            by_cases y : 60 * t + j ≤ 60 * t + l ∧ 60 * t + l < 60 * t + j + c5
                            · rw [if_pos (by omega), pk_cpy_in (by omega) (by omega), a4, if_pos (by omega), show 60 * s + i + (60 * t + l - (60 * t + j)) = 60 * s + (i + (l - j)) by omega, q6 _ (by omega)]
                            · rw [if_neg (by omega), pk_cpy_out (by omega), a3]
                              exact w6 l hl
                        · rw [if_pos g', if_neg (show ¬ p4 ≤ nI n' - p5 by rw [i_le, s2]; unfold hasP at g'; omega)]
                          exact ⟨_, _, _, rfl, rfl, h, rfl, rfl⟩
                      · rw [if_pos g, if_pos (show nI n - p5 < p2 by rw [i_lt, s1]; unfold hasP at g; omega)]
                        exact ⟨_, _, _, rfl, rfl, h, rfl, rfl⟩
              · rw [if_neg e, if_neg (fun z => e (ekk.mpr z)), Option.bind_some, if_pos (show jb 0 = 0 by decide)]
                exact ⟨_, _, _, rfl, rfl, h, rfl, rfl⟩
    · rw [if_pos b, if_pos b]
      exact ⟨_, _, _, rfl, rfl, h, rfl, rfl⟩
  · rw [if_pos a, if_pos a]
    exact ⟨_, _, _, rfl, rfl, h, rfl, rfl⟩
theorem eq_taken {σx σm : jS} {nb : Nat} (h : rS σx σm nb) (hB : rB σx σm nb) (p1 p2 : Int32) : ∃ r, fX11_taken σx p1 p2 = some r ∧ fX12_taken σm p1 p2 = some r := by
  unfold fX11_taken fX12_taken
  rw [sX9_isShelf, sM_isShelf, sM_in, Option.bind_some, Option.bind_some]
  simp only [jb_jo, Option.bind_some]
  have h7 : (7 : Int32).toInt = 7 := rfl
  have h0 : (0 : Int32).toInt = 0 := rfl
  have h8 : (8 : Int32).toInt = 8 := rfl
  by_cases a : isCh 6 p1
  · rw [if_neg (fun (z : ¬ isCh 6 p1) => z a), if_neg (fun (z : ¬ isCh 6 p1) => z a)]
    obtain ⟨s, hs, rfl⟩ := isCh_of a
    by_cases b : isCh 8 p2
    · obtain ⟨t, ht, rfl⟩ := isCh_of b
      have htT := nI_T (k := t) (by omega)
      rw [if_neg (show ¬ nI t < 0 by rw [i_lt, h0, htT]; omega), if_pos (show nI t < (8 : Int32) by rw [i_lt, h8, htT]; omega), if_neg (show ¬ ¬ ((0 : Int32).toInt ≤ (nI t).toInt ∧ (nI t).toInt ≤ (7 : Int32).toInt) by rw [htT, h0, h7]; omega), sX9_isEmpty σx hs, Option.bind_some]
      unfold fX9_bodyOn
      rw [sX9_isShelf, Option.bind_some]
      simp only [jb_jo, ob_nI hs (show 6 < 2 ^ 31 by omega), nI_cl (show s < 2 ^ 31 by omega)]
      rw [if_neg (fun (z : ¬ isCh 6 (nI s)) => z a)]
      rcases h.2 s hs with ⟨q1, q2⟩ | ⟨b, hb, q1, q2, q3⟩ | ⟨k, n, hk, hn, q1, q2, q3, q4, q5, q6⟩
      · rw [q1, q2, if_neg (fun (z : ¬ (0 : Int32) = 0) => z rfl), if_pos rfl]
        exact ⟨_, rfl, rfl⟩
      · have h1 := h.1
        have n1 := nI_nn (k := b) (by omega)
        obtain ⟨k, hk, k1, k2⟩ := hB.2.2.2.1 b hb
        rw [q1, q2, q3, if_pos (show ¬ (1 : Int32) = 0 by decide), if_pos (show (1 : Int32) = 1 from rfl), if_neg n1.2, if_neg (show ¬ nI b < 0 from fun z => by have := n1.1; rw [i_le] at this; rw [i_lt] at z; omega), Option.bind_some]
        unfold fX0_kindOf
        rw [sX0_isBody hB, Option.bind_some]
        simp only [jb_jo]
        rw [if_neg (show ¬ ¬ isCh nb (nI b) from fun z => z ⟨by rw [nI_T (by omega)]; omega, by rw [nI_T (by omega)]; omega⟩), ob_nI (show b < 50 by omega) (by omega), nI_cl (by omega), k1, k2, Option.bind_some, sX_under k hk t ht, sM_under k hk t ht, Option.bind_some, ob_nI (show b < 50 by omega) (by omega), Option.bind_some]
        simp only [jb_jo]
        by_cases u : und k t
        · rw [if_neg (fun (z : ¬ und k t) => z u), if_neg (fun (z : ¬ und k t) => z u), ob_nI (show b < 50 by omega) (by omega)]
          exact ⟨_, rfl, rfl⟩
        · rw [if_pos u, if_pos u]
          exact ⟨_, rfl, rfl⟩
      · have m := m2k hk
        rw [q1, q3, if_pos (show ¬ (2 : Int32) = 0 by decide), if_neg (show ¬ (2 : Int32) = 1 by decide), if_neg m.1, if_pos m.2.2.1, Option.bind_some]
        unfold fX0_kindOf
        rw [sX0_isBody hB, Option.bind_some]
        simp only [jb_jo]
        rw [if_pos (show ¬ isCh nb (-1 : Int32) from fun z => by have := z.1; have e : (-1 : Int32).toInt = -1 := rfl; omega), Option.bind_some]
        have eU : fX0_isUnder σx (-1 : Int32) (nI t) = some 0 := by
          unfold fX0_isUnder
          obtain ⟨n, hn⟩ : ∃ n, jN = n + 1 := ⟨jN - 1, by have := jN_ge; omega⟩
          rw [hn]
          rfl
        rw [eU, Option.bind_some, if_pos (show jb 0 = 0 by decide)]
        exact ⟨_, rfl, rfl⟩
    · have b' : p2.toInt < 0 ∨ 8 ≤ p2.toInt := by unfold isCh at b; omega
      rw [if_pos (show ¬ ((0 : Int32).toInt ≤ p2.toInt ∧ p2.toInt ≤ (7 : Int32).toInt) by rw [h0, h7]; omega)]
      refine ⟨-1, ?_, rfl⟩
      by_cases c : p2 < 0
      · rw [if_pos c]
      · rw [if_neg c, if_neg (show ¬ p2 < (8 : Int32) by rw [i_lt, h8]; rw [i_lt, h0] at c; omega)]
  · rw [if_pos a, if_pos a]
    exact ⟨_, rfl, rfl⟩
