/-! THE LAW: the call law of both sides -/
theorem mO.start {W : Nat} {t : Nat → Int32} {σ : jS} (b : σ.1 0 20 = nI W ∧ ∀ i, i < W → σ.1 12 i = t i) : ∃ e, mO W t σ (ju (ju (ju (ju (ju σ 0 21 0) 0 22 (-1)) 0 23 0) 0 24 0) 15 1 0) 0 [] (lFlat []) e := by
  refine ⟨_, ((((((mFr.rf b).g (c := 0) (i := 21) (by omega)).g (c := 0) (i := 22) (by omega)).g (c := 0) (i := 23) (by omega)).g (c := 0) (i := 24) (by omega)).g (c := 15) (i := 1) (by omega)), ?_, ?_, ?_, ?_, fun i hi => absurd hi (by simp [lFlat]), ?_, fun i hi => absurd hi (by simp), rfl⟩
  · simp [ju_g]; rfl
  · simp [ju_g]
  · simp [ju_g]; rfl
  · simp [ju_g, lFlat]; rfl
  · simp [ju_g]; rfl
theorem xS.start {W : Nat} {t : Nat → Int32} {σ : jS} (b : σ.1 7 1 = nI W ∧ ∀ i, i < W → σ.1 8 i = t i) : xS W t σ (ju (ju σ 7 2 0) 7 4 0) 0 [] := by
  refine ⟨b, fun c c1 c2 => ?_, rfl, fun k k1 k2 => ?_, ?_, ?_, by simp, fun i hi => absurd hi (by simp)⟩
  · rw [ju_n c1, ju_n c1]
  · rw [ju_i k2, ju_i k1]
  · rw [ju_i (by decide), ju_s]; rfl
  · rw [ju_s]; rfl
theorem law_X (σ : jS) : fX11_law σ = Option.bind (Option.bind (fX4_readLine (ju (ju σ 7 2 0) 7 4 0)) (fun q3 => jloop (fX4_enact_B17 eJ) jN (q3.2, (jb q3.1), (1 : Int32)))) (fun q1 => some (q1.1, q1.2)) := rfl
theorem law_M (σ : jS) : fX12_law σ = Option.bind (Option.bind (fX12_line (ju (ju (ju (ju (ju σ 0 21 0) 0 22 (-1)) 0 23 0) 0 24 0) 15 1 0)) (fun q6 => jloop (fX12_readText_B31 mJf) jN q6)) (fun q1 => if q1.1 < 0 then some ((1 : Int32), ju q1.2 0 32 1) else some (((-100 : Int32) - q1.1), q1.2)) := by
  have o1 : ∀ {ρ : Type} {o : Option ρ}, ob (1 : Int32) 2 o = o := fun {ρ o} => ob_c 1 2 rfl (by omega) (by omega)
  have e : fX12_law σ = Option.bind (ob (1 : Int32) 2 (Option.bind (fX12_line (ju (ju (ju (ju (ju σ 0 21 0) 0 22 (-1)) 0 23 0) 0 24 0) 15 1 0)) (fun q6 => jloop (fX12_readText_B31 mJf) jN q6))) (fun q1 => if q1.1 < 0 then some ((1 : Int32), ju q1.2 0 32 1) else some (((-100 : Int32) - q1.1), q1.2)) := rfl
  rw [e, o1]
theorem eq_law {σx σm : jS} (hT : rTp σx σm) (hL : rLw σx σm) : ∃ r σx' σm', fX11_law σx = some (r, σx') ∧ fX12_law σm = some (r, σm') ∧ rTp σx' σm' ∧ rLw σx' σm' ∧ xOff [7, 9, 10] σx σx' ∧ σx'.2 = σx.2 ∧ mOffI [13, 14, 15, 16, 17] [20, 21, 22, 23, 24, 32] σm σm' ∧ σm'.2 = σm.2 := by
  obtain ⟨W, t, hT, bx, bm⟩ := hT
  have hW := hT.1
  have hN : 6000 ≤ jN := jN_ge
  rw [law_X, law_M]
  have tOk0 : tOk 0 t := ⟨by omega, fun i hi => by omega⟩
  obtain ⟨e0, m0⟩ := mO.start bm
  have x0 := xS.start bx
  -- a text that does not fit
  have no : ∀ p σx1 σm1 D r, p ≤ W → xS W t σx σx1 p D → (r = 0 ∨ (r = 1 ∧ p < W)) → (mX W t σm σm1 p ∨ (p < W ∧ ∃ Ls' D' e', mO W t σm σm1 p Ls' D' e')) → ∃ r' σx' σm', Option.bind (eJ (σx1, r)) (fun q1 => some (q1.1, q1.2)) = some (r', σx') ∧ Option.bind (mJf σm1) (fun q1 => if q1.1 < 0 then some ((1 : Int32), ju q1.2 0 32 1) else some (((-100 : Int32) - q1.1), q1.2)) = some (r', σm') ∧ rTp σx' σm' ∧ rLw σx' σm' ∧ xOff [7, 9, 10] σx σx' ∧ σx'.2 = σx.2 ∧ mOffI [13, 14, 15, 16, 17] [20, 21, 22, 23, 24, 32] σm σm' ∧ σm'.2 = σm.2 := by
    intro p σx1 σm1 D r hp hx hr hm
    obtain ⟨σm2, e2, f2⟩ := mJ_no hW hp hm
    rw [eJ_no hW hx hr, e2, Option.bind_some, Option.bind_some, if_neg (show ¬ nI p < 0 from fun z => by have := nn_p hp hW; rw [i_le] at this; rw [i_lt] at z; omega)]
    obtain ⟨b, h1, h2, h3, h4, h5, h6⟩ := f2
    obtain ⟨c, g1, g2, g3, g4⟩ := hx
    refine ⟨_, _, _, rfl, rfl, ⟨0, t, tOk0, ⟨?_, fun i hi => by omega⟩, ?_, fun i hi => by omega⟩, hL.cp ?_ ?_ ?_ ?_ (fun i hi => ?_) (fun i hi => ?_), fun c hc => ?_, g2, ⟨fun c hc hc0 => ?_, fun k hk => ?_⟩, h2⟩
    · show (ju σx1 7 1 0).1 7 1 = nI 0
      rw [ju_s]; rfl
    · rw [ju_s]; rfl
    · show (ju σx1 7 1 0).1 7 6 = _
      rw [ju_i (by decide)]; exact g3 6 (by decide) (by decide)
    · show (ju σx1 7 1 0).1 10 = _
      rw [ju_n (by decide)]; exact g1 10 (by decide) (by decide)
    · rw [ju_i (by decide)]; exact h3 32 (by omega)
    · rw [ju_n (by decide)]; exact h6
    · rw [ju_n (by decide), ju_n (by decide)]; exact h4 i hi
    · rw [ju_n (by decide), ju_n (by decide)]; exact h5 i hi
    · have c7 : c ≠ 7 := fun z => hc (by simp [z])
      show (ju σx1 7 1 0).1 c = _
      rw [ju_n c7]; exact g1 c c7 (fun z => hc (by simp [z]))
    · rw [ju_n hc0]
      refine h1 c hc0 ?_
      simp only [List.mem_cons, List.not_mem_nil, or_false] at hc
      omega
    · simp only [List.mem_cons, List.not_mem_nil, or_false] at hk
      rw [ju_i (by omega)]
      exact h3 k (by omega)
  obtain ⟨p1, r1, r2, r3⟩ := r_line hT (show 0 ≤ W by omega)
  rcases r3 with ⟨L, y1, y2, y3, y4, y5, y6⟩ | ⟨y5, y6⟩
  · obtain ⟨σx1, e1, e2⟩ := y5 _ _ _ (by simp) x0
    obtain ⟨σm1, e3, f1, f2⟩ := y6 _ _ _ _ (by simp [lFlat]) (by simp) m0
    rw [List.nil_append] at e2 f2
    have eX1 : lnFX [L] = lnXs L := by simp [lnFX]
    have eF1 : lFlat [L] = L.1 ++ L.2 := by simp [lFlat]
    rw [e1, f1, Option.bind_some, Option.bind_some, show jb (1 : Int32) = 1 from by decide]
    obtain ⟨p', s1, s2⟩ := r_text hT W p1 1 [L] (by omega) r2 (by omega) (by simp only [List.length_singleton]; omega) (by rw [eF1]; omega) (by rw [eX1]; omega) (fun M hM => by rw [List.mem_singleton.mp hM]; exact y1)
    rcases s2 with ⟨rfl, Ls', z1, z1', z2, z3, z4, z5, z6⟩ | ⟨z5, z6⟩
    · obtain ⟨σx2, g1, g2⟩ := z5 σx σx1 eJ jN (by omega) (by rw [eX1]; exact e2)
      obtain ⟨σm2, e4, g3, g4⟩ := z6 σm σm1 e3 mJf jN (by omega) f2
      obtain ⟨X, i1, i2, i3, i4, i5, i6, i7⟩ := eJ_yes hW g2
      obtain ⟨M, j1, j2, j3, j4, j5, j6, j7⟩ := mJ_yes hW (by omega) (by omega) z4 g4
      rw [show (1 : Int32) = nI 1 from rfl] at g1 ⊢
      rw [show jloop (fX4_enact_B17 eJ) jN (σx1, nI 1, nI 1) = eJ (σx2, nI 1) from g1, g3, show eJ (σx2, nI 1) = some (1, X) from i1, j1, Option.bind_some, Option.bind_some, if_pos (show (-1 : Int32) < 0 by decide)]
      refine ⟨1, X, _, rfl, rfl, ⟨0, t, tOk0, ⟨i2, fun i hi => by omega⟩, ?_, fun i hi => by omega⟩, Or.inr ⟨Ls', by simp only [List.length_singleton] at z1'; omega, by omega, by omega, by omega, z4, i3, i4, ?_, ?_, fun i hi => ?_, fun i hi => ?_⟩, i5, i6, ⟨fun c hc hc0 => ?_, fun k hk => ?_⟩, ?_⟩
      · rw [ju_i (by decide), j2]; rfl
      · rw [ju_s]; decide
      · rw [ju_n (by decide)]; exact j3
      · rw [ju_n (by decide), ju_n (by decide)]; exact j4 i hi
      · rw [ju_n (by decide), ju_n (by decide)]; exact j5 i hi
      · rw [ju_n hc0]; exact j6.1 c hc hc0
      · simp only [List.mem_cons, List.not_mem_nil, or_false] at hk
        rw [ju_i (by omega)]
        exact j6.2 k (by simp; omega)
      · rw [ju_2]; exact j7
    · obtain ⟨r, σx2, D2, g1, g2, g3⟩ := z5 σx σx1 eJ jN (by omega) (by rw [eX1]; exact e2)
      obtain ⟨σm2, g4, g5⟩ := z6 σm σm1 e3 mJf jN (by omega) f2
      rw [show jloop (fX4_enact_B17 eJ) jN (σx1, (1 : Int32), (1 : Int32)) = eJ (σx2, r) from g1, g4]
      exact no p' σx2 σm2 D2 r s1 g3 g2 g5
  · obtain ⟨r, σx1, D1, e1, e2, e3⟩ := y5 _ _ _ (by simp) x0
    obtain ⟨σm1, f1, f2⟩ := y6 _ _ _ _ (by simp [lFlat]) (by simp) m0
    rw [e1, f1, Option.bind_some, Option.bind_some]
    obtain ⟨n, hn⟩ : ∃ n, jN = n + 1 := ⟨jN - 1, by omega⟩
    have eM : jloop (fX12_readText_B31 mJf) jN σm1 = mJf σm1 := by
      rw [hn, jloop_s]
      unfold fX12_readText_B31
      rw [f2.2.1, if_pos (nn_p r2 hW)]
    have eX : jloop (fX4_enact_B17 eJ) jN (σx1, jb r, (1 : Int32)) = eJ (σx1, r) := by
      rw [hn, jloop_s]
      unfold fX4_enact_B17
      rw [if_neg (show ¬ (120 : Int32) ≤ 1 by decide)]
      rcases e2 with rfl | ⟨rfl, hd⟩
      · rw [show jb (0 : Int32) = 0 from by decide, if_pos rfl]
      · obtain ⟨v, e4, e5⟩ := sX4_letter hT e3 r2
        rw [show jb (1 : Int32) = 1 from by decide, if_neg (show ¬ (1 : Int32) = 0 by decide), e4, Option.bind_some, if_neg (show ¬ v = (59 : Int32) by rw [show (v = (59 : Int32)) = (cL W t p1 = 59) from e5.is 59 (by omega)]; omega)]
    rw [eM]
    rw [show jloop (fX4_enact_B17 eJ) jN ((r, σx1).2, jb (r, σx1).1, (1 : Int32)) = eJ (σx1, r) from eX]
    refine no p1 σx1 σm1 D1 r r2 e3 ?_ (Or.inl f2)
    rcases e2 with h | ⟨h, hd⟩
    · exact Or.inl h
    · exact Or.inr ⟨h, cL_lt (t := t) (fun z => by omega)⟩
