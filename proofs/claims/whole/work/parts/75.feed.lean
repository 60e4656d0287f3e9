/-! THE LAW: enact and law; feed -/
def rTp (σx σm : jS) : Prop := ∃ W t, tOk W t ∧ (σx.1 7 1 = nI W ∧ ∀ i, i < W → σx.1 8 i = t i) ∧ σm.1 0 20 = nI W ∧ ∀ i, i < W → σm.1 12 i = t i
def rLs (σx σm : jS) (Ls : jLs) : Prop := 1 ≤ Ls.length ∧ Ls.length ≤ 61 ∧ (lFlat Ls).length ≤ 120 ∧ (lnFX Ls).length ≤ 121 ∧ (∀ L ∈ Ls, jLin L) ∧ σx.1 7 6 = nI (lnFX Ls).length ∧ (∀ i, i < (lnFX Ls).length → σx.1 10 i = (lnFX Ls).getD i 0) ∧ ¬ jb (σm.1 0 32) = 0 ∧ σm.1 15 0 = nI Ls.length ∧ (∀ i, i < (lFlat Ls).length → σm.1 13 i = nI ((lFlat Ls).getD i (0, 0)).1 ∧ σm.1 14 i = nI ((lFlat Ls).getD i (0, 0)).2) ∧ ∀ i, i < Ls.length → σm.1 16 i = nI ((lFlat (Ls.take i)).length + (Ls.getD i ([], [])).1.length) ∧ σm.1 17 i = nI (lFlat (Ls.take (i + 1))).length
def rLw (σx σm : jS) : Prop := (σx.1 7 6 = 0 ∧ jb (σm.1 0 32) = 0) ∨ ∃ Ls, rLs σx σm Ls
theorem rTp.go {S S' F' : List Nat} {σx σm σx' σm' : jS} (h : rTp σx σm) (a : xOff S σx σx') (b : mOffI S' F' σm σm') (h1 : 7 ∉ S) (h2 : 8 ∉ S) (h3 : 12 ∉ S') (h4 : 20 ∉ F') : rTp σx' σm' := by
  unfold rTp at *
  rw [a 7 h1, a 8 h2, b.1 12 h3 (by decide), b.2 20 h4]
  exact h
theorem rLw.go {S S' F' : List Nat} {σx σm σx' σm' : jS} (h : rLw σx σm) (a : xOff S σx σx') (b : mOffI S' F' σm σm') (h1 : 7 ∉ S) (h2 : 10 ∉ S) (h3 : ∀ c, 13 ≤ c → c ≤ 17 → c ∉ S') (h4 : 32 ∉ F') : rLw σx' σm' := by
  unfold rLw rLs at *
  rw [a 7 h1, a 10 h2, b.1 13 (h3 13 (by omega) (by omega)) (by decide), b.1 14 (h3 14 (by omega) (by omega)) (by decide), b.1 15 (h3 15 (by omega) (by omega)) (by decide), b.1 16 (h3 16 (by omega) (by omega)) (by decide), b.1 17 (h3 17 (by omega) (by omega)) (by decide), b.2 32 h4]
  exact h
theorem nar_255 : ∀ k, k < 256 → -128 ≤ (vp_nar .byte ((nI k).toInt8.toInt32)).toInt ∧ (vp_nar .byte ((nI k).toInt8.toInt32)).toInt ≤ 127 := by decide +kernel
theorem eq_feed {σx σm : jS} (h : rTp σx σm) (p : Int32) : ∃ r σx' σm', fX11_feed σx p = some (r, σx') ∧ fX12_feed σm p = some (r, σm') ∧ rTp σx' σm' ∧ jOff [7, 8] σx σx' ∧ (∀ k, k ≠ 1 → σx'.1 7 k = σx.1 7 k) ∧ mOff [12] [20] σm σm' := by
  obtain ⟨W, t, hT, ⟨a1, a2⟩, b1, b2⟩ := id h
  have hW := hT.1
  unfold fX11_feed fX12_feed
  rw [sM_in, Option.bind_some]
  simp only [jb_jo]
  have h0 : (0 : Int32).toInt = 0 := rfl
  have h255 : (255 : Int32).toInt = 255 := rfl
  rcases isIn (p := p) (n := 256) (by omega) with ⟨k, hk, rfl⟩ | c
  · have hkT := nI_T (k := k) (by omega)
    rw [if_neg (show ¬ nI k < 0 by rw [i_lt, h0, hkT]; omega), if_pos (show nI k ≤ (255 : Int32) by rw [i_le, h255, hkT]; omega), if_neg (show ¬ ¬ ((0 : Int32).toInt ≤ (nI k).toInt ∧ (nI k).toInt ≤ (255 : Int32).toInt) by rw [h0, h255, hkT]; omega)]
    unfold fX4_write
    rw [a1, b1]
    by_cases d : W = 120
    · subst d
      rw [if_neg (show ¬ nI 120 < (120 : Int32) by decide), if_pos (show nI 120 = (120 : Int32) from rfl)]
      exact ⟨_, _, _, rfl, rfl, h, jOff.rf, fun _ _ => rfl, mOff.rf⟩
    · rw [if_pos (show nI W < (120 : Int32) from (nI_ltI (b := 120) (by omega) (by omega)).mpr (by omega)), if_neg (show ¬ nI W = (120 : Int32) from fun z => d ((nI_eq (b := 120) (by omega) (by omega)).mp z)), ob_nI (by omega) (by omega), ob_nI (by omega) (by omega), nI_cl (by omega), jst_e, jst_e, jst_e, jst_e, ju_n (show (7 : Nat) ≠ 8 by decide), ju_n (show (0 : Nat) ≠ 12 by decide), a1, b1, ju_s, ju_s, nI_1]
      obtain ⟨b, hb⟩ : ∃ b, b = vp_nar .byte ((nI k).toInt8.toInt32) := ⟨_, rfl⟩
      have hb2 := nar_255 k hk
      rw [← hb] at hb2 ⊢
      refine ⟨_, _, _, rfl, rfl, ⟨W + 1, fun i => if i = W then b else t i, ⟨by omega, fun i hi => ?_⟩, ⟨?_, fun i hi => ?_⟩, ?_, fun i hi => ?_⟩, (jOff.u (by simp)).uT (by simp), fun j hj => ?_, (mOff.u (by simp) (by decide)).trans (mOff.f (by simp))⟩
      · by_cases z : i = W
        · simp only [if_pos z]; exact hb2
        · simp only [if_neg z]; exact hT.2 i (by omega)
      · simp [ju_g]
      · by_cases z : i = W
        · simp [ju_g, z]
        · simp [ju_g, z, a2 i (by omega)]
      · simp [ju_g]
      · by_cases z : i = W
        · simp [ju_g, z]
        · simp [ju_g, z, b2 i (by omega)]
      · simp [ju_g, hj]
  · have e2 : ¬ ((0 : Int32).toInt ≤ p.toInt ∧ p.toInt ≤ (255 : Int32).toInt) := by
      rw [h0, h255]
      rcases c with c | c
      · rw [i_lt, h0] at c; omega
      · rw [i_le, show (nI 256).toInt = 256 from rfl] at c; omega
    rw [if_pos e2]
    refine ⟨-1, σx, σm, ?_, rfl, h, jOff.rf, fun _ _ => rfl, mOff.rf⟩
    by_cases c' : p < 0
    · rw [if_pos c']
    · rw [if_neg c', if_neg (show ¬ p ≤ (255 : Int32) by rw [i_le, h255]; rw [i_lt, h0] at c'; omega)]
/-- the class's end of reading -/
noncomputable def eJ (a57 : jS × Int32) : Option (Int32 × jS) := (jlet (fun (a77 : Int32) => (jst (ju a57.1 7 1 (0 : Int32)) fun (σ4 : jS) => (if a77 = 0 then (some (((-100 : Int32) - (σ4.1 7 2)), σ4)) else (ocp (0 : Int32) (0 : Int32) (σ4.1 7 4) 121 121 (jst (jc σ4 10 (va_cpy (σ4.1 9) (σ4.1 10) ((0 : Int32)).toNatClampNeg ((0 : Int32)).toNatClampNeg ((σ4.1 7 4)).toNatClampNeg)) fun (σ5 : jS) => (jst (ju σ5 7 6 (σ5.1 7 4)) fun (σ6 : jS) => (some ((1 : Int32), σ6)))))))) fun (j77 : (Int32 → Option (Int32 × jS))) => (jlet (fun (a76 : Unit) => (j77 (0 : Int32))) fun (j76 : (Unit → Option (Int32 × jS))) => (if a57.2 = 0 then (j76 ()) else (if (a57.1.1 7 2) = (a57.1.1 7 1) then (j77 (1 : Int32)) else (j76 ())))))
theorem eJ_no {W : Nat} {t : Nat → Int32} {σ0 σ : jS} {p : Nat} {D : List Int32} {r : Int32} (hW : W ≤ 120) (h : xS W t σ0 σ p D) (hr : r = 0 ∨ (r = 1 ∧ p < W)) : eJ (σ, r) = some (-100 - nI p, ju σ 7 1 0) := by
  obtain ⟨⟨b1, b2⟩, h1, h2, h3, h4, h5, h6, h7⟩ := h
  have e : eJ (σ, r) = (if r = 0 then some ((-100 : Int32) - ((ju σ 7 1 0).1 7 2), ju σ 7 1 0) else if σ.1 7 2 = σ.1 7 1 then (ocp (0 : Int32) (0 : Int32) ((ju σ 7 1 0).1 7 4) 121 121 (some ((1 : Int32), ju (jc (ju σ 7 1 0) 10 (va_cpy ((ju σ 7 1 0).1 9) ((ju σ 7 1 0).1 10) ((0 : Int32)).toNatClampNeg ((0 : Int32)).toNatClampNeg (((ju σ 7 1 0).1 7 4)).toNatClampNeg)) 7 6 ((jc (ju σ 7 1 0) 10 (va_cpy ((ju σ 7 1 0).1 9) ((ju σ 7 1 0).1 10) ((0 : Int32)).toNatClampNeg ((0 : Int32)).toNatClampNeg (((ju σ 7 1 0).1 7 4)).toNatClampNeg)).1 7 4)))) else some ((-100 : Int32) - ((ju σ 7 1 0).1 7 2), ju σ 7 1 0)) := rfl
  rw [e, ju_i (show (2 : Nat) ≠ 1 by decide), h4, h3 1 (by decide) (by decide), b1]
  rcases hr with hr | ⟨hr, hp⟩
  · rw [if_pos hr]
  · rw [if_neg (show ¬ r = 0 by rw [hr]; decide), if_neg (show ¬ nI p = nI W from fun z => by have := (nI_eq (by omega) (by omega)).mp z; omega)]
theorem eJ_yes {W : Nat} {t : Nat → Int32} {σ0 σ : jS} {D : List Int32} (hW : W ≤ 120) (h : xS W t σ0 σ W D) : ∃ σ', eJ (σ, 1) = some (1, σ') ∧ σ'.1 7 1 = 0 ∧ σ'.1 7 6 = nI D.length ∧ (∀ i, i < D.length → σ'.1 10 i = D.getD i 0) ∧ xOff [7, 9, 10] σ0 σ' ∧ σ'.2 = σ0.2 ∧ ∀ k, k ≠ 1 → k ≠ 2 → k ≠ 4 → k ≠ 6 → σ'.1 7 k = σ0.1 7 k := by
  obtain ⟨⟨b1, b2⟩, h1, h2, h3, h4, h5, h6, h7⟩ := h
  have e : eJ (σ, 1) = (if (1 : Int32) = 0 then some ((-100 : Int32) - ((ju σ 7 1 0).1 7 2), ju σ 7 1 0) else if σ.1 7 2 = σ.1 7 1 then (ocp (0 : Int32) (0 : Int32) ((ju σ 7 1 0).1 7 4) 121 121 (some ((1 : Int32), ju (jc (ju σ 7 1 0) 10 (va_cpy ((ju σ 7 1 0).1 9) ((ju σ 7 1 0).1 10) ((0 : Int32)).toNatClampNeg ((0 : Int32)).toNatClampNeg (((ju σ 7 1 0).1 7 4)).toNatClampNeg)) 7 6 ((jc (ju σ 7 1 0) 10 (va_cpy ((ju σ 7 1 0).1 9) ((ju σ 7 1 0).1 10) ((0 : Int32)).toNatClampNeg ((0 : Int32)).toNatClampNeg (((ju σ 7 1 0).1 7 4)).toNatClampNeg)).1 7 4)))) else some ((-100 : Int32) - ((ju σ 7 1 0).1 7 2), ju σ 7 1 0)) := rfl
  have c0 : (0 : Int32).toNatClampNeg = 0 := rfl
  have nn : ¬ nI D.length < 0 := fun z => by have := (nI_nn (k := D.length) (by omega)).1; rw [i_le] at this; rw [i_lt] at z; omega
  rw [e, if_neg (show ¬ (1 : Int32) = 0 by decide), h4, h3 1 (by decide) (by decide), b1, if_pos rfl, ju_i (show (4 : Nat) ≠ 1 by decide), h5, ju_n (show (9 : Nat) ≠ 7 by decide), ju_n (show (10 : Nat) ≠ 7 by decide)]
  unfold ocp
  rw [c0, nI_cl (by omega), if_neg (show ¬ ((0 : Int32) < 0 ∨ (0 : Int32) < 0 ∨ nI D.length < 0 ∨ ¬ 0 + D.length ≤ 121 ∨ ¬ 0 + D.length ≤ 121) from fun z => by
    rcases z with z | z | z | z | z
    · exact absurd z (by decide)
    · exact absurd z (by decide)
    · exact nn z
    · omega
    · omega), jc_n (show (7 : Nat) ≠ 10 by decide), ju_i (show (4 : Nat) ≠ 1 by decide), h5]
  refine ⟨_, rfl, ?_, ?_, fun i hi => ?_, fun c hc => ?_, ?_, fun k k1 k2 k3 k4 => ?_⟩
  · rw [ju_i (by decide), jc_n (by decide), ju_s]
  · rw [ju_s]
  · rw [ju_n (by decide), jc_s, pk_cpy_in (by omega) (by omega)]
    rw [show 0 + (i - 0) = i by omega]
    exact h7 i hi
  · have c7 : c ≠ 7 := fun z => hc (by simp [z])
    have c9 : c ≠ 9 := fun z => hc (by simp [z])
    have c10 : c ≠ 10 := fun z => hc (by simp [z])
    rw [ju_n c7, jc_n c10, ju_n c7]
    exact h1 c c7 c9
  · exact h2
  · rw [ju_i k4, jc_n (by decide), ju_i k1]
    exact h3 k k2 k3
theorem cpS {F G : Nat → Int32} {v : Int32} {i N B : Nat} (hB : N ≤ B) (hi : i < N) (hF : ∀ j, G j = if j = i then v else F j) (hv : v = F (B + i)) (j : Nat) : (if i + 1 ≤ j ∧ j < N then G (B + j) else G j) = if i ≤ j ∧ j < N then F (B + j) else F j := by
  by_cases z : i + 1 ≤ j ∧ j < N
  · rw [if_pos z, if_pos (by omega), hF, if_neg (by omega)]
  · rw [if_neg z, hF]
    by_cases y : j = i
    · rw [if_pos y, if_pos (by omega), hv, y]
    · rw [if_neg y, if_neg (by omega)]
/-- the reference's copies -/
theorem nar_b2 {o : Nat} (h : o < 128) : vp_nar .byte (nI o) = nI o := by
  have : ∀ o, o < 128 → vp_nar .byte (nI o) = nI o := by decide +kernel
  exact this o h
theorem nar_s2 {o : Nat} (h : o < 200) : vp_nar .short (nI o) = nI o := by
  have : ∀ o, o < 200 → vp_nar .short (nI o) = nI o := by decide +kernel
  exact this o h
theorem mCp1 {j163 : jS → Option (Int32 × jS)} {N : Nat} (hN : N ≤ 130) : ∀ (n i f : Nat) (σ : jS), i + n = N → n < f → σ.1 0 24 = nI N → (∀ j, j < N → ∃ a, a < 128 ∧ σ.1 13 (130 + j) = nI a) → ∃ σ', jloop (fX12_readText_B105 (0 : Int32) j163) f (σ, nI i) = j163 σ' ∧ (∀ c, c ≠ 13 → c ≠ 14 → σ'.1 c = σ.1 c) ∧ σ'.2 = σ.2 ∧ ∀ j, σ'.1 13 j = (if i ≤ j ∧ j < N then σ.1 13 (130 + j) else σ.1 13 j) ∧ σ'.1 14 j = (if i ≤ j ∧ j < N then σ.1 14 (130 + j) else σ.1 14 j) := by
  intro n
  induction n with
  | zero =>
    intro i f σ hi hf h24 ha
    obtain ⟨f, rfl⟩ : ∃ g, f = g + 1 := ⟨f - 1, by omega⟩
    rw [jloop_s]
    unfold fX12_readText_B105
    rw [h24, if_pos ((nI_leI (by omega) (by omega)).mpr (by omega))]
    exact ⟨σ, rfl, fun _ _ _ => rfl, rfl, fun j => ⟨by rw [if_neg (by omega)], by rw [if_neg (by omega)]⟩⟩
  | succ n ih =>
    intro i f σ hi hf h24 ha
    obtain ⟨f, rfl⟩ : ∃ g, f = g + 1 := ⟨f - 1, by omega⟩
    obtain ⟨K, hK⟩ : ∃ K, K = jloop (fX12_readText_B105 (0 : Int32) j163) f := ⟨_, rfl⟩
    have ih' := ih (i + 1) f
    rw [jloop_s]
    rw [← hK] at ih' ⊢
    unfold fX12_readText_B105
    obtain ⟨a, ha1, ha2⟩ := ha i (by omega)
    have e1 : (130 : Int32) + nI i = nI (130 + i) := by show nI 130 + nI i = _; rw [nI_add]
    have e2 : (130 : Int32) * 0 + nI i = nI i := by show nI 130 * nI 0 + nI i = _; rw [pk_mul, nI_add, Nat.mul_zero, Nat.zero_add]
    simp only [e1, e2]
    rw [h24, if_neg (show ¬ nI N ≤ nI i from fun z => by have := (nI_leI (by omega) (by omega)).mp z; omega), ob_nI (by omega) (by omega), ob_nI (by omega) (by omega), nI_cl (by omega), nI_cl (by omega), jst_e, ha2, nar_b2 ha1, ob_nI (by omega) (by omega), ob_nI (by omega) (by omega), jst_e, nI_1, ju_n (show (14 : Nat) ≠ 13 by decide)]
    obtain ⟨σ', f1, f2, f3, f4⟩ := ih' (ju (ju σ 13 i (nI a)) 14 i (σ.1 14 (130 + i))) (by omega) (by omega) (by rw [ju_n (by decide), ju_n (by decide)]; exact h24) (fun j hj => by
      rw [ju_n (by decide), ju_i (by omega)]; exact ha j hj)
    refine ⟨σ', f1, fun c c1 c2 => by rw [f2 c c1 c2, ju_n c2, ju_n c1], f3, fun j => ⟨?_, ?_⟩⟩
    · exact (f4 j).1.trans (cpS (F := σ.1 13) (v := nI a) hN (by omega) (fun j => by rw [ju_n (by decide), ju_r]) ha2.symm j)
    · exact (f4 j).2.trans (cpS (F := σ.1 14) (v := σ.1 14 (130 + i)) hN (by omega) (fun j => by rw [ju_r, ju_n (by decide)]) rfl j)
theorem mCp2 {N : Nat} (hN : N ≤ 61) : ∀ (n i f : Nat) (σ : jS), i + n = N → n < f → σ.1 15 0 = nI N → (∀ j, j < N → (∃ a, a < 200 ∧ σ.1 16 (61 + j) = nI a) ∧ ∃ a, a < 200 ∧ σ.1 17 (61 + j) = nI a) → ∃ σ', jloop (fX12_readText_B177 (0 : Int32)) f (σ, nI i) = some (-1, σ') ∧ (∀ c, c ≠ 16 → c ≠ 17 → σ'.1 c = σ.1 c) ∧ σ'.2 = σ.2 ∧ ∀ j, σ'.1 16 j = (if i ≤ j ∧ j < N then σ.1 16 (61 + j) else σ.1 16 j) ∧ σ'.1 17 j = (if i ≤ j ∧ j < N then σ.1 17 (61 + j) else σ.1 17 j) := by
  have c0 : (0 : Int32).toNatClampNeg = 0 := rfl
  have o1 : ∀ {ρ : Type} {o : Option ρ}, ob (0 : Int32) 2 o = o := fun {ρ o} => ob_c 0 2 rfl (by omega) (by omega)
  intro n
  induction n with
  | zero =>
    intro i f σ hi hf h24 ha
    obtain ⟨f, rfl⟩ : ∃ g, f = g + 1 := ⟨f - 1, by omega⟩
    rw [jloop_s]
    unfold fX12_readText_B177
    rw [o1, c0, h24, if_pos ((nI_leI (by omega) (by omega)).mpr (by omega))]
    exact ⟨σ, rfl, fun _ _ _ => rfl, rfl, fun j => ⟨by rw [if_neg (by omega)], by rw [if_neg (by omega)]⟩⟩
  | succ n ih =>
    intro i f σ hi hf h24 ha
    obtain ⟨f, rfl⟩ : ∃ g, f = g + 1 := ⟨f - 1, by omega⟩
    obtain ⟨K, hK⟩ : ∃ K, K = jloop (fX12_readText_B177 (0 : Int32)) f := ⟨_, rfl⟩
    have ih' := ih (i + 1) f
    rw [jloop_s]
    rw [← hK] at ih' ⊢
    unfold fX12_readText_B177
    obtain ⟨⟨a, ha1, ha2⟩, b, hb1, hb2⟩ := ha i (by omega)
    have e1 : (61 : Int32) + nI i = nI (61 + i) := by show nI 61 + nI i = _; rw [nI_add]
    have e2 : (61 : Int32) * 0 + nI i = nI i := by show nI 61 * nI 0 + nI i = _; rw [pk_mul, nI_add, Nat.mul_zero, Nat.zero_add]
    simp only [e1, e2]
    rw [o1, c0, h24, if_neg (show ¬ nI N ≤ nI i from fun z => by have := (nI_leI (by omega) (by omega)).mp z; omega), ob_nI (by omega) (by omega), ob_nI (by omega) (by omega), nI_cl (by omega), nI_cl (by omega), jst_e, ha2, nar_s2 ha1, ob_nI (by omega) (by omega), ob_nI (by omega) (by omega), jst_e, nI_1, ju_n (show (17 : Nat) ≠ 16 by decide), hb2, nar_s2 hb1]
    obtain ⟨σ', f1, f2, f3, f4⟩ := ih' (ju (ju σ 16 i (nI a)) 17 i (nI b)) (by omega) (by omega) (by rw [ju_n (by decide), ju_n (by decide)]; exact h24) (fun j hj => by
      rw [ju_n (by decide), ju_i (by omega), ju_i (by omega), ju_n (by decide)]; exact ha j hj)
    refine ⟨σ', f1, fun c c1 c2 => by rw [f2 c c1 c2, ju_n c2, ju_n c1], f3, fun j => ⟨?_, ?_⟩⟩
    · exact (f4 j).1.trans (cpS (F := σ.1 16) (v := nI a) hN (by omega) (fun j => by rw [ju_n (by decide), ju_r]) ha2.symm j)
    · exact (f4 j).2.trans (cpS (F := σ.1 17) (v := nI b) hN (by omega) (fun j => by rw [ju_r, ju_n (by decide)]) hb2.symm j)
