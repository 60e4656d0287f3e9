/-! SHELVES: keep, row, put, element, shift, taken of both sides -/
theorem rS.upd {σx σm σx' σm' : jS} {nb s0 : Nat} (h : rS σx σm nb) (a : ∀ s, s < 6 → s ≠ s0 → σx'.1 45 s = σx.1 45 s ∧ σx'.1 46 s = σx.1 46 s ∧ σx'.1 47 s = σx.1 47 s ∧ σx'.1 48 s = σx.1 48 s ∧ σm'.1 31 s = σm.1 31 s ∧ σm'.1 32 s = σm.1 32 s ∧ ∀ i, i < 60 → σx'.2 49 (60 * s + i) = σx.2 49 (60 * s + i) ∧ σm'.2 33 (60 * s + i) = σm.2 33 (60 * s + i)) (b : shR σx' σm' nb s0) : rS σx' σm' nb := by
  refine ⟨h.1, fun s hs => ?_⟩
  by_cases e : s = s0
  · subst e; exact b
  · obtain ⟨a1, a2, a3, a4, a5, a6, a7⟩ := a s hs e
    have q := h.2 s hs
    unfold shR at *
    rw [a1, a2, a3, a4, a5, a6]
    rcases q with q | q | ⟨k, n, q1, q2, q3, q4, q5, q6, q7, q8⟩
    · exact Or.inl q
    · exact Or.inr (Or.inl q)
    · exact Or.inr (Or.inr ⟨k, n, q1, q2, q3, q4, q5, q6, q7, fun i hi => by rw [(a7 i (by omega)).1, (a7 i (by omega)).2]; exact q8 i hi⟩)
/-- frames on ints only -/
def xOff (S : List Nat) (σ σ' : jS) : Prop := ∀ c, c ∉ S → σ'.1 c = σ.1 c
theorem xOff.rf {S : List Nat} {σ : jS} : xOff S σ σ := fun _ _ => rfl
theorem sX0_isBody {σx σm : jS} {nb : Nat} (h : rB σx σm nb) (p : Int32) : fX0_isBody σx p = some (jo (isCh nb p)) := by
  unfold fX0_isBody
  have h0 := h.1
  rw [h.2.1]
  have h00 : (0 : Int32).toInt = 0 := rfl
  simp only [i_lt, i_le, nI_T (show nb < 2 ^ 31 by omega), h00]
  by_cases a : p.toInt < 0
  · rw [if_pos a, jo_0 (fun q => by omega)]
  · rw [if_neg a]
    by_cases b : (nb : Int) ≤ p.toInt
    · rw [if_pos b, jo_0 (fun q => by omega)]
    · rw [if_neg b, jo_1 ⟨by omega, by omega⟩]
theorem sM_isBody {σx σm : jS} {nb : Nat} (h : rB σx σm nb) (p : Int32) : fX12_isBody σm p = some (jo (isCh nb p)) := by
  unfold fX12_isBody
  have h0 := h.1
  rw [h.2.2.1, sM_in, Option.bind_some]
  congr 1
  refine jo_eq ?_
  have h1 : (1 : Int32).toInt = 1 := rfl
  have h00 : (0 : Int32).toInt = 0 := rfl
  rw [i_sub (by rw [nI_T (by omega)]; omega) (by rw [nI_T (by omega)]; omega), nI_T (by omega)]
  unfold isCh; omega
theorem isCh_of {n : Nat} {p : Int32} (h : isCh n p) : ∃ k, k < n ∧ p = nI k := isCh_nat h
theorem nI_nn {k : Nat} (hk : k < 2 ^ 31) : 0 ≤ nI k ∧ ¬ nI k = -1 := by
  constructor
  · rw [i_le, nI_T hk]; have : (0 : Int32).toInt = 0 := rfl; omega
  · intro z
    have := congrArg Int32.toInt z
    rw [nI_T hk, show (-1 : Int32).toInt = -1 from rfl] at this
    omega
theorem eq_keep {σx σm : jS} {nb : Nat} (h : rS σx σm nb) (hb : rB σx σm nb) (p1 p2 : Int32) : ∃ r σx' σm', fX11_keep σx p1 p2 = some (r, σx') ∧ fX12_keep σm p1 p2 = some (r, σm') ∧ rS σx' σm' nb ∧ jOff [45, 46] σx σx' ∧ mOff [31] [] σm σm' := by
  unfold fX11_keep fX12_keep
  rw [sX9_isShelf, sM_isShelf, Option.bind_some, Option.bind_some]
  simp only [jb_jo, sX0_isBody hb, sM_isBody hb, Option.bind_some]
  by_cases a : isCh 6 p1
  · rw [if_neg (fun z => z a), if_neg (fun z => z a)]
    obtain ⟨s, hs, rfl⟩ := isCh_of a
    have go : (p2 = -1 ∨ ∃ b, b < nb ∧ p2 = nI b) → ∃ σx' σm', fX9_hold σx (nI s) p2 = some σx' ∧ (ob (nI s) 6 (jst (ju σm 31 (nI s).toNatClampNeg p2) fun (σ2 : jS) => (some ((1 : Int32), σ2)))) = some (1, σm') ∧ rS σx' σm' nb ∧ jOff [45, 46] σx σx' ∧ mOff [31] [] σm σm' := by
      intro hp
      unfold fX9_hold
      rw [sX9_isShelf, Option.bind_some]
      simp only [jb_jo]
      rw [if_neg (fun z => z a), ob_nI hs (by omega), nI_cl (by omega), jlet_e]
      simp only [ob_nI hs (show 6 < 2 ^ 31 by omega), jst_e]
      refine ⟨ju (ju σx 45 s (if 0 ≤ p2 then 1 else 0)) 46 s p2, ju σm 31 s p2, ?_, rfl, h.upd (s0 := s) (fun t ht hne => ⟨?_, ?_, ?_, ?_, ?_, ?_, fun i hi => ⟨rfl, rfl⟩⟩) ?_, (jOff.u (by simp)).uT (by simp), mOff.u (by simp) (by decide)⟩
      · by_cases c : 0 ≤ p2
        · rw [if_pos c, if_pos c]
        · rw [if_neg c, if_neg c]
      · simp [ju_g, hne]
      · simp [ju_g, hne]
      · simp [ju_g]
      · simp [ju_g]
      · simp [ju_g, hne]
      · simp [ju_g]
      · rcases hp with rfl | ⟨b, hb1, rfl⟩
        · refine Or.inl ⟨?_, ?_⟩
          · rw [if_neg (by decide)]; simp [ju_g]
          · simp [ju_g]
        · have h1 := h.1
          refine Or.inr (Or.inl ⟨b, hb1, ?_, ?_, ?_⟩)
          · rw [if_pos (nI_nn (by omega)).1]; simp [ju_g]
          · simp [ju_g]
          · simp [ju_g]
    by_cases b : p2 = -1
    · obtain ⟨X, Y, e1, e2, e3⟩ := go (Or.inl b)
      rw [jlet_e, jlet_e, if_pos b, if_pos b, e1, e2]
      exact ⟨1, X, Y, rfl, rfl, e3⟩
    · rw [jlet_e, jlet_e, if_neg b, if_neg b]
      by_cases c : isCh nb p2
      · obtain ⟨X, Y, e1, e2, e3⟩ := go (Or.inr (isCh_of c))
        rw [if_neg (fun z => z c), if_neg (fun z => z c), e1, e2]
        exact ⟨1, X, Y, rfl, rfl, e3⟩
      · rw [if_pos c, if_pos c]
        exact ⟨-1, _, _, rfl, rfl, h, jOff.rf, mOff.rf⟩
  · rw [if_pos a, if_pos a]
    exact ⟨-1, _, _, rfl, rfl, h, jOff.rf, mOff.rf⟩
theorem sX_fillL {v : Int64} : ∀ (n i e f : Nat) (σ : jS), i + n = e → e ≤ 360 → n < f → ∃ σ', jloop (fJ7_fillL_B10 (nI e) v) f (σ, nI i) = some σ' ∧ σ'.1 = σ.1 ∧ ∀ j, σ'.2 49 j = if i ≤ j ∧ j < e then v else σ.2 49 j := by
  intro n
  induction n with
  | zero =>
    intro i e f σ hi he hf
    obtain ⟨f, rfl⟩ : ∃ g, f = g + 1 := ⟨f - 1, by omega⟩
    rw [jloop_s]
    unfold fJ7_fillL_B10
    rw [if_pos ((nI_leI (by omega) (by omega)).mpr (by omega))]
    exact ⟨σ, rfl, rfl, fun j => by rw [if_neg (by omega)]⟩
  | succ n ih =>
    intro i e f σ hi he hf
    obtain ⟨f, rfl⟩ : ∃ g, f = g + 1 := ⟨f - 1, by omega⟩
    rw [jloop_s]
    unfold fJ7_fillL_B10
    rw [if_neg (show ¬ nI e ≤ nI i from fun z => by have := (nI_leI (by omega) (by omega)).mp z; omega), ob_nI (by omega) (by omega), nI_cl (by omega), jst_e, nI_1]
    obtain ⟨σ', e1, e2, e3⟩ := ih (i + 1) e f (jul σ 49 i v) (by omega) he (by omega)
    refine ⟨σ', e1, e2, fun j => ?_⟩
    rw [e3 j]
    by_cases c : j = i
    · subst c
      rw [if_neg (by omega), if_pos (by omega), jul_s]
    · rw [jul_i c]
      by_cases d : i ≤ j ∧ j < e
      · rw [if_pos d, if_pos (by omega)]
      · rw [if_neg d, if_neg (by omega)]
theorem sM_rowL {p1 : Int32} : ∀ (n i e f : Nat) (σ : jS), i + n = e → e ≤ 360 → n < f → (60 : Int32) * p1 + 60 = nI e → ∃ σ', jloop (fX12_row_B54 p1) f (σ, nI i) = some (1, σ') ∧ σ'.1 = σ.1 ∧ ∀ j, σ'.2 33 j = if i ≤ j ∧ j < e then 0 else σ.2 33 j := by
  intro n
  induction n with
  | zero =>
    intro i e f σ hi he hf hp
    obtain ⟨f, rfl⟩ : ∃ g, f = g + 1 := ⟨f - 1, by omega⟩
    have e0 : ∀ s54 a, fX12_row_B54 p1 s54 a = (if nI e ≤ a.2 then (some ((1 : Int32), a.1)) else (ob a.2 360 (jst (jul a.1 33 (a.2).toNatClampNeg (0 : Int64)) fun (σ5 : jS) => (s54 (σ5, (a.2 + (1 : Int32))))))) := by
      intro s54 a
      unfold fX12_row_B54
      rw [hp]
    rw [jloop_s, e0]
    rw [if_pos ((nI_leI (by omega) (by omega)).mpr (by omega))]
    exact ⟨σ, rfl, rfl, fun j => by rw [if_neg (by omega)]⟩
  | succ n ih =>
    intro i e f σ hi he hf hp
    obtain ⟨f, rfl⟩ : ∃ g, f = g + 1 := ⟨f - 1, by omega⟩
    have e0 : ∀ s54 a, fX12_row_B54 p1 s54 a = (if nI e ≤ a.2 then (some ((1 : Int32), a.1)) else (ob a.2 360 (jst (jul a.1 33 (a.2).toNatClampNeg (0 : Int64)) fun (σ5 : jS) => (s54 (σ5, (a.2 + (1 : Int32))))))) := by
      intro s54 a
      unfold fX12_row_B54
      rw [hp]
    rw [jloop_s, e0]
    rw [if_neg (show ¬ nI e ≤ nI i from fun z => by have := (nI_leI (by omega) (by omega)).mp z; omega), ob_nI (by omega) (by omega), nI_cl (by omega), jst_e, nI_1]
    obtain ⟨σ', e1, e2, e3⟩ := ih (i + 1) e f (jul σ 33 i 0) (by omega) he (by omega) hp
    refine ⟨σ', e1, e2, fun j => ?_⟩
    rw [e3 j]
    by_cases c : j = i
    · subst c
      rw [if_neg (by omega), if_pos (by omega), jul_s]
    · rw [jul_i c]
      by_cases d : i ≤ j ∧ j < e
      · rw [if_pos d, if_pos (by omega)]
      · rw [if_neg d, if_neg (by omega)]
def mOffI (S F : List Nat) (σ σ' : jS) : Prop := (∀ c, c ∉ S → c ≠ 0 → σ'.1 c = σ.1 c) ∧ (∀ k, k ∉ F → σ'.1 0 k = σ.1 0 k)
theorem mOffI.rf {S F : List Nat} {σ : jS} : mOffI S F σ σ := ⟨fun _ _ _ => rfl, fun _ _ => rfl⟩
theorem mOff.i {S F : List Nat} {σ σ' : jS} (h : mOff S F σ σ') : mOffI S F σ σ' := ⟨h.1, h.2.1⟩
theorem jOff.i {S : List Nat} {σ σ' : jS} (h : jOff S σ σ') : xOff S σ σ' := h.1
theorem eq_row {σx σm : jS} {nb : Nat} (h : rS σx σm nb) (p1 p2 p3 : Int32) : ∃ r σx' σm', fX11_row σx p1 p2 p3 = some (r, σx') ∧ fX12_row σm p1 p2 p3 = some (r, σm') ∧ rS σx' σm' nb ∧ xOff [45, 47, 48] σx σx' ∧ mOffI [31, 32] [] σm σm' := by
  unfold fX11_row fX12_row
  rw [sX9_isShelf, sM_isShelf, sM_in, Option.bind_some, Option.bind_some]
  simp only [jb_jo, Option.bind_some]
  have h5 : (4 : Int32).toInt = 4 := rfl
  have h0 : (0 : Int32).toInt = 0 := rfl
  have h6 : (5 : Int32).toInt = 5 := rfl
  by_cases a : isCh 6 p1
  · rw [if_neg (fun (z : ¬ isCh 6 p1) => z a), if_neg (fun (z : ¬ isCh 6 p1) => z a)]
    obtain ⟨s, hs, rfl⟩ := isCh_of a
    by_cases b : isCh 5 p2
    · obtain ⟨k, hk, rfl⟩ := isCh_of b
      have hkT := nI_T (k := k) (by omega)
      rw [if_neg (show ¬ nI k < 0 by rw [i_lt, h0, hkT]; omega), if_neg (show ¬ (5 : Int32) ≤ nI k by rw [i_le, h6, hkT]; omega)]
      rw [if_neg (show ¬ ¬ ((0 : Int32).toInt ≤ (nI k).toInt ∧ (nI k).toInt ≤ (4 : Int32).toInt) by rw [hkT, h0, h5]; omega)]
      by_cases c : p3 ≤ (60 : Int32)
      · rw [if_pos c, if_pos c]
        by_cases d : 0 ≤ p3
        · rw [if_pos d, if_pos d]
          obtain ⟨n, hn, rfl⟩ : ∃ n, n < 61 ∧ p3 = nI n := isCh_of (n := 61) ⟨by rw [i_le, h0] at d; exact d, by rw [i_le, show (60 : Int32).toInt = 60 from rfl] at c; omega⟩
          have hnT := nI_T (k := n) (by omega)
          unfold fX9_layRow fJ7_fillL fJ7_rangeCheck_23922
          rw [sX9_isShelf, Option.bind_some]
          simp only [jb_jo]
          have e60 : nI s * (60 : Int32) = nI (60 * s) := by
            show nI s * nI 60 = _
            rw [pk_mul, Nat.mul_comm]
          have e60' : (60 : Int32) * nI s = nI (60 * s) := by
            show nI 60 * nI s = _
            rw [pk_mul]
          simp only [ob_nI hs (show 6 < 2 ^ 31 by omega), nI_cl (show s < 2 ^ 31 by omega), jst_e, e60, e60', nI_add]
          rw [if_neg (fun z => z a), if_neg (show ¬ nI n < 0 by rw [i_lt, h0, hnT]; omega), if_neg (show ¬ (60 : Int32) < nI n by rw [i_lt, show (60 : Int32).toInt = 60 from rfl, hnT]; omega), if_pos ((nI_leI (by omega) (by omega)).mpr (show 60 * s ≤ 60 * s + n by omega)), if_pos (nI_nn (by omega)).1, if_pos (show nI (60 * s + n) ≤ (360 : Int32) from (nI_leI (b := 360) (by omega) (by omega)).mpr (by omega)), Option.bind_some]
          obtain ⟨X, e1, e2, e3⟩ := sX_fillL (v := 0) n (60 * s) (60 * s + n) jN (ju (ju (ju σx 45 s 2) 47 s (nI k)) 48 s (nI n)) rfl (by omega) (by have := jN_ge; omega)
          obtain ⟨Y, f1, f2, f3⟩ := sM_rowL (p1 := nI s) 60 (60 * s) (60 * s + 60) jN (ju (ju σm 31 s (-2 - nI k)) 32 s (nI n)) rfl (by omega) (by have := jN_ge; omega) (by rw [e60']; show _ + nI 60 = _; rw [nI_add])
          rw [e1, f1, Option.bind_some, Option.bind_some]
          refine ⟨1, X, Y, rfl, rfl, h.upd (s0 := s) (fun t ht hne => ⟨?_, ?_, ?_, ?_, ?_, ?_, fun i hi => ⟨?_, ?_⟩⟩) (Or.inr (Or.inr ⟨k, n, hk, by omega, ?_, ?_, ?_, ?_, ?_, fun i hi => ?_⟩)), ?_, ?_⟩
          · rw [e2]; simp [ju_g, hne]
          · rw [e2]; simp [ju_g]
          · rw [e2]; simp [ju_g, hne]
          · rw [e2]; simp [ju_g, hne]
          · rw [f2]; simp [ju_g, hne]
          · rw [f2]; simp [ju_g, hne]
          · rw [e3, if_neg (by omega)]; rfl
          · rw [f3, if_neg (by omega)]; rfl
          · rw [e2]; simp [ju_g]
          · rw [e2]; simp [ju_g]
          · rw [f2]; simp [ju_g]
          · rw [e2]; simp [ju_g]
          · rw [f2]; simp [ju_g]
          · rw [e3, f3, if_pos (by omega), if_pos (by omega)]
          · intro c hc
            rw [e2]
            exact (((jOff.u (S := [45, 47, 48]) (by simp)).uT (by simp)).uT (by simp)).1 c hc
          · have m := ((mOff.u (S := [31, 32]) (F := []) (σ := σm) (c := 31) (i := s) (v := -2 - nI k) (by simp) (by decide)).trans (mOff.u (c := 32) (i := s) (v := nI n) (by simp) (by decide))).i
            exact ⟨fun c hc c0 => by rw [f2]; exact m.1 c hc c0, fun k hk => by rw [f2]; exact m.2 k hk⟩
        · rw [if_neg d, if_neg d]
          exact ⟨-14, _, _, rfl, rfl, h, xOff.rf, mOffI.rf⟩
      · rw [if_neg c, if_neg c]
        exact ⟨-1, _, _, rfl, rfl, h, xOff.rf, mOffI.rf⟩
    · have b' : p2.toInt < 0 ∨ 5 ≤ p2.toInt := by unfold isCh at b; omega
      have eM : ¬ ((0 : Int32).toInt ≤ p2.toInt ∧ p2.toInt ≤ (4 : Int32).toInt) := by rw [h0, h5]; omega
      rw [if_pos eM]
      by_cases c : p2 < 0
      · rw [if_pos c]
        exact ⟨-1, _, _, rfl, rfl, h, xOff.rf, mOffI.rf⟩
      · rw [if_neg c, if_pos (show (5 : Int32) ≤ p2 by rw [i_le, h6]; rw [i_lt, h0] at c; omega)]
        exact ⟨-1, _, _, rfl, rfl, h, xOff.rf, mOffI.rf⟩
  · rw [if_pos a, if_pos a]
    exact ⟨-1, _, _, rfl, rfl, h, xOff.rf, mOffI.rf⟩
