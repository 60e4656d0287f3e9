/-! IN DEED: on, push, off, led, image, back of both sides -/
def dR (σx σm : jS) (ch d e : Nat) : Prop := σm.1 e 0 = σx.1 d 2 ∧ σm.1 e 1 = σx.1 d 3 ∧ σm.1 e 2 = σx.1 d 4 ∧ σm.1 e 3 = σx.1 d 5 ∧ σm.1 e 4 = σx.1 d 6 ∧ σm.1 e 5 = σx.1 d 7 ∧ (∃ tp, tp ≤ 9 ∧ σx.1 d 6 = nI tp) ∧ ((jb (σx.1 d 1) = 0 ∧ σm.1 e 6 = -1) ∨ (¬ jb (σx.1 d 1) = 0 ∧ ∃ s c t r sec h tp, s < 3 ∧ c < ch ∧ cOk ch t c ∧ tX σx (d + 1) s c (nI t) r sec h tp ∧ r < 60 ∧ sec ≤ 20 * r ∧ h ≤ 9 ∧ tp ≤ 9 ∧ 0 ≤ σm.1 e 6 ∧ σm.1 e 6 / (100 : Int32) = nI s ∧ σm.1 e 6 / (10 : Int32) - σm.1 e 6 / (10 : Int32) / (10 : Int32) * (10 : Int32) = nI c ∧ σm.1 e 6 - σm.1 e 6 / (10 : Int32) * (10 : Int32) = nI t ∧ σm.1 e 7 = nI h ∧ σm.1 e 8 = nI r ∧ σm.1 e 9 = nI sec))
theorem cOk.mono {a b t c : Nat} (h : cOk a t c) (hab : a ≤ b) : cOk b t c := by unfold cOk at *; omega
theorem dR.cp {σx σm σx' σm' : jS} {ch ch' d e d' e' : Nat} (h : dR σx σm ch d e) (hch : ch ≤ ch') (h1 : ∀ k, 1 ≤ k → k ≤ 7 → σx'.1 d' k = σx.1 d k) (h2 : ∀ k, k < 8 → σx'.1 (d' + 1) k = σx.1 (d + 1) k) (h3 : ∀ k, k < 10 → σm'.1 e' k = σm.1 e k) : dR σx' σm' ch' d' e' := by
  unfold dR tX at *
  rw [h1 1 (by omega) (by omega), h1 2 (by omega) (by omega), h1 3 (by omega) (by omega), h1 4 (by omega) (by omega), h1 5 (by omega) (by omega), h1 6 (by omega) (by omega), h1 7 (by omega) (by omega), h3 0 (by omega), h3 1 (by omega), h3 2 (by omega), h3 3 (by omega), h3 4 (by omega), h3 5 (by omega), h3 6 (by omega), h3 7 (by omega), h3 8 (by omega), h3 9 (by omega), h2 0 (by omega), h2 1 (by omega), h2 2 (by omega), h2 3 (by omega), h2 4 (by omega), h2 5 (by omega), h2 6 (by omega)]
  obtain ⟨a1, a2, a3, a4, a5, a6, a7, a8⟩ := h
  refine ⟨a1, a2, a3, a4, a5, a6, a7, ?_⟩
  rcases a8 with a8 | ⟨b0, s, c, t, r, sec, h, tp, b1, b2, b3, b4⟩
  · exact Or.inl a8
  · exact Or.inr ⟨b0, s, c, t, r, sec, h, tp, b1, by omega, b3.mono hch, b4⟩
theorem dR.go {S S' F' : List Nat} {σx σm σx' σm' : jS} {ch ch' d e : Nat} (h : dR σx σm ch d e) (hch : ch ≤ ch') (a : jOff S σx σx') (b : mOff S' F' σm σm') (h1 : d ∉ S) (h2 : d + 1 ∉ S) (h3 : e ∉ S') (he : e ≠ 0) : dR σx' σm' ch' d e := h.cp hch (fun k _ _ => by rw [a.1 d h1]) (fun k _ => by rw [a.1 (d + 1) h2]) (fun k _ => by rw [b.1 e h3 he])
theorem eq_on {σx σm : jS} {ch : Nat} {V : Nat → Nat → Int32} (h : rN σx σm ch V) (hd : dR σx σm ch 37 27) (p1 : Int32) : ∃ r σx' σm', fX11_on σx p1 = some (r, σx') ∧ fX12_on σm p1 = some (r, σm') ∧ dR σx' σm' ch 37 27 ∧ jOff [37, 38] σx σx' ∧ mOff [27] [] σm σm' := by
  obtain ⟨hx, hm, hg⟩ := h
  have hc9 := hx.1
  unfold fX11_on fX12_on
  rw [sX11_isTold hx, sM_areThree hm, Option.bind_some, Option.bind_some]
  simp only [jb_jo]
  have hQ : Q8 0 := ⟨by decide, by decide⟩
  by_cases a : T3 ch p1
  · rw [if_neg (fun (z : ¬ (T3 ch p1 ∧ Q8 0)) => z ⟨a, hQ⟩), if_neg (fun (z : ¬ T3 ch p1) => z a)]
    have a0 := a.1
    obtain ⟨s, c, t, hs, hc, ht, e1, e2, e3⟩ := T3_of a hc9
    have c6 : (6 : Int32).toNatClampNeg = 6 := rfl
    have c7 : (7 : Int32).toNatClampNeg = 7 := rfl
    have c8 : (8 : Int32).toNatClampNeg = 8 := rfl
    have c9 : (9 : Int32).toNatClampNeg = 9 := rfl
    have o6 : ∀ {ρ : Type} {o : Option ρ}, ob (6 : Int32) 10 o = o := fun {ρ o} => ob_c 6 10 rfl (by omega) (by omega)
    have o7 : ∀ {ρ : Type} {o : Option ρ}, ob (7 : Int32) 10 o = o := fun {ρ o} => ob_c 7 10 rfl (by omega) (by omega)
    have o8 : ∀ {ρ : Type} {o : Option ρ}, ob (8 : Int32) 10 o = o := fun {ρ o} => ob_c 8 10 rfl (by omega) (by omega)
    have o9 : ∀ {ρ : Type} {o : Option ρ}, ob (9 : Int32) 10 o = o := fun {ρ o} => ob_c 9 10 rfl (by omega) (by omega)
    simp only [o6, o7, o8, o9, c6, c7, c8, c9, jst_e]
    obtain ⟨d0, d1, d2, d3, d4, d5, d6, d7⟩ := id hd
    rcases d7 with ⟨b1, b2⟩ | ⟨b1, _, _, _, _, _, _, _, _, _, _, _, _, _, _, _, b2, _⟩
    · rw [if_pos b1, b2, if_pos (show (-1 : Int32) < 0 by decide)]
      unfold fX11_swingOf fX11_childOf
      rw [e1, e2, e3, Option.bind_some, Option.bind_some]
      obtain ⟨U, eU, oU, u0, u1, u2, u3, u4, u5, u6⟩ := sX10_begin (t := 38) (ju σx 37 1 1) (nI s) (nI c) (nI t)
      rw [eU, Option.bind_some, u1]
      have u37 : ∀ k, k ≠ 1 → U.1 37 k = σx.1 37 k := fun k hk => by rw [oU.1 37 (by decide), ju_i hk]
      have u371 : U.1 37 1 = 1 := by rw [oU.1 37 (by decide), ju_s]
      refine ⟨nI c, U, _, rfl, rfl, ?_, (jOff.u (by decide)).trans (oU.mono (by simp)), ?_⟩
      · refine ⟨?_, ?_, ?_, ?_, ?_, ?_, ?_, Or.inr ⟨?_, s, c, t, 0, 0, 0, 0, hs, hc, ht, ⟨u0, u1, u2, u3, u4, u5, u6⟩, by omega, by omega, by omega, by omega, ?_, ?_, ?_, ?_, ?_, ?_, ?_⟩⟩
        · simp only [ju_g, u37 2 (by decide)]; simpa using d0
        · simp only [ju_g, u37 3 (by decide)]; simpa using d1
        · simp only [ju_g, u37 4 (by decide)]; simpa using d2
        · simp only [ju_g, u37 5 (by decide)]; simpa using d3
        · simp only [ju_g, u37 6 (by decide)]; simpa using d4
        · simp only [ju_g, u37 7 (by decide)]; simpa using d5
        · rw [u37 6 (by decide)]; exact d6
        · rw [u371]; decide
        · have e : (ju (ju (ju (ju σm 27 6 p1) 27 7 0) 27 8 0) 27 9 0).1 27 6 = p1 := by simp [ju_g]
          rw [e, i_le]; exact a0
        · have e : (ju (ju (ju (ju σm 27 6 p1) 27 7 0) 27 8 0) 27 9 0).1 27 6 = p1 := by simp [ju_g]
          rw [e]; exact e1
        · have e : (ju (ju (ju (ju σm 27 6 p1) 27 7 0) 27 8 0) 27 9 0).1 27 6 = p1 := by simp [ju_g]
          rw [e]; exact e2
        · have e : (ju (ju (ju (ju σm 27 6 p1) 27 7 0) 27 8 0) 27 9 0).1 27 6 = p1 := by simp [ju_g]
          rw [e]; exact e3
        · simp [ju_g]; rfl
        · simp [ju_g]; rfl
        · simp [ju_g]; rfl
      · have m : ∀ {i : Nat} {s : jS} {v : Int32}, mOff [27] [] σm s → mOff [27] [] σm (ju s 27 i v) := fun {i s v} hs => hs.trans (mOff.u (by decide) (by decide))
        exact m (m (m (m mOff.rf)))
    · rw [if_neg b1, if_neg (Int32.not_lt.mpr b2)]
      exact ⟨_, _, _, rfl, rfl, hd, jOff.rf, mOff.rf⟩
  · rw [if_pos (fun z => a z.1), if_pos a]
    exact ⟨_, _, _, rfl, rfl, hd, jOff.rf, mOff.rf⟩
/-- how many wait in a queue behind a CHILD -/
def cW (V : Nat → Nat → Int32) (s c : Nat) : Nat → Nat → Nat
  | 0, _ => 0
  | n + 1, k => (if k ≠ c ∧ vN V 5 k = s then 1 else 0) + cW V s c n (k + 1)
theorem sX_waitL {σ : jS} {ch s c : Nat} {V : Nat → Nat → Int32} (hx : nX σ ch V) (hg : nG ch V) (hs : s < 3) (hc : c < ch) : ∀ (n k f u : Nat), k + n = ch → n < f → jloop (fX6_waitingBehind_B5 σ (nI s) (nI c)) f (nI u, nI k) = some (nI (u + cW V s c n k)) := by
  have hc9 := hx.1
  intro n
  induction n with
  | zero =>
    intro k f u hk hf
    obtain ⟨f, rfl⟩ : ∃ g, f = g + 1 := ⟨f - 1, by omega⟩
    obtain rfl : k = ch := by omega
    rw [jloop_s, fX6_waitingBehind_B5_eq]
    rw [if_pos (show σ.1 1 1 ≤ nI k by rw [hx.2.1]; exact Int32.le_refl _)]
    rfl
  | succ n ih =>
    intro k f u hk hf
    obtain ⟨f, rfl⟩ : ∃ g, f = g + 1 := ⟨f - 1, by omega⟩
    have e : cW V s c (n + 1) k = (if k ≠ c ∧ vN V 5 k = s then 1 else 0) + cW V s c n (k + 1) := rfl
    have v5 := (vN_eq hg (jk0 (w := 5) (by omega) (show k < ch by omega))).2
    have b5 : jhi 5 = 3 := rfl
    rw [jloop_s, e, ← Nat.add_assoc, ← ih (k + 1) f (u + (if k ≠ c ∧ vN V 5 k = s then 1 else 0)) (by omega) (by omega), fX6_waitingBehind_B5_eq]
    unfold fX6_waitingBehind_B5_J34
    have ekc : (nI k = nI c) = (k = c) := propext (nI_eq (by omega) (by omega))
    have e5 : (nI (vN V 5 k) = nI s) = (vN V 5 k = s) := propext (nI_eq (by omega) (by omega))
    rw [if_neg (show ¬ σ.1 1 1 ≤ nI k by rw [hx.2.1, nI_leI (by omega) (by omega)]; omega)]
    simp only [sX6_vc hx hg 5 5 rfl (jk0 (by omega) (show k < ch by omega)), Option.bind_some, ekc, e5, nI_1]
    by_cases a : k = c
    · rw [if_pos a, if_neg (fun z => z.1 a)]
      rfl
    · rw [if_neg a]
      by_cases b : vN V 5 k = s
      · rw [if_pos b, if_pos ⟨a, b⟩]
      · rw [if_neg b, if_neg (fun z => b z.2)]
        rfl
theorem sM_waitL {σ : jS} {ch s c : Nat} {V : Nat → Nat → Int32} (hm : nM σ ch V) (hg : nG ch V) (hs : s < 3) (hc : c < ch) : ∀ (n k f u : Nat), k + n = ch → n < f → jloop (fX12_waitingFor_B5 σ (nI s) (nI c)) f (nI u, nI k) = some (nI (u + cW V s c n k)) := by
  have hc9 := hm.1
  intro n
  induction n with
  | zero =>
    intro k f u hk hf
    obtain ⟨f, rfl⟩ : ∃ g, f = g + 1 := ⟨f - 1, by omega⟩
    obtain rfl : k = ch := by omega
    rw [jloop_s, fX12_waitingFor_B5_eq]
    rw [if_pos (show σ.1 0 2 ≤ nI k by rw [hm.2.1]; exact Int32.le_refl _)]
    rfl
  | succ n ih =>
    intro k f u hk hf
    obtain ⟨f, rfl⟩ : ∃ g, f = g + 1 := ⟨f - 1, by omega⟩
    have e : cW V s c (n + 1) k = (if k ≠ c ∧ vN V 5 k = s then 1 else 0) + cW V s c n (k + 1) := rfl
    have v5 := (vN_eq hg (jk0 (w := 5) (by omega) (show k < ch by omega))).2
    have b5 : jhi 5 = 3 := rfl
    have r5 : σ.1 7 k = nI (vN V 5 k) := sM_v hm hg (w := 5) (jk0 (by omega) (show k < ch by omega))
    rw [jloop_s, e, ← Nat.add_assoc, ← ih (k + 1) f (u + (if k ≠ c ∧ vN V 5 k = s then 1 else 0)) (by omega) (by omega), fX12_waitingFor_B5_eq]
    unfold fX12_waitingFor_B5_J34
    have ekc : (nI k = nI c) = (k = c) := propext (nI_eq (by omega) (by omega))
    have e5 : (nI (vN V 5 k) = nI s) = (vN V 5 k = s) := propext (nI_eq (by omega) (by omega))
    rw [if_neg (show ¬ σ.1 0 2 ≤ nI k by rw [hm.2.1, nI_leI (by omega) (by omega)]; omega)]
    simp only [ob_nI (show k < 9 by omega) (show 9 < 2 ^ 31 by omega), nI_cl (show k < 2 ^ 31 by omega), r5, ekc, e5, nI_1]
    by_cases a : k = c
    · rw [if_pos a, if_neg (fun z => z.1 a)]
      rfl
    · rw [if_neg a]
      by_cases b : vN V 5 k = s
      · rw [if_pos b, if_pos ⟨a, b⟩]
      · rw [if_neg b, if_neg (fun z => b z.2)]
        rfl
theorem sX2_lead {σ : jS} {v : Int32} (hv : v = 0 ∨ v = 1) {h tp : Nat} (h5 : σ.1 38 5 = nI h) (h6 : σ.1 37 6 = nI tp) (bh : h ≤ 9) (bt : tp ≤ 9) : ∃ σ', fX2_lead σ v = some σ' ∧ jOff [37] σ σ' ∧ σ'.1 37 2 = (if v = 0 then σ.1 37 2 else σ.1 37 2 + 1) ∧ σ'.1 37 3 = σ.1 37 3 + 1 ∧ σ'.1 37 4 = σ.1 37 4 + σ.1 38 7 ∧ σ'.1 37 5 = σ.1 37 5 ∧ σ'.1 37 6 = nI (max tp h) ∧ σ'.1 37 7 = (if h ≤ tp then σ.1 37 7 else σ.1 38 1) ∧ σ'.1 37 1 = (if v = 0 then σ.1 37 1 else 0) := by
  rw [fX2_lead_eq, jst_e, jst_e]
  obtain ⟨A, hA⟩ : ∃ A, A = ju (ju σ 37 3 (σ.1 37 3 + 1)) 37 4 ((ju σ 37 3 (σ.1 37 3 + 1)).1 37 4 + (ju σ 37 3 (σ.1 37 3 + 1)).1 38 7) := ⟨_, rfl⟩
  rw [← hA]
  have oA : jOff [37] σ A := by rw [hA]; exact (jOff.u (by simp)).uT (by simp)
  have A1 : A.1 37 1 = σ.1 37 1 := by rw [hA]; simp [ju_g]
  have A2 : A.1 37 2 = σ.1 37 2 := by rw [hA]; simp [ju_g]
  have A3 : A.1 37 3 = σ.1 37 3 + 1 := by rw [hA]; simp [ju_g]
  have A4 : A.1 37 4 = σ.1 37 4 + σ.1 38 7 := by rw [hA]; simp [ju_g]
  have A5 : A.1 37 5 = σ.1 37 5 := by rw [hA]; simp [ju_g]
  have A6 : A.1 37 6 = nI tp := by rw [hA]; simp [ju_g, h6]
  have A7 : A.1 37 7 = σ.1 37 7 := by rw [hA]; simp [ju_g]
  have A38 : A.1 38 = σ.1 38 := oA.1 38 (by simp)
  rw [A38, h5, A6]
  obtain ⟨B, eB, oB, B1, B2, B3, B4, B5, B6, B7⟩ : ∃ B, (if nI h ≤ nI tp then (fX2_lead_J62 v) A else (jst (ju A 37 6 (nI h)) fun (σ5 : jS) => (jst (ju σ5 37 7 (σ5.1 38 1)) fun (σ6 : jS) => ((fX2_lead_J62 v) σ6)))) = fX2_lead_J62 v B ∧ jOff [37] σ B ∧ B.1 37 1 = σ.1 37 1 ∧ B.1 37 2 = σ.1 37 2 ∧ B.1 37 3 = σ.1 37 3 + 1 ∧ B.1 37 4 = σ.1 37 4 + σ.1 38 7 ∧ B.1 37 5 = σ.1 37 5 ∧ B.1 37 6 = nI (max tp h) ∧ B.1 37 7 = (if h ≤ tp then σ.1 37 7 else σ.1 38 1) := by
    by_cases a : h ≤ tp
    · rw [if_pos ((nI_leI (by omega) (by omega)).mpr a), if_pos a, Nat.max_eq_left a]
      exact ⟨A, rfl, oA, A1, A2, A3, A4, A5, A6, A7⟩
    · rw [if_neg (fun z => a ((nI_leI (by omega) (by omega)).mp z)), if_neg a, Nat.max_eq_right (by omega), jst_e, jst_e]
      refine ⟨_, rfl, (oA.uT (by simp)).uT (by simp), ?_, ?_, ?_, ?_, ?_, ?_, ?_⟩
      · simp [ju_g, A1]
      · simp [ju_g, A2]
      · simp [ju_g, A3]
      · simp [ju_g, A4]
      · simp [ju_g, A5]
      · simp [ju_g]
      · simp [ju_g, A38]
  rw [eB]
  unfold fX2_lead_J62
  rcases hv with rfl | rfl
  · rw [if_pos rfl, if_pos rfl, if_pos rfl]
    exact ⟨B, rfl, oB, B2, B3, B4, B5, B6, B7, B1⟩
  · rw [if_neg (show ¬ (1 : Int32) = 0 by decide), if_neg (show ¬ (1 : Int32) = 0 by decide), if_neg (show ¬ (1 : Int32) = 0 by decide), jst_e, jst_e]
    refine ⟨_, rfl, (oB.uT (by simp)).uT (by simp), ?_, ?_, ?_, ?_, ?_, ?_, ?_⟩
    · simp [ju_g, B2]
    · simp [ju_g, B3]
    · simp [ju_g, B4]
    · simp [ju_g, B5]
    · simp [ju_g, B6]
    · simp [ju_g, B7]
    · simp [ju_g]
theorem o27 (k : Nat) (i : Int32) (h : i = nI k) (hk : k < 10) {ρ : Type} {o : Option ρ} : ob i 10 o = o := ob_c k 10 h hk (by omega)
theorem sM_pushT {U : jS} {ch : Nat} {V : Nat → Nat → Int32} {c t r sec h tp L : Nat} (hmU : nM U ch V) (hg : nG ch V) (hc : c < ch) (ht : cOk ch t c) (hT : tM U r sec h (max tp h)) (e3 : U.1 27 6 - U.1 27 6 / (10 : Int32) * (10 : Int32) = nI t) (u4 : U.1 27 4 = nI tp) (bh : h ≤ 9) (bt : tp ≤ 9) (br : r ≤ 60) (bs : sec ≤ 2000) : ∃ σ', (jst (ju U 27 1 (U.1 27 1 + 1)) fun (σ8 : jS) => (jst (ju σ8 27 2 (σ8.1 27 2 + nI L)) fun (σ9 : jS) => (if (σ9.1 0 33) ≤ (σ9.1 27 4) then ((fX12_push_J144 (nI c) (nI L, U)) σ9) else (jst (ju σ9 27 4 (σ9.1 0 33)) fun (σ17 : jS) => (jst (ju σ17 27 5 (nI c)) fun (σ18 : jS) => ((fX12_push_J144 (nI c) (nI L, U)) σ18)))))) = some (nI L, σ') ∧ mOff [27] [] U σ' ∧ σ'.1 27 0 = (if over V (bentN V t c) r sec then U.1 27 0 + 1 else U.1 27 0) ∧ σ'.1 27 1 = U.1 27 1 + 1 ∧ σ'.1 27 2 = U.1 27 2 + nI L ∧ σ'.1 27 3 = U.1 27 3 ∧ σ'.1 27 4 = nI (max tp h) ∧ σ'.1 27 5 = (if h ≤ tp then U.1 27 5 else nI c) ∧ σ'.1 27 6 = (if over V (bentN V t c) r sec then -1 else U.1 27 6) ∧ σ'.1 27 7 = nI h ∧ σ'.1 27 8 = nI r ∧ σ'.1 27 9 = nI sec := by
  obtain ⟨t33, t34, t35, t36⟩ := hT
  rw [jst_e, jst_e]
  obtain ⟨A, hA⟩ : ∃ A, A = ju (ju U 27 1 (U.1 27 1 + 1)) 27 2 ((ju U 27 1 (U.1 27 1 + 1)).1 27 2 + nI L) := ⟨_, rfl⟩
  rw [← hA]
  have m27 : ∀ {i : Nat} {s : jS} {v : Int32}, mOff [27] [] U s → mOff [27] [] U (ju s 27 i v) := fun {i s v} hs => hs.trans (mOff.u (by decide) (by decide))
  have oA : mOff [27] [] U A := by rw [hA]; exact m27 (m27 mOff.rf)
  have A0 : A.1 27 0 = U.1 27 0 := by rw [hA]; simp [ju_g]
  have A1 : A.1 27 1 = U.1 27 1 + 1 := by rw [hA]; simp [ju_g]
  have A2 : A.1 27 2 = U.1 27 2 + nI L := by rw [hA]; simp [ju_g]
  have A3 : A.1 27 3 = U.1 27 3 := by rw [hA]; simp [ju_g]
  have A4 : A.1 27 4 = nI tp := by rw [hA]; simp [ju_g, u4]
  have A5 : A.1 27 5 = U.1 27 5 := by rw [hA]; simp [ju_g]
  have A6 : A.1 27 6 = U.1 27 6 := by rw [hA]; simp [ju_g]
  have A33 : A.1 0 33 = nI h := by rw [oA.2.1 33 (by simp), t33]
  rw [A33, A4]
  obtain ⟨B, eB, oB, B0, B1, B2, B3, B4, B5, B6⟩ : ∃ B, (if nI h ≤ nI tp then ((fX12_push_J144 (nI c) (nI L, U)) A) else (jst (ju A 27 4 (nI h)) fun (σ17 : jS) => (jst (ju σ17 27 5 (nI c)) fun (σ18 : jS) => ((fX12_push_J144 (nI c) (nI L, U)) σ18)))) = fX12_push_J144 (nI c) (nI L, U) B ∧ mOff [27] [] U B ∧ B.1 27 0 = U.1 27 0 ∧ B.1 27 1 = U.1 27 1 + 1 ∧ B.1 27 2 = U.1 27 2 + nI L ∧ B.1 27 3 = U.1 27 3 ∧ B.1 27 4 = nI (max tp h) ∧ B.1 27 5 = (if h ≤ tp then U.1 27 5 else nI c) ∧ B.1 27 6 = U.1 27 6 := by
    by_cases a : h ≤ tp
    · rw [if_pos ((nI_leI (by omega) (by omega)).mpr a), if_pos a, Nat.max_eq_left a]
      exact ⟨A, rfl, oA, A0, A1, A2, A3, A4, A5, A6⟩
    · rw [if_neg (fun z => a ((nI_leI (by omega) (by omega)).mp z)), if_neg a, Nat.max_eq_right (by omega), jst_e, jst_e]
      refine ⟨_, rfl, m27 (m27 oA), ?_, ?_, ?_, ?_, ?_, ?_, ?_⟩
      · simp [ju_g, A0]
      · simp [ju_g, A1]
      · simp [ju_g, A2]
      · simp [ju_g, A3]
      · simp [ju_g]
      · simp [ju_g]
      · simp [ju_g, A6]
  rw [eB]
  unfold fX12_push_J144
  have c0 : (0 : Int32).toNatClampNeg = 0 := rfl
  have c6 : (6 : Int32).toNatClampNeg = 6 := rfl
  have c7 : (7 : Int32).toNatClampNeg = 7 := rfl
  have c8 : (8 : Int32).toNatClampNeg = 8 := rfl
  have c9 : (9 : Int32).toNatClampNeg = 9 := rfl
  have B33 : B.1 0 33 = nI h := by rw [oB.2.1 33 (by simp), t33]
  have B34 : B.1 0 34 = nI r := by rw [oB.2.1 34 (by simp), t34]
  have B35 : B.1 0 35 = nI sec := by rw [oB.2.1 35 (by simp), t35]
  simp only [o27 6 6 rfl (by omega), o27 7 7 rfl (by omega), o27 8 8 rfl (by omega), o27 9 9 rfl (by omega), o27 0 0 rfl (by omega), c0, c6, c7, c8, c9, jst_e, ju_n (show (0 : Nat) ≠ 27 by decide), B33, B34, B35]
  obtain ⟨C, hC⟩ : ∃ C, C = ju (ju (ju B 27 7 (nI h)) 27 8 (nI r)) 27 9 (nI sec) := ⟨_, rfl⟩
  rw [← hC]
  have oC : mOff [27] [] U C := by rw [hC]; exact m27 (m27 (m27 oB))
  have C0 : C.1 27 0 = U.1 27 0 := by rw [hC]; simp [ju_g, B0]
  have C1 : C.1 27 1 = U.1 27 1 + 1 := by rw [hC]; simp [ju_g, B1]
  have C2 : C.1 27 2 = U.1 27 2 + nI L := by rw [hC]; simp [ju_g, B2]
  have C3 : C.1 27 3 = U.1 27 3 := by rw [hC]; simp [ju_g, B3]
  have C4 : C.1 27 4 = nI (max tp h) := by rw [hC]; simp [ju_g, B4]
  have C5 : C.1 27 5 = (if h ≤ tp then U.1 27 5 else nI c) := by rw [hC]; simp [ju_g, B5]
  have C6 : C.1 27 6 = U.1 27 6 := by rw [hC]; simp [ju_g, B6]
  have C7 : C.1 27 7 = nI h := by rw [hC]; simp [ju_g]
  have C8 : C.1 27 8 = nI r := by rw [hC]; simp [ju_g]
  have C9 : C.1 27 9 = nI sec := by rw [hC]; simp [ju_g]
  have hmC : nM C ch V := hmU.off oC (by decide) (by decide)
  rw [C6, e3, sM_bentOf hmC hg ht hc, Option.bind_some, sM_isOver hmC hg (bentN_le hg ht) (by rw [oC.2.1 34 (by simp), t34]) (by rw [oC.2.1 35 (by simp), t35]) (by omega) (by omega), Option.bind_some]
  simp only [jb_jo]
  by_cases a : over V (bentN V t c) r sec
  · rw [if_neg (fun z => z a), if_pos a, if_pos a]
    refine ⟨_, rfl, m27 (m27 oC), ?_, ?_, ?_, ?_, ?_, ?_, ?_, ?_, ?_, ?_⟩
    · simp [ju_g, C0]
    · simp [ju_g, C1]
    · simp [ju_g, C2]
    · simp [ju_g, C3]
    · simp [ju_g, C4]
    · simp [ju_g, C5]
    · simp [ju_g]
    · simp [ju_g, C7]
    · simp [ju_g, C8]
    · simp [ju_g, C9]
  · rw [if_pos a, if_neg a, if_neg a]
    exact ⟨C, rfl, oC, C0, C1, C2, C3, C4, C5, C6, C7, C8, C9⟩
theorem eq_push {σx σm : jS} {ch : Nat} {V : Nat → Nat → Int32} {lw : jL} (h : rN σx σm ch V) (hlx : lX σx lw) (hlm : lM σm lw) (ho : lOk lw) (hd : dR σx σm ch 37 27) : ∃ r σx' σm', fX11_push σx = some (r, σx') ∧ fX12_push σm = some (r, σm') ∧ dR σx' σm' ch 37 27 ∧ jOff [11, 12, 37, 38] σx σx' ∧ mOff [18, 19, 27] [33, 34, 35, 36] σm σm' := by
  obtain ⟨hx, hm, hg⟩ := h
  have hc9 := hx.1
  unfold fX11_push
  rw [fX12_push_eq]
  have c1 : (1 : Int32).toNatClampNeg = 1 := rfl
  have c2 : (2 : Int32).toNatClampNeg = 2 := rfl
  have c4 : (4 : Int32).toNatClampNeg = 4 := rfl
  have c5 : (5 : Int32).toNatClampNeg = 5 := rfl
  have c6 : (6 : Int32).toNatClampNeg = 6 := rfl
  have c7 : (7 : Int32).toNatClampNeg = 7 := rfl
  have c8 : (8 : Int32).toNatClampNeg = 8 := rfl
  have c9 : (9 : Int32).toNatClampNeg = 9 := rfl
  simp only [o27 1 1 rfl (by omega), o27 2 2 rfl (by omega), o27 4 4 rfl (by omega), o27 5 5 rfl (by omega), o27 6 6 rfl (by omega), o27 7 7 rfl (by omega), o27 8 8 rfl (by omega), o27 9 9 rfl (by omega), c1, c2, c4, c5, c6, c7, c8, c9]
  obtain ⟨d0, d1, d2, d3, d4, d5, ⟨tp0, bt0, d6⟩, d7⟩ := id hd
  rcases d7 with ⟨b1, b2⟩ | ⟨b1, s, c, t, r, sec, hh, tp, hs, hc, ht, hT, hr, hsec, hhh, htp, f0, f1, f2, f3, f7, f8, f9⟩
  · rw [if_pos b1, b2, if_neg (show ¬ (0 : Int32) ≤ -1 by decide)]
    exact ⟨_, _, _, rfl, rfl, hd, jOff.rf, mOff.rf⟩
  · rw [if_neg b1, if_pos f0, hT.1, hT.2.1]
    have wX : fX6_waitingBehind σx (nI s) (nI c) = some (nI (cW V s c ch 0)) := by
      unfold fX6_waitingBehind
      have := sX_waitL hx hg hs hc ch 0 jN 0 (by omega) (by have := jN_ge; omega)
      rw [Nat.zero_add] at this
      exact this
    rw [wX, Option.bind_some]
    obtain ⟨X, eX, oX, TX, LX⟩ := sX8_step (q := cW V s c ch 0) hx hg hlx (Or.inr (Or.inl rfl)) hs hc hT hhh (by omega) htp (by omega)
    have bL := ho (hN V c hh) (vN V 6 s) (vN V 0 c) r (cW V s c ch 0) (vN V 7 0)
    have bH := hN_le hg hc hh
    rw [eX, Option.bind_some]
    have hxX : nX X ch V := hx.off oX (by decide) (by decide)
    generalize hL0 : lw (hN V c hh) (vN V 6 s) (vN V 0 c) r (cW V s c ch 0) (vN V 7 0) = L at *
    generalize hH : hN V c hh = h1 at *
    rw [sX8_isOver hxX hg TX ht hc (by omega) (by omega), Option.bind_some, jo_jb]
    have X37 : X.1 37 = σx.1 37 := oX.1 37 (by decide)
    obtain ⟨Y, eY, oY, y2, y3, y4, y5, y6, y7, y1⟩ := sX2_lead (σ := X) (v := jo (over V (bentN V t c) (r + 1) (sec + L))) (by unfold jo; split <;> simp) TX.2.2.2.2.2.1 (by rw [X37, d6]) bH bt0
    rw [eY, Option.bind_some, oY.1 38 (by simp), LX]
    -- the reference
    rw [jst_e]
    obtain ⟨S, hS⟩ : ∃ S, S = ju (ju (ju (ju σm 0 33 (nI hh)) 0 34 (nI r)) 0 35 (nI sec)) 0 36 (nI tp0) := ⟨_, rfl⟩
    have oS : mOff [] [33, 34, 35, 36] σm S := by rw [hS]; exact (((mOff.f (by decide)).trans (mOff.f (by decide))).trans (mOff.f (by decide))).trans (mOff.f (by decide))
    have tS' : tM S r sec hh tp0 := by
      rw [hS]
      refine ⟨?_, ?_, ?_, ?_⟩ <;> simp [ju_g]
    have hmS : nM S ch V := hm.off oS (by decide) (by decide)
    have wM : fX12_waitingFor S (nI s) (nI c) = some (nI (cW V s c ch 0)) := by
      unfold fX12_waitingFor
      have := sM_waitL hmS hg hs hc ch 0 jN 0 (by omega) (by have := jN_ge; omega)
      rw [Nat.zero_add] at this
      exact this
    obtain ⟨U, eU, oU, TU⟩ := sM_goRound (q := cW V s c ch 0) hmS hg (hlm.go oS (by intro c h1 h2; simp) (by decide)) ho hs hc tS' hhh bt0
    rw [hH, hL0] at eU TU
    have hmU : nM U ch V := hmS.off oU (by decide) (by decide)
    have U27 : U.1 27 = σm.1 27 := by rw [oU.1 27 (by decide) (by decide), oS.1 27 (by decide) (by decide)]
    obtain ⟨M, eM, oM, m0, m1, m2, m3, m4, m5, m6, m7, m8, m9⟩ := sM_pushT (L := L) hmU hg hc ht TU (by rw [U27]; exact f3) (by rw [U27, d4, d6]) bH bt0 (by omega) (by omega)
    rw [U27] at m0 m1 m2 m3 m5 m6
    have oM1 : mOff [18, 19, 27] [33, 34, 35, 36] σm M := ((oS.mono (by simp) (by simp)).trans (oU.mono (by simp) (by simp))).trans (oM.mono (by simp) (by simp))
    have oY1 : jOff [11, 12, 37, 38] σx Y := (oX.mono (by simp)).trans (oY.mono (by simp))
    have Y38 : Y.1 38 = X.1 38 := oY.1 38 (by simp)
    have TY : tX Y 38 s c (nI t) (r + 1) (sec + L) h1 (max tp h1) := by
      unfold tX at *
      rw [Y38]
      exact TX
    rw [X37] at y2 y3 y4 y5 y7 y1
    have dN : dR Y M ch 37 27 := by
      by_cases a : over V (bentN V t c) (r + 1) (sec + L)
      · have j1 : ¬ jo (over V (bentN V t c) (r + 1) (sec + L)) = 0 := by rw [jo_1 a]; decide
        rw [if_neg j1] at y2 y1
        rw [if_pos a] at m0 m6
        refine ⟨by rw [m0, y2, d0], by rw [m1, y3, d1], by rw [m2, y4, d2, LX], by rw [m3, y5, d3], by rw [m4, y6], ?_, ⟨max tp0 h1, Nat.max_le.mpr ⟨bt0, bH⟩, y6⟩, Or.inl ⟨by rw [y1]; rfl, m6⟩⟩
        rw [m5, y7, d5, TX.2.1]
      · have j1 : jo (over V (bentN V t c) (r + 1) (sec + L)) = 0 := jo_0 a
        rw [if_pos j1] at y2 y1
        rw [if_neg a] at m0 m6
        refine ⟨by rw [m0, y2, d0], by rw [m1, y3, d1], by rw [m2, y4, d2, LX], by rw [m3, y5, d3], by rw [m4, y6], ?_, ⟨max tp0 h1, Nat.max_le.mpr ⟨bt0, bH⟩, y6⟩, Or.inr ⟨by rw [y1]; exact b1, s, c, t, r + 1, sec + L, h1, max tp h1, hs, hc, ht, TY, ?_, by omega, bH, Nat.max_le.mpr ⟨htp, bH⟩, by rw [m6]; exact f0, by rw [m6]; exact f1, by rw [m6]; exact f2, by rw [m6]; exact f3, m7, m8, m9⟩⟩
        · rw [m5, y7, d5, TX.2.1]
        · have : ¬ 60 ≤ r + 1 := fun z => a (Or.inr (Or.inr z))
          omega
    refine ⟨nI L, Y, M, rfl, ?_, dN, oY1, oM1⟩
    rw [jst_e, jst_e, jst_e, jst_e]
    simp only [ju_n (show (27 : Nat) ≠ 0 by decide), f1, f2, f7, f8, f9, d4, d6]
    rw [← hS, wM, Option.bind_some, eU, Option.bind_some]
    exact eM
theorem eq_off {σx σm : jS} {ch : Nat} (hd : dR σx σm ch 37 27) : ∃ r σx' σm', fX11_off σx = some (r, σx') ∧ fX12_off σm = some (r, σm') ∧ dR σx' σm' ch 37 27 ∧ jOff [37] σx σx' ∧ mOff [27] [] σm σm' := by
  unfold fX11_off fX12_off
  have c3 : (3 : Int32).toNatClampNeg = 3 := rfl
  have c6 : (6 : Int32).toNatClampNeg = 6 := rfl
  have c8 : (8 : Int32).toNatClampNeg = 8 := rfl
  simp only [o27 3 3 rfl (by omega), o27 6 6 rfl (by omega), o27 8 8 rfl (by omega), c3, c6, c8, jst_e]
  obtain ⟨d0, d1, d2, d3, d4, d5, d6, d7⟩ := id hd
  rcases d7 with ⟨b1, b2⟩ | ⟨b1, s, c, t, r, sec, hh, tp, hs, hc, ht, hT, hr, hsec, hhh, htp, f0, f1, f2, f3, f7, f8, f9⟩
  · rw [if_pos b1, b2, if_neg (show ¬ (0 : Int32) ≤ -1 by decide)]
    exact ⟨_, _, _, rfl, rfl, hd, jOff.rf, mOff.rf⟩
  · rw [if_neg b1, if_pos f0]
    refine ⟨nI r, ju (ju σx 37 1 0) 37 5 ((ju σx 37 1 0).1 37 5 + 1), ju (ju σm 27 3 (σm.1 27 3 + 1)) 27 6 (-1), ?_, ?_, ⟨?_, ?_, ?_, ?_, ?_, ?_, ?_, Or.inl ⟨?_, ?_⟩⟩, (jOff.u (by simp)).uT (by simp), (mOff.u (by decide) (by decide)).trans (mOff.u (by decide) (by decide))⟩
    · congr 2
      rw [ju_n (by decide), ju_n (by decide)]
      exact hT.2.2.2.1
    · congr 2
    · simp only [ju_g]; simpa using d0
    · simp only [ju_g]; simpa using d1
    · simp only [ju_g]; simpa using d2
    · simp only [ju_g]; simpa using d3
    · simp only [ju_g]; simpa using d4
    · simp only [ju_g]; simpa using d5
    · simp only [ju_g]; simpa using d6
    · simp [ju_g]; rfl
    · simp [ju_g]
theorem eq_led {σx σm : jS} {ch : Nat} {V : Nat → Nat → Int32} (h : rN σx σm ch V) (hd : dR σx σm ch 37 27) (p1 : Int32) : ∃ r, fX11_led σx p1 = some r ∧ fX12_led σm p1 = some r := by
  obtain ⟨hx, hm, hg⟩ := h
  obtain ⟨d0, d1, d2, d3, d4, d5, d6, d7⟩ := id hd
  unfold fX11_led fX12_led
  have c6 : (6 : Int32).toNatClampNeg = 6 := rfl
  have c8 : (8 : Int32).toNatClampNeg = 8 := rfl
  rw [sM_in, Option.bind_some]
  simp only [jb_jo, o27 6 6 rfl (by omega), o27 8 8 rfl (by omega), c6, c8]
  by_cases a : (0 : Int32).toInt ≤ p1.toInt ∧ p1.toInt ≤ (7 : Int32).toInt
  · rw [if_neg (fun (z : ¬ ((0 : Int32).toInt ≤ p1.toInt ∧ p1.toInt ≤ (7 : Int32).toInt)) => z a)]
    obtain ⟨k, _, hk, rfl⟩ := nI_of3 (lo := 0) (hi := 7) a.1 a.2 (by omega)
    rcases (show k = 0 ∨ k = 1 ∨ k = 2 ∨ k = 3 ∨ k = 4 ∨ k = 5 ∨ k = 6 ∨ k = 7 by omega) with rfl | rfl | rfl | rfl | rfl | rfl | rfl | rfl
    · exact ⟨_, if_pos rfl, by rw [if_neg (by decide), ob_nI (by omega) (by omega), nI_cl (by omega), d0]⟩
    · exact ⟨_, by rw [if_neg (by decide), if_pos (by decide)], by rw [if_neg (by decide), ob_nI (by omega) (by omega), nI_cl (by omega), d1]⟩
    · exact ⟨_, by rw [if_neg (by decide), if_neg (by decide), if_pos (by decide)], by rw [if_neg (by decide), ob_nI (by omega) (by omega), nI_cl (by omega), d2]⟩
    · exact ⟨_, by rw [if_neg (by decide), if_neg (by decide), if_neg (by decide), if_pos (by decide)], by rw [if_neg (by decide), ob_nI (by omega) (by omega), nI_cl (by omega), d3]⟩
    · exact ⟨_, by rw [if_neg (by decide), if_neg (by decide), if_neg (by decide), if_neg (by decide), if_pos (by decide)], by rw [if_neg (by decide), ob_nI (by omega) (by omega), nI_cl (by omega), d4]⟩
    · exact ⟨_, by rw [if_neg (by decide), if_neg (by decide), if_neg (by decide), if_neg (by decide), if_neg (by decide), if_pos (by decide)], by rw [if_neg (by decide), ob_nI (by omega) (by omega), nI_cl (by omega), d5]⟩
    · rw [if_neg (by decide), if_neg (by decide), if_neg (by decide), if_neg (by decide), if_neg (by decide), if_neg (by decide), if_pos (show nI 6 = (6 : Int32) by decide), if_pos (show (6 : Int32) ≤ nI 6 by decide), if_pos (show nI 6 = (6 : Int32) by decide)]
      rcases d7 with ⟨b1, b2⟩ | ⟨b1, s, c, t, r, sec, hh, tp, hs, hc, ht, hT, hr, hsec, hhh, htp, f0, f1, f2, f3, f7, f8, f9⟩
      · rw [if_pos b1, b2, if_neg (show ¬ (0 : Int32) ≤ -1 by decide)]
        exact ⟨_, rfl, rfl⟩
      · rw [if_neg b1, if_pos f0, f8, hT.2.2.2.1]
        exact ⟨_, rfl, rfl⟩
    · rw [if_neg (by decide), if_neg (by decide), if_neg (by decide), if_neg (by decide), if_neg (by decide), if_neg (by decide), if_neg (show ¬ nI 7 = (6 : Int32) by decide), if_pos (show nI 7 = (7 : Int32) by decide), if_pos (show (6 : Int32) ≤ nI 7 by decide), if_neg (show ¬ nI 7 = (6 : Int32) by decide)]
      rcases d7 with ⟨b1, b2⟩ | ⟨b1, s, c, t, r, sec, hh, tp, hs, hc, ht, hT, hr, hsec, hhh, htp, f0, f1, f2, f3, f7, f8, f9⟩
      · rw [if_pos b1, b2, if_neg (show ¬ (0 : Int32) ≤ -1 by decide)]
        exact ⟨_, rfl, rfl⟩
      · rw [if_neg b1, if_pos f0, f2, f3, sX8_countedOf hx hg hT ht hc (by omega), sM_bentOf hm hg ht hc, Option.bind_some, Option.bind_some, f8, sM_countedBy σm (bentN_le hg ht) (by omega), Option.bind_some]
        exact ⟨_, rfl, rfl⟩
  · rw [if_pos a]
    refine ⟨-1, ?_, rfl⟩
    have ne : ∀ k : Nat, k ≤ 7 → ¬ p1 = nI k := fun k hk z => a (by
      rw [z, nI_T (by omega), show (0 : Int32).toInt = 0 from rfl, show (7 : Int32).toInt = 7 from rfl]
      omega)
    rw [if_neg (show ¬ p1 = (0 : Int32) from ne 0 (by omega)), if_neg (show ¬ p1 = (1 : Int32) from ne 1 (by omega)), if_neg (show ¬ p1 = (2 : Int32) from ne 2 (by omega)), if_neg (show ¬ p1 = (3 : Int32) from ne 3 (by omega)), if_neg (show ¬ p1 = (4 : Int32) from ne 4 (by omega)), if_neg (show ¬ p1 = (5 : Int32) from ne 5 (by omega)), if_neg (show ¬ p1 = (6 : Int32) from ne 6 (by omega)), if_neg (show ¬ p1 = (7 : Int32) from ne 7 (by omega))]
theorem sX2_copy {σ : jS} {o v : Nat} (ho : o = 37 ∧ v = 39 ∨ o = 39 ∧ v = 37) : ∃ σ', fX2_copy o v σ = some σ' ∧ jOff [o, o + 1] σ σ' ∧ (∀ k, 1 ≤ k → k ≤ 7 → σ'.1 o k = σ.1 v k) ∧ ∀ k, k < 8 → σ'.1 (o + 1) k = σ.1 (v + 1) k := by
  have h1 : v ≠ o ∧ v ≠ o + 1 ∧ v + 1 ≠ o ∧ v + 1 ≠ o + 1 ∧ o ≠ o + 1 ∧ o + 1 ≠ o := by rcases ho with ⟨rfl, rfl⟩ | ⟨rfl, rfl⟩ <;> decide
  unfold fX2_copy fX10_copy
  obtain ⟨U, eU, oU, u0, u1, u2, _, _, _, _⟩ := sX10_begin (t := o + 1) σ (σ.1 (v + 1) 0) (σ.1 (v + 1) 1) (σ.1 (v + 1) 2)
  rw [eU, Option.bind_some]
  have uv : U.1 (v + 1) = σ.1 (v + 1) := oU.1 (v + 1) (by simp <;> omega)
  have uo : U.1 v = σ.1 v := oU.1 v (by simp <;> omega)
  simp only [jst_e, Option.bind_some]
  refine ⟨_, rfl, ?_, ?_, ?_⟩
  · exact ((((((((((((oU.mono (by simp)).uT (by simp)).uT (by simp)).uT (by simp)).uT (by simp)).uT (by simp)).uT (by simp)).uT (by simp)).uT (by simp)).uT (by simp)).uT (by simp)).uT (by simp)).uT (by simp)
  · intro k k1 k7
    have n1 : ¬ v = o := h1.1
    have n2 : ¬ v = o + 1 := h1.2.1
    have n3 : ¬ v + 1 = o := h1.2.2.1
    rcases (show k = 1 ∨ k = 2 ∨ k = 3 ∨ k = 4 ∨ k = 5 ∨ k = 6 ∨ k = 7 by omega) with rfl | rfl | rfl | rfl | rfl | rfl | rfl <;> simp [ju_g, n1, n2, n3, uo]
  · intro k k8
    have n3 : ¬ v + 1 = o := h1.2.2.1
    have n4 : ¬ v = o := h1.1
    have n5 : ¬ o + 1 = o := by omega
    rcases (show k = 0 ∨ k = 1 ∨ k = 2 ∨ k = 3 ∨ k = 4 ∨ k = 5 ∨ k = 6 ∨ k = 7 by omega) with rfl | rfl | rfl | rfl | rfl | rfl | rfl | rfl <;> simp [ju_g, n3, n4, n5, uv, u0, u1, u2]
theorem sM_imgL : ∀ (m k f : Nat) (σ : jS), k + m = 10 → m < f → (∀ j, j < k → σ.1 28 j = σ.1 27 j) → ∃ σ', (∀ j31, jloop (fX12_image_B7 j31) f (σ, nI k) = j31 σ') ∧ mOff [28] [] σ σ' ∧ ∀ j, j < 10 → σ'.1 28 j = σ.1 27 j := by
  intro m
  induction m with
  | zero =>
    intro k f σ hk hf h
    obtain ⟨f, rfl⟩ : ∃ g, f = g + 1 := ⟨f - 1, by omega⟩
    obtain rfl : k = 10 := by omega
    refine ⟨σ, fun j => ?_, mOff.rf, h⟩
    rw [jloop_s]
    unfold fX12_image_B7
    exact if_pos (show (10 : Int32) ≤ nI 10 by decide)
  | succ m ih =>
    intro k f σ hk hf h
    obtain ⟨f, rfl⟩ : ∃ g, f = g + 1 := ⟨f - 1, by omega⟩
    obtain ⟨σ', h1, h2, h3⟩ := ih (k + 1) f (ju σ 28 k (σ.1 27 k)) (by omega) (by omega) (fun j hj => by
      rw [ju_n (show (27 : Nat) ≠ 28 by decide), ju_r]
      by_cases a : j = k
      · rw [if_pos a, a]
      · rw [if_neg a]; exact h j (by omega))
    refine ⟨σ', fun j => ?_, (mOff.u (by decide) (by decide)).trans h2, fun j hj => by rw [h3 j hj, ju_n (by decide)]⟩
    rw [jloop_s, ← h1 j]
    unfold fX12_image_B7
    rw [if_neg (show ¬ (10 : Int32) ≤ nI k by rw [show (10 : Int32) = nI 10 from rfl, nI_leI (by omega) (by omega)]; omega), ob_nI (by omega) (by omega), ob_nI (by omega) (by omega), jst_e, nI_cl (by omega), nI_1]
theorem sM_bckL : ∀ (m k f : Nat) (σ : jS), k + m = 10 → m < f → (∀ j, j < k → σ.1 27 j = σ.1 28 j) → ∃ σ', (∀ j36, jloop (fX12_back_B12 j36) f (σ, nI k) = j36 σ') ∧ mOff [27] [] σ σ' ∧ ∀ j, j < 10 → σ'.1 27 j = σ.1 28 j := by
  intro m
  induction m with
  | zero =>
    intro k f σ hk hf h
    obtain ⟨f, rfl⟩ : ∃ g, f = g + 1 := ⟨f - 1, by omega⟩
    obtain rfl : k = 10 := by omega
    refine ⟨σ, fun j => ?_, mOff.rf, h⟩
    rw [jloop_s]
    unfold fX12_back_B12
    exact if_pos (show (10 : Int32) ≤ nI 10 by decide)
  | succ m ih =>
    intro k f σ hk hf h
    obtain ⟨f, rfl⟩ : ∃ g, f = g + 1 := ⟨f - 1, by omega⟩
    obtain ⟨σ', h1, h2, h3⟩ := ih (k + 1) f (ju σ 27 k (σ.1 28 k)) (by omega) (by omega) (fun j hj => by
      rw [ju_n (show (28 : Nat) ≠ 27 by decide), ju_r]
      by_cases a : j = k
      · rw [if_pos a, a]
      · rw [if_neg a]; exact h j (by omega))
    refine ⟨σ', fun j => ?_, (mOff.u (by decide) (by decide)).trans h2, fun j hj => by rw [h3 j hj, ju_n (by decide)]⟩
    rw [jloop_s, ← h1 j]
    unfold fX12_back_B12
    rw [if_neg (show ¬ (10 : Int32) ≤ nI k by rw [show (10 : Int32) = nI 10 from rfl, nI_leI (by omega) (by omega)]; omega), ob_nI (by omega) (by omega), ob_nI (by omega) (by omega), jst_e, nI_cl (by omega), nI_1]
/-- the image -/
def rI (σx σm : jS) (ch : Nat) : Prop := (jb (σx.1 0 11) = 0 ∧ jb (σm.1 0 48) = 0) ∨ (¬ jb (σx.1 0 11) = 0 ∧ ¬ jb (σm.1 0 48) = 0 ∧ dR σx σm ch 39 28)
theorem rI.go {S S' F' : List Nat} {σx σm σx' σm' : jS} {ch ch' : Nat} (h : rI σx σm ch) (hch : ch ≤ ch') (a : jOff S σx σx') (b : mOff S' F' σm σm') (h1 : 39 ∉ S) (h2 : 40 ∉ S) (h3 : 0 ∉ S) (h4 : 28 ∉ S') (h5 : 48 ∉ F') : rI σx' σm' ch' := by
  unfold rI
  rw [a.1 0 h3, b.2.1 48 h5]
  rcases h with h | ⟨g1, g2, g3⟩
  · exact Or.inl h
  · exact Or.inr ⟨g1, g2, g3.go hch a b h1 h2 h4 (by decide)⟩
theorem eq_image {σx σm : jS} {ch : Nat} (hd : dR σx σm ch 37 27) : ∃ r σx' σm', fX11_image σx = some (r, σx') ∧ fX12_image σm = some (r, σm') ∧ dR σx' σm' ch 37 27 ∧ rI σx' σm' ch ∧ jOff [0, 39, 40] σx σx' ∧ mOff [28] [48] σm σm' := by
  unfold fX11_image
  rw [fX12_image_eq]
  obtain ⟨X, eX, oX, x1, x2⟩ := sX2_copy (σ := σx) (o := 39) (v := 37) (Or.inr ⟨rfl, rfl⟩)
  rw [eX, Option.bind_some, jst_e, jst_e]
  have o1 : mOff [28] [48] σm (ju σm 0 48 1) := mOff.f (by decide)
  obtain ⟨M, eM, oM, hM⟩ := sM_imgL 10 0 jN (ju σm 0 48 1) (by omega) (by have := jN_ge; omega) (fun j hj => absurd hj (by omega))
  have eM' : ∀ j31, jloop (fX12_image_B7 j31) jN (ju σm 0 48 1, (0 : Int32)) = j31 M := eM
  rw [eM']
  unfold fX12_image_J31
  rw [o27 0 0 rfl (by omega)]
  have oX1 : jOff [0, 39, 40] σx (ju X 0 11 1) := (oX.mono (by simp)).uT (by simp)
  have oM1 : mOff [28] [48] σm M := o1.trans (oM.mono (by simp) (by simp))
  have m27 : M.1 27 = σm.1 27 := oM1.1 27 (by decide) (by decide)
  have m28 : ∀ j, j < 10 → M.1 28 j = σm.1 27 j := fun j hj => by rw [hM j hj, ju_n (by decide)]
  have dN : dR (ju X 0 11 1) M ch 37 27 := hd.go (Nat.le_refl _) oX1 oM1 (by decide) (by decide) (by decide) (by decide)
  have r0 : (ju X 0 11 1).1 37 2 = σx.1 37 2 := by rw [oX1.1 37 (by decide)]
  have rm : M.1 27 0 = σx.1 37 2 := by rw [m27]; exact hd.1
  refine ⟨σx.1 37 2, ju X 0 11 1, M, by rw [r0], ?_, dN, Or.inr ⟨?_, ?_, ?_⟩, oX1, oM1⟩
  · show some (M.1 27 0, M) = _
    rw [rm]
  · rw [ju_s]; decide
  · rw [oM.2.1 48 (by simp), ju_s]; decide
  · refine hd.cp (Nat.le_refl _) (fun k k1 k7 => ?_) (fun k k8 => ?_) (fun k hk => m28 k hk)
    · rw [ju_n (by decide)]; exact x1 k k1 k7
    · rw [ju_n (by decide)]; exact x2 k k8
theorem eq_back {σx σm : jS} {ch : Nat} (hd : dR σx σm ch 37 27) (hi : rI σx σm ch) : ∃ r σx' σm', fX11_back σx = some (r, σx') ∧ fX12_back σm = some (r, σm') ∧ dR σx' σm' ch 37 27 ∧ jOff [37, 38] σx σx' ∧ mOff [27] [] σm σm' := by
  unfold fX11_back
  rw [fX12_back_eq]
  rcases hi with ⟨g1, g2⟩ | ⟨g1, g2, g3⟩
  · rw [if_pos g1, if_pos g2]
    exact ⟨_, _, _, rfl, rfl, hd, jOff.rf, mOff.rf⟩
  · rw [if_neg g1, if_neg g2]
    obtain ⟨X, eX, oX, x1, x2⟩ := sX2_copy (σ := σx) (o := 37) (v := 39) (Or.inl ⟨rfl, rfl⟩)
    obtain ⟨M, eM, oM, hM⟩ := sM_bckL 10 0 jN σm (by omega) (by have := jN_ge; omega) (fun j hj => absurd hj (by omega))
    have eM' : ∀ j36, jloop (fX12_back_B12 j36) jN (σm, (0 : Int32)) = j36 M := eM
    rw [eX, Option.bind_some, eM']
    unfold fX12_back_J36
    rw [o27 0 0 rfl (by omega)]
    have dN : dR X M ch 37 27 := g3.cp (Nat.le_refl _) x1 x2 hM
    refine ⟨X.1 37 2, X, M, rfl, ?_, dN, oX, oM⟩
    show some (M.1 27 0, M) = _
    rw [dN.1]
