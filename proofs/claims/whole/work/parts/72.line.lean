/-! THE LAW: a line -/
def lFlat (Ls : List (List (Nat × Nat) × List (Nat × Nat))) : List (Nat × Nat) := (Ls.map (fun L => L.1 ++ L.2)).flatten
theorem lFlat_app (Ls : List (List (Nat × Nat) × List (Nat × Nat))) (L : List (Nat × Nat) × List (Nat × Nat)) : lFlat (Ls ++ [L]) = lFlat Ls ++ (L.1 ++ L.2) := by
  unfold lFlat
  simp
/-- the frame of a reading in the reference -/
def mFr (W : Nat) (t : Nat → Int32) (σ0 σ : jS) : Prop := (σ0.1 0 20 = nI W ∧ ∀ i, i < W → σ0.1 12 i = t i) ∧ (∀ c, c ≠ 0 → c < 13 ∨ 17 < c → σ.1 c = σ0.1 c) ∧ σ.2 = σ0.2 ∧ (∀ k, k < 21 ∨ 24 < k → σ.1 0 k = σ0.1 0 k) ∧ (∀ i, i < 130 → σ.1 13 i = σ0.1 13 i ∧ σ.1 14 i = σ0.1 14 i) ∧ (∀ i, i < 61 → σ.1 16 i = σ0.1 16 i ∧ σ.1 17 i = σ0.1 17 i) ∧ σ.1 15 0 = σ0.1 15 0
theorem mFr.g {W : Nat} {t : Nat → Int32} {σ0 σ : jS} (h : mFr W t σ0 σ) {c i : Nat} {v : Int32} (hc : (c = 0 ∧ 21 ≤ i ∧ i ≤ 24) ∨ ((c = 16 ∨ c = 17) ∧ 61 ≤ i) ∨ (c = 15 ∧ i = 1)) : mFr W t σ0 (ju σ c i v) := by
  obtain ⟨b, h1, h2, h3, h4, h5, h6⟩ := h
  refine ⟨b, fun c' c1 c2 => ?_, h2, fun k hk => ?_, fun j hj => ⟨?_, ?_⟩, fun j hj => ⟨?_, ?_⟩, ?_⟩
  · rw [ju_n (by omega)]; exact h1 c' c1 c2
  · rw [ju_g, if_neg (by omega)]; exact h3 k hk
  · rw [ju_g, if_neg (by omega)]; exact (h4 j hj).1
  · rw [ju_g, if_neg (by omega)]; exact (h4 j hj).2
  · rw [ju_g, if_neg (by omega)]; exact (h5 j hj).1
  · rw [ju_g, if_neg (by omega)]; exact (h5 j hj).2
  · rw [ju_g, if_neg (by omega)]; exact h6
theorem mFr.s {W : Nat} {t : Nat → Int32} {σ0 σ σ' : jS} {p : Nat} (h : mFr W t σ0 σ) (k : mS0 W t σ σ' p) : mFr W t σ0 σ' := by
  obtain ⟨b, h1, h2, h3, h4, h5, h6⟩ := h
  obtain ⟨q, k1, k2, k3, k4, k5⟩ := k
  refine ⟨b, fun c c1 c2 => ?_, k2.trans h2, fun k hk => ?_, fun i hi => ?_, fun i hi => ?_, ?_⟩
  · rw [k1 c c1 (by omega) (by omega)]; exact h1 c c1 c2
  · rw [k3 k (by omega) (by omega) (by omega) (by omega)]; exact h3 k hk
  · rw [(k5 i hi).1, (k5 i hi).2]; exact h4 i hi
  · rw [k1 16 (by decide) (by decide) (by decide), k1 17 (by decide) (by decide) (by decide)]; exact h5 i hi
  · rw [k1 15 (by decide) (by decide) (by decide)]; exact h6
abbrev jLs : Type := List (List (Nat × Nat) × List (Nat × Nat))
def mEnds (σ : jS) (Ls : jLs) : Prop := ∀ i, i < Ls.length → σ.1 16 (61 + i) = nI ((lFlat (Ls.take i)).length + (Ls.getD i ([], [])).1.length) ∧ σ.1 17 (61 + i) = nI (lFlat (Ls.take (i + 1))).length
/-- in a line: D laid, e where its condition ends -/
def mO (W : Nat) (t : Nat → Int32) (σ0 σ : jS) (p : Nat) (Ls : jLs) (D : List (Nat × Nat)) (e : Int32) : Prop := mFr W t σ0 σ ∧ σ.1 0 21 = nI p ∧ σ.1 0 22 = -1 ∧ σ.1 0 23 = nI 0 ∧ σ.1 0 24 = nI D.length ∧ (∀ i, i < D.length → σ.1 13 (130 + i) = nI (D.getD i (0, 0)).1 ∧ σ.1 14 (130 + i) = nI (D.getD i (0, 0)).2) ∧ σ.1 15 1 = nI Ls.length ∧ mEnds σ Ls ∧ σ.1 16 (61 + Ls.length) = e
def mX (W : Nat) (t : Nat → Int32) (σ0 σ : jS) (p : Nat) : Prop := mFr W t σ0 σ ∧ σ.1 0 22 = nI p ∧ σ.1 0 21 = nI p
theorem mO.st {W : Nat} {t : Nat → Int32} {σ0 σ : jS} {p : Nat} {Ls : jLs} {D : List (Nat × Nat)} {e : Int32} (h : mO W t σ0 σ p Ls D e) : mS W t σ σ p 0 D := by
  obtain ⟨⟨b, h1, h2, h3, h4, h5, h6⟩, k1, k2, k3, k4, k5, k6⟩ := h
  refine ⟨⟨⟨?_, fun i hi => ?_⟩, fun _ _ _ _ => rfl, rfl, fun _ _ _ _ _ => rfl, k1, fun _ _ => ⟨rfl, rfl⟩⟩, k2, k3, k4, k5⟩
  · rw [h3 20 (by omega)]; exact b.1
  · rw [h1 12 (by decide) (by omega)]; exact b.2 i hi
theorem mEnds.cp {σ σ' : jS} {Ls : jLs} (h : mEnds σ Ls) (a : ∀ i, i < Ls.length → σ'.1 16 (61 + i) = σ.1 16 (61 + i) ∧ σ'.1 17 (61 + i) = σ.1 17 (61 + i)) : mEnds σ' Ls := fun i hi => by
  rw [(a i hi).1, (a i hi).2]; exact h i hi
theorem mO.run {W : Nat} {t : Nat → Int32} {σ0 σ σ' : jS} {p p' : Nat} {Ls : jLs} {D D' : List (Nat × Nat)} {e : Int32} (h : mO W t σ0 σ p Ls D e) (k : mS W t σ σ' p' 0 D') : mO W t σ0 σ' p' Ls D' e := by
  obtain ⟨h0, k1, k2, k3, k4, k5, k6, k7, k8⟩ := h
  obtain ⟨q0, q1, q2, q3, q4⟩ := k
  have z := q0.2.1
  refine ⟨h0.s q0, q0.2.2.2.2.1, q1, q2, q3, q4, ?_, k7.cp (fun i hi => ⟨?_, ?_⟩), ?_⟩
  · rw [z 15 (by decide) (by decide) (by decide)]; exact k6
  · rw [z 16 (by decide) (by decide) (by decide)]
  · rw [z 17 (by decide) (by decide) (by decide)]
  · rw [z 16 (by decide) (by decide) (by decide)]; exact k8
theorem mO.no {W : Nat} {t : Nat → Int32} {σ0 σ σ' : jS} {p p' n : Nat} {Ls : jLs} {D : List (Nat × Nat)} {e : Int32} (h : mO W t σ0 σ p Ls D e) (k : mF W t σ σ' p' n) : mX W t σ0 σ' p' := ⟨h.1.s k.1, k.2.1, k.1.2.2.2.2.1⟩
/-- a new end of a condition -/
theorem mO.at16 {W : Nat} {t : Nat → Int32} {σ0 σ : jS} {p : Nat} {Ls : jLs} {D : List (Nat × Nat)} {e v : Int32} (h : mO W t σ0 σ p Ls D e) : mO W t σ0 (ju σ 16 (61 + Ls.length) v) p Ls D v := by
  obtain ⟨h0, k1, k2, k3, k4, k5, k6, k7, k8⟩ := h
  refine ⟨h0.g (by omega), ?_, ?_, ?_, ?_, fun i hi => ?_, ?_, k7.cp (fun i hi => ⟨?_, ?_⟩), ?_⟩
  · rw [ju_n (by decide)]; exact k1
  · rw [ju_n (by decide)]; exact k2
  · rw [ju_n (by decide)]; exact k3
  · rw [ju_n (by decide)]; exact k4
  · rw [ju_n (by decide), ju_n (by decide)]; exact k5 i hi
  · rw [ju_n (by decide)]; exact k6
  · rw [ju_i (by omega)]
  · rw [ju_n (by decide)]
  · rw [ju_s]
theorem mO.on {W : Nat} {t : Nat → Int32} {σ0 σ : jS} {p : Nat} {Ls : jLs} {D : List (Nat × Nat)} {e : Int32} (h : mO W t σ0 σ p Ls D e) : mO W t σ0 (ju σ 0 21 (σ.1 0 21 + 1)) (p + 1) Ls D e := by
  obtain ⟨h0, k1, k2, k3, k4, k5, k6, k7, k8⟩ := h
  refine ⟨h0.g (by omega), ?_, ?_, ?_, ?_, fun i hi => ?_, ?_, k7.cp (fun i hi => ⟨?_, ?_⟩), ?_⟩
  · rw [ju_s, k1, nI_1]
  · rw [ju_i (by decide)]; exact k2
  · rw [ju_i (by decide)]; exact k3
  · rw [ju_i (by decide)]; exact k4
  · rw [ju_n (by decide), ju_n (by decide)]; exact k5 i hi
  · rw [ju_n (by decide)]; exact k6
  · rw [ju_n (by decide)]
  · rw [ju_n (by decide)]
  · rw [ju_n (by decide)]; exact k8
theorem mO.fin {W : Nat} {t : Nat → Int32} {σ0 σ : jS} {p : Nat} {Ls : jLs} {L : List (Nat × Nat) × List (Nat × Nat)} (h : mO W t σ0 σ p Ls (lFlat Ls ++ (L.1 ++ L.2)) (nI ((lFlat Ls).length + L.1.length))) : ∃ e, mO W t σ0 (ju (ju σ 17 (61 + Ls.length) (nI (lFlat Ls ++ (L.1 ++ L.2)).length)) 15 1 (nI (Ls.length + 1))) p (Ls ++ [L]) (lFlat (Ls ++ [L])) e := by
  obtain ⟨h0, k1, k2, k3, k4, k5, k6, k7, k8⟩ := h
  have hl : (Ls ++ [L]).length = Ls.length + 1 := by simp
  refine ⟨_, (h0.g (by omega)).g (by omega), ?_, ?_, ?_, ?_, fun i hi => ?_, ?_, fun i hi => ⟨?_, ?_⟩, rfl⟩
  · rw [ju_n (by decide), ju_n (by decide)]; exact k1
  · rw [ju_n (by decide), ju_n (by decide)]; exact k2
  · rw [ju_n (by decide), ju_n (by decide)]; exact k3
  · rw [ju_n (by decide), ju_n (by decide), lFlat_app]; exact k4
  · rw [lFlat_app] at hi ⊢
    rw [ju_n (by decide), ju_n (by decide), ju_n (by decide), ju_n (by decide)]; exact k5 i hi
  · rw [ju_s, hl]
  · rw [ju_n (by decide), ju_n (by decide)]
    by_cases z : i = Ls.length
    · subst z
      rw [k8]
      simp [List.getD]
    · have := (k7 i (by omega)).1
      rw [this, List.take_append_of_le_length (by omega)]
      congr 3
      simp [List.getD, List.getElem?_append_left (show i < Ls.length by omega)]
  · rw [ju_n (by decide)]
    by_cases z : i = Ls.length
    · subst z
      rw [ju_s, List.take_of_length_le (by omega), lFlat_app]
    · rw [ju_i (by omega)]
      have := (k7 i (by omega)).2
      rw [this, List.take_append_of_le_length (by omega)]
theorem nar_s {n : Nat} (h : n < 200) : vp_nar .short ((nI n).toInt16.toInt32) = nI n := by
  have : ∀ n, n < 200 → vp_nar .short ((nI n).toInt16.toInt32) = nI n := by decide +kernel
  exact this n h
def lnXs (L : List (Nat × Nat) × List (Nat × Nat)) : List Int32 := (if L.1 = [] then [] else L.1.map jEnc ++ [63]) ++ (L.2.map jEnc ++ [59])
def jLin (L : List (Nat × Nat) × List (Nat × Nat)) : Prop := (L.1 = [] ∨ ∃ f, jSeg L.1 36 f) ∧ (∃ f, jSeg L.2 36 f) ∧ (∀ i ∈ L.1, jGood i) ∧ ∀ i ∈ L.2, jGood i
theorem jSeg.ne {C : List (Nat × Nat)} {d : Nat} {f : (Nat → Int32) → Int32} (h : jSeg C d f) (hd : d ≤ 64) : ¬ C = [] := fun z => by
  subst z
  have := h (fun _ => 0) [] (by simp; omega)
  have e : jrun (fun _ => 0) [] [] = some [] := rfl
  rw [e] at this
  cases this
theorem len_pos {C : List (Nat × Nat)} (h : ¬ C = []) : 1 ≤ C.length := by
  cases C with
  | nil => exact absurd rfl h
  | cons a r => simp
/-- the end of a line in the reference, whatever has been read -/
theorem sM_lineEnd {σ a66 : jS} {n : Nat} (hn : n ≤ 60) (h1 : σ.1 15 1 = nI n) : (ob ((61 : Int32) + (σ.1 15 ((1 : Int32)).toNatClampNeg)) 122 (jst (ju a66 17 (((61 : Int32) + (σ.1 15 ((1 : Int32)).toNatClampNeg))).toNatClampNeg (vp_nar .short ((a66.1 0 24).toInt16.toInt32))) fun (σ3 : jS) => (ob (1 : Int32) 2 (ob (1 : Int32) 2 (jst (ju σ3 15 ((1 : Int32)).toNatClampNeg ((σ3.1 15 ((1 : Int32)).toNatClampNeg) + (1 : Int32))) fun (σ4 : jS) => (some σ4)))))) = some (ju (ju a66 17 (61 + n) (vp_nar .short ((a66.1 0 24).toInt16.toInt32))) 15 1 (a66.1 15 1 + 1)) := by
  have c1 : (1 : Int32).toNatClampNeg = 1 := rfl
  have e : (61 : Int32) + nI n = nI (61 + n) := by
    show nI 61 + nI n = _
    rw [nI_add]
  have o1 : ∀ {o : Option jS}, ob (1 : Int32) 2 o = o := fun {o} => ob_c 1 2 rfl (by omega) (by omega)
  rw [c1, h1, e, ob_nI (by omega) (by omega), nI_cl (by omega), jst_e, o1, o1, jst_e, ju_n (show (15 : Nat) ≠ 17 by decide)]
