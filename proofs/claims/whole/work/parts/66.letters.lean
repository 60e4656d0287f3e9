/-! THE LAW: what is laid, and how it works; the text's letters; states while reading -/
def jop (o : Nat) (a b : Int32) : Int32 := if o = 37 then (if b = 0 then 0 else a - a / b * b) else if o = 38 then (if a = 0 then 0 else if b = 0 then 0 else 1) else if o = 42 then a * b else if o = 43 then a + b else if o = 45 then a - b else if o = 47 then (if b = 0 then 0 else a / b) else if o = 60 then (if b ≤ a then 0 else 1) else if o = 61 then (if a = b then 1 else 0) else if o = 62 then (if a ≤ b then 0 else 1) else (if a = 0 then (if b = 0 then 0 else 1) else 1)
def jstep (env : Nat → Int32) (i : Nat × Nat) (st : List Int32) : Option (List Int32) :=
  if i.1 = 1 then (if st.length < 64 then some (nI i.2 :: st) else none)
  else if i.1 = 2 then (if st.length < 64 then some (env i.2 :: st) else none)
  else if i.1 = 3 then (match st with
    | [] => none
    | a :: r => some ((if a = 0 then 1 else 0) :: r))
  else if i.1 = 4 then (match st with
    | [] => none
    | a :: r => some (-a :: r))
  else (match st with
    | b :: a :: r => some (jop i.1 a b :: r)
    | _ => none)
def jrun (env : Nat → Int32) : List (Nat × Nat) → List Int32 → Option (List Int32)
  | [], st => some st
  | i :: C, st => (jstep env i st).bind (jrun env C)
theorem jrun_app (env : Nat → Int32) (A B : List (Nat × Nat)) (st : List Int32) : jrun env (A ++ B) st = (jrun env A st).bind (jrun env B) := by
  induction A generalizing st with
  | nil => rfl
  | cons i A ih =>
    show (jstep env i st).bind (jrun env (A ++ B)) = ((jstep env i st).bind (jrun env A)).bind (jrun env B)
    cases h : jstep env i st with
    | none => rfl
    | some s => exact ih s
/-- one value more, d places wanted -/
def jSeg (C : List (Nat × Nat)) (d : Nat) (f : (Nat → Int32) → Int32) : Prop := ∀ env st, st.length + d ≤ 64 → jrun env C st = some (f env :: st)
theorem jSeg.mono {C : List (Nat × Nat)} {d d' : Nat} {f : (Nat → Int32) → Int32} (h : jSeg C d f) (hd : d ≤ d') : jSeg C d' f := fun env st q => h env st (by omega)
theorem jSeg.num (n : Nat) : jSeg [(1, n)] 1 (fun _ => nI n) := by
  intro env st h
  show (if st.length < 64 then some (nI n :: st) else none).bind _ = _
  rw [if_pos (by omega)]
  rfl
theorem jSeg.name (n : Nat) : jSeg [(2, n)] 1 (fun env => env n) := by
  intro env st h
  show (if st.length < 64 then some (env n :: st) else none).bind _ = _
  rw [if_pos (by omega)]
  rfl
theorem jSeg.no {C : List (Nat × Nat)} {d : Nat} {f : (Nat → Int32) → Int32} (h : jSeg C d f) : jSeg (C ++ [(3, 0)]) d (fun env => if f env = 0 then 1 else 0) := by
  intro env st q
  rw [jrun_app, h env st q]
  rfl
theorem jSeg.neg {C : List (Nat × Nat)} {d : Nat} {f : (Nat → Int32) → Int32} (h : jSeg C d f) : jSeg (C ++ [(4, 0)]) d (fun env => - f env) := by
  intro env st q
  rw [jrun_app, h env st q]
  rfl
abbrev jOpr (o : Nat) : Prop := o = 37 ∨ o = 38 ∨ o = 42 ∨ o = 43 ∨ o = 45 ∨ o = 47 ∨ o = 60 ∨ o = 61 ∨ o = 62 ∨ o = 124
theorem jSeg.two {A B : List (Nat × Nat)} {d o : Nat} {f g : (Nat → Int32) → Int32} (ho : jOpr o) (h : jSeg A (d + 1) f) (k : jSeg B d g) : jSeg (A ++ (B ++ [(o, 0)])) (d + 1) (fun env => jop o (f env) (g env)) := by
  intro env st q
  rw [jrun_app, h env st q]
  show jrun env (B ++ [(o, 0)]) (f env :: st) = _
  rw [jrun_app, k env _ (by simp only [List.length_cons]; omega)]
  show (jstep env (o, 0) (g env :: f env :: st)).bind _ = _
  unfold jstep
  have h1 : ¬ o = 1 := by omega
  have h2 : ¬ o = 2 := by omega
  have h3 : ¬ o = 3 := by omega
  have h4 : ¬ o = 4 := by omega
  simp only [if_neg h1, if_neg h2, if_neg h3, if_neg h4]
  rfl
/-- as the class lays it -/
def jEnc (i : Nat × Nat) : Int32 := if i.1 = 1 then nI (256 + i.2) else if i.1 = 2 then -1 - nI i.2 else if i.1 = 3 then 33 else if i.1 = 4 then 126 else nI i.1
theorem dvm1 (x : Int32) : x / (-1 : Int32) = -x ∧ x - x / (-1 : Int32) * (-1 : Int32) = 0 := by
  have h : x / (-1 : Int32) = -x := by
    rw [← Int32.toInt_inj, Int32.toInt_div, show (-1 : Int32).toInt = -1 from rfl, Int.tdiv_neg, Int.tdiv_one, Int32.toInt_neg]
  refine ⟨h, ?_⟩
  rw [h, Int32.neg_mul, Int32.mul_neg, Int32.mul_one, Int32.neg_neg, Int32.sub_self]
theorem op_nI {o : Nat} (h : jOpr o) (k : Nat) (hk : k < 128) : (nI o = nI k) = (o = k) := propext (nI_eq (by omega) (by omega))
theorem sX4_joined {σ : jS} {o : Nat} (h : jOpr o) (a b : Int32) : fX4_joined σ (nI o) a b = some (jop o a b) := by
  unfold fX4_joined jop od
  rcases h with rfl | rfl | rfl | rfl | rfl | rfl | rfl | rfl | rfl | rfl
  · show (if b = 0 then some 0 else (if b = 0 then none else some (a - a / b * b))) = some (if b = 0 then 0 else a - a / b * b)
    by_cases c : b = 0 <;> simp [c]
  · show (if a = 0 then some 0 else (if b = 0 then some 0 else some 1)) = some (if a = 0 then 0 else if b = 0 then 0 else 1)
    by_cases c : a = 0 <;> by_cases c' : b = 0 <;> simp [c, c']
  · rfl
  · rfl
  · rfl
  · show (if b = 0 then some 0 else (if b = 0 then none else some (a / b))) = some (if b = 0 then 0 else a / b)
    by_cases c : b = 0 <;> simp [c]
  · show (if b ≤ a then some 0 else some 1) = some (if b ≤ a then 0 else 1)
    by_cases c : b ≤ a
    · rw [if_pos c, if_pos c]
    · rw [if_neg c, if_neg c]
  · show (if a = b then some 1 else some 0) = some (if a = b then 1 else 0)
    by_cases c : a = b
    · rw [if_pos c, if_pos c]
    · rw [if_neg c, if_neg c]
  · show (if a ≤ b then some 0 else some 1) = some (if a ≤ b then 0 else 1)
    by_cases c : a ≤ b
    · rw [if_pos c, if_pos c]
    · rw [if_neg c, if_neg c]
  · show (if a = 0 then (if b = 0 then some 0 else some 1) else some 1) = some (if a = 0 then (if b = 0 then 0 else 1) else 1)
    by_cases c : a = 0 <;> by_cases c' : b = 0 <;> simp [c, c']
theorem sM_twoOf {σ : jS} {o : Nat} (h : jOpr o) (a b : Int32) : fX12_twoOf σ (nI o) a b = some (jop o a b) := by
  unfold fX12_twoOf jop od
  rcases h with rfl | rfl | rfl | rfl | rfl | rfl | rfl | rfl | rfl | rfl
  · show (if b = 0 then some 0 else (if b = -1 then some 0 else (if b = 0 then none else some (a - a / b * b)))) = some (if b = 0 then 0 else a - a / b * b)
    by_cases c : b = 0
    · rw [if_pos c, if_pos c]
    · rw [if_neg c, if_neg c, if_neg c]
      by_cases c' : b = -1
      · rw [if_pos c', c', (dvm1 a).2]
      · rw [if_neg c']
  · show (if a = 0 then some 0 else (if b = 0 then some 0 else some 1)) = some (if a = 0 then 0 else if b = 0 then 0 else 1)
    by_cases c : a = 0 <;> by_cases c' : b = 0 <;> simp [c, c']
  · rfl
  · rfl
  · rfl
  · show (if b = 0 then some 0 else (if b = -1 then some (-a) else (if b = 0 then none else some (a / b)))) = some (if b = 0 then 0 else a / b)
    by_cases c : b = 0
    · rw [if_pos c, if_pos c]
    · rw [if_neg c, if_neg c, if_neg c]
      by_cases c' : b = -1
      · rw [if_pos c', c', (dvm1 a).1]
      · rw [if_neg c']
  · show (if b ≤ a then some 0 else some 1) = some (if b ≤ a then 0 else 1)
    by_cases c : b ≤ a
    · rw [if_pos c, if_pos c]
    · rw [if_neg c, if_neg c]
  · show (if a = b then some 1 else some 0) = some (if a = b then 1 else 0)
    by_cases c : a = b
    · rw [if_pos c, if_pos c]
    · rw [if_neg c, if_neg c]
  · show (if a ≤ b then some 0 else some 1) = some (if a ≤ b then 0 else 1)
    by_cases c : a ≤ b
    · rw [if_pos c, if_pos c]
    · rw [if_neg c, if_neg c]
  · show (if a = 0 then (if b = 0 then some 0 else some 1) else some 1) = some (if a = 0 then (if b = 0 then 0 else 1) else 1)
    by_cases c : a = 0 <;> by_cases c' : b = 0 <;> simp [c, c']
/-- the letter at a place; 200: none of the signs -/
def cL (W : Nat) (t : Nat → Int32) (p : Nat) : Nat := if p < W ∧ 0 ≤ (t p).toInt then (t p).toInt.toNat else 200
def tOk (W : Nat) (t : Nat → Int32) : Prop := W ≤ 120 ∧ ∀ i, i < W → -128 ≤ (t i).toInt ∧ (t i).toInt ≤ 127
def lFX (v : Int32) (k : Nat) : Prop := (v = nI k ∧ k < 128) ∨ (k = 200 ∧ (v = -1 ∨ (128 ≤ v.toInt ∧ v.toInt ≤ 255)))
def lFM (v : Int32) (k : Nat) : Prop := (v = nI k ∧ k < 128) ∨ (k = 200 ∧ v.toInt < 0)
theorem cL_lt {W : Nat} {t : Nat → Int32} {p : Nat} (h : ¬ cL W t p = 200) : p < W := by
  unfold cL at h
  by_cases a : p < W ∧ 0 ≤ (t p).toInt
  · exact a.1
  · rw [if_neg a] at h; exact absurd rfl h
/-- the class while it reads -/
def xS (W : Nat) (t : Nat → Int32) (σ0 σ : jS) (p : Nat) (D : List Int32) : Prop := (σ0.1 7 1 = nI W ∧ ∀ i, i < W → σ0.1 8 i = t i) ∧ (∀ c, c ≠ 7 → c ≠ 9 → σ.1 c = σ0.1 c) ∧ σ.2 = σ0.2 ∧ (∀ k, k ≠ 2 → k ≠ 4 → σ.1 7 k = σ0.1 7 k) ∧ σ.1 7 2 = nI p ∧ σ.1 7 4 = nI D.length ∧ D.length ≤ 121 ∧ ∀ i, i < D.length → σ.1 9 i = D.getD i 0
/-- the reference while it reads -/
def mS0 (W : Nat) (t : Nat → Int32) (σ0 σ : jS) (p : Nat) : Prop := (σ0.1 0 20 = nI W ∧ ∀ i, i < W → σ0.1 12 i = t i) ∧ (∀ c, c ≠ 0 → c ≠ 13 → c ≠ 14 → σ.1 c = σ0.1 c) ∧ σ.2 = σ0.2 ∧ (∀ k, k ≠ 21 → k ≠ 22 → k ≠ 23 → k ≠ 24 → σ.1 0 k = σ0.1 0 k) ∧ σ.1 0 21 = nI p ∧ ∀ i, i < 130 → σ.1 13 i = σ0.1 13 i ∧ σ.1 14 i = σ0.1 14 i
def mS (W : Nat) (t : Nat → Int32) (σ0 σ : jS) (p o : Nat) (D : List (Nat × Nat)) : Prop := mS0 W t σ0 σ p ∧ σ.1 0 22 = -1 ∧ σ.1 0 23 = nI o ∧ σ.1 0 24 = nI D.length ∧ ∀ i, i < D.length → σ.1 13 (130 + i) = nI (D.getD i (0, 0)).1 ∧ σ.1 14 (130 + i) = nI (D.getD i (0, 0)).2
def mF (W : Nat) (t : Nat → Int32) (σ0 σ : jS) (p n : Nat) : Prop := mS0 W t σ0 σ p ∧ σ.1 0 22 = nI p ∧ σ.1 0 24 = nI n
theorem and255 (v : Int32) : (v &&& 255).toInt = v.toInt % 256 := Jvm.Kit.i32_mask v 255 (k := 8) (by decide) (by decide)
theorem sX4_letter {W : Nat} {t : Nat → Int32} {σ0 σ : jS} {p : Nat} {D : List Int32} (hT : tOk W t) (h : xS W t σ0 σ p D) (hp : p ≤ W) : ∃ v, fX4_letter σ = some v ∧ lFX v (cL W t p) := by
  obtain ⟨⟨b1, b2⟩, h1, h2, h3, h4, h5, h6, h7⟩ := h
  have hW := hT.1
  unfold fX4_letter
  rw [h4, h3 1 (by decide) (by decide), b1, if_neg (show ¬ nI p < 0 from fun z => by have := (nI_ltI (b := 0) (by omega) (by omega)).mp z; omega)]
  unfold cL lFX
  by_cases a : p < W
  · rw [if_neg (show ¬ nI W ≤ nI p from fun z => by have := (nI_leI (by omega) (by omega)).mp z; omega), if_neg (show ¬ (120 : Int32) ≤ nI p from fun z => by have := (nI_leI (a := 120) (by omega) (by omega)).mp z; omega), ob_nI (by omega) (by omega), nI_cl (by omega), h1 8 (by decide) (by decide), b2 p a]
    refine ⟨_, rfl, ?_⟩
    have hb := hT.2 p a
    have hm := and255 (t p)
    by_cases c : 0 ≤ (t p).toInt
    · rw [if_pos ⟨a, c⟩]
      refine Or.inl ⟨?_, by omega⟩
      rw [← Int32.toInt_inj, nI_T (by omega), hm]
      omega
    · rw [if_neg (fun z => c z.2)]
      refine Or.inr ⟨rfl, Or.inr ?_⟩
      rw [hm]
      omega
  · rw [if_pos ((nI_leI (by omega) (by omega)).mpr (by omega)), if_neg (fun z => a z.1)]
    exact ⟨_, rfl, Or.inr ⟨rfl, Or.inl rfl⟩⟩
theorem sM_look {W : Nat} {t : Nat → Int32} {σ0 σ : jS} {p : Nat} (hT : tOk W t) (h : mS0 W t σ0 σ p) (hp : p ≤ W) : ∃ v, fX12_look σ = some v ∧ lFM v (cL W t p) := by
  obtain ⟨⟨b1, b2⟩, h1, h2, h3, h4, h5⟩ := h
  have hW := hT.1
  unfold fX12_look
  rw [h4, h3 20 (by decide) (by decide) (by decide) (by decide), b1]
  unfold cL lFM
  by_cases a : p < W
  · rw [if_neg (show ¬ nI W ≤ nI p from fun z => by have := (nI_leI (by omega) (by omega)).mp z; omega), ob_nI (by omega) (by omega), nI_cl (by omega), h1 12 (by decide) (by decide) (by decide), b2 p a]
    refine ⟨_, rfl, ?_⟩
    have hb := hT.2 p a
    by_cases c : 0 ≤ (t p).toInt
    · rw [if_pos ⟨a, c⟩]
      refine Or.inl ⟨?_, by omega⟩
      rw [← Int32.toInt_inj, nI_T (by omega)]
      omega
    · rw [if_neg (fun z => c z.2)]
      exact Or.inr ⟨rfl, by omega⟩
  · rw [if_pos ((nI_leI (by omega) (by omega)).mpr (by omega)), if_neg (fun z => a z.1)]
    exact ⟨_, rfl, Or.inr ⟨rfl, by decide⟩⟩
theorem lFX.is {v : Int32} {c : Nat} (h : lFX v c) (k : Nat) (hk : k < 128) : (v = nI k) = (c = k) := by
  refine propext ⟨fun z => ?_, fun z => ?_⟩
  · rcases h with ⟨h1, h2⟩ | ⟨h1, h2⟩
    · rw [z] at h1
      exact ((nI_eq (by omega) (by omega)).mp h1).symm
    · exfalso
      have : v.toInt = (k : Int) := by rw [z, nI_T (by omega)]
      rcases h2 with h2 | h2
      · rw [h2, show (-1 : Int32).toInt = -1 from rfl] at this; omega
      · omega
  · rcases h with ⟨h1, h2⟩ | ⟨h1, h2⟩
    · rw [h1, z]
    · omega
theorem lFM.is {v : Int32} {c : Nat} (h : lFM v c) (k : Nat) (hk : k < 128) : (v = nI k) = (c = k) := by
  refine propext ⟨fun z => ?_, fun z => ?_⟩
  · rcases h with ⟨h1, h2⟩ | ⟨h1, h2⟩
    · rw [z] at h1
      exact ((nI_eq (by omega) (by omega)).mp h1).symm
    · exfalso
      have : v.toInt = (k : Int) := by rw [z, nI_T (by omega)]
      omega
  · rcases h with ⟨h1, h2⟩ | ⟨h1, h2⟩
    · rw [h1, z]
    · omega
abbrev dgt (c : Nat) : Prop := 48 ≤ c ∧ c ≤ 57
theorem sX4_digit {σ : jS} {v : Int32} {c : Nat} (h : lFX v c) : fX4_isDigit σ v = some (jo (dgt c)) := by
  unfold fX4_isDigit
  have h48 : (48 : Int32).toInt = 48 := rfl
  have h57 : (57 : Int32).toInt = 57 := rfl
  rcases h with ⟨rfl, h2⟩ | ⟨rfl, h2⟩
  · simp only [i_lt, h48, h57, nI_T (show c < 2 ^ 31 by omega)]
    by_cases a : (c : Int) < 48
    · rw [if_pos a, jo_0 (by omega)]
    · rw [if_neg a]
      by_cases b : (57 : Int) < c
      · rw [if_pos b, jo_0 (by omega)]
      · rw [if_neg b, jo_1 (by omega)]
  · rw [jo_0 (by omega)]
    rcases h2 with rfl | h2
    · rfl
    · rw [if_neg (by rw [i_lt, h48]; omega), if_pos (by rw [i_lt, h57]; omega)]
theorem sM_digit {σ : jS} {v : Int32} {c : Nat} (h : lFM v c) : fX12_in σ v (48 : Int32) (57 : Int32) = some (jo (dgt c)) := by
  rw [sM_in]
  congr 1
  refine jo_eq ?_
  have h48 : (48 : Int32).toInt = 48 := rfl
  have h57 : (57 : Int32).toInt = 57 := rfl
  rcases h with ⟨rfl, h2⟩ | ⟨rfl, h2⟩
  · rw [nI_T (by omega), h48, h57]; omega
  · rw [h48, h57]; omega
theorem lFX.dg {v : Int32} {c : Nat} (h : lFX v c) (hd : dgt c) : v = nI c := by
  rcases h with h | h
  · exact h.1
  · omega
theorem lFM.dg {v : Int32} {c : Nat} (h : lFM v c) (hd : dgt c) : v = nI c := by
  rcases h with h | h
  · exact h.1
  · omega
/-- one letter on -/
theorem xS.on {W : Nat} {t : Nat → Int32} {σ0 σ : jS} {p : Nat} {D : List Int32} (h : xS W t σ0 σ p D) : xS W t σ0 (ju σ 7 2 (σ.1 7 2 + 1)) (p + 1) D := by
  obtain ⟨b, h1, h2, h3, h4, h5, h6, h7⟩ := h
  refine ⟨b, fun c c1 c2 => ?_, ?_, fun k k1 k2 => ?_, ?_, ?_, h6, fun i hi => ?_⟩
  · rw [ju_n c1]; exact h1 c c1 c2
  · rw [ju_2]; exact h2
  · rw [ju_i k1]; exact h3 k k1 k2
  · rw [ju_s, h4, nI_1]
  · rw [ju_i (by decide)]; exact h5
  · rw [ju_n (by decide)]; exact h7 i hi
theorem mS0.on {W : Nat} {t : Nat → Int32} {σ0 σ : jS} {p : Nat} (h : mS0 W t σ0 σ p) : mS0 W t σ0 (ju σ 0 21 (σ.1 0 21 + 1)) (p + 1) := by
  obtain ⟨b, h1, h2, h3, h4, h5⟩ := h
  refine ⟨b, fun c c1 c2 c3 => ?_, ?_, fun k k1 k2 k3 k4 => ?_, ?_, fun i hi => ?_⟩
  · rw [ju_n c1]; exact h1 c c1 c2 c3
  · rw [ju_2]; exact h2
  · rw [ju_i k1]; exact h3 k k1 k2 k3 k4
  · rw [ju_s, h4, nI_1]
  · rw [ju_n (by decide), ju_n (by decide)]; exact h5 i hi
theorem mS.on {W : Nat} {t : Nat → Int32} {σ0 σ : jS} {p o : Nat} {D : List (Nat × Nat)} (h : mS W t σ0 σ p o D) : mS W t σ0 (ju σ 0 21 (σ.1 0 21 + 1)) (p + 1) o D := by
  obtain ⟨b, h1, h2, h3, h4⟩ := h
  refine ⟨b.on, ?_, ?_, ?_, fun i hi => ?_⟩
  · rw [ju_i (by decide)]; exact h1
  · rw [ju_i (by decide)]; exact h2
  · rw [ju_i (by decide)]; exact h3
  · rw [ju_n (by decide), ju_n (by decide)]; exact h4 i hi
theorem gDx1 {T : List Int32} {b : Int32} {i : Nat} (h : i < T.length) : (T ++ [b]).getD i 0 = T.getD i 0 := by
  simp [List.getD, List.getElem?_append_left h]
theorem gDx2 {T : List Int32} {b : Int32} : (T ++ [b]).getD T.length 0 = b := by
  simp [List.getD]
theorem gDm1 {T : List (Nat × Nat)} {b : Nat × Nat} {i : Nat} (h : i < T.length) : (T ++ [b]).getD i (0, 0) = T.getD i (0, 0) := by
  simp [List.getD, List.getElem?_append_left h]
theorem gDm2 {T : List (Nat × Nat)} {b : Nat × Nat} : (T ++ [b]).getD T.length (0, 0) = b := by
  simp [List.getD]
/-- the class lays a sign -/
theorem xS.draw {W : Nat} {t : Nat → Int32} {σ0 σ : jS} {p : Nat} {D : List Int32} (h : xS W t σ0 σ p D) (v : Int32) (hl : D.length ≤ 120) : ∃ σ', fX4_draw σ v = some σ' ∧ xS W t σ0 σ' p (D ++ [v]) := by
  obtain ⟨b, h1, h2, h3, h4, h5, h6, h7⟩ := h
  have hlen : (D ++ [v]).length = D.length + 1 := by simp
  unfold fX4_draw
  rw [h5, if_neg (show ¬ (121 : Int32) ≤ nI D.length from fun z => by have := (nI_leI (a := 121) (by omega) (by omega)).mp z; omega), ob_nI (by omega) (by omega), nI_cl (by omega), jst_e, jst_e]
  refine ⟨_, rfl, b, fun c c1 c2 => ?_, ?_, fun k k1 k2 => ?_, ?_, ?_, by omega, fun i hi => ?_⟩
  · rw [ju_n c1, ju_n c2]; exact h1 c c1 c2
  · rw [ju_2, ju_2]; exact h2
  · rw [ju_i k2, ju_n (by decide)]; exact h3 k k1 k2
  · rw [ju_i (by decide), ju_n (by decide)]; exact h4
  · rw [ju_s, ju_n (by decide), h5, nI_1, hlen]
  · rw [ju_n (by decide)]
    by_cases e : i = D.length
    · subst e
      rw [ju_s, gDx2]
    · rw [ju_i e, gDx1 (by omega)]
      exact h7 i (by omega)
/-- when it is full, too -/
theorem xS.drawAny {W : Nat} {t : Nat → Int32} {σ0 σ : jS} {p : Nat} {D : List Int32} (h : xS W t σ0 σ p D) (v : Int32) : ∃ σ' D', fX4_draw σ v = some σ' ∧ xS W t σ0 σ' p D' := by
  by_cases a : D.length ≤ 120
  · obtain ⟨σ', e, k⟩ := h.draw v a
    exact ⟨σ', _, e, k⟩
  · refine ⟨σ, D, ?_, h⟩
    unfold fX4_draw
    rw [h.2.2.2.2.2.1, if_pos (show (121 : Int32) ≤ nI D.length from (nI_leI (a := 121) (by omega) (by have := h.2.2.2.2.2.2.1; omega)).mpr (by omega))]
theorem nar_b {o : Nat} (h : o < 128) : vp_nar .byte ((nI o).toInt8.toInt32) = nI o := by
  have : ∀ o, o < 128 → vp_nar .byte ((nI o).toInt8.toInt32) = nI o := by decide +kernel
  exact this o h
theorem mS0.step {W : Nat} {t : Nat → Int32} {σ0 σ : jS} {p n a : Nat} {b : Int32} (h : mS0 W t σ0 σ p) (h4 : σ.1 0 24 = nI n) (hn : n < 130) (ha : a < 128) : ∃ σ', fX12_addStep σ (nI a) b = some σ' ∧ σ' = ju (ju (ju σ 13 (130 + n) (nI a)) 14 (130 + n) b) 0 24 (nI (n + 1)) ∧ mS0 W t σ0 σ' p := by
  obtain ⟨q, h1, h2, h3, h5, h6⟩ := h
  unfold fX12_addStep
  have e : (130 : Int32) + nI n = nI (130 + n) := by
    show nI 130 + nI n = _
    rw [nI_add]
  rw [h4, e, ob_nI (by omega) (by omega), nI_cl (by omega), jst_e, nar_b ha]
  have e2 : (ju σ 13 (130 + n) (nI a)).1 0 24 = nI n := by rw [ju_n (by decide), h4]
  rw [e2, e, ob_nI (by omega) (by omega), nI_cl (by omega), jst_e, jst_e]
  have e3 : (ju (ju σ 13 (130 + n) (nI a)) 14 (130 + n) b).1 0 24 = nI n := by rw [ju_n (by decide), e2]
  rw [e3, nI_1]
  refine ⟨_, rfl, rfl, q, fun c c1 c2 c3 => ?_, ?_, fun k k1 k2 k3 k4 => ?_, ?_, fun i hi => ?_⟩
  · rw [ju_n c1, ju_n c3, ju_n c2]; exact h1 c c1 c2 c3
  · rw [ju_2, ju_2, ju_2]; exact h2
  · rw [ju_i k4, ju_n (by decide), ju_n (by decide)]; exact h3 k k1 k2 k3 k4
  · rw [ju_i (by decide), ju_n (by decide), ju_n (by decide)]; exact h5
  · constructor
    · rw [ju_n (by decide), ju_n (by decide), ju_i (by omega)]; exact (h6 i hi).1
    · rw [ju_n (by decide), ju_i (by omega), ju_n (by decide)]; exact (h6 i hi).2
theorem mS.step {W : Nat} {t : Nat → Int32} {σ0 σ : jS} {p o : Nat} {D : List (Nat × Nat)} (h : mS W t σ0 σ p o D) (hl : D.length < 130) {a b : Nat} (ha : a < 128) : ∃ σ', fX12_addStep σ (nI a) (nI b) = some σ' ∧ mS W t σ0 σ' p o (D ++ [(a, b)]) := by
  obtain ⟨q, h1, h2, h3, h4⟩ := h
  obtain ⟨σ', e, rfl, k⟩ := q.step (b := nI b) h3 hl ha
  have hlen : (D ++ [(a, b)]).length = D.length + 1 := by simp
  refine ⟨_, e, k, ?_, ?_, ?_, fun i hi => ?_⟩
  · rw [ju_i (by decide), ju_n (by decide), ju_n (by decide)]; exact h1
  · rw [ju_i (by decide), ju_n (by decide), ju_n (by decide)]; exact h2
  · rw [ju_s, hlen]
  · by_cases e : i = D.length
    · subst e
      rw [gDm2]
      constructor
      · rw [ju_n (by decide), ju_n (by decide), ju_s]
      · rw [ju_n (by decide), ju_s]
    · rw [gDm1 (by omega)]
      have z := h4 i (by omega)
      constructor
      · rw [ju_n (by decide), ju_n (by decide), ju_i (by omega)]; exact z.1
      · rw [ju_n (by decide), ju_i (by omega), ju_n (by decide)]; exact z.2
theorem mF.step {W : Nat} {t : Nat → Int32} {σ0 σ : jS} {p n a : Nat} {b : Int32} (h : mF W t σ0 σ p n) (hl : n < 130) (ha : a < 128) : ∃ σ', fX12_addStep σ (nI a) b = some σ' ∧ mF W t σ0 σ' p (n + 1) := by
  obtain ⟨q, h1, h2⟩ := h
  obtain ⟨σ', e, rfl, k⟩ := q.step (b := b) h2 hl ha
  refine ⟨_, e, k, ?_, ?_⟩
  · rw [ju_i (by decide), ju_n (by decide), ju_n (by decide)]; exact h1
  · rw [ju_s]
/-- a FAULT is set -/
theorem mS.fault {W : Nat} {t : Nat → Int32} {σ0 σ : jS} {p o : Nat} {D : List (Nat × Nat)} (h : mS W t σ0 σ p o D) : ∃ σ', fX12_faulty σ = some σ' ∧ mF W t σ0 σ' p D.length := by
  obtain ⟨⟨b, h1, h2, h3, h4, h5⟩, k1, k2, k3, k4⟩ := h
  unfold fX12_faulty
  rw [k1, if_neg (show ¬ (0 : Int32) ≤ -1 by decide), jst_e, h4]
  refine ⟨_, rfl, ⟨b, fun c c1 c2 c3 => ?_, ?_, fun k z1 z2 z3 z4 => ?_, ?_, fun i hi => ?_⟩, ?_, ?_⟩
  · rw [ju_n c1]; exact h1 c c1 c2 c3
  · rw [ju_2]; exact h2
  · rw [ju_i z2]; exact h3 k z1 z2 z3 z4
  · rw [ju_i (by decide)]; exact h4
  · rw [ju_n (by decide), ju_n (by decide)]; exact h5 i hi
  · rw [ju_s]
  · rw [ju_i (by decide)]; exact k3
