/-! held of both sides -/
def fOk (ch n : Nat) (f : Nat → Nat) : Prop := (∀ k, k < n → f k < ch) ∧ ∀ i j, i < n → j < n → f i = f j → i = j
def mvi (n p k : Nat) : Nat := if k < p then k else if k + 1 < n then k + 1 else p
theorem mvf_i {f : Nat → Nat} {n p k : Nat} : mvf f n p k = f (mvi n p k) := by
  unfold mvf mvi
  by_cases a : k < p
  · rw [if_pos a, if_pos a]
  · rw [if_neg a, if_neg a]
    by_cases b : k + 1 < n
    · rw [if_pos b, if_pos b]
    · rw [if_neg b, if_neg b]
theorem mvi_lt {n p k : Nat} (hp : p < n) (hk : k < n) : mvi n p k < n := by
  unfold mvi
  split
  · exact hk
  · split <;> omega
theorem mvi_inj {n p i j : Nat} (hp : p < n) (hi : i < n) (hj : j < n) (h : mvi n p i = mvi n p j) : i = j := by
  unfold mvi at h
  split at h <;> split at h <;> (try split at h) <;> (try split at h) <;> omega
theorem mvi_sur {n p i : Nat} (hp : p < n) (hi : i < n) : ∃ k, k < n ∧ mvi n p k = i := by
  unfold mvi
  by_cases a : i < p
  · exact ⟨i, hi, if_pos a⟩
  · by_cases b : i = p
    · refine ⟨n - 1, by omega, ?_⟩
      rw [if_neg (by omega), if_neg (by omega), b]
    · refine ⟨i - 1, by omega, ?_⟩
      rw [if_neg (by omega), if_pos (by omega)]
      omega
theorem fOk.mv {ch n p : Nat} {f : Nat → Nat} (h : fOk ch n f) (hp : p < n) : fOk ch n (mvf f n p) := by
  refine ⟨fun k hk => ?_, fun i j hi hj e => ?_⟩
  · rw [mvf_i]; exact h.1 _ (mvi_lt hp hk)
  · rw [mvf_i, mvf_i] at e
    exact mvi_inj hp hi hj (h.2 _ _ (mvi_lt hp hi) (mvi_lt hp hj) e)
/-- the class's queue as a row -/
def xLn (σ : jS) (o s n : Nat) (f : Nat → Nat) : Prop := σ.1 o 2 = nI s ∧ σ.1 o 7 = nI n ∧ ∀ k, k < n → σ.1 (o + 1) k = nI (f k)
theorem xLn.go {S : List Nat} {σ σ' : jS} {o s n : Nat} {f : Nat → Nat} (h : xLn σ o s n f) (k : jOff S σ σ') (h1 : o ∉ S) (h2 : o + 1 ∉ S) : xLn σ' o s n f := by
  unfold xLn at *
  rw [k.1 o h1, k.1 (o + 1) h2]
  exact h
theorem sX_endL {o n p : Nat} {f : Nat → Nat} (hn : n ≤ 9) : ∀ (m k g : Nat) (σ : jS), k + m + 1 = n → m < g → p ≤ k → σ.1 o 7 = nI n → (∀ i, i < n → σ.1 (o + 1) i = nI (if i < p then f i else if i < k then f (i + 1) else f i)) → ∃ σ', (∀ j39, jloop (fX5_sendToEnd_B9 o j39) g (σ, nI k) = j39 σ') ∧ jOff [o + 1] σ σ' ∧ ∀ i, i + 1 < n → σ'.1 (o + 1) i = nI (if i < p then f i else f (i + 1)) := by
  intro m
  induction m with
  | zero =>
    intro k g σ hk hg hp h7 h
    obtain ⟨g, rfl⟩ : ∃ g', g = g' + 1 := ⟨g - 1, by omega⟩
    refine ⟨σ, fun j => ?_, jOff.rf, fun i hi => ?_⟩
    · rw [jloop_s]
      unfold fX5_sendToEnd_B9
      rw [if_pos (show σ.1 o 7 ≤ nI k + 1 by rw [h7, nI_1, nI_leI (by omega) (by omega)]; omega)]
    · rw [h i (by omega)]
      by_cases a : i < p
      · rw [if_pos a, if_pos a]
      · rw [if_neg a, if_neg a, if_pos (by omega)]
  | succ m ih =>
    intro k g σ hk hg hp h7 h
    obtain ⟨g, rfl⟩ : ∃ g', g = g' + 1 := ⟨g - 1, by omega⟩
    obtain ⟨σ', h1, h2, h3⟩ := ih (k + 1) g (ju σ (o + 1) k (nI (f (k + 1)))) (by omega) (by omega) (by omega) (by rw [ju_n (by omega), h7]) (by
      intro i hi
      rw [ju_r]
      by_cases a : i = k
      · subst a
        rw [if_pos rfl, if_neg (by omega), if_pos (by omega)]
      · rw [if_neg a, h i hi]
        by_cases b : i < p
        · rw [if_pos b, if_pos b]
        · rw [if_neg b, if_neg b]
          by_cases c : i < k
          · rw [if_pos c, if_pos (by omega)]
          · rw [if_neg c, if_neg (by omega)])
    refine ⟨σ', fun j => ?_, (jOff.u (by simp)).trans h2, h3⟩
    rw [jloop_s, ← h1 j]
    unfold fX5_sendToEnd_B9
    rw [if_neg (show ¬ σ.1 o 7 ≤ nI k + 1 by rw [h7, nI_1, nI_leI (by omega) (by omega)]; omega), nI_1, ob_nI (by omega) (by omega), ob_nI (by omega) (by omega), jst_e, nI_cl (by omega), nI_cl (by omega), h (k + 1) (by omega), if_neg (by omega), if_neg (by omega)]
theorem sX_sendToEnd {σ : jS} {o s n p : Nat} {f : Nat → Nat} (hn : n ≤ 9) (hp : p < n) (h : xLn σ o s n f) : ∃ σ', fX5_sendToEnd o σ (nI p) = some σ' ∧ jOff [o + 1] σ σ' ∧ xLn σ' o s n (mvf f n p) := by
  obtain ⟨U, h1, h2, h3⟩ := sX_endL (p := p) (f := f) hn (n - 1 - p) p jN σ (by omega) (by have := jN_ge; omega) (Nat.le_refl _) h.2.1 (by
    intro i hi
    rw [h.2.2 i hi]
    by_cases a : i < p
    · rw [if_pos a]
    · rw [if_neg a, if_neg a])
  unfold fX5_sendToEnd
  rw [ob_nI (by omega) (by omega), jlet_e, h1]
  have e7 : U.1 o 7 = nI n := by rw [h2.1 o (by simp), h.2.1]
  have e2 : U.1 o 2 = nI s := by rw [h2.1 o (by simp), h.1]
  rw [e7, show nI n - (1 : Int32) = nI (n - 1) from pk_sub (a := n) (b := 1) (by omega), ob_nI (by omega) (by omega), jst_e, nI_cl (by omega), nI_cl (by omega), h.2.2 p hp]
  refine ⟨_, rfl, h2.trans (jOff.u (by simp)), ?_, ?_, fun k hk => ?_⟩
  · rw [ju_n (by omega), e2]
  · rw [ju_n (by omega), e7]
  · rw [ju_r]
    unfold mvf
    by_cases a : k = n - 1
    · rw [if_pos a, if_neg (by omega), if_neg (by omega)]
    · rw [if_neg a, h3 k (by omega)]
      by_cases b : k < p
      · rw [if_pos b, if_pos b]
      · rw [if_neg b, if_neg b, if_pos (by omega)]
/-- passing over the one that is away (99: none is) -/
def pv (f : Nat → Nat) (n ab p : Nat) : Nat := if p < n ∧ f p = ab then p + 1 else p
def abI (ab : Nat) : Int32 := if ab = 99 then -1 else nI ab
theorem abI_eq {x ab : Nat} (hx : x < 9) : (nI x = abI ab) = (x = ab ∨ (ab ≠ 99 ∧ nI x = nI ab)) := by
  unfold abI
  by_cases a : ab = 99
  · rw [if_pos a]
    refine propext ⟨fun z => ?_, fun z => ?_⟩
    · have := congrArg Int32.toInt z
      rw [nI_T (by omega), show (-1 : Int32).toInt = -1 from rfl] at this
      omega
    · rcases z with z | z
      · omega
      · exact absurd a z.1
  · rw [if_neg a]
    exact propext ⟨fun z => Or.inr ⟨a, z⟩, fun z => by
      rcases z with z | z
      · rw [z]
      · exact z.2⟩
theorem abI_n {x ab : Nat} (hx : x < 9) (ha : ab < 100) : (nI x = abI ab) = (x = ab) := by
  rw [abI_eq hx]
  refine propext ⟨fun z => ?_, fun z => Or.inl z⟩
  rcases z with z | z
  · exact z
  · exact (nI_eq (by omega) (by omega)).mp z.2
theorem sX_pass {σ : jS} {o s n p ab ch : Nat} {f : Nat → Nat} (h : xLn σ o s n f) (hf : fOk ch n f) (hc : ch ≤ 9) (hn : n ≤ 9) (hp : p < 100) (ha : ab < 100) : fX5_passingOver o σ (abI ab) (nI p) = some (nI (pv f n ab p)) := by
  unfold fX5_passingOver pv
  rw [h.2.1]
  by_cases a : p < n
  · have hfp := hf.1 p a
    rw [if_neg (fun z => by have := (nI_leI (by omega) (by omega)).mp z; omega), ob_nI (by omega) (by omega), nI_cl (by omega), h.2.2 p a, nI_1]
    simp only [abI_n (show f p < 9 by omega) ha]
    by_cases b : f p = ab
    · rw [if_pos b, if_pos ⟨a, b⟩]
    · rw [if_neg b, if_neg (fun z => b z.2)]
  · rw [if_pos ((nI_leI (by omega) (by omega)).mpr (by omega)), if_neg (fun z => a z.1)]
theorem pv_le {f : Nat → Nat} {n ab p : Nat} : p ≤ pv f n ab p ∧ pv f n ab p ≤ p + 1 := by
  unfold pv
  split <;> omega
theorem sM_there {σ : jS} {n p ab ch : Nat} {f : Nat → Nat} (h : mLn σ n f) (hf : fOk ch n f) (hc : ch ≤ 9) (hn : n ≤ 9) (hp : p ≤ n) (ha : ab < 100) : fX12_thereFrom σ (nI p) (abI ab) = some (if pv f n ab p < n then nI (pv f n ab p) else -1) := by
  have st : ∀ (g : Int32 → Option Int32) (k : Nat), k ≤ n → fX12_thereFrom_B2 σ (abI ab) g (nI k) = if k < n then (if f k = ab then g (nI (k + 1)) else some (nI k)) else some (-1) := by
    intro g k hk
    unfold fX12_thereFrom_B2
    rw [h.1]
    by_cases a : k < n
    · have hfk := hf.1 k a
      rw [if_neg (fun z => by have := (nI_leI (by omega) (by omega)).mp z; omega), ob_nI (by omega) (by omega), nI_cl (by omega), h.2 k a, nI_1, if_pos a]
      simp only [abI_n (show f k < 9 by omega) ha]
    · rw [if_pos ((nI_leI (by omega) (by omega)).mpr (by omega)), if_neg a]
  unfold fX12_thereFrom
  obtain ⟨g, hg⟩ : ∃ g, jN = g + 1 + 1 := ⟨jN - 2, by have := jN_ge; omega⟩
  rw [hg, jloop_s, st _ p hp]
  by_cases a : p < n
  · rw [if_pos a]
    by_cases b : f p = ab
    · have e : pv f n ab p = p + 1 := if_pos ⟨a, b⟩
      rw [if_pos b, e, jloop_s, st _ (p + 1) (by omega)]
      by_cases c : p + 1 < n
      · rw [if_pos c, if_pos c, if_neg (fun z => by have := hf.2 (p + 1) p c a (by rw [z, b]); omega)]
      · rw [if_neg c, if_neg c]
    · have e : pv f n ab p = p := if_neg (fun z => b z.2)
      rw [if_neg b, e, if_pos a]
  · have e : pv f n ab p = p := if_neg (fun z => a z.1)
    rw [if_neg a, e, if_neg a]
/-- who counts then; how many wait -/
def ht (f : Nat → Nat) (n ab : Nat) : Nat := if pv f n ab (pv f n ab 0 + 1) < n then f (pv f n ab (pv f n ab 0 + 1)) else 9
def hq (n ab : Nat) : Nat := if ab = 99 then n - 1 else n - 2
theorem ht_ok {ch n ab : Nat} {f : Nat → Nat} (hf : fOk ch n f) (h0 : pv f n ab 0 < n) : cOk ch (ht f n ab) (f (pv f n ab 0)) := by
  have h1 := pv_le (f := f) (n := n) (ab := ab) (p := pv f n ab 0 + 1)
  unfold ht
  by_cases a : pv f n ab (pv f n ab 0 + 1) < n
  · rw [if_pos a]
    exact Or.inr ⟨hf.1 _ a, fun z => by have := hf.2 _ _ a h0 z; omega⟩
  · rw [if_neg a]
    exact Or.inl rfl
theorem abI_m1 {ab : Nat} (ha : ab < 100) : (abI ab = -1) = (ab = 99) := by
  unfold abI
  by_cases a : ab = 99
  · rw [if_pos a]; exact propext ⟨fun _ => a, fun _ => rfl⟩
  · rw [if_neg a]
    refine propext ⟨fun z => ?_, fun z => absurd z a⟩
    have := congrArg Int32.toInt z
    rw [nI_T (by omega), show (-1 : Int32).toInt = -1 from rfl] at this
    omega
theorem abI_0 {ab : Nat} (ha : ab < 100) : (0 ≤ abI ab) = ¬ (ab = 99) := by
  unfold abI
  by_cases a : ab = 99
  · rw [if_pos a]; exact propext ⟨fun z => absurd z (by decide), fun z => absurd a z⟩
  · rw [if_neg a]
    exact propext ⟨fun _ => a, fun _ => nI_pos' (by omega)⟩
theorem sX_hstep {ch : Nat} {V : Nat → Nat → Int32} {lw : jL} {o s n c m0 bell ab tm times aw j : Nat} {f : Nat → Nat} {σx : jS} {s12 : jS × Int32 × Int32 × Int32 × Int32 → Option (Int32 × jS)} (ho : jLn o) (hx : nX σx ch V) (hg : nG ch V) (hlx : lX σx lw) (hO : lOk lw) (hs : s < 3) (hn : n ≤ 9) (hc : c < ch) (hb : bell ≤ 3600) (hL : xLn σx o s n f) (hf : fOk ch n f) (hab : ab = if 0 < aw then c else 99) (haw : aw ≤ 9) (htm : tm ≤ 3600) (htimes : times ≤ 3600) (hj : j < 3600) (h0 : pv f n ab 0 < n) (h2n : ab = 99 ∨ 2 ≤ n) : ∃ U, jOff [11, 12, 14, 15] σx U ∧ fX5_oftenWhileHeld_B12 o (nI c) (nI m0) (nI bell) s12 (σx, nI tm, nI times, nI aw, nI j) = (if tm + tSec V lw s (f (pv f n ab 0)) (ht f n ab) (hq n ab) ≤ bell then (Option.bind (fX5_sendToEnd o U (nI (pv f n ab 0))) fun (q4 : jS) => (s12 (q4, nI (tm + tSec V lw s (f (pv f n ab 0)) (ht f n ab) (hq n ab)), nI (if f (pv f n ab 0) = c then times + 1 else times), nI (if f (pv f n ab 0) = c then (if times + 1 = 1 then m0 else 0) else aw - 1), nI (j + 1)))) else some (nI times, U)) := by
  have hbo := jLn_b ho
  have hc9 := hx.1
  have ha : ab < 100 := by rw [hab]; split <;> omega
  have hp0 := pv_le (f := f) (n := n) (ab := ab) (p := 0)
  have hp1 := pv_le (f := f) (n := n) (ab := ab) (p := pv f n ab 0 + 1)
  have hf0 := hf.1 _ h0
  obtain ⟨U, eU, oU, TU, _⟩ := sX8_think (q := hq n ab) hx hg hlx hO hs hf0 (ht_ok hf h0)
  have bS := tSec_b hO V s (f (pv f n ab 0)) (ht f n ab) (hq n ab)
  have hLU : xLn U o s n f := hL.go oU (by simp <;> omega) (by simp <;> omega)
  refine ⟨U, oU, ?_⟩
  have e30 : fX5_oftenWhileHeld_B12 o (nI c) (nI m0) (nI bell) s12 (σx, nI tm, nI times, nI aw, nI j) = fX5_oftenWhileHeld_B12_J30 o (nI c) (nI m0) (nI bell) s12 (σx, nI tm, nI times, nI aw, nI j) (abI ab) := by
    rw [fX5_oftenWhileHeld_B12_eq]
    rw [if_neg (show ¬ (3600 : Int32) ≤ nI j by rw [show (3600 : Int32) = nI 3600 from rfl, nI_leI (by omega) (by omega)]; omega)]
    have ea : (nI aw ≤ 0) = (aw ≤ 0) := propext (nI_leI (a := aw) (b := 0) (by omega) (by omega))
    simp only [ea]
    by_cases a : 0 < aw
    · rw [if_neg (by omega), hab, if_pos a]
      unfold abI
      rw [if_neg (show ¬ c = 99 by omega)]
    · rw [if_pos (by omega), hab, if_neg a]
      rfl
  rw [e30]
  unfold fX5_oftenWhileHeld_B12_J30
  show (Option.bind (fX5_passingOver o σx (abI ab) (nI 0)) fun (q1 : Int32) => _) = _
  rw [sX_pass hL hf hc9 hn (by omega) ha, Option.bind_some]
  show (if nI (pv f n ab 0) < (σx.1 o 7) then (Option.bind (fX5_passingOver o σx (abI ab) (nI (pv f n ab 0) + (1 : Int32))) fun (q2 : Int32) => _) else _) = _
  rw [hL.2.1, if_pos ((nI_ltI (by omega) (by omega)).mpr h0), nI_1, sX_pass hL hf hc9 hn (by omega) ha, Option.bind_some]
  have e86 : (if nI n ≤ nI (pv f n ab (pv f n ab 0 + 1)) then fX5_oftenWhileHeld_B12_J86 o (nI c) (nI m0) (nI bell) s12 (σx, nI tm, nI times, nI aw, nI j) (abI ab) (nI (pv f n ab 0)) 9 else ob (nI (pv f n ab (pv f n ab 0 + 1))) 9 (fX5_oftenWhileHeld_B12_J86 o (nI c) (nI m0) (nI bell) s12 (σx, nI tm, nI times, nI aw, nI j) (abI ab) (nI (pv f n ab 0)) (σx.1 (o + 1) (nI (pv f n ab (pv f n ab 0 + 1))).toNatClampNeg))) = fX5_oftenWhileHeld_B12_J86 o (nI c) (nI m0) (nI bell) s12 (σx, nI tm, nI times, nI aw, nI j) (abI ab) (nI (pv f n ab 0)) (nI (ht f n ab)) := by
    unfold ht
    by_cases a : pv f n ab (pv f n ab 0 + 1) < n
    · rw [if_neg (fun z => by have := (nI_leI (by omega) (by omega)).mp z; omega), ob_nI (by omega) (by omega), nI_cl (by omega), hL.2.2 _ a, if_pos a]
    · rw [if_pos ((nI_leI (by omega) (by omega)).mpr (by omega)), if_neg a]
      rfl
  rw [e86]
  unfold fX5_oftenWhileHeld_B12_J86
  have e109 : (if abI ab = (-1 : Int32) then (fX5_oftenWhileHeld_B12_J109 o (nI c) (nI m0) (nI bell) s12 (σx, nI tm, nI times, nI aw, nI j) (nI (pv f n ab 0)) (nI (ht f n ab))) ((σx.1 o 7) - (1 : Int32)) else (fX5_oftenWhileHeld_B12_J109 o (nI c) (nI m0) (nI bell) s12 (σx, nI tm, nI times, nI aw, nI j) (nI (pv f n ab 0)) (nI (ht f n ab))) ((σx.1 o 7) - (2 : Int32))) = fX5_oftenWhileHeld_B12_J109 o (nI c) (nI m0) (nI bell) s12 (σx, nI tm, nI times, nI aw, nI j) (nI (pv f n ab 0)) (nI (ht f n ab)) (nI (hq n ab)) := by
    rw [hL.2.1]
    simp only [abI_m1 ha]
    unfold hq
    by_cases a : ab = 99
    · rw [if_pos a, if_pos a, show nI n - (1 : Int32) = nI (n - 1) from pk_sub (a := n) (b := 1) (by omega)]
    · rw [if_neg a, if_neg a]
      rw [show nI n - (2 : Int32) = nI (n - 2) from pk_sub (a := n) (b := 2) (by omega)]
  show (if abI ab = (-1 : Int32) then (fX5_oftenWhileHeld_B12_J109 o (nI c) (nI m0) (nI bell) s12 (σx, nI tm, nI times, nI aw, nI j) (nI (pv f n ab 0)) (nI (ht f n ab))) ((σx.1 o 7) - (1 : Int32)) else (fX5_oftenWhileHeld_B12_J109 o (nI c) (nI m0) (nI bell) s12 (σx, nI tm, nI times, nI aw, nI j) (nI (pv f n ab 0)) (nI (ht f n ab))) ((σx.1 o 7) - (2 : Int32))) = _
  rw [e109]
  unfold fX5_oftenWhileHeld_B12_J109 fX5_oftenWhileHeld_B12_J175 fX5_oftenWhileHeld_B12_J188
  show (ob (nI (pv f n ab 0)) 9 (Option.bind (fX8_think σx (σx.1 o 2) (σx.1 (o + 1) (nI (pv f n ab 0)).toNatClampNeg) (nI (ht f n ab)) (nI (hq n ab))) fun (q3 : jS) => _)) = _
  rw [ob_nI (by omega) (by omega), nI_cl (by omega), hL.1, hL.2.2 _ h0, eU, Option.bind_some]
  have efc : (nI (f (pv f n ab 0)) = nI c) = (f (pv f n ab 0) = c) := propext (nI_eq (by omega) (by omega))
  have et1 : (nI (times + 1) = (1 : Int32)) = (times + 1 = 1) := propext (nI_eq (a := times + 1) (b := 1) (by omega) (by omega))
  have eaw : (nI aw ≤ 0) = (aw ≤ 0) := propext (nI_leI (a := aw) (b := 0) (by omega) (by omega))
  have ebl : (nI (tm + tSec V lw s (f (pv f n ab 0)) (ht f n ab) (hq n ab)) ≤ nI bell) = (tm + tSec V lw s (f (pv f n ab 0)) (ht f n ab) (hq n ab) ≤ bell) := propext (nI_leI (by omega) (by omega))
  simp only [TU.2.2.2.2.1, nI_add, nI_1, ob_nI (show pv f n ab 0 < 9 by omega) (show 9 < 2 ^ 31 by omega), hLU.2.2 _ h0, nI_cl (show pv f n ab 0 < 2 ^ 31 by omega), efc, et1, eaw, ebl]
  by_cases a : tm + tSec V lw s (f (pv f n ab 0)) (ht f n ab) (hq n ab) ≤ bell
  · rw [if_pos a, if_pos a]
    by_cases b : f (pv f n ab 0) = c
    · simp only [b, if_true]
      by_cases d : times + 1 = 1
      · simp only [d, if_true]
      · simp only [d, if_false]
        rfl
    · simp only [b, if_false]
      by_cases d : aw ≤ 0
      · simp only [d, if_true]
        rw [show aw - 1 = aw by omega]
      · simp only [d, if_false]
        rw [show nI aw + (-1 : Int32) = nI (aw - 1) by
          have := pk_m1 (aw - 1)
          rwa [show aw - 1 + 1 = aw by omega] at this]
  · rw [if_neg a, if_neg a]
theorem sM_hstep {ch : Nat} {V : Nat → Nat → Int32} {lw : jL} {s n c m0 bell ab tm times others : Nat} {f : Nat → Nat} {σ0 σm : jS} {p2 : Int32} {s61 : jS × Int32 × Int32 × Int32 → Option (Int32 × jS)} (hm : nM σm ch V) (hg : nG ch V) (hlm : lM σm lw) (hO : lOk lw) (hs : s < 3) (hn : n ≤ 9) (hc : c < ch) (hm0 : m0 ≤ 9) (hb : bell ≤ 3600) (e1 : p2 / (10 : Int32) = nI c) (e2 : p2 - p2 / (10 : Int32) * (10 : Int32) = nI m0) (e7 : σ0.1 7 c = nI s) (hL : mLn σm n f) (hf : fOk ch n f) (hci : ∃ i, i < n ∧ f i = c) (hab : ab = if times = 1 ∧ others < m0 then c else 99) (htm : tm ≤ 3600) (htimes : times ≤ 3600) (hoth : others ≤ 3600) : (¬ pv f n ab 0 < n → fX12_held_B61 σ0 (nI bell) p2 s61 (σm, nI tm, nI times, nI others) = some (nI times, σm)) ∧ (pv f n ab 0 < n → (ab = 99 ∨ 2 ≤ n) ∧ ∃ U, mOff [18, 19] [33, 34, 35, 36] σm U ∧ fX12_held_B61 σ0 (nI bell) p2 s61 (σm, nI tm, nI times, nI others) = (if tm + tSec V lw s (f (pv f n ab 0)) (ht f n ab) (hq n ab) ≤ bell then (Option.bind (fX12_toEnd U (nI (pv f n ab 0))) fun (q7 : jS) => (s61 (q7, nI (tm + tSec V lw s (f (pv f n ab 0)) (ht f n ab) (hq n ab)), nI (if f (pv f n ab 0) = c then times + 1 else times), nI (if f (pv f n ab 0) = c then others else if times = 1 then others + 1 else others)))) else some (nI times, U))) := by
  have hc9 := hm.1
  have ha : ab < 100 := by rw [hab]; split <;> omega
  have hab9 : ab = 99 ∨ ab = c := by rw [hab]; split <;> omega
  have hp0 := pv_le (f := f) (n := n) (ab := ab) (p := 0)
  have hp1 := pv_le (f := f) (n := n) (ab := ab) (p := pv f n ab 0 + 1)
  have e81 : fX12_held_B61 σ0 (nI bell) p2 s61 (σm, nI tm, nI times, nI others) = fX12_held_B61_J81 σ0 (nI bell) p2 s61 (σm, nI tm, nI times, nI others) (abI ab) := by
    rw [fX12_held_B61_eq]
    unfold fX12_held_B61_J80
    rw [e2, e1]
    have et : (nI times = (1 : Int32)) = (times = 1) := propext (nI_eq (a := times) (b := 1) (by omega) (by omega))
    have eo : (nI m0 ≤ nI others) = (m0 ≤ others) := propext (nI_leI (by omega) (by omega))
    simp only [et, eo]
    subst hab
    by_cases a : times = 1
    · rw [if_pos a]
      by_cases b : m0 ≤ others
      · rw [if_pos b, if_neg (by omega)]
        rfl
      · rw [if_neg b, if_pos ⟨a, by omega⟩]
        unfold abI
        rw [if_neg (show ¬ c = 99 by omega)]
    · rw [if_neg a, if_neg (fun z => a z.1)]
      rfl
  rw [e81]
  unfold fX12_held_B61_J81
  have t0 : fX12_thereFrom σm (0 : Int32) (abI ab) = some (if pv f n ab 0 < n then nI (pv f n ab 0) else -1) := sM_there (p := 0) hL hf hc9 hn (Nat.zero_le _) ha
  rw [t0, Option.bind_some]
  refine ⟨fun h0 => ?_, fun h0 => ?_⟩
  · rw [if_neg h0, if_neg (show ¬ (0 : Int32) ≤ -1 by decide)]
  · have h2n : ab = 99 ∨ 2 ≤ n := by
      rcases hab9 with z | z
      · exact Or.inl z
      · by_cases w : ab = 99
        · exact Or.inl w
        · right
          obtain ⟨i, hi, ei⟩ := hci
          by_cases w2 : 2 ≤ n
          · exact w2
          · exfalso
            obtain rfl : i = 0 := by omega
            have : pv f n ab 0 = 1 := if_pos ⟨hi, by rw [ei, z]⟩
            omega
    refine ⟨h2n, ?_⟩
    have hf0 := hf.1 _ h0
    obtain ⟨U, eU, oU, TU⟩ := sM_goTurn (q := hq n ab) hm hg hlm hO hs hf0 (ht_ok hf h0)
    have bS := tSec_b hO V s (f (pv f n ab 0)) (ht f n ab) (hq n ab)
    refine ⟨U, oU, ?_⟩
    have l0 := hL.2 _ h0
    have e118 : (if 0 ≤ abI ab then (fX12_held_B61_J118 σ0 (nI bell) p2 s61 (σm, nI tm, nI times, nI others) (abI ab) (nI (pv f n ab 0))) ((σm.1 0 42) - (1 : Int32)) else (fX12_held_B61_J118 σ0 (nI bell) p2 s61 (σm, nI tm, nI times, nI others) (abI ab) (nI (pv f n ab 0))) (σm.1 0 42)) = fX12_held_B61_J118 σ0 (nI bell) p2 s61 (σm, nI tm, nI times, nI others) (abI ab) (nI (pv f n ab 0)) (nI (hq n ab + 1)) := by
      rw [hL.1]
      simp only [abI_0 ha]
      unfold hq
      by_cases a : ab = 99
      · rw [if_neg (fun z => z a), if_pos a, show n - 1 + 1 = n by omega]
      · have : 2 ≤ n := by omega
        rw [if_pos a, if_neg a, show nI n - (1 : Int32) = nI (n - 1) from pk_sub (a := n) (b := 1) (by omega), show n - 2 + 1 = n - 1 by omega]
    rw [if_pos h0, if_pos (nI_pos' (by omega))]
    show (if 0 ≤ abI ab then (fX12_held_B61_J118 σ0 (nI bell) p2 s61 (σm, nI tm, nI times, nI others) (abI ab) (nI (pv f n ab 0))) ((σm.1 0 42) - (1 : Int32)) else (fX12_held_B61_J118 σ0 (nI bell) p2 s61 (σm, nI tm, nI times, nI others) (abI ab) (nI (pv f n ab 0))) (σm.1 0 42)) = _
    rw [e118]
    unfold fX12_held_B61_J118
    show (Option.bind (fX12_thereFrom σm (nI (pv f n ab 0) + (1 : Int32)) (abI ab)) fun (q5 : Int32) => _) = _
    rw [nI_1, sM_there hL hf hc9 hn (by omega) ha, Option.bind_some, ob_nI (by omega) (by omega)]
    have e184 : (if 0 ≤ (if pv f n ab (pv f n ab 0 + 1) < n then nI (pv f n ab (pv f n ab 0 + 1)) else (-1 : Int32)) then (ob (if pv f n ab (pv f n ab 0 + 1) < n then nI (pv f n ab (pv f n ab 0 + 1)) else (-1 : Int32)) 9 ((fX12_held_B61_J184 σ0 (nI bell) p2 s61 (σm, nI tm, nI times, nI others) (nI (pv f n ab 0)) (nI (hq n ab + 1))) (σm.1 24 (if pv f n ab (pv f n ab 0 + 1) < n then nI (pv f n ab (pv f n ab 0 + 1)) else (-1 : Int32)).toNatClampNeg))) else (if nI (hq n ab + 1) ≤ (1 : Int32) then ((fX12_held_B61_J184 σ0 (nI bell) p2 s61 (σm, nI tm, nI times, nI others) (nI (pv f n ab 0)) (nI (hq n ab + 1))) (9 : Int32)) else (Option.bind (fX12_thereFrom σm (0 : Int32) (abI ab)) fun (q8 : Int32) => (ob q8 9 ((fX12_held_B61_J184 σ0 (nI bell) p2 s61 (σm, nI tm, nI times, nI others) (nI (pv f n ab 0)) (nI (hq n ab + 1))) (σm.1 24 (q8).toNatClampNeg)))))) = fX12_held_B61_J184 σ0 (nI bell) p2 s61 (σm, nI tm, nI times, nI others) (nI (pv f n ab 0)) (nI (hq n ab + 1)) (nI (ht f n ab)) := by
      unfold ht
      by_cases a : pv f n ab (pv f n ab 0 + 1) < n
      · simp only [if_pos a]
        rw [if_pos (nI_pos' (by omega)), ob_nI (by omega) (by omega), nI_cl (by omega), hL.2 _ a]
      · simp only [if_neg a]
        rw [if_neg (show ¬ (0 : Int32) ≤ -1 by decide)]
        have hle : hq n ab + 1 ≤ 1 := by
          unfold hq
          by_cases w : ab = 99
          · rw [if_pos w]
            have w0 : pv f n ab 0 = 0 := if_neg (fun z => by have := hf.1 0 z.1; omega)
            have w1 : pv f n ab (pv f n ab 0 + 1) = pv f n ab 0 + 1 := if_neg (fun z => by have := hf.1 _ z.1; omega)
            omega
          · rw [if_neg w]
            have hn2 : 2 ≤ n := by omega
            by_cases w3 : n = 2
            · omega
            · exfalso
              have hq0 : pv f n ab 0 = 0 ∨ (pv f n ab 0 = 1 ∧ f 0 = ab) := by
                unfold pv
                by_cases y : 0 < n ∧ f 0 = ab
                · rw [if_pos y]; exact Or.inr ⟨rfl, y.2⟩
                · rw [if_neg y]; exact Or.inl rfl
              rcases hq0 with y | ⟨y, y2⟩
              · omega
              · have : pv f n ab (pv f n ab 0 + 1) = pv f n ab 0 + 1 := by
                  rw [y]
                  refine if_neg (fun z => ?_)
                  have := hf.2 2 0 z.1 (by omega) (by rw [z.2, y2])
                  omega
                omega
        rw [if_pos (show nI (hq n ab + 1) ≤ (1 : Int32) from (nI_leI (a := hq n ab + 1) (b := 1) (by omega) (by omega)).mpr hle)]
        rfl
    refine Eq.trans e184 ?_
    unfold fX12_held_B61_J184 fX12_held_B61_J230
    rw [e1]
    show (Option.bind (fX12_goTurn σm (σ0.1 7 (nI c).toNatClampNeg) (σm.1 24 (nI (pv f n ab 0)).toNatClampNeg) (nI (ht f n ab)) (nI (hq n ab + 1) - (1 : Int32))) fun (q6 : jS) => _) = _
    rw [nI_cl (by omega), nI_cl (by omega), e7, l0, nI_pred, eU, Option.bind_some]
    have efc : (nI (f (pv f n ab 0)) = nI c) = (f (pv f n ab 0) = c) := propext (nI_eq (by omega) (by omega))
    have et1 : (nI times = (1 : Int32)) = (times = 1) := propext (nI_eq (a := times) (b := 1) (by omega) (by omega))
    have ebl : (nI (tm + tSec V lw s (f (pv f n ab 0)) (ht f n ab) (hq n ab)) ≤ nI bell) = (tm + tSec V lw s (f (pv f n ab 0)) (ht f n ab) (hq n ab) ≤ bell) := propext (nI_leI (by omega) (by omega))
    simp only [TU.2.2.1, nI_add, nI_1, efc, et1, ebl]
    by_cases a : tm + tSec V lw s (f (pv f n ab 0)) (ht f n ab) (hq n ab) ≤ bell
    · rw [if_pos a, if_pos a]
      by_cases b : f (pv f n ab 0) = c
      · simp only [b, if_true]
      · simp only [b, if_false]
        by_cases d : times = 1
        · simp only [d, if_true]
        · simp only [d, if_false]
    · rw [if_neg a, if_neg a]
theorem eq_heldL {ch : Nat} {V : Nat → Nat → Int32} {lw : jL} {o s n c m0 bell : Nat} {σ0 : jS} {p2 : Int32} (ho : jLn o) (hg : nG ch V) (hO : lOk lw) (hc9 : ch ≤ 9) (hs : s < 3) (hn : n ≤ 9) (hc : c < ch) (hm0 : m0 ≤ 9) (hb : bell ≤ 3600) (e1 : p2 / (10 : Int32) = nI c) (e2 : p2 - p2 / (10 : Int32) * (10 : Int32) = nI m0) (e7 : σ0.1 7 c = nI s) : ∀ (m j g : Nat) (tm times others : Nat) (f : Nat → Nat) (σx σm : jS), j + m = 3600 → m + 1 < g → nX σx ch V → nM σm ch V → lX σx lw → lM σm lw → xLn σx o s n f → mLn σm n f → fOk ch n f → (∃ i, i < n ∧ f i = c) → j ≤ tm → tm ≤ bell → times ≤ j → others ≤ j → (times = 0 → others = 0) → ∃ r σx' σm', jloop (fX5_oftenWhileHeld_B12 o (nI c) (nI m0) (nI bell)) g (σx, nI tm, nI times, nI (if times = 1 then m0 - others else 0), nI j) = some (r, σx') ∧ jloop (fX12_held_B61 σ0 (nI bell) p2) g (σm, nI tm, nI times, nI others) = some (r, σm') ∧ jOff [11, 12, 14, 15, o + 1] σx σx' ∧ mOff [18, 19, 24] [33, 34, 35, 36] σm σm' := by
  have hbo := jLn_b ho
  intro m
  induction m with
  | zero =>
    intro j g tm times others f σx σm hj hgf hx hm hlx hlm hL hM hf hci h1 h2 h3 h4 h5
    obtain ⟨g, rfl⟩ : ∃ g', g = g' + 1 := ⟨g - 1, by omega⟩
    obtain rfl : j = 3600 := by omega
    have hX : jloop (fX5_oftenWhileHeld_B12 o (nI c) (nI m0) (nI bell)) (g + 1) (σx, nI tm, nI times, nI (if times = 1 then m0 - others else 0), nI 3600) = some (nI times, σx) := by
      rw [jloop_s, fX5_oftenWhileHeld_B12_eq]
      exact if_pos (show (3600 : Int32) ≤ nI 3600 by decide)
    obtain ⟨ab, hab⟩ : ∃ ab, ab = if times = 1 ∧ others < m0 then c else 99 := ⟨_, rfl⟩
    obtain ⟨k1, k2⟩ := sM_hstep (s61 := jloop (fX12_held_B61 σ0 (nI bell) p2) g) hm hg hlm hO hs hn hc hm0 hb e1 e2 e7 hM hf hci hab (show tm ≤ 3600 by omega) (show times ≤ 3600 by omega) (show others ≤ 3600 by omega)
    by_cases h0 : pv f n ab 0 < n
    · obtain ⟨_, U, oU, eU⟩ := k2 h0
      have bS := tSec_b hO V s (f (pv f n ab 0)) (ht f n ab) (hq n ab)
      rw [if_neg (by omega)] at eU
      exact ⟨nI times, σx, U, hX, by rw [jloop_s]; exact eU, jOff.rf, oU.mono (by simp) (by simp)⟩
    · exact ⟨nI times, σx, σm, hX, by rw [jloop_s]; exact k1 h0, jOff.rf, mOff.rf⟩
  | succ m ih =>
    intro j g tm times others f σx σm hj hgf hx hm hlx hlm hL hM hf hci h1 h2 h3 h4 h5
    obtain ⟨g, rfl⟩ : ∃ g', g = g' + 1 := ⟨g - 1, by omega⟩
    obtain ⟨ab, hab⟩ : ∃ ab, ab = if times = 1 ∧ others < m0 then c else 99 := ⟨_, rfl⟩
    have ha : ab < 100 := by rw [hab]; split <;> omega
    obtain ⟨k1, k2⟩ := sM_hstep (s61 := jloop (fX12_held_B61 σ0 (nI bell) p2) g) hm hg hlm hO hs hn hc hm0 hb e1 e2 e7 hM hf hci hab (show tm ≤ 3600 by omega) (show times ≤ 3600 by omega) (show others ≤ 3600 by omega)
    have haw : (if times = 1 then m0 - others else 0) ≤ 9 := by split <;> omega
    have habx : ab = if 0 < (if times = 1 then m0 - others else 0) then c else 99 := by
      rw [hab]
      by_cases z : times = 1
      · rw [if_pos z]
        by_cases y : others < m0
        · rw [if_pos ⟨z, y⟩, if_pos (by omega)]
        · rw [if_neg (fun w => y w.2), if_neg (by omega)]
      · rw [if_neg z, if_neg (fun w => z w.1), if_neg (by omega)]
    by_cases h0 : pv f n ab 0 < n
    · obtain ⟨h2n, M, oM, eM⟩ := k2 h0
      obtain ⟨X, oX, eX⟩ := sX_hstep (m0 := m0) (s12 := jloop (fX5_oftenWhileHeld_B12 o (nI c) (nI m0) (nI bell)) g) ho hx hg hlx hO hs hn hc hb hL hf habx haw (show tm ≤ 3600 by omega) (show times ≤ 3600 by omega) (show j < 3600 by omega) h0 h2n
      rw [jloop_s, jloop_s, eX, eM]
      have bS := tSec_b hO V s (f (pv f n ab 0)) (ht f n ab) (hq n ab)
      by_cases a : tm + tSec V lw s (f (pv f n ab 0)) (ht f n ab) (hq n ab) ≤ bell
      · rw [if_pos a, if_pos a]
        obtain ⟨Y, eY, oY, lY⟩ := sX_sendToEnd hn h0 (hL.go oX (by simp <;> omega) (by simp <;> omega))
        obtain ⟨N, eN, oN, lN'⟩ := sM_toEnd hn h0 (hM.go oM (by decide) (by decide))
        rw [eY, eN, Option.bind_some, Option.bind_some]
        have oY1 : jOff [11, 12, 14, 15, o + 1] σx Y := (oX.mono (by simp)).trans (oY.mono (by simp))
        have oN1 : mOff [18, 19, 24] [33, 34, 35, 36] σm N := (oM.mono (by simp) (by simp)).trans (oN.mono (by simp) (by simp))
        have eaw : (if f (pv f n ab 0) = c then (if times + 1 = 1 then m0 else 0) else (if times = 1 then m0 - others else 0) - 1) = (if (if f (pv f n ab 0) = c then times + 1 else times) = 1 then m0 - (if f (pv f n ab 0) = c then others else if times = 1 then others + 1 else others) else 0) := by
          by_cases z : f (pv f n ab 0) = c
          · simp only [if_pos z]
            by_cases y : times + 1 = 1
            · rw [if_pos y, if_pos y, h5 (by omega)]
              rfl
            · rw [if_neg y, if_neg y]
          · simp only [if_neg z]
            by_cases y : times = 1
            · simp only [if_pos y]
              omega
            · simp only [if_neg y]
        rw [eaw]
        obtain ⟨r, σx', σm', q1, q2, q3, q4⟩ := ih (j + 1) g (tm + tSec V lw s (f (pv f n ab 0)) (ht f n ab) (hq n ab)) (if f (pv f n ab 0) = c then times + 1 else times) (if f (pv f n ab 0) = c then others else if times = 1 then others + 1 else others) (mvf f n (pv f n ab 0)) Y N (by omega) (by omega) (hx.off oY1 (by simp <;> omega) (by simp <;> omega)) (hm.off oN1 (by decide) (by decide)) (hlx.go oY1 (by simp <;> omega) (by simp <;> omega)) (hlm.go oN1 (by intro c h1 h2; simp <;> omega) (by decide)) lY lN' (hf.mv h0) (by
          obtain ⟨i, hi, ei⟩ := hci
          obtain ⟨k, hk, ek⟩ := mvi_sur h0 hi
          exact ⟨k, hk, by rw [mvf_i, ek, ei]⟩) (by omega) a (by split <;> omega) (by split <;> (try split) <;> omega) (by
          intro z
          by_cases y : f (pv f n ab 0) = c
          · rw [if_pos y] at z; omega
          · rw [if_neg y] at z
            rw [if_neg y, if_neg (by omega)]
            exact h5 z)
        exact ⟨r, σx', σm', q1, q2, oY1.trans q3, oN1.trans q4⟩
      · rw [if_neg a, if_neg a]
        exact ⟨nI times, X, M, rfl, rfl, oX.mono (by simp), oM.mono (by simp) (by simp)⟩
    · refine ⟨nI times, σx, σm, ?_, by rw [jloop_s]; exact k1 h0, jOff.rf, mOff.rf⟩
      rw [jloop_s, fX5_oftenWhileHeld_B12_eq]
      rw [if_neg (show ¬ (3600 : Int32) ≤ nI j by rw [show (3600 : Int32) = nI 3600 from rfl, nI_leI (by omega) (by omega)]; omega)]
      have e30 : fX5_oftenWhileHeld_B12_J30 o (nI c) (nI m0) (nI bell) (jloop (fX5_oftenWhileHeld_B12 o (nI c) (nI m0) (nI bell)) g) (σx, nI tm, nI times, nI (if times = 1 then m0 - others else 0), nI j) (abI ab) = some (nI times, σx) := by
        unfold fX5_oftenWhileHeld_B12_J30
        show (Option.bind (fX5_passingOver o σx (abI ab) (nI 0)) fun (q1 : Int32) => (if q1 < (σx.1 o 7) then _ else (some (nI times, σx)))) = _
        rw [sX_pass hL hf hc9 hn (by omega) ha, Option.bind_some, hL.2.1, if_neg (fun z => h0 ((nI_ltI (by have := pv_le (f := f) (n := n) (ab := ab) (p := 0); omega) (by omega)).mp z))]
      have ea : (nI (if times = 1 then m0 - others else 0) ≤ 0) = ((if times = 1 then m0 - others else 0) ≤ 0) := propext (nI_leI (a := (if times = 1 then m0 - others else 0)) (b := 0) (by omega) (by omega))
      simp only [ea]
      by_cases z : 0 < (if times = 1 then m0 - others else 0)
      · rw [if_pos z] at habx
        rw [if_neg (by omega)]
        have : abI ab = nI c := by
          rw [habx]
          unfold abI
          rw [if_neg (show ¬ c = 99 by omega)]
        rw [this] at e30
        exact e30
      · rw [if_neg z] at habx
        rw [if_pos (by omega)]
        have : abI ab = -1 := by
          rw [habx]
          rfl
        rw [this] at e30
        exact e30
theorem eq_held {σx σm : jS} {ch : Nat} {V : Nat → Nat → Int32} {lw : jL} (h : rN σx σm ch V) (hlx : lX σx lw) (hlm : lM σm lw) (ho : lOk lw) (hr : rLn σx) (p1 p2 : Int32) : ∃ r σx' σm', fX11_held σx p1 p2 = some (r, σx') ∧ fX12_held σm p1 p2 = some (r, σm') ∧ rLn σx' ∧ jOff lnC σx σx' ∧ mOff [18, 19, 20, 21, 22, 23, 24] [33, 34, 35, 36, 42] σm σm' := by
  obtain ⟨hx, hm, hg⟩ := id h
  have hc9 := hx.1
  unfold fX11_held fX12_held
  rw [sX11_isBell, sM_isBell, Option.bind_some, Option.bind_some]
  simp only [jb_jo]
  by_cases hB : BL p1
  · rw [if_neg (fun (z : ¬ BL p1) => z hB), if_neg (fun (z : ¬ BL p1) => z hB)]
    by_cases hp : p2 < 0
    · rw [if_pos hp, if_pos hp]
      exact ⟨_, _, _, rfl, rfl, hr, jOff.rf, mOff.rf⟩
    · rw [if_neg hp, if_neg hp]
      obtain ⟨n, hn, rfl⟩ := nI_of hp
      obtain ⟨bell, b1, b2, rfl⟩ := BL_of hB
      have e1 : nI n / (10 : Int32) = nI (n / 10) := dv10 hn
      have e2 : nI n - nI n / (10 : Int32) * (10 : Int32) = nI (n % 10) := rm10 hn
      have hd10 : n / 10 < 2 ^ 31 := by omega
      have hm9 : n % 10 ≤ 9 := by omega
      rw [e2, e1, sX6_isChild hx, sM_isChild hm, Option.bind_some, Option.bind_some]
      simp only [jb_jo, isCh_n hd10]
      generalize n / 10 = c at *
      generalize n % 10 = m0 at *
      by_cases hc : c < ch
      · rw [if_neg (fun (z : ¬ c < ch) => z hc), if_neg (fun (z : ¬ c < ch) => z hc), sX6_vc hx hg 5 5 rfl (jk0 (by omega) hc), Option.bind_some, sX6_isSwing, Option.bind_some]
        have v5 := (vN_eq hg (jk0 (w := 5) (by omega) hc)).2
        have b5 : jhi 5 = 3 := rfl
        have ra : σm.1 7 c = nI (vN V 5 c) := sM_v hm hg (w := 5) (jk0 (by omega) hc)
        have e3 : (nI (vN V 5 c) = (3 : Int32)) = (vN V 5 c = 3) := propext (nI_eq (a := vN V 5 c) (b := 3) (by omega) (by omega))
        simp only [jb_jo, isCh_n (show vN V 5 c < 2 ^ 31 by omega), ob_nI (show c < 9 by omega) (show 9 < 2 ^ 31 by omega), nI_cl (show c < 2 ^ 31 by omega), ra, e3]
        by_cases d : vN V 5 c < 3
        · rw [if_neg (fun (z : ¬ vN V 5 c < 3) => z d), if_neg (show ¬ vN V 5 c = 3 by omega), jaa_i d]
          obtain ⟨pc, hpc, epc⟩ := la_of ((qL_mem hc9).mpr ⟨hc, (rfl : vN V 5 c = vN V 5 c)⟩)
          generalize hs : vN V 5 c = s at *
          have hql : qOk ch (qL V ch s) := qL_ok hc9
          obtain ⟨X, eX, oX, lX1, _⟩ := sX5_form (jLn_i d) hx hg d (hr s d)
          obtain ⟨M, eM, oM, lM1⟩ := sM_layLine (s := s) hm hg d
          rw [eX, eM, Option.bind_some, Option.bind_some, jaa_i d]
          have hf : fOk ch (qL V ch s).length (la (qL V ch s)) := ⟨fun k hk => hql.2.1 _ (la_mem hk), fun i j hi hj e => la_inj hql.1 hi hj e⟩
          obtain ⟨r, Y, N, q1, q2, q3, q4⟩ := eq_heldL (o := 17 + 5 * s) (σ0 := σm) (m0 := m0) (jLn_i d) hg ho hc9 d hql.2.2 hc hm9 b2 e1 e2 ra 3600 0 jN 0 0 0 (la (qL V ch s)) X M (by omega) (by have := jN_ge; omega) (hx.off oX (by simp <;> omega) (by simp <;> omega)) (hm.off oM (by decide) (by decide)) (hlx.go oX (by simp <;> omega) (by simp <;> omega)) (hlm.go oM (by intro c h1 h2; simp <;> omega) (by decide)) lX1 lM1 hf ⟨pc, hpc, epc⟩ (Nat.le_refl _) (Nat.zero_le _) (Nat.le_refl _) (Nat.le_refl _) (fun _ => rfl)
          have q1' : fX5_oftenWhileHeld (17 + 5 * s) X (nI c) (nI m0) (nI bell) = some (r, Y) := q1
          have oXl : jOff lnC σx X := oX.mono (fun c hc => by
            rw [lnC_m]
            simp only [List.mem_cons, List.not_mem_nil, or_false] at hc
            omega)
          have oY : jOff lnC σx Y := oXl.trans (q3.mono (fun c hc => by
            rw [lnC_m]
            simp only [List.mem_cons, List.not_mem_nil, or_false] at hc
            omega))
          have rY : rLn Y := by
            intro k hk
            rw [q3.1 _ (by simp <;> omega)]
            by_cases a : k = s
            · rw [a]; exact lX1.1
            · rw [oX.1 _ (by simp <;> omega)]
              exact hr k hk
          rw [q1', Option.bind_some]
          exact ⟨r, Y, N, rfl, q2, rY, oY, (oM.mono (by simp) (by simp)).trans (q4.mono (by simp) (by simp))⟩
        · rw [if_pos d, if_pos (show vN V 5 c = 3 by omega)]
          exact ⟨_, _, _, rfl, rfl, hr, jOff.rf, mOff.rf⟩
      · rw [if_pos hc, if_pos hc]
        exact ⟨_, _, _, rfl, rfl, hr, jOff.rf, mOff.rf⟩
  · rw [if_pos hB, if_pos hB]
    exact ⟨_, _, _, rfl, rfl, hr, jOff.rf, mOff.rf⟩
