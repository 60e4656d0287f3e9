/-! SHELVES: what each holds, on both sides -/
def shR (σx σm : jS) (nb s : Nat) : Prop := (σx.1 45 s = 0 ∧ σm.1 31 s = -1) ∨ (∃ b, b < nb ∧ σx.1 45 s = 1 ∧ σx.1 46 s = nI b ∧ σm.1 31 s = nI b) ∨ (∃ k n, k < 5 ∧ n ≤ 60 ∧ σx.1 45 s = 2 ∧ σx.1 47 s = nI k ∧ σm.1 31 s = -2 - nI k ∧ σx.1 48 s = nI n ∧ σm.1 32 s = nI n ∧ ∀ i, i < n → σx.2 49 (60 * s + i) = σm.2 33 (60 * s + i))
def rS (σx σm : jS) (nb : Nat) : Prop := nb ≤ 50 ∧ ∀ s, s < 6 → shR σx σm nb s
theorem rS.go {S S' F : List Nat} {σx σm σx' σm' : jS} {nb : Nat} (h : rS σx σm nb) (a : jOff S σx σx') (b : mOff S' F σm σm') (h1 : ∀ c, 45 ≤ c → c ≤ 48 → c ∉ S) (h2 : 31 ∉ S') (h3 : 32 ∉ S') : rS σx' σm' nb := by
  refine ⟨h.1, fun s hs => ?_⟩
  have e := h.2 s hs
  unfold shR at *
  rw [a.1 45 (h1 45 (by omega) (by omega)), a.1 46 (h1 46 (by omega) (by omega)), a.1 47 (h1 47 (by omega) (by omega)), a.1 48 (h1 48 (by omega) (by omega)), a.2, b.1 31 h2 (by decide), b.1 32 h3 (by decide), b.2.2]
  exact e
theorem sX9_isShelf (σ : jS) (p : Int32) : fX9_isShelf σ p = some (jo (isCh 6 p)) := by
  unfold fX9_isShelf
  have h3 : (6 : Int32).toInt = 6 := rfl
  have h00 : (0 : Int32).toInt = 0 := rfl
  simp only [i_lt, i_le, h3, h00]
  by_cases h0 : p.toInt < 0
  · rw [if_pos h0, jo_0 (fun q => by omega)]
  · rw [if_neg h0]
    by_cases h1 : (6 : Int) ≤ p.toInt
    · rw [if_pos h1, jo_0 (fun q => by omega)]
    · rw [if_neg h1, jo_1 ⟨by omega, by omega⟩]
theorem sM_isShelf (σ : jS) (p : Int32) : fX12_isShelf σ p = some (jo (isCh 6 p)) := by
  unfold fX12_isShelf
  rw [sM_in, Option.bind_some]
  congr 1
  exact jo_eq (by
    have h5 : (5 : Int32).toInt = 5 := rfl
    have h0 : (0 : Int32).toInt = 0 := rfl
    unfold isCh; omega)
theorem isCh6 {s : Nat} (h : s < 6) : isCh 6 (nI s) := isCh_nI h (by omega)
theorem sX9_isEmpty (σ : jS) {s : Nat} (h : s < 6) : fX9_isEmpty σ (nI s) = some (jo (σ.1 45 s = 0)) := by
  unfold fX9_isEmpty
  rw [sX9_isShelf, Option.bind_some]
  simp only [jb_jo]
  rw [if_neg (fun z => z (isCh6 h)), ob_nI h (by omega), nI_cl (by omega)]
  unfold jo
  by_cases a : σ.1 45 s = 0
  · rw [if_pos a, if_pos a]
  · rw [if_neg a, if_neg a]
theorem sX9_isRow (σ : jS) {s : Nat} (h : s < 6) : fX9_isRow σ (nI s) = some (jo (σ.1 45 s = 2)) := by
  unfold fX9_isRow
  rw [sX9_isShelf, Option.bind_some]
  simp only [jb_jo]
  rw [if_neg (fun z => z (isCh6 h)), ob_nI h (by omega), nI_cl (by omega)]
  unfold jo
  by_cases a : σ.1 45 s = 2
  · rw [if_pos a, if_pos a]
  · rw [if_neg a, if_neg a]
theorem sX9_sizeOf {σ : jS} {s : Nat} (h : s < 6) : fX9_sizeOf σ (nI s) = some (if σ.1 45 s = 2 then σ.1 48 s else 0) := by
  unfold fX9_sizeOf
  rw [sX9_isRow σ h, Option.bind_some]
  simp only [jb_jo]
  by_cases a : σ.1 45 s = 2
  · rw [if_neg (fun z => z a), if_pos a, ob_nI h (by omega), nI_cl (by omega)]
  · rw [if_pos a, if_neg a]
abbrev hasP (n : Nat) (i m : Int32) : Prop := 0 ≤ i.toInt ∧ 0 ≤ m.toInt ∧ i.toInt + m.toInt ≤ (n : Int)
theorem sX9_hasPlaces {σ : jS} {s n : Nat} (h : s < 6) (h5 : σ.1 45 s = 2) (h8 : σ.1 48 s = nI n) (hn : n ≤ 60) (i m : Int32) : fX9_hasPlaces σ (nI s) i m = some (jo (hasP n i m)) := by
  unfold fX9_hasPlaces
  rw [sX9_sizeOf h, if_pos h5, h8, Option.bind_some]
  have h0 : (0 : Int32).toInt = 0 := rfl
  have hT := nI_T (k := n) (by omega)
  by_cases a : i < 0
  · rw [if_pos a, jo_0]
    rw [i_lt, h0] at a
    omega
  · rw [if_neg a]
    by_cases b : m < 0
    · rw [if_pos b, jo_0]
      rw [i_lt, h0] at b
      omega
    · rw [if_neg b]
      rw [i_lt, h0] at a b
      by_cases c : nI n < i
      · rw [if_pos c, jo_0]
        rw [i_lt, hT] at c
        omega
      · rw [if_neg c]
        rw [i_lt, hT] at c
        have hs : (nI n - i).toInt = (n : Int) - i.toInt := by
          have hb := i_hi i
          rw [i_sub (by rw [hT]; omega) (by rw [hT]; omega), hT]
        by_cases d : nI n - i < m
        · rw [if_pos d, jo_0]
          rw [i_lt, hs] at d
          omega
        · rw [if_neg d, jo_1]
          rw [i_lt, hs] at d
          omega
theorem hasP_1 {n i : Nat} (hi : i < 2 ^ 31) : hasP n (nI i) 1 = (i < n) := by
  unfold hasP
  rw [nI_T hi, show (1 : Int32).toInt = 1 from rfl]
  exact propext ⟨fun q => by omega, fun q => by omega⟩
theorem ix60 {s i : Nat} (hs : s < 6) (hi : i < 60) : nI s * (60 : Int32) + nI i = nI (60 * s + i) := by
  show nI s * nI 60 + nI i = _
  rw [pk_mul, nI_add, Nat.mul_comm]
theorem ix60' {s i : Nat} (hs : s < 6) (hi : i < 60) : (60 : Int32) * nI s + nI i = nI (60 * s + i) := by
  show nI 60 * nI s + nI i = _
  rw [pk_mul, nI_add]
theorem sX9_elementAt {σ : jS} {s n i : Nat} (h : s < 6) (h5 : σ.1 45 s = 2) (h8 : σ.1 48 s = nI n) (hn : n ≤ 60) (hi : i < n) : fX9_elementAt σ (nI s) (nI i) = some (σ.2 49 (60 * s + i)) := by
  unfold fX9_elementAt
  rw [sX9_hasPlaces h h5 h8 hn, Option.bind_some]
  simp only [jb_jo, hasP_1 (show i < 2 ^ 31 by omega)]
  rw [if_neg (fun z => z hi), ix60 h (by omega), ob_nI (by omega) (by omega), nI_cl (by omega)]
theorem m2k {k : Nat} (h : k < 5) : ¬ ((-2 : Int32) - nI k = -1) ∧ ((-2 : Int32) - nI k = -2 ↔ k = 0) ∧ (-2 : Int32) - nI k < 0 ∧ (-2 : Int32) - (-2 - nI k) = nI k ∧ ¬ (0 ≤ (-2 : Int32) - nI k) := by
  have : ∀ k, k < 5 → ¬ ((-2 : Int32) - nI k = -1) ∧ ((-2 : Int32) - nI k = -2 ↔ k = 0) ∧ (-2 : Int32) - nI k < 0 ∧ (-2 : Int32) - (-2 - nI k) = nI k ∧ ¬ (0 ≤ (-2 : Int32) - nI k) := by decide +kernel
  exact this k h
/-- a ROW of bytes on both sides -/
def byR (σx σm : jS) (s n : Nat) : Prop := n ≤ 60 ∧ σx.1 45 s = 2 ∧ σx.1 48 s = nI n ∧ σm.1 32 s = nI n ∧ ∀ i, i < n → σx.2 49 (60 * s + i) = σm.2 33 (60 * s + i)
theorem byR.go {S S' F : List Nat} {σx σm σx' σm' : jS} {s n : Nat} (h : byR σx σm s n) (a : jOff S σx σx') (b : mOff S' F σm σm') (h1 : ∀ c, 45 ≤ c → c ≤ 48 → c ∉ S) (h3 : 32 ∉ S') : byR σx' σm' s n := by
  unfold byR at *
  rw [a.1 45 (h1 45 (by omega) (by omega)), a.1 48 (h1 48 (by omega) (by omega)), a.2, b.1 32 h3 (by decide), b.2.2]
  exact h
/-- the refusal of bytes: like on both sides; none: a row of bytes -/
theorem eq_bytes {σx σm : jS} {nb s : Nat} (h : rS σx σm nb) (hs : s < 6) : ∃ r, fX9_refusalOfBytes σx (nI s) = some r ∧ fX12_rowFault σm (nI s) = some r ∧ ((r = 0 ∧ ∃ n, byR σx σm s n) ∨ (¬ r = 0 ∧ ¬ 0 ≤ r)) := by
  unfold fX9_refusalOfBytes fX12_rowFault
  rw [sX9_isEmpty σx hs, sX9_isRow σx hs, Option.bind_some, Option.bind_some]
  simp only [jb_jo, ob_nI hs (show 6 < 2 ^ 31 by omega), nI_cl (show s < 2 ^ 31 by omega)]
  rcases h.2 s hs with ⟨a, b⟩ | ⟨c, hc, a, b, d⟩ | ⟨k, n, hk, hn, a, b, d, e, f, g⟩
  · rw [a, b, if_neg (fun z => z rfl), if_pos rfl]
    exact ⟨-11, rfl, rfl, Or.inr ⟨by decide, by decide⟩⟩
  · have hb := h.1
    have n1 : ¬ nI c = -1 := fun z => by
      have := congrArg Int32.toInt z
      rw [nI_T (by omega), show (-1 : Int32).toInt = -1 from rfl] at this
      omega
    have n2 : ¬ nI c = -2 := fun z => by
      have := congrArg Int32.toInt z
      rw [nI_T (by omega), show (-2 : Int32).toInt = -2 from rfl] at this
      omega
    rw [a, d, if_pos (show ¬ (1 : Int32) = 0 by decide), if_pos (show ¬ (1 : Int32) = 2 by decide), if_neg n1, if_neg n2]
    exact ⟨-12, rfl, rfl, Or.inr ⟨by decide, by decide⟩⟩
  · have m := m2k hk
    have ek : (nI k = 0) = (k = 0) := propext (nI_eq (a := k) (b := 0) (by omega) (by omega))
    rw [a, b, d, if_pos (show ¬ (2 : Int32) = 0 by decide), if_neg (fun z => z rfl), if_neg m.1]
    simp only [ek, m.2.1]
    by_cases z : k = 0
    · rw [if_pos z]
      exact ⟨0, rfl, rfl, Or.inl ⟨rfl, n, hn, a, e, f, g⟩⟩
    · rw [if_neg z]
      exact ⟨-12, rfl, rfl, Or.inr ⟨by decide, by decide⟩⟩
/-! JUDGED: the first that is not so -/
theorem tF_is {V : Nat → Nat → Int32} {lw : jL} {s c t q : Nat} : ∀ n k, k + n = 60 → ∀ j, k ≤ j → j + 1 ≤ tF V lw s c t q n k → (over V (bentN V t c) (j + 1) (tS V lw s c q (j + 1)) ↔ j + 1 = tF V lw s c t q n k) := by
  intro n
  induction n with
  | zero => intro k h j h1 h2; exact absurd h2 (by show ¬ j + 1 ≤ k; omega)
  | succ n ih =>
    intro k h j h1 h2
    have e : tF V lw s c t q (n + 1) k = if over V (bentN V t c) (k + 1) (tS V lw s c q (k + 1)) then k + 1 else tF V lw s c t q n (k + 1) := rfl
    rw [e] at h2 ⊢
    by_cases a : over V (bentN V t c) (k + 1) (tS V lw s c q (k + 1))
    · rw [if_pos a] at h2 ⊢
      obtain rfl : j = k := by omega
      exact ⟨fun _ => rfl, fun _ => a⟩
    · rw [if_neg a] at h2 ⊢
      by_cases b : j = k
      · subst b
        have hb := tF_b V lw s c t q n (j + 1)
        refine ⟨fun z => absurd z a, fun z => ?_⟩
        by_cases d : 0 < n
        · have := hb.2.2 d; omega
        · exfalso
          exact a (Or.inr (Or.inr (by omega)))
      · exact ih (k + 1) (by omega) j (by omega) h2
def uK (E : Nat → Int64) (L : Nat → Nat) (N S : Nat) : Nat → Nat → Int32
  | 0, k => if N = S then -2 else nI k
  | n + 1, k => if E k = (nI (L k)).toInt64 then uK E L N S n (k + 1) else nI k
theorem sX11_unlikeL {X : jS} {s S N : Nat} {L : Nat → Nat} (hs : s < 6) (hS : S ≤ 60) (hN : N ≤ 60) (h5 : X.1 45 s = 2) (h8 : X.1 48 s = nI S) (h3 : X.1 14 3 = nI N) (h15 : ∀ j, j < N → X.1 15 j = nI (L j)) : ∀ n k f, k + n = min N S → n < f → jloop (fX11_firstUnlike_B45 (nI s) X (nI S) (fX11_firstUnlike_J85 X (nI S))) f (nI k) = some (uK (fun i => X.2 49 (60 * s + i)) L N S n k, X) := by
  have em : (if nI S < X.1 14 3 then nI S else X.1 14 3) = nI (min N S) := by
    rw [h3]
    by_cases a : S < N
    · rw [if_pos ((nI_ltI (by omega) (by omega)).mpr a), Nat.min_eq_right (by omega)]
    · rw [if_neg (fun z => a ((nI_ltI (by omega) (by omega)).mp z)), Nat.min_eq_left (by omega)]
  intro n
  induction n with
  | zero =>
    intro k f hk hf
    obtain ⟨f, rfl⟩ : ∃ g, f = g + 1 := ⟨f - 1, by omega⟩
    rw [jloop_s]
    unfold fX11_firstUnlike_B45 fX11_firstUnlike_J85
    rw [em, if_pos (show nI (min N S) ≤ nI k by rw [nI_leI (by omega) (by omega)]; omega), h3]
    have e : (nI N = nI S) = (N = S) := propext (nI_eq (by omega) (by omega))
    simp only [e]
    have u : uK (fun i => X.2 49 (60 * s + i)) L N S 0 k = if N = S then -2 else nI k := rfl
    rw [u]
    by_cases a : N = S
    · rw [if_pos a, if_pos a]
    · rw [if_neg a, if_neg a, show k = min N S by omega]
  | succ n ih =>
    intro k f hk hf
    obtain ⟨f, rfl⟩ : ∃ g, f = g + 1 := ⟨f - 1, by omega⟩
    have body : ∀ (j85 : Unit → Option (Int32 × jS)) (s45 : Int32 → Option (Int32 × jS)), fX11_firstUnlike_B45 (nI s) X (nI S) j85 s45 (nI k) = if X.2 49 (60 * s + k) = (nI (L k)).toInt64 then s45 (nI (k + 1)) else some (nI k, X) := by
      intro j85 s45
      unfold fX11_firstUnlike_B45
      rw [em, if_neg (show ¬ nI (min N S) ≤ nI k by rw [nI_leI (by omega) (by omega)]; omega), sX9_elementAt hs h5 h8 hS (show k < S by omega), Option.bind_some]
      unfold fX8_heardAt
      rw [if_neg (nI_pos (by omega)), if_neg (show ¬ (60 : Int32) ≤ nI k by rw [show (60 : Int32) = nI 60 from rfl, nI_leI (by omega) (by omega)]; omega), ob_nI (by omega) (by omega), nI_cl (by omega), Option.bind_some, h15 k (by omega), nI_1]
      have e : (lg_cmp (X.2 49 (60 * s + k)) (nI (L k)).toInt64 = 0) = (X.2 49 (60 * s + k) = (nI (L k)).toInt64) := propext (lg_cmp_eq _ _)
      simp only [e]
    have u : uK (fun i => X.2 49 (60 * s + i)) L N S (n + 1) k = if X.2 49 (60 * s + k) = (nI (L k)).toInt64 then uK (fun i => X.2 49 (60 * s + i)) L N S n (k + 1) else nI k := rfl
    rw [jloop_s, body, u]
    by_cases a : X.2 49 (60 * s + k) = (nI (L k)).toInt64
    · rw [if_pos a, if_pos a]
      exact ih (k + 1) f (by omega) (by omega)
    · rw [if_neg a, if_neg a]
theorem sX11_firstUnlike {σ : jS} {ch : Nat} {V : Nat → Nat → Int32} {lw : jL} (hx : nX σ ch V) (hg : nG ch V) (hl : lX σ lw) (ho : lOk lw) {s c t q sh S : Nat} {p : Int32} (hs : s < 3) (hc : c < ch) (ht : cOk ch t c) (hsh : sh < 6) (hS : S ≤ 60) (h5 : σ.1 45 sh = 2) (h8 : σ.1 48 sh = nI S) (e1 : p / (10 : Int32) = nI s) (e2 : p - p / (10 : Int32) * (10 : Int32) = nI t) : ∃ σ', fX11_firstUnlike σ (nI sh) p (nI c) (nI q) = some (uK (fun i => σ.2 49 (60 * sh + i)) (tL V lw s c q) (tN V lw s c t q) S (min (tN V lw s c t q) S) 0, σ') ∧ jOff [11, 12, 14, 15] σ σ' := by
  obtain ⟨X, eX, oX, TX, LX⟩ := sX8_think (q := q) hx hg hl ho hs hc ht
  have bN := tN_b V lw s c t q
  rw [fX11_firstUnlike_eq, e2, e1, eX, Option.bind_some, sX9_sizeOf hsh, oX.1 45 (by decide), oX.1 48 (by decide), if_pos h5, h8, Option.bind_some]
  have e := sX11_unlikeL (X := X) (L := tL V lw s c q) hsh hS (show tN V lw s c t q ≤ 60 by omega) (by rw [oX.1 45 (by decide), h5]) (by rw [oX.1 48 (by decide), h8]) TX.2.2.2.1 LX (min (tN V lw s c t q) S) 0 jN (by omega) (by have := jN_ge; omega)
  have e' : jloop (fX11_firstUnlike_B45 (nI sh) X (nI S) (fX11_firstUnlike_J85 X (nI S))) jN (0 : Int32) = some (uK (fun i => X.2 49 (60 * sh + i)) (tL V lw s c q) (tN V lw s c t q) S (min (tN V lw s c t q) S) 0, X) := e
  rw [e', oX.2]
  exact ⟨X, rfl, oX⟩
theorem sM_wrongL {ch : Nat} {V : Nat → Nat → Int32} {lw : jL} (hg : nG ch V) (ho : lOk lw) {s c t q sh S : Nat} (hs : s < 3) (hc : c < ch) (ht : cOk ch t c) (hsh : sh < 6) (hS : S ≤ 60) {E : Nat → Int64} : ∀ (n k f : Nat) (σ : jS), k + n = min (tN V lw s c t q) S → n + 1 < f → nM σ ch V → lM σ lw → σ.1 32 sh = nI S → (∀ i, i < S → σ.2 33 (60 * sh + i) = E i) → tM σ k (tS V lw s c q k) (tH V c k) (tP V c k) → ∃ σ', jloop (fX12_wrongIn_B19 (nI sh) (nI s) (nI c) (nI q) (nI (bentN V t c))) f (σ, jo (k = tN V lw s c t q), nI k) = some (uK E (tL V lw s c q) (tN V lw s c t q) S n k, σ') ∧ mOff [18, 19] [33, 34, 35, 36] σ σ' := by
  have bN := tN_b V lw s c t q
  intro n
  induction n with
  | zero =>
    intro k f σ hk hf hm hlm h32 hE hT
    obtain ⟨f, rfl⟩ : ∃ g, f = g + 1 := ⟨f - 1, by omega⟩
    refine ⟨σ, ?_, mOff.rf⟩
    have u : uK E (tL V lw s c q) (tN V lw s c t q) S 0 k = if tN V lw s c t q = S then -2 else nI k := rfl
    rw [jloop_s, fX12_wrongIn_B19_eq, u]
    unfold fX12_wrongIn_B19_J35
    have ej : (jo (k = tN V lw s c t q) = 0) = ¬ (k = tN V lw s c t q) := by
      unfold jo
      by_cases z : k = tN V lw s c t q <;> simp [z]
    have es : (nI S ≤ nI k) = (S ≤ k) := propext (nI_leI (by omega) (by omega))
    simp only [ej, ob_nI hsh (show 6 < 2 ^ 31 by omega), nI_cl (show sh < 2 ^ 31 by omega), h32, es]
    by_cases a : k = tN V lw s c t q
    · rw [if_neg (fun z => z a)]
      by_cases b : S ≤ k
      · rw [if_pos b, if_pos (by omega)]
      · rw [if_neg b, if_neg (fun z => z a), if_neg (by omega)]
    · rw [if_pos a, if_pos a, if_pos (by omega), if_neg (by omega)]
  | succ n ih =>
    intro k f σ hk hf hm hlm h32 hE hT
    obtain ⟨f, rfl⟩ : ∃ g, f = g + 1 := ⟨f - 1, by omega⟩
    have bs1 := tS_b ho V s c q (k + 1)
    obtain ⟨U, eU, oU, TU⟩ := sM_goRound (q := q) hm hg hlm ho hs hc hT (tH_le hg hc k) (tP_le hg hc k)
    have eL : lw (hN V c (tH V c k)) (vN V 6 s) (vN V 0 c) k q (vN V 7 0) = tL V lw s c q k := rfl
    rw [eL] at eU
    have hmU : nM U ch V := hm.off oU (by decide) (by decide)
    have TU' : tM U (k + 1) (tS V lw s c q (k + 1)) (tH V c (k + 1)) (tP V c (k + 1)) := TU
    have is := (tF_is (V := V) (lw := lw) (s := s) (c := c) (t := t) (q := q) 60 0 rfl k (Nat.zero_le _) (show k + 1 ≤ tN V lw s c t q by omega))
    have u : uK E (tL V lw s c q) (tN V lw s c t q) S (n + 1) k = if E k = (nI (tL V lw s c q k)).toInt64 then uK E (tL V lw s c q) (tN V lw s c t q) S n (k + 1) else nI k := rfl
    have ej : (jo (k = tN V lw s c t q) = 0) = ¬ (k = tN V lw s c t q) := by
      unfold jo
      by_cases z : k = tN V lw s c t q <;> simp [z]
    have es : (nI S ≤ nI k) = (S ≤ k) := propext (nI_leI (by omega) (by omega))
    have u33 : U.2 33 (60 * sh + k) = E k := by rw [oU.2.2]; exact hE k (by omega)
    have ec : (lg_cmp (nI (tL V lw s c q k)).toInt64 (E k) = 0) = (E k = (nI (tL V lw s c q k)).toInt64) := propext ((lg_cmp_eq _ _).trans ⟨fun z => z.symm, fun z => z.symm⟩)
    have body : jloop (fX12_wrongIn_B19 (nI sh) (nI s) (nI c) (nI q) (nI (bentN V t c))) (f + 1) (σ, jo (k = tN V lw s c t q), nI k) = if E k = (nI (tL V lw s c q k)).toInt64 then jloop (fX12_wrongIn_B19 (nI sh) (nI s) (nI c) (nI q) (nI (bentN V t c))) f (U, jo (k + 1 = tN V lw s c t q), nI (k + 1)) else some (nI k, U) := by
      rw [jloop_s, fX12_wrongIn_B19_eq]
      unfold fX12_wrongIn_B19_J35
      rw [if_pos (show jo (k = tN V lw s c t q) = 0 by rw [ej]; omega)]
      show (if jo (k = tN V lw s c t q) = 0 then (ob (nI sh) 6 (if (σ.1 32 (nI sh).toNatClampNeg) ≤ nI k then (some (nI k, σ)) else (Option.bind (fX12_goRound σ (nI s) (nI c) (nI q)) fun (q3 : (Int32 × jS)) => (ob (((60 : Int32) * (nI sh)) + nI k) 360 (if (lg_cmp (q3.1.toInt64) (q3.2.2 33 ((((60 : Int32) * (nI sh)) + nI k)).toNatClampNeg)) = 0 then (Option.bind (fX12_isOver q3.2 (nI (bentN V t c))) fun (q4 : Int32) => (jloop (fX12_wrongIn_B19 (nI sh) (nI s) (nI c) (nI q) (nI (bentN V t c))) f (q3.2, (jb q4), (nI k + (1 : Int32))))) else (some (nI k, q3.2))))))) else (some (nI k, σ))) = _
      rw [if_pos (show jo (k = tN V lw s c t q) = 0 by rw [ej]; omega), ob_nI hsh (by omega), nI_cl (by omega), h32, if_neg (by rw [es]; omega), eU, Option.bind_some, ix60' hsh (by omega), ob_nI (by omega) (by omega), nI_cl (by omega)]
      show (if (lg_cmp (nI (tL V lw s c q k)).toInt64 (U.2 33 (60 * sh + k))) = 0 then (Option.bind (fX12_isOver U (nI (bentN V t c))) fun (q4 : Int32) => (jloop (fX12_wrongIn_B19 (nI sh) (nI s) (nI c) (nI q) (nI (bentN V t c))) f (U, (jb q4), (nI k + (1 : Int32))))) else (some (nI k, U))) = _
      rw [u33]
      simp only [ec]
      rw [sM_isOver hmU hg (bentN_le hg ht) TU'.2.1 TU'.2.2.1 (by omega) (by omega), Option.bind_some, jo_jb, nI_1, show jo (over V (bentN V t c) (k + 1) (tS V lw s c q (k + 1))) = jo (k + 1 = tN V lw s c t q) from jo_eq is]
    rw [body, u]
    by_cases a : E k = (nI (tL V lw s c q k)).toInt64
    · rw [if_pos a, if_pos a]
      obtain ⟨σ', h1, h2⟩ := ih (k + 1) f U (by omega) (by omega) hmU (hlm.go oU (by intro c h1 h2; simp <;> omega) (by decide)) (by rw [oU.1 32 (by decide) (by decide), h32]) (fun i hi => by rw [oU.2.2]; exact hE i hi) TU'
      exact ⟨σ', h1, oU.trans h2⟩
    · rw [if_neg a, if_neg a]
      exact ⟨U, rfl, oU⟩
theorem sM_wrongIn {σ : jS} {ch : Nat} {V : Nat → Nat → Int32} {lw : jL} (hm : nM σ ch V) (hg : nG ch V) (hl : lM σ lw) (ho : lOk lw) {s c t q sh S : Nat} (hs : s < 3) (hc : c < ch) (ht : cOk ch t c) (hsh : sh < 6) (hS : S ≤ 60) (h32 : σ.1 32 sh = nI S) {E : Nat → Int64} (hE : ∀ i, i < S → σ.2 33 (60 * sh + i) = E i) : ∃ σ', fX12_wrongIn σ (nI sh) (nI s) (nI c) (nI t) (nI q) = some (uK E (tL V lw s c q) (tN V lw s c t q) S (min (tN V lw s c t q) S) 0, σ') ∧ mOff [18, 19] [33, 34, 35, 36] σ σ' := by
  unfold fX12_wrongIn
  obtain ⟨U, eU, oU, TU⟩ := sM_beginTurn σ
  have nU : nM U ch V := hm.off oU (by decide) (by decide)
  have bN := tN_b V lw s c t q
  rw [eU, Option.bind_some, sM_bentOf nU hg ht hc, Option.bind_some]
  obtain ⟨σ', e, o⟩ := sM_wrongL (q := q) (E := E) hg ho hs hc ht hsh hS (min (tN V lw s c t q) S) 0 jN U (by omega) (by have := jN_ge; omega) nU (hl.go oU (by intro c h1 h2; simp) (by decide)) (by rw [oU.1 32 (by decide) (by decide), h32]) (fun i hi => by rw [oU.2.2]; exact hE i hi) TU
  rw [jo_0 (show ¬ 0 = tN V lw s c t q by omega)] at e
  exact ⟨σ', e, (oU.mono (by simp) (by simp)).trans o⟩
