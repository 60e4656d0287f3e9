/-! PURE PART: words for states, loops, truth values; small ints as naturals -/
theorem jloop_s {α β : Type} (B : (α → Option β) → α → Option β) (n : Nat) (a : α) : jloop B (n + 1) a = B (jloop B n) a := rfl
theorem jc_s {σ : jS} {c : Nat} {f : Nat → Int32} : (jc σ c f).1 c = f := if_pos rfl
theorem jc_n {σ : jS} {c c' : Nat} {f : Nat → Int32} (h : c' ≠ c) : (jc σ c f).1 c' = σ.1 c' := if_neg h
theorem jc_2 {σ : jS} {c : Nat} {f : Nat → Int32} : (jc σ c f).2 = σ.2 := rfl
theorem jcl_1 {σ : jS} {c : Nat} {f : Nat → Int64} : (jcl σ c f).1 = σ.1 := rfl
theorem jcl_s {σ : jS} {c : Nat} {f : Nat → Int64} : (jcl σ c f).2 c = f := if_pos rfl
theorem jcl_n {σ : jS} {c c' : Nat} {f : Nat → Int64} (h : c' ≠ c) : (jcl σ c f).2 c' = σ.2 c' := if_neg h
theorem ju_s {σ : jS} {c i : Nat} {v : Int32} : (ju σ c i v).1 c i = v := by
  unfold ju; rw [jc_s]; exact if_pos rfl
theorem ju_i {σ : jS} {c i j : Nat} {v : Int32} (h : j ≠ i) : (ju σ c i v).1 c j = σ.1 c j := by
  unfold ju; rw [jc_s]; exact if_neg h
theorem ju_c {σ : jS} {c i : Nat} {v : Int32} : (ju σ c i v).1 c = upd (σ.1 c) i v := by
  unfold ju; rw [jc_s]
theorem ju_n {σ : jS} {c c' i : Nat} {v : Int32} (h : c' ≠ c) : (ju σ c i v).1 c' = σ.1 c' := by
  unfold ju; rw [jc_n h]
theorem ju_2 {σ : jS} {c i : Nat} {v : Int32} : (ju σ c i v).2 = σ.2 := rfl
theorem jul_1 {σ : jS} {c i : Nat} {v : Int64} : (jul σ c i v).1 = σ.1 := rfl
theorem jul_s {σ : jS} {c i : Nat} {v : Int64} : (jul σ c i v).2 c i = v := by
  unfold jul; rw [jcl_s]; exact if_pos rfl
theorem jul_i {σ : jS} {c i j : Nat} {v : Int64} (h : j ≠ i) : (jul σ c i v).2 c j = σ.2 c j := by
  unfold jul; rw [jcl_s]; exact if_neg h
theorem jul_n {σ : jS} {c c' i : Nat} {v : Int64} (h : c' ≠ c) : (jul σ c i v).2 c' = σ.2 c' := by
  unfold jul; rw [jcl_n h]
theorem upd_s {f : Nat → Int32} {i : Nat} {v : Int32} : upd f i v i = v := if_pos rfl
theorem upd_n {f : Nat → Int32} {i j : Nat} {v : Int32} (h : j ≠ i) : upd f i v j = f j := if_neg h
/-- a truth as an int -/
def jo (P : Prop) [Decidable P] : Int32 := if P then 1 else 0
theorem jb_jo (P : Prop) [Decidable P] : (jb (jo P) = 0) = ¬ P := by
  unfold jb jo
  by_cases h : P <;> simp [h]
theorem jo_jb (P : Prop) [Decidable P] : jb (jo P) = jo P := by
  unfold jb jo
  by_cases h : P <;> simp [h]
theorem jo_eq {P Q : Prop} [Decidable P] [Decidable Q] (h : P ↔ Q) : jo P = jo Q := by
  unfold jo
  by_cases hp : P
  · rw [if_pos hp, if_pos (h.mp hp)]
  · rw [if_neg hp, if_neg (fun q => hp (h.mpr q))]
theorem jo_1 {P : Prop} [Decidable P] (h : P) : jo P = 1 := if_pos h
theorem jo_0 {P : Prop} [Decidable P] (h : ¬ P) : jo P = 0 := if_neg h
theorem ob_in {ρ : Type} {i : Int32} {n : Nat} {o : Option ρ} (h : vp_in i n) : ob i n o = o := if_neg h
theorem ob_nI {ρ : Type} {k n : Nat} {o : Option ρ} (h : k < n) (hn : n < 2 ^ 31) : ob (nI k) n o = o := ob_in (vp_in_nI h hn)
theorem nI_cl {k : Nat} (h : k < 2 ^ 31) : (nI k).toNatClampNeg = k := nI_clamp h
theorem nI_T {k : Nat} (h : k < 2 ^ 31) : (nI k).toInt = (k : Int) := nI_toInt h
theorem i_lt {x y : Int32} : (x < y) = (x.toInt < y.toInt) := propext Int32.lt_iff_toInt_lt
theorem i_le {x y : Int32} : (x ≤ y) = (x.toInt ≤ y.toInt) := propext Int32.le_iff_toInt_le
theorem i_eq {x y : Int32} : (x = y) = (x.toInt = y.toInt) := propext Int32.toInt_inj.symm
theorem i_add {x y : Int32} (h1 : -2147483648 ≤ x.toInt + y.toInt) (h2 : x.toInt + y.toInt < 2147483648) : (x + y).toInt = x.toInt + y.toInt := by
  rw [Int32.toInt_add]
  exact Int.bmod_eq_of_le (by omega) (by omega)
theorem i_sub {x y : Int32} (h1 : -2147483648 ≤ x.toInt - y.toInt) (h2 : x.toInt - y.toInt < 2147483648) : (x - y).toInt = x.toInt - y.toInt := by
  rw [Int32.toInt_sub]
  exact Int.bmod_eq_of_le (by omega) (by omega)
theorem i_lo (x : Int32) : -2147483648 ≤ x.toInt := x.le_toInt
theorem i_hi (x : Int32) : x.toInt < 2147483648 := x.toInt_lt
/-- an int within bounds is a natural -/
theorem nI_of3 {x : Int32} {lo hi : Nat} (h1 : (lo : Int) ≤ x.toInt) (h2 : x.toInt ≤ (hi : Int)) (hh : hi < 2 ^ 31) : ∃ k : Nat, lo ≤ k ∧ k ≤ hi ∧ x = nI k := by
  refine ⟨x.toInt.toNat, by omega, by omega, ?_⟩
  have hb := i_hi x
  rw [← Int32.toInt_inj, nI_T (by omega)]
  omega
/-- nothing outside these cells has changed -/
def jOff (S : List Nat) (σ σ' : jS) : Prop := (∀ c, c ∉ S → σ'.1 c = σ.1 c) ∧ σ'.2 = σ.2
theorem jOff.rf {S : List Nat} {σ : jS} : jOff S σ σ := ⟨fun _ _ => rfl, rfl⟩
theorem jOff.trans {S : List Nat} {a b c : jS} (h : jOff S a b) (k : jOff S b c) : jOff S a c := ⟨fun q hq => (k.1 q hq).trans (h.1 q hq), k.2.trans h.2⟩
theorem jOff.mono {S T : List Nat} {a b : jS} (h : jOff S a b) (hs : ∀ c ∈ S, c ∈ T) : jOff T a b := ⟨fun q hq => h.1 q (fun z => hq (hs q z)), h.2⟩
theorem jOff.u {S : List Nat} {σ : jS} {c i : Nat} {v : Int32} (h : c ∈ S) : jOff S σ (ju σ c i v) := ⟨fun q hq => ju_n (fun e => hq (e ▸ h)), rfl⟩
theorem jOff.k {S : List Nat} {σ : jS} {c : Nat} {f : Nat → Int32} (h : c ∈ S) : jOff S σ (jc σ c f) := ⟨fun q hq => jc_n (fun e => hq (e ▸ h)), rfl⟩
theorem jOff.uT {S : List Nat} {a σ : jS} {c i : Nat} {v : Int32} (k : jOff S a σ) (h : c ∈ S) : jOff S a (ju σ c i v) := k.trans (jOff.u h)
theorem jOff.kT {S : List Nat} {a σ : jS} {c : Nat} {f : Nat → Int32} (k : jOff S a σ) (h : c ∈ S) : jOff S a (jc σ c f) := k.trans (jOff.k h)
/-! the numbers: CHILDREN ch; V what number -/
abbrev isCh (ch : Nat) (p : Int32) : Prop := 0 ≤ p.toInt ∧ p.toInt < (ch : Int)
theorem isCh_nat {ch : Nat} {p : Int32} (h : isCh ch p) : ∃ k, k < ch ∧ p = nI k := by
  have hb := i_hi p
  refine ⟨p.toInt.toNat, by omega, ?_⟩
  rw [← Int32.toInt_inj, nI_T (by omega)]
  omega
theorem isCh_nI {ch k : Nat} (h : k < ch) (hc : ch ≤ 9) : isCh ch (nI k) := by
  unfold isCh; rw [nI_T (by omega)]; omega
def jok (ch w n : Nat) : Prop := (w < 6 ∧ n < ch) ∨ (w = 6 ∧ n < 3) ∨ (7 ≤ w ∧ w ≤ 10 ∧ n = 0)
def jxp (w n : Nat) : Nat := if w < 6 then 6 * n + w else if w = 6 then 54 + n else 50 + w
def jmv (σ : jS) (w n : Nat) : Int32 := match w with
  | 0 => σ.1 2 n
  | 1 => σ.1 3 n
  | 2 => σ.1 4 n
  | 3 => σ.1 5 n
  | 4 => σ.1 6 n
  | 5 => σ.1 7 n
  | 6 => σ.1 1 n
  | 7 => σ.1 0 9
  | 8 => σ.1 0 10
  | 9 => σ.1 0 11
  | _ => σ.1 0 12
def nX (σ : jS) (ch : Nat) (V : Nat → Nat → Int32) : Prop := ch ≤ 9 ∧ σ.1 1 1 = nI ch ∧ ∀ w n, jok ch w n → σ.1 2 (jxp w n) = V w n
def nM (σ : jS) (ch : Nat) (V : Nat → Nat → Int32) : Prop := ch ≤ 9 ∧ σ.1 0 2 = nI ch ∧ ∀ w n, jok ch w n → jmv σ w n = V w n
def jlo : Nat → Nat := fun w => ([1, 0, 0, 0, 0, 0, 1, 0, 1, 0, 0] : List Nat).getD w 0
def jhi : Nat → Nat := fun w => ([9, 3, 9, 3, 9, 3, 9, 3, 30, 200, 12] : List Nat).getD w 0
def nB (ch : Nat) (V : Nat → Nat → Int32) : Prop := ∀ w n, jok ch w n → ((jlo w : Int) ≤ (V w n).toInt ∧ (V w n).toInt ≤ (jhi w : Int)) ∧ (w = 4 → V w n = 9 ∨ (isCh ch (V w n) ∧ V w n ≠ nI n))
theorem nX.off {S : List Nat} {σ σ' : jS} {ch : Nat} {V : Nat → Nat → Int32} (h : nX σ ch V) (k : jOff S σ σ') (h1 : 1 ∉ S) (h2 : 2 ∉ S) : nX σ' ch V := by
  refine ⟨h.1, ?_, fun w n hw => ?_⟩
  · rw [k.1 1 h1]; exact h.2.1
  · rw [k.1 2 h2]; exact h.2.2 w n hw
/-! the class's reads -/
theorem sX6_isChild {σ : jS} {ch : Nat} {V : Nat → Nat → Int32} (h : nX σ ch V) (p : Int32) : fX6_isChild σ p = some (jo (isCh ch p)) := by
  unfold fX6_isChild
  have hc := h.1
  rw [h.2.1]
  have hT := nI_T (k := ch) (by omega)
  simp only [i_lt, i_le, hT]
  by_cases h0 : p.toInt < (0 : Int32).toInt
  · rw [if_pos h0, jo_0]
    intro q
    have : (0 : Int32).toInt = 0 := rfl
    omega
  · rw [if_neg h0]
    have h00 : (0 : Int32).toInt = 0 := rfl
    by_cases h1 : (ch : Int) ≤ p.toInt
    · rw [if_pos h1, jo_0 (fun q => by omega)]
    · rw [if_neg h1, jo_1 ⟨by omega, by omega⟩]
theorem sX6_isSwing (σ : jS) (p : Int32) : fX6_isSwing σ p = some (jo (isCh 3 p)) := by
  unfold fX6_isSwing
  have h3 : (3 : Int32).toInt = 3 := rfl
  have h00 : (0 : Int32).toInt = 0 := rfl
  simp only [i_lt, i_le, h3, h00]
  by_cases h0 : p.toInt < 0
  · rw [if_pos h0, jo_0 (fun q => by omega)]
  · rw [if_neg h0]
    by_cases h1 : (3 : Int) ≤ p.toInt
    · rw [if_pos h1, jo_0 (fun q => by omega)]
    · rw [if_neg h1, jo_1 ⟨by omega, by omega⟩]
/-- who may count: 9, or another CHILD -/
abbrev mayC (ch : Nat) (t c : Int32) : Prop := t = 9 ∨ (t ≠ c ∧ isCh ch t)
theorem sX6_mayCount {σ : jS} {ch : Nat} {V : Nat → Nat → Int32} (h : nX σ ch V) (t c : Int32) : fX6_mayCount σ t c = some (jo (mayC ch t c)) := by
  unfold fX6_mayCount
  rw [sX6_isChild h]
  simp only [Option.bind_some, jb_jo]
  by_cases h9 : t = 9
  · rw [if_pos h9, jo_1 (Or.inl h9)]
  · rw [if_neg h9]
    by_cases hc : t = c
    · rw [if_pos hc, jo_0]
      rintro (q | q)
      · exact h9 q
      · exact q.1 hc
    · rw [if_neg hc]
      by_cases hk : isCh ch t
      · rw [if_neg (fun q => q hk), jo_1 (Or.inr ⟨hc, hk⟩)]
      · rw [if_pos hk, jo_0]
        rintro (q | q)
        · exact h9 q
        · exact hk q.2
theorem sX6_placeOf {σ : jS} {ch : Nat} {V : Nat → Nat → Int32} (h : nX σ ch V) {w n : Nat} (hk : jok ch w n) : fX6_placeOf σ (nI n) (nI w) = some (nI (jxp w n)) := by
  have hc := h.1
  have hw : w ≤ 10 := by rcases hk with q | q | q <;> omega
  have hn : n ≤ 9 := by rcases hk with q | q | q <;> omega
  unfold fX6_placeOf
  rw [sX6_isChild h, sX6_isSwing]
  simp only [Option.bind_some, jb_jo]
  have e0 : ¬ nI w < 0 := nI_pos (by omega)
  have e1 : nI w ≤ (10 : Int32) := (nI_leI (a := w) (b := 10) (by omega) (by omega)).mpr hw
  rw [if_neg e0, if_pos e1]
  have e6 : ((6 : Int32) ≤ nI w) = (6 ≤ w) := propext (nI_leI (a := 6) (b := w) (by omega) (by omega))
  have e7 : (nI w = (6 : Int32)) = (w = 6) := propext (nI_eq (a := w) (b := 6) (by omega) (by omega))
  have en : (nI n = 0) = (n = 0) := propext (nI_eq (a := n) (b := 0) (by omega) (by omega))
  simp only [e6, e7, en]
  unfold jxp
  rcases hk with q | q | q
  · rw [if_neg (by omega : ¬ 6 ≤ w), if_neg (fun z => z (isCh_nI q.2 hc)), if_pos q.1]
    show some (nI n * nI 6 + nI w) = _
    rw [pk_mul, nI_add, Nat.mul_comm]
  · rw [if_pos (by omega : 6 ≤ w), if_pos q.1, if_neg (fun z => z (isCh_nI (ch := 3) q.2 (by omega))), if_neg (by omega : ¬ w < 6), if_pos q.1]
    show some (nI 54 + nI n) = _
    rw [nI_add]
  · rw [if_pos (by omega : 6 ≤ w), if_neg (by omega : ¬ w = 6), if_pos q.2.2, if_neg (by omega : ¬ w < 6), if_neg (by omega : ¬ w = 6)]
    show some (nI 57 + nI w - nI 7) = _
    rw [nI_add, pk_sub (by omega)]
    congr 2
    omega
theorem jxp_lt {ch w n : Nat} (hk : jok ch w n) (hc : ch ≤ 9) : jxp w n < 61 := by
  unfold jxp
  rcases hk with q | q | q
  · rw [if_pos q.1]; omega
  · rw [if_neg (by omega), if_pos q.1]; omega
  · rw [if_neg (by omega), if_neg (by omega)]; omega
theorem jxp_inj {ch w n w' n' : Nat} (hk : jok ch w n) (hk' : jok ch w' n') (hc : ch ≤ 9) (h : jxp w n = jxp w' n') : w = w' ∧ n = n' := by
  unfold jxp at h
  rcases hk with q | q | q <;> rcases hk' with r | r | r <;>
    (repeat' first | rw [if_pos (by omega)] at h | rw [if_neg (by omega)] at h) <;> omega
theorem sX6_valueAt (σ : jS) {k : Nat} (hk : k < 61) : fX6_valueAt σ (nI k) = some (σ.1 2 k) := by
  unfold fX6_valueAt
  rw [if_neg (nI_pos (by omega)), if_neg (by rw [show (61 : Int32) = nI 61 from rfl, nI_leI (by omega) (by omega)]; omega), ob_nI hk (by omega), nI_cl (by omega)]
theorem sX6_setAt (σ : jS) {k : Nat} (hk : k < 61) (v : Int32) : fX6_setAt σ (nI k) v = some (ju σ 2 k v) := by
  unfold fX6_setAt
  rw [if_neg (nI_pos (by omega)), if_neg (by rw [show (61 : Int32) = nI 61 from rfl, nI_leI (by omega) (by omega)]; omega), ob_nI hk (by omega), nI_cl (by omega)]
  rfl
theorem sX6_valueOf {σ : jS} {ch : Nat} {V : Nat → Nat → Int32} (h : nX σ ch V) {w n : Nat} (hk : jok ch w n) : fX6_valueOf σ (nI n) (nI w) = some (V w n) := by
  unfold fX6_valueOf
  rw [sX6_placeOf h hk]
  simp only [Option.bind_some]
  rw [sX6_valueAt σ (jxp_lt hk h.1), h.2.2 w n hk]
  rfl
