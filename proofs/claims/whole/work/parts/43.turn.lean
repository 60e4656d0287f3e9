/-! A TURN: naturals; rounds by the view of the numbers and of the law -/
theorem jst_e {α β : Type} {v : α} {K : α → β} : jst v K = K v := rfl
theorem jlet_e {α β : Type} {v : α} {B : α → β} : jlet v B = B v := rfl
theorem ju_g {σ : jS} {c i c' j : Nat} {v : Int32} : (ju σ c i v).1 c' j = if c' = c ∧ j = i then v else σ.1 c' j := by
  by_cases h : c' = c
  · subst h
    rw [ju_r]
    by_cases h2 : j = i
    · rw [if_pos h2, if_pos ⟨rfl, h2⟩]
    · rw [if_neg h2, if_neg (fun q => h2 q.2)]
  · rw [ju_n h, if_neg (fun q => h q.1)]
def vN (V : Nat → Nat → Int32) (w n : Nat) : Nat := (V w n).toNatClampNeg
theorem vN_eq {ch : Nat} {V : Nat → Nat → Int32} (hg : nG ch V) {w n : Nat} (hk : jok ch w n) : V w n = nI (vN V w n) ∧ jlo w ≤ vN V w n ∧ vN V w n ≤ jhi w := by
  have h := (hg w n hk).1
  have hh : jhi w ≤ 200 := by
    have : ∀ k, k ≤ 10 → jhi k ≤ 200 := by decide
    exact this w (by rcases hk with q | q | q <;> omega)
  obtain ⟨k, h1, h2, e⟩ := nI_of3 h.1 h.2 (by omega)
  have e2 : vN V w n = k := by
    unfold vN
    rw [e, nI_cl (by omega)]
  rw [e2]
  exact ⟨e, h1, h2⟩
abbrev jL : Type := Nat → Nat → Nat → Nat → Nat → Nat → Nat
def lOk (lw : jL) : Prop := ∀ h s w r q p, 1 ≤ lw h s w r q p ∧ lw h s w r q p ≤ 20
/-- the class's law, from any state that has the same law, gives lw -/
def lX (σ0 : jS) (lw : jL) : Prop := ∀ σ : jS, σ.1 10 = σ0.1 10 → σ.1 7 6 = σ0.1 7 6 → ∀ h s w r q p : Nat, h ≤ 9 → 1 ≤ s → s ≤ 9 → ∃ σ', fX4_lasting σ (nI h) (nI s) (nI w) (nI r) (nI q) (nI p) = some (nI (lw h s w r q p), σ') ∧ jOff [11, 12] σ σ'
def jclamp (v : Int32) : Int32 := if (1 : Int32) ≤ v then (if v ≤ (20 : Int32) then v else 20) else 1
def lM (σ0 : jS) (lw : jL) : Prop := (jb (σ0.1 0 32) = 0 → ∀ h s w r q p : Nat, h ≤ 9 → 1 ≤ s → s ≤ 9 → lw h s w r q p = s + h / 3 + 1) ∧ (jb (σ0.1 0 32) ≠ 0 → ∀ σ : jS, (∀ c, c = 13 ∨ c = 14 ∨ c = 15 ∨ c = 16 ∨ c = 17 → σ.1 c = σ0.1 c) → ∀ h s w r q p : Nat, h ≤ 9 → 1 ≤ s → s ≤ 9 → σ.1 18 0 = nI h → σ.1 18 1 = nI s → σ.1 18 2 = nI w → σ.1 18 3 = nI r → σ.1 18 4 = nI q → σ.1 18 5 = nI p → ∃ v σ', fX12_gives σ 0 = some (v, σ') ∧ jclamp v = nI (lw h s w r q p) ∧ mOff [19] [] σ σ')
theorem lX.go {S : List Nat} {σ σ' : jS} {lw : jL} (h : lX σ lw) (k : jOff S σ σ') (h1 : 10 ∉ S) (h2 : 7 ∉ S) : lX σ' lw := fun τ a b => h τ (a.trans (k.1 10 h1)) (b.trans (by rw [k.1 7 h2]))
theorem lM.go {S F : List Nat} {σ σ' : jS} {lw : jL} (h : lM σ lw) (k : mOff S F σ σ') (h1 : ∀ c, 13 ≤ c → c ≤ 17 → c ∉ S) (h2 : 32 ∉ F) : lM σ' lw := by
  unfold lM at *
  rw [k.2.1 32 h2]
  refine ⟨h.1, fun a τ b => h.2 a τ (fun c hc => (b c hc).trans (k.1 c (h1 c (by omega) (by omega)) (by omega)))⟩
/-- a round's height -/
def hN (V : Nat → Nat → Int32) (c h : Nat) : Nat := min (vN V 2 c) (h + vN V 7 0 + vN V 1 c - vN V 0 c / 3)
theorem hgt_sum {h p l w : Nat} (b1 : h ≤ 1000) (b2 : p ≤ 1000) (b3 : l ≤ 1000) (b4 : w ≤ 1000) : (w / 3 ≤ h + p + l ∧ nI h + nI p + nI l - nI w / 3 = nI (h + p + l - w / 3)) ∨ (h + p + l < w / 3 ∧ nI h + nI p + nI l - nI w / 3 < 0) := by
  have e3 : nI w / (3 : Int32) = nI (w / 3) := pk_div (a := w) (d := 3) (by omega) (by omega) (by omega)
  rw [e3, nI_add, nI_add]
  by_cases a : w / 3 ≤ h + p + l
  · exact Or.inl ⟨a, pk_sub a⟩
  · exact Or.inr ⟨by omega, pk_sneg (by omega) (by omega)⟩
theorem hgt_X {h p l w k : Nat} (b1 : h ≤ 1000) (b2 : p ≤ 1000) (b3 : l ≤ 1000) (b4 : w ≤ 1000) (b5 : k ≤ 1000) : (if (if (0 : Int32) < (((nI h + nI p) + nI l) - (nI w / (3 : Int32))) then (((nI h + nI p) + nI l) - (nI w / (3 : Int32))) else (0 : Int32)) < nI k then (if (0 : Int32) < (((nI h + nI p) + nI l) - (nI w / (3 : Int32))) then (((nI h + nI p) + nI l) - (nI w / (3 : Int32))) else (0 : Int32)) else nI k) = nI (min k (h + p + l - w / 3)) := by
  rcases hgt_sum b1 b2 b3 b4 with ⟨a, e⟩ | ⟨a, e⟩
  · rw [e]
    generalize hm : h + p + l - w / 3 = m
    have hm2 : m ≤ 3000 := by omega
    have i1 : (if (0 : Int32) < nI m then nI m else 0) = nI m := by
      by_cases z : 0 < m
      · rw [if_pos (show (0 : Int32) < nI m from (nI_ltI (a := 0) (b := m) (by omega) (by omega)).mpr z)]
      · have : m = 0 := by omega
        subst this
        rfl
    rw [i1]
    by_cases z : m < k
    · rw [if_pos ((nI_ltI (by omega) (by omega)).mpr z), Nat.min_eq_right (by omega)]
    · rw [if_neg (fun q => z ((nI_ltI (by omega) (by omega)).mp q)), Nat.min_eq_left (by omega)]
  · have n0 : ¬ (0 : Int32) < nI h + nI p + nI l - nI w / 3 := fun q => by
      rw [i_lt] at q e
      omega
    rw [if_neg n0, show h + p + l - w / 3 = 0 by omega, Nat.min_eq_right (by omega)]
    by_cases z : 0 < k
    · rw [if_pos (show (0 : Int32) < nI k from (nI_ltI (a := 0) (b := k) (by omega) (by omega)).mpr z)]
      rfl
    · have : k = 0 := by omega
      subst this
      rfl
theorem hgt_M {ρ : Type} {h p l w k : Nat} (b1 : h ≤ 1000) (b2 : p ≤ 1000) (b3 : l ≤ 1000) (b4 : w ≤ 1000) (b5 : k ≤ 1000) (K : Int32 → Option ρ) (y1 : Int32) (hy : y1 = (((nI h + nI p) + nI l) - (nI w / (3 : Int32)))) : (if 0 ≤ y1 then (if y1 ≤ nI k then K y1 else K (nI k)) else K (0 : Int32)) = K (nI (min k (h + p + l - w / 3))) := by
  subst hy
  rcases hgt_sum b1 b2 b3 b4 with ⟨a, e⟩ | ⟨a, e⟩
  · rw [e, if_pos (nI_pos' (by omega))]
    by_cases z : h + p + l - w / 3 ≤ k
    · rw [if_pos ((nI_leI (by omega) (by omega)).mpr z), Nat.min_eq_right z]
    · rw [if_neg (fun q => z ((nI_leI (by omega) (by omega)).mp q)), Nat.min_eq_left (by omega)]
  · have n0 : ¬ (0 : Int32) ≤ nI h + nI p + nI l - nI w / 3 := fun q => by
      rw [i_le] at q
      rw [i_lt] at e
      omega
    rw [if_neg n0, show h + p + l - w / 3 = 0 by omega, Nat.min_eq_right (by omega)]
    rfl
theorem hN_le {ch : Nat} {V : Nat → Nat → Int32} (hg : nG ch V) {c : Nat} (hc : c < ch) (h : Nat) : hN V c h ≤ 9 := by
  have := (vN_eq hg (w := 2) (n := c) (Or.inl ⟨by omega, hc⟩)).2.2
  have e : jhi 2 = 9 := rfl
  unfold hN
  omega
theorem sX6_vn {σ : jS} {ch : Nat} {V : Nat → Nat → Int32} (h : nX σ ch V) (hg : nG ch V) {w n : Nat} {ni wi : Int32} (hn : ni = nI n) (hw : wi = nI w) (hk : jok ch w n) : fX6_valueOf σ ni wi = some (nI (vN V w n)) := by
  subst hn hw
  rw [sX6_valueOf h hk, ← (vN_eq hg hk).1]
theorem sX6_vc {σ : jS} {ch : Nat} {V : Nat → Nat → Int32} (h : nX σ ch V) (hg : nG ch V) (w : Nat) (wi : Int32) {n : Nat} (hw : wi = nI w) (hk : jok ch w n) : fX6_valueOf σ (nI n) wi = some (nI (vN V w n)) := sX6_vn h hg rfl hw hk
theorem sX6_vr {σ : jS} {ch : Nat} {V : Nat → Nat → Int32} (h : nX σ ch V) (hg : nG ch V) (w : Nat) (wi : Int32) (hw : wi = nI w) (hk : jok ch w 0) : fX6_valueOf σ (0 : Int32) wi = some (nI (vN V w 0)) := sX6_vn h hg rfl hw hk
theorem jk0 {ch w c : Nat} (hw : w < 6) (hc : c < ch) : jok ch w c := Or.inl ⟨hw, hc⟩
theorem jk6 {ch s : Nat} (hs : s < 3) : jok ch 6 s := Or.inr (Or.inl ⟨rfl, hs⟩)
theorem jk7 {ch w : Nat} (h1 : 7 ≤ w) (h2 : w ≤ 10) : jok ch w 0 := Or.inr (Or.inr ⟨h1, h2, rfl⟩)
/-- a turn of the class at cell t -/
def tX (σ : jS) (t s c : Nat) (told : Int32) (r sec h top : Nat) : Prop := σ.1 t 0 = nI s ∧ σ.1 t 1 = nI c ∧ σ.1 t 2 = told ∧ σ.1 t 3 = nI r ∧ σ.1 t 4 = nI sec ∧ σ.1 t 5 = nI h ∧ σ.1 t 6 = nI top
theorem sX8_step {σ : jS} {ch : Nat} {V : Nat → Nat → Int32} {lw : jL} (hx : nX σ ch V) (hg : nG ch V) (hl : lX σ lw) {t : Nat} (ht : jTn t) {s c r sec h top q : Nat} {told : Int32} (hs : s < 3) (hc : c < ch) (hT : tX σ t s c told r sec h top) (bh : h ≤ 9) (br : r < 1000) (bt : top ≤ 9) (bs : sec ≤ 100000) : ∃ σ', fX8_step t σ (nI q) = some σ' ∧ jOff [11, 12, t] σ σ' ∧ tX σ' t s c told (r + 1) (sec + lw (hN V c h) (vN V 6 s) (vN V 0 c) r q (vN V 7 0)) (hN V c h) (max top (hN V c h)) ∧ σ'.1 t 7 = nI (lw (hN V c h) (vN V 6 s) (vN V 0 c) r q (vN V 7 0)) := by
  obtain ⟨h0, h1, h2, h3, h4, h5, h6⟩ := hT
  have ht' : 1 ≠ t ∧ 2 ≠ t ∧ 7 ≠ t ∧ 10 ≠ t ∧ t ≠ 11 ∧ t ≠ 12 := by rcases ht with rfl | rfl | rfl <;> decide
  have v0 := (vN_eq hg (jk0 (w := 0) (by omega) hc)).2
  have v1 := (vN_eq hg (jk0 (w := 1) (by omega) hc)).2
  have v2 := (vN_eq hg (jk0 (w := 2) (by omega) hc)).2
  have v6 := (vN_eq hg (jk6 hs)).2
  have v7 := (vN_eq hg (jk7 (w := 7) (by omega) (by omega))).2
  have b0 : jhi 0 = 9 := rfl
  have b1 : jhi 1 = 3 := rfl
  have b2 : jhi 2 = 9 := rfl
  have b6 : jhi 6 = 9 := rfl
  have b61 : jlo 6 = 1 := rfl
  have b7 : jhi 7 = 3 := rfl
  have bH := hN_le hg hc h
  unfold fX8_step
  rw [h1, sX6_vc hx hg 0 0 rfl (jk0 (by omega) hc), Option.bind_some, sX6_vr hx hg 7 7 rfl (jk7 (by omega) (by omega)), Option.bind_some, sX6_vc hx hg 1 1 rfl (jk0 (by omega) hc), Option.bind_some, sX6_vc hx hg 2 2 rfl (jk0 (by omega) hc), Option.bind_some, h5, hgt_X (by omega) (by omega) (by omega) (by omega) (by omega)]
  have eH : min (vN V 2 c) (h + vN V 7 0 + vN V 1 c - vN V 0 c / 3) = hN V c h := rfl
  rw [eH, jst_e]
  obtain ⟨S, hS⟩ : ∃ S, S = ju σ t 5 (nI (hN V c h)) := ⟨_, rfl⟩
  rw [← hS]
  have oS : jOff [11, 12, t] σ S := by rw [hS]; exact jOff.u (by simp)
  have nS : nX S ch V := hx.off oS (by simp; omega) (by simp; omega)
  have S0 : S.1 t 0 = nI s := by rw [hS, ju_i (by decide), h0]
  have S1 : S.1 t 1 = nI c := by rw [hS, ju_i (by decide), h1]
  have S2 : S.1 t 2 = told := by rw [hS, ju_i (by decide), h2]
  have S3 : S.1 t 3 = nI r := by rw [hS, ju_i (by decide), h3]
  have S4 : S.1 t 4 = nI sec := by rw [hS, ju_i (by decide), h4]
  have S5 : S.1 t 5 = nI (hN V c h) := by rw [hS, ju_s]
  have S6 : S.1 t 6 = nI top := by rw [hS, ju_i (by decide), h6]
  obtain ⟨U, eU, oU⟩ := hl S (by rw [hS, ju_n (by omega)]) (by rw [hS, ju_n (by omega)]) (hN V c h) (vN V 6 s) (vN V 0 c) r q (vN V 7 0) bH (by omega) (by omega)
  have tn : t ∉ [11, 12] := by simp; omega
  have U0 : U.1 t = S.1 t := oU.1 t tn
  rw [S0, sX6_vc nS hg 6 6 rfl (jk6 hs), Option.bind_some, S5, S3, eU, Option.bind_some]
  generalize lw (hN V c h) (vN V 6 s) (vN V 0 c) r q (vN V 7 0) = L at *
  have oU' : jOff [11, 12, t] σ U := oS.trans (oU.mono (by simp))
  simp only [jst, ju_g, U0, S0, S1, S3, S4, S5, S6, nI_add, nI_1, and_self, and_true, true_and, if_true, if_false, reduceIte, show ¬ (3 : Nat) = 7 by decide, show ¬ (4 : Nat) = 7 by decide, show ¬ (4 : Nat) = 3 by decide, show ¬ (7 : Nat) = 3 by decide, show ¬ (6 : Nat) = 4 by decide, show ¬ (6 : Nat) = 3 by decide, show ¬ (6 : Nat) = 7 by decide, show ¬ (5 : Nat) = 4 by decide, show ¬ (5 : Nat) = 3 by decide, show ¬ (5 : Nat) = 7 by decide]
  refine ⟨_, rfl, ?_, ⟨?_, ?_, ?_, ?_, ?_, ?_, ?_⟩, ?_⟩
  · exact (((oU'.uT (by simp)).uT (by simp)).uT (by simp)).uT (by simp)
  · simp [ju_g, U0, S0]
  · simp [ju_g, U0, S1]
  · simp [ju_g, U0, S2]
  · simp [ju_g]
  · simp [ju_g]
  · simp [ju_g, U0, S5]
  · rw [ju_s]
    by_cases z : top < hN V c h
    · rw [if_pos ((nI_ltI (by omega) (by omega)).mpr z), Nat.max_eq_right (by omega)]
    · rw [if_neg (fun q => z ((nI_ltI (by omega) (by omega)).mp q)), Nat.max_eq_left (by omega)]
  · simp [ju_g]
/-- what was COUNTED, how by b -/
def cnt (b n : Nat) : Nat := if b = 1 then n - n / 3 else if b = 2 then n + n / 4 else if b = 3 then n / 10 * 10 else n
abbrev over (V : Nat → Nat → Int32) (b k sec : Nat) : Prop := vN V 8 0 ≤ cnt b k ∨ (0 < vN V 9 0 ∧ vN V 9 0 ≤ sec) ∨ 60 ≤ k
/-- how one counts for a CHILD -/
def bentN (V : Nat → Nat → Int32) (t c : Nat) : Nat := if t = 9 then 0 else if vN V 4 t = c then 1 else vN V 3 t
/-- who may count -/
def cOk (ch t c : Nat) : Prop := t = 9 ∨ t < ch ∧ t ≠ c
theorem cOk_nine {ch t c : Nat} (h : cOk ch t c) (hc : ch ≤ 9) : t ≤ 9 := by
  rcases h with q | q <;> omega
theorem sX6_bentFor {σ : jS} {ch : Nat} {V : Nat → Nat → Int32} (hx : nX σ ch V) (hg : nG ch V) {t c : Nat} (ht : cOk ch t c) (hc : c < ch) : fX6_bentFor σ (nI t) (nI c) = some (nI (bentN V t c)) := by
  have h9 := hx.1
  unfold fX6_bentFor
  rw [sX6_isChild hx, Option.bind_some]
  simp only [jb_jo]
  rcases ht with rfl | ⟨ht, hne⟩
  · rw [if_pos (fun q => by unfold isCh at q; rw [nI_T (by omega)] at q; omega)]
    rfl
  · have k4 := jk0 (w := 4) (by omega) ht
    have k3 := jk0 (w := 3) (by omega) ht
    have e4 : nI t * (6 : Int32) + (4 : Int32) = nI (jxp 4 t) := by
      show nI t * nI 6 + nI 4 = _
      rw [pk_mul, nI_add, Nat.mul_comm]
      rfl
    have e3 : nI t * (6 : Int32) + (3 : Int32) = nI (jxp 3 t) := by
      show nI t * nI 6 + nI 3 = _
      rw [pk_mul, nI_add, Nat.mul_comm]
      rfl
    have l4 := jxp_lt k4 h9
    have l3 := jxp_lt k3 h9
    rw [if_neg (fun q => q (isCh_nI ht h9)), e4, e3, ob_nI l4 (by omega), ob_nI l3 (by omega), nI_cl (by omega), nI_cl (by omega), hx.2.2 4 t k4, hx.2.2 3 t k3]
    have v4 := vN_eq hg k4
    have v3 := vN_eq hg k3
    have b4 : jhi 4 = 9 := rfl
    have ei : (V 4 t = nI c) = (vN V 4 t = c) := by
      rw [v4.1]
      exact propext (nI_eq (by omega) (by omega))
    simp only [ei]
    unfold bentN
    rw [if_neg (show ¬ t = 9 by omega)]
    by_cases a : vN V 4 t = c
    · rw [if_pos a, if_pos a]
      rfl
    · rw [if_neg a, if_neg a, ← v3.1]
theorem sM_v {σ : jS} {ch : Nat} {V : Nat → Nat → Int32} (hm : nM σ ch V) (hg : nG ch V) {w n : Nat} (hk : jok ch w n) : jmv σ w n = nI (vN V w n) := (hm.2.2 w n hk).trans (vN_eq hg hk).1
theorem sM_bentOf {σ : jS} {ch : Nat} {V : Nat → Nat → Int32} (hm : nM σ ch V) (hg : nG ch V) {t c : Nat} (ht : cOk ch t c) (hc : c < ch) : fX12_bentOf σ (nI c) (nI t) = some (nI (bentN V t c)) := by
  have h9 := hm.1
  unfold fX12_bentOf bentN
  rcases ht with rfl | ⟨ht, hne⟩
  · rw [if_pos (show nI 9 = (9 : Int32) from rfl), if_pos rfl]
    rfl
  · have k4 := jk0 (w := 4) (by omega) ht
    have k3 := jk0 (w := 3) (by omega) ht
    have n9 : ¬ nI t = (9 : Int32) := fun z => by have := (nI_eq (a := t) (b := 9) (by omega) (by omega)).mp z; omega
    have r4 : σ.1 6 t = nI (vN V 4 t) := sM_v hm hg k4
    have r3 : σ.1 5 t = nI (vN V 3 t) := sM_v hm hg k3
    have b4 : jhi 4 = 9 := rfl
    have v4 := vN_eq hg k4
    rw [if_neg n9, if_neg (show ¬ t = 9 by omega), ob_nI (show t < 9 by omega) (by omega), ob_nI (show t < 9 by omega) (by omega), nI_cl (by omega), r4, r3]
    have ei : (nI (vN V 4 t) = nI c) = (vN V 4 t = c) := propext (nI_eq (by omega) (by omega))
    simp only [ei]
    by_cases a : vN V 4 t = c
    · rw [if_pos a, if_pos a]
      rfl
    · rw [if_neg a, if_neg a]
theorem bentN_le {ch : Nat} {V : Nat → Nat → Int32} (hg : nG ch V) {t c : Nat} (ht : cOk ch t c) : bentN V t c ≤ 3 := by
  unfold bentN
  rcases ht with rfl | ⟨ht, hne⟩
  · rw [if_pos rfl]; omega
  · have v3 := vN_eq hg (jk0 (w := 3) (by omega) ht)
    have b3 : jhi 3 = 3 := rfl
    by_cases a : t = 9
    · rw [if_pos a]; omega
    · rw [if_neg a]
      by_cases b : vN V 4 t = c
      · rw [if_pos b]; omega
      · rw [if_neg b]; omega
theorem cnt_X {b r : Nat} (hb : b ≤ 3) (hr : r ≤ 10000) : (if nI b = (1 : Int32) then (some (nI r - (nI r / (3 : Int32)))) else (if nI b = (2 : Int32) then (some (nI r + (nI r / (4 : Int32)))) else (if nI b = (3 : Int32) then (some (nI r - (nI r - nI r / (10 : Int32) * (10 : Int32)))) else (some (nI r))))) = some (nI (cnt b r)) := by
  have e3 : nI r / (3 : Int32) = nI (r / 3) := pk_div (a := r) (d := 3) (by omega) (by omega) (by omega)
  have e4 : nI r / (4 : Int32) = nI (r / 4) := pk_div (a := r) (d := 4) (by omega) (by omega) (by omega)
  have e10 : nI r - nI r / (10 : Int32) * (10 : Int32) = nI (r % 10) := pk_rem (a := r) (d := 10) (by omega) (by omega) (by omega)
  rw [e10, e3, e4, pk_sub (by omega), pk_sub (by omega), nI_add]
  rcases (show b = 0 ∨ b = 1 ∨ b = 2 ∨ b = 3 by omega) with rfl | rfl | rfl | rfl
  · rfl
  · rfl
  · rfl
  · rw [if_neg (by decide), if_neg (by decide), if_pos (by decide)]
    show some (nI (r - r % 10)) = some (nI (r / 10 * 10))
    congr 2
    omega
theorem sM_countedBy (σ : jS) {b r : Nat} (hb : b ≤ 3) (hr : r ≤ 10000) : fX12_countedBy σ (nI b) (nI r) = some (nI (cnt b r)) := by
  unfold fX12_countedBy
  have e3 : nI r / (3 : Int32) = nI (r / 3) := pk_div (a := r) (d := 3) (by omega) (by omega) (by omega)
  have e4 : nI r / (4 : Int32) = nI (r / 4) := pk_div (a := r) (d := 4) (by omega) (by omega) (by omega)
  have e10 : nI r / (10 : Int32) * (10 : Int32) = nI (r / 10 * 10) := by
    rw [show nI r / (10 : Int32) = nI (r / 10) from pk_div (a := r) (d := 10) (by omega) (by omega) (by omega)]
    exact pk_mul _ _
  rw [e10, e3, e4, pk_sub (by omega), nI_add]
  rcases (show b = 0 ∨ b = 1 ∨ b = 2 ∨ b = 3 by omega) with rfl | rfl | rfl | rfl <;> rfl
theorem sX8_countedOf {σ : jS} {ch : Nat} {V : Nat → Nat → Int32} (hx : nX σ ch V) (hg : nG ch V) {tc s c t r sec h top : Nat} (hT : tX σ tc s c (nI t) r sec h top) (ht : cOk ch t c) (hc : c < ch) (hr : r ≤ 10000) : fX8_countedOf tc σ = some (nI (cnt (bentN V t c) r)) := by
  obtain ⟨h0, h1, h2, h3, h4, h5, h6⟩ := hT
  unfold fX8_countedOf
  rw [h1, h2, h3, sX6_bentFor hx hg ht hc, Option.bind_some]
  exact cnt_X (bentN_le hg ht) hr
theorem cnt_le {b n : Nat} : cnt b n ≤ 2 * n := by
  unfold cnt
  split
  · omega
  · split
    · omega
    · split <;> omega
theorem sX8_isOver {σ : jS} {ch : Nat} {V : Nat → Nat → Int32} (hx : nX σ ch V) (hg : nG ch V) {tc s c t r sec h top : Nat} (hT : tX σ tc s c (nI t) r sec h top) (ht : cOk ch t c) (hc : c < ch) (hr : r ≤ 10000) (hs : sec ≤ 1000000) : fX8_isOver tc σ = some (jo (over V (bentN V t c) r sec)) := by
  have hT' := hT
  obtain ⟨h0, h1, h2, h3, h4, h5, h6⟩ := hT
  have v8 := vN_eq hg (jk7 (ch := ch) (w := 8) (by omega) (by omega))
  have v9 := vN_eq hg (jk7 (ch := ch) (w := 9) (by omega) (by omega))
  have b8 : jhi 8 = 30 := rfl
  have b9 : jhi 9 = 200 := rfl
  have bc : cnt (bentN V t c) r ≤ 2 * r := cnt_le
  rw [fX8_isOver_eq, sX6_vr hx hg 9 9 rfl (jk7 (by omega) (by omega)), Option.bind_some, sX8_countedOf hx hg hT' ht hc hr, Option.bind_some, sX6_vr hx hg 8 8 rfl (jk7 (by omega) (by omega)), Option.bind_some]
  unfold fX8_isOver_J41
  rw [h3, h4]
  have e1 : (nI (vN V 8 0) ≤ nI (cnt (bentN V t c) r)) = (vN V 8 0 ≤ cnt (bentN V t c) r) := propext (nI_leI (by omega) (by omega))
  have e2 : (nI r < (60 : Int32)) = (r < 60) := propext (nI_ltI (a := r) (b := 60) (by omega) (by omega))
  have e3 : (nI (vN V 9 0) ≤ 0) = (vN V 9 0 ≤ 0) := propext (nI_leI (a := vN V 9 0) (b := 0) (by omega) (by omega))
  have e4 : (nI (vN V 9 0) ≤ nI sec) = (vN V 9 0 ≤ sec) := propext (nI_leI (by omega) (by omega))
  simp only [e1, e2, e3, e4]
  unfold jo over
  by_cases a : vN V 8 0 ≤ cnt (bentN V t c) r
  · rw [if_pos a, if_pos (Or.inl a)]
  · rw [if_neg a]
    by_cases b : r < 60 <;> by_cases d : vN V 9 0 ≤ 0 <;> by_cases e : vN V 9 0 ≤ sec <;> simp only [a, b, d, e, if_true, if_false, ite_true, ite_false, false_or, true_or, or_true, and_true, and_false, or_false, false_and] <;> first | rfl | (exfalso; omega) | (rw [if_pos (by omega)]) | (rw [if_neg (by omega)])
theorem sM_isOver {σ : jS} {ch : Nat} {V : Nat → Nat → Int32} (hm : nM σ ch V) (hg : nG ch V) {b r sec : Nat} (hb : b ≤ 3) (h34 : σ.1 0 34 = nI r) (h35 : σ.1 0 35 = nI sec) (hr : r ≤ 10000) (hs : sec ≤ 1000000) : fX12_isOver σ (nI b) = some (jo (over V b r sec)) := by
  have v8 := vN_eq hg (jk7 (ch := ch) (w := 8) (by omega) (by omega))
  have v9 := vN_eq hg (jk7 (ch := ch) (w := 9) (by omega) (by omega))
  have r8 : σ.1 0 10 = nI (vN V 8 0) := sM_v hm hg (w := 8) (n := 0) (jk7 (by omega) (by omega))
  have r9 : σ.1 0 11 = nI (vN V 9 0) := sM_v hm hg (w := 9) (n := 0) (jk7 (by omega) (by omega))
  have b8 : jhi 8 = 30 := rfl
  have b9 : jhi 9 = 200 := rfl
  have bc : cnt b r ≤ 2 * r := cnt_le
  unfold fX12_isOver
  rw [h34, h35, sM_countedBy σ hb hr, Option.bind_some, r8, r9]
  have e1 : (nI (vN V 8 0) ≤ nI (cnt b r)) = (vN V 8 0 ≤ cnt b r) := propext (nI_leI (by omega) (by omega))
  have e2 : ((60 : Int32) ≤ nI r) = (60 ≤ r) := propext (nI_leI (a := 60) (b := r) (by omega) (by omega))
  have e3 : (nI (vN V 9 0) ≤ 0) = (vN V 9 0 ≤ 0) := propext (nI_leI (a := vN V 9 0) (b := 0) (by omega) (by omega))
  have e4 : (nI sec < nI (vN V 9 0)) = (sec < vN V 9 0) := propext (nI_ltI (by omega) (by omega))
  simp only [e1, e2, e3, e4]
  unfold jo over
  by_cases a : vN V 8 0 ≤ cnt b r <;> by_cases b' : 60 ≤ r <;> by_cases d : vN V 9 0 ≤ 0 <;> by_cases e : sec < vN V 9 0 <;> simp only [a, b', d, e, if_true, if_false, ite_true, ite_false, false_or, true_or, or_true, and_true, and_false, or_false, false_and] <;> first | rfl | (exfalso; omega) | (rw [if_pos (by omega)]) | (rw [if_neg (by omega)])
/-! a TURN in thought: heights, seconds of each round, seconds so far, the greatest height; rounds -/
def tH (V : Nat → Nat → Int32) (c : Nat) : Nat → Nat
  | 0 => 0
  | k + 1 => hN V c (tH V c k)
def tL (V : Nat → Nat → Int32) (lw : jL) (s c q k : Nat) : Nat := lw (tH V c (k + 1)) (vN V 6 s) (vN V 0 c) k q (vN V 7 0)
def tS (V : Nat → Nat → Int32) (lw : jL) (s c q : Nat) : Nat → Nat
  | 0 => 0
  | k + 1 => tS V lw s c q k + tL V lw s c q k
def tP (V : Nat → Nat → Int32) (c : Nat) : Nat → Nat
  | 0 => 0
  | k + 1 => max (tP V c k) (tH V c (k + 1))
def tF (V : Nat → Nat → Int32) (lw : jL) (s c t q : Nat) : Nat → Nat → Nat
  | 0, k => k
  | n + 1, k => if over V (bentN V t c) (k + 1) (tS V lw s c q (k + 1)) then k + 1 else tF V lw s c t q n (k + 1)
/-- how many rounds, how many seconds, how high -/
def tN (V : Nat → Nat → Int32) (lw : jL) (s c t q : Nat) : Nat := tF V lw s c t q 60 0
def tSec (V : Nat → Nat → Int32) (lw : jL) (s c t q : Nat) : Nat := tS V lw s c q (tN V lw s c t q)
theorem tH_le {ch : Nat} {V : Nat → Nat → Int32} (hg : nG ch V) {c : Nat} (hc : c < ch) (k : Nat) : tH V c k ≤ 9 := by
  cases k with
  | zero => exact Nat.zero_le _
  | succ k => exact hN_le hg hc _
theorem tP_le {ch : Nat} {V : Nat → Nat → Int32} (hg : nG ch V) {c : Nat} (hc : c < ch) (k : Nat) : tP V c k ≤ 9 := by
  induction k with
  | zero => exact Nat.zero_le _
  | succ k ih => exact Nat.max_le.mpr ⟨ih, tH_le hg hc _⟩
theorem tL_b {lw : jL} (ho : lOk lw) (V : Nat → Nat → Int32) (s c q k : Nat) : 1 ≤ tL V lw s c q k ∧ tL V lw s c q k ≤ 20 := ho _ _ _ _ _ _
theorem tS_b {lw : jL} (ho : lOk lw) (V : Nat → Nat → Int32) (s c q k : Nat) : k ≤ tS V lw s c q k ∧ tS V lw s c q k ≤ 20 * k := by
  induction k with
  | zero => exact ⟨Nat.le_refl _, Nat.le_refl _⟩
  | succ k ih =>
    have := tL_b ho V s c q k
    show k + 1 ≤ tS V lw s c q k + tL V lw s c q k ∧ tS V lw s c q k + tL V lw s c q k ≤ 20 * (k + 1)
    omega
theorem tF_b (V : Nat → Nat → Int32) (lw : jL) (s c t q : Nat) : ∀ n k, k ≤ tF V lw s c t q n k ∧ tF V lw s c t q n k ≤ k + n ∧ (0 < n → k < tF V lw s c t q n k) := by
  intro n
  induction n with
  | zero => intro k; exact ⟨Nat.le_refl _, Nat.le_refl _, fun z => absurd z (by omega)⟩
  | succ n ih =>
    intro k
    show k ≤ (if over V (bentN V t c) (k + 1) (tS V lw s c q (k + 1)) then k + 1 else tF V lw s c t q n (k + 1)) ∧ (if over V (bentN V t c) (k + 1) (tS V lw s c q (k + 1)) then k + 1 else tF V lw s c t q n (k + 1)) ≤ k + (n + 1) ∧ (0 < n + 1 → k < (if over V (bentN V t c) (k + 1) (tS V lw s c q (k + 1)) then k + 1 else tF V lw s c t q n (k + 1)))
    by_cases a : over V (bentN V t c) (k + 1) (tS V lw s c q (k + 1))
    · rw [if_pos a]; omega
    · rw [if_neg a]
      have := ih (k + 1)
      omega
theorem tN_b (V : Nat → Nat → Int32) (lw : jL) (s c t q : Nat) : 1 ≤ tN V lw s c t q ∧ tN V lw s c t q ≤ 60 := by
  have := tF_b V lw s c t q 60 0
  unfold tN
  omega
theorem tSec_b {lw : jL} (ho : lOk lw) (V : Nat → Nat → Int32) (s c t q : Nat) : 1 ≤ tSec V lw s c t q ∧ tSec V lw s c t q ≤ 1200 := by
  have h1 := tN_b V lw s c t q
  have h2 := tS_b ho V s c q (tN V lw s c t q)
  unfold tSec
  omega
theorem sX8_thinkL {ch : Nat} {V : Nat → Nat → Int32} {lw : jL} (hg : nG ch V) (ho : lOk lw) {s c t q : Nat} (hs : s < 3) (hc : c < ch) (ht : cOk ch t c) : ∀ (n k f : Nat) (σ : jS), k + n = 60 → n < f → nX σ ch V → lX σ lw → tX σ 14 s c (nI t) k (tS V lw s c q k) (tH V c k) (tP V c k) → (∀ j, j < k → σ.1 15 j = nI (tL V lw s c q j)) → ∃ σ', jloop (fX8_think_B13 (nI q)) f (σ, nI k) = some σ' ∧ jOff [11, 12, 14, 15] σ σ' ∧ tX σ' 14 s c (nI t) (tF V lw s c t q n k) (tS V lw s c q (tF V lw s c t q n k)) (tH V c (tF V lw s c t q n k)) (tP V c (tF V lw s c t q n k)) ∧ ∀ j, j < tF V lw s c t q n k → σ'.1 15 j = nI (tL V lw s c q j) := by
  intro n
  induction n with
  | zero =>
    intro k f σ hk hf hx hl hT hr
    obtain ⟨f, rfl⟩ : ∃ g, f = g + 1 := ⟨f - 1, by omega⟩
    obtain rfl : k = 60 := by omega
    refine ⟨σ, ?_, jOff.rf, hT, hr⟩
    rw [jloop_s]
    unfold fX8_think_B13
    rw [if_pos (show (60 : Int32) ≤ nI 60 by decide)]
  | succ n ih =>
    intro k f σ hk hf hx hl hT hr
    obtain ⟨f, rfl⟩ : ∃ g, f = g + 1 := ⟨f - 1, by omega⟩
    have bs := tS_b ho V s c q k
    have bs1 := tS_b ho V s c q (k + 1)
    obtain ⟨U, eU, oU, TU, LU⟩ := sX8_step (q := q) hx hg hl (Or.inl rfl) hs hc hT (tH_le hg hc k) (by omega) (tP_le hg hc k) (by omega)
    have oU' : jOff [11, 12, 14, 15] σ U := oU.mono (by simp)
    obtain ⟨W, hW⟩ : ∃ W, W = ju U 15 k (nI (tL V lw s c q k)) := ⟨_, rfl⟩
    have oW : jOff [11, 12, 14, 15] σ W := by rw [hW]; exact oU'.uT (by simp)
    have TW : tX W 14 s c (nI t) (k + 1) (tS V lw s c q (k + 1)) (tH V c (k + 1)) (tP V c (k + 1)) := by
      obtain ⟨a0, a1, a2, a3, a4, a5, a6⟩ := TU
      rw [hW]
      unfold tX
      rw [ju_n (show (14 : Nat) ≠ 15 by decide)]
      exact ⟨a0, a1, a2, a3, a4, a5, a6⟩
    have nW : nX W ch V := hx.off oW (by decide) (by decide)
    have hrW : ∀ j, j < k + 1 → W.1 15 j = nI (tL V lw s c q j) := by
      intro j hj
      rw [hW, ju_r]
      by_cases a : j = k
      · rw [if_pos a, a]
      · rw [if_neg a, oU.1 15 (by decide)]
        exact hr j (by omega)
    rw [jloop_s]
    unfold fX8_think_B13
    rw [if_neg (show ¬ (60 : Int32) ≤ nI k by rw [show (60 : Int32) = nI 60 from rfl, nI_leI (by omega) (by omega)]; omega)]
    have eU2 : fX8_step 14 σ (nI q) = some U := eU
    show ∃ σ', (Option.bind (fX8_step 14 σ (nI q)) fun (q2 : jS) => (ob (nI k) 60 (jst (ju q2 15 ((nI k)).toNatClampNeg (q2.1 14 7)) fun (σ3 : jS) => (Option.bind (fX8_isOver 14 σ3) fun (q4 : Int32) => (if (jb q4) = 0 then (jloop (fX8_think_B13 (nI q)) f (σ3, (nI k + (1 : Int32)))) else (some σ3)))))) = some σ' ∧ _
    rw [eU2, Option.bind_some, ob_nI (show k < 60 by omega) (by omega), jst_e, nI_cl (by omega), LU]
    have eL : lw (hN V c (tH V c k)) (vN V 6 s) (vN V 0 c) k q (vN V 7 0) = tL V lw s c q k := rfl
    rw [eL, ← hW, sX8_isOver nW hg TW ht hc (by omega) (by omega), Option.bind_some, nI_1]
    simp only [jb_jo]
    have eF : tF V lw s c t q (n + 1) k = if over V (bentN V t c) (k + 1) (tS V lw s c q (k + 1)) then k + 1 else tF V lw s c t q n (k + 1) := rfl
    rw [eF]
    by_cases a : over V (bentN V t c) (k + 1) (tS V lw s c q (k + 1))
    · rw [if_neg (fun z => z a), if_pos a]
      exact ⟨W, rfl, oW, TW, hrW⟩
    · rw [if_pos a, if_neg a]
      obtain ⟨σ', e, o, r⟩ := ih (k + 1) f W (by omega) (by omega) nW (hl.go oW (by decide) (by decide)) TW hrW
      exact ⟨σ', e, oW.trans o, r⟩
theorem sX10_begin {t : Nat} (σ : jS) (p1 p2 p3 : Int32) : ∃ σ', fX10_begin t σ p1 p2 p3 = some σ' ∧ jOff [t] σ σ' ∧ σ'.1 t 0 = p1 ∧ σ'.1 t 1 = p2 ∧ σ'.1 t 2 = p3 ∧ σ'.1 t 3 = 0 ∧ σ'.1 t 4 = 0 ∧ σ'.1 t 5 = 0 ∧ σ'.1 t 6 = 0 := by
  unfold fX10_begin
  simp only [jst_e]
  refine ⟨_, rfl, ?_, ?_⟩
  · have m : t ∈ [t] := by simp
    exact (((((((jOff.u m).uT m).uT m).uT m).uT m).uT m).uT m).uT m
  · simp [ju_g]
theorem sX8_think {σ : jS} {ch : Nat} {V : Nat → Nat → Int32} {lw : jL} (hx : nX σ ch V) (hg : nG ch V) (hl : lX σ lw) (ho : lOk lw) {s c t q : Nat} (hs : s < 3) (hc : c < ch) (ht : cOk ch t c) : ∃ σ', fX8_think σ (nI s) (nI c) (nI t) (nI q) = some σ' ∧ jOff [11, 12, 14, 15] σ σ' ∧ tX σ' 14 s c (nI t) (tN V lw s c t q) (tSec V lw s c t q) (tH V c (tN V lw s c t q)) (tP V c (tN V lw s c t q)) ∧ ∀ j, j < tN V lw s c t q → σ'.1 15 j = nI (tL V lw s c q j) := by
  unfold fX8_think
  obtain ⟨U, eU, oU, u0, u1, u2, u3, u4, u5, u6⟩ := sX10_begin (t := 14) σ (nI s) (nI c) (nI t)
  rw [eU, Option.bind_some]
  have oU' : jOff [11, 12, 14, 15] σ U := oU.mono (by simp)
  obtain ⟨σ', e, o, r⟩ := sX8_thinkL (q := q) hg ho hs hc ht 60 0 jN U (by omega) (by have := jN_ge; omega) (hx.off oU' (by decide) (by decide)) (hl.go oU' (by decide) (by decide)) ⟨u0, u1, u2, u3, u4, u5, u6⟩ (fun j hj => absurd hj (by omega))
  exact ⟨σ', e, oU'.trans o, r⟩
/-! the reference's -/
def tM (σ : jS) (r sec h top : Nat) : Prop := σ.1 0 33 = nI h ∧ σ.1 0 34 = nI r ∧ σ.1 0 35 = nI sec ∧ σ.1 0 36 = nI top
theorem ob_c {ρ : Type} {i : Int32} (k n : Nat) {o : Option ρ} (h : i = nI k) (hk : k < n) (hn : n < 2 ^ 31) : ob i n o = o := by
  rw [h, ob_nI hk hn]
theorem grd_end {σ : jS} {v : Int32} {L : Nat} (hv : jclamp v = nI L) {r sec : Nat} (h34 : σ.1 0 34 = nI r) (h35 : σ.1 0 35 = nI sec) : ∃ σ', fX12_goRound_J173 (σ, v) = some (nI L, σ') ∧ mOff [] [34, 35] σ σ' ∧ σ'.1 0 34 = nI (r + 1) ∧ σ'.1 0 35 = nI (sec + L) := by
  unfold fX12_goRound_J173 fX12_goRound_J207
  have key : ∀ K : Int32 → Option (Int32 × jS), (if (1 : Int32) ≤ v then (if v ≤ (20 : Int32) then K v else K 20) else K 1) = K (jclamp v) := by
    intro K
    unfold jclamp
    by_cases a : (1 : Int32) ≤ v
    · rw [if_pos a, if_pos a]
      by_cases b : v ≤ (20 : Int32)
      · rw [if_pos b, if_pos b]
      · rw [if_neg b, if_neg b]
    · rw [if_neg a, if_neg a]
  refine ⟨ju (ju σ 0 34 (nI (r + 1))) 0 35 (nI (sec + L)), ?_, (mOff.f (by decide)).trans (mOff.f (by decide)), ?_, ?_⟩
  · rw [jst_e]
    refine (key (fun a207 : Int32 => (jst (ju (ju σ 0 34 (σ.1 0 34 + 1)) 0 35 (((ju σ 0 34 (σ.1 0 34 + 1)).1 0 35) + a207)) fun (σ5 : jS) => (some (a207, σ5))))).trans ?_
    rw [hv]
    simp only [jst_e, ju_i (show (35 : Nat) ≠ 34 by decide), h34, h35, nI_1, nI_add]
  · rw [ju_i (by decide), ju_s]
  · rw [ju_s]
theorem sM_goRound {σ : jS} {ch : Nat} {V : Nat → Nat → Int32} {lw : jL} (hm : nM σ ch V) (hg : nG ch V) (hl : lM σ lw) (ho : lOk lw) {s c r sec h top q : Nat} (hs : s < 3) (hc : c < ch) (hT : tM σ r sec h top) (bh : h ≤ 9) (bt : top ≤ 9) : ∃ σ', fX12_goRound σ (nI s) (nI c) (nI q) = some (nI (lw (hN V c h) (vN V 6 s) (vN V 0 c) r q (vN V 7 0)), σ') ∧ mOff [18, 19] [33, 34, 35, 36] σ σ' ∧ tM σ' (r + 1) (sec + lw (hN V c h) (vN V 6 s) (vN V 0 c) r q (vN V 7 0)) (hN V c h) (max top (hN V c h)) := by
  obtain ⟨h33, h34, h35, h36⟩ := hT
  have h9 := hm.1
  have v0 := (vN_eq hg (jk0 (w := 0) (by omega) hc)).2
  have v1 := (vN_eq hg (jk0 (w := 1) (by omega) hc)).2
  have v2 := (vN_eq hg (jk0 (w := 2) (by omega) hc)).2
  have v6 := (vN_eq hg (jk6 hs)).2
  have v7 := (vN_eq hg (jk7 (w := 7) (by omega) (by omega))).2
  have b0 : jhi 0 = 9 := rfl
  have b1 : jhi 1 = 3 := rfl
  have b2 : jhi 2 = 9 := rfl
  have b6 : jhi 6 = 9 := rfl
  have b61 : jlo 6 = 1 := rfl
  have b7 : jhi 7 = 3 := rfl
  have bH := hN_le hg hc h
  have r1 : σ.1 3 c = nI (vN V 1 c) := sM_v hm hg (jk0 (w := 1) (by omega) hc)
  have r0 : σ.1 2 c = nI (vN V 0 c) := sM_v hm hg (jk0 (w := 0) (by omega) hc)
  have r2 : σ.1 4 c = nI (vN V 2 c) := sM_v hm hg (jk0 (w := 2) (by omega) hc)
  have r7 : σ.1 0 9 = nI (vN V 7 0) := sM_v hm hg (w := 7) (jk7 (by omega) (by omega))
  have r6 : σ.1 1 s = nI (vN V 6 s) := sM_v hm hg (w := 6) (jk6 hs)
  have cc : (nI c).toNatClampNeg = c := nI_cl (by omega)
  have cs : (nI s).toNatClampNeg = s := nI_cl (by omega)
  have oc : ∀ {ρ : Type} {o : Option ρ}, ob (nI c) 9 o = o := fun {ρ o} => ob_nI (by omega) (by omega)
  have os : ∀ {ρ : Type} {o : Option ρ}, ob (nI s) 3 o = o := fun {ρ o} => ob_nI (by omega) (by omega)
  rw [fX12_goRound_eq]
  simp only [oc, cc]
  rw [jst_e, h33, r7, r1, r0, r2, hgt_M (by omega) (by omega) (by omega) (by omega) (by omega) (fX12_goRound_J59 σ (nI s) (nI c) (nI q)) _ rfl]
  have eH : min (vN V 2 c) (h + vN V 7 0 + vN V 1 c - vN V 0 c / 3) = hN V c h := rfl
  rw [eH]
  generalize hH : hN V c h = H at *
  unfold fX12_goRound_J59
  rw [jst_e, ju_s, ju_i (show (36 : Nat) ≠ 33 by decide), h36]
  obtain ⟨U, eU, oU, u33, u36⟩ : ∃ U, (if nI H ≤ nI top then ((fX12_goRound_J81 (nI s) (nI c) (nI q)) (ju σ 0 33 (nI H))) else (jst (ju (ju σ 0 33 (nI H)) 0 36 (nI H)) fun (σ13 : jS) => ((fX12_goRound_J81 (nI s) (nI c) (nI q)) σ13))) = fX12_goRound_J81 (nI s) (nI c) (nI q) U ∧ mOff [] [33, 36] σ U ∧ U.1 0 33 = nI H ∧ U.1 0 36 = nI (max top H) := by
    by_cases a : H ≤ top
    · refine ⟨ju σ 0 33 (nI H), ?_, mOff.f (by decide), ju_s, ?_⟩
      · rw [if_pos ((nI_leI (by omega) (by omega)).mpr a)]
      · rw [ju_i (by decide), h36, Nat.max_eq_left a]
    · refine ⟨ju (ju σ 0 33 (nI H)) 0 36 (nI H), ?_, (mOff.f (by decide)).trans (mOff.f (by decide)), ?_, ?_⟩
      · rw [if_neg (fun z => a ((nI_leI (by omega) (by omega)).mp z)), jst_e]
      · rw [ju_i (by decide), ju_s]
      · rw [ju_s, Nat.max_eq_right (by omega)]
  rw [eU]
  have u34 : U.1 0 34 = nI r := by rw [oU.2.1 34 (by decide), h34]
  have u35 : U.1 0 35 = nI sec := by rw [oU.2.1 35 (by decide), h35]
  have u9 : U.1 0 9 = nI (vN V 7 0) := by rw [oU.2.1 9 (by decide), r7]
  have u32 : U.1 0 32 = σ.1 0 32 := oU.2.1 32 (by decide)
  have u6 : U.1 1 s = nI (vN V 6 s) := by rw [oU.1 1 (by decide) (by decide), r6]
  have u0 : U.1 2 c = nI (vN V 0 c) := by rw [oU.1 2 (by decide) (by decide), r0]
  have lU := hl.go oU (by intro c h1 h2; simp) (by decide)
  unfold fX12_goRound_J81
  simp only [os, cs, oc, cc]
  rw [jst_e, u33, u6]
  have e3 : nI H / (3 : Int32) = nI (H / 3) := pk_div (a := H) (d := 3) (by omega) (by omega) (by omega)
  rw [e3, nI_add, nI_1]
  have oU' : mOff [18, 19] [33, 34, 35, 36] σ U := oU.mono (by simp) (by simp)
  by_cases hlaw : jb (U.1 0 32) = 0
  · rw [if_pos hlaw]
    have e := lU.1 hlaw H (vN V 6 s) (vN V 0 c) r q (vN V 7 0) bH (by omega) (by omega)
    have b := ho H (vN V 6 s) (vN V 0 c) r q (vN V 7 0)
    have hv : jclamp (nI (vN V 6 s + H / 3 + 1)) = nI (lw H (vN V 6 s) (vN V 0 c) r q (vN V 7 0)) := by
      rw [← e]
      unfold jclamp
      generalize lw H (vN V 6 s) (vN V 0 c) r q (vN V 7 0) = L at *
      rw [if_pos (show (1 : Int32) ≤ nI L from (nI_leI (a := 1) (b := L) (by omega) (by omega)).mpr (by omega)), if_pos (show nI L ≤ (20 : Int32) from (nI_leI (a := L) (b := 20) (by omega) (by omega)).mpr (by omega))]
    obtain ⟨σ', e1, o1, w34, w35⟩ := grd_end hv u34 u35
    refine ⟨σ', e1, oU'.trans (o1.mono (by simp) (by simp)), ?_, w34, w35, ?_⟩
    · rw [o1.2.1 33 (by decide), u33]
    · rw [o1.2.1 36 (by decide), u36]
  · rw [if_neg hlaw]
    have c0 : (0 : Int32).toNatClampNeg = 0 := rfl
    have c1 : (1 : Int32).toNatClampNeg = 1 := rfl
    have c2 : (2 : Int32).toNatClampNeg = 2 := rfl
    have c3 : (3 : Int32).toNatClampNeg = 3 := rfl
    have c4 : (4 : Int32).toNatClampNeg = 4 := rfl
    have c5 : (5 : Int32).toNatClampNeg = 5 := rfl
    have o0 : ∀ {ρ : Type} {o : Option ρ}, ob (0 : Int32) 6 o = o := fun {ρ o} => ob_c 0 6 rfl (by omega) (by omega)
    have o1 : ∀ {ρ : Type} {o : Option ρ}, ob (1 : Int32) 6 o = o := fun {ρ o} => ob_c 1 6 rfl (by omega) (by omega)
    have o2 : ∀ {ρ : Type} {o : Option ρ}, ob (2 : Int32) 6 o = o := fun {ρ o} => ob_c 2 6 rfl (by omega) (by omega)
    have o3 : ∀ {ρ : Type} {o : Option ρ}, ob (3 : Int32) 6 o = o := fun {ρ o} => ob_c 3 6 rfl (by omega) (by omega)
    have o4 : ∀ {ρ : Type} {o : Option ρ}, ob (4 : Int32) 6 o = o := fun {ρ o} => ob_c 4 6 rfl (by omega) (by omega)
    have o5 : ∀ {ρ : Type} {o : Option ρ}, ob (5 : Int32) 6 o = o := fun {ρ o} => ob_c 5 6 rfl (by omega) (by omega)
    simp only [jst_e, c0, c1, c2, c3, c4, c5, o0, o1, o2, o3, o4, o5, ju_n (show (0 : Nat) ≠ 18 by decide), ju_n (show (1 : Nat) ≠ 18 by decide), ju_n (show (2 : Nat) ≠ 18 by decide), u33, u34, u9, u6, u0]
    obtain ⟨W, hW⟩ : ∃ W, W = ju (ju (ju (ju (ju (ju U 18 0 (nI H)) 18 1 (nI (vN V 6 s))) 18 2 (nI (vN V 0 c))) 18 3 (nI r)) 18 4 (nI q)) 18 5 (nI (vN V 7 0)) := ⟨_, rfl⟩
    rw [← hW]
    have oW : mOff [18] [] U W := by
      rw [hW]
      have m : ∀ {i : Nat} {s : jS} {v : Int32}, mOff [18] [] U s → mOff [18] [] U (ju s 18 i v) := fun {i s v} hs => hs.trans (mOff.u (by decide) (by decide))
      exact m (m (m (m (m (m mOff.rf)))))
    obtain ⟨v, X, eX, vX, oX⟩ := lU.2 hlaw W (fun c hc => oW.1 c (by rcases hc with rfl | rfl | rfl | rfl | rfl <;> decide) (by rcases hc with rfl | rfl | rfl | rfl | rfl <;> decide)) H (vN V 6 s) (vN V 0 c) r q (vN V 7 0) bH (by omega) (by omega) (by rw [hW]; simp [ju_g]) (by rw [hW]; simp [ju_g]) (by rw [hW]; simp [ju_g]) (by rw [hW]; simp [ju_g]) (by rw [hW]; simp [ju_g]) (by rw [hW]; simp [ju_g])
    rw [eX, Option.bind_some]
    have oX2 : mOff [18, 19] [] U X := (oW.mono (by simp) (by simp)).trans (oX.mono (by simp) (by simp))
    obtain ⟨σ', e1, o1, w34, w35⟩ := grd_end (σ := X) vX (by rw [oX2.2.1 34 (by simp), u34]) (by rw [oX2.2.1 35 (by simp), u35])
    refine ⟨σ', e1, (oU'.trans (oX2.mono (by simp) (by simp))).trans (o1.mono (by simp) (by simp)), ?_, w34, w35, ?_⟩
    · rw [o1.2.1 33 (by decide), oX2.2.1 33 (by simp), u33]
    · rw [o1.2.1 36 (by decide), oX2.2.1 36 (by simp), u36]
theorem sM_goTurnL {ch : Nat} {V : Nat → Nat → Int32} {lw : jL} (hg : nG ch V) (ho : lOk lw) {s c t q : Nat} (hs : s < 3) (hc : c < ch) (ht : cOk ch t c) : ∀ (n k f : Nat) (σ : jS), k + n = 59 → n < f → nM σ ch V → lM σ lw → tM σ k (tS V lw s c q k) (tH V c k) (tP V c k) → ∃ σ', jloop (fX12_goTurn_B12 (nI s) (nI c) (nI q) (nI (bentN V t c))) f σ = some σ' ∧ mOff [18, 19] [33, 34, 35, 36] σ σ' ∧ tM σ' (tF V lw s c t q (n + 1) k) (tS V lw s c q (tF V lw s c t q (n + 1) k)) (tH V c (tF V lw s c t q (n + 1) k)) (tP V c (tF V lw s c t q (n + 1) k)) := by
  intro n
  induction n with
  | zero =>
    intro k f σ hk hf hm hl hT
    obtain ⟨f, rfl⟩ : ∃ g, f = g + 1 := ⟨f - 1, by omega⟩
    have bs1 := tS_b ho V s c q (k + 1)
    obtain ⟨U, eU, oU, TU⟩ := sM_goRound (q := q) hm hg hl ho hs hc hT (tH_le hg hc k) (tP_le hg hc k)
    have nU : nM U ch V := hm.off oU (by decide) (by decide)
    have TU' : tM U (k + 1) (tS V lw s c q (k + 1)) (tH V c (k + 1)) (tP V c (k + 1)) := TU
    rw [jloop_s]
    unfold fX12_goTurn_B12
    rw [eU, Option.bind_some]
    show ∃ σ', (Option.bind (fX12_isOver U (nI (bentN V t c))) fun (q4 : Int32) => (if (jb q4) = 0 then (jloop (fX12_goTurn_B12 (nI s) (nI c) (nI q) (nI (bentN V t c))) f U) else (some U))) = some σ' ∧ _
    rw [sM_isOver nU hg (bentN_le hg ht) TU'.2.1 TU'.2.2.1 (by omega) (by omega), Option.bind_some]
    simp only [jb_jo]
    have a : over V (bentN V t c) (k + 1) (tS V lw s c q (k + 1)) := Or.inr (Or.inr (by omega))
    have eF : tF V lw s c t q (0 + 1) k = k + 1 := if_pos a
    rw [eF, if_neg (fun z => z a)]
    exact ⟨U, rfl, oU, TU'⟩
  | succ n ih =>
    intro k f σ hk hf hm hl hT
    obtain ⟨f, rfl⟩ : ∃ g, f = g + 1 := ⟨f - 1, by omega⟩
    have bs1 := tS_b ho V s c q (k + 1)
    obtain ⟨U, eU, oU, TU⟩ := sM_goRound (q := q) hm hg hl ho hs hc hT (tH_le hg hc k) (tP_le hg hc k)
    have nU : nM U ch V := hm.off oU (by decide) (by decide)
    have TU' : tM U (k + 1) (tS V lw s c q (k + 1)) (tH V c (k + 1)) (tP V c (k + 1)) := TU
    rw [jloop_s]
    unfold fX12_goTurn_B12
    rw [eU, Option.bind_some]
    show ∃ σ', (Option.bind (fX12_isOver U (nI (bentN V t c))) fun (q4 : Int32) => (if (jb q4) = 0 then (jloop (fX12_goTurn_B12 (nI s) (nI c) (nI q) (nI (bentN V t c))) f U) else (some U))) = some σ' ∧ _
    rw [sM_isOver nU hg (bentN_le hg ht) TU'.2.1 TU'.2.2.1 (by omega) (by omega), Option.bind_some]
    simp only [jb_jo]
    have eF : tF V lw s c t q (n + 1 + 1) k = if over V (bentN V t c) (k + 1) (tS V lw s c q (k + 1)) then k + 1 else tF V lw s c t q (n + 1) (k + 1) := rfl
    rw [eF]
    by_cases a : over V (bentN V t c) (k + 1) (tS V lw s c q (k + 1))
    · rw [if_neg (fun z => z a), if_pos a]
      exact ⟨U, rfl, oU, TU'⟩
    · rw [if_pos a, if_neg a]
      obtain ⟨σ', e, o, r⟩ := ih (k + 1) f U (by omega) (by omega) nU (hl.go oU (by intro c h1 h2; simp; omega) (by decide)) TU'
      exact ⟨σ', e, oU.trans o, r⟩
theorem sM_beginTurn (σ : jS) : ∃ σ', fX12_beginTurn σ = some σ' ∧ mOff [] [33, 34, 35, 36] σ σ' ∧ tM σ' 0 0 0 0 := by
  unfold fX12_beginTurn
  simp only [jst_e]
  refine ⟨_, rfl, ?_, ?_, ?_, ?_, ?_⟩
  · exact (((mOff.f (by decide)).trans (mOff.f (by decide))).trans (mOff.f (by decide))).trans (mOff.f (by decide))
  · simp [ju_g]; rfl
  · simp [ju_g]; rfl
  · simp [ju_g]; rfl
  · simp [ju_g]; rfl
theorem sM_goTurn {σ : jS} {ch : Nat} {V : Nat → Nat → Int32} {lw : jL} (hm : nM σ ch V) (hg : nG ch V) (hl : lM σ lw) (ho : lOk lw) {s c t q : Nat} (hs : s < 3) (hc : c < ch) (ht : cOk ch t c) : ∃ σ', fX12_goTurn σ (nI s) (nI c) (nI t) (nI q) = some σ' ∧ mOff [18, 19] [33, 34, 35, 36] σ σ' ∧ tM σ' (tN V lw s c t q) (tSec V lw s c t q) (tH V c (tN V lw s c t q)) (tP V c (tN V lw s c t q)) := by
  unfold fX12_goTurn
  obtain ⟨U, eU, oU, TU⟩ := sM_beginTurn σ
  have nU : nM U ch V := hm.off oU (by decide) (by decide)
  rw [eU, Option.bind_some, sM_bentOf nU hg ht hc, Option.bind_some]
  obtain ⟨σ', e, o, r⟩ := sM_goTurnL (q := q) hg ho hs hc ht 59 0 jN U (by omega) (by have := jN_ge; omega) nU (hl.go oU (by intro c h1 h2; simp) (by decide)) TU
  exact ⟨σ', e, (oU.mono (by simp) (by simp)).trans o, r⟩
