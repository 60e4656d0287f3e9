/-! CHILDREN that come; numbers that change, undone, done again -/
theorem ju_r {σ : jS} {c i j : Nat} {v : Int32} : (ju σ c i v).1 c j = if j = i then v else σ.1 c j := by
  by_cases h : j = i
  · rw [if_pos h, h, ju_s]
  · rw [if_neg h, ju_i h]
theorem jmv_0 {σ : jS} {n : Nat} : jmv σ 0 n = σ.1 2 n := rfl
theorem jmv_1 {σ : jS} {n : Nat} : jmv σ 1 n = σ.1 3 n := rfl
theorem jmv_2 {σ : jS} {n : Nat} : jmv σ 2 n = σ.1 4 n := rfl
theorem jmv_3 {σ : jS} {n : Nat} : jmv σ 3 n = σ.1 5 n := rfl
theorem jmv_4 {σ : jS} {n : Nat} : jmv σ 4 n = σ.1 6 n := rfl
theorem jmv_5 {σ : jS} {n : Nat} : jmv σ 5 n = σ.1 7 n := rfl
theorem jmv_6 {σ : jS} {n : Nat} : jmv σ 6 n = σ.1 1 n := rfl
theorem jmv_7 {σ : jS} {n : Nat} : jmv σ 7 n = σ.1 0 9 := rfl
theorem jmv_8 {σ : jS} {n : Nat} : jmv σ 8 n = σ.1 0 10 := rfl
theorem jmv_9 {σ : jS} {n : Nat} : jmv σ 9 n = σ.1 0 11 := rfl
theorem jmv_10 {σ : jS} {n : Nat} : jmv σ 10 n = σ.1 0 12 := rfl
theorem nX.tr {σ : jS} {ch : Nat} (hc : ch ≤ 9) (h : σ.1 1 1 = nI ch) : nX σ ch (fun w n => σ.1 2 (jxp w n)) := ⟨hc, h, fun _ _ _ => rfl⟩
theorem nM.off {S F : List Nat} {σ σ' : jS} {ch : Nat} {V : Nat → Nat → Int32} (h : nM σ ch V) (k : mOff S F σ σ') (hS : ∀ c, c ∈ S → 7 < c) (hF : ∀ c, c ∈ F → 12 < c) : nM σ' ch V := by
  have hs : ∀ c, 0 < c → c ≤ 7 → σ'.1 c = σ.1 c := fun c h0 h7 => k.1 c (fun z => by have := hS c z; omega) (by omega)
  have hf : ∀ i, i ≤ 12 → σ'.1 0 i = σ.1 0 i := fun i h7 => k.2.1 i (fun z => by have := hF i z; omega)
  refine ⟨h.1, ?_, fun w n hw => ?_⟩
  · rw [hf 2 (by omega)]; exact h.2.1
  · rw [← h.2.2 w n hw]
    rcases jok_cases hw with rfl | rfl | rfl | rfl | rfl | rfl | rfl | rfl | rfl | rfl | rfl
    · rw [jmv_0, jmv_0, hs 2 (by omega) (by omega)]
    · rw [jmv_1, jmv_1, hs 3 (by omega) (by omega)]
    · rw [jmv_2, jmv_2, hs 4 (by omega) (by omega)]
    · rw [jmv_3, jmv_3, hs 5 (by omega) (by omega)]
    · rw [jmv_4, jmv_4, hs 6 (by omega) (by omega)]
    · rw [jmv_5, jmv_5, hs 7 (by omega) (by omega)]
    · rw [jmv_6, jmv_6, hs 1 (by omega) (by omega)]
    · rw [jmv_7, jmv_7, hf 9 (by omega)]
    · rw [jmv_8, jmv_8, hf 10 (by omega)]
    · rw [jmv_9, jmv_9, hf 11 (by omega)]
    · rw [jmv_10, jmv_10, hf 12 (by omega)]
/-- the numbers with one more CHILD -/
def jadd (V : Nat → Nat → Int32) (ch : Nat) (a b q : Int32) : Nat → Nat → Int32 := fun w n => if w < 6 ∧ n = ch then (if w = 0 then a else if w = 1 then b else if w = 2 then 9 else if w = 3 then 0 else if w = 4 then 9 else q) else V w n
/-- the numbers with one changed -/
def jput (V : Nat → Nat → Int32) (w n : Nat) (v : Int32) : Nat → Nat → Int32 := fun w' n' => if w' = w ∧ n' = n then v else V w' n'
theorem jok_up {ch w n : Nat} (h : jok ch w n) : jok (ch + 1) w n := by
  rcases h with q | q | q
  · exact Or.inl ⟨q.1, by omega⟩
  · exact Or.inr (Or.inl q)
  · exact Or.inr (Or.inr q)
theorem jok_down {ch w n : Nat} (h : jok (ch + 1) w n) (hn : ¬ (w < 6 ∧ n = ch)) : jok ch w n := by
  rcases h with q | q | q
  · exact Or.inl ⟨q.1, by omega⟩
  · exact Or.inr (Or.inl q)
  · exact Or.inr (Or.inr q)
theorem isCh_up {ch : Nat} {p : Int32} (h : isCh ch p) : isCh (ch + 1) p := by unfold isCh at *; omega
theorem goodV_up {ch w n : Nat} {v : Int32} (h : goodV ch w n v) : goodV (ch + 1) w n v := ⟨h.1, fun z => by
  rcases h.2 z with q | q
  · exact Or.inl q
  · exact Or.inr ⟨q.1, isCh_up q.2⟩⟩
def nG (ch : Nat) (V : Nat → Nat → Int32) : Prop := ∀ w n, jok ch w n → goodV ch w n (V w n)
theorem nG.put {ch : Nat} {V : Nat → Nat → Int32} (h : nG ch V) {w n : Nat} {v : Int32} (hv : goodV ch w n v) : nG ch (jput V w n v) := by
  intro w' n' hk
  unfold jput
  by_cases e : w' = w ∧ n' = n
  · rw [if_pos e, e.1, e.2]; exact hv
  · rw [if_neg e]; exact h w' n' hk
theorem nG.add {ch : Nat} {V : Nat → Nat → Int32} (h : nG ch V) {a b q : Int32} (ha : goodV ch 0 ch a) (hb : goodV ch 1 ch b) (hq : goodV ch 5 ch q) : nG (ch + 1) (jadd V ch a b q) := by
  intro w n hk
  unfold jadd
  by_cases e : w < 6 ∧ n = ch
  · rw [if_pos e]
    obtain ⟨e1, rfl⟩ := e
    have h9 : (9 : Int32).toInt = 9 := rfl
    have h0 : (0 : Int32).toInt = 0 := rfl
    rcases (show w = 0 ∨ w = 1 ∨ w = 2 ∨ w = 3 ∨ w = 4 ∨ w = 5 by omega) with rfl | rfl | rfl | rfl | rfl | rfl
    · exact goodV_up ha
    · exact goodV_up hb
    · exact show goodV (n + 1) 2 n 9 from ⟨⟨by decide, by decide⟩, fun z => absurd z (by decide)⟩
    · exact show goodV (n + 1) 3 n 0 from ⟨⟨by decide, by decide⟩, fun z => absurd z (by decide)⟩
    · exact show goodV (n + 1) 4 n 9 from ⟨⟨by decide, by decide⟩, fun _ => Or.inl rfl⟩
    · exact goodV_up hq
  · rw [if_neg e]; exact goodV_up (h w n (jok_down hk e))
theorem nX.put {σ : jS} {ch : Nat} {V : Nat → Nat → Int32} (h : nX σ ch V) {w n : Nat} (hk : jok ch w n) (v : Int32) : nX (ju σ 2 (jxp w n) v) ch (jput V w n v) := by
  refine ⟨h.1, ?_, fun w' n' hk' => ?_⟩
  · rw [ju_n (by decide)]; exact h.2.1
  · unfold jput
    by_cases e : w' = w ∧ n' = n
    · rw [if_pos e, e.1, e.2, ju_s]
    · rw [if_neg e, ju_i, h.2.2 w' n' hk']
      intro z
      exact e (jxp_inj hk' hk h.1 z)
/-- a class's row with one more CHILD -/
theorem sX6_add {σ : jS} {ch : Nat} {V : Nat → Nat → Int32} (h : nX σ ch V) (hc : ch < 9) (a b q : Int32) (ha : 1 ≤ a.toInt ∧ a.toInt ≤ 9) (hb : 0 ≤ b.toInt ∧ b.toInt ≤ 3) (hq : 0 ≤ q.toInt ∧ q.toInt ≤ 3) : ∃ σ', fX6_welcome σ a b q = some (nI ch, σ') ∧ nX σ' (ch + 1) (jadd V ch a b q) ∧ jOff [1, 2] σ σ' := by
  have hk : ∀ w, w < 6 → jok (ch + 1) w ch := fun w hw => Or.inl ⟨hw, by omega⟩
  have hl : ∀ w, w < 6 → jxp w ch < 61 := fun w hw => jxp_lt (hk w hw) (by omega)
  have pl : ∀ (s : jS) (w : Nat), s.1 1 1 = nI (ch + 1) → w < 6 → fX6_placeOf s (nI ch) (nI w) = some (nI (jxp w ch)) := fun s w hs hw => sX6_placeOf (nX.tr (by omega) hs) (hk w hw)
  have h1 : ∀ (s : jS) (i : Nat) (v : Int32), s.1 1 1 = nI (ch + 1) → (ju s 2 i v).1 1 1 = nI (ch + 1) := fun s i v hs => by rw [ju_n (by decide)]; exact hs
  have s0 : (ju σ 1 1 (nI ch + 1)).1 1 1 = nI (ch + 1) := by rw [ju_s, nI_1]
  refine ⟨ju (ju (ju (ju (ju (ju (ju σ 1 1 (nI ch + 1)) 2 (jxp 0 ch) a) 2 (jxp 1 ch) b) 2 (jxp 2 ch) 9) 2 (jxp 3 ch) 0) 2 (jxp 4 ch) 9) 2 (jxp 5 ch) q, ?_, ⟨by omega, ?_, ?_⟩, ?_⟩
  · unfold fX6_welcome
    rw [sX6_isWithin σ (w := 0) (by omega) a |> (fun e => (show fX6_isWithin σ (0 : Int32) a = _ from e)), sX6_isWithin σ (w := 1) (by omega) b |> (fun e => (show fX6_isWithin σ (1 : Int32) b = _ from e)), sX6_isWithin σ (w := 5) (by omega) q |> (fun e => (show fX6_isWithin σ (5 : Int32) q = _ from e))]
    simp only [Option.bind_some, jb_jo, h.2.1]
    rw [if_neg (fun z => z ha), if_neg (fun z => z hb), if_neg (fun z => z hq), if_pos (show nI ch < (9 : Int32) from (nI_ltI (a := ch) (b := 9) (by omega) (by omega)).mpr hc)]
    simp only [jst]
    have e0 := pl _ 0 s0 (by omega)
    rw [show fX6_placeOf (ju σ 1 1 (nI ch + 1)) (nI ch) 0 = _ from e0]
    simp only [Option.bind_some, sX6_setAt _ (hl 0 (by omega))]
    have s1 := h1 _ (jxp 0 ch) a s0
    rw [show fX6_placeOf _ (nI ch) 1 = _ from pl _ 1 s1 (by omega)]
    simp only [Option.bind_some, sX6_setAt _ (hl 1 (by omega))]
    have s2 := h1 _ (jxp 1 ch) b s1
    rw [show fX6_placeOf _ (nI ch) 2 = _ from pl _ 2 s2 (by omega)]
    simp only [Option.bind_some, sX6_setAt _ (hl 2 (by omega))]
    have s3 := h1 _ (jxp 2 ch) 9 s2
    rw [show fX6_placeOf _ (nI ch) 3 = _ from pl _ 3 s3 (by omega)]
    simp only [Option.bind_some, sX6_setAt _ (hl 3 (by omega))]
    have s4 := h1 _ (jxp 3 ch) 0 s3
    rw [show fX6_placeOf _ (nI ch) 4 = _ from pl _ 4 s4 (by omega)]
    simp only [Option.bind_some, sX6_setAt _ (hl 4 (by omega))]
    have s5 := h1 _ (jxp 4 ch) 9 s4
    rw [show fX6_placeOf _ (nI ch) 5 = _ from pl _ 5 s5 (by omega)]
    simp only [Option.bind_some, sX6_setAt _ (hl 5 (by omega))]
  · exact h1 _ _ _ (h1 _ _ _ (h1 _ _ _ (h1 _ _ _ (h1 _ _ _ (h1 _ _ _ s0)))))
  · intro w n hw
    have ne : ∀ k, k < 6 → ¬ (w = k ∧ n = ch) → jxp w n ≠ jxp k ch := fun k hk6 hne z => hne (jxp_inj hw (hk k hk6) (by omega) z)
    unfold jadd
    by_cases e : w < 6 ∧ n = ch
    · rw [if_pos e]
      obtain ⟨e1, rfl⟩ := e
      rcases (show w = 0 ∨ w = 1 ∨ w = 2 ∨ w = 3 ∨ w = 4 ∨ w = 5 by omega) with rfl | rfl | rfl | rfl | rfl | rfl
      · rw [ju_i (ne 5 (by omega) (by omega)), ju_i (ne 4 (by omega) (by omega)), ju_i (ne 3 (by omega) (by omega)), ju_i (ne 2 (by omega) (by omega)), ju_i (ne 1 (by omega) (by omega)), ju_s]; rfl
      · rw [ju_i (ne 5 (by omega) (by omega)), ju_i (ne 4 (by omega) (by omega)), ju_i (ne 3 (by omega) (by omega)), ju_i (ne 2 (by omega) (by omega)), ju_s]; rfl
      · rw [ju_i (ne 5 (by omega) (by omega)), ju_i (ne 4 (by omega) (by omega)), ju_i (ne 3 (by omega) (by omega)), ju_s]; rfl
      · rw [ju_i (ne 5 (by omega) (by omega)), ju_i (ne 4 (by omega) (by omega)), ju_s]; rfl
      · rw [ju_i (ne 5 (by omega) (by omega)), ju_s]; rfl
      · rw [ju_s]; rfl
    · rw [if_neg e, ju_i (ne 5 (by omega) (by omega)), ju_i (ne 4 (by omega) (by omega)), ju_i (ne 3 (by omega) (by omega)), ju_i (ne 2 (by omega) (by omega)), ju_i (ne 1 (by omega) (by omega)), ju_i (ne 0 (by omega) (by omega)), ju_n (by decide)]
      exact h.2.2 w n (jok_down hw e)
  · have m1 : (1 : Nat) ∈ [1, 2] := by decide
    have m2 : (2 : Nat) ∈ [1, 2] := by decide
    exact ((((((jOff.u m1).uT m2).uT m2).uT m2).uT m2).uT m2).uT m2
theorem sX6_addBad {σ : jS} {a b q : Int32} (hn : ¬ ((1 ≤ a.toInt ∧ a.toInt ≤ 9) ∧ (0 ≤ b.toInt ∧ b.toInt ≤ 3) ∧ (0 ≤ q.toInt ∧ q.toInt ≤ 3))) : fX6_welcome σ a b q = some (-1, σ) := by
  unfold fX6_welcome
  rw [sX6_isWithin σ (w := 0) (by omega) a |> (fun e => (show fX6_isWithin σ (0 : Int32) a = _ from e)), sX6_isWithin σ (w := 1) (by omega) b |> (fun e => (show fX6_isWithin σ (1 : Int32) b = _ from e)), sX6_isWithin σ (w := 5) (by omega) q |> (fun e => (show fX6_isWithin σ (5 : Int32) q = _ from e))]
  simp only [Option.bind_some, jb_jo]
  by_cases ha : (jlo 0 : Int) ≤ a.toInt ∧ a.toInt ≤ (jhi 0 : Int)
  · rw [if_neg (fun z => z ha)]
    by_cases hb : (jlo 1 : Int) ≤ b.toInt ∧ b.toInt ≤ (jhi 1 : Int)
    · have hq' : ¬ ((jlo 5 : Int) ≤ q.toInt ∧ q.toInt ≤ (jhi 5 : Int)) := fun z => hn ⟨ha, hb, z⟩
      rw [if_neg (fun z => z hb), if_pos hq']
    · rw [if_pos (fun z => hb z)]
  · rw [if_pos (fun z => ha z)]
theorem sX6_addFull {σ : jS} {a b q : Int32} (hc : σ.1 1 1 = nI 9) (ha : 1 ≤ a.toInt ∧ a.toInt ≤ 9) (hb : 0 ≤ b.toInt ∧ b.toInt ≤ 3) (hq : 0 ≤ q.toInt ∧ q.toInt ≤ 3) : fX6_welcome σ a b q = some (-3, σ) := by
  unfold fX6_welcome
  rw [sX6_isWithin σ (w := 0) (by omega) a |> (fun e => (show fX6_isWithin σ (0 : Int32) a = _ from e)), sX6_isWithin σ (w := 1) (by omega) b |> (fun e => (show fX6_isWithin σ (1 : Int32) b = _ from e)), sX6_isWithin σ (w := 5) (by omega) q |> (fun e => (show fX6_isWithin σ (5 : Int32) q = _ from e))]
  have ha' : (jlo 0 : Int) ≤ a.toInt ∧ a.toInt ≤ (jhi 0 : Int) := ha
  have hb' : (jlo 1 : Int) ≤ b.toInt ∧ b.toInt ≤ (jhi 1 : Int) := hb
  have hq' : (jlo 5 : Int) ≤ q.toInt ∧ q.toInt ≤ (jhi 5 : Int) := hq
  simp only [Option.bind_some, jb_jo]
  rw [if_neg (fun z => z ha'), if_neg (fun z => z hb'), if_neg (fun z => z hq'), if_neg (by rw [hc]; decide)]
/-- the reference's rows with one more CHILD -/
theorem sM_add {σ : jS} {ch : Nat} {V : Nat → Nat → Int32} (h : nM σ ch V) (hc : ch < 9) (a b q : Int32) : ∃ σ', fX12_addChild σ a b q = some (nI ch, σ') ∧ nM σ' (ch + 1) (jadd V ch a b q) ∧ mOff [2, 3, 4, 5, 6, 7] [2] σ σ' := by
  refine ⟨ju (ju (ju (ju (ju (ju (ju σ 2 ch a) 3 ch b) 4 ch 9) 5 ch 0) 6 ch 9) 7 ch q) 0 2 (nI ch + 1), ?_, ⟨by omega, ?_, ?_⟩, ?_⟩
  · unfold fX12_addChild
    simp only [jst, h.2.1, nI_cl (show ch < 2 ^ 31 by omega), ob_nI (show ch < 9 by omega) (show 9 < 2 ^ 31 by omega), ju_n (show (0 : Nat) ≠ 2 by decide), ju_n (show (0 : Nat) ≠ 3 by decide), ju_n (show (0 : Nat) ≠ 4 by decide), ju_n (show (0 : Nat) ≠ 5 by decide), ju_n (show (0 : Nat) ≠ 6 by decide), ju_n (show (0 : Nat) ≠ 7 by decide), ju_s]
    congr 2
    rw [nI_1]
    exact nI_pred ch
  · rw [ju_s, nI_1]
  · intro w n hw
    unfold jadd
    by_cases e : w < 6 ∧ n = ch
    · rw [if_pos e]
      obtain ⟨e1, rfl⟩ := e
      rcases (show w = 0 ∨ w = 1 ∨ w = 2 ∨ w = 3 ∨ w = 4 ∨ w = 5 by omega) with rfl | rfl | rfl | rfl | rfl | rfl <;> simp [jmv_0, jmv_1, jmv_2, jmv_3, jmv_4, jmv_5, jmv_6, jmv_7, jmv_8, jmv_9, jmv_10, ju_n, ju_s]
    · rw [if_neg e, ← h.2.2 w n (jok_down hw e)]
      have hne : w < 6 → n ≠ ch := fun h6 z => e ⟨h6, z⟩
      rcases jok_cases hw with rfl | rfl | rfl | rfl | rfl | rfl | rfl | rfl | rfl | rfl | rfl
      · have hn := hne (by omega)
        simp [jmv_0, jmv_1, jmv_2, jmv_3, jmv_4, jmv_5, jmv_6, jmv_7, jmv_8, jmv_9, jmv_10, ju_n, ju_i, hn]
      · have hn := hne (by omega)
        simp [jmv_0, jmv_1, jmv_2, jmv_3, jmv_4, jmv_5, jmv_6, jmv_7, jmv_8, jmv_9, jmv_10, ju_n, ju_i, hn]
      · have hn := hne (by omega)
        simp [jmv_0, jmv_1, jmv_2, jmv_3, jmv_4, jmv_5, jmv_6, jmv_7, jmv_8, jmv_9, jmv_10, ju_n, ju_i, hn]
      · have hn := hne (by omega)
        simp [jmv_0, jmv_1, jmv_2, jmv_3, jmv_4, jmv_5, jmv_6, jmv_7, jmv_8, jmv_9, jmv_10, ju_n, ju_i, hn]
      · have hn := hne (by omega)
        simp [jmv_0, jmv_1, jmv_2, jmv_3, jmv_4, jmv_5, jmv_6, jmv_7, jmv_8, jmv_9, jmv_10, ju_n, ju_i, hn]
      · have hn := hne (by omega)
        simp [jmv_0, jmv_1, jmv_2, jmv_3, jmv_4, jmv_5, jmv_6, jmv_7, jmv_8, jmv_9, jmv_10, ju_n, ju_i, hn]
      · simp [jmv_0, jmv_1, jmv_2, jmv_3, jmv_4, jmv_5, jmv_6, jmv_7, jmv_8, jmv_9, jmv_10, ju_n, ju_i]
      · simp [jmv_0, jmv_1, jmv_2, jmv_3, jmv_4, jmv_5, jmv_6, jmv_7, jmv_8, jmv_9, jmv_10, ju_n, ju_i]
      · simp [jmv_0, jmv_1, jmv_2, jmv_3, jmv_4, jmv_5, jmv_6, jmv_7, jmv_8, jmv_9, jmv_10, ju_n, ju_i]
      · simp [jmv_0, jmv_1, jmv_2, jmv_3, jmv_4, jmv_5, jmv_6, jmv_7, jmv_8, jmv_9, jmv_10, ju_n, ju_i]
      · simp [jmv_0, jmv_1, jmv_2, jmv_3, jmv_4, jmv_5, jmv_6, jmv_7, jmv_8, jmv_9, jmv_10, ju_n, ju_i]
  · have m : ∀ {c i : Nat} {s : jS} {v : Int32}, c ∈ [2, 3, 4, 5, 6, 7] → mOff [2, 3, 4, 5, 6, 7] [2] σ s → mOff [2, 3, 4, 5, 6, 7] [2] σ (ju s c i v) := fun {c i s v} hm hs => hs.trans (mOff.u hm (by intro z; subst z; revert hm; decide))
    exact (m (by decide) (m (by decide) (m (by decide) (m (by decide) (m (by decide) (m (by decide) mOff.rf)))))).trans (mOff.f (by decide))
