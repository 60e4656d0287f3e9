/-! the changes of both sides; mend, undo, redo -/
/-- the i-th change kept -/
def cE (ch : Nat) (σx σm : jS) (i j : Nat) : Prop := ∃ w n, jok ch w n ∧ σx.1 4 i = nI (jxp w n) ∧ σm.1 8 j = nI w ∧ σm.1 9 j = nI n ∧ σm.1 10 j = σx.1 5 i ∧ σm.1 11 j = σx.1 6 i ∧ goodV ch w n (σx.1 5 i) ∧ goodV ch w n (σx.1 6 i)
def rC (σx σm : jS) (ch : Nat) : Prop := ∃ dn al : Nat, dn ≤ al ∧ al ≤ 40 ∧ σx.1 3 4 = nI dn ∧ σx.1 3 5 = nI al ∧ σm.1 0 13 = nI dn ∧ σm.1 0 14 = nI (al - dn) ∧ ∀ i, i < al → cE ch σx σm i i
theorem jok_mono {a b w n : Nat} (h : jok a w n) (hab : a ≤ b) : jok b w n := by
  rcases h with q | q | q
  · exact Or.inl ⟨q.1, by omega⟩
  · exact Or.inr (Or.inl q)
  · exact Or.inr (Or.inr q)
theorem goodV_mono {a b w n : Nat} {v : Int32} (h : goodV a w n v) (hab : a ≤ b) : goodV b w n v := ⟨h.1, fun z => by
  rcases h.2 z with q | q
  · exact Or.inl q
  · exact Or.inr ⟨q.1, by have := q.2; unfold isCh at *; omega⟩⟩
theorem cE.mono {a b : Nat} {σx σm : jS} {i j : Nat} (h : cE a σx σm i j) (hab : a ≤ b) : cE b σx σm i j := by
  obtain ⟨w, n, h1, h2, h3, h4, h5, h6, h7, h8⟩ := h
  exact ⟨w, n, jok_mono h1 hab, h2, h3, h4, h5, h6, goodV_mono h7 hab, goodV_mono h8 hab⟩
theorem rC.go {S S' F' : List Nat} {σx σm σx' σm' : jS} {a b : Nat} (h : rC σx σm a) (hx : jOff S σx σx') (hm : mOff S' F' σm σm') (hab : a ≤ b) (h1 : ∀ c, c = 3 ∨ c = 4 ∨ c = 5 ∨ c = 6 → c ∉ S) (h2 : ∀ c, c = 8 ∨ c = 9 ∨ c = 10 ∨ c = 11 → c ∉ S') (h3 : ∀ c, c = 13 ∨ c = 14 → c ∉ F') : rC σx' σm' b := by
  obtain ⟨dn, al, q1, q2, q3, q4, q5, q6, q7⟩ := h
  refine ⟨dn, al, q1, q2, ?_, ?_, ?_, ?_, fun i hi => ?_⟩
  · rw [hx.1 3 (h1 3 (by omega)), q3]
  · rw [hx.1 3 (h1 3 (by omega)), q4]
  · rw [hm.2.1 13 (h3 13 (by omega)), q5]
  · rw [hm.2.1 14 (h3 14 (by omega)), q6]
  · have e := (q7 i hi).mono hab
    unfold cE at *
    rw [hx.1 4 (h1 4 (by omega)), hx.1 5 (h1 5 (by omega)), hx.1 6 (h1 6 (by omega)), hm.1 8 (h2 8 (by omega)) (by decide), hm.1 9 (h2 9 (by omega)) (by decide), hm.1 10 (h2 10 (by omega)) (by decide), hm.1 11 (h2 11 (by omega)) (by decide)]
    exact e
theorem jkp_le (dn : Nat) (h : dn ≤ 40) : jkp dn < 40 ∧ jkp dn ≤ dn := by
  unfold jkp
  by_cases a : dn < 40
  · rw [if_pos a]; omega
  · rw [if_neg a]; omega
theorem nX.ud {σ σ' : jS} {ch : Nat} {V : Nat → Nat → Int32} (h : nX σ ch V) {w n : Nat} (hk : jok ch w n) (v : Int32) (h1 : σ'.1 1 = σ.1 1) (h2 : σ'.1 2 = upd (σ.1 2) (jxp w n) v) : nX σ' ch (jput V w n v) := by
  have e := h.put hk v
  refine ⟨h.1, by rw [h1]; exact h.2.1, fun w' n' hw => ?_⟩
  rw [h2, ← e.2.2 w' n' hw, ju_c]
theorem eq_mend {σx σm : jS} {ch : Nat} {V : Nat → Nat → Int32} (h : rN σx σm ch V) (hc : rC σx σm ch) (p1 p2 p3 : Int32) : ∃ r σx' σm' V', fX11_mend σx p1 p2 p3 = some (r, σx') ∧ fX12_mend σm p1 p2 p3 = some (r, σm') ∧ rN σx' σm' ch V' ∧ rC σx' σm' ch ∧ jOff [2, 3, 4, 5, 6] σx σx' ∧ mOff [1, 2, 3, 4, 5, 6, 7, 8, 9, 10, 11] [9, 10, 11, 12, 13, 14] σm σm' := by
  obtain ⟨hx, hm, hg⟩ := id h
  unfold fX11_mend fX12_mend
  rw [sM_isOne hm]
  simp only [Option.bind_some, jb_jo]
  by_cases a : okI ch p1 p2
  · obtain ⟨w, n, hk, rfl, rfl⟩ := okI_nat a
    have hl := jxp_lt hk hx.1
    rw [sX6_placeOf hx hk, if_neg (fun q => q a), sM_mayBe hm hk]
    simp only [Option.bind_some, jb_jo]
    rw [if_neg (nI_pos (n := jxp w n) (by omega)), sX6_mayBe hx hk]
    simp only [Option.bind_some, jb_jo]
    by_cases b : goodV ch w n p3
    · rw [if_neg (fun q => q b), if_neg (fun q => q b), sX6_valueAt _ hl, hx.2.2 w n hk]
      simp only [Option.bind_some]
      by_cases e : V w n = p3
      · rw [if_pos e]
        refine ⟨V w n, σx, σm, V, rfl, ?_, h, hc, jOff.rf, mOff.rf⟩
        unfold fX12_changes
        rw [sM_valueAt hm hk]
        simp only [Option.bind_some]
        rw [if_pos e]
        rfl
      · rw [if_neg e]
        obtain ⟨dn, al, q1, q2, q3, q4, q5, q6, q7⟩ := hc
        obtain ⟨σx', e1, o1, x2, x4, x5, xa, xs⟩ := sX1_make (σ := σx) (dn := dn) (k := jxp w n) (by omega) q3 hl p3
        obtain ⟨σm', e2, n2, o2, m3, m4, ma, ms⟩ := sM_changes hm (dn := dn) (by omega) q5 hk e
        obtain ⟨k1, k2⟩ := jkp_le dn (by omega)
        refine ⟨V w n, σx', σm', jput V w n p3, ?_, ?_, ⟨hx.ud hk p3 (o1.1 1 (by decide)) x2, n2, hg.put b⟩, ⟨jkp dn + 1, jkp dn + 1, Nat.le_refl _, by omega, x4, x5, m3, by rw [m4, Nat.sub_self]; rfl, fun i hi => ?_⟩, o1, o2⟩
        · rw [e1]; rfl
        · rw [e2]; rfl
        · by_cases hi2 : i = jkp dn
          · subst hi2
            refine ⟨w, n, hk, xa.1, ma.1, ma.2.1, ?_, ?_, ?_, ?_⟩
            · rw [ma.2.2.1, xa.2.1, hx.2.2 w n hk]
            · rw [ma.2.2.2, xa.2.2]
            · rw [xa.2.1, hx.2.2 w n hk]; exact hg w n hk
            · rw [xa.2.2]; exact b
          · have hi3 : i < jkp dn := by omega
            unfold cE
            rw [xs 4 (by omega) i hi3, xs 5 (by omega) i hi3, xs 6 (by omega) i hi3, ms 8 (by omega) i hi3, ms 9 (by omega) i hi3, ms 10 (by omega) i hi3, ms 11 (by omega) i hi3]
            by_cases d4 : dn < 40
            · simp only [if_pos d4]
              exact q7 i (by omega)
            · simp only [if_neg d4]
              exact q7 (i + 1) (by omega)
    · rw [if_pos b, if_pos b]
      exact ⟨-1, σx, σm, V, rfl, rfl, h, hc, jOff.rf, mOff.rf⟩
  · rw [sX6_placeBad hx a, if_pos a]
    exact ⟨-1, σx, σm, V, rfl, rfl, h, hc, jOff.rf, mOff.rf⟩
theorem eq_undo {σx σm : jS} {ch : Nat} {V : Nat → Nat → Int32} (h : rN σx σm ch V) (hc : rC σx σm ch) : ∃ r σx' σm' V', fX11_undo σx = some (r, σx') ∧ fX12_undo σm = some (r, σm') ∧ rN σx' σm' ch V' ∧ rC σx' σm' ch ∧ jOff [2, 3, 4, 5, 6] σx σx' ∧ mOff [1, 2, 3, 4, 5, 6, 7, 8, 9, 10, 11] [9, 10, 11, 12, 13, 14] σm σm' := by
  obtain ⟨hx, hm, hg⟩ := id h
  obtain ⟨dn, al, q1, q2, q3, q4, q5, q6, q7⟩ := id hc
  unfold fX11_undo fX12_undo fX1_takeBack
  rw [q3, q5]
  by_cases a : dn = 0
  · subst a
    rw [if_neg (by decide), if_pos (show nI 0 = 0 from rfl)]
    exact ⟨-5, σx, σm, V, rfl, rfl, h, hc, jOff.rf, mOff.rf⟩
  · have p1 : (0 : Int32) < nI dn := (nI_ltI (a := 0) (b := dn) (by omega) (by omega)).mpr (by omega)
    have p2 : ¬ nI dn = 0 := fun z => a ((nI_eq (a := dn) (b := 0) (by omega) (by omega)).mp z)
    rw [if_pos p1, if_neg p2]
    have e1 : nI dn - 1 = nI (dn - 1) := pk_sub (a := dn) (b := 1) (by omega)
    have c1 : (nI (dn - 1)).toNatClampNeg = dn - 1 := nI_cl (by omega)
    obtain ⟨w, n, hk, r2, r3, r4, r5, r6, r7, r8⟩ := q7 (dn - 1) (by omega)
    have hl := jxp_lt hk hx.1
    simp only [jst, e1, ju_s, c1, ob_nI (show dn - 1 < 40 by omega) (show 40 < 2 ^ 31 by omega), ju_n (show (4 : Nat) ≠ 3 by decide), ju_n (show (5 : Nat) ≠ 3 by decide), r2, sX6_setAt _ hl, Option.bind_some, ju_i (show (13 : Nat) ≠ 14 by decide), ju_i (show (14 : Nat) ≠ 13 by decide), ju_n (show (8 : Nat) ≠ 0 by decide), ju_n (show (9 : Nat) ≠ 0 by decide), ju_n (show (10 : Nat) ≠ 0 by decide), r3, r4, r5, q6, nI_1]
    have o2 : mOff [] [13, 14] σm (ju (ju σm 0 13 (nI (dn - 1))) 0 14 (nI (al - dn + 1))) := (mOff.f (by decide)).trans (mOff.f (by decide))
    obtain ⟨σm', e2, n2, o3⟩ := sM_lays (hm.off o2 (by decide) (by decide)) hk (σx.1 5 (dn - 1))
    rw [e2]
    refine ⟨nI (dn - 1), ju (ju σx 3 4 (nI (dn - 1))) 2 (jxp w n) (σx.1 5 (dn - 1)), σm', jput V w n (σx.1 5 (dn - 1)), ?_, ?_, ⟨?_, n2, hg.put r7⟩, ⟨dn - 1, al, by omega, q2, ?_, ?_, ?_, ?_, fun i hi => ?_⟩, ?_, ?_⟩
    · rw [ju_n (show (3 : Nat) ≠ 2 by decide), ju_s]
    · simp only [Option.bind_some]
      rw [o3.2.1 13 (by decide), ju_i (by decide), ju_s]
    · exact hx.ud hk _ (by rw [ju_n (by decide), ju_n (by decide)]) (by rw [ju_c, ju_n (by decide)])
    · rw [ju_n (by decide), ju_s]
    · rw [ju_n (by decide), ju_i (by decide), q4]
    · rw [o3.2.1 13 (by decide), ju_i (by decide), ju_s]
    · rw [o3.2.1 14 (by decide), ju_s, show al - dn + 1 = al - (dn - 1) by omega]
    · have e := q7 i hi
      unfold cE at *
      rw [ju_n (show (4 : Nat) ≠ 2 by decide), ju_n (show (4 : Nat) ≠ 3 by decide), ju_n (show (5 : Nat) ≠ 2 by decide), ju_n (show (5 : Nat) ≠ 3 by decide), ju_n (show (6 : Nat) ≠ 2 by decide), ju_n (show (6 : Nat) ≠ 3 by decide), o3.1 8 (by decide) (by decide), o3.1 9 (by decide) (by decide), o3.1 10 (by decide) (by decide), o3.1 11 (by decide) (by decide), o2.1 8 (by decide) (by decide), o2.1 9 (by decide) (by decide), o2.1 10 (by decide) (by decide), o2.1 11 (by decide) (by decide)]
      exact e
    · exact (jOff.u (by decide)).uT (by decide)
    · exact (o2.mono (by decide) (by decide)).trans (o3.mono (by decide) (by decide))
theorem eq_redo {σx σm : jS} {ch : Nat} {V : Nat → Nat → Int32} (h : rN σx σm ch V) (hc : rC σx σm ch) : ∃ r σx' σm' V', fX11_redo σx = some (r, σx') ∧ fX12_redo σm = some (r, σm') ∧ rN σx' σm' ch V' ∧ rC σx' σm' ch ∧ jOff [2, 3, 4, 5, 6] σx σx' ∧ mOff [1, 2, 3, 4, 5, 6, 7, 8, 9, 10, 11] [9, 10, 11, 12, 13, 14] σm σm' := by
  obtain ⟨hx, hm, hg⟩ := id h
  obtain ⟨dn, al, q1, q2, q3, q4, q5, q6, q7⟩ := id hc
  unfold fX11_redo fX12_redo fX1_makeAgain
  rw [q3, q4, q5, q6]
  by_cases a : al = dn
  · subst a
    rw [if_pos (Int32.le_refl _), if_pos (by rw [Nat.sub_self]; rfl)]
    exact ⟨-5, σx, σm, V, rfl, rfl, h, hc, jOff.rf, mOff.rf⟩
  · have p1 : ¬ nI al ≤ nI dn := fun z => by have := (nI_leI (a := al) (b := dn) (by omega) (by omega)).mp z; omega
    have p2 : ¬ nI (al - dn) = 0 := fun z => by have := (nI_eq (a := al - dn) (b := 0) (by omega) (by omega)).mp z; omega
    have p3 : nI dn < (40 : Int32) := (nI_ltI (a := dn) (b := 40) (by omega) (by omega)).mpr (by omega)
    rw [if_neg p1, if_pos p3, if_neg p2]
    have c1 : (nI dn).toNatClampNeg = dn := nI_cl (by omega)
    have e1 : nI (al - dn) - 1 = nI (al - (dn + 1)) := by
      rw [show (1 : Int32) = nI 1 from rfl, pk_sub (by omega)]
      congr 1
    have e0 : nI al - nI (dn + 1) = nI (al - (dn + 1)) := pk_sub (by omega)
    obtain ⟨w, n, hk, r2, r3, r4, r5, r6, r7, r8⟩ := q7 dn (by omega)
    have hl := jxp_lt hk hx.1
    obtain ⟨σm', e2, n2, o3⟩ := sM_lays hm hk (σx.1 6 dn)
    have m13 : σm'.1 0 13 = nI dn := by rw [o3.2.1 13 (by decide), q5]
    have m14 : σm'.1 0 14 = nI (al - dn) := by rw [o3.2.1 14 (by decide), q6]
    simp only [jst, c1, ob_nI (show dn < 40 by omega) (show 40 < 2 ^ 31 by omega), r2, sX6_setAt _ hl, Option.bind_some, r3, r4, r6, e2, m13, m14, ju_n (show (3 : Nat) ≠ 2 by decide), q3, q4, ju_s, ju_i (show (5 : Nat) ≠ 4 by decide), ju_i (show (14 : Nat) ≠ 13 by decide), nI_1, e1, e0]
    have o4 : mOff [] [13, 14] σm' (ju (ju σm' 0 13 (nI (dn + 1))) 0 14 (nI (al - (dn + 1)))) := (mOff.f (by decide)).trans (mOff.f (by decide))
    refine ⟨nI (al - (dn + 1)), _, _, jput V w n (σx.1 6 dn), rfl, rfl, ⟨?_, n2.off o4 (by decide) (by decide), hg.put r8⟩, ⟨dn + 1, al, by omega, q2, ?_, ?_, ?_, ?_, fun i hi => ?_⟩, ?_, ?_⟩
    · exact hx.ud hk _ (by rw [ju_n (by decide), ju_n (by decide)]) (by rw [ju_n (by decide), ju_c])
    · rw [ju_s]
    · rw [ju_i (by decide), ju_n (by decide), q4]
    · rw [ju_i (by decide), ju_s]
    · rw [ju_s]
    · have e := q7 i hi
      unfold cE at *
      rw [ju_n (show (4 : Nat) ≠ 3 by decide), ju_n (show (4 : Nat) ≠ 2 by decide), ju_n (show (5 : Nat) ≠ 3 by decide), ju_n (show (5 : Nat) ≠ 2 by decide), ju_n (show (6 : Nat) ≠ 3 by decide), ju_n (show (6 : Nat) ≠ 2 by decide), o4.1 8 (by decide) (by decide), o4.1 9 (by decide) (by decide), o4.1 10 (by decide) (by decide), o4.1 11 (by decide) (by decide), o3.1 8 (by decide) (by decide), o3.1 9 (by decide) (by decide), o3.1 10 (by decide) (by decide), o3.1 11 (by decide) (by decide)]
      exact e
    · exact (jOff.u (by decide)).uT (by decide)
    · exact (o3.mono (by decide) (by decide)).trans (o4.mono (by decide) (by decide))
