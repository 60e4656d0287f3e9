/-! THE LAW works: one view for both sides -/
def envF (h s w r q p : Nat) : Nat → Int32 := fun j => if j = 0 then nI h else if j = 1 then nI s else if j = 2 then nI w else if j = 3 then nI r else if j = 4 then nI q else nI p
theorem jclamp_n (v : Int32) : ∃ n, 1 ≤ n ∧ n ≤ 20 ∧ jclamp v = nI n := by
  unfold jclamp
  by_cases a : (1 : Int32) ≤ v
  · rw [if_pos a]
    by_cases b : v ≤ (20 : Int32)
    · rw [if_pos b]
      rw [i_le, show (1 : Int32).toInt = 1 from rfl] at a
      rw [i_le, show (20 : Int32).toInt = 20 from rfl] at b
      obtain ⟨k, h1, h2, h3⟩ := nI_of3 (lo := 1) (hi := 20) a b (by omega)
      exact ⟨k, h1, h2, h3⟩
    · rw [if_neg b]
      exact ⟨20, by omega, by omega, rfl⟩
  · rw [if_neg a]
    exact ⟨1, by omega, by omega, rfl⟩
theorem jclamp_x (v : Int32) : (if (1 : Int32) < (if v < (20 : Int32) then v else (20 : Int32)) then (if v < (20 : Int32) then v else (20 : Int32)) else (1 : Int32)) = jclamp v := by
  unfold jclamp
  have h1 : (1 : Int32).toInt = 1 := rfl
  have h20 : (20 : Int32).toInt = 20 := rfl
  by_cases a : v < (20 : Int32)
  · rw [if_pos a]
    have a' : v ≤ (20 : Int32) := by rw [i_le]; rw [i_lt] at a; omega
    rw [if_pos a']
    by_cases b : (1 : Int32) < v
    · rw [if_pos b, if_pos (show (1 : Int32) ≤ v by rw [i_le]; rw [i_lt] at b; omega)]
    · rw [if_neg b]
      by_cases c : (1 : Int32) ≤ v
      · rw [if_pos c, ← Int32.toInt_inj]
        rw [i_le] at c
        rw [i_lt] at b
        omega
      · rw [if_neg c]
  · rw [if_neg a, if_pos (show (1 : Int32) < 20 by decide)]
    have a' : 20 ≤ v.toInt := by rw [i_lt, h20] at a; omega
    rw [if_pos (show (1 : Int32) ≤ v by rw [i_le, h1]; omega)]
    by_cases c : v ≤ (20 : Int32)
    · rw [if_pos c, ← Int32.toInt_inj, h20]
      rw [i_le, h20] at c
      omega
    · rw [if_neg c]
theorem rLw.view {σx σm : jS} (h : rLw σx σm) : ∃ lw, lOk lw ∧ lX σx lw ∧ lM σm lw := by
  rcases h with ⟨h1, h2⟩ | ⟨Ls, h1, h2, h3, h4, h5, h6, h7, h8, h9, h10, h11⟩
  · refine ⟨fun h s w r q p => if h ≤ 9 ∧ 1 ≤ s ∧ s ≤ 9 then s + h / 3 + 1 else 1, fun h s w r q p => ?_, fun σ a b h s w r q p b1 b2 b3 => ?_, fun _ h s w r q p b1 b2 b3 => ?_, fun z => absurd h2 z⟩
    · dsimp only
      by_cases z : h ≤ 9 ∧ 1 ≤ s ∧ s ≤ 9
      · rw [if_pos z]; omega
      · rw [if_neg z]; omega
    · refine ⟨σ, ?_, jOff.rf⟩
      unfold fX4_lasting
      rw [if_pos (show σ.1 7 6 = 0 by rw [b]; exact h1)]
      dsimp only
      rw [if_pos ⟨b1, b2, b3⟩]
      have e3 : nI h / (3 : Int32) = nI (h / 3) := pk_div (a := h) (d := 3) (by omega) (by omega) (by omega)
      rw [e3, nI_add, nI_1]
    · dsimp only
      rw [if_pos ⟨b1, b2, b3⟩]
  · have hN : 1 ≤ (lnFX Ls).length := by
      cases Ls with
      | nil => simp at h1
      | cons L r =>
        have e : lnFX (L :: r) = lnXs L ++ lnFX r := by simp [lnFX]
        rw [e]
        unfold lnXs
        simp only [List.length_append, List.length_map, List.length_singleton]
        omega
    refine ⟨fun h s w r q p => (jclamp (lvl2 (envF h s w r q p) Ls)).toNatClampNeg, fun h s w r q p => ?_, fun σ a b h s w r q p b1 b2 b3 => ?_, fun z => absurd z h8, fun _ σ a h s w r q p b1 b2 b3 c0 c1 c2 c3 c4 c5 => ?_⟩
    · obtain ⟨n, n1, n2, n3⟩ := jclamp_n (lvl2 (envF h s w r q p) Ls)
      dsimp only
      rw [n3, nI_cl (by omega)]
      exact ⟨n1, n2⟩
    · obtain ⟨n, n1, n2, n3⟩ := jclamp_n (lvl2 (envF h s w r q p) Ls)
      dsimp only
      rw [n3, nI_cl (by omega)]
      have oo : ∀ {ρ : Type} {o : Option ρ} (k : Nat) (i : Int32), i = nI k → k < 6 → ob i 6 o = o := fun {ρ o} k i e hk => ob_c k 6 e hk (by omega)
      obtain ⟨T, hT⟩ : ∃ T, T = ju (ju (ju (ju (ju (ju σ 12 0 (nI h)) 12 1 (nI s)) 12 2 (nI w)) 12 3 (nI r)) 12 4 (nI q)) 12 5 (nI p) := ⟨_, rfl⟩
      have oT : jOff [11, 12] σ T := by
        rw [hT]
        exact (((((jOff.u (by simp)).uT (by simp)).uT (by simp)).uT (by simp)).uT (by simp)).uT (by simp)
      have T7 : T.1 7 6 = nI (lnFX Ls).length := by rw [oT.1 7 (by decide), b, h6]
      have T10 : cAt (T.1 10) 0 (lnFX Ls) := fun j hj => by
        rw [oT.1 10 (by decide), a, Nat.zero_add]
        exact h7 j hj
      obtain ⟨σ', e1, e2⟩ := wX_lines (N := (lnFX Ls).length) (env := envF h s w r q p) h4 Ls 0 jN T (by omega) T7 T10 h5 (fun j hj => by
        rw [hT]
        unfold envF
        have : j = 0 ∨ j = 1 ∨ j = 2 ∨ j = 3 ∨ j = 4 ∨ j = 5 := by omega
        rcases this with rfl | rfl | rfl | rfl | rfl | rfl <;> simp [ju_g]) (by have := jN_ge; omega)
      refine ⟨σ', ?_, oT.trans (e2.mono (by simp))⟩
      have eL : fX4_lasting σ (nI h) (nI s) (nI w) (nI r) (nI q) (nI p) = Option.bind (fX4_worth T) (fun q7 => some ((if (1 : Int32) < (if q7.1 < (20 : Int32) then q7.1 else (20 : Int32)) then (if q7.1 < (20 : Int32) then q7.1 else (20 : Int32)) else (1 : Int32)), q7.2)) := by
        unfold fX4_lasting
        rw [if_neg (show ¬ σ.1 7 6 = 0 from fun z => by
          rw [b, h6] at z
          have := (nI_eq (b := 0) (by omega) (by omega)).mp z
          omega)]
        have z0 : ∀ {ρ : Type} {o : Option ρ}, ob (0 : Int32) 6 o = o := fun {ρ o} => oo 0 0 rfl (by omega)
        have z1 : ∀ {ρ : Type} {o : Option ρ}, ob (1 : Int32) 6 o = o := fun {ρ o} => oo 1 1 rfl (by omega)
        have z2 : ∀ {ρ : Type} {o : Option ρ}, ob (2 : Int32) 6 o = o := fun {ρ o} => oo 2 2 rfl (by omega)
        have z3 : ∀ {ρ : Type} {o : Option ρ}, ob (3 : Int32) 6 o = o := fun {ρ o} => oo 3 3 rfl (by omega)
        have z4 : ∀ {ρ : Type} {o : Option ρ}, ob (4 : Int32) 6 o = o := fun {ρ o} => oo 4 4 rfl (by omega)
        have z5 : ∀ {ρ : Type} {o : Option ρ}, ob (5 : Int32) 6 o = o := fun {ρ o} => oo 5 5 rfl (by omega)
        simp only [z0, z1, z2, z3, z4, z5, jst_e]
        rw [hT]
        rfl
      rw [eL]
      have eW : fX4_worth T = some (lvl2 (envF h s w r q p) Ls, σ') := e1
      rw [eW, Option.bind_some]
      show some ((if (1 : Int32) < (if lvl2 (envF h s w r q p) Ls < (20 : Int32) then lvl2 (envF h s w r q p) Ls else (20 : Int32)) then (if lvl2 (envF h s w r q p) Ls < (20 : Int32) then lvl2 (envF h s w r q p) Ls else (20 : Int32)) else (1 : Int32)), σ') = _
      rw [jclamp_x, n3]
    · obtain ⟨n, n1, n2, n3⟩ := jclamp_n (lvl2 (envF h s w r q p) Ls)
      have hm : mLaw σ Ls := by
        unfold mLaw
        rw [a 13 (by omega), a 14 (by omega), a 15 (by omega), a 16 (by omega), a 17 (by omega)]
        exact ⟨h9, h10, h11⟩
      obtain ⟨σ', e1, e2⟩ := wM_lines (env := envF h s w r q p) h2 h3 h5 Ls.length 0 jN σ (by omega) (by have := jN_ge; omega) hm (fun j hj => by
        unfold envF
        have : j = 0 ∨ j = 1 ∨ j = 2 ∨ j = 3 ∨ j = 4 ∨ j = 5 := by omega
        rcases this with rfl | rfl | rfl | rfl | rfl | rfl
        · exact c0
        · exact c1
        · exact c2
        · exact c3
        · exact c4
        · exact c5)
      refine ⟨lvl2 (envF h s w r q p) Ls, σ', ?_, ?_, e2⟩
      · exact e1
      · dsimp only
        rw [n3, nI_cl (by omega)]
