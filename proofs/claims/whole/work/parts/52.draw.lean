/-! afternoons by draws -/
def tz (z : Int32) : Int32 := (z.toUInt32 >>> (((8 : Int32)).toUInt32 &&& Int32.toUInt32 31)).toInt32 - (z.toUInt32 >>> (((8 : Int32)).toUInt32 &&& Int32.toUInt32 31)).toInt32 / (12 : Int32) * (12 : Int32)
def zn (z : Int32) : Int32 := z * (1103515245 : Int32) + (12345 : Int32)
def updN (c : Nat → Nat) (x v : Nat) : Nat → Nat := fun y => if y = x then v else c y
/-- a queue's afternoon by draws: z, how often each CHILD -/
def dr (ti : Int32) (l : List Nat) (d : Nat → Nat) (bell : Nat) : Nat → Int32 → Nat → Nat → (Nat → Nat) → Int32 × (Nat → Nat)
  | 0, z, _, _, c => (z, c)
  | m + 1, z, h, t, c => if ¬ ti ≤ tz (zn z) ∧ l.length ≠ 1 then dr ti l d bell m (zn z) (bhd l.length h) t c else if bell < t + d h then (zn z, c) else dr ti l d bell m (zn z) (bhd l.length h) (t + d h) (updN c (la l h) (c (la l h) + 1))
theorem dr_out {ti : Int32} {l : List Nat} {d : Nat → Nat} {bell : Nat} {x : Nat} (hx : x ∉ l) : ∀ m z h t c, h < l.length → (dr ti l d bell m z h t c).2 x = c x := by
  intro m
  induction m with
  | zero => intro z h t c hh; rfl
  | succ m ih =>
    intro z h t c hh
    have e : dr ti l d bell (m + 1) z h t c = if ¬ ti ≤ tz (zn z) ∧ l.length ≠ 1 then dr ti l d bell m (zn z) (bhd l.length h) t c else if bell < t + d h then (zn z, c) else dr ti l d bell m (zn z) (bhd l.length h) (t + d h) (updN c (la l h) (c (la l h) + 1)) := rfl
    rw [e]
    by_cases a : ¬ ti ≤ tz (zn z) ∧ l.length ≠ 1
    · rw [if_pos a]; exact ih _ _ _ _ (bhd_lt hh)
    · rw [if_neg a]
      by_cases b : bell < t + d h
      · rw [if_pos b]
      · rw [if_neg b, ih _ _ _ _ (bhd_lt hh)]
        unfold updN
        rw [if_neg (fun z => hx (by rw [z]; exact la_mem hh))]
theorem sX3_next (σ : jS) : fX3_next σ = some ((if σ.1 36 1 ≤ tz (zn (σ.1 36 0)) then (0 : Int32) else 1), ju σ 36 0 (zn (σ.1 36 0))) := by
  unfold fX3_next
  rw [jst_e, ju_s, ju_i (show (1 : Nat) ≠ 0 by decide)]
  show (if σ.1 36 1 ≤ tz (zn (σ.1 36 0)) then some ((0 : Int32), ju σ 36 0 (zn (σ.1 36 0))) else some ((1 : Int32), ju σ 36 0 (zn (σ.1 36 0)))) = _
  by_cases a : σ.1 36 1 ≤ tz (zn (σ.1 36 0))
  · rw [if_pos a, if_pos a]
  · rw [if_neg a, if_neg a]
noncomputable def spD (nx : jS → Option (Int32 × jS)) (o : Nat) (p1 : Int32) (s8 : jS × Int32 × Int32 × Int32 → Option (jS)) (a : jS × Int32 × Int32 × Int32) : Option (jS) :=
  (if (3600 : Int32) ≤ a.2.2.2 then (jst (ju a.1 o 8 a.2.1) fun (σ1 : jS) => (some σ1)) else (if (a.1.1 o 7) ≤ 0 then (jst (ju a.1 o 8 a.2.1) fun (σ2 : jS) => (some σ2)) else (jlet (fun (a39 : jS × Int32) => (jlet (fun (a91 : jS × Int32) => (Option.bind (fX5_behind o a91.1 a.2.2.1) fun (q3 : Int32) => (s8 (a91.1, a91.2, q3, (a.2.2.2 + (1 : Int32)))))) fun (j91 : (jS × Int32 → Option (jS))) => (jlet (fun (a54 : Unit) => (ob a.2.2.1 9 (if (a.2.1 + (a39.1.1 (o + 2) (a.2.2.1).toNatClampNeg)) ≤ p1 then (ob a.2.2.1 9 (ob a.2.2.1 9 (ob a.2.2.1 9 (jst (ju a39.1 (o + 4) (a.2.2.1).toNatClampNeg ((a39.1.1 (o + 4) (a.2.2.1).toNatClampNeg) + (1 : Int32))) fun (σ4 : jS) => (j91 (σ4, (a.2.1 + (a39.1.1 (o + 2) (a.2.2.1).toNatClampNeg)))))))) else (jst (ju a39.1 o 8 a.2.1) fun (σ5 : jS) => (some σ5))))) fun (j54 : (Unit → Option (jS))) => (if a39.2 = 0 then (j54 ()) else (if (a39.1.1 o 7) = (1 : Int32) then (j54 ()) else (j91 (a39.1, a.2.1))))))) fun (j39 : (jS × Int32 → Option (jS))) => (jlet (fun (a38 : jS) => (j39 (a38, (0 : Int32)))) fun (j38 : (jS → Option (jS))) => (Option.bind (nx a.1) fun (q6 : (Int32 × jS)) => (if (jb q6.1) = 0 then (j38 q6.2) else (j39 (q6.2, (1 : Int32)))))))))
theorem spD_eq (o : Nat) (p1 : Int32) (s8 : jS × Int32 × Int32 × Int32 → Option (jS)) (a : jS × Int32 × Int32 × Int32) : fX5_spendD_B8 o p1 s8 a = spD fX3_next o p1 s8 a := rfl
theorem spD_step {nx : jS → Option (Int32 × jS)} {o n : Nat} {p1 t h j : Int32} {s8 : jS × Int32 × Int32 × Int32 → Option (jS)} {σ S : jS} {A : Prop} [Decidable A] (hn : nx σ = some ((if A then (0 : Int32) else 1), S)) (hj : ¬ (3600 : Int32) ≤ j) (h0 : ¬ σ.1 o 7 ≤ 0) (h1 : (S.1 o 7 = (1 : Int32)) = (n = 1)) : spD nx o p1 s8 (σ, t, h, j) = (if A then fX5_spendD_B8_J54 o p1 s8 (σ, t, h, j) (S, 0) () else if n = 1 then fX5_spendD_B8_J54 o p1 s8 (σ, t, h, j) (S, 1) () else fX5_spendD_B8_J91 o s8 (σ, t, h, j) (S, t)) := by
  unfold spD
  rw [if_neg hj, if_neg h0]
  simp only [jlet_e, hn, Option.bind_some]
  by_cases a : A
  · simp only [a, if_true, jb_0]
    rfl
  · simp only [a, if_false, jb_1, show ¬ (1 : Int32) = 0 by decide, h1]
    rfl
theorem spD_end {nx : jS → Option (Int32 × jS)} {o : Nat} {p1 t h j : Int32} {s8 : jS × Int32 × Int32 × Int32 → Option (jS)} {σ : jS} (hj : (3600 : Int32) ≤ j ∨ (¬ (3600 : Int32) ≤ j ∧ σ.1 o 7 ≤ 0)) : spD nx o p1 s8 (σ, t, h, j) = some (ju σ o 8 t) := by
  unfold spD
  rcases hj with hj | ⟨hj, h0⟩
  · rw [if_pos hj]
    rfl
  · rw [if_neg hj, if_pos h0]
    rfl
theorem sX5_spendDL {ch : Nat} {V : Nat → Nat → Int32} {lw : jL} {o s : Nat} {l : List Nat} (ho : jLn o) (hO : lOk lw) (hl : qOk ch l) (hne : 0 < l.length) {bell : Nat} (hb : bell ≤ 3600) {ti : Int32} {b : Nat → Nat} : ∀ (m j f : Nat) (z : Int32) (h t : Nat) (c : Nat → Nat) (σ : jS), j + m = 3600 → m < f → lnX σ o s l → lnF σ o V lw s l l.length → σ.1 36 0 = z → σ.1 36 1 = ti → h < l.length → t ≤ bell → (∀ p, p < l.length → σ.1 (o + 4) p = nI (b (la l p) + c (la l p))) → ∃ σ', jloop (fX5_spendD_B8 o (nI bell)) f (σ, nI t, nI h, nI j) = some σ' ∧ jOff [o, o + 4, 36] σ σ' ∧ lnX σ' o s l ∧ σ'.1 36 0 = (dr ti l (dS V lw s l) bell m z h t c).1 ∧ σ'.1 36 1 = ti ∧ ∀ p, p < l.length → σ'.1 (o + 4) p = nI (b (la l p) + (dr ti l (dS V lw s l) bell m z h t c).2 (la l p)) := by
  have hbo := jLn_b ho
  have h9 := hl.2.2
  have fin : ∀ (σ : jS) (t : Nat), lnX σ o s l → lnX (ju σ o 8 (nI t)) o s l := by
    intro σ t hL
    refine ⟨?_, ?_, ?_⟩
    · rw [ju_i (by decide), hL.1]
    · rw [ju_i (by decide), hL.2.1]
    · rw [ju_n (by omega)]; exact hL.2.2
  intro m
  induction m with
  | zero =>
    intro j f z h t c σ hj hf hL hF hz hti hh ht hq
    obtain ⟨f, rfl⟩ : ∃ g, f = g + 1 := ⟨f - 1, by omega⟩
    obtain rfl : j = 3600 := by omega
    have e : dr ti l (dS V lw s l) bell 0 z h t c = (z, c) := rfl
    rw [e, jloop_s, spD_eq, spD_end (Or.inl (show (3600 : Int32) ≤ nI 3600 by decide))]
    refine ⟨_, rfl, jOff.u (by simp), fin σ t hL, ?_, ?_, fun p hp => ?_⟩
    · rw [ju_n (by omega), hz]
    · rw [ju_n (by omega), hti]
    · rw [ju_n (by omega)]; exact hq p hp
  | succ m ih =>
    intro j f z h t c σ hj hf hL hF hz hti hh ht hq
    obtain ⟨f, rfl⟩ : ∃ g, f = g + 1 := ⟨f - 1, by omega⟩
    have hd2 : dS V lw s l h ≤ 1200 := (tSec_b hO V s _ _ _).2
    have j36 : ¬ (3600 : Int32) ≤ nI j := by rw [show (3600 : Int32) = nI 3600 from rfl, nI_leI (by omega) (by omega)]; omega
    have eD : dr ti l (dS V lw s l) bell (m + 1) z h t c = if ¬ ti ≤ tz (zn z) ∧ l.length ≠ 1 then dr ti l (dS V lw s l) bell m (zn z) (bhd l.length h) t c else if bell < t + dS V lw s l h then (zn z, c) else dr ti l (dS V lw s l) bell m (zn z) (bhd l.length h) (t + dS V lw s l h) (updN c (la l h) (c (la l h) + 1)) := rfl
    have e0 : ¬ σ.1 o 7 ≤ 0 := by
      rw [hL.2.1]
      intro z
      have := (nI_leI (a := l.length) (b := 0) (by omega) (by omega)).mp z
      omega
    obtain ⟨S, hS⟩ : ∃ S, S = ju σ 36 0 (zn z) := ⟨_, rfl⟩
    have oS : jOff [o, o + 4, 36] σ S := by rw [hS]; exact jOff.u (by simp)
    have oS1 : jOff [36] σ S := by rw [hS]; exact jOff.u (by simp)
    have lS : lnX S o s l := hL.go oS1 (by simp <;> omega) (by simp <;> omega)
    have fS : lnF S o V lw s l l.length := hF.go oS (by simp <;> omega) (by simp <;> omega)
    have zS0 : S.1 36 0 = zn z := by rw [hS, ju_s]
    have zS1 : S.1 36 1 = ti := by rw [hS, ju_i (by decide), hti]
    have qS : ∀ p, p < l.length → S.1 (o + 4) p = nI (b (la l p) + c (la l p)) := by
      intro p hp
      rw [hS, ju_n (by omega)]
      exact hq p hp
    have hn : fX3_next σ = some ((if ti ≤ tz (zn z) then (0 : Int32) else 1), S) := by
      rw [sX3_next, hz, hti, hS]
    have hbh := bhd_lt hh
    -- the one ahead has its turn
    have have_turn : ∀ w : Nat → Int32, (∃ σ', fX5_spendD_B8_J54 o (nI bell) (jloop (fX5_spendD_B8 o (nI bell)) f) (σ, nI t, nI h, nI j) (S, w 0) () = some σ' ∧ jOff [o, o + 4, 36] σ σ' ∧ lnX σ' o s l ∧ σ'.1 36 0 = (if bell < t + dS V lw s l h then (zn z, c) else dr ti l (dS V lw s l) bell m (zn z) (bhd l.length h) (t + dS V lw s l h) (updN c (la l h) (c (la l h) + 1))).1 ∧ σ'.1 36 1 = ti ∧ ∀ p, p < l.length → σ'.1 (o + 4) p = nI (b (la l p) + (if bell < t + dS V lw s l h then (zn z, c) else dr ti l (dS V lw s l) bell m (zn z) (bhd l.length h) (t + dS V lw s l h) (updN c (la l h) (c (la l h) + 1))).2 (la l p))) := by
      intro w
      unfold fX5_spendD_B8_J54
      show ∃ σ', (ob (nI h) 9 (if (nI t + (S.1 (o + 2) (nI h).toNatClampNeg)) ≤ nI bell then (ob (nI h) 9 (ob (nI h) 9 (ob (nI h) 9 (jst (ju S (o + 4) (nI h).toNatClampNeg ((S.1 (o + 4) (nI h).toNatClampNeg) + (1 : Int32))) fun (σ4 : jS) => ((fX5_spendD_B8_J91 o (jloop (fX5_spendD_B8 o (nI bell)) f) (σ, nI t, nI h, nI j)) (σ4, (nI t + (S.1 (o + 2) (nI h).toNatClampNeg)))))))) else (jst (ju S o 8 (nI t)) fun (σ5 : jS) => (some σ5)))) = some σ' ∧ _
      rw [ob_nI (by omega) (by omega), ob_nI (by omega) (by omega), ob_nI (by omega) (by omega), ob_nI (by omega) (by omega), nI_cl (by omega), (fS _ hh).1, nI_add, qS _ hh, nI_1]
      by_cases a : bell < t + dS V lw s l h
      · rw [if_pos a, if_neg (fun z => by have := (nI_leI (by omega) (by omega)).mp z; omega), jst_e]
        refine ⟨_, rfl, oS.uT (by simp), fin S t lS, ?_, ?_, fun p hp => ?_⟩
        · rw [ju_n (by omega), zS0]
        · rw [ju_n (by omega), zS1]
        · rw [ju_n (by omega)]; exact qS p hp
      · rw [if_neg a, if_pos ((nI_leI (by omega) (by omega)).mpr (by omega)), jst_e]
        have o1 : jOff [o, o + 4, 36] S (ju S (o + 4) h (nI (b (la l h) + c (la l h) + 1))) := jOff.u (by simp)
        have hL1 : lnX (ju S (o + 4) h (nI (b (la l h) + c (la l h) + 1))) o s l := by
          unfold lnX at *
          rw [ju_n (show o ≠ o + 4 by omega), ju_n (show o + 1 ≠ o + 4 by omega)]
          exact lS
        obtain ⟨σ', h1, h2, h3, h4, h5, h6⟩ := ih (j + 1) f (zn z) (bhd l.length h) (t + dS V lw s l h) (updN c (la l h) (c (la l h) + 1)) (ju S (o + 4) h (nI (b (la l h) + c (la l h) + 1))) (by omega) (by omega) hL1 (fS.go o1 (by simp <;> omega) (by simp <;> omega)) (by rw [ju_n (by omega), zS0]) (by rw [ju_n (by omega), zS1]) hbh (by omega) (by
          intro p hp
          rw [ju_r]
          unfold updN
          by_cases e : p = h
          · rw [if_pos e, e, if_pos rfl, Nat.add_assoc]
          · rw [if_neg e, if_neg (fun z => e (la_inj hl.1 hp hh z))]
            exact qS p hp)
        refine ⟨σ', ?_, (oS.trans o1).trans h2, h3, h4, h5, h6⟩
        rw [← h1]
        unfold fX5_spendD_B8_J91
        show (Option.bind (fX5_behind o (ju S (o + 4) h (nI (b (la l h) + c (la l h) + 1))) (nI h)) fun (q3 : Int32) => _) = _
        rw [sX5_behind hL1 (by omega) h9, Option.bind_some, nI_1]
    have e7 : (S.1 o 7 = (1 : Int32)) = (l.length = 1) := by
      rw [lS.2.1]
      exact propext (nI_eq (a := l.length) (b := 1) (by omega) (by omega))
    have eB := spD_step (p1 := nI bell) (t := nI t) (h := nI h) (s8 := jloop (fX5_spendD_B8 o (nI bell)) f) hn j36 e0 e7
    rw [jloop_s, spD_eq, eB, eD]
    by_cases a : ti ≤ tz (zn z)
    · rw [if_pos a, if_neg (fun q => q.1 a)]
      exact have_turn (fun _ => 0)
    · rw [if_neg a]
      by_cases e : l.length = 1
      · rw [if_pos e, if_neg (fun q => q.2 e)]
        exact have_turn (fun _ => 1)
      · rw [if_neg e, if_pos ⟨a, e⟩]
        obtain ⟨σ', h1, h2, h3, h4, h5, h6⟩ := ih (j + 1) f (zn z) (bhd l.length h) t c S (by omega) (by omega) lS fS zS0 zS1 hbh ht qS
        refine ⟨σ', ?_, oS.trans h2, h3, h4, h5, h6⟩
        rw [← h1]
        unfold fX5_spendD_B8_J91
        show (Option.bind (fX5_behind o S (nI h)) fun (q3 : Int32) => _) = _
        rw [sX5_behind lS (by omega) h9, Option.bind_some, nI_1]
theorem sX5_spendD {ch : Nat} {V : Nat → Nat → Int32} {lw : jL} {o s : Nat} {l : List Nat} {σ : jS} (ho : jLn o) (hO : lOk lw) (hl : qOk ch l) {bell : Nat} (hb : bell ≤ 3600) {b c : Nat → Nat} (hL : lnX σ o s l) (hF : lnF σ o V lw s l l.length) (hq : ∀ p, p < l.length → σ.1 (o + 4) p = nI (b (la l p) + c (la l p))) : ∃ σ', fX5_spendD o σ (nI bell) = some σ' ∧ jOff [o, o + 4, 36] σ σ' ∧ lnX σ' o s l ∧ σ'.1 36 0 = (if l.length = 0 then (σ.1 36 0, c) else dr (σ.1 36 1) l (dS V lw s l) bell 3600 (σ.1 36 0) 0 0 c).1 ∧ σ'.1 36 1 = σ.1 36 1 ∧ ∀ p, p < l.length → σ'.1 (o + 4) p = nI (b (la l p) + (if l.length = 0 then (σ.1 36 0, c) else dr (σ.1 36 1) l (dS V lw s l) bell 3600 (σ.1 36 0) 0 0 c).2 (la l p)) := by
  have hbo := jLn_b ho
  unfold fX5_spendD
  by_cases a : l.length = 0
  · obtain ⟨f, hf⟩ : ∃ g, jN = g + 1 := ⟨jN - 1, by have := jN_ge; omega⟩
    rw [hf, jloop_s, spD_eq, spD_end (Or.inr ⟨show ¬ (3600 : Int32) ≤ 0 by decide, show σ.1 o 7 ≤ 0 by rw [hL.2.1, a]; decide⟩), if_pos a]
    refine ⟨_, rfl, jOff.u (by simp), ⟨?_, ?_, ?_⟩, ?_, ?_, fun p hp => absurd hp (by omega)⟩
    · rw [ju_i (by decide), hL.1]
    · rw [ju_i (by decide), hL.2.1]
    · rw [ju_n (by omega)]; exact hL.2.2
    · rw [ju_n (by omega)]
    · rw [ju_n (by omega)]
  · rw [if_neg a]
    exact sX5_spendDL ho hO hl (by omega) hb 3600 0 jN (σ.1 36 0) 0 0 c σ (by omega) (by have := jN_ge; omega) hL hF rfl rfl (by omega) (Nat.zero_le _) hq
/-! the reference's afternoon by draws -/
noncomputable def drB (Z T : Int32) (p3 : Int32) (a_ : jS × Int32 × Int32) (j156 : (jS × Int32 → Option (Int32 × jS))) (s85 : jS × Int32 × Int32 × Int32 → Option (Int32 × jS)) (a__ : jS × Int32 × Int32 × Int32) : Option (Int32 × jS) :=
  (if (3600 : Int32) ≤ a__.2.2.2 then (j156 (a__.1, a__.2.1)) else (if a__.2.2.1 = 0 then (j156 (a__.1, a__.2.1)) else (jlet (fun (a150 : jS × Int32) => (s85 (a150.1, Z, a150.2, (a__.2.2.2 + (1 : Int32))))) fun (j150 : (jS × Int32 → Option (Int32 × jS))) => (jlet (fun (a141 : Unit) => (Option.bind (fX12_goHead a__.1 a_.2.2 p3) fun (q5 : (Int32 × jS)) => (j150 (q5.2, (jb q5.1))))) fun (j141 : (Unit → Option (Int32 × jS))) => (if (a__.1.1 0 12) ≤ (T : Int32) then (j141 ()) else (if (a__.1.1 0 42) ≤ (1 : Int32) then (j141 ()) else (Option.bind (fX12_toEnd a__.1 (0 : Int32)) fun (q6 : jS) => (j150 (q6, a__.2.2.1)))))))))
theorem drB_eq (p3 : Int32) (a_ : jS × Int32 × Int32) (j156 : (jS × Int32 → Option (Int32 × jS))) (s85 : jS × Int32 × Int32 × Int32 → Option (Int32 × jS)) (a__ : jS × Int32 × Int32 × Int32) : fX12_drawn_B85 p3 a_ j156 s85 a__ = drB (zn a__.2.1) (tz (zn a__.2.1)) p3 a_ j156 s85 a__ := rfl
theorem drB_end {Z T p3 z g j : Int32} {a_ : jS × Int32 × Int32} {jj : jS × Int32 → Option (Int32 × jS)} {s85 : jS × Int32 × Int32 × Int32 → Option (Int32 × jS)} {σ : jS} (hj : (3600 : Int32) ≤ j ∨ (¬ (3600 : Int32) ≤ j ∧ g = 0)) : drB Z T p3 a_ jj s85 (σ, z, g, j) = jj (σ, z) := by
  unfold drB
  rcases hj with hj | ⟨hj, h0⟩
  · rw [if_pos hj]
  · rw [if_neg hj, if_pos h0]
theorem drB_step {Z T p3 z j s ti : Int32} {n : Nat} {a_ : jS × Int32 × Int32} {jj : jS × Int32 → Option (Int32 × jS)} {s85 : jS × Int32 × Int32 × Int32 → Option (Int32 × jS)} {σ : jS} (hj : ¬ (3600 : Int32) ≤ j) (ha : a_.2.2 = s) (ht : σ.1 0 12 = ti) (h1 : (σ.1 0 42 ≤ (1 : Int32)) = (n = 1)) : drB Z T p3 a_ jj s85 (σ, z, 1, j) = (if ti ≤ T ∨ n = 1 then (Option.bind (fX12_goHead σ s p3) fun (q5 : (Int32 × jS)) => s85 (q5.2, Z, jb q5.1, j + 1)) else (Option.bind (fX12_toEnd σ (0 : Int32)) fun (q6 : jS) => s85 (q6, Z, 1, j + 1))) := by
  unfold drB
  rw [if_neg hj, if_neg (show ¬ (1 : Int32) = 0 by decide)]
  simp only [jlet_e, ha, ht, h1]
  by_cases a : ti ≤ T
  · rw [if_pos a, if_pos (Or.inl a)]
  · rw [if_neg a]
    by_cases e : n = 1
    · rw [if_pos e, if_pos (Or.inr e)]
    · rw [if_neg e, if_neg (fun q => q.elim a e)]
theorem rot_bhd {n h k : Nat} (hh : h < n) : (bhd n h + k) % n = (h + (k + 1)) % n := by
  have e := bhd_mod (n := n) (j := h) (by omega)
  rw [Nat.mod_eq_of_lt hh] at e
  rw [e, Nat.mod_add_mod]
  congr 1
  omega
theorem rot_ne2 {l : List Nat} (hn : l.Nodup) (h1 : 1 < l.length) {h : Nat} : la l ((h + 0) % l.length) ≠ la l ((h + 1) % l.length) := rot_ne hn h1 h
theorem mLn_rot {σ : jS} {l : List Nat} {h : Nat} (hh : h < l.length) (hL : mLn σ l.length (mvf (fun k => la l ((h + k) % l.length)) l.length 0)) : mLn σ l.length (fun k => la l ((bhd l.length h + k) % l.length)) := by
  refine ⟨hL.1, fun k hk => ?_⟩
  rw [hL.2 k hk]
  unfold mvf
  rw [if_neg (Nat.not_lt_zero _)]
  by_cases b : k + 1 < l.length
  · rw [if_pos b]
    show nI (la l ((h + (k + 1)) % l.length)) = nI (la l ((bhd l.length h + k) % l.length))
    rw [rot_bhd hh]
  · rw [if_neg b]
    show nI (la l ((h + 0) % l.length)) = nI (la l ((bhd l.length h + k) % l.length))
    rw [rot_bhd hh, show h + (k + 1) = h + 0 + l.length by omega, Nat.add_mod_right]
theorem sM_drawL {ch : Nat} {V : Nat → Nat → Int32} {lw : jL} {s bell : Nat} {l : List Nat} (hg : nG ch V) (hO : lOk lw) (hs : s < 3) (hl : qOk ch l) (hne : 0 < l.length) (hb : bell ≤ 3600) {a_ : jS × Int32 × Int32} (ha : a_.2.2 = nI s) : ∀ (m j f : Nat) (z : Int32) (h t : Nat) (c : Nat → Nat) (σ : jS), j + m = 3600 → m + 1 < f → nM σ ch V → lM σ lw → mLn σ l.length (fun k => la l ((h + k) % l.length)) → σ.1 23 s = nI t → h < l.length → t ≤ bell → (∀ x, x < ch → σ.1 20 x = nI (c x)) → ∃ σ', (∀ jj, jloop (fX12_drawn_B85 (nI bell) a_ jj) f (σ, z, 1, nI j) = jj (σ', (dr (V 10 0) l (dS V lw s l) bell m z h t c).1)) ∧ mOff [18, 19, 20, 21, 22, 23, 24] [33, 34, 35, 36] σ σ' ∧ (∀ x, x < ch → σ'.1 20 x = nI ((dr (V 10 0) l (dS V lw s l) bell m z h t c).2 x)) ∧ ∀ k, k ≠ s → σ'.1 23 k = σ.1 23 k := by
  have h9 := hl.2.2
  have r12 : ∀ σ : jS, nM σ ch V → σ.1 0 12 = V 10 0 := fun σ hm => hm.2.2 10 0 (jk7 (by omega) (by omega))
  have stop : ∀ (g j : Nat) (z : Int32) (σ : jS) (jj : jS × Int32 → Option (Int32 × jS)), jloop (fX12_drawn_B85 (nI bell) a_ jj) (g + 1) (σ, z, 0, nI j) = jj (σ, z) := by
    intro g j z σ jj
    rw [jloop_s, drB_eq]
    by_cases a : (3600 : Int32) ≤ nI j
    · exact drB_end (Or.inl a)
    · exact drB_end (Or.inr ⟨a, rfl⟩)
  intro m
  induction m with
  | zero =>
    intro j f z h t c σ hj hf hm hlm hL h23 hh ht hq
    obtain ⟨f, rfl⟩ : ∃ g, f = g + 1 := ⟨f - 1, by omega⟩
    obtain rfl : j = 3600 := by omega
    refine ⟨σ, fun jj => ?_, mOff.rf, hq, fun k _ => rfl⟩
    rw [jloop_s, drB_eq]
    exact drB_end (Or.inl (show (3600 : Int32) ≤ nI 3600 by decide))
  | succ m ih =>
    intro j f z h t c σ hj hf hm hlm hL h23 hh ht hq
    obtain ⟨f, rfl⟩ : ∃ g, f = g + 1 + 1 := ⟨f - 2, by omega⟩
    have j36 : ¬ (3600 : Int32) ≤ nI j := by rw [show (3600 : Int32) = nI 3600 from rfl, nI_leI (by omega) (by omega)]; omega
    have eD : dr (V 10 0) l (dS V lw s l) bell (m + 1) z h t c = if ¬ V 10 0 ≤ tz (zn z) ∧ l.length ≠ 1 then dr (V 10 0) l (dS V lw s l) bell m (zn z) (bhd l.length h) t c else if bell < t + dS V lw s l h then (zn z, c) else dr (V 10 0) l (dS V lw s l) bell m (zn z) (bhd l.length h) (t + dS V lw s l h) (updN c (la l h) (c (la l h) + 1)) := rfl
    have hbh := bhd_lt hh
    have hh0 : (h + 0) % l.length = h := Nat.mod_eq_of_lt hh
    have e42 : (σ.1 0 42 ≤ (1 : Int32)) = (l.length = 1) := by
      rw [hL.1]
      refine propext ((nI_leI (a := l.length) (b := 1) (by omega) (by omega)).trans ⟨fun q => by omega, fun q => by omega⟩)
    have eB : ∀ jj, fX12_drawn_B85 (nI bell) a_ jj (jloop (fX12_drawn_B85 (nI bell) a_ jj) (f + 1)) (σ, z, 1, nI j) = (if V 10 0 ≤ tz (zn z) ∨ l.length = 1 then (Option.bind (fX12_goHead σ (nI s) (nI bell)) fun (q5 : (Int32 × jS)) => jloop (fX12_drawn_B85 (nI bell) a_ jj) (f + 1) (q5.2, zn z, jb q5.1, nI j + 1)) else (Option.bind (fX12_toEnd σ (0 : Int32)) fun (q6 : jS) => jloop (fX12_drawn_B85 (nI bell) a_ jj) (f + 1) (q6, zn z, 1, nI j + 1))) := by
      intro jj
      rw [drB_eq]
      exact drB_step j36 ha (r12 σ hm) e42
    rw [eD]
    by_cases a : V 10 0 ≤ tz (zn z) ∨ l.length = 1
    · rw [if_neg (fun q => a.elim q.1 q.2)]
      obtain ⟨U, eU, oU, yU, nU⟩ := sM_goHead hm hg hlm hO hs hne h9 hL (fun k hk => hl.2.1 _ (la_mem (Nat.mod_lt _ hne))) (fun h1 => rot_ne hl.1 h1 h) h23 (by omega) (show bell ≤ 100000 by omega)
      have eS : hS V lw s l.length (fun k => la l ((h + k) % l.length)) = dS V lw s l h := by
        unfold hS dS
        have := tld_rot (l := l) (j := h) hne
        rw [Nat.mod_eq_of_lt hh] at this
        show tSec V lw s (la l ((h + 0) % l.length)) (if 1 < l.length then la l ((h + 1) % l.length) else 9) (l.length - 1) = _
        rw [hh0, this]
      rw [eS] at eU yU nU
      by_cases b : t + dS V lw s l h ≤ bell
      · rw [if_neg (by omega)]
        rw [jo_1 b] at eU
        obtain ⟨y1, y20, y21, y22, y23⟩ := yU b
        have hxl : la l h < ch := hl.2.1 _ (la_mem hh)
        obtain ⟨σ', h1, h2, h3, h4⟩ := ih (j + 1) (f + 1) (zn z) (bhd l.length h) (t + dS V lw s l h) (updN c (la l h) (c (la l h) + 1)) U (by omega) (by omega) (hm.off oU (by decide) (by decide)) (hlm.go oU (by intro c h1 h2; simp <;> omega) (by decide)) (mLn_rot hh y1) (by rw [y23, upd_s]) hbh (by omega) (by
          intro x hx
          rw [y20]
          have e0 : la l ((h + 0) % l.length) = la l h := by rw [hh0]
          rw [e0]
          unfold updN
          by_cases e : x = la l h
          · rw [if_pos e, e, upd_s, hq _ hxl, nI_1]
          · rw [if_neg e, upd_n e, hq x hx])
        refine ⟨σ', fun jj => ?_, oU.trans h2, h3, fun k hk => by rw [h4 k hk, y23, upd_n hk]⟩
        rw [jloop_s, eB, if_pos a, eU, Option.bind_some, nI_1]
        exact h1 jj
      · rw [if_pos (by omega)]
        rw [jo_0 b] at eU
        have oN := nU b
        refine ⟨U, fun jj => ?_, oU, fun x hx => by rw [oN.1 20 (by decide) (by decide)]; exact hq x hx, fun k _ => by rw [oN.1 23 (by decide) (by decide)]⟩
        rw [jloop_s, eB, if_pos a, eU, Option.bind_some, nI_1]
        exact stop f (j + 1) (zn z) U jj
    · rw [if_pos ⟨fun q => a (Or.inl q), fun q => a (Or.inr q)⟩]
      obtain ⟨U, eU, oU, y1⟩ := sM_toEnd (p := 0) h9 hne hL
      have eU' : fX12_toEnd σ (0 : Int32) = some U := eU
      have oU' : mOff [18, 19, 20, 21, 22, 23, 24] [33, 34, 35, 36] σ U := oU.mono (by simp) (by simp)
      obtain ⟨σ', h1, h2, h3, h4⟩ := ih (j + 1) (f + 1) (zn z) (bhd l.length h) t c U (by omega) (by omega) (hm.off oU (by decide) (by decide)) (hlm.go oU (by intro c h1 h2; simp <;> omega) (by decide)) (mLn_rot hh y1) (by rw [oU.1 23 (by decide) (by decide), h23]) hbh ht (fun x hx => by rw [oU.1 20 (by decide) (by decide)]; exact hq x hx)
      refine ⟨σ', fun jj => ?_, oU'.trans h2, h3, fun k hk => by rw [h4 k hk, oU.1 23 (by decide) (by decide)]⟩
      rw [jloop_s, eB, if_neg a, eU', Option.bind_some, nI_1]
      exact h1 jj
