/-! THE LAW'S BEGINNING: what the Statement gives -/
theorem ls_cls {s : State} {args : Array Value} (hts : ∀ w ∈ jtb, w.before args s = true) : ∃ D : va_G, ∀ (c : Nat) (q : vw_C), vwCl[c]? = some q → u_Kn s q.1 q.2.1 q.2.2 (D.1 c) (D.2 c) := by
  have h : ∀ k : Nat, ∃ r : ClassId × (Nat → Nat), ∀ q : vw_C, vwCl[k]? = some q → u_Kn s q.1 q.2.1 q.2.2 r.1 r.2 := by
    intro k
    rcases (show k = 0 ∨ k = 1 ∨ k = 2 ∨ k = 3 ∨ k = 4 ∨ k = 5 ∨ k = 6 ∨ k = 7 ∨ k = 8 ∨ k = 9 ∨ k = 10 ∨ k = 11 ∨ k = 12 ∨ 13 ≤ k by omega) with rfl | rfl | rfl | rfl | rfl | rfl | rfl | rfl | rfl | rfl | rfl | rfl | rfl | h
    · obtain ⟨c, i, h⟩ := u_known (C := RX0) (T := TX0) (N := 4) (n := 4) hts ly_X0 (hts _ iq_X0)
      exact ⟨(c, i), fun q hq => by cases (Option.some.inj hq); exact h⟩
    · obtain ⟨c, i, h⟩ := u_known (C := RX1) (T := TX1) (N := 6) (n := 6) hts ly_X1 (hts _ iq_X1)
      exact ⟨(c, i), fun q hq => by cases (Option.some.inj hq); exact h⟩
    · obtain ⟨c, i, h⟩ := u_known (C := RX2) (T := TX2) (N := 8) (n := 8) hts ly_X2 (hts _ iq_X2)
      exact ⟨(c, i), fun q hq => by cases (Option.some.inj hq); exact h⟩
    · obtain ⟨c, i, h⟩ := u_known (C := RX3) (T := TX3) (N := 2) (n := 2) hts ly_X3 (hts _ iq_X3)
      exact ⟨(c, i), fun q hq => by cases (Option.some.inj hq); exact h⟩
    · obtain ⟨c, i, h⟩ := u_known (C := RX4) (T := TX4) (N := 9) (n := 9) hts ly_X4 (hts _ iq_X4)
      exact ⟨(c, i), fun q hq => by cases (Option.some.inj hq); exact h⟩
    · obtain ⟨c, i, h⟩ := u_known (C := RX5) (T := TX5) (N := 9) (n := 9) hts ly_X5 (hts _ iq_X5)
      exact ⟨(c, i), fun q hq => by cases (Option.some.inj hq); exact h⟩
    · obtain ⟨c, i, h⟩ := u_known (C := RX6) (T := TX6) (N := 2) (n := 2) hts ly_X6 (hts _ iq_X6)
      exact ⟨(c, i), fun q hq => by cases (Option.some.inj hq); exact h⟩
    · obtain ⟨c, i, h⟩ := u_known (C := RX7) (T := TX7) (N := 5) (n := 5) hts ly_X7 (hts _ iq_X7)
      exact ⟨(c, i), fun q hq => by cases (Option.some.inj hq); exact h⟩
    · obtain ⟨c, i, h⟩ := u_known (C := RX8) (T := TX8) (N := 4) (n := 4) hts ly_X8 (hts _ iq_X8)
      exact ⟨(c, i), fun q hq => by cases (Option.some.inj hq); exact h⟩
    · obtain ⟨c, i, h⟩ := u_known (C := RX9) (T := TX9) (N := 5) (n := 5) hts ly_X9 (hts _ iq_X9)
      exact ⟨(c, i), fun q hq => by cases (Option.some.inj hq); exact h⟩
    · obtain ⟨c, i, h⟩ := u_known (C := RX10) (T := TX10) (N := 8) (n := 8) hts ly_X10 (hts _ iq_X10)
      exact ⟨(c, i), fun q hq => by cases (Option.some.inj hq); exact h⟩
    · obtain ⟨c, i, h⟩ := u_known (C := RX11) (T := TX11) (N := 12) (n := 12) hts ly_X11 (hts _ iq_X11)
      exact ⟨(c, i), fun q hq => by cases (Option.some.inj hq); exact h⟩
    · obtain ⟨c, i, h⟩ := u_known (C := RX12) (T := TX12) (N := 57) (n := 57) hts ly_X12 (hts _ iq_X12)
      exact ⟨(c, i), fun q hq => by cases (Option.some.inj hq); exact h⟩
    · exact ⟨(0, fun _ => 0), fun q hq => by
        have h2 := (List.getElem?_eq_some_iff.mp hq).1
        have h3 : vwCl.length = 13 := rfl
        omega⟩
  obtain ⟨f, hf⟩ := Classical.axiomOfChoice h
  exact ⟨(fun c => (f c).1, fun c => (f c).2), fun c q hq => hf c q hq⟩
theorem ls_arr {s : State} {args : Array Value} {ty : FieldType} (h : (Cond.arrayClass ty).before args s = true) : ∃ c : ClassId, ArrOfT s c ty ∧ s.vm.findClass ("[" ++ ty.toString) = some c := by
  obtain ⟨c, k, comp, h1, h2, h3⟩ := Cond.arrayClass_spec h
  exact ⟨c, fun n z => ⟨(fun _ q => by cases q), k, h2, comp, h3⟩, h1⟩
theorem ls_K {s : State} {args : Array Value} (hts : ∀ w ∈ jtb, w.before args s = true) (hO : (Cond.arrayOver (.object "TwentyPushes$Line")).before args s = true) : ∃ (D : va_G) (cA : Nat → ClassId), ∀ ad st : Nat → Nat, va_K D vwCl (jT (D, ad, cA, st)) s := by
  obtain ⟨D, hD⟩ := ls_cls hts
  obtain ⟨c0, a0, b0⟩ := ls_arr (hts _ ac_int)
  obtain ⟨c1, a1, b1⟩ := ls_arr (hts _ ac_byte)
  obtain ⟨c2, a2, b2⟩ := ls_arr (hts _ ac_short)
  obtain ⟨c3, a3, b3⟩ := ls_arr (hts _ ac_long)
  obtain ⟨comp, c4, k4, e1, e2, e3, e4, e5⟩ := Cond.arrayOver_spec hO
  refine ⟨D, fun k => if k = 0 then c0 else if k = 1 then c1 else if k = 2 then c2 else if k = 3 then c3 else c4, fun ad st => ⟨hD, fun k q hq => ?_⟩⟩
  rcases (show k = 0 ∨ k = 1 ∨ k = 2 ∨ k = 3 ∨ k = 4 ∨ 5 ≤ k by omega) with rfl | rfl | rfl | rfl | rfl | h
  · cases (Option.some.inj hq); exact ⟨a0, b0⟩
  · cases (Option.some.inj hq); exact ⟨a1, b1⟩
  · cases (Option.some.inj hq); exact ⟨a2, b2⟩
  · cases (Option.some.inj hq); exact ⟨a3, b3⟩
  · cases (Option.some.inj hq)
    exact ⟨fun n z => ⟨(fun _ q => by cases q), k4, e3, comp, e4⟩, k4, comp, e3, e4, e1, e5⟩
  · have h2 := (List.getElem?_eq_some_iff.mp hq).1
    have h3 : (jT (D, ad, (fun k => if k = 0 then c0 else if k = 1 then c1 else if k = 2 then c2 else if k = 3 then c3 else c4), st)).length = 5 := rfl
    omega
theorem ls_st {s : State} {args : Array Value} {C n : String} {N : Nat} {f : Nat → Int32} {A : Nat → Prop} (hN : N < 2 ^ 31) (hl : (Cond.laysStatic C n "[I").before args s = true) (hini : (Cond.initialized C).before args s = true) (harr : (Cond.arrayOf (.static C n "[I") .int).before args s = true) (hlen : (Cond.eq (.length (.static C n "[I")) (.int (Int32.ofNat N))).before args s = true) (hel : ∀ j : Nat, j < N → (Cond.eq (.elem (.static C n "[I") (.int (Int32.ofNat j))) (.int (f j))).before args s = true) (hA : ∀ a : Nat, a < s.heap.size → ¬ A a) : ∃ t : Nat, jSt C n t N f A s := by
  obtain ⟨t, ht, hT⟩ := va_Tof (f := fun j => .int (f j)) (A := A) hN harr (va_eqt hlen) (fun j hj => va_eqt (hel j hj)) hA
  exact ⟨t, va_Zof hl hini ht hA, hT⟩
theorem lf_LEAST : (∀ j, j < 11 → Cond.eq (.elem (.static RX6 "LEAST" "[I") (.int (Int32.ofNat j))) (.int (jLEAST j)) ∈ flatC (Jvm.Cond.and given_1 narrow_1)) ∧ Cond.arrayOf (.static RX6 "LEAST" "[I") .int ∈ flatC (Jvm.Cond.and given_1 narrow_1) ∧ Cond.eq (.length (.static RX6 "LEAST" "[I")) (.int (Int32.ofNat 11)) ∈ flatC (Jvm.Cond.and given_1 narrow_1) := by decide +kernel
theorem lf_MOST : (∀ j, j < 11 → Cond.eq (.elem (.static RX6 "MOST" "[I") (.int (Int32.ofNat j))) (.int (jMOST j)) ∈ flatC (Jvm.Cond.and given_1 narrow_1)) ∧ Cond.arrayOf (.static RX6 "MOST" "[I") .int ∈ flatC (Jvm.Cond.and given_1 narrow_1) ∧ Cond.eq (.length (.static RX6 "MOST" "[I")) (.int (Int32.ofNat 11)) ∈ flatC (Jvm.Cond.and given_1 narrow_1) := by decide +kernel
theorem lf_ABOVE : (∀ j, j < 8 → Cond.eq (.elem (.static RX0 "ABOVE" "[I") (.int (Int32.ofNat j))) (.int (jABOVE j)) ∈ flatC (Jvm.Cond.and given_1 narrow_1)) ∧ Cond.arrayOf (.static RX0 "ABOVE" "[I") .int ∈ flatC (Jvm.Cond.and given_1 narrow_1) ∧ Cond.eq (.length (.static RX0 "ABOVE" "[I")) (.int (Int32.ofNat 8)) ∈ flatC (Jvm.Cond.and given_1 narrow_1) := by decide +kernel
theorem lf_OWN : (∀ j, j < 32 → Cond.eq (.elem (.static RX0 "OWN" "[I") (.int (Int32.ofNat j))) (.int (jOWN j)) ∈ flatC (Jvm.Cond.and given_1 narrow_1)) ∧ Cond.arrayOf (.static RX0 "OWN" "[I") .int ∈ flatC (Jvm.Cond.and given_1 narrow_1) ∧ Cond.eq (.length (.static RX0 "OWN" "[I")) (.int (Int32.ofNat 32)) ∈ flatC (Jvm.Cond.and given_1 narrow_1) := by decide +kernel
theorem lf_text : (∀ j, j < 6 → Cond.eq (.elem (.field (.string RX4 77) "java/lang/String" "value" "[B") (.int (Int32.ofNat j))) (.int (([104, 115, 119, 114, 113, 112] : List Int32).getD j 0)) ∈ flatC (Jvm.Cond.and given_1 narrow_1)) ∧ Cond.exactly (.string RX4 77) "java/lang/String" ∈ flatC (Jvm.Cond.and given_1 narrow_1) ∧ Cond.eq (.field (.string RX4 77) "java/lang/String" "coder" "B") (.int 0) ∈ flatC (Jvm.Cond.and given_1 narrow_1) ∧ Cond.arrayOf (.field (.string RX4 77) "java/lang/String" "value" "[B") .byte ∈ flatC (Jvm.Cond.and given_1 narrow_1) ∧ Cond.eq (.length (.field (.string RX4 77) "java/lang/String" "value" "[B")) (.int (Int32.ofNat 6)) ∈ flatC (Jvm.Cond.and given_1 narrow_1) ∧ Cond.eq (.static "java/lang/String" "COMPACT_STRINGS" "Z") (.int 1) ∈ flatC (Jvm.Cond.and given_1 narrow_1) := by decide +kernel
theorem ls_F {s : State} {args : Array Value} (htb : ∀ w ∈ lw_tbl, w.before args s = true) (hgv : (Jvm.Cond.and given_1 narrow_1).before args s = true) {A : Nat → Prop} (hA : ∀ a : Nat, a < s.heap.size → ¬ A a) : ∃ st : Nat → Nat, ∀ (D : va_G) (ad : Nat → Nat) (cA : Nat → ClassId), jF (D, ad, cA, st) A s := by
  have hs := flat_of_before _ hgv
  have hts : ∀ w ∈ jtb, w.before args s = true := fun w h => htb w (jt_tbl w h)
  obtain ⟨t0, h0⟩ := ls_st (C := RX6) (n := "LEAST") (N := 11) (f := jLEAST) (A := A) (by decide) (htb _ ls_LEAST) (hts _ in_X6) (hs _ lf_LEAST.2.1) (hs _ lf_LEAST.2.2) (fun j hj => hs _ (lf_LEAST.1 j hj)) hA
  obtain ⟨t1, h1⟩ := ls_st (C := RX6) (n := "MOST") (N := 11) (f := jMOST) (A := A) (by decide) (htb _ ls_MOST) (hts _ in_X6) (hs _ lf_MOST.2.1) (hs _ lf_MOST.2.2) (fun j hj => hs _ (lf_MOST.1 j hj)) hA
  obtain ⟨t2, h2⟩ := ls_st (C := RX0) (n := "ABOVE") (N := 8) (f := jABOVE) (A := A) (by decide) (htb _ ls_ABOVE) (hts _ in_X0) (hs _ lf_ABOVE.2.1) (hs _ lf_ABOVE.2.2) (fun j hj => hs _ (lf_ABOVE.1 j hj)) hA
  obtain ⟨t3, h3⟩ := ls_st (C := RX0) (n := "OWN") (N := 32) (f := jOWN) (A := A) (by decide) (htb _ ls_OWN) (hts _ in_X0) (hs _ lf_OWN.2.1) (hs _ lf_OWN.2.2) (fun j hj => hs _ (lf_OWN.1 j hj)) hA
  obtain ⟨f1, f2, f3, f4, f5, f6⟩ := lf_text
  obtain ⟨adK, adV, hS, hev⟩ := vk_Sof (args := args) (s := s) (N := 1) (tm := fun _ => .string RX4 77) (len := [6]) (byt := [[104, 115, 119, 114, 113, 112]]) (A := A) (fun i hi => by rw [show i = 0 by omega]; decide) (fun i _ => hs _ f2) (fun i _ => hs _ f3) (fun i _ => hs _ f4) (fun i hi => by rw [show i = 0 by omega]; exact hs _ f5) (fun i hi j hj => by
    have e : i = 0 := by omega
    subst e
    exact hs _ (f1 j hj)) (fun i j hi hj hij => by omega) hA
  refine ⟨fun k => if k = 0 then t0 else if k = 1 then t1 else if k = 2 then t2 else if k = 3 then t3 else if k = 4 then adK 0 else adV 0, fun D ad cA => ⟨h0, h1, h2, h3, vk_R.of (htb _ sr_tx) (hev 0 (by decide)), ⟨fun i hi => ?_, fun i j hi hj _ => by omega⟩, va_Zof (htb _ ls_COMPACT_STRINGS) (hts _ in_J0) (va_eqi (hs _ f6)) hA⟩⟩
  have e : i = 0 := by omega
  subst e
  exact hS.1 0 hi

/-! the states behind the constructors -/
def sX0 : jS := (fun c => if c = 2 then (upd (upd (upd (upd (upd (fun _ => 0) (Int32.toNatClampNeg ((54 : Int32) + (0 : Int32))) (6 : Int32)) (Int32.toNatClampNeg ((54 : Int32) + (1 : Int32))) (6 : Int32)) (Int32.toNatClampNeg ((54 : Int32) + (2 : Int32))) (6 : Int32)) (Int32.toNatClampNeg (57 : Int32)) (2 : Int32)) (Int32.toNatClampNeg (58 : Int32)) (20 : Int32)) else if c = 22 then (fun i => if i = 2 then 1 else 0) else if c = 27 then (fun i => if i = 2 then 2 else 0) else if c = 37 then (fun i => if i = 7 then -2 else 0) else if c = 39 then (fun i => if i = 7 then -2 else 0) else fun _ => 0, fun _ _ => 0)

def sM0 : jS := (fun c => if c = 0 then (fun i => if i = 9 then 2 else if i = 10 then 20 else 0) else if c = 1 then (upd (upd (upd (fun _ => 0) (Int32.toNatClampNeg (0 : Int32)) (6 : Int32)) (Int32.toNatClampNeg (1 : Int32)) (6 : Int32)) (Int32.toNatClampNeg (2 : Int32)) (6 : Int32)) else if c = 27 then (upd (upd (upd (upd (upd (upd (upd (upd (upd (upd (fun _ => 0) (Int32.toNatClampNeg (0 : Int32)) (0 : Int32)) (Int32.toNatClampNeg (1 : Int32)) (0 : Int32)) (Int32.toNatClampNeg (2 : Int32)) (0 : Int32)) (Int32.toNatClampNeg (3 : Int32)) (0 : Int32)) (Int32.toNatClampNeg (4 : Int32)) (0 : Int32)) (Int32.toNatClampNeg (5 : Int32)) (-2 : Int32)) (Int32.toNatClampNeg (6 : Int32)) (-1 : Int32)) (Int32.toNatClampNeg (7 : Int32)) (0 : Int32)) (Int32.toNatClampNeg (8 : Int32)) (0 : Int32)) (Int32.toNatClampNeg (9 : Int32)) (0 : Int32)) else if c = 31 then (upd (upd (upd (upd (upd (upd (fun _ => 0) (Int32.toNatClampNeg (0 : Int32)) (-1 : Int32)) (Int32.toNatClampNeg (1 : Int32)) (-1 : Int32)) (Int32.toNatClampNeg (2 : Int32)) (-1 : Int32)) (Int32.toNatClampNeg (3 : Int32)) (-1 : Int32)) (Int32.toNatClampNeg (4 : Int32)) (-1 : Int32)) (Int32.toNatClampNeg (5 : Int32)) (-1 : Int32)) else fun _ => 0, fun _ _ => 0)
def adX (h0 : Nat) (u : Nat → Nat) : Nat → Nat := fun k => match k with
  | 0 => h0
  | j + 1 => u j
theorem vM_w (d : jD) (h0 : Nat) (u : Nat → Nat) : vX12 d h0 u = wM (d.1, adX h0 u, d.2.2) sM0 := rfl
