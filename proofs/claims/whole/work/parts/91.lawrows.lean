/-! THE LAW: what its walk stands on -/
/-! THE CLAIM OUT OF ONE WALK OF THE LAW'S BODY. Your part is whole_start (and what it stands on); all else here is the same for every law, but numbers. -/
def R_law : String := "TwentyPushesLaw"
def lw_P (b : Addr) (xs : List Int32) (args : Array Value) (s : State) : Prop := args = #[.ref b] ∧ s.IntsAt b xs ∧ xs.length ≤ 3072 ∧ (Jvm.Cond.and given_1 narrow_1).before args s = true
def lw_Q (_ : Array Value) (s : State) (o : Outcome) (t : State) : Prop := o = .returned (some (.int 1)) ∧ Framed s o t [] 600000 7302250
def lw_Z (below : List Frame) (a : Array Value) (s : State) : State → Prop := fun t => ∃ o, t.status = .running ∧ Ended t below o ∧ lw_Q a s o t
/-- the law's own end, with 1 on the stack, nothing written that was there before, its room as the claim has it -/
theorem lw_ret {p : Program} {l : Launch} {e : Env} {s : State} {m : MethodId} {below : List Frame} {meth : Method} {c : Code} {b : Nat} (hx : p.tables.exec = Jvm.exec) (hb : c.code = code) (hr : meth.sig.returnType = ret) (hlocks : meth.locks = false) {pc : Nat} {H : Heap} {ls : Array Slot} (hdg : decode code pc = .ok (.ireturn, 1)) : W p l e room_1 s m #[Value.ref b] below meth c H [] 600000 7302250 (lw_Z below #[Value.ref b] s) (F0 m pc ls [.int 1]) := by
  intro T hT X
  obtain ⟨fs, hret, hrun, hended, hW, hframe⟩ := X.leave (v := some (.int 1)) (hlocks := hlocks) (fun h => by rw [hr] at h; cases h)
  have hmeth' : T.vm.method? m = some meth := X.method'
  refine ⟨T.setFrames fs, ?_, .returned (some (.int 1)), hrun, hended, rfl, ⟨_, rfl⟩, hW, hframe⟩
  jvm_step X.here [X.here.top, hx, hb, hdg, hmeth', hr, ret, narrow_b1]
  (try refine ⟨rfl, ?_⟩); (try refine ⟨rfl, ?_⟩)
  first | (intro acts; rw [hret _ acts rfl rfl rfl]) | rw [hret _ _ rfl rfl rfl]
  exact Steps.refl _
/-- what holds at the law's entry: the machine, the code, the tables' words (any of lw_tbl by 'hts w (by decide +kernel)'), the script of L ints xs at the cell b, what the Statement gives of the start (any of its parts by flat_of_before) -/
def lw_At (p : Program) (s : State) (m : MethodId) (meth : Method) (c : Code) (b L : Nat) (xs : Nat → Int32) : Prop :=
  p.tables.exec = Jvm.exec ∧ c.code = code ∧ meth.sig.returnType = ret ∧ c.maxLocals = 4 ∧ s.vm.findClass R_law = some m.cls ∧ (∀ w ∈ lw_tbl, w.before #[Value.ref b] s = true) ∧ va_X b L xs s s.heap ∧ b < s.heap.size ∧ meth.locks = false ∧ (Jvm.Cond.and given_1 narrow_1).before #[Value.ref b] s = true
theorem jSt.narrow {C n : String} {t N : Nat} {f : Nat → Int32} {A B : Nat → Prop} {U : State} (h : jSt C n t N f A U) (hAB : ∀ q, B q → A q) : jSt C n t N f B U := ⟨h.1.narrow hAB, h.2.narrow hAB⟩
theorem jF.narrow {d : jD} {A B : Nat → Prop} {U : State} (h : jF d A U) (hAB : ∀ q, B q → A q) : jF d B U :=
  ⟨h.1.narrow hAB, h.2.1.narrow hAB, h.2.2.1.narrow hAB, h.2.2.2.1.narrow hAB, h.2.2.2.2.1, h.2.2.2.2.2.1.narrow hAB, h.2.2.2.2.2.2.narrow hAB⟩
theorem ga_swP {D : va_G} {cl : List vw_C} {a b : va_W} {H : Heap} (h : va_P D cl (a ++ b) H) : va_P D cl (b ++ a) H := va_P.swap (a := []) h
theorem ga_swD {A : Nat → Prop} {a b : va_W} (h : va_D A (a ++ b)) : va_D A (b ++ a) := va_D.swap (a := []) h
section GL
variable {z : jZ} {d : jD} {A : Nat → Prop} {nL cl sl pc pc' tgt cl' sl' : Nat} {Q : State → Prop} {ws ws' : va_W} {lv lv' : List (Nat × Value)} {st : List Value} {l : Launch} {Rm : Room} {cc : ByteArray} {own : String}
theorem g_imp (hP : ∀ H : Heap, va_P d.1 vwCl ws H → va_P d.1 vwCl ws' H) (hD : va_D A ws → va_D A ws') (k : gJ z d A nL Q ws' cl sl pc lv st) : gJ z d A nL Q ws cl sl pc lv st := fun H locs ls h1 h2 hS hv => k H locs ls (hP H h1) (hD h2) hS hv
theorem g_sld (hC : gC z d l Rm nL cc own) {b L : Nat} {xs : Nat → Int32} (hX : va_X b L xs z.2.2.2.2.1 z.2.2.2.2.1.heap) (hbl : b < z.2.2.2.2.1.heap.size) (hbA : ¬ A b) {i : Int32} (hin : vp_in i L) (hd : decode cc pc = .ok (.iaload, 1)) (hp : pc + 1 = pc') (kk : gJ z d A nL Q ws cl sl pc' lv (.int (xs i.toNatClampNeg) :: st)) : gJ z d A nL Q ws cl sl pc lv (.int i :: .ref b :: st) := by
  intro H locs ls hP hD hS hl
  exact va_sld hC.1 hC.2.1 hX hbl hbA hS hin hd (hp ▸ kk H locs ls hP hD hS hl)
theorem g_slen (hC : gC z d l Rm nL cc own) {b L : Nat} {xs : Nat → Int32} (hX : va_X b L xs z.2.2.2.2.1 z.2.2.2.2.1.heap) (hbl : b < z.2.2.2.2.1.heap.size) (hbA : ¬ A b) (hd : decode cc pc = .ok (.arraylength, 1)) (hp : pc + 1 = pc') (kk : gJ z d A nL Q ws cl sl pc' lv (.int (Int32.ofNat L) :: st)) : gJ z d A nL Q ws cl sl pc lv (.ref b :: st) := by
  intro H locs ls hP hD hS hl
  exact va_slen hC.1 hC.2.1 hX hbl hbA hS hd (hp ▸ kk H locs ls hP hD hS hl)
/-- what a call needs at its start, out of the law's world -/
theorem g_pre (hC : gC z d l Rm nL cc own) (hF : jF d A z.2.2.2.2.1) {w : jD → jS → va_W} {ad : Nat → Nat} {σ : jS} {wr : va_W} {H : Heap} {locs : List Loc} (hP : va_P d.1 vwCl (wr ++ w (d.1, ad, d.2.2) σ) H) (hD : va_D A (wr ++ w (d.1, ad, d.2.2) σ)) (hS : va_S A z.2.2.2.2.1.heap H locs) (hF1 : ∀ q, va_A (w (d.1, ad, d.2.2) σ) H.size q → A q) {U : State} (hU : U.heap = H) (hW : z.2.2.2.2.1.WarmedH U.vm) : jPre (d.1, ad, d.2.2) w (va_A (w (d.1, ad, d.2.2) σ) H.size) σ U :=
  ⟨by rw [hU]; exact ga_P hP, (ga_D hD).self, va_K.moved hW.alike hC.2.2.2.2.2.1, (hF.go hW (fun a h1 h2 => by rw [hU]; exact hS.2.1 a h1 h2)).narrow hF1⟩
theorem g_callV_i (hC : gC z d l Rm nL cc own) (hA : ∀ q : Nat, z.2.2.2.2.1.heap.size ≤ q → A q) (hF : jF d A z.2.2.2.2.1) {w : jD → jS → va_W} {ad : Nat → Nat} {σ σ1 : jS} {r : Int32} {wr : va_W} {y : MethodName} {bytes : ByteArray} {maxL n index ci N : Nat} {rm : Room} {As fs : List Value} {C : String} {T : u_T} {o : Option (Int32 × jS)} {stk : List Value} (hM : ∀ A1 : Nat → Prop, jMi l y (jws y bytes maxL (some (.int))) rm (d.1, ad, d.2.2) w A1 (.ref (ad 0) :: As) σ o) (ho : o = some (r, σ1)) (he : (w (d.1, ad, d.2.2) σ)[0]? = some (ad 0, .inr (ci, fs))) (hc : vwCl[ci]? = some (C, T, N)) (hg : GoodIn jtb (wsV own index C y (jws y bytes maxL (some (.int))))) (hrc : rm.cells = 0) (hrs : rm.slots = 0) (hyd : y.cls = C ∧ y.cls ≠ "java/lang/invoke/MethodHandle" ∧ y.cls ≠ "java/lang/invoke/VarHandle" ∧ (parseMethodDescriptor y.desc).map (fun d => d.parameters.length) = some n) (hR : rm.frames + 1 ≤ Rm.frames ∧ 8 + (maxL + 11) + rm.locals ≤ Rm.locals) (hcs : cl ≤ Rm.cells ∧ sl ≤ Rm.slots) (hn : As.length = n) (hst : stk = As.reverse ++ .ref (ad 0) :: st) (hr8 : (st.map fun v => v.category).sum ≤ 8) (hw : ws = w (d.1, ad, d.2.2) σ ++ wr) (hd : decode cc pc = .ok (.invokevirtual index, 3)) (hp : pc + 3 = pc') (kk : gJ z d A nL Q (wr ++ w (d.1, ad, d.2.2) σ1) cl sl pc' lv (.int r :: st)) : gJ z d A nL Q ws cl sl pc lv stk := by
  intro H locs ls hP hD hS hl
  subst hw hst
  have hP := ga_swP hP
  have hD := ga_swD hD
  have hF1 := ga_free hD hS hA
  have hRm := hC.2.2.2.2.2.2.2.1
  have hl9 := hC.2.2.2.2.2.2.1
  refine va_calli (va_runV (As := As) (rest := st) ⟨hC.1, hC.2.1, hC.2.2.1, hC.2.2.2.1, hC.2.2.2.2.1⟩ (hl9 ▸ hM (va_A (w (d.1, ad, d.2.2) σ) H.size) (r, σ1) ho) (cwV n hC.2.2.2.2.1 hg rfl hrc hrs hyd (hRm ▸ hR)) ⟨jPre.blind, va_recv hC.2.2.2.2.2.1 (ga_P hP) hc he, fun U hU hW => ⟨rfl, g_pre hC hF hP hD hS hF1 hU hW⟩⟩ rfl hn hl.1 rfl (lv_room hr8) hd (hRm ▸ hcs)) hS (fun q _ h => hF1 q h) hF1 (fun r' u t H1 locs1 ht hvm hw hB hz1 hk1 hS1 => ?_)
  obtain ⟨rfl, rfl⟩ := hw
  obtain ⟨hP1, hD1, -, -⟩ := hB
  rw [ht] at hP1
  obtain ⟨hP2, hD2⟩ := ga_join hP hD hk1 hF1 hP1 hD1
  exact hp ▸ kk H1 locs1 ls hP2 hD2 hS1 hl
theorem g_callV_ir (hC : gC z d l Rm nL cc own) (hA : ∀ q : Nat, z.2.2.2.2.1.heap.size ≤ q → A q) (hF : jF d A z.2.2.2.2.1) {w : jD → jS → va_W} {ad : Nat → Nat} {σ : jS} {r : Int32} {wr : va_W} {y : MethodName} {bytes : ByteArray} {maxL n index ci N : Nat} {rm : Room} {As fs : List Value} {C : String} {T : u_T} {o : Option Int32} {stk : List Value} (hM : ∀ A1 : Nat → Prop, jMir l y (jws y bytes maxL (some (.int))) rm (d.1, ad, d.2.2) w A1 (.ref (ad 0) :: As) σ o) (ho : o = some r) (he : (w (d.1, ad, d.2.2) σ)[0]? = some (ad 0, .inr (ci, fs))) (hc : vwCl[ci]? = some (C, T, N)) (hg : GoodIn jtb (wsV own index C y (jws y bytes maxL (some (.int))))) (hrc : rm.cells = 0) (hrs : rm.slots = 0) (hyd : y.cls = C ∧ y.cls ≠ "java/lang/invoke/MethodHandle" ∧ y.cls ≠ "java/lang/invoke/VarHandle" ∧ (parseMethodDescriptor y.desc).map (fun d => d.parameters.length) = some n) (hR : rm.frames + 1 ≤ Rm.frames ∧ 8 + (maxL + 11) + rm.locals ≤ Rm.locals) (hcs : cl ≤ Rm.cells ∧ sl ≤ Rm.slots) (hn : As.length = n) (hst : stk = As.reverse ++ .ref (ad 0) :: st) (hr8 : (st.map fun v => v.category).sum ≤ 8) (hw : ws = w (d.1, ad, d.2.2) σ ++ wr) (hd : decode cc pc = .ok (.invokevirtual index, 3)) (hp : pc + 3 = pc') (kk : gJ z d A nL Q (wr ++ w (d.1, ad, d.2.2) σ) cl sl pc' lv (.int r :: st)) : gJ z d A nL Q ws cl sl pc lv stk := by
  intro H locs ls hP hD hS hl
  subst hw hst
  have hP := ga_swP hP
  have hD := ga_swD hD
  have hF1 := ga_free hD hS hA
  have hRm := hC.2.2.2.2.2.2.2.1
  have hl9 := hC.2.2.2.2.2.2.1
  refine va_calli (va_runV (As := As) (rest := st) ⟨hC.1, hC.2.1, hC.2.2.1, hC.2.2.2.1, hC.2.2.2.2.1⟩ (hl9 ▸ hM (va_A (w (d.1, ad, d.2.2) σ) H.size) r ho) (cwV n hC.2.2.2.2.1 hg rfl hrc hrs hyd (hRm ▸ hR)) ⟨jPre.blind, va_recv hC.2.2.2.2.2.1 (ga_P hP) hc he, fun U hU hW => ⟨rfl, g_pre hC hF hP hD hS hF1 hU hW⟩⟩ rfl hn hl.1 rfl (lv_room hr8) hd (hRm ▸ hcs)) hS (fun q _ h => hF1 q h) hF1 (fun r' u t H1 locs1 ht hvm hw hB hz1 hk1 hS1 => ?_)
  obtain ⟨rfl, rfl⟩ := hw
  obtain ⟨hP1, hD1, -, -⟩ := hB
  rw [ht] at hP1
  obtain ⟨hP2, hD2⟩ := ga_join hP hD hk1 hF1 hP1 hD1
  exact hp ▸ kk H1 locs1 ls hP2 hD2 hS1 hl
theorem g_callV_lr (hC : gC z d l Rm nL cc own) (hA : ∀ q : Nat, z.2.2.2.2.1.heap.size ≤ q → A q) (hF : jF d A z.2.2.2.2.1) {w : jD → jS → va_W} {ad : Nat → Nat} {σ : jS} {r : Int64} {wr : va_W} {y : MethodName} {bytes : ByteArray} {maxL n index ci N : Nat} {rm : Room} {As fs : List Value} {C : String} {T : u_T} {o : Option Int64} {stk : List Value} (hM : ∀ A1 : Nat → Prop, jMlr l y (jws y bytes maxL (some (.long))) rm (d.1, ad, d.2.2) w A1 (.ref (ad 0) :: As) σ o) (ho : o = some r) (he : (w (d.1, ad, d.2.2) σ)[0]? = some (ad 0, .inr (ci, fs))) (hc : vwCl[ci]? = some (C, T, N)) (hg : GoodIn jtb (wsV own index C y (jws y bytes maxL (some (.long))))) (hrc : rm.cells = 0) (hrs : rm.slots = 0) (hyd : y.cls = C ∧ y.cls ≠ "java/lang/invoke/MethodHandle" ∧ y.cls ≠ "java/lang/invoke/VarHandle" ∧ (parseMethodDescriptor y.desc).map (fun d => d.parameters.length) = some n) (hR : rm.frames + 1 ≤ Rm.frames ∧ 8 + (maxL + 11) + rm.locals ≤ Rm.locals) (hcs : cl ≤ Rm.cells ∧ sl ≤ Rm.slots) (hn : As.length = n) (hst : stk = As.reverse ++ .ref (ad 0) :: st) (hr8 : (st.map fun v => v.category).sum ≤ 8) (hw : ws = w (d.1, ad, d.2.2) σ ++ wr) (hd : decode cc pc = .ok (.invokevirtual index, 3)) (hp : pc + 3 = pc') (kk : gJ z d A nL Q (wr ++ w (d.1, ad, d.2.2) σ) cl sl pc' lv (.long r :: st)) : gJ z d A nL Q ws cl sl pc lv stk := by
  intro H locs ls hP hD hS hl
  subst hw hst
  have hP := ga_swP hP
  have hD := ga_swD hD
  have hF1 := ga_free hD hS hA
  have hRm := hC.2.2.2.2.2.2.2.1
  have hl9 := hC.2.2.2.2.2.2.1
  refine va_calll (va_runV (As := As) (rest := st) ⟨hC.1, hC.2.1, hC.2.2.1, hC.2.2.2.1, hC.2.2.2.2.1⟩ (hl9 ▸ hM (va_A (w (d.1, ad, d.2.2) σ) H.size) r ho) (cwV n hC.2.2.2.2.1 hg rfl hrc hrs hyd (hRm ▸ hR)) ⟨jPre.blind, va_recv hC.2.2.2.2.2.1 (ga_P hP) hc he, fun U hU hW => ⟨rfl, g_pre hC hF hP hD hS hF1 hU hW⟩⟩ rfl hn hl.1 rfl (lv_room hr8) hd (hRm ▸ hcs)) hS (fun q _ h => hF1 q h) hF1 (fun r' u t H1 locs1 ht hvm hw hB hz1 hk1 hS1 => ?_)
  obtain ⟨rfl, rfl⟩ := hw
  obtain ⟨hP1, hD1, -, -⟩ := hB
  rw [ht] at hP1
  obtain ⟨hP2, hD2⟩ := ga_join hP hD hk1 hF1 hP1 hD1
  exact hp ▸ kk H1 locs1 ls hP2 hD2 hS1 hl
end GL
theorem li_in {k j L : Nat} (h : k + j < L) (hL : L ≤ 3072) : vp_in (Int32.ofNat k + Int32.ofNat j) L := by
  rw [← Int32.ofNat_add]
  rintro (h1 | h1)
  · rw [Int32.lt_iff_toInt_lt, Int32.toInt_ofNat_of_lt (by omega)] at h1
    have h2 : ((0 : Int32).toInt) = 0 := rfl
    omega
  · rw [Int32.toNatClampNeg_ofNat_of_lt (by omega)] at h1
    omega
theorem li_in0 {k L : Nat} (h : k < L) (hL : L ≤ 3072) : vp_in (Int32.ofNat k) L := by
  rintro (h1 | h1)
  · rw [Int32.lt_iff_toInt_lt, Int32.toInt_ofNat_of_lt (by omega)] at h1
    have h2 : ((0 : Int32).toInt) = 0 := rfl
    omega
  · rw [Int32.toNatClampNeg_ofNat_of_lt (by omega)] at h1
    omega
/-- what stays while the law runs -/
def lK (z : jZ) (d : jD) (A : Nat → Prop) (l : Launch) (b L : Nat) (xs : Nat → Int32) : Prop :=
  gC z d l room_1 4 cL_law RL ∧ (∀ q : Nat, z.2.2.2.2.1.heap.size ≤ q → A q) ∧ jF d A z.2.2.2.2.1 ∧ va_X b L xs z.2.2.2.2.1 z.2.2.2.2.1.heap ∧ b < z.2.2.2.2.1.heap.size ∧ ¬ A b ∧ L ≤ 3072
/-- the law at pc, both sides at σx, σm, the round at k -/
abbrev lJ (z : jZ) (d : jD) (A : Nat → Prop) (Q : State → Prop) (b : Nat) (ax am : Nat → Nat) (σx σm : jS) (k pc : Nat) : Prop :=
  gJ z d A 4 Q (wX (d.1, ax, d.2.2) σx ++ wM (d.1, am, d.2.2) σm) 86 3273 pc [(3, .int (Int32.ofNat k)), (2, .ref (am 0)), (1, .ref (ax 0)), (0, .ref b)] []
