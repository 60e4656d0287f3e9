/-! WORLDS THAT GROW: what constructors and the law itself are walked with -/
theorem ga_join {A0 : Nat → Prop} {D : va_G} {cl : List vw_C} {w0 wc w1 : va_W} {H H1 : Heap} (hP : va_P D cl (w0 ++ wc) H) (hD : va_D A0 (w0 ++ wc)) (hk : ∀ q : Nat, q < H.size → ¬ va_A wc H.size q → H1[q]? = H[q]?) (hF : ∀ q, va_A wc H.size q → A0 q) (hP1 : va_P D cl w1 H1) (hD1 : va_D (va_A wc H.size) w1) : va_P D cl (w0 ++ w1) H1 ∧ va_D A0 (w0 ++ w1) := by
  have hl : ∀ (k : Nat) (q : Nat × va_E), w0[k]? = some q → (w0 ++ wc)[k]? = some q := fun k q h => by
    rw [List.getElem?_append_left ((List.getElem?_eq_some_iff.mp h).1)]; exact h
  have hr : ∀ (k : Nat) (q : Nat × va_E), wc[k]? = some q → (w0 ++ wc)[w0.length + k]? = some q := fun k q h => by
    rw [List.getElem?_append_right (by omega), show w0.length + k - w0.length = k by omega]; exact h
  have apart : ∀ (k : Nat) (q : Nat × va_E), w0[k]? = some q → q.1 < H.size ∧ ¬ va_A wc H.size q.1 := by
    intro k q hq
    have hlt := (hP k q (hl k q hq)).lt
    refine ⟨hlt, fun h => ?_⟩
    rcases h with ⟨k2, e, h⟩ | h
    · have hij := hD.1 k (w0.length + k2) q (q.1, e) (hl k q hq) (hr k2 _ h) rfl
      have := (List.getElem?_eq_some_iff.mp hq).1
      omega
    · omega
  have hD0 : va_D A0 w0 := ⟨fun i j p q hi hj e => hD.1 i j p q (hl _ _ hi) (hl _ _ hj) e, fun k q hk => hD.2 k q (hl k q hk)⟩
  exact ⟨va_P.app (fun k q hq => (hP k q (hl k q hq)).kept (hk q.1 (apart k q hq).1 (apart k q hq).2)) hP1, va_D.app hD0 (hD1.weaken (fun k q _ h => hF q.1 h)) (fun i j x y hx hy hxy => (apart i x hx).2 (by rw [hxy]; exact hD1.2 j y hy))⟩
theorem ga_P {D : va_G} {cl : List vw_C} {w0 wc : va_W} {H : Heap} (hP : va_P D cl (w0 ++ wc) H) : va_P D cl wc H := fun k q h => hP (w0.length + k) q (by
  rw [List.getElem?_append_right (by omega), show w0.length + k - w0.length = k by omega]; exact h)
theorem ga_D {A0 : Nat → Prop} {w0 wc : va_W} (hD : va_D A0 (w0 ++ wc)) : va_D A0 wc := by
  have hr : ∀ (k : Nat) (q : Nat × va_E), wc[k]? = some q → (w0 ++ wc)[w0.length + k]? = some q := fun k q h => by
    rw [List.getElem?_append_right (by omega), show w0.length + k - w0.length = k by omega]; exact h
  exact ⟨fun i j p q hi hj e => by have := hD.1 _ _ p q (hr _ _ hi) (hr _ _ hj) e; omega, fun k q hk => hD.2 _ q (hr k q hk)⟩
theorem ga_free {A0 : Nat → Prop} {w0 wc : va_W} {H0 H : Heap} {locs : List Loc} (hD : va_D A0 (w0 ++ wc)) (hS : va_S A0 H0 H locs) (hA : ∀ q : Nat, H0.size ≤ q → A0 q) : ∀ q, va_A wc H.size q → A0 q := by
  intro q h
  rcases h with ⟨k, e, h⟩ | h
  · exact (ga_D hD).2 k (q, e) h
  · exact hA q (Nat.le_trans hS.1 h)
/-- the machine at pc, over the heap H, so many cells and slots new -/
def gW (z : jZ) (H : Heap) (locs : List Loc) (cl sl : Nat) (Q : State → Prop) (pc : Nat) (ls : Array Slot) (st : List Value) : Prop :=
  W z.1 z.2.1 z.2.2.1 z.2.2.2.1 z.2.2.2.2.1 z.2.2.2.2.2.1 z.2.2.2.2.2.2.1 z.2.2.2.2.2.2.2.1 z.2.2.2.2.2.2.2.2.1 z.2.2.2.2.2.2.2.2.2 H locs cl sl Q (F0 z.2.2.2.2.2.1 pc ls st)
def gC (z : jZ) (d : jD) (l : Launch) (Rm : Room) (nL : Nat) (cc : ByteArray) (own : String) : Prop :=
  z.1.tables.exec = Jvm.exec ∧ z.2.2.2.2.2.2.2.2.2.code = cc ∧ z.2.2.2.2.2.2.2.2.2.maxLocals = nL ∧ z.2.2.2.2.1.vm.findClass own = some z.2.2.2.2.2.1.cls ∧ (∀ w ∈ jtb, w.before z.2.2.2.2.2.2.1 z.2.2.2.2.1 = true) ∧ va_K d.1 vwCl (jT d) z.2.2.2.2.1 ∧ z.2.1 = l ∧ z.2.2.2.1 = Rm ∧ va_AO "TwentyPushes$Line" z.2.2.2.2.1
def gJ (z : jZ) (d : jD) (A : Nat → Prop) (nL : Nat) (Q : State → Prop) (ws : va_W) (cl sl pc : Nat) (lv : List (Nat × Value)) (st : List Value) : Prop :=
  ∀ (H : Heap) (locs : List Loc) (ls : Array Slot), va_P d.1 vwCl ws H → va_D A ws → va_S A z.2.2.2.2.1.heap H locs → lv_has ls nL lv → gW z H locs cl sl Q pc ls st
/-- a constructor's contract: from the world w0 to a world W1 u -/
def gQ (d : jD) (A : Nat → Prop) (W1 : (Nat → Nat) → va_W) : Array Value → State → Outcome → State → Prop := va_Qv (fun _ : Nat → Nat => True) (fun u t => va_P d.1 vwCl (W1 u) t.heap ∧ va_D A (W1 u)) A
def gM (l : Launch) (y : MethodName) (ws : List Cond) (rm : Room) (d : jD) (h0 : Nat) (As : List Value) (w0 : va_W) (W1 : (Nat → Nat) → va_W) (mc ms : Nat) : Prop :=
  ∀ sz : Nat, Met l y ws rm (va_Pc (.ref h0 :: As) (fun U => U.heap.size = sz ∧ va_P d.1 vwCl w0 U.heap ∧ va_K d.1 vwCl (jT d) U ∧ va_AO "TwentyPushes$Line" U ∧ va_D (fun _ => True) w0)) (gQ d (va_A w0 sz) W1) mc ms (va_A w0 sz)
theorem gk_one {d : jD} {s : State} {cA c0 : ClassId} {ty : FieldType} (k : Nat) (hk : (jT d)[k]? = some (c0, ty)) (hr : ∀ c : ClassId, va_RA s c ty → s.vm.findClass ("[" ++ ty.toString) = some c) (hK : va_K d.1 vwCl (jT d) s) (h : va_K d.1 vwCl (jT d ++ [(cA, ty)]) s) : cA = c0 := by
  have h1 := hr _ (h.2 5 (cA, ty) rfl).2
  have h2 := hr _ (hK.2 k _ hk).2
  exact Option.some.inj (h1.symm.trans h2)
section GR
variable {z : jZ} {d : jD} {A : Nat → Prop} {nL cl sl pc pc' tgt cl' sl' : Nat} {Q : State → Prop} {ws ws' : va_W} {lv lv' : List (Nat × Value)} {st : List Value} {l : Launch} {Rm : Room} {cc : ByteArray} {own : String}
theorem g_ws (h : ws = ws') (k : gJ z d A nL Q ws' cl sl pc lv st) : gJ z d A nL Q ws cl sl pc lv st := h ▸ k
theorem g_lv (ks : List Nat) (hl : lv_pick lv ks = lv') (k : gJ z d A nL Q ws cl sl pc lv' st) : gJ z d A nL Q ws cl sl pc lv st := fun H locs ls hP hD hS hv => k H locs ls hP hD hS (lv_sub hv ks hl)
theorem g_widen (h1 : cl ≤ cl') (h2 : sl ≤ sl') (k : gJ z d A nL Q ws cl' sl' pc lv st) : gJ z d A nL Q ws cl sl pc lv st := fun H locs ls hP hD hS hv => W.widen h1 h2 (k H locs ls hP hD hS hv)
theorem g_iconst (hC : gC z d l Rm nL cc own) {n : Int} {v : Int32} (hd : decode cc pc = .ok (.iconst n, 1)) (hv : Int32.ofInt n = v) (hp : pc + 1 = pc') (kk : gJ z d A nL Q ws cl sl pc' lv (.int v :: st)) : gJ z d A nL Q ws cl sl pc lv st := by
  intro H locs ls hP hD hS hl
  exact lv_iconst hC.1 hC.2.1 hd hv (hp ▸ kk H locs ls hP hD hS hl)
theorem g_bipush (hC : gC z d l Rm nL cc own) {n : Int} {v : Int32} (hd : decode cc pc = .ok (.bipush n, 2)) (hv : (Int8.ofInt n).toInt32 = v) (hp : pc + 2 = pc') (kk : gJ z d A nL Q ws cl sl pc' lv (.int v :: st)) : gJ z d A nL Q ws cl sl pc lv st := by
  intro H locs ls hP hD hS hl
  exact lv_bipush hC.1 hC.2.1 hd hv (hp ▸ kk H locs ls hP hD hS hl)
theorem g_sipush (hC : gC z d l Rm nL cc own) {n : Int} {v : Int32} (hd : decode cc pc = .ok (.sipush n, 3)) (hv : (Int16.ofInt n).toInt32 = v) (hp : pc + 3 = pc') (kk : gJ z d A nL Q ws cl sl pc' lv (.int v :: st)) : gJ z d A nL Q ws cl sl pc lv st := by
  intro H locs ls hP hD hS hl
  exact lv_sipush hC.1 hC.2.1 hd hv (hp ▸ kk H locs ls hP hD hS hl)
theorem g_ldc2 (hC : gC z d l Rm nL cc own) {index : Nat} {v : Int64} (hd : decode cc pc = .ok (.ldc2_w index, 3)) (hv : Cond.constantLong own index v ∈ jtb) (hp : pc + 3 = pc') (kk : gJ z d A nL Q ws cl sl pc' lv (.long v :: st)) : gJ z d A nL Q ws cl sl pc lv st := by
  intro H locs ls hP hD hS hl
  exact lv_ldc2 hC.1 hC.2.1 hC.2.2.2.1 (hC.2.2.2.2.1 _ hv) hd (hp ▸ kk H locs ls hP hD hS hl)
theorem g_iload_n (hC : gC z d l Rm nL cc own) {k : Fin 4} {i : Nat} {x : Int32} (j : Nat) (hd : decode cc pc = .ok (.iload_n k, 1)) (hi : (k : Nat) = i) (hk : lv[j]? = some (i, .int x)) (hp : pc + 1 = pc') (kk : gJ z d A nL Q ws cl sl pc' lv (.int x :: st)) : gJ z d A nL Q ws cl sl pc lv st := by
  intro H locs ls hP hD hS hl
  exact lv_iload_n hC.1 hC.2.1 hd hi (lv_at hl j hk) (hp ▸ kk H locs ls hP hD hS hl)
theorem g_aload_n (hC : gC z d l Rm nL cc own) {k : Fin 4} {i : Nat} {x : Nat} (j : Nat) (hd : decode cc pc = .ok (.aload_n k, 1)) (hi : (k : Nat) = i) (hk : lv[j]? = some (i, .ref x)) (hp : pc + 1 = pc') (kk : gJ z d A nL Q ws cl sl pc' lv (.ref x :: st)) : gJ z d A nL Q ws cl sl pc lv st := by
  intro H locs ls hP hD hS hl
  exact lv_aload_n hC.1 hC.2.1 hd hi (lv_at hl j hk) (hp ▸ kk H locs ls hP hD hS hl)
theorem g_istore_n (hC : gC z d l Rm nL cc own) {k : Fin 4} {i : Nat} {x : Int32} (hd : decode cc pc = .ok (.istore_n k, 1)) (hi : (k : Nat) = i) (hn : i < nL) (hv : (i, Value.int x) :: lv.filter (fun q => !(q.1 == i) && !(q.1 + 1 == i && q.2.category == 2)) = lv') (hp : pc + 1 = pc') (kk : gJ z d A nL Q ws cl sl pc' lv' st) : gJ z d A nL Q ws cl sl pc lv (.int x :: st) := by
  intro H locs ls hP hD hS hl
  exact lv_istore_n hC.1 hC.2.1 hd hi hl hn hv (fun ls1 hl1 => hp ▸ kk H locs ls1 hP hD hS hl1)
theorem g_astore_n (hC : gC z d l Rm nL cc own) {k : Fin 4} {i : Nat} {x : Nat} (hd : decode cc pc = .ok (.astore_n k, 1)) (hi : (k : Nat) = i) (hn : i < nL) (hv : (i, Value.ref x) :: lv.filter (fun q => !(q.1 == i) && !(q.1 + 1 == i && q.2.category == 2)) = lv') (hp : pc + 1 = pc') (kk : gJ z d A nL Q ws cl sl pc' lv' st) : gJ z d A nL Q ws cl sl pc lv (.ref x :: st) := by
  intro H locs ls hP hD hS hl
  exact lv_astore_n hC.1 hC.2.1 hd hi hl hn hv (fun ls1 hl1 => hp ▸ kk H locs ls1 hP hD hS hl1)
theorem g_iinc (hC : gC z d l Rm nL cc own) {i : Nat} {n : Int} {x v : Int32} (j : Nat) (hd : decode cc pc = .ok (.iinc i n, 3)) (hk : lv[j]? = some (i, .int x)) (hn : i < nL) (he : x + Int32.ofInt n = v) (hv : (i, Value.int v) :: lv.filter (fun q => !(q.1 == i) && !(q.1 + 1 == i && q.2.category == 2)) = lv') (hp : pc + 3 = pc') (kk : gJ z d A nL Q ws cl sl pc' lv' st) : gJ z d A nL Q ws cl sl pc lv st := by
  intro H locs ls hP hD hS hl
  exact lv_iinc hC.1 hC.2.1 hd hl hk he hn hv (fun ls1 hl1 => hp ▸ kk H locs ls1 hP hD hS hl1)
theorem g_iadd (hC : gC z d l Rm nL cc own) {x y : Int32} (hd : decode cc pc = .ok (.iadd, 1)) (hp : pc + 1 = pc') (kk : gJ z d A nL Q ws cl sl pc' lv (.int (x + y) :: st)) : gJ z d A nL Q ws cl sl pc lv (.int y :: .int x :: st) := by
  intro H locs ls hP hD hS hl
  exact lv_iadd hC.1 hC.2.1 hd (hp ▸ kk H locs ls hP hD hS hl)
theorem g_isub (hC : gC z d l Rm nL cc own) {x y : Int32} (hd : decode cc pc = .ok (.isub, 1)) (hp : pc + 1 = pc') (kk : gJ z d A nL Q ws cl sl pc' lv (.int (x - y) :: st)) : gJ z d A nL Q ws cl sl pc lv (.int y :: .int x :: st) := by
  intro H locs ls hP hD hS hl
  exact lv_isub hC.1 hC.2.1 hd (hp ▸ kk H locs ls hP hD hS hl)
theorem g_iand (hC : gC z d l Rm nL cc own) {x y : Int32} (hd : decode cc pc = .ok (.iand, 1)) (hp : pc + 1 = pc') (kk : gJ z d A nL Q ws cl sl pc' lv (.int (x &&& y) :: st)) : gJ z d A nL Q ws cl sl pc lv (.int y :: .int x :: st) := by
  intro H locs ls hP hD hS hl
  exact lv_iand hC.1 hC.2.1 hd (hp ▸ kk H locs ls hP hD hS hl)
theorem g_i2l (hC : gC z d l Rm nL cc own) {x : Int32} (hd : decode cc pc = .ok (.i2l, 1)) (hp : pc + 1 = pc') (kk : gJ z d A nL Q ws cl sl pc' lv (.long (x.toInt64) :: st)) : gJ z d A nL Q ws cl sl pc lv (.int x :: st) := by
  intro H locs ls hP hD hS hl
  exact lv_i2l hC.1 hC.2.1 hd rfl (hp ▸ kk H locs ls hP hD hS hl)
theorem g_lshl (hC : gC z d l Rm nL cc own) {x : Int64} {y : Int32} (hd : decode cc pc = .ok (.lshl, 1)) (hp : pc + 1 = pc') (kk : gJ z d A nL Q ws cl sl pc' lv (.long (x <<< (y.toInt64 &&& 63)) :: st)) : gJ z d A nL Q ws cl sl pc lv (.int y :: .long x :: st) := by
  intro H locs ls hP hD hS hl
  exact lv_lshl hC.1 hC.2.1 hd rfl (hp ▸ kk H locs ls hP hD hS hl)
theorem g_land (hC : gC z d l Rm nL cc own) {x y : Int64} (hd : decode cc pc = .ok (.land, 1)) (hp : pc + 1 = pc') (kk : gJ z d A nL Q ws cl sl pc' lv (.long (x &&& y) :: st)) : gJ z d A nL Q ws cl sl pc lv (.long y :: .long x :: st) := by
  intro H locs ls hP hD hS hl
  exact lv_land hC.1 hC.2.1 hd (hp ▸ kk H locs ls hP hD hS hl)
theorem g_lor (hC : gC z d l Rm nL cc own) {x y : Int64} (hd : decode cc pc = .ok (.lor, 1)) (hp : pc + 1 = pc') (kk : gJ z d A nL Q ws cl sl pc' lv (.long (x ||| y) :: st)) : gJ z d A nL Q ws cl sl pc lv (.long y :: .long x :: st) := by
  intro H locs ls hP hD hS hl
  exact lv_lor hC.1 hC.2.1 hd (hp ▸ kk H locs ls hP hD hS hl)
theorem g_lcmp (hC : gC z d l Rm nL cc own) {x y : Int64} (hd : decode cc pc = .ok (.lcmp, 1)) (hp : pc + 1 = pc') (kk : gJ z d A nL Q ws cl sl pc' lv (.int (lg_cmp x y) :: st)) : gJ z d A nL Q ws cl sl pc lv (.long y :: .long x :: st) := by
  intro H locs ls hP hD hS hl
  exact W.lcmp hC.1 hC.2.1 hd (hp ▸ kk H locs ls hP hD hS hl)
theorem g_dup (hC : gC z d l Rm nL cc own) {va : Value} (hva : va.category = 1) (hd : decode cc pc = .ok (.dup, 1)) (hp : pc + 1 = pc') (kk : gJ z d A nL Q ws cl sl pc' lv (va :: va :: st)) : gJ z d A nL Q ws cl sl pc lv (va :: st) := by
  intro H locs ls hP hD hS hl
  exact lv_dup hC.1 hC.2.1 hd hva (hp ▸ kk H locs ls hP hD hS hl)
theorem g_goto (hC : gC z d l Rm nL cc own) {off : Int} (hd : decode cc pc = .ok (.goto off, 3)) (ht : (pc : Int) + off = (tgt : Int)) (kk : gJ z d A nL Q ws cl sl tgt lv st) : gJ z d A nL Q ws cl sl pc lv st := by
  intro H locs ls hP hD hS hl
  exact lv_goto hC.1 hC.2.1 hd ht (kk H locs ls hP hD hS hl)
theorem g_icmp_ge (hC : gC z d l Rm nL cc own) {x y : Int32} {off : Int} (hd : decode cc pc = .ok (.if_icmp .ge off, 3)) (ht : (pc : Int) + off = (tgt : Int)) (hp : pc + 3 = pc') (kt : y ≤ x → gJ z d A nL Q ws cl sl tgt lv st) (kf : ¬ y ≤ x → gJ z d A nL Q ws cl sl pc' lv st) : gJ z d A nL Q ws cl sl pc lv (.int y :: .int x :: st) := by
  intro H locs ls hP hD hS hl
  exact lv_icmp_ge hC.1 hC.2.1 hd ht (fun h => kt h H locs ls hP hD hS hl) (fun h => hp ▸ kf h H locs ls hP hD hS hl)
theorem g_icmp_gt (hC : gC z d l Rm nL cc own) {x y : Int32} {off : Int} (hd : decode cc pc = .ok (.if_icmp .gt off, 3)) (ht : (pc : Int) + off = (tgt : Int)) (hp : pc + 3 = pc') (kt : y < x → gJ z d A nL Q ws cl sl tgt lv st) (kf : ¬ y < x → gJ z d A nL Q ws cl sl pc' lv st) : gJ z d A nL Q ws cl sl pc lv (.int y :: .int x :: st) := by
  intro H locs ls hP hD hS hl
  exact lv_icmp_gt hC.1 hC.2.1 hd ht (fun h => kt h H locs ls hP hD hS hl) (fun h => hp ▸ kf h H locs ls hP hD hS hl)
theorem g_icmp_same (hC : gC z d l Rm nL cc own) {x : Int32} {off : Int} (hd : decode cc pc = .ok (.if_icmp .eq off, 3)) (ht : (pc : Int) + off = (tgt : Int)) (kt : gJ z d A nL Q ws cl sl tgt lv st) : gJ z d A nL Q ws cl sl pc lv (.int x :: .int x :: st) := by
  intro H locs ls hP hD hS hl
  exact lv_icmp_eq hC.1 hC.2.1 hd ht (fun _ => kt H locs ls hP hD hS hl) (fun h => absurd rfl h)
theorem g_if_eq0 (hC : gC z d l Rm nL cc own) {x : Int32} {off : Int} (hd : decode cc pc = .ok (.ifCond .eq off, 3)) (ht : (pc : Int) + off = (tgt : Int)) (hx : x = 0) (kt : gJ z d A nL Q ws cl sl tgt lv st) : gJ z d A nL Q ws cl sl pc lv (.int x :: st) := by
  intro H locs ls hP hD hS hl
  exact lv_if_eq hC.1 hC.2.1 hd ht (fun _ => kt H locs ls hP hD hS hl) (fun h => absurd hx h)
theorem g_tableOut (hC : gC z d l Rm nL cc own) {dflt lo hi : Int} {offs : Array Int} {len : Nat} {x : Int32} (hd : decode cc pc = .ok (.tableswitch dflt lo hi offs, len)) (h : x.toInt < lo ∨ hi < x.toInt) (ht : (pc : Int) + dflt = (tgt : Int)) (kk : gJ z d A nL Q ws cl sl tgt lv st) : gJ z d A nL Q ws cl sl pc lv (.int x :: st) := by
  intro H locs ls hP hD hS hl
  exact lv_tableOut hC.1 hC.2.1 hd h ht (kk H locs ls hP hD hS hl)
theorem g_tableIn (hC : gC z d l Rm nL cc own) {dflt lo hi : Int} {offs : Array Int} {len : Nat} {x : Int32} {off : Int} (hd : decode cc pc = .ok (.tableswitch dflt lo hi offs, len)) (h1 : ¬ x.toInt < lo) (h2 : ¬ hi < x.toInt) (h3 : offs[(x.toInt - lo).toNat]? = some off) (ht : (pc : Int) + off = (tgt : Int)) (kk : gJ z d A nL Q ws cl sl tgt lv st) : gJ z d A nL Q ws cl sl pc lv (.int x :: st) := by
  intro H locs ls hP hD hS hl
  exact lv_tableIn hC.1 hC.2.1 hd h1 h2 h3 ht (kk H locs ls hP hD hS hl)
theorem g_get (hC : gC z d l Rm nL cc own) {C : String} {T : u_T} {N ci index a : Nat} {fs : List Value} {v : Value} {q0 : Nat} (hin : ∀ w ∈ u_ws C T N, w ∈ jtb) (he : ws[q0]? = some (a, .inr (ci, fs))) (hc : vwCl[ci]? = some (C, T, N)) (k : Nat) (hk : k < N) (hlink : Cond.fieldLink own index (T k).1 (T k).2.1 (T k).2.2.1 ∈ jtb) (hv : fs[k]? = some v) (hd : decode cc pc = .ok (.getfield index, 3)) (hp : pc + 3 = pc') (kk : gJ z d A nL Q ws cl sl pc' lv (v :: st)) : gJ z d A nL Q ws cl sl pc lv (.ref a :: st) := by
  intro H locs ls hP hD hS hl
  exact va_get hC.1 hC.2.1 hC.2.2.2.2.1 hin hC.2.2.2.1 hC.2.2.2.2.2.1 hP q0 he hc k hk (hC.2.2.2.2.1 _ hlink) (fun _ h9 => h9) hv hd (hp ▸ kk H locs ls hP hD hS hl)
theorem g_put (hC : gC z d l Rm nL cc own) {C : String} {T : u_T} {N ci index a : Nat} {fs : List Value} {v : Value} {q0 : Nat} {ty : FieldType} (hin : ∀ w ∈ u_ws C T N, w ∈ jtb) (ty0 : Nat → FieldType) (hty : ∀ k, k < N → parseFieldDescriptor (T k).2.2.1 = some (ty0 k)) (hnm : ∀ a, a < N → ∀ b, b < N → a ≠ b → (T a).2.1 ≠ (T b).2.1) (he : ws[q0]? = some (a, .inr (ci, fs))) (hc : vwCl[ci]? = some (C, T, N)) (k : Nat) (hk : k < N) (hlink : Cond.fieldLink own index (T k).1 (T k).2.1 (T k).2.2.1 ∈ jtb) (hfin : (T k).2.2.2 = false) (ht : ty0 k = ty) (hn : narrow ty v = v) (hfit : fits ty v = true) (hl0 : k < fs.length) (hset : ws.set q0 (a, .inr (ci, fs.set k v)) = ws') (hd : decode cc pc = .ok (.putfield index, 3)) (hp : pc + 3 = pc') (kk : gJ z d A nL Q ws' cl sl pc' lv st) : gJ z d A nL Q ws cl sl pc lv (v :: .ref a :: st) := by
  intro H locs ls hP hD hS hl
  exact va_put hC.1 hC.2.1 hC.2.2.2.2.1 hin ty0 hty hnm hC.2.2.2.1 hC.2.2.2.2.2.1 hP hD hS q0 he hc k hk (hC.2.2.2.2.1 _ hlink) (fun _ h9 => h9) hfin (ht ▸ hty k hk) hn hfit hl0 hd (fun H1 locs1 hP1 hD1 hS1 => hp ▸ kk H1 locs1 ls (hset ▸ hP1) (hset ▸ hD1) hS1 hl)
theorem g_putF (hC : gC z d l Rm nL cc own) (hnm9 : z.2.2.2.2.2.2.2.2.1.name = "<init>") {C : String} {T : u_T} {N ci index a : Nat} {fs : List Value} {v : Value} {q0 : Nat} {ty : FieldType} (hin : ∀ w ∈ u_ws C T N, w ∈ jtb) (ty0 : Nat → FieldType) (hty : ∀ k, k < N → parseFieldDescriptor (T k).2.2.1 = some (ty0 k)) (hnm : ∀ a, a < N → ∀ b, b < N → a ≠ b → (T a).2.1 ≠ (T b).2.1) (he : ws[q0]? = some (a, .inr (ci, fs))) (hc : vwCl[ci]? = some (C, T, N)) (k : Nat) (hk : k < N) (hlink : Cond.fieldLink own index (T k).1 (T k).2.1 (T k).2.2.1 ∈ jtb) (hfin : (T k).2.2.2 = true) (hdecl : (T k).1 = own) (ht : ty0 k = ty) (hn : narrow ty v = v) (hfit : fits ty v = true) (hl0 : k < fs.length) (hset : ws.set q0 (a, .inr (ci, fs.set k v)) = ws') (hd : decode cc pc = .ok (.putfield index, 3)) (hp : pc + 3 = pc') (kk : gJ z d A nL Q ws' cl sl pc' lv st) : gJ z d A nL Q ws cl sl pc lv (v :: .ref a :: st) := by
  intro H locs ls hP hD hS hl
  exact va_putF hC.1 hC.2.1 hC.2.2.2.2.1 hin ty0 hty hnm hC.2.2.2.1 hC.2.2.2.2.2.1 hP hD hS q0 he hc k hk (hC.2.2.2.2.1 _ hlink) (fun _ h9 => h9) hfin hnm9 hdecl (ht ▸ hty k hk) hn hfit hl0 hd (fun H1 locs1 hP1 hD1 hS1 => hp ▸ kk H1 locs1 ls (hset ▸ hP1) (hset ▸ hD1) hS1 hl)
theorem g_iast (hC : gC z d l Rm nL cc own) (q0 : Nat) {a n : Nat} {f : Nat → Int32} {i x : Int32} (he : ws[q0]? = some (a, .inl (d.2.2.1 0, n, .inl f))) (hin : vp_in i n) (hset : ws.set q0 (a, .inl (d.2.2.1 0, n, .inl (upd f i.toNatClampNeg x))) = ws') (hd : decode cc pc = .ok (.iastore, 1)) (hp : pc + 1 = pc') (kk : gJ z d A nL Q ws' cl sl pc' lv st) : gJ z d A nL Q ws cl sl pc lv (.int x :: .int i :: .ref a :: st) := by
  intro H locs ls hP hD hS hl
  exact va_iast hC.1 hC.2.1 hC.2.2.2.2.2.1 hP hD hS q0 0 he rfl hin hd (fun H1 locs1 hP1 hD1 hS1 => hp ▸ kk H1 locs1 ls (hset ▸ hP1) (hset ▸ hD1) hS1 hl)
theorem g_aast (hC : gC z d l Rm nL cc own) (q0 qk : Nat) {a n v : Nat} {vs : List Value} {f : Nat → Option Nat} {i : Int32} (he : ws[q0]? = some (a, .inl (d.2.2.1 4, n, .inr (.inr (.inr (.inr f)))))) (hv : ws[qk]? = some (v, .inr (5, vs))) (hin : vp_in i n) (hset : ws.set q0 (a, .inl (d.2.2.1 4, n, .inr (.inr (.inr (.inr (va_up f i.toNatClampNeg (some v))))))) = ws') (hd : decode cc pc = .ok (.aastore, 1)) (hp : pc + 1 = pc') (kk : gJ z d A nL Q ws' cl sl pc' lv st) : gJ z d A nL Q ws cl sl pc lv (.ref v :: .int i :: .ref a :: st) := by
  intro H locs ls hP hD hS hl
  exact va_astq (r := (RX5, TX5, 9)) hC.1 hC.2.1 hC.2.2.2.2.2.1 hP hD hS q0 4 qk 5 he rfl hv rfl hin hd (fun H1 locs1 hP1 hD1 hS1 => hp ▸ kk H1 locs1 ls (hset ▸ hP1) (hset ▸ hD1) hS1 hl)
theorem g_newa (hC : gC z d l Rm nL cc own) (hA : ∀ q : Nat, z.2.2.2.2.1.heap.size ≤ q → A q) {atype : ArrayType} (harr : Cond.arrayClass (newarray.typeOf atype) ∈ jtb) {ty : FieldType} (hty : newarray.typeOf atype = ty) {c0 : ClassId} (k : Nat) (hk : (jT d)[k]? = some (c0, ty)) (hr : ∀ c : ClassId, va_RA z.2.2.2.2.1 c ty → z.2.2.2.2.1.vm.findClass ("[" ++ ty.toString) = some c) {n : Int32} {N' : Nat} {a0 : vp_A} (ha : ∀ cA : ClassId, vp_cell cA a0 = arrV cA N' (fun _ => defaultValue ty)) (hn : ¬ n < 0) (hN : n.toNatClampNeg = N') (hbytes : N' * componentBytes ty ≤ 536870912) (hcl : cl + 1 = cl') (hsl : sl + N' = sl') (hcells : cl + 1 ≤ Rm.cells) (hslots : sl + N' ≤ Rm.slots) (hd : decode cc pc = .ok (.newarray atype, 2)) (hp : pc + 2 = pc') (kk : ∀ q : Nat, gJ z d A nL Q (ws ++ [(q, .inl (c0, a0))]) cl' sl' pc' lv (.ref q :: st)) : gJ z d A nL Q ws cl sl pc lv (.int n :: st) := by
  intro H locs ls hP hD hS hl
  have hR := hC.2.2.2.2.2.2.2.1
  refine va_newa hC.1 hC.2.1 (hC.2.2.2.2.1 _ harr) hty hC.2.2.2.2.2.1 hP hD hS hA ha hn hN hbytes (hR ▸ hcells) (hR ▸ hslots) hd (fun q cA H1 hK1 hP1 hD1 hS1 => ?_)
  have e := gk_one k hk hr hC.2.2.2.2.2.1 hK1
  subst e hcl hsl hp
  exact kk q H1 locs ls hP1 hD1 hS1 hl
theorem g_newq (hC : gC z d l Rm nL cc own) (hA : ∀ q : Nat, z.2.2.2.2.1.heap.size ≤ q → A q) {index : Nat} (hclink : Cond.classLink own index "TwentyPushes$Line" ∈ jtb) {n : Int32} {N' : Nat} (hn : ¬ n < 0) (hN : n.toNatClampNeg = N') (hbytes : N' * 4 ≤ 536870912) (hcl : cl + 1 = cl') (hsl : sl + N' = sl') (hcells : cl + 1 ≤ Rm.cells) (hslots : sl + N' ≤ Rm.slots) (hd : decode cc pc = .ok (.anewarray index, 3)) (hp : pc + 3 = pc') (kk : ∀ q : Nat, gJ z d A nL Q (ws ++ [(q, .inl (d.2.2.1 4, N', .inr (.inr (.inr (.inr (fun _ => none))))))]) cl' sl' pc' lv (.ref q :: st)) : gJ z d A nL Q ws cl sl pc lv (.int n :: st) := by
  intro H locs ls hP hD hS hl
  have hR := hC.2.2.2.2.2.2.2.1
  refine va_newq hC.1 hC.2.1 hC.2.2.2.1 (hC.2.2.2.2.1 _ hclink) hC.2.2.2.2.2.2.2.2 hC.2.2.2.2.2.1 hP hD hS hA hn hN hbytes (hR ▸ hcells) (hR ▸ hslots) hd (fun q cA H1 hK1 hP1 hD1 hS1 => ?_)
  have e := gk_one (c0 := d.2.2.1 4) 4 rfl (fun c h => by obtain ⟨_, _, _, _, _, h⟩ := h; exact h) hC.2.2.2.2.2.1 hK1
  subst e hcl hsl hp
  exact kk q H1 locs ls hP1 hD1 hS1 hl
theorem g_new (hC : gC z d l Rm nL cc own) (hA : ∀ q : Nat, z.2.2.2.2.1.heap.size ≤ q → A q) {C : String} {T : u_T} {N ci index : Nat} (hin : ∀ w ∈ u_ws C T N, w ∈ jtb) (ty : Nat → FieldType) (hty : ∀ k, k < N → parseFieldDescriptor (T k).2.2.1 = some (ty k)) (hclk : Cond.classLink own index C ∈ jtb) (hinst : Cond.instantiable C N ∈ jtb) (hini : Cond.initialized C ∈ jtb) (hc : vwCl[ci]? = some (C, T, N)) {fs : List Value} (hfs : ∀ j, j < N → defaultValue (ty j) = vp_V fs j) (hcl : cl + 1 = cl') (hsl : sl + N = sl') (hcells : cl + 1 ≤ Rm.cells) (hslots : sl + N ≤ Rm.slots) (hd : decode cc pc = .ok (.new index, 3)) (hp : pc + 3 = pc') (kk : ∀ q : Nat, gJ z d A nL Q (ws ++ [(q, .inr (ci, fs))]) cl' sl' pc' lv (.ref q :: st)) : gJ z d A nL Q ws cl sl pc lv st := by
  intro H locs ls hP hD hS hl
  have hR := hC.2.2.2.2.2.2.2.1
  refine va_new hC.1 hC.2.1 hC.2.2.2.2.1 hin ty hty hC.2.2.2.1 (hC.2.2.2.2.1 _ hclk) (hC.2.2.2.2.1 _ hinst) (hC.2.2.2.2.1 _ hini) hC.2.2.2.2.2.1 hP hD hS hA hc hfs (hR ▸ hcells) (hR ▸ hslots) hd (fun q H1 hP1 hD1 hS1 => ?_)
  subst hcl hsl hp
  exact kk q H1 locs ls hP1 hD1 hS1 hl
theorem g_objInit (hC : gC z d l Rm nL cc own) {index a : Nat} (hlink : Cond.methodLink own index objectInit ∈ jtb) (hf : 1 ≤ Rm.frames) (hL : (st.map fun v => v.category).sum + 12 ≤ Rm.locals) (hd : decode cc pc = .ok (.invokespecial index, 3)) (hp : pc + 3 = pc') (kk : gJ z d A nL Q ws cl sl pc' lv st) : gJ z d A nL Q ws cl sl pc lv (.ref a :: st) := by
  intro H locs ls hP hD hS hl
  have hR := hC.2.2.2.2.2.2.2.1
  refine W.objInit hC.1 hC.2.1 hC.2.2.2.1 (hC.2.2.2.2.1 _ hlink) (hC.2.2.2.2.1 _ im_obj) (hC.2.2.2.2.1 _ cd_obj) rfl (hl.1.trans hC.2.2.1.symm) rfl hd (hR ▸ hf) (by rw [hR]; simpa using hL) ?_
  subst hp
  exact kk H locs ls hP hD hS hl
theorem g_callI (hC : gC z d l Rm nL cc own) (hA : ∀ q : Nat, z.2.2.2.2.1.heap.size ≤ q → A q) {y : MethodName} {wy : List Cond} {bytes : ByteArray} {maxL n index : Nat} {rm : Room} {As : List Value} {W1 : (Nat → Nat) → va_W} {mc ms : Nat} {w0 : va_W} {b : Nat} {e0 : va_E} {stk : List Value} (hM : gM l y wy rm d b As [(b, e0)] W1 mc ms) (hwy : wy = Cond.code y bytes maxL none :: jtb) (hcd : Cond.code y bytes maxL none ∈ jtb) (hrc : rm.cells = mc) (hrs : rm.slots = ms) (hini : Cond.initialized y.cls ∈ jtb) (hlk : Cond.methodLink own index y ∈ jtb) (him : Cond.instanceMethod y ∈ jtb) (hy1 : y.name = "<init>") (hyd : y.cls ≠ "java/lang/invoke/MethodHandle" ∧ y.cls ≠ "java/lang/invoke/VarHandle" ∧ (parseMethodDescriptor y.desc).map (fun d => d.parameters.length) = some n) (hR : rm.frames + 1 ≤ Rm.frames ∧ 8 + (maxL + 11) + rm.locals ≤ Rm.locals) (hcl : cl + mc = cl') (hsl : sl + ms = sl') (hcs : cl + mc ≤ Rm.cells ∧ sl + ms ≤ Rm.slots) (hn : As.length = n) (hst : stk = As.reverse ++ .ref b :: st) (hr8 : (st.map fun v => v.category).sum ≤ 8) (hw : ws = w0 ++ [(b, e0)]) (hd : decode cc pc = .ok (.invokespecial index, 3)) (hp : pc + 3 = pc') (kk : ∀ u : Nat → Nat, gJ z d A nL Q (w0 ++ W1 u) cl' sl' pc' lv st) : gJ z d A nL Q ws cl sl pc lv stk := by
  intro H locs ls hP hD hS hl
  subst hw hst
  have hG : GoodIn jtb wy := by
    intro w hw
    rw [hwy] at hw
    have hm : w ∈ jtb := by
      rcases List.mem_cons.mp hw with rfl | h
      · exact hcd
      · exact h
    exact ⟨hm, jt_good w hm⟩
  have hRm := hC.2.2.2.2.2.2.2.1
  have hl9 := hC.2.2.2.2.2.2.1
  have hF := ga_free hD hS hA
  have hPc := ga_P hP
  have hDc := ga_D hD
  refine va_callv (va_runI (As := As) (rest := st) ⟨hC.1, hC.2.1, hC.2.2.1, hC.2.2.2.1, hC.2.2.2.2.1⟩ (hl9 ▸ hM H.size) (cwI n hC.2.2.2.2.1 hG hwy hrc hrs (hC.2.2.2.2.1 _ hini) (hC.2.2.2.2.1 _ hlk) (hC.2.2.2.2.1 _ him) hy1 hyd (hRm ▸ hR)) ⟨fun a U g mk q => ?_, fun U hU hW => ?_⟩ rfl hn hl.1 rfl (lv_room hr8) hd (hRm ▸ hcs)) hS (fun q _ h => hF q h) hF (fun u t H1 locs1 ht hvm hw hB hz1 hk1 hS1 => ?_)
  · obtain ⟨q0, q1, qP, qK, qO, qD⟩ := q
    exact ⟨q0, q1, qP, va_K.moved (u := U) (U := U.calling g mk a) (Vm.Alike.refl U.vm) qK, va_AO.moved (u := U) (U := U.calling g mk a) (Vm.Alike.refl U.vm) qO, qD⟩
  · exact ⟨rfl, by rw [hU], by rw [hU]; exact hPc, va_K.moved hW.alike hC.2.2.2.2.2.1, va_AO.moved hW.alike hC.2.2.2.2.2.2.2.2, hDc.weaken (fun _ _ _ _ => trivial)⟩
  · obtain ⟨hP1, hD1⟩ := hB
    rw [ht] at hP1
    obtain ⟨hP2, hD2⟩ := ga_join hP hD hk1 hF hP1 hD1
    subst hcl hsl hp
    exact kk u H1 locs1 ls hP2 hD2 hS1 hl
theorem g_vret {W1 : (Nat → Nat) → va_W} (u : Nat → Nat) (hC : gC z d l Rm nL cc own) (hrt : z.2.2.2.2.2.2.2.2.1.sig.returnType = none) (hlk : z.2.2.2.2.2.2.2.2.1.locks = false) (hw : ws = W1 u) (hd : decode cc pc = .ok (.return_, 1)) : gJ z d A nL (MQ z.2.2.2.2.2.2.2.1 (gQ d A W1) z.2.2.2.2.2.2.1 z.2.2.2.2.1 cl sl A) ws cl sl pc lv [] := by
  intro H locs ls hP hD hS hl
  subst hw
  exact W.vret hC.1 hC.2.1 hrt (fun t ht hW => ⟨⟨u, rfl, trivial, by rw [ht]; exact hP, hD⟩, hS.F ht⟩) hS.2.2 hd hlk
theorem gStart {y : MethodName} {wy : List Cond} {rm : Room} {h0 : Nat} {As : List Value} {w0 : va_W} {W1 : (Nat → Nat) → va_W} {mc ms maxL : Nat} {lv0 : List (Nat × Value)} (hy : plainName y.cls = true) (hyn : y.name = "<init>") (hw : wy = Cond.code y cc maxL none :: jtb) (hlen : (lg_sl (.ref h0 :: As)).length ≤ maxL) (hlv : lv_args 0 (.ref h0 :: As) = lv0) (h : ∀ (z : jZ) (A : Nat → Prop), gC z d l (headSpec wy rm).room maxL cc y.cls → z.2.2.2.2.2.2.2.2.1.sig.returnType = none → z.2.2.2.2.2.2.2.2.1.locks = false → z.2.2.2.2.2.2.2.2.1.name = "<init>" → (∀ q : Nat, z.2.2.2.2.1.heap.size ≤ q → A q) → gJ z d A maxL (MQ z.2.2.2.2.2.2.2.1 (gQ d A W1) z.2.2.2.2.2.2.1 z.2.2.2.2.1 mc ms A) w0 0 0 0 lv0 []) : gM l y wy rm d h0 As w0 W1 mc ms := by
  intro sz
  refine Met.ofW (cc := cc) (maxL := maxL) (ret := none) hy hw ?_
  intro p e s m args below meth c s₁ B hml hv
  obtain ⟨rfl, hsz, hP, hK, hO, hD0⟩ := hv
  have hts0 := atoms_spec (ws := wy) B.pre
  have hts : ∀ w ∈ jtb, w.before (.ref h0 :: As).toArray s = true := fun w h => hts0 w (by rw [hw]; exact List.mem_cons_of_mem _ h)
  have hown : s.vm.findClass y.cls = some m.cls := findClass_of_methodNamed B.named
  have hin : meth.name = "<init>" := (name_of_methodNamed B.named B.method).1.trans hyn
  have hl := lv_entry (.ref h0 :: As) (n := maxL) hlen
  rw [lg_entry_eq]
  generalize (lg_sl (.ref h0 :: As) ++ List.replicate (maxL - (lg_sl (.ref h0 :: As)).length) Slot.unset).toArray = ls at hl ⊢
  rw [hlv] at hl
  subst hsz
  have hD := hD0.self (sz := s.heap.size)
  generalize hAe : va_A w0 s.heap.size = A at hD ⊢
  have hA : ∀ q : Nat, s.heap.size ≤ q → A q := fun q h => by rw [← hAe]; exact Or.inr h
  exact h (p, l, e, (headSpec wy rm).room, s, m, (.ref h0 :: As).toArray, below, meth, c) A ⟨B.exec, B.bytes, hml, hown, hts, hK, rfl, rfl, hO⟩ B.returns B.notSynchronized hin hA s.heap [] ls hP hD va_S.rf hl
end GR
