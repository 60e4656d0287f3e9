/-! A SIDE'S STATE: what its cells hold, by cell and place: ints, longs; how it is changed -/
abbrev jS : Type := (Nat → Nat → Int32) × (Nat → Nat → Int64)
def jc (σ : jS) (c : Nat) (f : Nat → Int32) : jS := (fun a => if a = c then f else σ.1 a, σ.2)
def jcl (σ : jS) (c : Nat) (f : Nat → Int64) : jS := (σ.1, fun a => if a = c then f else σ.2 a)
def ju (σ : jS) (c i : Nat) (v : Int32) : jS := jc σ c (upd (σ.1 c) i v)
def jul (σ : jS) (c i : Nat) (v : Int64) : jS := jcl σ c (vp_updL (σ.2 c) i v)
/-- a boolean as the machine has it -/
def jb (x : Int32) : Int32 := if x = 0 then 0 else 1
theorem jb_0 : jb 0 = 0 := by decide
theorem jb_1 : jb 1 = 1 := by decide
theorem jb_jb (x : Int32) : jb (jb x) = jb x := by unfold jb; by_cases h : x = 0 <;> simp [h]
theorem jb_nar (x : Int32) : narrow .boolean (.int (jb x)) = .int (jb x) := by
  unfold jb
  by_cases h : x = 0
  · rw [if_pos h]; rfl
  · rw [if_neg h]; rfl
theorem jb_fit (x : Int32) : fits .boolean (.int (jb x)) = true := by
  unfold jb
  by_cases h : x = 0
  · rw [if_pos h]; rfl
  · rw [if_neg h]; rfl
/-- a place that is in its row, or nothing -/
def ob {ρ : Type} (i : Int32) (n : Nat) (o : Option ρ) : Option ρ := if i < 0 ∨ n ≤ i.toNatClampNeg then none else o
/-- a divisor that is not 0, or nothing -/
def od {ρ : Type} (i : Int32) (o : Option ρ) : Option ρ := if i = 0 then none else o
def jst {α β : Type} (v : α) (k : α → β) : β := k v
def jlet {α β : Type} (v : α) (b : α → β) : β := b v
def jloop {α β : Type} (body : (α → Option β) → α → Option β) : Nat → α → Option β
  | 0, _ => none
  | n + 1, a => body (jloop body n) a
/-- classes and slots of the machine; addresses of the cells; array classes; addresses of static arrays, of the text -/
abbrev jD : Type := va_G × (Nat → Nat) × (Nat → ClassId) × (Nat → Nat)
abbrev jT (d : jD) : List (ClassId × FieldType) := [(d.2.2.1 0, .int), (d.2.2.1 1, .byte), (d.2.2.1 2, .short), (d.2.2.1 3, .long), (d.2.2.1 4, .object "TwentyPushes$Line")]
def jLEAST : Nat → Int32 := fun j => ([1, 0, 0, 0, 0, 0, 1, 0, 1, 0, 0] : List Int32).getD j 0
def jMOST : Nat → Int32 := fun j => ([9, 3, 9, 3, 9, 3, 9, 3, 30, 200, 12] : List Int32).getD j 0
def jABOVE : Nat → Int32 := fun j => ([-1, 0, 0, 2, 1, 3, 0, 6] : List Int32).getD j 0
def jOWN : Nat → Int32 := fun j => ([1, 10, 11, 2, 20, 0, 0, 0, 0, 30, 0, 0, 0, 41, 40, 0, 0, 0, 0, 50, 0, 0, 60, 61, 70, 0, 0, 0, 81, 80, 0, 0] : List Int32).getD j 0
def jSt (C n : String) (t N : Nat) (f : Nat → Int32) (A : Nat → Prop) (U : State) : Prop := va_Z C n "[I" (.ref t) A U U.heap ∧ va_T .int t N (fun j => .int (f j)) A U U.heap
/-- the class's static arrays and its text -/
def jF (d : jD) (A : Nat → Prop) (U : State) : Prop :=
  jSt RX6 "LEAST" (d.2.2.2 0) 11 jLEAST A U ∧ jSt RX6 "MOST" (d.2.2.2 1) 11 jMOST A U ∧ jSt RX0 "ABOVE" (d.2.2.2 2) 8 jABOVE A U ∧ jSt RX0 "OWN" (d.2.2.2 3) 32 jOWN A U ∧
  vk_R RX4 77 "hswrqp" (d.2.2.2 4) U ∧ vk_S 1 [6] [[104, 115, 119, 114, 113, 112]] (fun _ => d.2.2.2 4) (fun _ => d.2.2.2 5) A U U.heap ∧ va_Z "java/lang/String" "COMPACT_STRINGS" "Z" (.int 1) A U U.heap
theorem jSt.go {C n : String} {t N : Nat} {f : Nat → Int32} {A : Nat → Prop} {s U : State} (h : jSt C n t N f A s) (hvm : s.vm.Alike U.vm) (hq : ∀ a : Nat, a < s.heap.size → ¬ A a → U.heap[a]? = s.heap[a]?) : jSt C n t N f A U :=
  ⟨(h.1.moved hvm).kept hq, (h.2.moved hvm).kept hq⟩
theorem jF.go {d : jD} {A : Nat → Prop} {s U : State} (h : jF d A s) (hW : s.WarmedH U.vm) (hq : ∀ a : Nat, a < s.heap.size → ¬ A a → U.heap[a]? = s.heap[a]?) : jF d A U :=
  ⟨h.1.go hW.alike hq, h.2.1.go hW.alike hq, h.2.2.1.go hW.alike hq, h.2.2.2.1.go hW.alike hq, h.2.2.2.2.1.warm hW, (h.2.2.2.2.2.1.moved hW.alike).kept hq, (h.2.2.2.2.2.2.moved hW.alike).kept hq⟩
theorem jSt.call {C n : String} {t N : Nat} {f : Nat → Int32} {A : Nat → Prop} {U : State} {g : JFrame} {mk : MethodId} {a : Array Value} (h : jSt C n t N f A U) : jSt C n t N f A (U.calling g mk a) :=
  ⟨h.1.moved (u := U) (U := U.calling g mk a) (Vm.Alike.refl U.vm), h.2.moved (u := U) (U := U.calling g mk a) (Vm.Alike.refl U.vm)⟩
theorem jF.call {d : jD} {A : Nat → Prop} {U : State} {g : JFrame} {mk : MethodId} {a : Array Value} (h : jF d A U) : jF d A (U.calling g mk a) :=
  ⟨h.1.call, h.2.1.call, h.2.2.1.call, h.2.2.2.1.call, h.2.2.2.2.1.same (u := U) (U := U.calling g mk a) rfl, h.2.2.2.2.2.1.moved (u := U) (U := U.calling g mk a) (Vm.Alike.refl U.vm), h.2.2.2.2.2.2.moved (u := U) (U := U.calling g mk a) (Vm.Alike.refl U.vm)⟩
/-- what holds of a side at a method's start and end -/
def jPre (d : jD) (w : jD → jS → va_W) (A : Nat → Prop) (σ : jS) (U : State) : Prop := va_P d.1 vwCl (w d σ) U.heap ∧ va_D A (w d σ) ∧ va_K d.1 vwCl (jT d) U ∧ jF d A U
theorem jPre.blind {d : jD} {w : jD → jS → va_W} {A : Nat → Prop} {σ : jS} {av : List Value} : FrameBlind (va_Pc av (jPre d w A σ)) := fun a U g mk q => by
  obtain ⟨q0, q1, q2, q3, q4⟩ := q
  exact ⟨q0, q1, q2, va_K.moved (u := U) (U := U.calling g mk a) (Vm.Alike.refl U.vm) q3, q4.call⟩
abbrev jZ : Type := Program × Launch × Env × Room × State × MethodId × Array Value × List Frame × Method × Code
abbrev zS (z : jZ) : State := z.2.2.2.2.1
abbrev zA (z : jZ) : Array Value := z.2.2.2.2.2.2.1
abbrev zB (z : jZ) : List Frame := z.2.2.2.2.2.2.2.1
def jW (z : jZ) (H : Heap) (locs : List Loc) (Q : State → Prop) (pc : Nat) (ls : Array Slot) (st : List Value) : Prop :=
  W z.1 z.2.1 z.2.2.1 z.2.2.2.1 z.2.2.2.2.1 z.2.2.2.2.2.1 z.2.2.2.2.2.2.1 z.2.2.2.2.2.2.2.1 z.2.2.2.2.2.2.2.2.1 z.2.2.2.2.2.2.2.2.2 H locs 0 0 Q (F0 z.2.2.2.2.2.1 pc ls st)
/-- what is so while one call of a method runs -/
def jC (z : jZ) (d : jD) (A : Nat → Prop) (l : Launch) (Rm : Room) (nL : Nat) (cc : ByteArray) (own : String) (rt : Option FieldType) (Ts : List Cond) : Prop :=
  z.1.tables.exec = Jvm.exec ∧ z.2.2.2.2.2.2.2.2.2.code = cc ∧ z.2.2.2.2.2.2.2.2.2.maxLocals = nL ∧ z.2.2.2.2.1.vm.findClass own = some z.2.2.2.2.2.1.cls ∧ (∀ w ∈ Ts, w.before z.2.2.2.2.2.2.1 z.2.2.2.2.1 = true) ∧ va_K d.1 vwCl (jT d) z.2.2.2.2.1 ∧ jF d A z.2.2.2.2.1 ∧ z.2.1 = l ∧ z.2.2.2.1 = Rm ∧ z.2.2.2.2.2.2.2.2.1.sig.returnType = rt ∧ z.2.2.2.2.2.2.2.2.1.locks = false
/-- the method, at pc with these locals and this stack over the state σ, comes to its end with res, if o is res -/
def jJ {ρ : Type} (z : jZ) (d : jD) (w : jD → jS → va_W) (A : Nat → Prop) (nL : Nat) (Q : State → Prop) (res : ρ) (σ : jS) (o : Option ρ) (pc : Nat) (lv : List (Nat × Value)) (st : List Value) : Prop :=
  o = some res → ∀ (H : Heap) (locs : List Loc) (ls : Array Slot), va_P d.1 vwCl (w d σ) H → va_D A (w d σ) → va_S A z.2.2.2.2.1.heap H locs → lv_has ls nL lv → jW z H locs Q pc ls st
theorem jw {z : jZ} {d : jD} {A : Nat → Prop} {l : Launch} {Rm : Room} {nL : Nat} {cc : ByteArray} {own : String} {rt : Option FieldType} {Ts : List Cond} (hC : jC z d A l Rm nL cc own rt Ts) (w : Cond) (h : w ∈ Ts) : w.before z.2.2.2.2.2.2.1 z.2.2.2.2.1 = true := hC.2.2.2.2.1 w h
section JR
variable {ρ : Type} {z : jZ} {d : jD} {w : jD → jS → va_W} {A : Nat → Prop} {nL : Nat} {Q : State → Prop} {res : ρ} {σ : jS} {o X Y : Option ρ} {pc pc' tgt : Nat} {lv lv' : List (Nat × Value)} {st : List Value}
variable {l : Launch} {Rm : Room} {cc : ByteArray} {own : String} {rt : Option FieldType} {Ts : List Cond}
theorem j_none : jJ z d w A nL Q res σ none pc lv st := fun h => by cases h
theorem j_eq (h : o = X) (k : jJ z d w A nL Q res σ X pc lv st) : jJ z d w A nL Q res σ o pc lv st := h ▸ k
theorem j_if {c : Prop} [Decidable c] (kt : c → jJ z d w A nL Q res σ X pc lv st) (kf : ¬ c → jJ z d w A nL Q res σ Y pc lv st) : jJ z d w A nL Q res σ (if c then X else Y) pc lv st := by
  by_cases h : c
  · rw [if_pos h]; exact kt h
  · rw [if_neg h]; exact kf h
theorem j_st {V : jS} {K : jS → Option ρ} (k : ∀ σ1, jJ z d w A nL Q res σ1 (K σ1) pc lv st) : jJ z d w A nL Q res V (jst V K) pc lv st := k V
theorem j_top {x : Int32} {K : Int32 → Option ρ} (k : ∀ y, jJ z d w A nL Q res σ (K y) pc lv (.int y :: st)) : jJ z d w A nL Q res σ (jst x K) pc lv (.int x :: st) := k x
theorem j_topl {x : Int64} {K : Int64 → Option ρ} (k : ∀ y, jJ z d w A nL Q res σ (K y) pc lv (.long y :: st)) : jJ z d w A nL Q res σ (jst x K) pc lv (.long x :: st) := k x
theorem j_topeq {x y : Int32} (h : x = y) (k : jJ z d w A nL Q res σ o pc lv (.int y :: st)) : jJ z d w A nL Q res σ o pc lv (.int x :: st) := h ▸ k
theorem j_lv (ks : List Nat) (hl : lv_pick lv ks = lv') (k : jJ z d w A nL Q res σ o pc lv' st) : jJ z d w A nL Q res σ o pc lv st := fun ho H locs ls hP hD hS hv => k ho H locs ls hP hD hS (lv_sub hv ks hl)
theorem j_let {α : Type} {V : α → Option ρ} {B : (α → Option ρ) → Option ρ} (pcJ : Nat) (σJ : α → jS) (lvJ : α → List (Nat × Value)) (stJ : α → List Value) (h1 : ∀ a, jJ z d w A nL Q res (σJ a) (V a) pcJ (lvJ a) (stJ a)) (h2 : ∀ j : α → Option ρ, (∀ a, jJ z d w A nL Q res (σJ a) (j a) pcJ (lvJ a) (stJ a)) → jJ z d w A nL Q res σ (B j) pc lv st) : jJ z d w A nL Q res σ (jlet V B) pc lv st := h2 V h1
theorem j_loop {α : Type} {body : (α → Option ρ) → α → Option ρ} (pcJ : Nat) (σJ : α → jS) (lvJ : α → List (Nat × Value)) (h1 : ∀ j : α → Option ρ, (∀ a, jJ z d w A nL Q res (σJ a) (j a) pcJ (lvJ a) []) → ∀ a, jJ z d w A nL Q res (σJ a) (body j a) pcJ (lvJ a) []) : ∀ n a, jJ z d w A nL Q res (σJ a) (jloop body n a) pcJ (lvJ a) [] := by
  intro n
  induction n with
  | zero => intro a; exact j_none
  | succ n ih => intro a; exact h1 _ ih a

theorem j_iconst (hC : jC z d A l Rm nL cc own rt Ts) {n : Int} {v : Int32} (hd : decode cc pc = .ok (.iconst n, 1)) (hv : Int32.ofInt n = v) (hp : pc + 1 = pc')  (kk : jJ z d w A nL Q res σ o pc' lv (.int v :: st)) : jJ z d w A nL Q res σ o pc lv st := by
  intro ho H locs ls hP hD hS hl
  exact lv_iconst hC.1 hC.2.1 hd hv (hp ▸ kk ho H locs ls hP hD hS hl)
theorem j_bipush (hC : jC z d A l Rm nL cc own rt Ts) {n : Int} {v : Int32} (hd : decode cc pc = .ok (.bipush n, 2)) (hv : (Int8.ofInt n).toInt32 = v) (hp : pc + 2 = pc')  (kk : jJ z d w A nL Q res σ o pc' lv (.int v :: st)) : jJ z d w A nL Q res σ o pc lv st := by
  intro ho H locs ls hP hD hS hl
  exact lv_bipush hC.1 hC.2.1 hd hv (hp ▸ kk ho H locs ls hP hD hS hl)
theorem j_sipush (hC : jC z d A l Rm nL cc own rt Ts) {n : Int} {v : Int32} (hd : decode cc pc = .ok (.sipush n, 3)) (hv : (Int16.ofInt n).toInt32 = v) (hp : pc + 3 = pc')  (kk : jJ z d w A nL Q res σ o pc' lv (.int v :: st)) : jJ z d w A nL Q res σ o pc lv st := by
  intro ho H locs ls hP hD hS hl
  exact lv_sipush hC.1 hC.2.1 hd hv (hp ▸ kk ho H locs ls hP hD hS hl)
theorem j_lconst (hC : jC z d A l Rm nL cc own rt Ts) {n : Fin 2} {v : Int64} (hd : decode cc pc = .ok (.lconst n, 1)) (hv : Int64.ofNat (n : Nat) = v) (hp : pc + 1 = pc')  (kk : jJ z d w A nL Q res σ o pc' lv (.long v :: st)) : jJ z d w A nL Q res σ o pc lv st := by
  intro ho H locs ls hP hD hS hl
  exact lv_lconst hC.1 hC.2.1 hd hv (hp ▸ kk ho H locs ls hP hD hS hl)
theorem j_ldc (hC : jC z d A l Rm nL cc own rt Ts) {index : Nat} {v : Int32} (hd : decode cc pc = .ok (.ldc index, 2)) (hv : Cond.constant own index v ∈ Ts) (hp : pc + 2 = pc')  (kk : jJ z d w A nL Q res σ o pc' lv (.int v :: st)) : jJ z d w A nL Q res σ o pc lv st := by
  intro ho H locs ls hP hD hS hl
  exact lv_ldc hC.1 hC.2.1 hC.2.2.2.1 (hC.2.2.2.2.1 _ hv) hd (hp ▸ kk ho H locs ls hP hD hS hl)
theorem j_ldcw (hC : jC z d A l Rm nL cc own rt Ts) {index : Nat} {v : Int32} (hd : decode cc pc = .ok (.ldc_w index, 3)) (hv : Cond.constant own index v ∈ Ts) (hp : pc + 3 = pc')  (kk : jJ z d w A nL Q res σ o pc' lv (.int v :: st)) : jJ z d w A nL Q res σ o pc lv st := by
  intro ho H locs ls hP hD hS hl
  exact lv_ldcw hC.1 hC.2.1 hC.2.2.2.1 (hC.2.2.2.2.1 _ hv) hd (hp ▸ kk ho H locs ls hP hD hS hl)
theorem j_ldc2 (hC : jC z d A l Rm nL cc own rt Ts) {index : Nat} {v : Int64} (hd : decode cc pc = .ok (.ldc2_w index, 3)) (hv : Cond.constantLong own index v ∈ Ts) (hp : pc + 3 = pc')  (kk : jJ z d w A nL Q res σ o pc' lv (.long v :: st)) : jJ z d w A nL Q res σ o pc lv st := by
  intro ho H locs ls hP hD hS hl
  exact lv_ldc2 hC.1 hC.2.1 hC.2.2.2.1 (hC.2.2.2.2.1 _ hv) hd (hp ▸ kk ho H locs ls hP hD hS hl)
theorem j_iload_n (hC : jC z d A l Rm nL cc own rt Ts) {k : Fin 4} {i : Nat} {x : Int32} (j : Nat) (hd : decode cc pc = .ok (.iload_n k, 1)) (hi : (k : Nat) = i) (hk : lv[j]? = some (i, .int x)) (hp : pc + 1 = pc')  (kk : jJ z d w A nL Q res σ o pc' lv (.int x :: st)) : jJ z d w A nL Q res σ o pc lv st := by
  intro ho H locs ls hP hD hS hl
  exact lv_iload_n hC.1 hC.2.1 hd hi (lv_at hl j hk) (hp ▸ kk ho H locs ls hP hD hS hl)
theorem j_iload (hC : jC z d A l Rm nL cc own rt Ts) {i : Nat} {x : Int32} (j : Nat) (hd : decode cc pc = .ok (.iload i, 2)) (hk : lv[j]? = some (i, .int x)) (hp : pc + 2 = pc')  (kk : jJ z d w A nL Q res σ o pc' lv (.int x :: st)) : jJ z d w A nL Q res σ o pc lv st := by
  intro ho H locs ls hP hD hS hl
  exact lv_iload hC.1 hC.2.1 hd (lv_at hl j hk) (hp ▸ kk ho H locs ls hP hD hS hl)
theorem j_lload_n (hC : jC z d A l Rm nL cc own rt Ts) {k : Fin 4} {i : Nat} {x : Int64} (j : Nat) (hd : decode cc pc = .ok (.lload_n k, 1)) (hi : (k : Nat) = i) (hk : lv[j]? = some (i, .long x)) (hp : pc + 1 = pc')  (kk : jJ z d w A nL Q res σ o pc' lv (.long x :: st)) : jJ z d w A nL Q res σ o pc lv st := by
  intro ho H locs ls hP hD hS hl
  exact lv_lload_n hC.1 hC.2.1 hd hi (lv_at hl j hk) (hp ▸ kk ho H locs ls hP hD hS hl)
theorem j_lload (hC : jC z d A l Rm nL cc own rt Ts) {i : Nat} {x : Int64} (j : Nat) (hd : decode cc pc = .ok (.lload i, 2)) (hk : lv[j]? = some (i, .long x)) (hp : pc + 2 = pc')  (kk : jJ z d w A nL Q res σ o pc' lv (.long x :: st)) : jJ z d w A nL Q res σ o pc lv st := by
  intro ho H locs ls hP hD hS hl
  exact lv_lload hC.1 hC.2.1 hd (lv_at hl j hk) (hp ▸ kk ho H locs ls hP hD hS hl)
theorem j_aload_n (hC : jC z d A l Rm nL cc own rt Ts) {k : Fin 4} {i : Nat} {x : Nat} (j : Nat) (hd : decode cc pc = .ok (.aload_n k, 1)) (hi : (k : Nat) = i) (hk : lv[j]? = some (i, .ref x)) (hp : pc + 1 = pc')  (kk : jJ z d w A nL Q res σ o pc' lv (.ref x :: st)) : jJ z d w A nL Q res σ o pc lv st := by
  intro ho H locs ls hP hD hS hl
  exact lv_aload_n hC.1 hC.2.1 hd hi (lv_at hl j hk) (hp ▸ kk ho H locs ls hP hD hS hl)
theorem j_aload (hC : jC z d A l Rm nL cc own rt Ts) {i : Nat} {x : Nat} (j : Nat) (hd : decode cc pc = .ok (.aload i, 2)) (hk : lv[j]? = some (i, .ref x)) (hp : pc + 2 = pc')  (kk : jJ z d w A nL Q res σ o pc' lv (.ref x :: st)) : jJ z d w A nL Q res σ o pc lv st := by
  intro ho H locs ls hP hD hS hl
  exact lv_aload hC.1 hC.2.1 hd (lv_at hl j hk) (hp ▸ kk ho H locs ls hP hD hS hl)
theorem j_aload_nN (hC : jC z d A l Rm nL cc own rt Ts) {k : Fin 4} {i : Nat} (j : Nat) (hd : decode cc pc = .ok (.aload_n k, 1)) (hi : (k : Nat) = i) (hk : lv[j]? = some (i, .null)) (hp : pc + 1 = pc')  (kk : jJ z d w A nL Q res σ o pc' lv (.null :: st)) : jJ z d w A nL Q res σ o pc lv st := by
  intro ho H locs ls hP hD hS hl
  exact lv_aload_nN hC.1 hC.2.1 hd hi (lv_at hl j hk) (hp ▸ kk ho H locs ls hP hD hS hl)
theorem j_istore_n (hC : jC z d A l Rm nL cc own rt Ts) {k : Fin 4} {i : Nat} {x : Int32} (hd : decode cc pc = .ok (.istore_n k, 1)) (hi : (k : Nat) = i) (hn : i < nL) (hv : (i, Value.int x) :: lv.filter (fun q => !(q.1 == i) && !(q.1 + 1 == i && q.2.category == 2)) = lv') (hp : pc + 1 = pc')  (kk : jJ z d w A nL Q res σ o pc' lv' st) : jJ z d w A nL Q res σ o pc lv (.int x :: st) := by
  intro ho H locs ls hP hD hS hl
  exact lv_istore_n hC.1 hC.2.1 hd hi hl hn hv (fun ls1 hl1 => hp ▸ kk ho H locs ls1 hP hD hS hl1)
theorem j_istore (hC : jC z d A l Rm nL cc own rt Ts) {i : Nat} {x : Int32} (hd : decode cc pc = .ok (.istore i, 2)) (hn : i < nL) (hv : (i, Value.int x) :: lv.filter (fun q => !(q.1 == i) && !(q.1 + 1 == i && q.2.category == 2)) = lv') (hp : pc + 2 = pc')  (kk : jJ z d w A nL Q res σ o pc' lv' st) : jJ z d w A nL Q res σ o pc lv (.int x :: st) := by
  intro ho H locs ls hP hD hS hl
  exact lv_istore hC.1 hC.2.1 hd hl hn hv (fun ls1 hl1 => hp ▸ kk ho H locs ls1 hP hD hS hl1)
theorem j_lstore_n (hC : jC z d A l Rm nL cc own rt Ts) {k : Fin 4} {i : Nat} {x : Int64} (hd : decode cc pc = .ok (.lstore_n k, 1)) (hi : (k : Nat) = i) (hn : i + 1 < nL) (hv : (i, Value.long x) :: lv.filter (fun q => !(q.1 == i) && (!(q.1 == i + 1) && !(q.1 + 1 == i && q.2.category == 2))) = lv') (hp : pc + 1 = pc')  (kk : jJ z d w A nL Q res σ o pc' lv' st) : jJ z d w A nL Q res σ o pc lv (.long x :: st) := by
  intro ho H locs ls hP hD hS hl
  exact lv_lstore_n hC.1 hC.2.1 hd hi hl hn hv (fun ls1 hl1 => hp ▸ kk ho H locs ls1 hP hD hS hl1)
theorem j_lstore (hC : jC z d A l Rm nL cc own rt Ts) {i : Nat} {x : Int64} (hd : decode cc pc = .ok (.lstore i, 2)) (hn : i + 1 < nL) (hv : (i, Value.long x) :: lv.filter (fun q => !(q.1 == i) && (!(q.1 == i + 1) && !(q.1 + 1 == i && q.2.category == 2))) = lv') (hp : pc + 2 = pc')  (kk : jJ z d w A nL Q res σ o pc' lv' st) : jJ z d w A nL Q res σ o pc lv (.long x :: st) := by
  intro ho H locs ls hP hD hS hl
  exact lv_lstore hC.1 hC.2.1 hd hl hn hv (fun ls1 hl1 => hp ▸ kk ho H locs ls1 hP hD hS hl1)
theorem j_astore_n (hC : jC z d A l Rm nL cc own rt Ts) {k : Fin 4} {i : Nat} {x : Nat} (hd : decode cc pc = .ok (.astore_n k, 1)) (hi : (k : Nat) = i) (hn : i < nL) (hv : (i, Value.ref x) :: lv.filter (fun q => !(q.1 == i) && !(q.1 + 1 == i && q.2.category == 2)) = lv') (hp : pc + 1 = pc')  (kk : jJ z d w A nL Q res σ o pc' lv' st) : jJ z d w A nL Q res σ o pc lv (.ref x :: st) := by
  intro ho H locs ls hP hD hS hl
  exact lv_astore_n hC.1 hC.2.1 hd hi hl hn hv (fun ls1 hl1 => hp ▸ kk ho H locs ls1 hP hD hS hl1)
theorem j_astore (hC : jC z d A l Rm nL cc own rt Ts) {i : Nat} {x : Nat} (hd : decode cc pc = .ok (.astore i, 2)) (hn : i < nL) (hv : (i, Value.ref x) :: lv.filter (fun q => !(q.1 == i) && !(q.1 + 1 == i && q.2.category == 2)) = lv') (hp : pc + 2 = pc')  (kk : jJ z d w A nL Q res σ o pc' lv' st) : jJ z d w A nL Q res σ o pc lv (.ref x :: st) := by
  intro ho H locs ls hP hD hS hl
  exact lv_astore hC.1 hC.2.1 hd hl hn hv (fun ls1 hl1 => hp ▸ kk ho H locs ls1 hP hD hS hl1)
theorem j_iinc (hC : jC z d A l Rm nL cc own rt Ts) {i : Nat} {n : Int} {x v : Int32} (j : Nat) (hd : decode cc pc = .ok (.iinc i n, 3)) (hk : lv[j]? = some (i, .int x)) (hn : i < nL) (he : x + Int32.ofInt n = v) (hv : (i, Value.int v) :: lv.filter (fun q => !(q.1 == i) && !(q.1 + 1 == i && q.2.category == 2)) = lv') (hp : pc + 3 = pc')  (kk : jJ z d w A nL Q res σ o pc' lv' st) : jJ z d w A nL Q res σ o pc lv st := by
  intro ho H locs ls hP hD hS hl
  exact lv_iinc hC.1 hC.2.1 hd hl hk he hn hv (fun ls1 hl1 => hp ▸ kk ho H locs ls1 hP hD hS hl1)
theorem j_iadd (hC : jC z d A l Rm nL cc own rt Ts) {x y : Int32} (hd : decode cc pc = .ok (.iadd, 1)) (hp : pc + 1 = pc')  (kk : jJ z d w A nL Q res σ o pc' lv (.int (x + y) :: st)) : jJ z d w A nL Q res σ o pc lv (.int y :: .int x :: st) := by
  intro ho H locs ls hP hD hS hl
  exact lv_iadd hC.1 hC.2.1 hd (hp ▸ kk ho H locs ls hP hD hS hl)
theorem j_isub (hC : jC z d A l Rm nL cc own rt Ts) {x y : Int32} (hd : decode cc pc = .ok (.isub, 1)) (hp : pc + 1 = pc')  (kk : jJ z d w A nL Q res σ o pc' lv (.int (x - y) :: st)) : jJ z d w A nL Q res σ o pc lv (.int y :: .int x :: st) := by
  intro ho H locs ls hP hD hS hl
  exact lv_isub hC.1 hC.2.1 hd (hp ▸ kk ho H locs ls hP hD hS hl)
theorem j_imul (hC : jC z d A l Rm nL cc own rt Ts) {x y : Int32} (hd : decode cc pc = .ok (.imul, 1)) (hp : pc + 1 = pc')  (kk : jJ z d w A nL Q res σ o pc' lv (.int (x * y) :: st)) : jJ z d w A nL Q res σ o pc lv (.int y :: .int x :: st) := by
  intro ho H locs ls hP hD hS hl
  exact lv_imul hC.1 hC.2.1 hd (hp ▸ kk ho H locs ls hP hD hS hl)
theorem j_iand (hC : jC z d A l Rm nL cc own rt Ts) {x y : Int32} (hd : decode cc pc = .ok (.iand, 1)) (hp : pc + 1 = pc')  (kk : jJ z d w A nL Q res σ o pc' lv (.int (x &&& y) :: st)) : jJ z d w A nL Q res σ o pc lv (.int y :: .int x :: st) := by
  intro ho H locs ls hP hD hS hl
  exact lv_iand hC.1 hC.2.1 hd (hp ▸ kk ho H locs ls hP hD hS hl)
theorem j_ior (hC : jC z d A l Rm nL cc own rt Ts) {x y : Int32} (hd : decode cc pc = .ok (.ior, 1)) (hp : pc + 1 = pc')  (kk : jJ z d w A nL Q res σ o pc' lv (.int (x ||| y) :: st)) : jJ z d w A nL Q res σ o pc lv (.int y :: .int x :: st) := by
  intro ho H locs ls hP hD hS hl
  exact lv_ior hC.1 hC.2.1 hd (hp ▸ kk ho H locs ls hP hD hS hl)
theorem j_ixor (hC : jC z d A l Rm nL cc own rt Ts) {x y : Int32} (hd : decode cc pc = .ok (.ixor, 1)) (hp : pc + 1 = pc')  (kk : jJ z d w A nL Q res σ o pc' lv (.int (x ^^^ y) :: st)) : jJ z d w A nL Q res σ o pc lv (.int y :: .int x :: st) := by
  intro ho H locs ls hP hD hS hl
  exact lv_ixor hC.1 hC.2.1 hd (hp ▸ kk ho H locs ls hP hD hS hl)
theorem j_ishl (hC : jC z d A l Rm nL cc own rt Ts) {x y : Int32} (hd : decode cc pc = .ok (.ishl, 1)) (hp : pc + 1 = pc')  (kk : jJ z d w A nL Q res σ o pc' lv (.int (x <<< (y &&& 31)) :: st)) : jJ z d w A nL Q res σ o pc lv (.int y :: .int x :: st) := by
  intro ho H locs ls hP hD hS hl
  exact lv_ishl hC.1 hC.2.1 hd (hp ▸ kk ho H locs ls hP hD hS hl)
theorem j_ishr (hC : jC z d A l Rm nL cc own rt Ts) {x y : Int32} (hd : decode cc pc = .ok (.ishr, 1)) (hp : pc + 1 = pc')  (kk : jJ z d w A nL Q res σ o pc' lv (.int (x >>> (y &&& 31)) :: st)) : jJ z d w A nL Q res σ o pc lv (.int y :: .int x :: st) := by
  intro ho H locs ls hP hD hS hl
  exact lv_ishr hC.1 hC.2.1 hd (hp ▸ kk ho H locs ls hP hD hS hl)
theorem j_ladd (hC : jC z d A l Rm nL cc own rt Ts) {x y : Int64} (hd : decode cc pc = .ok (.ladd, 1)) (hp : pc + 1 = pc')  (kk : jJ z d w A nL Q res σ o pc' lv (.long (x + y) :: st)) : jJ z d w A nL Q res σ o pc lv (.long y :: .long x :: st) := by
  intro ho H locs ls hP hD hS hl
  exact lv_ladd hC.1 hC.2.1 hd (hp ▸ kk ho H locs ls hP hD hS hl)
theorem j_land (hC : jC z d A l Rm nL cc own rt Ts) {x y : Int64} (hd : decode cc pc = .ok (.land, 1)) (hp : pc + 1 = pc')  (kk : jJ z d w A nL Q res σ o pc' lv (.long (x &&& y) :: st)) : jJ z d w A nL Q res σ o pc lv (.long y :: .long x :: st) := by
  intro ho H locs ls hP hD hS hl
  exact lv_land hC.1 hC.2.1 hd (hp ▸ kk ho H locs ls hP hD hS hl)
theorem j_lor (hC : jC z d A l Rm nL cc own rt Ts) {x y : Int64} (hd : decode cc pc = .ok (.lor, 1)) (hp : pc + 1 = pc')  (kk : jJ z d w A nL Q res σ o pc' lv (.long (x ||| y) :: st)) : jJ z d w A nL Q res σ o pc lv (.long y :: .long x :: st) := by
  intro ho H locs ls hP hD hS hl
  exact lv_lor hC.1 hC.2.1 hd (hp ▸ kk ho H locs ls hP hD hS hl)
theorem j_idiv (hC : jC z d A l Rm nL cc own rt Ts) {x y : Int32} (hd : decode cc pc = .ok (.idiv, 1)) (hp : pc + 1 = pc') (kk : jJ z d w A nL Q res σ o pc' lv (.int (x / y) :: st)) : jJ z d w A nL Q res σ (od y o) pc lv (.int y :: .int x :: st) := by
  intro ho H locs ls hP hD hS hl
  unfold od at ho
  by_cases hy : y = 0
  · rw [if_pos hy] at ho; cases ho
  · rw [if_neg hy] at ho
    exact lv_idiv hC.1 hC.2.1 hd hy (hp ▸ kk ho H locs ls hP hD hS hl)
  
theorem j_idiv0 (hC : jC z d A l Rm nL cc own rt Ts) {x y : Int32} (hd : decode cc pc = .ok (.idiv, 1)) (hy : ¬ y = 0) (hp : pc + 1 = pc') (kk : jJ z d w A nL Q res σ o pc' lv (.int (x / y) :: st)) : jJ z d w A nL Q res σ o pc lv (.int y :: .int x :: st) := by
  intro ho H locs ls hP hD hS hl
  exact lv_idiv hC.1 hC.2.1 hd hy (hp ▸ kk ho H locs ls hP hD hS hl)
theorem j_irem (hC : jC z d A l Rm nL cc own rt Ts) {x y : Int32} (hd : decode cc pc = .ok (.irem, 1)) (hp : pc + 1 = pc') (kk : jJ z d w A nL Q res σ o pc' lv (.int (x - x / y * y) :: st)) : jJ z d w A nL Q res σ (od y o) pc lv (.int y :: .int x :: st) := by
  intro ho H locs ls hP hD hS hl
  unfold od at ho
  by_cases hy : y = 0
  · rw [if_pos hy] at ho; cases ho
  · rw [if_neg hy] at ho
    exact lv_irem hC.1 hC.2.1 hd hy (hp ▸ kk ho H locs ls hP hD hS hl)
  
theorem j_irem0 (hC : jC z d A l Rm nL cc own rt Ts) {x y : Int32} (hd : decode cc pc = .ok (.irem, 1)) (hy : ¬ y = 0) (hp : pc + 1 = pc') (kk : jJ z d w A nL Q res σ o pc' lv (.int (x - x / y * y) :: st)) : jJ z d w A nL Q res σ o pc lv (.int y :: .int x :: st) := by
  intro ho H locs ls hP hD hS hl
  exact lv_irem hC.1 hC.2.1 hd hy (hp ▸ kk ho H locs ls hP hD hS hl)
theorem j_ineg (hC : jC z d A l Rm nL cc own rt Ts) {x : Int32} (hd : decode cc pc = .ok (.ineg, 1)) (hp : pc + 1 = pc')  (kk : jJ z d w A nL Q res σ o pc' lv (.int (-x) :: st)) : jJ z d w A nL Q res σ o pc lv (.int x :: st) := by
  intro ho H locs ls hP hD hS hl
  exact lv_ineg hC.1 hC.2.1 hd (hp ▸ kk ho H locs ls hP hD hS hl)
theorem j_i2l (hC : jC z d A l Rm nL cc own rt Ts) {x : Int32} (hd : decode cc pc = .ok (.i2l, 1)) (hp : pc + 1 = pc')  (kk : jJ z d w A nL Q res σ o pc' lv (.long (x.toInt64) :: st)) : jJ z d w A nL Q res σ o pc lv (.int x :: st) := by
  intro ho H locs ls hP hD hS hl
  exact lv_i2l hC.1 hC.2.1 hd rfl (hp ▸ kk ho H locs ls hP hD hS hl)
theorem j_l2i (hC : jC z d A l Rm nL cc own rt Ts) {x : Int64} (hd : decode cc pc = .ok (.l2i, 1)) (hp : pc + 1 = pc')  (kk : jJ z d w A nL Q res σ o pc' lv (.int (x.toInt32) :: st)) : jJ z d w A nL Q res σ o pc lv (.long x :: st) := by
  intro ho H locs ls hP hD hS hl
  exact lv_l2i hC.1 hC.2.1 hd rfl (hp ▸ kk ho H locs ls hP hD hS hl)
theorem j_i2b (hC : jC z d A l Rm nL cc own rt Ts) {x : Int32} (hd : decode cc pc = .ok (.i2b, 1)) (hp : pc + 1 = pc')  (kk : jJ z d w A nL Q res σ o pc' lv (.int (x.toInt8.toInt32) :: st)) : jJ z d w A nL Q res σ o pc lv (.int x :: st) := by
  intro ho H locs ls hP hD hS hl
  exact lv_i2b hC.1 hC.2.1 hd rfl (hp ▸ kk ho H locs ls hP hD hS hl)
theorem j_i2s (hC : jC z d A l Rm nL cc own rt Ts) {x : Int32} (hd : decode cc pc = .ok (.i2s, 1)) (hp : pc + 1 = pc')  (kk : jJ z d w A nL Q res σ o pc' lv (.int (x.toInt16.toInt32) :: st)) : jJ z d w A nL Q res σ o pc lv (.int x :: st) := by
  intro ho H locs ls hP hD hS hl
  exact lv_i2s hC.1 hC.2.1 hd rfl (hp ▸ kk ho H locs ls hP hD hS hl)
theorem j_i2c (hC : jC z d A l Rm nL cc own rt Ts) {x : Int32} (hd : decode cc pc = .ok (.i2c, 1)) (hp : pc + 1 = pc')  (kk : jJ z d w A nL Q res σ o pc' lv (.int ((x.toUInt32 % 65536).toInt32) :: st)) : jJ z d w A nL Q res σ o pc lv (.int x :: st) := by
  intro ho H locs ls hP hD hS hl
  exact lv_i2c hC.1 hC.2.1 hd rfl (hp ▸ kk ho H locs ls hP hD hS hl)
theorem j_iushr (hC : jC z d A l Rm nL cc own rt Ts) {x y : Int32} (hd : decode cc pc = .ok (.iushr, 1)) (hp : pc + 1 = pc')  (kk : jJ z d w A nL Q res σ o pc' lv (.int ((x.toUInt32 >>> (y.toUInt32 &&& Int32.toUInt32 31)).toInt32) :: st)) : jJ z d w A nL Q res σ o pc lv (.int y :: .int x :: st) := by
  intro ho H locs ls hP hD hS hl
  exact lv_iushr hC.1 hC.2.1 hd rfl (hp ▸ kk ho H locs ls hP hD hS hl)
theorem j_lshl (hC : jC z d A l Rm nL cc own rt Ts) {x : Int64} {y : Int32} (hd : decode cc pc = .ok (.lshl, 1)) (hp : pc + 1 = pc')  (kk : jJ z d w A nL Q res σ o pc' lv (.long (x <<< (y.toInt64 &&& 63)) :: st)) : jJ z d w A nL Q res σ o pc lv (.int y :: .long x :: st) := by
  intro ho H locs ls hP hD hS hl
  exact lv_lshl hC.1 hC.2.1 hd rfl (hp ▸ kk ho H locs ls hP hD hS hl)
theorem j_lcmp (hC : jC z d A l Rm nL cc own rt Ts) {x y : Int64} (hd : decode cc pc = .ok (.lcmp, 1)) (hp : pc + 1 = pc')  (kk : jJ z d w A nL Q res σ o pc' lv (.int (lg_cmp x y) :: st)) : jJ z d w A nL Q res σ o pc lv (.long y :: .long x :: st) := by
  intro ho H locs ls hP hD hS hl
  exact W.lcmp hC.1 hC.2.1 hd (hp ▸ kk ho H locs ls hP hD hS hl)
theorem j_dup (hC : jC z d A l Rm nL cc own rt Ts) {va : Value} (hva : va.category = 1) (hd : decode cc pc = .ok (.dup, 1)) (hp : pc + 1 = pc')  (kk : jJ z d w A nL Q res σ o pc' lv (va :: va :: st)) : jJ z d w A nL Q res σ o pc lv (va :: st) := by
  intro ho H locs ls hP hD hS hl
  exact lv_dup hC.1 hC.2.1 hd hva (hp ▸ kk ho H locs ls hP hD hS hl)
theorem j_pop (hC : jC z d A l Rm nL cc own rt Ts) {va : Value} (hva : va.category = 1) (hd : decode cc pc = .ok (.pop, 1)) (hp : pc + 1 = pc')  (kk : jJ z d w A nL Q res σ o pc' lv (st)) : jJ z d w A nL Q res σ o pc lv (va :: st) := by
  intro ho H locs ls hP hD hS hl
  exact lv_pop hC.1 hC.2.1 hd hva (hp ▸ kk ho H locs ls hP hD hS hl)
theorem j_dup2 (hC : jC z d A l Rm nL cc own rt Ts) {va vb : Value} (hva : va.category = 1) (hvb : vb.category = 1) (hd : decode cc pc = .ok (.dup2, 1)) (hp : pc + 1 = pc')  (kk : jJ z d w A nL Q res σ o pc' lv (va :: vb :: va :: vb :: st)) : jJ z d w A nL Q res σ o pc lv (va :: vb :: st) := by
  intro ho H locs ls hP hD hS hl
  exact lv_dup2_11 hC.1 hC.2.1 hd hva hvb (hp ▸ kk ho H locs ls hP hD hS hl)
theorem j_null (hC : jC z d A l Rm nL cc own rt Ts) (hd : decode cc pc = .ok (.aconst_null, 1)) (hp : pc + 1 = pc')  (kk : jJ z d w A nL Q res σ o pc' lv (.null :: st)) : jJ z d w A nL Q res σ o pc lv (st) := by
  intro ho H locs ls hP hD hS hl
  exact lv_null hC.1 hC.2.1 hd (hp ▸ kk ho H locs ls hP hD hS hl)
theorem j_goto (hC : jC z d A l Rm nL cc own rt Ts) {off : Int} (hd : decode cc pc = .ok (.goto off, 3)) (ht : (pc : Int) + off = (tgt : Int))  (kk : jJ z d w A nL Q res σ o tgt lv st) : jJ z d w A nL Q res σ o pc lv st := by
  intro ho H locs ls hP hD hS hl
  exact lv_goto hC.1 hC.2.1 hd ht (kk ho H locs ls hP hD hS hl)
theorem j_ifnullN (hC : jC z d A l Rm nL cc own rt Ts) {off : Int} (hd : decode cc pc = .ok (.ifnull off, 3)) (ht : (pc : Int) + off = (tgt : Int))  (kk : jJ z d w A nL Q res σ o tgt lv st) : jJ z d w A nL Q res σ o pc lv (.null :: st) := by
  intro ho H locs ls hP hD hS hl
  exact lv_ifnullN hC.1 hC.2.1 hd ht (kk ho H locs ls hP hD hS hl)
theorem j_ifnull (hC : jC z d A l Rm nL cc own rt Ts) {x : Nat} {off : Int} (hd : decode cc pc = .ok (.ifnull off, 3)) (hp : pc + 3 = pc')  (kk : jJ z d w A nL Q res σ o pc' lv st) : jJ z d w A nL Q res σ o pc lv (.ref x :: st) := by
  intro ho H locs ls hP hD hS hl
  exact lv_ifnull hC.1 hC.2.1 hd (hp ▸ kk ho H locs ls hP hD hS hl)
theorem j_if_eq (hC : jC z d A l Rm nL cc own rt Ts) {x : Int32} {off : Int} (hd : decode cc pc = .ok (.ifCond .eq off, 3)) (ht : (pc : Int) + off = (tgt : Int)) (hp : pc + 3 = pc')  (kt : jJ z d w A nL Q res σ X tgt lv st) (kf : jJ z d w A nL Q res σ Y pc' lv st) : jJ z d w A nL Q res σ (if x = 0 then X else Y) pc lv (.int x :: st) := by
  intro ho H locs ls hP hD hS hl
  by_cases hc : x = 0
  · rw [if_pos hc] at ho
    exact lv_if_eq hC.1 hC.2.1 hd ht (fun _ => kt ho H locs ls hP hD hS hl) (fun h => absurd hc h)
  · rw [if_neg hc] at ho
    exact lv_if_eq hC.1 hC.2.1 hd ht (fun h => absurd h hc) (fun _ => hp ▸ kf ho H locs ls hP hD hS hl)
theorem j_icmp_eq (hC : jC z d A l Rm nL cc own rt Ts) {x y : Int32} {off : Int} (hd : decode cc pc = .ok (.if_icmp .eq off, 3)) (ht : (pc : Int) + off = (tgt : Int)) (hp : pc + 3 = pc')  (kt : jJ z d w A nL Q res σ X tgt lv st) (kf : jJ z d w A nL Q res σ Y pc' lv st) : jJ z d w A nL Q res σ (if x = y then X else Y) pc lv (.int y :: .int x :: st) := by
  intro ho H locs ls hP hD hS hl
  by_cases hc : x = y
  · rw [if_pos hc] at ho
    exact lv_icmp_eq hC.1 hC.2.1 hd ht (fun _ => kt ho H locs ls hP hD hS hl) (fun h => absurd hc h)
  · rw [if_neg hc] at ho
    exact lv_icmp_eq hC.1 hC.2.1 hd ht (fun h => absurd h hc) (fun _ => hp ▸ kf ho H locs ls hP hD hS hl)
theorem j_if_ne (hC : jC z d A l Rm nL cc own rt Ts) {x : Int32} {off : Int} (hd : decode cc pc = .ok (.ifCond .ne off, 3)) (ht : (pc : Int) + off = (tgt : Int)) (hp : pc + 3 = pc')  (kt : jJ z d w A nL Q res σ X tgt lv st) (kf : jJ z d w A nL Q res σ Y pc' lv st) : jJ z d w A nL Q res σ (if x = 0 then Y else X) pc lv (.int x :: st) := by
  intro ho H locs ls hP hD hS hl
  by_cases hc : x = 0
  · rw [if_pos hc] at ho
    exact lv_if_ne hC.1 hC.2.1 hd ht (fun h => absurd hc h) (fun _ => hp ▸ kf ho H locs ls hP hD hS hl)
  · rw [if_neg hc] at ho
    exact lv_if_ne hC.1 hC.2.1 hd ht (fun _ => kt ho H locs ls hP hD hS hl) (fun h => absurd h hc)
theorem j_icmp_ne (hC : jC z d A l Rm nL cc own rt Ts) {x y : Int32} {off : Int} (hd : decode cc pc = .ok (.if_icmp .ne off, 3)) (ht : (pc : Int) + off = (tgt : Int)) (hp : pc + 3 = pc')  (kt : jJ z d w A nL Q res σ X tgt lv st) (kf : jJ z d w A nL Q res σ Y pc' lv st) : jJ z d w A nL Q res σ (if x = y then Y else X) pc lv (.int y :: .int x :: st) := by
  intro ho H locs ls hP hD hS hl
  by_cases hc : x = y
  · rw [if_pos hc] at ho
    exact lv_icmp_ne hC.1 hC.2.1 hd ht (fun h => absurd hc h) (fun _ => hp ▸ kf ho H locs ls hP hD hS hl)
  · rw [if_neg hc] at ho
    exact lv_icmp_ne hC.1 hC.2.1 hd ht (fun _ => kt ho H locs ls hP hD hS hl) (fun h => absurd h hc)
theorem j_if_lt (hC : jC z d A l Rm nL cc own rt Ts) {x : Int32} {off : Int} (hd : decode cc pc = .ok (.ifCond .lt off, 3)) (ht : (pc : Int) + off = (tgt : Int)) (hp : pc + 3 = pc')  (kt : jJ z d w A nL Q res σ X tgt lv st) (kf : jJ z d w A nL Q res σ Y pc' lv st) : jJ z d w A nL Q res σ (if x < 0 then X else Y) pc lv (.int x :: st) := by
  intro ho H locs ls hP hD hS hl
  by_cases hc : x < 0
  · rw [if_pos hc] at ho
    exact lv_if_lt hC.1 hC.2.1 hd ht (fun _ => kt ho H locs ls hP hD hS hl) (fun h => absurd hc h)
  · rw [if_neg hc] at ho
    exact lv_if_lt hC.1 hC.2.1 hd ht (fun h => absurd h hc) (fun _ => hp ▸ kf ho H locs ls hP hD hS hl)
theorem j_icmp_lt (hC : jC z d A l Rm nL cc own rt Ts) {x y : Int32} {off : Int} (hd : decode cc pc = .ok (.if_icmp .lt off, 3)) (ht : (pc : Int) + off = (tgt : Int)) (hp : pc + 3 = pc')  (kt : jJ z d w A nL Q res σ X tgt lv st) (kf : jJ z d w A nL Q res σ Y pc' lv st) : jJ z d w A nL Q res σ (if x < y then X else Y) pc lv (.int y :: .int x :: st) := by
  intro ho H locs ls hP hD hS hl
  by_cases hc : x < y
  · rw [if_pos hc] at ho
    exact lv_icmp_lt hC.1 hC.2.1 hd ht (fun _ => kt ho H locs ls hP hD hS hl) (fun h => absurd hc h)
  · rw [if_neg hc] at ho
    exact lv_icmp_lt hC.1 hC.2.1 hd ht (fun h => absurd h hc) (fun _ => hp ▸ kf ho H locs ls hP hD hS hl)
theorem j_if_ge (hC : jC z d A l Rm nL cc own rt Ts) {x : Int32} {off : Int} (hd : decode cc pc = .ok (.ifCond .ge off, 3)) (ht : (pc : Int) + off = (tgt : Int)) (hp : pc + 3 = pc')  (kt : jJ z d w A nL Q res σ X tgt lv st) (kf : jJ z d w A nL Q res σ Y pc' lv st) : jJ z d w A nL Q res σ (if 0 ≤ x then X else Y) pc lv (.int x :: st) := by
  intro ho H locs ls hP hD hS hl
  by_cases hc : 0 ≤ x
  · rw [if_pos hc] at ho
    exact lv_if_ge hC.1 hC.2.1 hd ht (fun _ => kt ho H locs ls hP hD hS hl) (fun h => absurd hc h)
  · rw [if_neg hc] at ho
    exact lv_if_ge hC.1 hC.2.1 hd ht (fun h => absurd h hc) (fun _ => hp ▸ kf ho H locs ls hP hD hS hl)
theorem j_icmp_ge (hC : jC z d A l Rm nL cc own rt Ts) {x y : Int32} {off : Int} (hd : decode cc pc = .ok (.if_icmp .ge off, 3)) (ht : (pc : Int) + off = (tgt : Int)) (hp : pc + 3 = pc')  (kt : jJ z d w A nL Q res σ X tgt lv st) (kf : jJ z d w A nL Q res σ Y pc' lv st) : jJ z d w A nL Q res σ (if y ≤ x then X else Y) pc lv (.int y :: .int x :: st) := by
  intro ho H locs ls hP hD hS hl
  by_cases hc : y ≤ x
  · rw [if_pos hc] at ho
    exact lv_icmp_ge hC.1 hC.2.1 hd ht (fun _ => kt ho H locs ls hP hD hS hl) (fun h => absurd hc h)
  · rw [if_neg hc] at ho
    exact lv_icmp_ge hC.1 hC.2.1 hd ht (fun h => absurd h hc) (fun _ => hp ▸ kf ho H locs ls hP hD hS hl)
theorem j_if_gt (hC : jC z d A l Rm nL cc own rt Ts) {x : Int32} {off : Int} (hd : decode cc pc = .ok (.ifCond .gt off, 3)) (ht : (pc : Int) + off = (tgt : Int)) (hp : pc + 3 = pc')  (kt : jJ z d w A nL Q res σ X tgt lv st) (kf : jJ z d w A nL Q res σ Y pc' lv st) : jJ z d w A nL Q res σ (if 0 < x then X else Y) pc lv (.int x :: st) := by
  intro ho H locs ls hP hD hS hl
  by_cases hc : 0 < x
  · rw [if_pos hc] at ho
    exact lv_if_gt hC.1 hC.2.1 hd ht (fun _ => kt ho H locs ls hP hD hS hl) (fun h => absurd hc h)
  · rw [if_neg hc] at ho
    exact lv_if_gt hC.1 hC.2.1 hd ht (fun h => absurd h hc) (fun _ => hp ▸ kf ho H locs ls hP hD hS hl)
theorem j_icmp_gt (hC : jC z d A l Rm nL cc own rt Ts) {x y : Int32} {off : Int} (hd : decode cc pc = .ok (.if_icmp .gt off, 3)) (ht : (pc : Int) + off = (tgt : Int)) (hp : pc + 3 = pc')  (kt : jJ z d w A nL Q res σ X tgt lv st) (kf : jJ z d w A nL Q res σ Y pc' lv st) : jJ z d w A nL Q res σ (if y < x then X else Y) pc lv (.int y :: .int x :: st) := by
  intro ho H locs ls hP hD hS hl
  by_cases hc : y < x
  · rw [if_pos hc] at ho
    exact lv_icmp_gt hC.1 hC.2.1 hd ht (fun _ => kt ho H locs ls hP hD hS hl) (fun h => absurd hc h)
  · rw [if_neg hc] at ho
    exact lv_icmp_gt hC.1 hC.2.1 hd ht (fun h => absurd h hc) (fun _ => hp ▸ kf ho H locs ls hP hD hS hl)
theorem j_if_le (hC : jC z d A l Rm nL cc own rt Ts) {x : Int32} {off : Int} (hd : decode cc pc = .ok (.ifCond .le off, 3)) (ht : (pc : Int) + off = (tgt : Int)) (hp : pc + 3 = pc')  (kt : jJ z d w A nL Q res σ X tgt lv st) (kf : jJ z d w A nL Q res σ Y pc' lv st) : jJ z d w A nL Q res σ (if x ≤ 0 then X else Y) pc lv (.int x :: st) := by
  intro ho H locs ls hP hD hS hl
  by_cases hc : x ≤ 0
  · rw [if_pos hc] at ho
    exact lv_if_le hC.1 hC.2.1 hd ht (fun _ => kt ho H locs ls hP hD hS hl) (fun h => absurd hc h)
  · rw [if_neg hc] at ho
    exact lv_if_le hC.1 hC.2.1 hd ht (fun h => absurd h hc) (fun _ => hp ▸ kf ho H locs ls hP hD hS hl)
theorem j_icmp_le (hC : jC z d A l Rm nL cc own rt Ts) {x y : Int32} {off : Int} (hd : decode cc pc = .ok (.if_icmp .le off, 3)) (ht : (pc : Int) + off = (tgt : Int)) (hp : pc + 3 = pc')  (kt : jJ z d w A nL Q res σ X tgt lv st) (kf : jJ z d w A nL Q res σ Y pc' lv st) : jJ z d w A nL Q res σ (if x ≤ y then X else Y) pc lv (.int y :: .int x :: st) := by
  intro ho H locs ls hP hD hS hl
  by_cases hc : x ≤ y
  · rw [if_pos hc] at ho
    exact lv_icmp_le hC.1 hC.2.1 hd ht (fun _ => kt ho H locs ls hP hD hS hl) (fun h => absurd hc h)
  · rw [if_neg hc] at ho
    exact lv_icmp_le hC.1 hC.2.1 hd ht (fun h => absurd h hc) (fun _ => hp ▸ kf ho H locs ls hP hD hS hl)
theorem j_tableOut (hC : jC z d A l Rm nL cc own rt Ts) {dflt lo hi : Int} {offs : Array Int} {len : Nat} {x : Int32} (hd : decode cc pc = .ok (.tableswitch dflt lo hi offs, len)) (h : x.toInt < lo ∨ hi < x.toInt) (ht : (pc : Int) + dflt = (tgt : Int))  (kk : jJ z d w A nL Q res σ o tgt lv st) : jJ z d w A nL Q res σ o pc lv (.int x :: st) := by
  intro ho H locs ls hP hD hS hl
  exact lv_tableOut hC.1 hC.2.1 hd h ht (kk ho H locs ls hP hD hS hl)
theorem j_tableIn (hC : jC z d A l Rm nL cc own rt Ts) {dflt lo hi : Int} {offs : Array Int} {len : Nat} {x : Int32} {off : Int} (hd : decode cc pc = .ok (.tableswitch dflt lo hi offs, len)) (h1 : ¬ x.toInt < lo) (h2 : ¬ hi < x.toInt) (h3 : offs[(x.toInt - lo).toNat]? = some off) (ht : (pc : Int) + off = (tgt : Int))  (kk : jJ z d w A nL Q res σ o tgt lv st) : jJ z d w A nL Q res σ o pc lv (.int x :: st) := by
  intro ho H locs ls hP hD hS hl
  exact lv_tableIn hC.1 hC.2.1 hd h1 h2 h3 ht (kk ho H locs ls hP hD hS hl)
theorem j_tableDef (hC : jC z d A l Rm nL cc own rt Ts) {dflt lo hi : Int} {offs : Array Int} {len : Nat} {x : Int32} (hd : decode cc pc = .ok (.tableswitch dflt lo hi offs, len)) (n : Nat) (live : List Nat) (hn : hi - lo < (n : Int)) (hall : ∀ j, j < n → j ∉ live → offs[j]? = some dflt) (hlive : ¬ x.toInt < lo → ¬ hi < x.toInt → (x.toInt - lo).toNat ∉ live) (ht : (pc : Int) + dflt = (tgt : Int))  (kk : jJ z d w A nL Q res σ o tgt lv st) : jJ z d w A nL Q res σ o pc lv (.int x :: st) := by
  intro ho H locs ls hP hD hS hl
  by_cases h1 : x.toInt < lo
  · exact lv_tableOut hC.1 hC.2.1 hd (Or.inl h1) ht (kk ho H locs ls hP hD hS hl)
  · by_cases h2 : hi < x.toInt
    · exact lv_tableOut hC.1 hC.2.1 hd (Or.inr h2) ht (kk ho H locs ls hP hD hS hl)
    · exact lv_tableIn hC.1 hC.2.1 hd h1 h2 (hall _ (by omega) (hlive h1 h2)) ht (kk ho H locs ls hP hD hS hl)
theorem j_lookup (hC : jC z d A l Rm nL cc own rt Ts) {dflt : Int} {ps : Array (Int × Int)} {len : Nat} {x : Int32} {off : Int} (hd : decode cc pc = .ok (.lookupswitch dflt ps, len)) (h1 : (ps.toList.zip (ps.toList.drop 1)).all (fun (a, next) => a.1 < next.1) = true) (h2 : Op.lookupswitch.offset ps.toList dflt x.toInt = off) (ht : (pc : Int) + off = (tgt : Int))  (kk : jJ z d w A nL Q res σ o tgt lv st) : jJ z d w A nL Q res σ o pc lv (.int x :: st) := by
  intro ho H locs ls hP hD hS hl
  exact lv_lookup hC.1 hC.2.1 hd h1 h2 ht (kk ho H locs ls hP hD hS hl)
theorem j_get (hC : jC z d A l Rm nL cc own rt Ts) {C : String} {T : u_T} {N ci index a : Nat} {fs : List Value} {v : Value} {q0 : Nat} (hin : ∀ w ∈ u_ws C T N, w ∈ Ts) (he : (w d σ)[q0]? = some (a, .inr (ci, fs))) (hc : vwCl[ci]? = some (C, T, N)) (k : Nat) (hk : k < N) (hlink : Cond.fieldLink own index (T k).1 (T k).2.1 (T k).2.2.1 ∈ Ts) (hv : fs[k]? = some v) (hd : decode cc pc = .ok (.getfield index, 3)) (hp : pc + 3 = pc')  (kk : jJ z d w A nL Q res σ o pc' lv (v :: st)) : jJ z d w A nL Q res σ o pc lv (.ref a :: st) := by
  intro ho H locs ls hP hD hS hl
  exact va_get hC.1 hC.2.1 hC.2.2.2.2.1 hin hC.2.2.2.1 hC.2.2.2.2.2.1 hP q0 he hc k hk (hC.2.2.2.2.1 _ hlink) (fun _ h9 => h9) hv hd (hp ▸ kk ho H locs ls hP hD hS hl)
theorem j_put (hC : jC z d A l Rm nL cc own rt Ts) {C : String} {T : u_T} {N ci index a : Nat} {fs : List Value} {v : Value} {q0 : Nat} {σ1 : jS} {ty : FieldType} (hin : ∀ w ∈ u_ws C T N, w ∈ Ts) (ty0 : Nat → FieldType) (hty : ∀ k, k < N → parseFieldDescriptor (T k).2.2.1 = some (ty0 k)) (hnm : ∀ a, a < N → ∀ b, b < N → a ≠ b → (T a).2.1 ≠ (T b).2.1) (he : (w d σ)[q0]? = some (a, .inr (ci, fs))) (hc : vwCl[ci]? = some (C, T, N)) (k : Nat) (hk : k < N) (hlink : Cond.fieldLink own index (T k).1 (T k).2.1 (T k).2.2.1 ∈ Ts) (hfin : (T k).2.2.2 = false) (ht : ty0 k = ty) (hn : narrow ty v = v) (hfit : fits ty v = true) (hl0 : k < fs.length) (hset : (w d σ).set q0 (a, .inr (ci, fs.set k v)) = w d σ1) (hd : decode cc pc = .ok (.putfield index, 3)) (hp : pc + 3 = pc')  (kk : jJ z d w A nL Q res σ1 o pc' lv st) : jJ z d w A nL Q res σ o pc lv (v :: .ref a :: st) := by
  intro ho H locs ls hP hD hS hl
  exact va_put hC.1 hC.2.1 hC.2.2.2.2.1 hin ty0 hty hnm hC.2.2.2.1 hC.2.2.2.2.2.1 hP hD hS q0 he hc k hk (hC.2.2.2.2.1 _ hlink) (fun _ h9 => h9) hfin (ht ▸ hty k hk) hn hfit hl0 hd (fun H1 locs1 hP1 hD1 hS1 => hp ▸ kk ho H1 locs1 ls (hset ▸ hP1) (hset ▸ hD1) hS1 hl)
theorem j_iald (hC : jC z d A l Rm nL cc own rt Ts) {a c n q0 : Nat} {i : Int32} (he : (w d σ)[q0]? = some (a, .inl (d.2.2.1 0, n, .inl (σ.1 c)))) (hd : decode cc pc = .ok (.iaload, 1)) (hp : pc + 1 = pc')  (kk : jJ z d w A nL Q res σ o pc' lv (.int (σ.1 c i.toNatClampNeg) :: st)) : jJ z d w A nL Q res σ (ob i n o) pc lv (.int i :: .ref a :: st) := by
  intro ho H locs ls hP hD hS hl
  unfold ob at ho
  by_cases hi : i < 0 ∨ n ≤ i.toNatClampNeg
  · rw [if_pos hi] at ho; cases ho
  · rw [if_neg hi] at ho
    exact va_iald hC.1 hC.2.1 hC.2.2.2.2.2.1 hP q0 0 he rfl hi hd (hp ▸ kk ho H locs ls hP hD hS hl)
theorem j_iast (hC : jC z d A l Rm nL cc own rt Ts) {a c n q0 : Nat} {i : Int32} {x : Int32} (he : (w d σ)[q0]? = some (a, .inl (d.2.2.1 0, n, .inl (σ.1 c)))) (hset : (w d σ).set q0 (a, .inl (d.2.2.1 0, n, .inl (upd (σ.1 c) i.toNatClampNeg x))) = w d (ju σ c i.toNatClampNeg x)) (hd : decode cc pc = .ok (.iastore, 1)) (hp : pc + 1 = pc')  (kk : jJ z d w A nL Q res (ju σ c i.toNatClampNeg x) o pc' lv st) : jJ z d w A nL Q res σ (ob i n o) pc lv (.int x :: .int i :: .ref a :: st) := by
  intro ho H locs ls hP hD hS hl
  unfold ob at ho
  by_cases hi : i < 0 ∨ n ≤ i.toNatClampNeg
  · rw [if_pos hi] at ho; cases ho
  · rw [if_neg hi] at ho
    exact va_iast hC.1 hC.2.1 hC.2.2.2.2.2.1 hP hD hS q0 0 he rfl hi hd (fun H1 locs1 hP1 hD1 hS1 => hp ▸ kk ho H1 locs1 ls (hset ▸ hP1) (hset ▸ hD1) hS1 hl)
theorem j_bald (hC : jC z d A l Rm nL cc own rt Ts) {a c n q0 : Nat} {i : Int32} (he : (w d σ)[q0]? = some (a, .inl (d.2.2.1 1, n, .inl (σ.1 c)))) (hd : decode cc pc = .ok (.baload, 1)) (hp : pc + 1 = pc')  (kk : jJ z d w A nL Q res σ o pc' lv (.int (σ.1 c i.toNatClampNeg) :: st)) : jJ z d w A nL Q res σ (ob i n o) pc lv (.int i :: .ref a :: st) := by
  intro ho H locs ls hP hD hS hl
  unfold ob at ho
  by_cases hi : i < 0 ∨ n ≤ i.toNatClampNeg
  · rw [if_pos hi] at ho; cases ho
  · rw [if_neg hi] at ho
    exact va_bald hC.1 hC.2.1 hC.2.2.2.2.2.1 hP q0 1 he rfl hi hd (hp ▸ kk ho H locs ls hP hD hS hl)
theorem j_bast (hC : jC z d A l Rm nL cc own rt Ts) {a c n q0 : Nat} {i : Int32} {x : Int32} (he : (w d σ)[q0]? = some (a, .inl (d.2.2.1 1, n, .inl (σ.1 c)))) (hset : (w d σ).set q0 (a, .inl (d.2.2.1 1, n, .inl (upd (σ.1 c) i.toNatClampNeg (vp_nar .byte x)))) = w d (ju σ c i.toNatClampNeg (vp_nar .byte x))) (hd : decode cc pc = .ok (.bastore, 1)) (hp : pc + 1 = pc')  (kk : jJ z d w A nL Q res (ju σ c i.toNatClampNeg (vp_nar .byte x)) o pc' lv st) : jJ z d w A nL Q res σ (ob i n o) pc lv (.int x :: .int i :: .ref a :: st) := by
  intro ho H locs ls hP hD hS hl
  unfold ob at ho
  by_cases hi : i < 0 ∨ n ≤ i.toNatClampNeg
  · rw [if_pos hi] at ho; cases ho
  · rw [if_neg hi] at ho
    exact va_bast hC.1 hC.2.1 hC.2.2.2.2.2.1 hP hD hS q0 1 he rfl hi hd (fun H1 locs1 hP1 hD1 hS1 => hp ▸ kk ho H1 locs1 ls (hset ▸ hP1) (hset ▸ hD1) hS1 hl)
theorem j_sald (hC : jC z d A l Rm nL cc own rt Ts) {a c n q0 : Nat} {i : Int32} (he : (w d σ)[q0]? = some (a, .inl (d.2.2.1 2, n, .inl (σ.1 c)))) (hd : decode cc pc = .ok (.saload, 1)) (hp : pc + 1 = pc')  (kk : jJ z d w A nL Q res σ o pc' lv (.int (σ.1 c i.toNatClampNeg) :: st)) : jJ z d w A nL Q res σ (ob i n o) pc lv (.int i :: .ref a :: st) := by
  intro ho H locs ls hP hD hS hl
  unfold ob at ho
  by_cases hi : i < 0 ∨ n ≤ i.toNatClampNeg
  · rw [if_pos hi] at ho; cases ho
  · rw [if_neg hi] at ho
    exact va_sald hC.1 hC.2.1 hC.2.2.2.2.2.1 hP q0 2 he rfl hi hd (hp ▸ kk ho H locs ls hP hD hS hl)
theorem j_sast (hC : jC z d A l Rm nL cc own rt Ts) {a c n q0 : Nat} {i : Int32} {x : Int32} (he : (w d σ)[q0]? = some (a, .inl (d.2.2.1 2, n, .inl (σ.1 c)))) (hset : (w d σ).set q0 (a, .inl (d.2.2.1 2, n, .inl (upd (σ.1 c) i.toNatClampNeg (vp_nar .short x)))) = w d (ju σ c i.toNatClampNeg (vp_nar .short x))) (hd : decode cc pc = .ok (.sastore, 1)) (hp : pc + 1 = pc')  (kk : jJ z d w A nL Q res (ju σ c i.toNatClampNeg (vp_nar .short x)) o pc' lv st) : jJ z d w A nL Q res σ (ob i n o) pc lv (.int x :: .int i :: .ref a :: st) := by
  intro ho H locs ls hP hD hS hl
  unfold ob at ho
  by_cases hi : i < 0 ∨ n ≤ i.toNatClampNeg
  · rw [if_pos hi] at ho; cases ho
  · rw [if_neg hi] at ho
    exact va_sast hC.1 hC.2.1 hC.2.2.2.2.2.1 hP hD hS q0 2 he rfl hi hd (fun H1 locs1 hP1 hD1 hS1 => hp ▸ kk ho H1 locs1 ls (hset ▸ hP1) (hset ▸ hD1) hS1 hl)
theorem j_lald (hC : jC z d A l Rm nL cc own rt Ts) {a c n q0 : Nat} {i : Int32} (he : (w d σ)[q0]? = some (a, .inl (d.2.2.1 3, n, .inr (.inl (σ.2 c))))) (hd : decode cc pc = .ok (.laload, 1)) (hp : pc + 1 = pc')  (kk : jJ z d w A nL Q res σ o pc' lv (.long (σ.2 c i.toNatClampNeg) :: st)) : jJ z d w A nL Q res σ (ob i n o) pc lv (.int i :: .ref a :: st) := by
  intro ho H locs ls hP hD hS hl
  unfold ob at ho
  by_cases hi : i < 0 ∨ n ≤ i.toNatClampNeg
  · rw [if_pos hi] at ho; cases ho
  · rw [if_neg hi] at ho
    exact va_lald hC.1 hC.2.1 hC.2.2.2.2.2.1 hP q0 3 he rfl hi hd (hp ▸ kk ho H locs ls hP hD hS hl)
theorem j_last (hC : jC z d A l Rm nL cc own rt Ts) {a c n q0 : Nat} {i : Int32} {x : Int64} (he : (w d σ)[q0]? = some (a, .inl (d.2.2.1 3, n, .inr (.inl (σ.2 c))))) (hset : (w d σ).set q0 (a, .inl (d.2.2.1 3, n, .inr (.inl (vp_updL (σ.2 c) i.toNatClampNeg x)))) = w d (jul σ c i.toNatClampNeg x)) (hd : decode cc pc = .ok (.lastore, 1)) (hp : pc + 1 = pc')  (kk : jJ z d w A nL Q res (jul σ c i.toNatClampNeg x) o pc' lv st) : jJ z d w A nL Q res σ (ob i n o) pc lv (.long x :: .int i :: .ref a :: st) := by
  intro ho H locs ls hP hD hS hl
  unfold ob at ho
  by_cases hi : i < 0 ∨ n ≤ i.toNatClampNeg
  · rw [if_pos hi] at ho; cases ho
  · rw [if_neg hi] at ho
    exact va_last hC.1 hC.2.1 hC.2.2.2.2.2.1 hP hD hS q0 3 he rfl hi hd (fun H1 locs1 hP1 hD1 hS1 => hp ▸ kk ho H1 locs1 ls (hset ▸ hP1) (hset ▸ hD1) hS1 hl)
theorem j_alen (hC : jC z d A l Rm nL cc own rt Ts) {a q0 t0 n : Nat} {cA : ClassId} {y : (Nat → Int32) ⊕ (Nat → Int64) ⊕ (Nat → UInt32) ⊕ (Nat → UInt64) ⊕ (Nat → Option Nat)} {ty : FieldType} {v : Int32} (he : (w d σ)[q0]? = some (a, .inl (cA, n, y))) (ht : (jT d)[t0]? = some (cA, ty)) (hv : Int32.ofNat n = v) (hd : decode cc pc = .ok (.arraylength, 1)) (hp : pc + 1 = pc')  (kk : jJ z d w A nL Q res σ o pc' lv (.int v :: st)) : jJ z d w A nL Q res σ o pc lv (.ref a :: st) := by
  intro ho H locs ls hP hD hS hl
  exact va_alen (x := (n, y)) hC.1 hC.2.1 hC.2.2.2.2.2.1 hP q0 t0 he ht hv hd (hp ▸ kk ho H locs ls hP hD hS hl)
theorem j_gets (hC : jC z d A l Rm nL cc own rt Ts) {C n : String} {t N index : Nat} {f : Nat → Int32} (hF : jSt C n t N f A z.2.2.2.2.1) (hlink : Cond.fieldLink own index C n "[I" ∈ Ts) (hd : decode cc pc = .ok (.getstatic index, 3)) (hp : pc + 3 = pc') (kk : jJ z d w A nL Q res σ o pc' lv (.ref t :: st)) : jJ z d w A nL Q res σ o pc lv st := by
  intro ho H locs ls hP hD hS hl
  exact va_gets hC.1 hC.2.1 hF.1 hS hC.2.2.2.1 (hC.2.2.2.2.1 _ hlink) (fun _ h9 => h9) hd (hp ▸ kk ho H locs ls hP hD hS hl)
theorem j_tald (hC : jC z d A l Rm nL cc own rt Ts) {C n : String} {t N : Nat} {f : Nat → Int32} {i : Int32} (hF : jSt C n t N f A z.2.2.2.2.1) (hd : decode cc pc = .ok (.iaload, 1)) (hp : pc + 1 = pc') (kk : jJ z d w A nL Q res σ o pc' lv (.int (f i.toNatClampNeg) :: st)) : jJ z d w A nL Q res σ (ob i N o) pc lv (.int i :: .ref t :: st) := by
  intro ho H locs ls hP hD hS hl
  unfold ob at ho
  by_cases hi : i < 0 ∨ N ≤ i.toNatClampNeg
  · rw [if_pos hi] at ho; cases ho
  · rw [if_neg hi] at ho
    exact va_ti hC.1 hC.2.1 hF.2 hS hi rfl hd (hp ▸ kk ho H locs ls hP hD hS hl)
/-- the lines' cells -/
def jLn (o : Nat) : Prop := o = 17 ∨ o = 22 ∨ o = 27
def jTn (o : Nat) : Prop := o = 14 ∨ o = 38 ∨ o = 40
def jDd (o : Nat) : Prop := o = 37 ∨ o = 39
def jaa {ρ : Type} (i : Int32) (K : Nat → Option ρ) : Option ρ := ob i 3 (K (17 + 5 * i.toNatClampNeg))
theorem j_aald (hC : jC z d A l Rm nL cc own rt Ts) {a q0 : Nat} {i : Int32} {K : Nat → Option ρ} (he : (w d σ)[q0]? = some (a, .inl (d.2.2.1 4, 3, .inr (.inr (.inr (.inr (fun k => some (d.2.1 (17 + 5 * k))))))))) (hd : decode cc pc = .ok (.aaload, 1)) (hp : pc + 1 = pc') (kk : ∀ o, jLn o → jJ z d w A nL Q res σ (K o) pc' lv (.ref (d.2.1 o) :: st)) : jJ z d w A nL Q res σ (jaa i K) pc lv (.int i :: .ref a :: st) := by
  intro ho H locs ls hP hD hS hl
  unfold jaa ob at ho
  by_cases hi : i < 0 ∨ 3 ≤ i.toNatClampNeg
  · rw [if_pos hi] at ho; cases ho
  · rw [if_neg hi] at ho
    have h3 : jLn (17 + 5 * i.toNatClampNeg) := by
      unfold jLn
      have : ¬ 3 ≤ i.toNatClampNeg := fun h => hi (Or.inr h)
      omega
    exact va_aldq hC.1 hC.2.1 hC.2.2.2.2.2.1 hP q0 4 he rfl hi hd (hp ▸ kk _ h3 ho H locs ls hP hD hS hl)
theorem j_mmin (hC : jC z d A l Rm nL cc own rt Ts) {index : Nat} {x y : Int32} (hlink : Cond.methodLink own index Lib.Math.min.name ∈ Ts) (hstat : Cond.static Lib.Math.min.name ∈ Ts) (hini : Cond.initialized "java/lang/Math" ∈ Ts) (hcode : Cond.code Lib.Math.min.name Lib.Math.min.code 2 (some .int) ∈ Ts) (hf : 1 ≤ Rm.frames) (ho1 : (st.map fun v => v.category).sum + 13 ≤ Rm.locals) (hd : decode cc pc = .ok (.invokestatic index, 3)) (hp : pc + 3 = pc')  (kk : jJ z d w A nL Q res σ o pc' lv (.int (if y < x then y else x) :: st)) : jJ z d w A nL Q res σ o pc lv (.int y :: .int x :: st) := by
  intro ho H locs ls hP hD hS hl
  exact va_mmin hC.1 hC.2.1 (hC.2.2.1.trans hl.1.symm) hC.2.2.2.1 (hC.2.2.2.2.1 _ hlink) (hC.2.2.2.2.1 _ hstat) (hC.2.2.2.2.1 _ hini) (hC.2.2.2.2.1 _ hcode) (hC.2.2.2.2.2.2.2.2.1 ▸ hf) (hC.2.2.2.2.2.2.2.2.1 ▸ ho1) (Nat.zero_le _) (Nat.zero_le _) hd (hp ▸ kk ho H locs ls hP hD hS hl)
theorem j_mmax (hC : jC z d A l Rm nL cc own rt Ts) {index : Nat} {x y : Int32} (hlink : Cond.methodLink own index Lib.Math.max.name ∈ Ts) (hstat : Cond.static Lib.Math.max.name ∈ Ts) (hini : Cond.initialized "java/lang/Math" ∈ Ts) (hcode : Cond.code Lib.Math.max.name Lib.Math.max.code 2 (some .int) ∈ Ts) (hf : 1 ≤ Rm.frames) (ho1 : (st.map fun v => v.category).sum + 13 ≤ Rm.locals) (hd : decode cc pc = .ok (.invokestatic index, 3)) (hp : pc + 3 = pc')  (kk : jJ z d w A nL Q res σ o pc' lv (.int (if x < y then y else x) :: st)) : jJ z d w A nL Q res σ o pc lv (.int y :: .int x :: st) := by
  intro ho H locs ls hP hD hS hl
  exact va_mmax hC.1 hC.2.1 (hC.2.2.1.trans hl.1.symm) hC.2.2.2.1 (hC.2.2.2.2.1 _ hlink) (hC.2.2.2.2.1 _ hstat) (hC.2.2.2.2.1 _ hini) (hC.2.2.2.2.1 _ hcode) (hC.2.2.2.2.2.2.2.2.1 ▸ hf) (hC.2.2.2.2.2.2.2.2.1 ▸ ho1) (Nat.zero_le _) (Nat.zero_le _) hd (hp ▸ kk ho H locs ls hP hD hS hl)
def ocp {ρ : Type} (sp dp n : Int32) (n0 n1 : Nat) (o : Option ρ) : Option ρ := if sp < 0 ∨ dp < 0 ∨ n < 0 ∨ ¬ sp.toNatClampNeg + n.toNatClampNeg ≤ n0 ∨ ¬ dp.toNatClampNeg + n.toNatClampNeg ≤ n1 then none else o
theorem ocp_ok {ρ : Type} {sp dp n : Int32} {n0 n1 : Nat} {o : Option ρ} {res : ρ} (h : ocp sp dp n n0 n1 o = some res) : ¬ sp < 0 ∧ ¬ dp < 0 ∧ ¬ n < 0 ∧ sp.toNatClampNeg + n.toNatClampNeg ≤ n0 ∧ dp.toNatClampNeg + n.toNatClampNeg ≤ n1 ∧ o = some res := by
  unfold ocp at h
  by_cases hc : sp < 0 ∨ dp < 0 ∨ n < 0 ∨ ¬ sp.toNatClampNeg + n.toNatClampNeg ≤ n0 ∨ ¬ dp.toNatClampNeg + n.toNatClampNeg ≤ n1
  · rw [if_pos hc] at h; cases h
  · rw [if_neg hc] at h
    refine ⟨fun q => hc (Or.inl q), fun q => hc (Or.inr (Or.inl q)), fun q => hc (Or.inr (Or.inr (Or.inl q))), ?_, ?_, h⟩
    · by_cases q : sp.toNatClampNeg + n.toNatClampNeg ≤ n0
      · exact q
      · exact absurd (Or.inr (Or.inr (Or.inr (Or.inl q)))) hc
    · by_cases q : dp.toNatClampNeg + n.toNatClampNeg ≤ n1
      · exact q
      · exact absurd (Or.inr (Or.inr (Or.inr (Or.inr q)))) hc
theorem j_copyi (hC : jC z d A l Rm nL cc own rt Ts) {index a0 a1 q0 q1 c0 c1 n0 n1 : Nat} {sp dp n : Int32} (hlink : Cond.methodLink own index arraycopyName ∈ Ts) (hnat : Cond.native arraycopyName ∈ Ts) (hstat : Cond.static arraycopyName ∈ Ts) (hini : Cond.initialized "java/lang/System" ∈ Ts) (he0 : (w d σ)[q0]? = some (a0, .inl (d.2.2.1 0, n0, .inl (σ.1 c0)))) (he1 : (w d σ)[q1]? = some (a1, .inl (d.2.2.1 0, n1, .inl (σ.1 c1)))) (hset : (w d σ).set q1 (a1, .inl (d.2.2.1 0, n1, .inl (va_cpy (σ.1 c0) (σ.1 c1) sp.toNatClampNeg dp.toNatClampNeg n.toNatClampNeg))) = w d (jc σ c1 (va_cpy (σ.1 c0) (σ.1 c1) sp.toNatClampNeg dp.toNatClampNeg n.toNatClampNeg))) (hf : 1 ≤ Rm.frames) (ho1 : (st.map fun v => v.category).sum + (nativeFrameWords "java/lang/System" "arraycopy" 5 + 11) ≤ Rm.locals) (hd : decode cc pc = .ok (.invokestatic index, 3)) (hp : pc + 3 = pc')  (kk : jJ z d w A nL Q res (jc σ c1 (va_cpy (σ.1 c0) (σ.1 c1) sp.toNatClampNeg dp.toNatClampNeg n.toNatClampNeg)) o pc' lv st) : jJ z d w A nL Q res σ (ocp sp dp n n0 n1 o) pc lv (.int n :: .int dp :: .ref a1 :: .int sp :: .ref a0 :: st) := by
  intro ho H locs ls hP hD hS hl
  obtain ⟨h1, h2, h3, h4, h5, ho⟩ := ocp_ok ho
  exact va_copyi hC.1 hC.2.1 (hC.2.2.1.trans hl.1.symm) hC.2.2.2.1 (hC.2.2.2.2.1 _ hlink) (hC.2.2.2.2.1 _ hnat) (hC.2.2.2.2.1 _ hstat) (hC.2.2.2.2.1 _ hini) hC.2.2.2.2.2.1 hP hD hS q0 q1 0 0 he0 he1 rfl rfl rfl h1 h2 h3 h4 h5 (fun _ _ => rfl) (hC.2.2.2.2.2.2.2.2.1 ▸ hf) (hC.2.2.2.2.2.2.2.2.1 ▸ ho1) hd (fun H1 locs1 hP1 hD1 hS1 => hp ▸ kk ho H1 locs1 ls (hset ▸ hP1) (hset ▸ hD1) hS1 hl)
theorem j_copyl (hC : jC z d A l Rm nL cc own rt Ts) {index a0 a1 q0 q1 c0 c1 n0 n1 : Nat} {sp dp n : Int32} (hlink : Cond.methodLink own index arraycopyName ∈ Ts) (hnat : Cond.native arraycopyName ∈ Ts) (hstat : Cond.static arraycopyName ∈ Ts) (hini : Cond.initialized "java/lang/System" ∈ Ts) (he0 : (w d σ)[q0]? = some (a0, .inl (d.2.2.1 3, n0, .inr (.inl (σ.2 c0))))) (he1 : (w d σ)[q1]? = some (a1, .inl (d.2.2.1 3, n1, .inr (.inl (σ.2 c1))))) (hset : (w d σ).set q1 (a1, .inl (d.2.2.1 3, n1, .inr (.inl (va_cpy (σ.2 c0) (σ.2 c1) sp.toNatClampNeg dp.toNatClampNeg n.toNatClampNeg)))) = w d (jcl σ c1 (va_cpy (σ.2 c0) (σ.2 c1) sp.toNatClampNeg dp.toNatClampNeg n.toNatClampNeg))) (hf : 1 ≤ Rm.frames) (ho1 : (st.map fun v => v.category).sum + (nativeFrameWords "java/lang/System" "arraycopy" 5 + 11) ≤ Rm.locals) (hd : decode cc pc = .ok (.invokestatic index, 3)) (hp : pc + 3 = pc')  (kk : jJ z d w A nL Q res (jcl σ c1 (va_cpy (σ.2 c0) (σ.2 c1) sp.toNatClampNeg dp.toNatClampNeg n.toNatClampNeg)) o pc' lv st) : jJ z d w A nL Q res σ (ocp sp dp n n0 n1 o) pc lv (.int n :: .int dp :: .ref a1 :: .int sp :: .ref a0 :: st) := by
  intro ho H locs ls hP hD hS hl
  obtain ⟨h1, h2, h3, h4, h5, ho⟩ := ocp_ok ho
  exact va_copyl hC.1 hC.2.1 (hC.2.2.1.trans hl.1.symm) hC.2.2.2.1 (hC.2.2.2.2.1 _ hlink) (hC.2.2.2.2.1 _ hnat) (hC.2.2.2.2.1 _ hstat) (hC.2.2.2.2.1 _ hini) hC.2.2.2.2.2.1 hP hD hS q0 q1 3 3 he0 he1 rfl rfl rfl h1 h2 h3 h4 h5 (fun _ _ => rfl) (hC.2.2.2.2.2.2.2.2.1 ▸ hf) (hC.2.2.2.2.2.2.2.2.1 ▸ ho1) hd (fun H1 locs1 hP1 hD1 hS1 => hp ▸ kk ho H1 locs1 ls (hset ▸ hP1) (hset ▸ hD1) hS1 hl)
/-- a state kept along a run -/
theorem jPre.go {s U : State} {H : Heap} {locs : List Loc} (hP : va_P d.1 vwCl (w d σ) H) (hD : va_D A (w d σ)) (hK : va_K d.1 vwCl (jT d) s) (hF : jF d A s) (hS : va_S A s.heap H locs) (hU : U.heap = H) (hW : s.WarmedH U.vm) : jPre d w A σ U :=
  ⟨hU ▸ hP, hD, va_K.moved hW.alike hK, hF.go hW (fun a h1 h2 => by rw [hU]; exact hS.2.1 a h1 h2)⟩
def jQi (d : jD) (w : jD → jS → va_W) (A : Nat → Prop) (σ0 : jS) (res : Int32 × jS) : Array Value → State → Outcome → State → Prop := va_Qi (fun r u => r = res.1 ∧ u = res.2) (jPre d w A) A
def jMi (l : Launch) (y : MethodName) (ws : List Cond) (rm : Room) (d : jD) (w : jD → jS → va_W) (A : Nat → Prop) (av : List Value) (σ0 : jS) (o : Option (Int32 × jS)) : Prop := ∀ res, o = some res → Met l y ws rm (va_Pc av (jPre d w A σ0)) (jQi d w A σ0 res) 0 0 A
theorem jStart_i {y : MethodName} {ws : List Cond} {rm : Room} {av : List Value} {σ0 : jS} {f : Option (Int32 × jS)} {maxL : Nat} {lv0 : List (Nat × Value)} (hy : plainName y.cls = true) (hw : ws = Cond.code y cc maxL (some .int) :: jtb) (hlen : (lg_sl av).length ≤ maxL) (hlv : lv_args 0 av = lv0) (h : ∀ z : jZ, jC z d A l (headSpec ws rm).room maxL cc y.cls (some .int) jtb → ∀ res, jJ z d w A maxL (MQ z.2.2.2.2.2.2.2.1 (jQi d w A σ0 res) z.2.2.2.2.2.2.1 z.2.2.2.2.1 0 0 A) res σ0 f 0 lv0 []) : jMi l y ws rm d w A av σ0 f := by
  intro res hres
  refine Met.ofW (cc := cc) (maxL := maxL) (ret := (some .int)) hy hw ?_
  intro p e s m args below meth c s₁ B hml hv
  obtain ⟨rfl, hP, hD, hK, hF⟩ := hv
  have hts0 := atoms_spec (ws := ws) B.pre
  have hts : ∀ w ∈ jtb, w.before av.toArray s = true := fun w h => hts0 w (by rw [hw]; exact List.mem_cons_of_mem _ h)
  have hown : s.vm.findClass y.cls = some m.cls := findClass_of_methodNamed B.named
  have hl := lv_entry av (n := maxL) hlen
  rw [lg_entry_eq]
  generalize (lg_sl av ++ List.replicate (maxL - (lg_sl av).length) Slot.unset).toArray = ls at hl ⊢
  rw [hlv] at hl
  exact h (p, l, e, (headSpec ws rm).room, s, m, av.toArray, below, meth, c) ⟨B.exec, B.bytes, hml, hown, hts, hK, hF, rfl, rfl, B.returns, B.notSynchronized⟩ res hres s.heap [] ls hP hD va_S.rf hl
theorem j_ret_i {σ0 : jS} {rs : Int32 × jS} {v : Int32} (hC : jC z d A l Rm nL cc own (some .int) Ts) (hd : decode cc pc = .ok (.ireturn, 1)) : jJ z d w A nL (MQ z.2.2.2.2.2.2.2.1 (jQi d w A σ0 rs) z.2.2.2.2.2.2.1 z.2.2.2.2.1 0 0 A) rs σ (some (v, σ)) pc lv [.int v] := by
  intro ho H locs ls hP hD hS hl
  have e9 := Option.some.inj ho
  subst e9
  exact W.iret hC.1 hC.2.1 hC.2.2.2.2.2.2.2.2.2.1 (fun t ht hW => ⟨⟨v, σ, rfl, ⟨rfl, rfl⟩, jPre.go hP hD hC.2.2.2.2.2.1 hC.2.2.2.2.2.2.1 hS ht hW⟩, hS.F ht⟩) hS.2.2 hd hC.2.2.2.2.2.2.2.2.2.2
def jQir (d : jD) (w : jD → jS → va_W) (A : Nat → Prop) (σ0 : jS) (res : Int32) : Array Value → State → Outcome → State → Prop := va_Qi (fun r u => r = res ∧ u = σ0) (jPre d w A) A
def jMir (l : Launch) (y : MethodName) (ws : List Cond) (rm : Room) (d : jD) (w : jD → jS → va_W) (A : Nat → Prop) (av : List Value) (σ0 : jS) (o : Option (Int32)) : Prop := ∀ res, o = some res → Met l y ws rm (va_Pc av (jPre d w A σ0)) (jQir d w A σ0 res) 0 0 A
theorem jStart_ir {y : MethodName} {ws : List Cond} {rm : Room} {av : List Value} {σ0 : jS} {f : Option (Int32)} {maxL : Nat} {lv0 : List (Nat × Value)} (hy : plainName y.cls = true) (hw : ws = Cond.code y cc maxL (some .int) :: jtb) (hlen : (lg_sl av).length ≤ maxL) (hlv : lv_args 0 av = lv0) (h : ∀ z : jZ, jC z d A l (headSpec ws rm).room maxL cc y.cls (some .int) jtb → ∀ res, jJ z d w A maxL (MQ z.2.2.2.2.2.2.2.1 (jQir d w A σ0 res) z.2.2.2.2.2.2.1 z.2.2.2.2.1 0 0 A) res σ0 f 0 lv0 []) : jMir l y ws rm d w A av σ0 f := by
  intro res hres
  refine Met.ofW (cc := cc) (maxL := maxL) (ret := (some .int)) hy hw ?_
  intro p e s m args below meth c s₁ B hml hv
  obtain ⟨rfl, hP, hD, hK, hF⟩ := hv
  have hts0 := atoms_spec (ws := ws) B.pre
  have hts : ∀ w ∈ jtb, w.before av.toArray s = true := fun w h => hts0 w (by rw [hw]; exact List.mem_cons_of_mem _ h)
  have hown : s.vm.findClass y.cls = some m.cls := findClass_of_methodNamed B.named
  have hl := lv_entry av (n := maxL) hlen
  rw [lg_entry_eq]
  generalize (lg_sl av ++ List.replicate (maxL - (lg_sl av).length) Slot.unset).toArray = ls at hl ⊢
  rw [hlv] at hl
  exact h (p, l, e, (headSpec ws rm).room, s, m, av.toArray, below, meth, c) ⟨B.exec, B.bytes, hml, hown, hts, hK, hF, rfl, rfl, B.returns, B.notSynchronized⟩ res hres s.heap [] ls hP hD va_S.rf hl
theorem j_ret_ir {rs : Int32} {v : Int32} (hC : jC z d A l Rm nL cc own (some .int) Ts) (hd : decode cc pc = .ok (.ireturn, 1)) : jJ z d w A nL (MQ z.2.2.2.2.2.2.2.1 (jQir d w A σ rs) z.2.2.2.2.2.2.1 z.2.2.2.2.1 0 0 A) rs σ (some v) pc lv [.int v] := by
  intro ho H locs ls hP hD hS hl
  have e9 := Option.some.inj ho
  subst e9
  exact W.iret hC.1 hC.2.1 hC.2.2.2.2.2.2.2.2.2.1 (fun t ht hW => ⟨⟨v, σ, rfl, ⟨rfl, rfl⟩, jPre.go hP hD hC.2.2.2.2.2.1 hC.2.2.2.2.2.2.1 hS ht hW⟩, hS.F ht⟩) hS.2.2 hd hC.2.2.2.2.2.2.2.2.2.2
def jQz (d : jD) (w : jD → jS → va_W) (A : Nat → Prop) (σ0 : jS) (res : Int32 × jS) : Array Value → State → Outcome → State → Prop := va_Qi (fun r u => r = jb res.1 ∧ u = res.2) (jPre d w A) A
def jMz (l : Launch) (y : MethodName) (ws : List Cond) (rm : Room) (d : jD) (w : jD → jS → va_W) (A : Nat → Prop) (av : List Value) (σ0 : jS) (o : Option (Int32 × jS)) : Prop := ∀ res, o = some res → Met l y ws rm (va_Pc av (jPre d w A σ0)) (jQz d w A σ0 res) 0 0 A
theorem jStart_z {y : MethodName} {ws : List Cond} {rm : Room} {av : List Value} {σ0 : jS} {f : Option (Int32 × jS)} {maxL : Nat} {lv0 : List (Nat × Value)} (hy : plainName y.cls = true) (hw : ws = Cond.code y cc maxL (some .boolean) :: jtb) (hlen : (lg_sl av).length ≤ maxL) (hlv : lv_args 0 av = lv0) (h : ∀ z : jZ, jC z d A l (headSpec ws rm).room maxL cc y.cls (some .boolean) jtb → ∀ res, jJ z d w A maxL (MQ z.2.2.2.2.2.2.2.1 (jQz d w A σ0 res) z.2.2.2.2.2.2.1 z.2.2.2.2.1 0 0 A) res σ0 f 0 lv0 []) : jMz l y ws rm d w A av σ0 f := by
  intro res hres
  refine Met.ofW (cc := cc) (maxL := maxL) (ret := (some .boolean)) hy hw ?_
  intro p e s m args below meth c s₁ B hml hv
  obtain ⟨rfl, hP, hD, hK, hF⟩ := hv
  have hts0 := atoms_spec (ws := ws) B.pre
  have hts : ∀ w ∈ jtb, w.before av.toArray s = true := fun w h => hts0 w (by rw [hw]; exact List.mem_cons_of_mem _ h)
  have hown : s.vm.findClass y.cls = some m.cls := findClass_of_methodNamed B.named
  have hl := lv_entry av (n := maxL) hlen
  rw [lg_entry_eq]
  generalize (lg_sl av ++ List.replicate (maxL - (lg_sl av).length) Slot.unset).toArray = ls at hl ⊢
  rw [hlv] at hl
  exact h (p, l, e, (headSpec ws rm).room, s, m, av.toArray, below, meth, c) ⟨B.exec, B.bytes, hml, hown, hts, hK, hF, rfl, rfl, B.returns, B.notSynchronized⟩ res hres s.heap [] ls hP hD va_S.rf hl
theorem j_ret_z {σ0 : jS} {rs : Int32 × jS} {v v1 : Int32} (hC : jC z d A l Rm nL cc own (some .boolean) Ts) (hz : jb v = v1) (hd : decode cc pc = .ok (.ireturn, 1)) : jJ z d w A nL (MQ z.2.2.2.2.2.2.2.1 (jQz d w A σ0 rs) z.2.2.2.2.2.2.1 z.2.2.2.2.1 0 0 A) rs σ (some (v, σ)) pc lv [.int v1] := by
  intro ho H locs ls hP hD hS hl
  subst hz
  have e9 := Option.some.inj ho
  subst e9
  exact W.zret hC.1 hC.2.1 hC.2.2.2.2.2.2.2.2.2.1 (jb_nar v) (fun t ht hW => ⟨⟨jb v, σ, rfl, ⟨rfl, rfl⟩, jPre.go hP hD hC.2.2.2.2.2.1 hC.2.2.2.2.2.2.1 hS ht hW⟩, hS.F ht⟩) hS.2.2 hd hC.2.2.2.2.2.2.2.2.2.2
def jQzr (d : jD) (w : jD → jS → va_W) (A : Nat → Prop) (σ0 : jS) (res : Int32) : Array Value → State → Outcome → State → Prop := va_Qi (fun r u => r = jb res ∧ u = σ0) (jPre d w A) A
def jMzr (l : Launch) (y : MethodName) (ws : List Cond) (rm : Room) (d : jD) (w : jD → jS → va_W) (A : Nat → Prop) (av : List Value) (σ0 : jS) (o : Option (Int32)) : Prop := ∀ res, o = some res → Met l y ws rm (va_Pc av (jPre d w A σ0)) (jQzr d w A σ0 res) 0 0 A
theorem jStart_zr {y : MethodName} {ws : List Cond} {rm : Room} {av : List Value} {σ0 : jS} {f : Option (Int32)} {maxL : Nat} {lv0 : List (Nat × Value)} (hy : plainName y.cls = true) (hw : ws = Cond.code y cc maxL (some .boolean) :: jtb) (hlen : (lg_sl av).length ≤ maxL) (hlv : lv_args 0 av = lv0) (h : ∀ z : jZ, jC z d A l (headSpec ws rm).room maxL cc y.cls (some .boolean) jtb → ∀ res, jJ z d w A maxL (MQ z.2.2.2.2.2.2.2.1 (jQzr d w A σ0 res) z.2.2.2.2.2.2.1 z.2.2.2.2.1 0 0 A) res σ0 f 0 lv0 []) : jMzr l y ws rm d w A av σ0 f := by
  intro res hres
  refine Met.ofW (cc := cc) (maxL := maxL) (ret := (some .boolean)) hy hw ?_
  intro p e s m args below meth c s₁ B hml hv
  obtain ⟨rfl, hP, hD, hK, hF⟩ := hv
  have hts0 := atoms_spec (ws := ws) B.pre
  have hts : ∀ w ∈ jtb, w.before av.toArray s = true := fun w h => hts0 w (by rw [hw]; exact List.mem_cons_of_mem _ h)
  have hown : s.vm.findClass y.cls = some m.cls := findClass_of_methodNamed B.named
  have hl := lv_entry av (n := maxL) hlen
  rw [lg_entry_eq]
  generalize (lg_sl av ++ List.replicate (maxL - (lg_sl av).length) Slot.unset).toArray = ls at hl ⊢
  rw [hlv] at hl
  exact h (p, l, e, (headSpec ws rm).room, s, m, av.toArray, below, meth, c) ⟨B.exec, B.bytes, hml, hown, hts, hK, hF, rfl, rfl, B.returns, B.notSynchronized⟩ res hres s.heap [] ls hP hD va_S.rf hl
theorem j_ret_zr {rs : Int32} {v v1 : Int32} (hC : jC z d A l Rm nL cc own (some .boolean) Ts) (hz : jb v = v1) (hd : decode cc pc = .ok (.ireturn, 1)) : jJ z d w A nL (MQ z.2.2.2.2.2.2.2.1 (jQzr d w A σ rs) z.2.2.2.2.2.2.1 z.2.2.2.2.1 0 0 A) rs σ (some v) pc lv [.int v1] := by
  intro ho H locs ls hP hD hS hl
  subst hz
  have e9 := Option.some.inj ho
  subst e9
  exact W.zret hC.1 hC.2.1 hC.2.2.2.2.2.2.2.2.2.1 (jb_nar v) (fun t ht hW => ⟨⟨jb v, σ, rfl, ⟨rfl, rfl⟩, jPre.go hP hD hC.2.2.2.2.2.1 hC.2.2.2.2.2.2.1 hS ht hW⟩, hS.F ht⟩) hS.2.2 hd hC.2.2.2.2.2.2.2.2.2.2
def jQbr (d : jD) (w : jD → jS → va_W) (A : Nat → Prop) (σ0 : jS) (res : Int32) : Array Value → State → Outcome → State → Prop := va_Qi (fun r u => r = res ∧ u = σ0) (jPre d w A) A
def jMbr (l : Launch) (y : MethodName) (ws : List Cond) (rm : Room) (d : jD) (w : jD → jS → va_W) (A : Nat → Prop) (av : List Value) (σ0 : jS) (o : Option (Int32)) : Prop := ∀ res, o = some res → Met l y ws rm (va_Pc av (jPre d w A σ0)) (jQbr d w A σ0 res) 0 0 A
theorem jStart_br {y : MethodName} {ws : List Cond} {rm : Room} {av : List Value} {σ0 : jS} {f : Option (Int32)} {maxL : Nat} {lv0 : List (Nat × Value)} (hy : plainName y.cls = true) (hw : ws = Cond.code y cc maxL (some .byte) :: jtb) (hlen : (lg_sl av).length ≤ maxL) (hlv : lv_args 0 av = lv0) (h : ∀ z : jZ, jC z d A l (headSpec ws rm).room maxL cc y.cls (some .byte) jtb → ∀ res, jJ z d w A maxL (MQ z.2.2.2.2.2.2.2.1 (jQbr d w A σ0 res) z.2.2.2.2.2.2.1 z.2.2.2.2.1 0 0 A) res σ0 f 0 lv0 []) : jMbr l y ws rm d w A av σ0 f := by
  intro res hres
  refine Met.ofW (cc := cc) (maxL := maxL) (ret := (some .byte)) hy hw ?_
  intro p e s m args below meth c s₁ B hml hv
  obtain ⟨rfl, hP, hD, hK, hF⟩ := hv
  have hts0 := atoms_spec (ws := ws) B.pre
  have hts : ∀ w ∈ jtb, w.before av.toArray s = true := fun w h => hts0 w (by rw [hw]; exact List.mem_cons_of_mem _ h)
  have hown : s.vm.findClass y.cls = some m.cls := findClass_of_methodNamed B.named
  have hl := lv_entry av (n := maxL) hlen
  rw [lg_entry_eq]
  generalize (lg_sl av ++ List.replicate (maxL - (lg_sl av).length) Slot.unset).toArray = ls at hl ⊢
  rw [hlv] at hl
  exact h (p, l, e, (headSpec ws rm).room, s, m, av.toArray, below, meth, c) ⟨B.exec, B.bytes, hml, hown, hts, hK, hF, rfl, rfl, B.returns, B.notSynchronized⟩ res hres s.heap [] ls hP hD va_S.rf hl
theorem j_ret_br {rs : Int32} {v : Int32} (hC : jC z d A l Rm nL cc own (some .byte) Ts) (hz : narrow .byte (.int v) = .int v) (hd : decode cc pc = .ok (.ireturn, 1)) : jJ z d w A nL (MQ z.2.2.2.2.2.2.2.1 (jQbr d w A σ rs) z.2.2.2.2.2.2.1 z.2.2.2.2.1 0 0 A) rs σ (some v) pc lv [.int v] := by
  intro ho H locs ls hP hD hS hl
  have e9 := Option.some.inj ho
  subst e9
  exact W.zret hC.1 hC.2.1 hC.2.2.2.2.2.2.2.2.2.1 hz (fun t ht hW => ⟨⟨v, σ, rfl, ⟨rfl, rfl⟩, jPre.go hP hD hC.2.2.2.2.2.1 hC.2.2.2.2.2.2.1 hS ht hW⟩, hS.F ht⟩) hS.2.2 hd hC.2.2.2.2.2.2.2.2.2.2
def jQl (d : jD) (w : jD → jS → va_W) (A : Nat → Prop) (σ0 : jS) (res : Int64 × jS) : Array Value → State → Outcome → State → Prop := va_Ql (fun r u => r = res.1 ∧ u = res.2) (jPre d w A) A
def jMl (l : Launch) (y : MethodName) (ws : List Cond) (rm : Room) (d : jD) (w : jD → jS → va_W) (A : Nat → Prop) (av : List Value) (σ0 : jS) (o : Option (Int64 × jS)) : Prop := ∀ res, o = some res → Met l y ws rm (va_Pc av (jPre d w A σ0)) (jQl d w A σ0 res) 0 0 A
theorem jStart_l {y : MethodName} {ws : List Cond} {rm : Room} {av : List Value} {σ0 : jS} {f : Option (Int64 × jS)} {maxL : Nat} {lv0 : List (Nat × Value)} (hy : plainName y.cls = true) (hw : ws = Cond.code y cc maxL (some .long) :: jtb) (hlen : (lg_sl av).length ≤ maxL) (hlv : lv_args 0 av = lv0) (h : ∀ z : jZ, jC z d A l (headSpec ws rm).room maxL cc y.cls (some .long) jtb → ∀ res, jJ z d w A maxL (MQ z.2.2.2.2.2.2.2.1 (jQl d w A σ0 res) z.2.2.2.2.2.2.1 z.2.2.2.2.1 0 0 A) res σ0 f 0 lv0 []) : jMl l y ws rm d w A av σ0 f := by
  intro res hres
  refine Met.ofW (cc := cc) (maxL := maxL) (ret := (some .long)) hy hw ?_
  intro p e s m args below meth c s₁ B hml hv
  obtain ⟨rfl, hP, hD, hK, hF⟩ := hv
  have hts0 := atoms_spec (ws := ws) B.pre
  have hts : ∀ w ∈ jtb, w.before av.toArray s = true := fun w h => hts0 w (by rw [hw]; exact List.mem_cons_of_mem _ h)
  have hown : s.vm.findClass y.cls = some m.cls := findClass_of_methodNamed B.named
  have hl := lv_entry av (n := maxL) hlen
  rw [lg_entry_eq]
  generalize (lg_sl av ++ List.replicate (maxL - (lg_sl av).length) Slot.unset).toArray = ls at hl ⊢
  rw [hlv] at hl
  exact h (p, l, e, (headSpec ws rm).room, s, m, av.toArray, below, meth, c) ⟨B.exec, B.bytes, hml, hown, hts, hK, hF, rfl, rfl, B.returns, B.notSynchronized⟩ res hres s.heap [] ls hP hD va_S.rf hl
theorem j_ret_l {σ0 : jS} {rs : Int64 × jS} {v : Int64} (hC : jC z d A l Rm nL cc own (some .long) Ts) (hd : decode cc pc = .ok (.lreturn, 1)) : jJ z d w A nL (MQ z.2.2.2.2.2.2.2.1 (jQl d w A σ0 rs) z.2.2.2.2.2.2.1 z.2.2.2.2.1 0 0 A) rs σ (some (v, σ)) pc lv [.long v] := by
  intro ho H locs ls hP hD hS hl
  have e9 := Option.some.inj ho
  subst e9
  exact W.lret hC.1 hC.2.1 hC.2.2.2.2.2.2.2.2.2.1 (fun t ht hW => ⟨⟨v, σ, rfl, ⟨rfl, rfl⟩, jPre.go hP hD hC.2.2.2.2.2.1 hC.2.2.2.2.2.2.1 hS ht hW⟩, hS.F ht⟩) hS.2.2 hd hC.2.2.2.2.2.2.2.2.2.2
def jQlr (d : jD) (w : jD → jS → va_W) (A : Nat → Prop) (σ0 : jS) (res : Int64) : Array Value → State → Outcome → State → Prop := va_Ql (fun r u => r = res ∧ u = σ0) (jPre d w A) A
def jMlr (l : Launch) (y : MethodName) (ws : List Cond) (rm : Room) (d : jD) (w : jD → jS → va_W) (A : Nat → Prop) (av : List Value) (σ0 : jS) (o : Option (Int64)) : Prop := ∀ res, o = some res → Met l y ws rm (va_Pc av (jPre d w A σ0)) (jQlr d w A σ0 res) 0 0 A
theorem jStart_lr {y : MethodName} {ws : List Cond} {rm : Room} {av : List Value} {σ0 : jS} {f : Option (Int64)} {maxL : Nat} {lv0 : List (Nat × Value)} (hy : plainName y.cls = true) (hw : ws = Cond.code y cc maxL (some .long) :: jtb) (hlen : (lg_sl av).length ≤ maxL) (hlv : lv_args 0 av = lv0) (h : ∀ z : jZ, jC z d A l (headSpec ws rm).room maxL cc y.cls (some .long) jtb → ∀ res, jJ z d w A maxL (MQ z.2.2.2.2.2.2.2.1 (jQlr d w A σ0 res) z.2.2.2.2.2.2.1 z.2.2.2.2.1 0 0 A) res σ0 f 0 lv0 []) : jMlr l y ws rm d w A av σ0 f := by
  intro res hres
  refine Met.ofW (cc := cc) (maxL := maxL) (ret := (some .long)) hy hw ?_
  intro p e s m args below meth c s₁ B hml hv
  obtain ⟨rfl, hP, hD, hK, hF⟩ := hv
  have hts0 := atoms_spec (ws := ws) B.pre
  have hts : ∀ w ∈ jtb, w.before av.toArray s = true := fun w h => hts0 w (by rw [hw]; exact List.mem_cons_of_mem _ h)
  have hown : s.vm.findClass y.cls = some m.cls := findClass_of_methodNamed B.named
  have hl := lv_entry av (n := maxL) hlen
  rw [lg_entry_eq]
  generalize (lg_sl av ++ List.replicate (maxL - (lg_sl av).length) Slot.unset).toArray = ls at hl ⊢
  rw [hlv] at hl
  exact h (p, l, e, (headSpec ws rm).room, s, m, av.toArray, below, meth, c) ⟨B.exec, B.bytes, hml, hown, hts, hK, hF, rfl, rfl, B.returns, B.notSynchronized⟩ res hres s.heap [] ls hP hD va_S.rf hl
theorem j_ret_lr {rs : Int64} {v : Int64} (hC : jC z d A l Rm nL cc own (some .long) Ts) (hd : decode cc pc = .ok (.lreturn, 1)) : jJ z d w A nL (MQ z.2.2.2.2.2.2.2.1 (jQlr d w A σ rs) z.2.2.2.2.2.2.1 z.2.2.2.2.1 0 0 A) rs σ (some v) pc lv [.long v] := by
  intro ho H locs ls hP hD hS hl
  have e9 := Option.some.inj ho
  subst e9
  exact W.lret hC.1 hC.2.1 hC.2.2.2.2.2.2.2.2.2.1 (fun t ht hW => ⟨⟨v, σ, rfl, ⟨rfl, rfl⟩, jPre.go hP hD hC.2.2.2.2.2.1 hC.2.2.2.2.2.2.1 hS ht hW⟩, hS.F ht⟩) hS.2.2 hd hC.2.2.2.2.2.2.2.2.2.2
def jQv (d : jD) (w : jD → jS → va_W) (A : Nat → Prop) (σ0 : jS) (res : jS) : Array Value → State → Outcome → State → Prop := va_Qv (fun u => u = res) (jPre d w A) A
def jMv (l : Launch) (y : MethodName) (ws : List Cond) (rm : Room) (d : jD) (w : jD → jS → va_W) (A : Nat → Prop) (av : List Value) (σ0 : jS) (o : Option (jS)) : Prop := ∀ res, o = some res → Met l y ws rm (va_Pc av (jPre d w A σ0)) (jQv d w A σ0 res) 0 0 A
theorem jStart_v {y : MethodName} {ws : List Cond} {rm : Room} {av : List Value} {σ0 : jS} {f : Option (jS)} {maxL : Nat} {lv0 : List (Nat × Value)} (hy : plainName y.cls = true) (hw : ws = Cond.code y cc maxL none :: jtb) (hlen : (lg_sl av).length ≤ maxL) (hlv : lv_args 0 av = lv0) (h : ∀ z : jZ, jC z d A l (headSpec ws rm).room maxL cc y.cls none jtb → ∀ res, jJ z d w A maxL (MQ z.2.2.2.2.2.2.2.1 (jQv d w A σ0 res) z.2.2.2.2.2.2.1 z.2.2.2.2.1 0 0 A) res σ0 f 0 lv0 []) : jMv l y ws rm d w A av σ0 f := by
  intro res hres
  refine Met.ofW (cc := cc) (maxL := maxL) (ret := none) hy hw ?_
  intro p e s m args below meth c s₁ B hml hv
  obtain ⟨rfl, hP, hD, hK, hF⟩ := hv
  have hts0 := atoms_spec (ws := ws) B.pre
  have hts : ∀ w ∈ jtb, w.before av.toArray s = true := fun w h => hts0 w (by rw [hw]; exact List.mem_cons_of_mem _ h)
  have hown : s.vm.findClass y.cls = some m.cls := findClass_of_methodNamed B.named
  have hl := lv_entry av (n := maxL) hlen
  rw [lg_entry_eq]
  generalize (lg_sl av ++ List.replicate (maxL - (lg_sl av).length) Slot.unset).toArray = ls at hl ⊢
  rw [hlv] at hl
  exact h (p, l, e, (headSpec ws rm).room, s, m, av.toArray, below, meth, c) ⟨B.exec, B.bytes, hml, hown, hts, hK, hF, rfl, rfl, B.returns, B.notSynchronized⟩ res hres s.heap [] ls hP hD va_S.rf hl
theorem j_ret_v {σ0 : jS} {rs : jS} (hC : jC z d A l Rm nL cc own none Ts) (hd : decode cc pc = .ok (.return_, 1)) : jJ z d w A nL (MQ z.2.2.2.2.2.2.2.1 (jQv d w A σ0 rs) z.2.2.2.2.2.2.1 z.2.2.2.2.1 0 0 A) rs σ (some σ) pc lv [] := by
  intro ho H locs ls hP hD hS hl
  have e9 := Option.some.inj ho
  subst e9
  exact W.vret hC.1 hC.2.1 hC.2.2.2.2.2.2.2.2.2.1 (fun t ht hW => ⟨⟨σ, rfl, rfl, jPre.go hP hD hC.2.2.2.2.2.1 hC.2.2.2.2.2.2.1 hS ht hW⟩, hS.F ht⟩) hS.2.2 hd hC.2.2.2.2.2.2.2.2.2.2
def jQr (d : jD) (w : jD → jS → va_W) (A : Nat → Prop) (σ0 : jS) (res : jS) : Array Value → State → Outcome → State → Prop := va_Qr (fun u => u = res) (fun u a U => a = d.2.1 14 ∧ jPre d w A u U) A
def jMr (l : Launch) (y : MethodName) (ws : List Cond) (rm : Room) (d : jD) (w : jD → jS → va_W) (A : Nat → Prop) (av : List Value) (σ0 : jS) (o : Option (jS)) : Prop := ∀ res, o = some res → Met l y ws rm (va_Pc av (jPre d w A σ0)) (jQr d w A σ0 res) 0 0 A
theorem jStart_r {y : MethodName} {ws : List Cond} {rm : Room} {av : List Value} {σ0 : jS} {f : Option (jS)} {maxL : Nat} {lv0 : List (Nat × Value)} {n0 : String} (hy : plainName y.cls = true) (hw : ws = Cond.code y cc maxL (some (.object n0)) :: jtb) (hlen : (lg_sl av).length ≤ maxL) (hlv : lv_args 0 av = lv0) (h : ∀ z : jZ, jC z d A l (headSpec ws rm).room maxL cc y.cls (some (.object n0)) jtb → ∀ res, jJ z d w A maxL (MQ z.2.2.2.2.2.2.2.1 (jQr d w A σ0 res) z.2.2.2.2.2.2.1 z.2.2.2.2.1 0 0 A) res σ0 f 0 lv0 []) : jMr l y ws rm d w A av σ0 f := by
  intro res hres
  refine Met.ofW (cc := cc) (maxL := maxL) (ret := (some (.object n0))) hy hw ?_
  intro p e s m args below meth c s₁ B hml hv
  obtain ⟨rfl, hP, hD, hK, hF⟩ := hv
  have hts0 := atoms_spec (ws := ws) B.pre
  have hts : ∀ w ∈ jtb, w.before av.toArray s = true := fun w h => hts0 w (by rw [hw]; exact List.mem_cons_of_mem _ h)
  have hown : s.vm.findClass y.cls = some m.cls := findClass_of_methodNamed B.named
  have hl := lv_entry av (n := maxL) hlen
  rw [lg_entry_eq]
  generalize (lg_sl av ++ List.replicate (maxL - (lg_sl av).length) Slot.unset).toArray = ls at hl ⊢
  rw [hlv] at hl
  exact h (p, l, e, (headSpec ws rm).room, s, m, av.toArray, below, meth, c) ⟨B.exec, B.bytes, hml, hown, hts, hK, hF, rfl, rfl, B.returns, B.notSynchronized⟩ res hres s.heap [] ls hP hD va_S.rf hl
theorem j_ret_r {σ0 : jS} {rs : jS} {n0 : String} (hC : jC z d A l Rm nL cc own (some (.object n0)) Ts) (hd : decode cc pc = .ok (.areturn, 1)) : jJ z d w A nL (MQ z.2.2.2.2.2.2.2.1 (jQr d w A σ0 rs) z.2.2.2.2.2.2.1 z.2.2.2.2.1 0 0 A) rs σ (some σ) pc lv [.ref (d.2.1 14)] := by
  intro ho H locs ls hP hD hS hl
  have e9 := Option.some.inj ho
  subst e9
  exact W.aret hC.1 hC.2.1 hC.2.2.2.2.2.2.2.2.2.1 (Or.inl ⟨n0, rfl⟩) (Or.inr ⟨_, rfl⟩) (fun t ht hW => ⟨⟨σ, d.2.1 14, rfl, rfl, rfl, jPre.go hP hD hC.2.2.2.2.2.1 hC.2.2.2.2.2.2.1 hS ht hW⟩, hS.F ht⟩) hS.2.2 hd hC.2.2.2.2.2.2.2.2.2.2
theorem j_callV_i {y : MethodName} {ws ws' : List Cond} {bytes : ByteArray} {maxL n index : Nat} {rm : Room} {As : List Value} {f : Option (Int32 × jS)} {K : (Int32 × jS) → Option ρ} {stk : List Value} (hC : jC z d A l Rm nL cc own rt Ts) {b q0 ci : Nat} {C : String} {T : u_T} {N : Nat} {fs : List Value} (he : (w d σ)[q0]? = some (b, .inr (ci, fs))) (hc : vwCl[ci]? = some (C, T, N)) (hM : jMi l y ws rm d w A (.ref b :: As) σ f) (hg : GoodIn Ts (wsV own index C y ws)) (hw0 : ws = Cond.code y bytes maxL (some .int) :: ws') (hrc : rm.cells = 0) (hrs : rm.slots = 0) (hyd : y.cls = C ∧ y.cls ≠ "java/lang/invoke/MethodHandle" ∧ y.cls ≠ "java/lang/invoke/VarHandle" ∧ (parseMethodDescriptor y.desc).map (fun d => d.parameters.length) = some n) (hR : rm.frames + 1 ≤ Rm.frames ∧ 8 + (maxL + 11) + rm.locals ≤ Rm.locals) (hn : As.length = n) (hst : stk = As.reverse ++ .ref b :: st) (hr8 : (st.map fun v => v.category).sum ≤ 8) (hd : decode cc pc = .ok (.invokevirtual index, 3)) (hp : pc + 3 = pc') (kk : ∀ q : Int32 × jS, jJ z d w A nL Q res q.2 (K q) pc' lv (.int q.1 :: st)) : jJ z d w A nL Q res σ (f.bind K) pc lv stk := by
  intro ho H locs ls hP hD hS hl
  subst hst
  obtain ⟨res0, hf, ho⟩ : ∃ r, f = some r ∧ K r = some res := by
    cases f with
    | none => cases ho
    | some r => exact ⟨r, rfl, ho⟩
  refine va_calli (va_runV (As := As) (rest := st) ⟨hC.1, hC.2.1, hC.2.2.1, hC.2.2.2.1, hC.2.2.2.2.1⟩ (hC.2.2.2.2.2.2.2.1 ▸ hM res0 hf) (cwV n hC.2.2.2.2.1 hg hw0 hrc hrs hyd (hC.2.2.2.2.2.2.2.2.1 ▸ hR)) ⟨jPre.blind, va_recv hC.2.2.2.2.2.1 hP hc he, fun U hU hW => ⟨rfl, jPre.go hP hD hC.2.2.2.2.2.1 hC.2.2.2.2.2.2.1 hS hU hW⟩⟩ rfl hn hl.1 rfl (lv_room hr8) hd ⟨Nat.zero_le _, Nat.zero_le _⟩) hS (fun q _ h => h) (fun q h => h) (fun r u t H1 locs1 ht hvm hw hB hz1 hk1 hS1 => ?_)
  obtain ⟨rfl, rfl⟩ := hw
  obtain ⟨hP1, hD1, -, -⟩ := hB
  rw [ht] at hP1
  exact hp ▸ kk _ ho H1 locs1 ls hP1 hD1 hS1 hl
theorem j_callV_ir {y : MethodName} {ws ws' : List Cond} {bytes : ByteArray} {maxL n index : Nat} {rm : Room} {As : List Value} {f : Option (Int32)} {K : Int32 → Option ρ} {stk : List Value} (hC : jC z d A l Rm nL cc own rt Ts) {b q0 ci : Nat} {C : String} {T : u_T} {N : Nat} {fs : List Value} (he : (w d σ)[q0]? = some (b, .inr (ci, fs))) (hc : vwCl[ci]? = some (C, T, N)) (hM : jMir l y ws rm d w A (.ref b :: As) σ f) (hg : GoodIn Ts (wsV own index C y ws)) (hw0 : ws = Cond.code y bytes maxL (some .int) :: ws') (hrc : rm.cells = 0) (hrs : rm.slots = 0) (hyd : y.cls = C ∧ y.cls ≠ "java/lang/invoke/MethodHandle" ∧ y.cls ≠ "java/lang/invoke/VarHandle" ∧ (parseMethodDescriptor y.desc).map (fun d => d.parameters.length) = some n) (hR : rm.frames + 1 ≤ Rm.frames ∧ 8 + (maxL + 11) + rm.locals ≤ Rm.locals) (hn : As.length = n) (hst : stk = As.reverse ++ .ref b :: st) (hr8 : (st.map fun v => v.category).sum ≤ 8) (hd : decode cc pc = .ok (.invokevirtual index, 3)) (hp : pc + 3 = pc') (kk : ∀ q : Int32, jJ z d w A nL Q res σ (K q) pc' lv (.int q :: st)) : jJ z d w A nL Q res σ (f.bind K) pc lv stk := by
  intro ho H locs ls hP hD hS hl
  subst hst
  obtain ⟨res0, hf, ho⟩ : ∃ r, f = some r ∧ K r = some res := by
    cases f with
    | none => cases ho
    | some r => exact ⟨r, rfl, ho⟩
  refine va_calli (va_runV (As := As) (rest := st) ⟨hC.1, hC.2.1, hC.2.2.1, hC.2.2.2.1, hC.2.2.2.2.1⟩ (hC.2.2.2.2.2.2.2.1 ▸ hM res0 hf) (cwV n hC.2.2.2.2.1 hg hw0 hrc hrs hyd (hC.2.2.2.2.2.2.2.2.1 ▸ hR)) ⟨jPre.blind, va_recv hC.2.2.2.2.2.1 hP hc he, fun U hU hW => ⟨rfl, jPre.go hP hD hC.2.2.2.2.2.1 hC.2.2.2.2.2.2.1 hS hU hW⟩⟩ rfl hn hl.1 rfl (lv_room hr8) hd ⟨Nat.zero_le _, Nat.zero_le _⟩) hS (fun q _ h => h) (fun q h => h) (fun r u t H1 locs1 ht hvm hw hB hz1 hk1 hS1 => ?_)
  obtain ⟨rfl, rfl⟩ := hw
  obtain ⟨hP1, hD1, -, -⟩ := hB
  rw [ht] at hP1
  exact hp ▸ kk _ ho H1 locs1 ls hP1 hD1 hS1 hl
theorem j_callV_z {y : MethodName} {ws ws' : List Cond} {bytes : ByteArray} {maxL n index : Nat} {rm : Room} {As : List Value} {f : Option (Int32 × jS)} {K : (Int32 × jS) → Option ρ} {stk : List Value} (hC : jC z d A l Rm nL cc own rt Ts) {b q0 ci : Nat} {C : String} {T : u_T} {N : Nat} {fs : List Value} (he : (w d σ)[q0]? = some (b, .inr (ci, fs))) (hc : vwCl[ci]? = some (C, T, N)) (hM : jMz l y ws rm d w A (.ref b :: As) σ f) (hg : GoodIn Ts (wsV own index C y ws)) (hw0 : ws = Cond.code y bytes maxL (some .boolean) :: ws') (hrc : rm.cells = 0) (hrs : rm.slots = 0) (hyd : y.cls = C ∧ y.cls ≠ "java/lang/invoke/MethodHandle" ∧ y.cls ≠ "java/lang/invoke/VarHandle" ∧ (parseMethodDescriptor y.desc).map (fun d => d.parameters.length) = some n) (hR : rm.frames + 1 ≤ Rm.frames ∧ 8 + (maxL + 11) + rm.locals ≤ Rm.locals) (hn : As.length = n) (hst : stk = As.reverse ++ .ref b :: st) (hr8 : (st.map fun v => v.category).sum ≤ 8) (hd : decode cc pc = .ok (.invokevirtual index, 3)) (hp : pc + 3 = pc') (kk : ∀ q : Int32 × jS, jJ z d w A nL Q res q.2 (K q) pc' lv (.int (jb q.1) :: st)) : jJ z d w A nL Q res σ (f.bind K) pc lv stk := by
  intro ho H locs ls hP hD hS hl
  subst hst
  obtain ⟨res0, hf, ho⟩ : ∃ r, f = some r ∧ K r = some res := by
    cases f with
    | none => cases ho
    | some r => exact ⟨r, rfl, ho⟩
  refine va_calli (va_runV (As := As) (rest := st) ⟨hC.1, hC.2.1, hC.2.2.1, hC.2.2.2.1, hC.2.2.2.2.1⟩ (hC.2.2.2.2.2.2.2.1 ▸ hM res0 hf) (cwV n hC.2.2.2.2.1 hg hw0 hrc hrs hyd (hC.2.2.2.2.2.2.2.2.1 ▸ hR)) ⟨jPre.blind, va_recv hC.2.2.2.2.2.1 hP hc he, fun U hU hW => ⟨rfl, jPre.go hP hD hC.2.2.2.2.2.1 hC.2.2.2.2.2.2.1 hS hU hW⟩⟩ rfl hn hl.1 rfl (lv_room hr8) hd ⟨Nat.zero_le _, Nat.zero_le _⟩) hS (fun q _ h => h) (fun q h => h) (fun r u t H1 locs1 ht hvm hw hB hz1 hk1 hS1 => ?_)
  obtain ⟨rfl, rfl⟩ := hw
  obtain ⟨hP1, hD1, -, -⟩ := hB
  rw [ht] at hP1
  exact hp ▸ kk _ ho H1 locs1 ls hP1 hD1 hS1 hl
theorem j_callV_zr {y : MethodName} {ws ws' : List Cond} {bytes : ByteArray} {maxL n index : Nat} {rm : Room} {As : List Value} {f : Option (Int32)} {K : Int32 → Option ρ} {stk : List Value} (hC : jC z d A l Rm nL cc own rt Ts) {b q0 ci : Nat} {C : String} {T : u_T} {N : Nat} {fs : List Value} (he : (w d σ)[q0]? = some (b, .inr (ci, fs))) (hc : vwCl[ci]? = some (C, T, N)) (hM : jMzr l y ws rm d w A (.ref b :: As) σ f) (hg : GoodIn Ts (wsV own index C y ws)) (hw0 : ws = Cond.code y bytes maxL (some .boolean) :: ws') (hrc : rm.cells = 0) (hrs : rm.slots = 0) (hyd : y.cls = C ∧ y.cls ≠ "java/lang/invoke/MethodHandle" ∧ y.cls ≠ "java/lang/invoke/VarHandle" ∧ (parseMethodDescriptor y.desc).map (fun d => d.parameters.length) = some n) (hR : rm.frames + 1 ≤ Rm.frames ∧ 8 + (maxL + 11) + rm.locals ≤ Rm.locals) (hn : As.length = n) (hst : stk = As.reverse ++ .ref b :: st) (hr8 : (st.map fun v => v.category).sum ≤ 8) (hd : decode cc pc = .ok (.invokevirtual index, 3)) (hp : pc + 3 = pc') (kk : ∀ q : Int32, jJ z d w A nL Q res σ (K q) pc' lv (.int (jb q) :: st)) : jJ z d w A nL Q res σ (f.bind K) pc lv stk := by
  intro ho H locs ls hP hD hS hl
  subst hst
  obtain ⟨res0, hf, ho⟩ : ∃ r, f = some r ∧ K r = some res := by
    cases f with
    | none => cases ho
    | some r => exact ⟨r, rfl, ho⟩
  refine va_calli (va_runV (As := As) (rest := st) ⟨hC.1, hC.2.1, hC.2.2.1, hC.2.2.2.1, hC.2.2.2.2.1⟩ (hC.2.2.2.2.2.2.2.1 ▸ hM res0 hf) (cwV n hC.2.2.2.2.1 hg hw0 hrc hrs hyd (hC.2.2.2.2.2.2.2.2.1 ▸ hR)) ⟨jPre.blind, va_recv hC.2.2.2.2.2.1 hP hc he, fun U hU hW => ⟨rfl, jPre.go hP hD hC.2.2.2.2.2.1 hC.2.2.2.2.2.2.1 hS hU hW⟩⟩ rfl hn hl.1 rfl (lv_room hr8) hd ⟨Nat.zero_le _, Nat.zero_le _⟩) hS (fun q _ h => h) (fun q h => h) (fun r u t H1 locs1 ht hvm hw hB hz1 hk1 hS1 => ?_)
  obtain ⟨rfl, rfl⟩ := hw
  obtain ⟨hP1, hD1, -, -⟩ := hB
  rw [ht] at hP1
  exact hp ▸ kk _ ho H1 locs1 ls hP1 hD1 hS1 hl
theorem j_callV_l {y : MethodName} {ws ws' : List Cond} {bytes : ByteArray} {maxL n index : Nat} {rm : Room} {As : List Value} {f : Option (Int64 × jS)} {K : (Int64 × jS) → Option ρ} {stk : List Value} (hC : jC z d A l Rm nL cc own rt Ts) {b q0 ci : Nat} {C : String} {T : u_T} {N : Nat} {fs : List Value} (he : (w d σ)[q0]? = some (b, .inr (ci, fs))) (hc : vwCl[ci]? = some (C, T, N)) (hM : jMl l y ws rm d w A (.ref b :: As) σ f) (hg : GoodIn Ts (wsV own index C y ws)) (hw0 : ws = Cond.code y bytes maxL (some .long) :: ws') (hrc : rm.cells = 0) (hrs : rm.slots = 0) (hyd : y.cls = C ∧ y.cls ≠ "java/lang/invoke/MethodHandle" ∧ y.cls ≠ "java/lang/invoke/VarHandle" ∧ (parseMethodDescriptor y.desc).map (fun d => d.parameters.length) = some n) (hR : rm.frames + 1 ≤ Rm.frames ∧ 8 + (maxL + 11) + rm.locals ≤ Rm.locals) (hn : As.length = n) (hst : stk = As.reverse ++ .ref b :: st) (hr8 : (st.map fun v => v.category).sum ≤ 8) (hd : decode cc pc = .ok (.invokevirtual index, 3)) (hp : pc + 3 = pc') (kk : ∀ q : Int64 × jS, jJ z d w A nL Q res q.2 (K q) pc' lv (.long q.1 :: st)) : jJ z d w A nL Q res σ (f.bind K) pc lv stk := by
  intro ho H locs ls hP hD hS hl
  subst hst
  obtain ⟨res0, hf, ho⟩ : ∃ r, f = some r ∧ K r = some res := by
    cases f with
    | none => cases ho
    | some r => exact ⟨r, rfl, ho⟩
  refine va_calll (va_runV (As := As) (rest := st) ⟨hC.1, hC.2.1, hC.2.2.1, hC.2.2.2.1, hC.2.2.2.2.1⟩ (hC.2.2.2.2.2.2.2.1 ▸ hM res0 hf) (cwV n hC.2.2.2.2.1 hg hw0 hrc hrs hyd (hC.2.2.2.2.2.2.2.2.1 ▸ hR)) ⟨jPre.blind, va_recv hC.2.2.2.2.2.1 hP hc he, fun U hU hW => ⟨rfl, jPre.go hP hD hC.2.2.2.2.2.1 hC.2.2.2.2.2.2.1 hS hU hW⟩⟩ rfl hn hl.1 rfl (lv_room hr8) hd ⟨Nat.zero_le _, Nat.zero_le _⟩) hS (fun q _ h => h) (fun q h => h) (fun r u t H1 locs1 ht hvm hw hB hz1 hk1 hS1 => ?_)
  obtain ⟨rfl, rfl⟩ := hw
  obtain ⟨hP1, hD1, -, -⟩ := hB
  rw [ht] at hP1
  exact hp ▸ kk _ ho H1 locs1 ls hP1 hD1 hS1 hl
theorem j_callV_lr {y : MethodName} {ws ws' : List Cond} {bytes : ByteArray} {maxL n index : Nat} {rm : Room} {As : List Value} {f : Option (Int64)} {K : Int64 → Option ρ} {stk : List Value} (hC : jC z d A l Rm nL cc own rt Ts) {b q0 ci : Nat} {C : String} {T : u_T} {N : Nat} {fs : List Value} (he : (w d σ)[q0]? = some (b, .inr (ci, fs))) (hc : vwCl[ci]? = some (C, T, N)) (hM : jMlr l y ws rm d w A (.ref b :: As) σ f) (hg : GoodIn Ts (wsV own index C y ws)) (hw0 : ws = Cond.code y bytes maxL (some .long) :: ws') (hrc : rm.cells = 0) (hrs : rm.slots = 0) (hyd : y.cls = C ∧ y.cls ≠ "java/lang/invoke/MethodHandle" ∧ y.cls ≠ "java/lang/invoke/VarHandle" ∧ (parseMethodDescriptor y.desc).map (fun d => d.parameters.length) = some n) (hR : rm.frames + 1 ≤ Rm.frames ∧ 8 + (maxL + 11) + rm.locals ≤ Rm.locals) (hn : As.length = n) (hst : stk = As.reverse ++ .ref b :: st) (hr8 : (st.map fun v => v.category).sum ≤ 8) (hd : decode cc pc = .ok (.invokevirtual index, 3)) (hp : pc + 3 = pc') (kk : ∀ q : Int64, jJ z d w A nL Q res σ (K q) pc' lv (.long q :: st)) : jJ z d w A nL Q res σ (f.bind K) pc lv stk := by
  intro ho H locs ls hP hD hS hl
  subst hst
  obtain ⟨res0, hf, ho⟩ : ∃ r, f = some r ∧ K r = some res := by
    cases f with
    | none => cases ho
    | some r => exact ⟨r, rfl, ho⟩
  refine va_calll (va_runV (As := As) (rest := st) ⟨hC.1, hC.2.1, hC.2.2.1, hC.2.2.2.1, hC.2.2.2.2.1⟩ (hC.2.2.2.2.2.2.2.1 ▸ hM res0 hf) (cwV n hC.2.2.2.2.1 hg hw0 hrc hrs hyd (hC.2.2.2.2.2.2.2.2.1 ▸ hR)) ⟨jPre.blind, va_recv hC.2.2.2.2.2.1 hP hc he, fun U hU hW => ⟨rfl, jPre.go hP hD hC.2.2.2.2.2.1 hC.2.2.2.2.2.2.1 hS hU hW⟩⟩ rfl hn hl.1 rfl (lv_room hr8) hd ⟨Nat.zero_le _, Nat.zero_le _⟩) hS (fun q _ h => h) (fun q h => h) (fun r u t H1 locs1 ht hvm hw hB hz1 hk1 hS1 => ?_)
  obtain ⟨rfl, rfl⟩ := hw
  obtain ⟨hP1, hD1, -, -⟩ := hB
  rw [ht] at hP1
  exact hp ▸ kk _ ho H1 locs1 ls hP1 hD1 hS1 hl
theorem j_callV_v {y : MethodName} {ws ws' : List Cond} {bytes : ByteArray} {maxL n index : Nat} {rm : Room} {As : List Value} {f : Option (jS)} {K : jS → Option ρ} {stk : List Value} (hC : jC z d A l Rm nL cc own rt Ts) {b q0 ci : Nat} {C : String} {T : u_T} {N : Nat} {fs : List Value} (he : (w d σ)[q0]? = some (b, .inr (ci, fs))) (hc : vwCl[ci]? = some (C, T, N)) (hM : jMv l y ws rm d w A (.ref b :: As) σ f) (hg : GoodIn Ts (wsV own index C y ws)) (hw0 : ws = Cond.code y bytes maxL none :: ws') (hrc : rm.cells = 0) (hrs : rm.slots = 0) (hyd : y.cls = C ∧ y.cls ≠ "java/lang/invoke/MethodHandle" ∧ y.cls ≠ "java/lang/invoke/VarHandle" ∧ (parseMethodDescriptor y.desc).map (fun d => d.parameters.length) = some n) (hR : rm.frames + 1 ≤ Rm.frames ∧ 8 + (maxL + 11) + rm.locals ≤ Rm.locals) (hn : As.length = n) (hst : stk = As.reverse ++ .ref b :: st) (hr8 : (st.map fun v => v.category).sum ≤ 8) (hd : decode cc pc = .ok (.invokevirtual index, 3)) (hp : pc + 3 = pc') (kk : ∀ q : jS, jJ z d w A nL Q res q (K q) pc' lv st) : jJ z d w A nL Q res σ (f.bind K) pc lv stk := by
  intro ho H locs ls hP hD hS hl
  subst hst
  obtain ⟨res0, hf, ho⟩ : ∃ r, f = some r ∧ K r = some res := by
    cases f with
    | none => cases ho
    | some r => exact ⟨r, rfl, ho⟩
  refine va_callv (va_runV (As := As) (rest := st) ⟨hC.1, hC.2.1, hC.2.2.1, hC.2.2.2.1, hC.2.2.2.2.1⟩ (hC.2.2.2.2.2.2.2.1 ▸ hM res0 hf) (cwV n hC.2.2.2.2.1 hg hw0 hrc hrs hyd (hC.2.2.2.2.2.2.2.2.1 ▸ hR)) ⟨jPre.blind, va_recv hC.2.2.2.2.2.1 hP hc he, fun U hU hW => ⟨rfl, jPre.go hP hD hC.2.2.2.2.2.1 hC.2.2.2.2.2.2.1 hS hU hW⟩⟩ rfl hn hl.1 rfl (lv_room hr8) hd ⟨Nat.zero_le _, Nat.zero_le _⟩) hS (fun q _ h => h) (fun q h => h) (fun u t H1 locs1 ht hvm hw hB hz1 hk1 hS1 => ?_)
  subst hw
  obtain ⟨hP1, hD1, -, -⟩ := hB
  rw [ht] at hP1
  exact hp ▸ kk _ ho H1 locs1 ls hP1 hD1 hS1 hl
theorem j_callV_r {y : MethodName} {ws ws' : List Cond} {bytes : ByteArray} {maxL n index : Nat} {rm : Room} {As : List Value} {f : Option (jS)} {K : jS → Option ρ} {stk : List Value} {n0 : String} (hC : jC z d A l Rm nL cc own rt Ts) {b q0 ci : Nat} {C : String} {T : u_T} {N : Nat} {fs : List Value} (he : (w d σ)[q0]? = some (b, .inr (ci, fs))) (hc : vwCl[ci]? = some (C, T, N)) (hM : jMr l y ws rm d w A (.ref b :: As) σ f) (hg : GoodIn Ts (wsV own index C y ws)) (hw0 : ws = Cond.code y bytes maxL (some (.object n0)) :: ws') (hrc : rm.cells = 0) (hrs : rm.slots = 0) (hyd : y.cls = C ∧ y.cls ≠ "java/lang/invoke/MethodHandle" ∧ y.cls ≠ "java/lang/invoke/VarHandle" ∧ (parseMethodDescriptor y.desc).map (fun d => d.parameters.length) = some n) (hR : rm.frames + 1 ≤ Rm.frames ∧ 8 + (maxL + 11) + rm.locals ≤ Rm.locals) (hn : As.length = n) (hst : stk = As.reverse ++ .ref b :: st) (hr8 : (st.map fun v => v.category).sum ≤ 8) (hd : decode cc pc = .ok (.invokevirtual index, 3)) (hp : pc + 3 = pc') (kk : ∀ q : jS, jJ z d w A nL Q res q (K q) pc' lv (.ref (d.2.1 14) :: st)) : jJ z d w A nL Q res σ (f.bind K) pc lv stk := by
  intro ho H locs ls hP hD hS hl
  subst hst
  obtain ⟨res0, hf, ho⟩ : ∃ r, f = some r ∧ K r = some res := by
    cases f with
    | none => cases ho
    | some r => exact ⟨r, rfl, ho⟩
  refine va_callr (va_runV (As := As) (rest := st) ⟨hC.1, hC.2.1, hC.2.2.1, hC.2.2.2.1, hC.2.2.2.2.1⟩ (hC.2.2.2.2.2.2.2.1 ▸ hM res0 hf) (cwV n hC.2.2.2.2.1 hg hw0 hrc hrs hyd (hC.2.2.2.2.2.2.2.2.1 ▸ hR)) ⟨jPre.blind, va_recv hC.2.2.2.2.2.1 hP hc he, fun U hU hW => ⟨rfl, jPre.go hP hD hC.2.2.2.2.2.1 hC.2.2.2.2.2.2.1 hS hU hW⟩⟩ rfl hn hl.1 rfl (lv_room hr8) hd ⟨Nat.zero_le _, Nat.zero_le _⟩) hS (fun q _ h => h) (fun q h => h) (fun u a t H1 locs1 ht hvm hw hB hz1 hk1 hS1 => ?_)
  subst hw
  obtain ⟨rfl, hP1, hD1, -, -⟩ := hB
  rw [ht] at hP1
  exact hp ▸ kk _ ho H1 locs1 ls hP1 hD1 hS1 hl
theorem j_callS_i {y : MethodName} {ws ws' : List Cond} {bytes : ByteArray} {maxL n index : Nat} {rm : Room} {As : List Value} {f : Option (Int32 × jS)} {K : (Int32 × jS) → Option ρ} {stk : List Value} (hC : jC z d A l Rm nL cc own rt Ts) (hM : jMi l y ws rm d w A As σ f) (hg : GoodIn Ts (va_wsS own index y ws)) (hw0 : ws = Cond.code y bytes maxL (some .int) :: ws') (hrc : rm.cells = 0) (hrs : rm.slots = 0) (hyd : y.cls ≠ "java/lang/invoke/MethodHandle" ∧ y.cls ≠ "java/lang/invoke/VarHandle" ∧ (parseMethodDescriptor y.desc).map (fun d => d.parameters.length) = some n) (hR : rm.frames + 1 ≤ Rm.frames ∧ 8 + (maxL + 11) + rm.locals ≤ Rm.locals) (hn : As.length = n) (hst : stk = As.reverse ++ st) (hr8 : (st.map fun v => v.category).sum ≤ 8) (hd : decode cc pc = .ok (.invokestatic index, 3)) (hp : pc + 3 = pc') (kk : ∀ q : Int32 × jS, jJ z d w A nL Q res q.2 (K q) pc' lv (.int q.1 :: st)) : jJ z d w A nL Q res σ (f.bind K) pc lv stk := by
  intro ho H locs ls hP hD hS hl
  subst hst
  obtain ⟨res0, hf, ho⟩ : ∃ r, f = some r ∧ K r = some res := by
    cases f with
    | none => cases ho
    | some r => exact ⟨r, rfl, ho⟩
  refine va_calli (va_runS (As := As) (rest := st) ⟨hC.1, hC.2.1, hC.2.2.1, hC.2.2.2.1, hC.2.2.2.2.1⟩ (hC.2.2.2.2.2.2.2.1 ▸ hM res0 hf) (va_cwS n hC.2.2.2.2.1 hg hw0 hrc hrs hyd (hC.2.2.2.2.2.2.2.2.1 ▸ hR)) ⟨jPre.blind, fun U hU hW => ⟨rfl, jPre.go hP hD hC.2.2.2.2.2.1 hC.2.2.2.2.2.2.1 hS hU hW⟩⟩ rfl hn hl.1 rfl (lv_room hr8) hd ⟨Nat.zero_le _, Nat.zero_le _⟩) hS (fun q _ h => h) (fun q h => h) (fun r u t H1 locs1 ht hvm hw hB hz1 hk1 hS1 => ?_)
  obtain ⟨rfl, rfl⟩ := hw
  obtain ⟨hP1, hD1, -, -⟩ := hB
  rw [ht] at hP1
  exact hp ▸ kk _ ho H1 locs1 ls hP1 hD1 hS1 hl
theorem j_callS_ir {y : MethodName} {ws ws' : List Cond} {bytes : ByteArray} {maxL n index : Nat} {rm : Room} {As : List Value} {f : Option (Int32)} {K : Int32 → Option ρ} {stk : List Value} (hC : jC z d A l Rm nL cc own rt Ts) (hM : jMir l y ws rm d w A As σ f) (hg : GoodIn Ts (va_wsS own index y ws)) (hw0 : ws = Cond.code y bytes maxL (some .int) :: ws') (hrc : rm.cells = 0) (hrs : rm.slots = 0) (hyd : y.cls ≠ "java/lang/invoke/MethodHandle" ∧ y.cls ≠ "java/lang/invoke/VarHandle" ∧ (parseMethodDescriptor y.desc).map (fun d => d.parameters.length) = some n) (hR : rm.frames + 1 ≤ Rm.frames ∧ 8 + (maxL + 11) + rm.locals ≤ Rm.locals) (hn : As.length = n) (hst : stk = As.reverse ++ st) (hr8 : (st.map fun v => v.category).sum ≤ 8) (hd : decode cc pc = .ok (.invokestatic index, 3)) (hp : pc + 3 = pc') (kk : ∀ q : Int32, jJ z d w A nL Q res σ (K q) pc' lv (.int q :: st)) : jJ z d w A nL Q res σ (f.bind K) pc lv stk := by
  intro ho H locs ls hP hD hS hl
  subst hst
  obtain ⟨res0, hf, ho⟩ : ∃ r, f = some r ∧ K r = some res := by
    cases f with
    | none => cases ho
    | some r => exact ⟨r, rfl, ho⟩
  refine va_calli (va_runS (As := As) (rest := st) ⟨hC.1, hC.2.1, hC.2.2.1, hC.2.2.2.1, hC.2.2.2.2.1⟩ (hC.2.2.2.2.2.2.2.1 ▸ hM res0 hf) (va_cwS n hC.2.2.2.2.1 hg hw0 hrc hrs hyd (hC.2.2.2.2.2.2.2.2.1 ▸ hR)) ⟨jPre.blind, fun U hU hW => ⟨rfl, jPre.go hP hD hC.2.2.2.2.2.1 hC.2.2.2.2.2.2.1 hS hU hW⟩⟩ rfl hn hl.1 rfl (lv_room hr8) hd ⟨Nat.zero_le _, Nat.zero_le _⟩) hS (fun q _ h => h) (fun q h => h) (fun r u t H1 locs1 ht hvm hw hB hz1 hk1 hS1 => ?_)
  obtain ⟨rfl, rfl⟩ := hw
  obtain ⟨hP1, hD1, -, -⟩ := hB
  rw [ht] at hP1
  exact hp ▸ kk _ ho H1 locs1 ls hP1 hD1 hS1 hl
theorem j_callS_z {y : MethodName} {ws ws' : List Cond} {bytes : ByteArray} {maxL n index : Nat} {rm : Room} {As : List Value} {f : Option (Int32 × jS)} {K : (Int32 × jS) → Option ρ} {stk : List Value} (hC : jC z d A l Rm nL cc own rt Ts) (hM : jMz l y ws rm d w A As σ f) (hg : GoodIn Ts (va_wsS own index y ws)) (hw0 : ws = Cond.code y bytes maxL (some .boolean) :: ws') (hrc : rm.cells = 0) (hrs : rm.slots = 0) (hyd : y.cls ≠ "java/lang/invoke/MethodHandle" ∧ y.cls ≠ "java/lang/invoke/VarHandle" ∧ (parseMethodDescriptor y.desc).map (fun d => d.parameters.length) = some n) (hR : rm.frames + 1 ≤ Rm.frames ∧ 8 + (maxL + 11) + rm.locals ≤ Rm.locals) (hn : As.length = n) (hst : stk = As.reverse ++ st) (hr8 : (st.map fun v => v.category).sum ≤ 8) (hd : decode cc pc = .ok (.invokestatic index, 3)) (hp : pc + 3 = pc') (kk : ∀ q : Int32 × jS, jJ z d w A nL Q res q.2 (K q) pc' lv (.int (jb q.1) :: st)) : jJ z d w A nL Q res σ (f.bind K) pc lv stk := by
  intro ho H locs ls hP hD hS hl
  subst hst
  obtain ⟨res0, hf, ho⟩ : ∃ r, f = some r ∧ K r = some res := by
    cases f with
    | none => cases ho
    | some r => exact ⟨r, rfl, ho⟩
  refine va_calli (va_runS (As := As) (rest := st) ⟨hC.1, hC.2.1, hC.2.2.1, hC.2.2.2.1, hC.2.2.2.2.1⟩ (hC.2.2.2.2.2.2.2.1 ▸ hM res0 hf) (va_cwS n hC.2.2.2.2.1 hg hw0 hrc hrs hyd (hC.2.2.2.2.2.2.2.2.1 ▸ hR)) ⟨jPre.blind, fun U hU hW => ⟨rfl, jPre.go hP hD hC.2.2.2.2.2.1 hC.2.2.2.2.2.2.1 hS hU hW⟩⟩ rfl hn hl.1 rfl (lv_room hr8) hd ⟨Nat.zero_le _, Nat.zero_le _⟩) hS (fun q _ h => h) (fun q h => h) (fun r u t H1 locs1 ht hvm hw hB hz1 hk1 hS1 => ?_)
  obtain ⟨rfl, rfl⟩ := hw
  obtain ⟨hP1, hD1, -, -⟩ := hB
  rw [ht] at hP1
  exact hp ▸ kk _ ho H1 locs1 ls hP1 hD1 hS1 hl
theorem j_callS_zr {y : MethodName} {ws ws' : List Cond} {bytes : ByteArray} {maxL n index : Nat} {rm : Room} {As : List Value} {f : Option (Int32)} {K : Int32 → Option ρ} {stk : List Value} (hC : jC z d A l Rm nL cc own rt Ts) (hM : jMzr l y ws rm d w A As σ f) (hg : GoodIn Ts (va_wsS own index y ws)) (hw0 : ws = Cond.code y bytes maxL (some .boolean) :: ws') (hrc : rm.cells = 0) (hrs : rm.slots = 0) (hyd : y.cls ≠ "java/lang/invoke/MethodHandle" ∧ y.cls ≠ "java/lang/invoke/VarHandle" ∧ (parseMethodDescriptor y.desc).map (fun d => d.parameters.length) = some n) (hR : rm.frames + 1 ≤ Rm.frames ∧ 8 + (maxL + 11) + rm.locals ≤ Rm.locals) (hn : As.length = n) (hst : stk = As.reverse ++ st) (hr8 : (st.map fun v => v.category).sum ≤ 8) (hd : decode cc pc = .ok (.invokestatic index, 3)) (hp : pc + 3 = pc') (kk : ∀ q : Int32, jJ z d w A nL Q res σ (K q) pc' lv (.int (jb q) :: st)) : jJ z d w A nL Q res σ (f.bind K) pc lv stk := by
  intro ho H locs ls hP hD hS hl
  subst hst
  obtain ⟨res0, hf, ho⟩ : ∃ r, f = some r ∧ K r = some res := by
    cases f with
    | none => cases ho
    | some r => exact ⟨r, rfl, ho⟩
  refine va_calli (va_runS (As := As) (rest := st) ⟨hC.1, hC.2.1, hC.2.2.1, hC.2.2.2.1, hC.2.2.2.2.1⟩ (hC.2.2.2.2.2.2.2.1 ▸ hM res0 hf) (va_cwS n hC.2.2.2.2.1 hg hw0 hrc hrs hyd (hC.2.2.2.2.2.2.2.2.1 ▸ hR)) ⟨jPre.blind, fun U hU hW => ⟨rfl, jPre.go hP hD hC.2.2.2.2.2.1 hC.2.2.2.2.2.2.1 hS hU hW⟩⟩ rfl hn hl.1 rfl (lv_room hr8) hd ⟨Nat.zero_le _, Nat.zero_le _⟩) hS (fun q _ h => h) (fun q h => h) (fun r u t H1 locs1 ht hvm hw hB hz1 hk1 hS1 => ?_)
  obtain ⟨rfl, rfl⟩ := hw
  obtain ⟨hP1, hD1, -, -⟩ := hB
  rw [ht] at hP1
  exact hp ▸ kk _ ho H1 locs1 ls hP1 hD1 hS1 hl
theorem j_callS_l {y : MethodName} {ws ws' : List Cond} {bytes : ByteArray} {maxL n index : Nat} {rm : Room} {As : List Value} {f : Option (Int64 × jS)} {K : (Int64 × jS) → Option ρ} {stk : List Value} (hC : jC z d A l Rm nL cc own rt Ts) (hM : jMl l y ws rm d w A As σ f) (hg : GoodIn Ts (va_wsS own index y ws)) (hw0 : ws = Cond.code y bytes maxL (some .long) :: ws') (hrc : rm.cells = 0) (hrs : rm.slots = 0) (hyd : y.cls ≠ "java/lang/invoke/MethodHandle" ∧ y.cls ≠ "java/lang/invoke/VarHandle" ∧ (parseMethodDescriptor y.desc).map (fun d => d.parameters.length) = some n) (hR : rm.frames + 1 ≤ Rm.frames ∧ 8 + (maxL + 11) + rm.locals ≤ Rm.locals) (hn : As.length = n) (hst : stk = As.reverse ++ st) (hr8 : (st.map fun v => v.category).sum ≤ 8) (hd : decode cc pc = .ok (.invokestatic index, 3)) (hp : pc + 3 = pc') (kk : ∀ q : Int64 × jS, jJ z d w A nL Q res q.2 (K q) pc' lv (.long q.1 :: st)) : jJ z d w A nL Q res σ (f.bind K) pc lv stk := by
  intro ho H locs ls hP hD hS hl
  subst hst
  obtain ⟨res0, hf, ho⟩ : ∃ r, f = some r ∧ K r = some res := by
    cases f with
    | none => cases ho
    | some r => exact ⟨r, rfl, ho⟩
  refine va_calll (va_runS (As := As) (rest := st) ⟨hC.1, hC.2.1, hC.2.2.1, hC.2.2.2.1, hC.2.2.2.2.1⟩ (hC.2.2.2.2.2.2.2.1 ▸ hM res0 hf) (va_cwS n hC.2.2.2.2.1 hg hw0 hrc hrs hyd (hC.2.2.2.2.2.2.2.2.1 ▸ hR)) ⟨jPre.blind, fun U hU hW => ⟨rfl, jPre.go hP hD hC.2.2.2.2.2.1 hC.2.2.2.2.2.2.1 hS hU hW⟩⟩ rfl hn hl.1 rfl (lv_room hr8) hd ⟨Nat.zero_le _, Nat.zero_le _⟩) hS (fun q _ h => h) (fun q h => h) (fun r u t H1 locs1 ht hvm hw hB hz1 hk1 hS1 => ?_)
  obtain ⟨rfl, rfl⟩ := hw
  obtain ⟨hP1, hD1, -, -⟩ := hB
  rw [ht] at hP1
  exact hp ▸ kk _ ho H1 locs1 ls hP1 hD1 hS1 hl
theorem j_callS_lr {y : MethodName} {ws ws' : List Cond} {bytes : ByteArray} {maxL n index : Nat} {rm : Room} {As : List Value} {f : Option (Int64)} {K : Int64 → Option ρ} {stk : List Value} (hC : jC z d A l Rm nL cc own rt Ts) (hM : jMlr l y ws rm d w A As σ f) (hg : GoodIn Ts (va_wsS own index y ws)) (hw0 : ws = Cond.code y bytes maxL (some .long) :: ws') (hrc : rm.cells = 0) (hrs : rm.slots = 0) (hyd : y.cls ≠ "java/lang/invoke/MethodHandle" ∧ y.cls ≠ "java/lang/invoke/VarHandle" ∧ (parseMethodDescriptor y.desc).map (fun d => d.parameters.length) = some n) (hR : rm.frames + 1 ≤ Rm.frames ∧ 8 + (maxL + 11) + rm.locals ≤ Rm.locals) (hn : As.length = n) (hst : stk = As.reverse ++ st) (hr8 : (st.map fun v => v.category).sum ≤ 8) (hd : decode cc pc = .ok (.invokestatic index, 3)) (hp : pc + 3 = pc') (kk : ∀ q : Int64, jJ z d w A nL Q res σ (K q) pc' lv (.long q :: st)) : jJ z d w A nL Q res σ (f.bind K) pc lv stk := by
  intro ho H locs ls hP hD hS hl
  subst hst
  obtain ⟨res0, hf, ho⟩ : ∃ r, f = some r ∧ K r = some res := by
    cases f with
    | none => cases ho
    | some r => exact ⟨r, rfl, ho⟩
  refine va_calll (va_runS (As := As) (rest := st) ⟨hC.1, hC.2.1, hC.2.2.1, hC.2.2.2.1, hC.2.2.2.2.1⟩ (hC.2.2.2.2.2.2.2.1 ▸ hM res0 hf) (va_cwS n hC.2.2.2.2.1 hg hw0 hrc hrs hyd (hC.2.2.2.2.2.2.2.2.1 ▸ hR)) ⟨jPre.blind, fun U hU hW => ⟨rfl, jPre.go hP hD hC.2.2.2.2.2.1 hC.2.2.2.2.2.2.1 hS hU hW⟩⟩ rfl hn hl.1 rfl (lv_room hr8) hd ⟨Nat.zero_le _, Nat.zero_le _⟩) hS (fun q _ h => h) (fun q h => h) (fun r u t H1 locs1 ht hvm hw hB hz1 hk1 hS1 => ?_)
  obtain ⟨rfl, rfl⟩ := hw
  obtain ⟨hP1, hD1, -, -⟩ := hB
  rw [ht] at hP1
  exact hp ▸ kk _ ho H1 locs1 ls hP1 hD1 hS1 hl
theorem j_callS_v {y : MethodName} {ws ws' : List Cond} {bytes : ByteArray} {maxL n index : Nat} {rm : Room} {As : List Value} {f : Option (jS)} {K : jS → Option ρ} {stk : List Value} (hC : jC z d A l Rm nL cc own rt Ts) (hM : jMv l y ws rm d w A As σ f) (hg : GoodIn Ts (va_wsS own index y ws)) (hw0 : ws = Cond.code y bytes maxL none :: ws') (hrc : rm.cells = 0) (hrs : rm.slots = 0) (hyd : y.cls ≠ "java/lang/invoke/MethodHandle" ∧ y.cls ≠ "java/lang/invoke/VarHandle" ∧ (parseMethodDescriptor y.desc).map (fun d => d.parameters.length) = some n) (hR : rm.frames + 1 ≤ Rm.frames ∧ 8 + (maxL + 11) + rm.locals ≤ Rm.locals) (hn : As.length = n) (hst : stk = As.reverse ++ st) (hr8 : (st.map fun v => v.category).sum ≤ 8) (hd : decode cc pc = .ok (.invokestatic index, 3)) (hp : pc + 3 = pc') (kk : ∀ q : jS, jJ z d w A nL Q res q (K q) pc' lv st) : jJ z d w A nL Q res σ (f.bind K) pc lv stk := by
  intro ho H locs ls hP hD hS hl
  subst hst
  obtain ⟨res0, hf, ho⟩ : ∃ r, f = some r ∧ K r = some res := by
    cases f with
    | none => cases ho
    | some r => exact ⟨r, rfl, ho⟩
  refine va_callv (va_runS (As := As) (rest := st) ⟨hC.1, hC.2.1, hC.2.2.1, hC.2.2.2.1, hC.2.2.2.2.1⟩ (hC.2.2.2.2.2.2.2.1 ▸ hM res0 hf) (va_cwS n hC.2.2.2.2.1 hg hw0 hrc hrs hyd (hC.2.2.2.2.2.2.2.2.1 ▸ hR)) ⟨jPre.blind, fun U hU hW => ⟨rfl, jPre.go hP hD hC.2.2.2.2.2.1 hC.2.2.2.2.2.2.1 hS hU hW⟩⟩ rfl hn hl.1 rfl (lv_room hr8) hd ⟨Nat.zero_le _, Nat.zero_le _⟩) hS (fun q _ h => h) (fun q h => h) (fun u t H1 locs1 ht hvm hw hB hz1 hk1 hS1 => ?_)
  subst hw
  obtain ⟨hP1, hD1, -, -⟩ := hB
  rw [ht] at hP1
  exact hp ▸ kk _ ho H1 locs1 ls hP1 hD1 hS1 hl
/-- the place of a letter in the names; -1 -/
def jIx (c : Int32) : Int32 := if c = 104 then 0 else if c = 115 then 1 else if c = 119 then 2 else if c = 114 then 3 else if c = 113 then 4 else if c = 112 then 5 else -1
theorem j_ldcS (hC : jC z d A l Rm nL cc RX4 rt Ts) (hd : decode cc pc = .ok (.ldc 77, 2)) (hp : pc + 2 = pc') (kk : jJ z d w A nL Q res σ o pc' lv (.ref (d.2.2.2 4) :: st)) : jJ z d w A nL Q res σ o pc lv st := by
  intro ho H locs ls hP hD hS hl
  exact va_ldcS hC.1 hC.2.1 hC.2.2.2.1 hC.2.2.2.2.2.2.1.2.2.2.2.1 hd (hp ▸ kk ho H locs ls hP hD hS hl)

theorem j_callT_ir {y : MethodName} {ws ws' : List Cond} {bytes : ByteArray} {maxL n index : Nat} {rm : Room} {As : List Value} {f : Option (Int32)} {K : Int32 → Option ρ} {stk : List Value} (hC : jC z d A l Rm nL cc own rt Ts) {C : String} (hCs : C = "java/lang/String") (hM : jMir l y ws rm d w A (.ref (d.2.2.2 4) :: As) σ f) (hg : GoodIn Ts (wsV own index C y ws)) (hw0 : ws = Cond.code y bytes maxL (some .int) :: ws') (hrc : rm.cells = 0) (hrs : rm.slots = 0) (hyd : y.cls = C ∧ y.cls ≠ "java/lang/invoke/MethodHandle" ∧ y.cls ≠ "java/lang/invoke/VarHandle" ∧ (parseMethodDescriptor y.desc).map (fun d => d.parameters.length) = some n) (hR : rm.frames + 1 ≤ Rm.frames ∧ 8 + (maxL + 11) + rm.locals ≤ Rm.locals) (hn : As.length = n) (hst : stk = As.reverse ++ .ref (d.2.2.2 4) :: st) (hr8 : (st.map fun v => v.category).sum ≤ 8) (hd : decode cc pc = .ok (.invokevirtual index, 3)) (hp : pc + 3 = pc') (kk : ∀ q : Int32, jJ z d w A nL Q res σ (K q) pc' lv (.int q :: st)) : jJ z d w A nL Q res σ (f.bind K) pc lv stk := by
  intro ho H locs ls hP hD hS hl
  subst hst
  obtain ⟨res0, hf, ho⟩ : ∃ r, f = some r ∧ K r = some res := by
    cases f with
    | none => cases ho
    | some r => exact ⟨r, rfl, ho⟩
  refine va_calli (va_runV (As := As) (rest := st) ⟨hC.1, hC.2.1, hC.2.2.1, hC.2.2.2.1, hC.2.2.2.2.1⟩ (hC.2.2.2.2.2.2.2.1 ▸ hM res0 hf) (cwV n hC.2.2.2.2.1 hg hw0 hrc hrs hyd (hC.2.2.2.2.2.2.2.2.1 ▸ hR)) ⟨jPre.blind, hCs ▸ vk_recv (i := 0) hC.2.2.2.2.2.2.1.2.2.2.2.2.1 (by decide) hS, fun U hU hW => ⟨rfl, jPre.go hP hD hC.2.2.2.2.2.1 hC.2.2.2.2.2.2.1 hS hU hW⟩⟩ rfl hn hl.1 rfl (lv_room hr8) hd ⟨Nat.zero_le _, Nat.zero_le _⟩) hS (fun q _ h => h) (fun q h => h) (fun r u t H1 locs1 ht hvm hw hB hz1 hk1 hS1 => ?_)
  obtain ⟨rfl, rfl⟩ := hw
  obtain ⟨hP1, hD1, -, -⟩ := hB
  rw [ht] at hP1
  exact hp ▸ kk _ ho H1 locs1 ls hP1 hD1 hS1 hl
theorem j_callT_zr {y : MethodName} {ws ws' : List Cond} {bytes : ByteArray} {maxL n index : Nat} {rm : Room} {As : List Value} {f : Option (Int32)} {K : Int32 → Option ρ} {stk : List Value} (hC : jC z d A l Rm nL cc own rt Ts) {C : String} (hCs : C = "java/lang/String") (hM : jMzr l y ws rm d w A (.ref (d.2.2.2 4) :: As) σ f) (hg : GoodIn Ts (wsV own index C y ws)) (hw0 : ws = Cond.code y bytes maxL (some .boolean) :: ws') (hrc : rm.cells = 0) (hrs : rm.slots = 0) (hyd : y.cls = C ∧ y.cls ≠ "java/lang/invoke/MethodHandle" ∧ y.cls ≠ "java/lang/invoke/VarHandle" ∧ (parseMethodDescriptor y.desc).map (fun d => d.parameters.length) = some n) (hR : rm.frames + 1 ≤ Rm.frames ∧ 8 + (maxL + 11) + rm.locals ≤ Rm.locals) (hn : As.length = n) (hst : stk = As.reverse ++ .ref (d.2.2.2 4) :: st) (hr8 : (st.map fun v => v.category).sum ≤ 8) (hd : decode cc pc = .ok (.invokevirtual index, 3)) (hp : pc + 3 = pc') (kk : ∀ q : Int32, jJ z d w A nL Q res σ (K q) pc' lv (.int (jb q) :: st)) : jJ z d w A nL Q res σ (f.bind K) pc lv stk := by
  intro ho H locs ls hP hD hS hl
  subst hst
  obtain ⟨res0, hf, ho⟩ : ∃ r, f = some r ∧ K r = some res := by
    cases f with
    | none => cases ho
    | some r => exact ⟨r, rfl, ho⟩
  refine va_calli (va_runV (As := As) (rest := st) ⟨hC.1, hC.2.1, hC.2.2.1, hC.2.2.2.1, hC.2.2.2.2.1⟩ (hC.2.2.2.2.2.2.2.1 ▸ hM res0 hf) (cwV n hC.2.2.2.2.1 hg hw0 hrc hrs hyd (hC.2.2.2.2.2.2.2.2.1 ▸ hR)) ⟨jPre.blind, hCs ▸ vk_recv (i := 0) hC.2.2.2.2.2.2.1.2.2.2.2.2.1 (by decide) hS, fun U hU hW => ⟨rfl, jPre.go hP hD hC.2.2.2.2.2.1 hC.2.2.2.2.2.2.1 hS hU hW⟩⟩ rfl hn hl.1 rfl (lv_room hr8) hd ⟨Nat.zero_le _, Nat.zero_le _⟩) hS (fun q _ h => h) (fun q h => h) (fun r u t H1 locs1 ht hvm hw hB hz1 hk1 hS1 => ?_)
  obtain ⟨rfl, rfl⟩ := hw
  obtain ⟨hP1, hD1, -, -⟩ := hB
  rw [ht] at hP1
  exact hp ▸ kk _ ho H1 locs1 ls hP1 hD1 hS1 hl
theorem j_callT_br {y : MethodName} {ws ws' : List Cond} {bytes : ByteArray} {maxL n index : Nat} {rm : Room} {As : List Value} {f : Option (Int32)} {K : Int32 → Option ρ} {stk : List Value} (hC : jC z d A l Rm nL cc own rt Ts) {C : String} (hCs : C = "java/lang/String") (hM : jMbr l y ws rm d w A (.ref (d.2.2.2 4) :: As) σ f) (hg : GoodIn Ts (wsV own index C y ws)) (hw0 : ws = Cond.code y bytes maxL (some .byte) :: ws') (hrc : rm.cells = 0) (hrs : rm.slots = 0) (hyd : y.cls = C ∧ y.cls ≠ "java/lang/invoke/MethodHandle" ∧ y.cls ≠ "java/lang/invoke/VarHandle" ∧ (parseMethodDescriptor y.desc).map (fun d => d.parameters.length) = some n) (hR : rm.frames + 1 ≤ Rm.frames ∧ 8 + (maxL + 11) + rm.locals ≤ Rm.locals) (hn : As.length = n) (hst : stk = As.reverse ++ .ref (d.2.2.2 4) :: st) (hr8 : (st.map fun v => v.category).sum ≤ 8) (hd : decode cc pc = .ok (.invokevirtual index, 3)) (hp : pc + 3 = pc') (kk : ∀ q : Int32, jJ z d w A nL Q res σ (K q) pc' lv (.int q :: st)) : jJ z d w A nL Q res σ (f.bind K) pc lv stk := by
  intro ho H locs ls hP hD hS hl
  subst hst
  obtain ⟨res0, hf, ho⟩ : ∃ r, f = some r ∧ K r = some res := by
    cases f with
    | none => cases ho
    | some r => exact ⟨r, rfl, ho⟩
  refine va_calli (va_runV (As := As) (rest := st) ⟨hC.1, hC.2.1, hC.2.2.1, hC.2.2.2.1, hC.2.2.2.2.1⟩ (hC.2.2.2.2.2.2.2.1 ▸ hM res0 hf) (cwV n hC.2.2.2.2.1 hg hw0 hrc hrs hyd (hC.2.2.2.2.2.2.2.2.1 ▸ hR)) ⟨jPre.blind, hCs ▸ vk_recv (i := 0) hC.2.2.2.2.2.2.1.2.2.2.2.2.1 (by decide) hS, fun U hU hW => ⟨rfl, jPre.go hP hD hC.2.2.2.2.2.1 hC.2.2.2.2.2.2.1 hS hU hW⟩⟩ rfl hn hl.1 rfl (lv_room hr8) hd ⟨Nat.zero_le _, Nat.zero_le _⟩) hS (fun q _ h => h) (fun q h => h) (fun r u t H1 locs1 ht hvm hw hB hz1 hk1 hS1 => ?_)
  obtain ⟨rfl, rfl⟩ := hw
  obtain ⟨hP1, hD1, -, -⟩ := hB
  rw [ht] at hP1
  exact hp ▸ kk _ ho H1 locs1 ls hP1 hD1 hS1 hl
theorem j_getsZ (hC : jC z d A l Rm nL cc own rt Ts) {C n : String} {v : Value} {index : Nat} (hF : va_Z C n "Z" v A z.2.2.2.2.1 z.2.2.2.2.1.heap) (hlink : Cond.fieldLink own index C n "Z" ∈ Ts) (hd : decode cc pc = .ok (.getstatic index, 3)) (hp : pc + 3 = pc') (kk : jJ z d w A nL Q res σ o pc' lv (v :: st)) : jJ z d w A nL Q res σ o pc lv st := by
  intro ho H locs ls hP hD hS hl
  exact va_gets hC.1 hC.2.1 hF hS hC.2.2.2.1 (hC.2.2.2.2.1 _ hlink) (fun _ h9 => h9) hd (hp ▸ kk ho H locs ls hP hD hS hl)
theorem j_strf (hC : jC z d A l Rm nL cc own rt Ts) {n ds : String} {v : Value} {index q : Nat} (hF : va_OF "java/lang/String" n ds v q A z.2.2.2.2.1 z.2.2.2.2.1.heap) (hlink : Cond.fieldLink own index "java/lang/String" n ds ∈ Ts) (hd : decode cc pc = .ok (.getfield index, 3)) (hp : pc + 3 = pc') (kk : jJ z d w A nL Q res σ o pc' lv (v :: st)) : jJ z d w A nL Q res σ o pc lv (.ref q :: st) := by
  intro ho H locs ls hP hD hS hl
  exact vk_getf hC.1 hC.2.1 hF hS hC.2.2.2.1 (hC.2.2.2.2.1 _ hlink) (fun _ h9 => h9) hd (hp ▸ kk ho H locs ls hP hD hS hl)
theorem j_tlen (hC : jC z d A l Rm nL cc own rt Ts) {ty : FieldType} {t N : Nat} {f : Nat → Value} {v : Int32} (hF : va_T ty t N f A z.2.2.2.2.1 z.2.2.2.2.1.heap) (hv : Int32.ofNat N = v) (hd : decode cc pc = .ok (.arraylength, 1)) (hp : pc + 1 = pc') (kk : jJ z d w A nL Q res σ o pc' lv (.int v :: st)) : jJ z d w A nL Q res σ o pc lv (.ref t :: st) := by
  intro ho H locs ls hP hD hS hl
  exact va_tlen hC.1 hC.2.1 hF hS hv hd (hp ▸ kk ho H locs ls hP hD hS hl)
theorem j_tb (hC : jC z d A l Rm nL cc own rt Ts) {t N : Nat} {f : Nat → Int32} {i : Int32} (hF : va_T .byte t N (fun j => .int (f j)) A z.2.2.2.2.1 z.2.2.2.2.1.heap) (hd : decode cc pc = .ok (.baload, 1)) (hp : pc + 1 = pc') (kk : jJ z d w A nL Q res σ o pc' lv (.int (f i.toNatClampNeg) :: st)) : jJ z d w A nL Q res σ (ob i N o) pc lv (.int i :: .ref t :: st) := by
  intro ho H locs ls hP hD hS hl
  unfold ob at ho
  by_cases hi : i < 0 ∨ N ≤ i.toNatClampNeg
  · rw [if_pos hi] at ho; cases ho
  · rw [if_neg hi] at ho
    exact va_tb hC.1 hC.2.1 hF hS hi rfl hd (hp ▸ kk ho H locs ls hP hD hS hl)
end JR
