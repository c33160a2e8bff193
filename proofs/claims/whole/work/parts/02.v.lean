theorem arrV_cg {cI : ClassId} {N : Nat} {f g : Nat → Value} (h : ∀ j, j < N → f j = g j) : arrV cI N f = arrV cI N g := by
  unfold arrV
  have : (fun j : Fin N => f j.val) = (fun j : Fin N => g j.val) := funext (fun j => h j.val j.isLt)
  rw [this]
/-! The walk V: the machine at a program counter, with a world, locals and a stack; whatever the heap, it comes to Q. One row an instruction. -/
def NW (U : State) : Prop := va_Nw (.methodLinkNest RX1 55 yX5_isWithin RX5) U ∧ va_Nw (.methodLinkNest RX2 21 yX0_init RX5) U ∧ va_Nw (.methodLinkNest RX5 9 yX4_init RX5) U ∧ va_Nw (.methodLinkNest RX5 18 yX1_init RX5) U ∧ va_Nw (.methodLinkNest RX5 28 yX0_init RX5) U ∧ va_Nw (.methodLinkNest RX5 50 yX3_init RX5) U
theorem NW.same {u U : State} (h : u.vm = U.vm) (n : NW u) : NW U := ⟨va_Nw.same rfl h n.1, va_Nw.same rfl h n.2.1, va_Nw.same rfl h n.2.2.1, va_Nw.same rfl h n.2.2.2.1, va_Nw.same rfl h n.2.2.2.2.1, va_Nw.same rfl h n.2.2.2.2.2⟩
theorem NW.warm {s U : State} (h : s.WarmedH U.vm) (n : NW s) : NW U := ⟨va_Nw.warmM h n.1, va_Nw.warmM h n.2.1, va_Nw.warmM h n.2.2.1, va_Nw.warmM h n.2.2.2.1, va_Nw.warmM h n.2.2.2.2.1, va_Nw.warmM h n.2.2.2.2.2⟩
/-- the classes' numbers and slots; the array classes of int, char, boolean, Line -/
abbrev GG : Type := va_G × ClassId × ClassId × ClassId × ClassId
abbrev tysG (G : GG) : List (ClassId × FieldType) := [(G.2.1, .int), (G.2.2.1, .char), (G.2.2.2.1, .boolean), (G.2.2.2.2, .object RX0)]
def KK (G : GG) (U : State) : Prop := va_K G.1 vwCl (tysG G) U ∧ NW U
theorem KK.warm {G : GG} {s U : State} (h : s.WarmedH U.vm) (k : KK G s) : KK G U := ⟨va_K.moved h.alike k.1, NW.warm h k.2⟩
theorem KK.same {G : GG} {s U : State} (h : s.vm = U.vm) (k : KK G s) : KK G U := ⟨va_K.moved (by rw [h]; exact Vm.Alike.refl U.vm) k.1, NW.same h k.2⟩
def cPre (G : GG) (wc : va_W) (sz : Nat) : State → Prop := fun U => U.heap.size = sz ∧ va_P G.1 vwCl wc U.heap ∧ KK G U ∧ va_D (fun _ => True) wc
theorem cPre.blind {G : GG} {wc : va_W} {sz : Nat} {av : List Value} : FrameBlind (va_Pc av (cPre G wc sz)) := fun a U g mk q => by
  obtain ⟨q0, q1, qP, qK, qD⟩ := q
  exact ⟨q0, q1, qP, KK.same (s := U) (U := U.calling g mk a) rfl qK, qD⟩
/-- a contract: in the world wc at these arguments the answer is r, the world is wc' u then, for some u; nothing is made -/
def CI (l : Launch) (y : MethodName) (wsy : List Cond) (rm : Room) (G : GG) (wc : va_W) (av : List Value) (r : Int32) {S : Type} (wc' : S → va_W) : Prop := ∀ sz : Nat, Met l y wsy rm (va_Pc av (cPre G wc sz)) (va_Qi (fun (r' : Int32) (_ : S) => r' = r) (fun u t => va_P G.1 vwCl (wc' u) t.heap ∧ va_D (va_A wc sz) (wc' u)) (va_A wc sz)) 0 0 (va_A wc sz)
def CL (l : Launch) (y : MethodName) (wsy : List Cond) (rm : Room) (G : GG) (wc : va_W) (av : List Value) (r : Int64) {S : Type} (wc' : S → va_W) : Prop := ∀ sz : Nat, Met l y wsy rm (va_Pc av (cPre G wc sz)) (va_Ql (fun (r' : Int64) (_ : S) => r' = r) (fun u t => va_P G.1 vwCl (wc' u) t.heap ∧ va_D (va_A wc sz) (wc' u)) (va_A wc sz)) 0 0 (va_A wc sz)
def CV (l : Launch) (y : MethodName) (wsy : List Cond) (rm : Room) (G : GG) (wc : va_W) (av : List Value) {S : Type} (wc' : S → va_W) : Prop := ∀ sz : Nat, Met l y wsy rm (va_Pc av (cPre G wc sz)) (va_Qv (fun (_ : S) => True) (fun u t => va_P G.1 vwCl (wc' u) t.heap ∧ va_D (va_A wc sz) (wc' u)) (va_A wc sz)) 0 0 (va_A wc sz)
theorem map_at {ws w : va_W} {is : List Nat} (hs : is.map (fun i => ws[i]?) = w.map some) (k : Nat) (q : Nat × va_E) (hq : w[k]? = some q) : ∃ i, is[k]? = some i ∧ ws[i]? = some q := by
  have h1 : (is.map (fun i => ws[i]?))[k]? = some (some q) := by rw [hs, List.getElem?_map, hq]; rfl
  rw [List.getElem?_map] at h1
  cases hi : is[k]? with
  | none => rw [hi] at h1; cases h1
  | some i => rw [hi] at h1; exact ⟨i, rfl, Option.some.inj h1⟩
theorem va_P.pick {D : va_G} {cl : List vw_C} {ws w : va_W} {H : Heap} (h : va_P D cl ws H) {is : List Nat} (hs : is.map (fun i => ws[i]?) = w.map some) : va_P D cl w H := fun k q hk => by
  obtain ⟨i, -, hi⟩ := map_at hs k q hk
  exact h i q hi
/-- ones and noughts of truth -/
def b2i (b : Bool) : Int32 := if b then 1 else 0
theorem b2i_t : b2i true = 1 := rfl
theorem b2i_f : b2i false = 0 := rfl
theorem b2i_nar (b : Bool) : narrow .boolean (.int (b2i b)) = .int (b2i b) := by cases b <;> rfl
section VV
variable {p : Program} {l : Launch} {e : Env} {R : Room} {s : State} {m : MethodId} {args : Array Value} {below : List Frame} {meth : Method} {c : Code} {k n : Nat} {Q : State → Prop}
variable {cc : ByteArray} {own : String} {Ts : List Cond} {nL : Nat} {G : GG} {A : Nat → Prop} {H0 : Heap}
variable {ws ws' : va_W} {lv lv' : List (Nat × Value)} {pc : Nat} {st rest : List Value}
def Vx (p : Program) (R : Room) (s : State) (m : MethodId) (args : Array Value) (c : Code) (k n : Nat) (cc : ByteArray) (own : String) (Ts : List Cond) (nL : Nat) (G : GG) (A : Nat → Prop) (H0 : Heap) : Prop :=
  p.tables.exec = Jvm.exec ∧ c.code = cc ∧ c.maxLocals = nL ∧ s.vm.findClass own = some m.cls ∧ (∀ w ∈ Ts, w.before args s = true) ∧ KK G s ∧ (∀ q : Nat, H0.size ≤ q → A q) ∧ (k ≤ R.cells ∧ n ≤ R.slots)
def V (p : Program) (l : Launch) (e : Env) (R : Room) (s : State) (m : MethodId) (args : Array Value) (below : List Frame) (meth : Method) (c : Code) (k n : Nat) (Q : State → Prop) (cc : ByteArray) (own : String) (Ts : List Cond) (nL : Nat) (G : GG) (A : Nat → Prop) (H0 : Heap) (ws : va_W) (lv : List (Nat × Value)) (pc : Nat) (st : List Value) : Prop :=
  Vx p R s m args c k n cc own Ts nL G A H0 → ∀ (H : Heap) (locs : List Loc) (ls : Array Slot), va_P G.1 vwCl ws H → va_D A ws → va_S A H0 H locs → lv_has ls nL lv → W p l e R s m args below meth c H locs k n Q (F0 m pc ls st)
theorem V_eq (hw : ws = ws') (hl : lv = lv') (kk : V p l e R s m args below meth c k n Q cc own Ts nL G A H0 ws' lv' pc st) : V p l e R s m args below meth c k n Q cc own Ts nL G A H0 ws lv pc st := by
  subst hw; subst hl; exact kk
theorem V_st {st' : List Value} (hw : st = st') (kk : V p l e R s m args below meth c k n Q cc own Ts nL G A H0 ws lv pc st') : V p l e R s m args below meth c k n Q cc own Ts nL G A H0 ws lv pc st := by
  subst hw; exact kk
/-- fewer cells, in another order -/
theorem V_ws (is : List Nat) (hn : va_nd is = true) (hs : is.map (fun i => ws[i]?) = ws'.map some) (kk : V p l e R s m args below meth c k n Q cc own Ts nL G A H0 ws' lv pc st) : V p l e R s m args below meth c k n Q cc own Ts nL G A H0 ws lv pc st :=
  fun C H locs ls hP hD hS hl => kk C H locs ls (hP.pick hs) (hD.sub is hn hs) hS hl
theorem V_lv (ks : List Nat) (hs : lv_pick lv ks = lv') (kk : V p l e R s m args below meth c k n Q cc own Ts nL G A H0 ws lv' pc st) : V p l e R s m args below meth c k n Q cc own Ts nL G A H0 ws lv pc st :=
  fun C H locs ls hP hD hS hl => kk C H locs ls hP hD hS (lv_sub hl ks hs)
theorem V_for {N : Nat} (wsf : Nat → va_W) (lvf : Nat → List (Nat × Value)) (hstep : ∀ i, i < N → V p l e R s m args below meth c k n Q cc own Ts nL G A H0 (wsf (i + 1)) (lvf (i + 1)) pc [] → V p l e R s m args below meth c k n Q cc own Ts nL G A H0 (wsf i) (lvf i) pc []) (hend : V p l e R s m args below meth c k n Q cc own Ts nL G A H0 (wsf N) (lvf N) pc []) : ∀ j i : Nat, i + j = N → V p l e R s m args below meth c k n Q cc own Ts nL G A H0 (wsf i) (lvf i) pc [] := by
  intro j
  induction j with
  | zero => intro i h; have : i = N := by omega
            subst this; exact hend
  | succ j ih => intro i h; exact hstep i (by omega) (ih (i + 1) (by omega))
/-- from the end of a counted loop to its head -/
theorem down_to {N : Nat} (P : Nat → Prop) (hstep : ∀ i, i < N → P (i + 1) → P i) (hend : P N) : ∀ j i : Nat, i + j = N → P i := by
  intro j
  induction j with
  | zero => intro i h; have : i = N := by omega
            subst this; exact hend
  | succ j ih => intro i h; exact hstep i (by omega) (ih (i + 1) (by omega))
theorem V_iconst {i : Int} {v : Int32} (hdg : decode cc pc = .ok (.iconst i, 1)) (hv : Int32.ofInt i = v) (kk : V p l e R s m args below meth c k n Q cc own Ts nL G A H0 ws lv (pc + 1) (.int v :: st)) : V p l e R s m args below meth c k n Q cc own Ts nL G A H0 ws lv pc st :=
  fun C H locs ls hP hD hS hl => lv_iconst C.1 C.2.1 hdg hv (kk C H locs ls hP hD hS hl)
theorem V_bipush {i : Int} {v : Int32} (hdg : decode cc pc = .ok (.bipush i, 2)) (hv : (Int8.ofInt i).toInt32 = v) (kk : V p l e R s m args below meth c k n Q cc own Ts nL G A H0 ws lv (pc + 2) (.int v :: st)) : V p l e R s m args below meth c k n Q cc own Ts nL G A H0 ws lv pc st :=
  fun C H locs ls hP hD hS hl => lv_bipush C.1 C.2.1 hdg hv (kk C H locs ls hP hD hS hl)
theorem V_sipush {i : Int} {v : Int32} (hdg : decode cc pc = .ok (.sipush i, 3)) (hv : (Int16.ofInt i).toInt32 = v) (kk : V p l e R s m args below meth c k n Q cc own Ts nL G A H0 ws lv (pc + 3) (.int v :: st)) : V p l e R s m args below meth c k n Q cc own Ts nL G A H0 ws lv pc st :=
  fun C H locs ls hP hD hS hl => lv_sipush C.1 C.2.1 hdg hv (kk C H locs ls hP hD hS hl)
theorem V_lconst {i : Fin 2} {v : Int64} (hdg : decode cc pc = .ok (.lconst i, 1)) (hv : Int64.ofNat i = v) (kk : V p l e R s m args below meth c k n Q cc own Ts nL G A H0 ws lv (pc + 1) (.long v :: st)) : V p l e R s m args below meth c k n Q cc own Ts nL G A H0 ws lv pc st :=
  fun C H locs ls hP hD hS hl => lv_lconst C.1 C.2.1 hdg hv (kk C H locs ls hP hD hS hl)
theorem V_ldc {index : Nat} {v : Int32} (hdg : decode cc pc = .ok (.ldc index, 2)) (hc : Jvm.Cond.constant own index v ∈ Ts) (kk : V p l e R s m args below meth c k n Q cc own Ts nL G A H0 ws lv (pc + 2) (.int v :: st)) : V p l e R s m args below meth c k n Q cc own Ts nL G A H0 ws lv pc st :=
  fun C H locs ls hP hD hS hl => lv_ldc C.1 C.2.1 C.2.2.2.1 (C.2.2.2.2.1 _ hc) hdg (kk C H locs ls hP hD hS hl)
theorem V_ldc2 {index : Nat} {v : Int64} (hdg : decode cc pc = .ok (.ldc2_w index, 3)) (hc : Jvm.Cond.constantLong own index v ∈ Ts) (kk : V p l e R s m args below meth c k n Q cc own Ts nL G A H0 ws lv (pc + 3) (.long v :: st)) : V p l e R s m args below meth c k n Q cc own Ts nL G A H0 ws lv pc st :=
  fun C H locs ls hP hD hS hl => lv_ldc2 C.1 C.2.1 C.2.2.2.1 (C.2.2.2.2.1 _ hc) hdg (kk C H locs ls hP hD hS hl)
theorem V_iload_n {j : Fin 4} (q : Nat) {i : Nat} {x : Int32} (hdg : decode cc pc = .ok (.iload_n j, 1)) (hi : (j : Nat) = i) (hk : lv[q]? = some (i, .int x)) (kk : V p l e R s m args below meth c k n Q cc own Ts nL G A H0 ws lv (pc + 1) (.int x :: st)) : V p l e R s m args below meth c k n Q cc own Ts nL G A H0 ws lv pc st :=
  fun C H locs ls hP hD hS hl => lv_iload_n C.1 C.2.1 hdg hi (lv_at hl q hk) (kk C H locs ls hP hD hS hl)
theorem V_iload (q : Nat) {i : Nat} {x : Int32} (hdg : decode cc pc = .ok (.iload i, 2)) (hk : lv[q]? = some (i, .int x)) (kk : V p l e R s m args below meth c k n Q cc own Ts nL G A H0 ws lv (pc + 2) (.int x :: st)) : V p l e R s m args below meth c k n Q cc own Ts nL G A H0 ws lv pc st :=
  fun C H locs ls hP hD hS hl => lv_iload C.1 C.2.1 hdg (lv_at hl q hk) (kk C H locs ls hP hD hS hl)
theorem V_lload_n {j : Fin 4} (q : Nat) {i : Nat} {x : Int64} (hdg : decode cc pc = .ok (.lload_n j, 1)) (hi : (j : Nat) = i) (hk : lv[q]? = some (i, .long x)) (kk : V p l e R s m args below meth c k n Q cc own Ts nL G A H0 ws lv (pc + 1) (.long x :: st)) : V p l e R s m args below meth c k n Q cc own Ts nL G A H0 ws lv pc st :=
  fun C H locs ls hP hD hS hl => lv_lload_n C.1 C.2.1 hdg hi (lv_at hl q hk) (kk C H locs ls hP hD hS hl)
theorem V_lload (q : Nat) {i : Nat} {x : Int64} (hdg : decode cc pc = .ok (.lload i, 2)) (hk : lv[q]? = some (i, .long x)) (kk : V p l e R s m args below meth c k n Q cc own Ts nL G A H0 ws lv (pc + 2) (.long x :: st)) : V p l e R s m args below meth c k n Q cc own Ts nL G A H0 ws lv pc st :=
  fun C H locs ls hP hD hS hl => lv_lload C.1 C.2.1 hdg (lv_at hl q hk) (kk C H locs ls hP hD hS hl)
theorem V_aload_n {j : Fin 4} (q : Nat) {i : Nat} {x : Addr} (hdg : decode cc pc = .ok (.aload_n j, 1)) (hi : (j : Nat) = i) (hk : lv[q]? = some (i, .ref x)) (kk : V p l e R s m args below meth c k n Q cc own Ts nL G A H0 ws lv (pc + 1) (.ref x :: st)) : V p l e R s m args below meth c k n Q cc own Ts nL G A H0 ws lv pc st :=
  fun C H locs ls hP hD hS hl => lv_aload_n C.1 C.2.1 hdg hi (lv_at hl q hk) (kk C H locs ls hP hD hS hl)
theorem V_istore_n {j : Fin 4} {i : Nat} {x : Int32} (hdg : decode cc pc = .ok (.istore_n j, 1)) (hi : (j : Nat) = i) (hn : i < nL) (hl : (i, Value.int x) :: lv.filter (fun q => !(q.1 == i) && !(q.1 + 1 == i && q.2.category == 2)) = lv') (kk : V p l e R s m args below meth c k n Q cc own Ts nL G A H0 ws lv' (pc + 1) st) : V p l e R s m args below meth c k n Q cc own Ts nL G A H0 ws lv pc (.int x :: st) :=
  fun C H locs ls hP hD hS h => lv_istore_n C.1 C.2.1 hdg hi h hn hl (fun ls' h' => kk C H locs ls' hP hD hS h')
theorem V_istore {i : Nat} {x : Int32} (hdg : decode cc pc = .ok (.istore i, 2)) (hn : i < nL) (hl : (i, Value.int x) :: lv.filter (fun q => !(q.1 == i) && !(q.1 + 1 == i && q.2.category == 2)) = lv') (kk : V p l e R s m args below meth c k n Q cc own Ts nL G A H0 ws lv' (pc + 2) st) : V p l e R s m args below meth c k n Q cc own Ts nL G A H0 ws lv pc (.int x :: st) :=
  fun C H locs ls hP hD hS h => lv_istore C.1 C.2.1 hdg h hn hl (fun ls' h' => kk C H locs ls' hP hD hS h')
theorem V_iinc (q : Nat) {i : Nat} {d : Int} {x v : Int32} (hdg : decode cc pc = .ok (.iinc i d, 3)) (hk : lv[q]? = some (i, .int x)) (hv : x + Int32.ofInt d = v) (hn : i < nL) (hl : (i, Value.int v) :: lv.filter (fun q => !(q.1 == i) && !(q.1 + 1 == i && q.2.category == 2)) = lv') (kk : V p l e R s m args below meth c k n Q cc own Ts nL G A H0 ws lv' (pc + 3) st) : V p l e R s m args below meth c k n Q cc own Ts nL G A H0 ws lv pc st :=
  fun C H locs ls hP hD hS h => lv_iinc C.1 C.2.1 hdg h hk hv hn hl (fun ls' h' => kk C H locs ls' hP hD hS h')
theorem V_iadd {x y : Int32} (hdg : decode cc pc = .ok (.iadd, 1))  (kk : V p l e R s m args below meth c k n Q cc own Ts nL G A H0 ws lv (pc + 1) (.int (x + y) :: st)) : V p l e R s m args below meth c k n Q cc own Ts nL G A H0 ws lv pc (.int y :: .int x :: st) :=
  fun C H locs ls hP hD hS hl => lv_iadd C.1 C.2.1 hdg  (kk C H locs ls hP hD hS hl)
theorem V_isub {x y : Int32} (hdg : decode cc pc = .ok (.isub, 1))  (kk : V p l e R s m args below meth c k n Q cc own Ts nL G A H0 ws lv (pc + 1) (.int (x - y) :: st)) : V p l e R s m args below meth c k n Q cc own Ts nL G A H0 ws lv pc (.int y :: .int x :: st) :=
  fun C H locs ls hP hD hS hl => lv_isub C.1 C.2.1 hdg  (kk C H locs ls hP hD hS hl)
theorem V_imul {x y : Int32} (hdg : decode cc pc = .ok (.imul, 1))  (kk : V p l e R s m args below meth c k n Q cc own Ts nL G A H0 ws lv (pc + 1) (.int (x * y) :: st)) : V p l e R s m args below meth c k n Q cc own Ts nL G A H0 ws lv pc (.int y :: .int x :: st) :=
  fun C H locs ls hP hD hS hl => lv_imul C.1 C.2.1 hdg  (kk C H locs ls hP hD hS hl)
theorem V_iand {x y : Int32} (hdg : decode cc pc = .ok (.iand, 1))  (kk : V p l e R s m args below meth c k n Q cc own Ts nL G A H0 ws lv (pc + 1) (.int (x &&& y) :: st)) : V p l e R s m args below meth c k n Q cc own Ts nL G A H0 ws lv pc (.int y :: .int x :: st) :=
  fun C H locs ls hP hD hS hl => lv_iand C.1 C.2.1 hdg  (kk C H locs ls hP hD hS hl)
theorem V_ior {x y : Int32} (hdg : decode cc pc = .ok (.ior, 1))  (kk : V p l e R s m args below meth c k n Q cc own Ts nL G A H0 ws lv (pc + 1) (.int (x ||| y) :: st)) : V p l e R s m args below meth c k n Q cc own Ts nL G A H0 ws lv pc (.int y :: .int x :: st) :=
  fun C H locs ls hP hD hS hl => lv_ior C.1 C.2.1 hdg  (kk C H locs ls hP hD hS hl)
theorem V_ixor {x y : Int32} (hdg : decode cc pc = .ok (.ixor, 1))  (kk : V p l e R s m args below meth c k n Q cc own Ts nL G A H0 ws lv (pc + 1) (.int (x ^^^ y) :: st)) : V p l e R s m args below meth c k n Q cc own Ts nL G A H0 ws lv pc (.int y :: .int x :: st) :=
  fun C H locs ls hP hD hS hl => lv_ixor C.1 C.2.1 hdg  (kk C H locs ls hP hD hS hl)
theorem V_ishl {x y : Int32} (hdg : decode cc pc = .ok (.ishl, 1))  (kk : V p l e R s m args below meth c k n Q cc own Ts nL G A H0 ws lv (pc + 1) (.int (x <<< (y &&& 31)) :: st)) : V p l e R s m args below meth c k n Q cc own Ts nL G A H0 ws lv pc (.int y :: .int x :: st) :=
  fun C H locs ls hP hD hS hl => lv_ishl C.1 C.2.1 hdg  (kk C H locs ls hP hD hS hl)
theorem V_ishr {x y : Int32} (hdg : decode cc pc = .ok (.ishr, 1))  (kk : V p l e R s m args below meth c k n Q cc own Ts nL G A H0 ws lv (pc + 1) (.int (x >>> (y &&& 31)) :: st)) : V p l e R s m args below meth c k n Q cc own Ts nL G A H0 ws lv pc (.int y :: .int x :: st) :=
  fun C H locs ls hP hD hS hl => lv_ishr C.1 C.2.1 hdg  (kk C H locs ls hP hD hS hl)
theorem V_ladd {x y : Int64} (hdg : decode cc pc = .ok (.ladd, 1))  (kk : V p l e R s m args below meth c k n Q cc own Ts nL G A H0 ws lv (pc + 1) (.long (x + y) :: st)) : V p l e R s m args below meth c k n Q cc own Ts nL G A H0 ws lv pc (.long y :: .long x :: st) :=
  fun C H locs ls hP hD hS hl => lv_ladd C.1 C.2.1 hdg  (kk C H locs ls hP hD hS hl)
theorem V_lmul {x y : Int64} (hdg : decode cc pc = .ok (.lmul, 1))  (kk : V p l e R s m args below meth c k n Q cc own Ts nL G A H0 ws lv (pc + 1) (.long (x * y) :: st)) : V p l e R s m args below meth c k n Q cc own Ts nL G A H0 ws lv pc (.long y :: .long x :: st) :=
  fun C H locs ls hP hD hS hl => lv_lmul C.1 C.2.1 hdg  (kk C H locs ls hP hD hS hl)
theorem V_idiv {x y : Int32} (hdg : decode cc pc = .ok (.idiv, 1)) (hne : ¬ y = 0) (kk : V p l e R s m args below meth c k n Q cc own Ts nL G A H0 ws lv (pc + 1) (.int (x / y) :: st)) : V p l e R s m args below meth c k n Q cc own Ts nL G A H0 ws lv pc (.int y :: .int x :: st) :=
  fun C H locs ls hP hD hS hl => lv_idiv C.1 C.2.1 hdg hne (kk C H locs ls hP hD hS hl)
theorem V_irem {x y : Int32} (hdg : decode cc pc = .ok (.irem, 1)) (hne : ¬ y = 0) (kk : V p l e R s m args below meth c k n Q cc own Ts nL G A H0 ws lv (pc + 1) (.int (x - x / y * y) :: st)) : V p l e R s m args below meth c k n Q cc own Ts nL G A H0 ws lv pc (.int y :: .int x :: st) :=
  fun C H locs ls hP hD hS hl => lv_irem C.1 C.2.1 hdg hne (kk C H locs ls hP hD hS hl)
theorem V_ldiv {x y : Int64} (hdg : decode cc pc = .ok (.ldiv, 1)) (hne : ¬ y = 0) (kk : V p l e R s m args below meth c k n Q cc own Ts nL G A H0 ws lv (pc + 1) (.long (x / y) :: st)) : V p l e R s m args below meth c k n Q cc own Ts nL G A H0 ws lv pc (.long y :: .long x :: st) :=
  fun C H locs ls hP hD hS hl => lv_ldiv C.1 C.2.1 hdg hne (kk C H locs ls hP hD hS hl)
theorem V_lrem {x y : Int64} (hdg : decode cc pc = .ok (.lrem, 1)) (hne : ¬ y = 0) (kk : V p l e R s m args below meth c k n Q cc own Ts nL G A H0 ws lv (pc + 1) (.long (x - x / y * y) :: st)) : V p l e R s m args below meth c k n Q cc own Ts nL G A H0 ws lv pc (.long y :: .long x :: st) :=
  fun C H locs ls hP hD hS hl => lv_lrem C.1 C.2.1 hdg hne (kk C H locs ls hP hD hS hl)
theorem V_i2l {x : Int32} {v : Int64} (hdg : decode cc pc = .ok (.i2l, 1)) (hv : x.toInt64 = v) (kk : V p l e R s m args below meth c k n Q cc own Ts nL G A H0 ws lv (pc + 1) (.long v :: st)) : V p l e R s m args below meth c k n Q cc own Ts nL G A H0 ws lv pc (.int x :: st) :=
  fun C H locs ls hP hD hS hl => lv_i2l C.1 C.2.1 hdg hv (kk C H locs ls hP hD hS hl)
theorem V_l2i {x : Int64} {v : Int32} (hdg : decode cc pc = .ok (.l2i, 1)) (hv : x.toInt32 = v) (kk : V p l e R s m args below meth c k n Q cc own Ts nL G A H0 ws lv (pc + 1) (.int v :: st)) : V p l e R s m args below meth c k n Q cc own Ts nL G A H0 ws lv pc (.long x :: st) :=
  fun C H locs ls hP hD hS hl => lv_l2i C.1 C.2.1 hdg hv (kk C H locs ls hP hD hS hl)
theorem V_i2c {x : Int32} {v : Int32} (hdg : decode cc pc = .ok (.i2c, 1)) (hv : (x.toUInt32 % 65536).toInt32 = v) (kk : V p l e R s m args below meth c k n Q cc own Ts nL G A H0 ws lv (pc + 1) (.int v :: st)) : V p l e R s m args below meth c k n Q cc own Ts nL G A H0 ws lv pc (.int x :: st) :=
  fun C H locs ls hP hD hS hl => lv_i2c C.1 C.2.1 hdg hv (kk C H locs ls hP hD hS hl)
theorem V_lcmp {x y : Int64} (hdg : decode cc pc = .ok (.lcmp, 1)) (kk : V p l e R s m args below meth c k n Q cc own Ts nL G A H0 ws lv (pc + 1) (.int (lg_cmp x y) :: st)) : V p l e R s m args below meth c k n Q cc own Ts nL G A H0 ws lv pc (.long y :: .long x :: st) :=
  fun C H locs ls hP hD hS hl => W.lcmp C.1 C.2.1 hdg (kk C H locs ls hP hD hS hl)
theorem V_dup {va : Value} (hdg : decode cc pc = .ok (.dup, 1)) (hva : va.category = 1) (kk : V p l e R s m args below meth c k n Q cc own Ts nL G A H0 ws lv (pc + 1) (va :: va :: st)) : V p l e R s m args below meth c k n Q cc own Ts nL G A H0 ws lv pc (va :: st) :=
  fun C H locs ls hP hD hS hl => lv_dup C.1 C.2.1 hdg hva (kk C H locs ls hP hD hS hl)
theorem V_pop {va : Value} (hdg : decode cc pc = .ok (.pop, 1)) (hva : va.category = 1) (kk : V p l e R s m args below meth c k n Q cc own Ts nL G A H0 ws lv (pc + 1) st) : V p l e R s m args below meth c k n Q cc own Ts nL G A H0 ws lv pc (va :: st) :=
  fun C H locs ls hP hD hS hl => lv_pop C.1 C.2.1 hdg hva (kk C H locs ls hP hD hS hl)
theorem V_dup2 {va vb : Value} (hdg : decode cc pc = .ok (.dup2, 1)) (hva : va.category = 1) (hvb : vb.category = 1) (kk : V p l e R s m args below meth c k n Q cc own Ts nL G A H0 ws lv (pc + 1) (va :: vb :: va :: vb :: st)) : V p l e R s m args below meth c k n Q cc own Ts nL G A H0 ws lv pc (va :: vb :: st) :=
  fun C H locs ls hP hD hS hl => lv_dup2_11 C.1 C.2.1 hdg hva hvb (kk C H locs ls hP hD hS hl)
theorem V_lstore_n {j : Fin 4} {i : Nat} {x : Int64} (hdg : decode cc pc = .ok (.lstore_n j, 1)) (hi : (j : Nat) = i) (hn : i + 1 < nL) (hl : (i, Value.long x) :: lv.filter (fun q => !(q.1 == i) && (!(q.1 == i + 1) && !(q.1 + 1 == i && q.2.category == 2))) = lv') (kk : V p l e R s m args below meth c k n Q cc own Ts nL G A H0 ws lv' (pc + 1) st) : V p l e R s m args below meth c k n Q cc own Ts nL G A H0 ws lv pc (.long x :: st) :=
  fun C H locs ls hP hD hS h => lv_lstore_n C.1 C.2.1 hdg hi h hn hl (fun ls' h' => kk C H locs ls' hP hD hS h')
theorem V_lstore {i : Nat} {x : Int64} (hdg : decode cc pc = .ok (.lstore i, 2)) (hn : i + 1 < nL) (hl : (i, Value.long x) :: lv.filter (fun q => !(q.1 == i) && (!(q.1 == i + 1) && !(q.1 + 1 == i && q.2.category == 2))) = lv') (kk : V p l e R s m args below meth c k n Q cc own Ts nL G A H0 ws lv' (pc + 2) st) : V p l e R s m args below meth c k n Q cc own Ts nL G A H0 ws lv pc (.long x :: st) :=
  fun C H locs ls hP hD hS h => lv_lstore C.1 C.2.1 hdg h hn hl (fun ls' h' => kk C H locs ls' hP hD hS h')
theorem V_astore_n {j : Fin 4} {i : Nat} {x : Nat} (hdg : decode cc pc = .ok (.astore_n j, 1)) (hi : (j : Nat) = i) (hn : i < nL) (hl : (i, Value.ref x) :: lv.filter (fun q => !(q.1 == i) && !(q.1 + 1 == i && q.2.category == 2)) = lv') (kk : V p l e R s m args below meth c k n Q cc own Ts nL G A H0 ws lv' (pc + 1) st) : V p l e R s m args below meth c k n Q cc own Ts nL G A H0 ws lv pc (.ref x :: st) :=
  fun C H locs ls hP hD hS h => lv_astore_n C.1 C.2.1 hdg hi h hn hl (fun ls' h' => kk C H locs ls' hP hD hS h')
theorem V_if_eq {x : Int32} {off : Int} (tgt : Nat) (hdg : decode cc pc = .ok (.ifCond .eq off, 3)) (ht : (pc : Int) + off = (tgt : Int)) (kt : x = 0 → V p l e R s m args below meth c k n Q cc own Ts nL G A H0 ws lv tgt st) (kf : ¬ x = 0 → V p l e R s m args below meth c k n Q cc own Ts nL G A H0 ws lv (pc + 3) st) : V p l e R s m args below meth c k n Q cc own Ts nL G A H0 ws lv pc (.int x :: st) :=
  fun C H locs ls hP hD hS hl => lv_if_eq C.1 C.2.1 hdg ht (fun h => kt h C H locs ls hP hD hS hl) (fun h => kf h C H locs ls hP hD hS hl)
theorem V_icmp_eq {x y : Int32} {off : Int} (tgt : Nat) (hdg : decode cc pc = .ok (.if_icmp .eq off, 3)) (ht : (pc : Int) + off = (tgt : Int)) (kt : x = y → V p l e R s m args below meth c k n Q cc own Ts nL G A H0 ws lv tgt st) (kf : ¬ x = y → V p l e R s m args below meth c k n Q cc own Ts nL G A H0 ws lv (pc + 3) st) : V p l e R s m args below meth c k n Q cc own Ts nL G A H0 ws lv pc (.int y :: .int x :: st) :=
  fun C H locs ls hP hD hS hl => lv_icmp_eq C.1 C.2.1 hdg ht (fun h => kt h C H locs ls hP hD hS hl) (fun h => kf h C H locs ls hP hD hS hl)
theorem V_if_ne {x : Int32} {off : Int} (tgt : Nat) (hdg : decode cc pc = .ok (.ifCond .ne off, 3)) (ht : (pc : Int) + off = (tgt : Int)) (kt : ¬ x = 0 → V p l e R s m args below meth c k n Q cc own Ts nL G A H0 ws lv tgt st) (kf : x = 0 → V p l e R s m args below meth c k n Q cc own Ts nL G A H0 ws lv (pc + 3) st) : V p l e R s m args below meth c k n Q cc own Ts nL G A H0 ws lv pc (.int x :: st) :=
  fun C H locs ls hP hD hS hl => lv_if_ne C.1 C.2.1 hdg ht (fun h => kt h C H locs ls hP hD hS hl) (fun h => kf h C H locs ls hP hD hS hl)
theorem V_icmp_ne {x y : Int32} {off : Int} (tgt : Nat) (hdg : decode cc pc = .ok (.if_icmp .ne off, 3)) (ht : (pc : Int) + off = (tgt : Int)) (kt : ¬ x = y → V p l e R s m args below meth c k n Q cc own Ts nL G A H0 ws lv tgt st) (kf : x = y → V p l e R s m args below meth c k n Q cc own Ts nL G A H0 ws lv (pc + 3) st) : V p l e R s m args below meth c k n Q cc own Ts nL G A H0 ws lv pc (.int y :: .int x :: st) :=
  fun C H locs ls hP hD hS hl => lv_icmp_ne C.1 C.2.1 hdg ht (fun h => kt h C H locs ls hP hD hS hl) (fun h => kf h C H locs ls hP hD hS hl)
theorem V_if_lt {x : Int32} {off : Int} (tgt : Nat) (hdg : decode cc pc = .ok (.ifCond .lt off, 3)) (ht : (pc : Int) + off = (tgt : Int)) (kt : x < 0 → V p l e R s m args below meth c k n Q cc own Ts nL G A H0 ws lv tgt st) (kf : ¬ x < 0 → V p l e R s m args below meth c k n Q cc own Ts nL G A H0 ws lv (pc + 3) st) : V p l e R s m args below meth c k n Q cc own Ts nL G A H0 ws lv pc (.int x :: st) :=
  fun C H locs ls hP hD hS hl => lv_if_lt C.1 C.2.1 hdg ht (fun h => kt h C H locs ls hP hD hS hl) (fun h => kf h C H locs ls hP hD hS hl)
theorem V_icmp_lt {x y : Int32} {off : Int} (tgt : Nat) (hdg : decode cc pc = .ok (.if_icmp .lt off, 3)) (ht : (pc : Int) + off = (tgt : Int)) (kt : x < y → V p l e R s m args below meth c k n Q cc own Ts nL G A H0 ws lv tgt st) (kf : ¬ x < y → V p l e R s m args below meth c k n Q cc own Ts nL G A H0 ws lv (pc + 3) st) : V p l e R s m args below meth c k n Q cc own Ts nL G A H0 ws lv pc (.int y :: .int x :: st) :=
  fun C H locs ls hP hD hS hl => lv_icmp_lt C.1 C.2.1 hdg ht (fun h => kt h C H locs ls hP hD hS hl) (fun h => kf h C H locs ls hP hD hS hl)
theorem V_if_ge {x : Int32} {off : Int} (tgt : Nat) (hdg : decode cc pc = .ok (.ifCond .ge off, 3)) (ht : (pc : Int) + off = (tgt : Int)) (kt : 0 ≤ x → V p l e R s m args below meth c k n Q cc own Ts nL G A H0 ws lv tgt st) (kf : ¬ 0 ≤ x → V p l e R s m args below meth c k n Q cc own Ts nL G A H0 ws lv (pc + 3) st) : V p l e R s m args below meth c k n Q cc own Ts nL G A H0 ws lv pc (.int x :: st) :=
  fun C H locs ls hP hD hS hl => lv_if_ge C.1 C.2.1 hdg ht (fun h => kt h C H locs ls hP hD hS hl) (fun h => kf h C H locs ls hP hD hS hl)
theorem V_icmp_ge {x y : Int32} {off : Int} (tgt : Nat) (hdg : decode cc pc = .ok (.if_icmp .ge off, 3)) (ht : (pc : Int) + off = (tgt : Int)) (kt : y ≤ x → V p l e R s m args below meth c k n Q cc own Ts nL G A H0 ws lv tgt st) (kf : ¬ y ≤ x → V p l e R s m args below meth c k n Q cc own Ts nL G A H0 ws lv (pc + 3) st) : V p l e R s m args below meth c k n Q cc own Ts nL G A H0 ws lv pc (.int y :: .int x :: st) :=
  fun C H locs ls hP hD hS hl => lv_icmp_ge C.1 C.2.1 hdg ht (fun h => kt h C H locs ls hP hD hS hl) (fun h => kf h C H locs ls hP hD hS hl)
theorem V_if_gt {x : Int32} {off : Int} (tgt : Nat) (hdg : decode cc pc = .ok (.ifCond .gt off, 3)) (ht : (pc : Int) + off = (tgt : Int)) (kt : 0 < x → V p l e R s m args below meth c k n Q cc own Ts nL G A H0 ws lv tgt st) (kf : ¬ 0 < x → V p l e R s m args below meth c k n Q cc own Ts nL G A H0 ws lv (pc + 3) st) : V p l e R s m args below meth c k n Q cc own Ts nL G A H0 ws lv pc (.int x :: st) :=
  fun C H locs ls hP hD hS hl => lv_if_gt C.1 C.2.1 hdg ht (fun h => kt h C H locs ls hP hD hS hl) (fun h => kf h C H locs ls hP hD hS hl)
theorem V_icmp_gt {x y : Int32} {off : Int} (tgt : Nat) (hdg : decode cc pc = .ok (.if_icmp .gt off, 3)) (ht : (pc : Int) + off = (tgt : Int)) (kt : y < x → V p l e R s m args below meth c k n Q cc own Ts nL G A H0 ws lv tgt st) (kf : ¬ y < x → V p l e R s m args below meth c k n Q cc own Ts nL G A H0 ws lv (pc + 3) st) : V p l e R s m args below meth c k n Q cc own Ts nL G A H0 ws lv pc (.int y :: .int x :: st) :=
  fun C H locs ls hP hD hS hl => lv_icmp_gt C.1 C.2.1 hdg ht (fun h => kt h C H locs ls hP hD hS hl) (fun h => kf h C H locs ls hP hD hS hl)
theorem V_if_le {x : Int32} {off : Int} (tgt : Nat) (hdg : decode cc pc = .ok (.ifCond .le off, 3)) (ht : (pc : Int) + off = (tgt : Int)) (kt : x ≤ 0 → V p l e R s m args below meth c k n Q cc own Ts nL G A H0 ws lv tgt st) (kf : ¬ x ≤ 0 → V p l e R s m args below meth c k n Q cc own Ts nL G A H0 ws lv (pc + 3) st) : V p l e R s m args below meth c k n Q cc own Ts nL G A H0 ws lv pc (.int x :: st) :=
  fun C H locs ls hP hD hS hl => lv_if_le C.1 C.2.1 hdg ht (fun h => kt h C H locs ls hP hD hS hl) (fun h => kf h C H locs ls hP hD hS hl)
theorem V_icmp_le {x y : Int32} {off : Int} (tgt : Nat) (hdg : decode cc pc = .ok (.if_icmp .le off, 3)) (ht : (pc : Int) + off = (tgt : Int)) (kt : x ≤ y → V p l e R s m args below meth c k n Q cc own Ts nL G A H0 ws lv tgt st) (kf : ¬ x ≤ y → V p l e R s m args below meth c k n Q cc own Ts nL G A H0 ws lv (pc + 3) st) : V p l e R s m args below meth c k n Q cc own Ts nL G A H0 ws lv pc (.int y :: .int x :: st) :=
  fun C H locs ls hP hD hS hl => lv_icmp_le C.1 C.2.1 hdg ht (fun h => kt h C H locs ls hP hD hS hl) (fun h => kf h C H locs ls hP hD hS hl)
theorem V_ifb_eq {b : Bool} {off : Int} (tgt : Nat) (hdg : decode cc pc = .ok (.ifCond .eq off, 3)) (ht : (pc : Int) + off = (tgt : Int)) (kt : b = false → V p l e R s m args below meth c k n Q cc own Ts nL G A H0 ws lv tgt st) (kf : b = true → V p l e R s m args below meth c k n Q cc own Ts nL G A H0 ws lv (pc + 3) st) : V p l e R s m args below meth c k n Q cc own Ts nL G A H0 ws lv pc (.int (b2i b) :: st) :=
  V_if_eq tgt hdg ht (fun h => kt (by cases b; rfl; cases h)) (fun h => kf (by cases b; exact absurd rfl h; rfl))
theorem V_ifb_ne {b : Bool} {off : Int} (tgt : Nat) (hdg : decode cc pc = .ok (.ifCond .ne off, 3)) (ht : (pc : Int) + off = (tgt : Int)) (kt : b = true → V p l e R s m args below meth c k n Q cc own Ts nL G A H0 ws lv tgt st) (kf : b = false → V p l e R s m args below meth c k n Q cc own Ts nL G A H0 ws lv (pc + 3) st) : V p l e R s m args below meth c k n Q cc own Ts nL G A H0 ws lv pc (.int (b2i b) :: st) :=
  V_if_ne tgt hdg ht (fun h => kt (by cases b; exact absurd rfl h; rfl)) (fun h => kf (by cases b; rfl; exact absurd (show b2i true = 0 from by first | exact h | exact Decidable.not_not.mp h) (by decide)))
theorem V_goto {off : Int} (tgt : Nat) (hdg : decode cc pc = .ok (.goto off, 3)) (ht : (pc : Int) + off = (tgt : Int)) (kk : V p l e R s m args below meth c k n Q cc own Ts nL G A H0 ws lv tgt st) : V p l e R s m args below meth c k n Q cc own Ts nL G A H0 ws lv pc st :=
  fun C H locs ls hP hD hS hl => lv_goto C.1 C.2.1 hdg ht (kk C H locs ls hP hD hS hl)
theorem V_tableOut {dflt lo hi : Int} {offs : Array Int} {len : Nat} {x : Int32} (tgt : Nat) (hdg : decode cc pc = .ok (.tableswitch dflt lo hi offs, len)) (h : x.toInt < lo ∨ hi < x.toInt) (ht : (pc : Int) + dflt = (tgt : Int)) (kk : V p l e R s m args below meth c k n Q cc own Ts nL G A H0 ws lv tgt st) : V p l e R s m args below meth c k n Q cc own Ts nL G A H0 ws lv pc (.int x :: st) :=
  fun C H locs ls hP hD hS hl => lv_tableOut C.1 C.2.1 hdg h ht (kk C H locs ls hP hD hS hl)
theorem V_tableIn {dflt lo hi : Int} {offs : Array Int} {len : Nat} {x : Int32} {off : Int} (tgt : Nat) (hdg : decode cc pc = .ok (.tableswitch dflt lo hi offs, len)) (h1 : ¬ x.toInt < lo) (h2 : ¬ hi < x.toInt) (ho : offs[(x.toInt - lo).toNat]? = some off) (ht : (pc : Int) + off = (tgt : Int)) (kk : V p l e R s m args below meth c k n Q cc own Ts nL G A H0 ws lv tgt st) : V p l e R s m args below meth c k n Q cc own Ts nL G A H0 ws lv pc (.int x :: st) :=
  fun C H locs ls hP hD hS hl => lv_tableIn C.1 C.2.1 hdg h1 h2 ho ht (kk C H locs ls hP hD hS hl)
theorem V_lookup {dflt : Int} {ps : Array (Int × Int)} {len : Nat} {x : Int32} {off : Int} (tgt : Nat) (hdg : decode cc pc = .ok (.lookupswitch dflt ps, len)) (hp : (ps.toList.zip (ps.toList.drop 1)).all (fun (a, next) => a.1 < next.1) = true) (ho : Op.lookupswitch.offset ps.toList dflt x.toInt = off) (ht : (pc : Int) + off = (tgt : Int)) (kk : V p l e R s m args below meth c k n Q cc own Ts nL G A H0 ws lv tgt st) : V p l e R s m args below meth c k n Q cc own Ts nL G A H0 ws lv pc (.int x :: st) :=
  fun C H locs ls hP hD hS hl => lv_lookup C.1 C.2.1 hdg hp ho ht (kk C H locs ls hP hD hS hl)
theorem V_get {C : String} {T : u_T} {N ci index : Nat} {a : Nat} (hin : ∀ w ∈ u_ws C T N, w ∈ Ts) (q0 : Nat) {fs : List Value} (he : ws[q0]? = some (a, .inr (ci, fs))) (hc : vwCl[ci]? = some (C, T, N)) (j : Nat) (hj : j < N) (hlink : Jvm.Cond.fieldLink own index C (T j).2.1 (T j).2.2.1 ∈ Ts) (hcl : (T j).1 = C) {v : Value} (hv : fs[j]? = some v) (hdg : decode cc pc = .ok (.getfield index, 3)) (kk : V p l e R s m args below meth c k n Q cc own Ts nL G A H0 ws lv (pc + 3) (v :: st)) : V p l e R s m args below meth c k n Q cc own Ts nL G A H0 ws lv pc (.ref a :: st) :=
  fun X H locs ls hP hD hS hl => va_get X.1 X.2.1 X.2.2.2.2.1 hin X.2.2.2.1 X.2.2.2.2.2.1.1 hP q0 he hc j hj (X.2.2.2.2.1 _ hlink) (fun x h9 => by rw [hcl] at h9; exact h9) hv hdg (kk X H locs ls hP hD hS hl)
theorem V_put {C : String} {T : u_T} {N ci index : Nat} {a : Nat} (hin : ∀ w ∈ u_ws C T N, w ∈ Ts) (ty0 : Nat → FieldType) (hty : ∀ k, k < N → parseFieldDescriptor (T k).2.2.1 = some (ty0 k)) (hnm : ∀ a, a < N → ∀ b, b < N → a ≠ b → (T a).2.1 ≠ (T b).2.1) (q0 : Nat) {fs : List Value} (he : ws[q0]? = some (a, .inr (ci, fs))) (hc : vwCl[ci]? = some (C, T, N)) (j : Nat) (hj : j < N) (hlink : Jvm.Cond.fieldLink own index C (T j).2.1 (T j).2.2.1 ∈ Ts) (hcl : (T j).1 = C) (hfin : (T j).2.2.2 = false) {x : Int32} (hd : parseFieldDescriptor (T j).2.2.1 = some .int) (hl0 : j < fs.length) (hws : ws.set q0 (a, .inr (ci, fs.set j (.int x))) = ws') (hdg : decode cc pc = .ok (.putfield index, 3)) (kk : V p l e R s m args below meth c k n Q cc own Ts nL G A H0 ws' lv (pc + 3) st) : V p l e R s m args below meth c k n Q cc own Ts nL G A H0 ws lv pc (.int x :: .ref a :: st) :=
  fun X H locs ls hP hD hS hl => va_put X.1 X.2.1 X.2.2.2.2.1 hin ty0 hty hnm X.2.2.2.1 X.2.2.2.2.2.1.1 hP hD hS q0 he hc j hj (X.2.2.2.2.1 _ hlink) (fun x h9 => by rw [hcl] at h9; exact h9) hfin hd rfl rfl hl0 hdg (fun H1 locs1 h1 h2 h3 => by subst hws; exact kk X H1 locs1 ls h1 h2 h3 hl)
theorem V_iald {a : Nat} (q0 : Nat) {n' j : Nat} {f : Nat → Int32} {i : Int32} (ha : ws[q0]? = some (a, .inl (G.2.1, n', .inl f))) (hi : i = nI j) (hj : j < n') (hn : n' < 2 ^ 31) (hdg : decode cc pc = .ok (.iaload, 1)) (kk : V p l e R s m args below meth c k n Q cc own Ts nL G A H0 ws lv (pc + 1) (.int (f j) :: st)) : V p l e R s m args below meth c k n Q cc own Ts nL G A H0 ws lv pc (.int i :: .ref a :: st) :=
  fun X H locs ls hP hD hS hl => va_iald X.1 X.2.1 X.2.2.2.2.2.1.1 hP q0 0 ha rfl (by rw [hi]; exact vp_in_nI hj hn) hdg (by rw [hi, nI_clamp (Nat.lt_trans hj hn)]; exact kk X H locs ls hP hD hS hl)
theorem V_cald {a : Nat} (q0 : Nat) {n' j : Nat} {f : Nat → Int32} {i : Int32} (ha : ws[q0]? = some (a, .inl (G.2.2.1, n', .inl f))) (hi : i = nI j) (hj : j < n') (hn : n' < 2 ^ 31) (hdg : decode cc pc = .ok (.caload, 1)) (kk : V p l e R s m args below meth c k n Q cc own Ts nL G A H0 ws lv (pc + 1) (.int (f j) :: st)) : V p l e R s m args below meth c k n Q cc own Ts nL G A H0 ws lv pc (.int i :: .ref a :: st) :=
  fun X H locs ls hP hD hS hl => va_cald X.1 X.2.1 X.2.2.2.2.2.1.1 hP q0 1 ha rfl (by rw [hi]; exact vp_in_nI hj hn) hdg (by rw [hi, nI_clamp (Nat.lt_trans hj hn)]; exact kk X H locs ls hP hD hS hl)
theorem V_zald {a : Nat} (q0 : Nat) {n' j : Nat} {f : Nat → Int32} {i : Int32} (ha : ws[q0]? = some (a, .inl (G.2.2.2.1, n', .inl f))) (hi : i = nI j) (hj : j < n') (hn : n' < 2 ^ 31) (hdg : decode cc pc = .ok (.baload, 1)) (kk : V p l e R s m args below meth c k n Q cc own Ts nL G A H0 ws lv (pc + 1) (.int (f j) :: st)) : V p l e R s m args below meth c k n Q cc own Ts nL G A H0 ws lv pc (.int i :: .ref a :: st) :=
  fun X H locs ls hP hD hS hl => va_zald X.1 X.2.1 X.2.2.2.2.2.1.1 hP q0 2 ha rfl (by rw [hi]; exact vp_in_nI hj hn) hdg (by rw [hi, nI_clamp (Nat.lt_trans hj hn)]; exact kk X H locs ls hP hD hS hl)
theorem V_iast {a : Nat} (q0 : Nat) {n' j : Nat} {f : Nat → Int32} {i x : Int32} (ha : ws[q0]? = some (a, .inl (G.2.1, n', .inl f))) (hi : i = nI j) (hj : j < n') (hn : n' < 2 ^ 31) (hws : ws.set q0 (a, .inl (G.2.1, n', .inl (upd f j x))) = ws') (hdg : decode cc pc = .ok (.iastore, 1)) (kk : V p l e R s m args below meth c k n Q cc own Ts nL G A H0 ws' lv (pc + 1) st) : V p l e R s m args below meth c k n Q cc own Ts nL G A H0 ws lv pc (.int x :: .int i :: .ref a :: st) :=
  fun X H locs ls hP hD hS hl => va_iast X.1 X.2.1 X.2.2.2.2.2.1.1 hP hD hS q0 0 ha rfl (by rw [hi]; exact vp_in_nI hj hn) hdg (fun H1 locs1 h1 h2 h3 => by rw [hi, nI_clamp (Nat.lt_trans hj hn)] at h1 h2; subst hws; exact kk X H1 locs1 ls h1 h2 h3 hl)
theorem V_cast {a : Nat} (q0 : Nat) {n' j : Nat} {f : Nat → Int32} {i x : Int32} {x' : Int32} (hx : vp_nar .char x = x') (ha : ws[q0]? = some (a, .inl (G.2.2.1, n', .inl f))) (hi : i = nI j) (hj : j < n') (hn : n' < 2 ^ 31) (hws : ws.set q0 (a, .inl (G.2.2.1, n', .inl (upd f j x'))) = ws') (hdg : decode cc pc = .ok (.castore, 1)) (kk : V p l e R s m args below meth c k n Q cc own Ts nL G A H0 ws' lv (pc + 1) st) : V p l e R s m args below meth c k n Q cc own Ts nL G A H0 ws lv pc (.int x :: .int i :: .ref a :: st) :=
  fun X H locs ls hP hD hS hl => va_cast X.1 X.2.1 X.2.2.2.2.2.1.1 hP hD hS q0 1 ha rfl (by rw [hi]; exact vp_in_nI hj hn) hdg (fun H1 locs1 h1 h2 h3 => by rw [hi, nI_clamp (Nat.lt_trans hj hn)] at h1 h2; rw [hx] at h1 h2; subst hws; exact kk X H1 locs1 ls h1 h2 h3 hl)
theorem V_zast {a : Nat} (q0 : Nat) {n' j : Nat} {f : Nat → Int32} {i x : Int32} {x' : Int32} (hx : vp_nar .boolean x = x') (ha : ws[q0]? = some (a, .inl (G.2.2.2.1, n', .inl f))) (hi : i = nI j) (hj : j < n') (hn : n' < 2 ^ 31) (hws : ws.set q0 (a, .inl (G.2.2.2.1, n', .inl (upd f j x'))) = ws') (hdg : decode cc pc = .ok (.bastore, 1)) (kk : V p l e R s m args below meth c k n Q cc own Ts nL G A H0 ws' lv (pc + 1) st) : V p l e R s m args below meth c k n Q cc own Ts nL G A H0 ws lv pc (.int x :: .int i :: .ref a :: st) :=
  fun X H locs ls hP hD hS hl => va_zast X.1 X.2.1 X.2.2.2.2.2.1.1 hP hD hS q0 2 ha rfl (by rw [hi]; exact vp_in_nI hj hn) hdg (fun H1 locs1 h1 h2 h3 => by rw [hi, nI_clamp (Nat.lt_trans hj hn)] at h1 h2; rw [hx] at h1 h2; subst hws; exact kk X H1 locs1 ls h1 h2 h3 hl)
theorem V_alen {a : Nat} (q0 t0 : Nat) {cA : ClassId} {x : vp_A} (ha : ws[q0]? = some (a, .inl (cA, x))) {ty : FieldType} (ht : (tysG G)[t0]? = some (cA, ty)) {v : Int32} (hv : Int32.ofNat x.1 = v) (hdg : decode cc pc = .ok (.arraylength, 1)) (kk : V p l e R s m args below meth c k n Q cc own Ts nL G A H0 ws lv (pc + 1) (.int v :: st)) : V p l e R s m args below meth c k n Q cc own Ts nL G A H0 ws lv pc (.ref a :: st) :=
  fun X H locs ls hP hD hS hl => va_alen X.1 X.2.1 X.2.2.2.2.2.1.1 hP q0 t0 ha ht hv hdg (kk X H locs ls hP hD hS hl)
theorem V_aald {a b : Nat} (q0 : Nat) {n' j : Nat} {f : Nat → Option Nat} {i : Int32} (ha : ws[q0]? = some (a, .inl (G.2.2.2.2, n', .inr (.inr (.inr (.inr f)))))) (hi : i = nI j) (hj : j < n') (hn : n' < 2 ^ 31) (hf : f j = some b) (hdg : decode cc pc = .ok (.aaload, 1)) (kk : V p l e R s m args below meth c k n Q cc own Ts nL G A H0 ws lv (pc + 1) (.ref b :: st)) : V p l e R s m args below meth c k n Q cc own Ts nL G A H0 ws lv pc (.int i :: .ref a :: st) :=
  fun X H locs ls hP hD hS hl => va_aldq X.1 X.2.1 X.2.2.2.2.2.1.1 hP q0 3 ha rfl (by rw [hi]; exact vp_in_nI hj hn) hdg (by rw [hi, nI_clamp (Nat.lt_trans hj hn), hf]; exact kk X H locs ls hP hD hS hl)
theorem V_callVI {y : MethodName} {bytes : ByteArray} {maxL index : Nat} {ret : Option FieldType} {wsy wsy' : List Cond} {rm : Room} {wc wr : va_W} {S : Type} {wc' : S → va_W} {ws' : S → va_W} {r : Int32} {b : Nat} (As rest : List Value) (n' : Nat) (hM : CI l y wsy rm G wc (.ref b :: As) r wc') (ci q0 : Nat) {C : String} {T : u_T} {N : Nat} {fs : List Value} (hb : wc[q0]? = some (b, .inr (ci, fs))) (hcl : vwCl[ci]? = some (C, T, N)) (gi : GoodIn Ts (wsV own index C y wsy)) (hw : wsy = Cond.code y bytes maxL ret :: wsy') (hrm : rm.cells = 0 ∧ rm.slots = 0 ∧ rm.frames + 1 ≤ R.frames ∧ 8 + (maxL + 11) + rm.locals ≤ R.locals) (hd : y.cls = C ∧ y.cls ≠ "java/lang/invoke/MethodHandle" ∧ y.cls ≠ "java/lang/invoke/VarHandle" ∧ (parseMethodDescriptor y.desc).map (fun d => d.parameters.length) = some n') (hn : As.length = n') (isC isR is' : List Nat) (hC : isC.map (fun i => ws[i]?) = wc.map some) (hR : isR.map (fun i => ws[i]?) = wr.map some) (hnd : va_nd isC = true ∧ va_nd isR = true ∧ va_nd is' = true) (hdis : ∀ i ∈ isR, i ∉ isC) (hW : ∀ u, is'.map (fun i => (wr ++ wc' u)[i]?) = (ws' u).map some) (hst : st = As.reverse ++ .ref b :: rest) (hroom : (rest.map fun v => v.category).sum ≤ 8) (hdg : decode cc pc = .ok (.invokevirtual index, 3)) (kk : ∀ u : S, V p l e R s m args below meth c k n Q cc own Ts nL G A H0 (ws' u) lv (pc + 3) (.int r :: rest)) : V p l e R s m args below meth c k n Q cc own Ts nL G A H0 ws lv pc st := by
  intro X H locs ls hP hD hS hl
  have hPc := hP.pick hC
  have hDc := hD.sub isC hnd.1 hC
  have hFc := va_free (wc := wc) hD hS X.2.2.2.2.2.2.1 isC hC
  refine va_calli (va_runV (As := As) (rest := rest) ⟨X.1, X.2.1, X.2.2.1, X.2.2.2.1, X.2.2.2.2.1⟩ (hM H.size) (cwV n' X.2.2.2.2.1 gi hw hrm.1 hrm.2.1 hd hrm.2.2) ⟨cPre.blind, va_recv X.2.2.2.2.2.1.1 hPc hcl hb, fun U hU hW => ⟨rfl, by rw [hU], by rw [hU]; exact hPc, KK.warm hW X.2.2.2.2.2.1, hDc.weaken (fun _ _ _ _ => trivial)⟩⟩ rfl hn hl.1 hst (lv_room hroom) hdg X.2.2.2.2.2.2.2) hS (fun q _ h => hFc q h) hFc (fun r' u t H1 locs1 ht hvm hw1 hB hz1 hk1 hS1 => ?_)
  obtain ⟨hP1, hD1⟩ := hB
  rw [ht] at hP1
  obtain ⟨hPj, hDj⟩ := va_join (wr := wr) (w1 := wc' u) hP hD isC isR hC hR hnd.2.1 hdis hk1 hFc hP1 hD1
  subst hw1; exact kk u X H1 locs1 ls (hPj.pick (hW u)) (hDj.sub is' hnd.2.2 (hW u)) hS1 hl
theorem V_callVV {y : MethodName} {bytes : ByteArray} {maxL index : Nat} {ret : Option FieldType} {wsy wsy' : List Cond} {rm : Room} {wc wr : va_W} {S : Type} {wc' : S → va_W} {ws' : S → va_W} {b : Nat} (As rest : List Value) (n' : Nat) (hM : CV l y wsy rm G wc (.ref b :: As) wc') (ci q0 : Nat) {C : String} {T : u_T} {N : Nat} {fs : List Value} (hb : wc[q0]? = some (b, .inr (ci, fs))) (hcl : vwCl[ci]? = some (C, T, N)) (gi : GoodIn Ts (wsV own index C y wsy)) (hw : wsy = Cond.code y bytes maxL ret :: wsy') (hrm : rm.cells = 0 ∧ rm.slots = 0 ∧ rm.frames + 1 ≤ R.frames ∧ 8 + (maxL + 11) + rm.locals ≤ R.locals) (hd : y.cls = C ∧ y.cls ≠ "java/lang/invoke/MethodHandle" ∧ y.cls ≠ "java/lang/invoke/VarHandle" ∧ (parseMethodDescriptor y.desc).map (fun d => d.parameters.length) = some n') (hn : As.length = n') (isC isR is' : List Nat) (hC : isC.map (fun i => ws[i]?) = wc.map some) (hR : isR.map (fun i => ws[i]?) = wr.map some) (hnd : va_nd isC = true ∧ va_nd isR = true ∧ va_nd is' = true) (hdis : ∀ i ∈ isR, i ∉ isC) (hW : ∀ u, is'.map (fun i => (wr ++ wc' u)[i]?) = (ws' u).map some) (hst : st = As.reverse ++ .ref b :: rest) (hroom : (rest.map fun v => v.category).sum ≤ 8) (hdg : decode cc pc = .ok (.invokevirtual index, 3)) (kk : ∀ u : S, V p l e R s m args below meth c k n Q cc own Ts nL G A H0 (ws' u) lv (pc + 3) (rest)) : V p l e R s m args below meth c k n Q cc own Ts nL G A H0 ws lv pc st := by
  intro X H locs ls hP hD hS hl
  have hPc := hP.pick hC
  have hDc := hD.sub isC hnd.1 hC
  have hFc := va_free (wc := wc) hD hS X.2.2.2.2.2.2.1 isC hC
  refine va_callv (va_runV (As := As) (rest := rest) ⟨X.1, X.2.1, X.2.2.1, X.2.2.2.1, X.2.2.2.2.1⟩ (hM H.size) (cwV n' X.2.2.2.2.1 gi hw hrm.1 hrm.2.1 hd hrm.2.2) ⟨cPre.blind, va_recv X.2.2.2.2.2.1.1 hPc hcl hb, fun U hU hW => ⟨rfl, by rw [hU], by rw [hU]; exact hPc, KK.warm hW X.2.2.2.2.2.1, hDc.weaken (fun _ _ _ _ => trivial)⟩⟩ rfl hn hl.1 hst (lv_room hroom) hdg X.2.2.2.2.2.2.2) hS (fun q _ h => hFc q h) hFc (fun u t H1 locs1 ht hvm hw1 hB hz1 hk1 hS1 => ?_)
  obtain ⟨hP1, hD1⟩ := hB
  rw [ht] at hP1
  obtain ⟨hPj, hDj⟩ := va_join (wr := wr) (w1 := wc' u) hP hD isC isR hC hR hnd.2.1 hdis hk1 hFc hP1 hD1
  exact kk u X H1 locs1 ls (hPj.pick (hW u)) (hDj.sub is' hnd.2.2 (hW u)) hS1 hl
theorem V_callSI {y : MethodName} {bytes : ByteArray} {maxL index : Nat} {ret : Option FieldType} {wsy wsy' : List Cond} {rm : Room} {wc wr : va_W} {S : Type} {wc' : S → va_W} {ws' : S → va_W} {r : Int32} (As rest : List Value) (n' : Nat) (hM : CI l y wsy rm G wc As r wc') (gi : GoodIn Ts (va_wsS own index y wsy)) (hw : wsy = Cond.code y bytes maxL ret :: wsy') (hrm : rm.cells = 0 ∧ rm.slots = 0 ∧ rm.frames + 1 ≤ R.frames ∧ 8 + (maxL + 11) + rm.locals ≤ R.locals) (hd : y.cls ≠ "java/lang/invoke/MethodHandle" ∧ y.cls ≠ "java/lang/invoke/VarHandle" ∧ (parseMethodDescriptor y.desc).map (fun d => d.parameters.length) = some n') (hn : As.length = n') (isC isR is' : List Nat) (hC : isC.map (fun i => ws[i]?) = wc.map some) (hR : isR.map (fun i => ws[i]?) = wr.map some) (hnd : va_nd isC = true ∧ va_nd isR = true ∧ va_nd is' = true) (hdis : ∀ i ∈ isR, i ∉ isC) (hW : ∀ u, is'.map (fun i => (wr ++ wc' u)[i]?) = (ws' u).map some) (hst : st = As.reverse ++ rest) (hroom : (rest.map fun v => v.category).sum ≤ 8) (hdg : decode cc pc = .ok (.invokestatic index, 3)) (kk : ∀ u : S, V p l e R s m args below meth c k n Q cc own Ts nL G A H0 (ws' u) lv (pc + 3) (.int r :: rest)) : V p l e R s m args below meth c k n Q cc own Ts nL G A H0 ws lv pc st := by
  intro X H locs ls hP hD hS hl
  have hPc := hP.pick hC
  have hDc := hD.sub isC hnd.1 hC
  have hFc := va_free (wc := wc) hD hS X.2.2.2.2.2.2.1 isC hC
  refine va_calli (va_runS (As := As) (rest := rest) ⟨X.1, X.2.1, X.2.2.1, X.2.2.2.1, X.2.2.2.2.1⟩ (hM H.size) (va_cwS n' X.2.2.2.2.1 gi hw hrm.1 hrm.2.1 hd hrm.2.2) ⟨cPre.blind, fun U hU hW => ⟨rfl, by rw [hU], by rw [hU]; exact hPc, KK.warm hW X.2.2.2.2.2.1, hDc.weaken (fun _ _ _ _ => trivial)⟩⟩ rfl hn hl.1 hst (lv_room hroom) hdg X.2.2.2.2.2.2.2) hS (fun q _ h => hFc q h) hFc (fun r' u t H1 locs1 ht hvm hw1 hB hz1 hk1 hS1 => ?_)
  obtain ⟨hP1, hD1⟩ := hB
  rw [ht] at hP1
  obtain ⟨hPj, hDj⟩ := va_join (wr := wr) (w1 := wc' u) hP hD isC isR hC hR hnd.2.1 hdis hk1 hFc hP1 hD1
  subst hw1; exact kk u X H1 locs1 ls (hPj.pick (hW u)) (hDj.sub is' hnd.2.2 (hW u)) hS1 hl
theorem V_callSL {y : MethodName} {bytes : ByteArray} {maxL index : Nat} {ret : Option FieldType} {wsy wsy' : List Cond} {rm : Room} {wc wr : va_W} {S : Type} {wc' : S → va_W} {ws' : S → va_W} {r : Int64} (As rest : List Value) (n' : Nat) (hM : CL l y wsy rm G wc As r wc') (gi : GoodIn Ts (va_wsS own index y wsy)) (hw : wsy = Cond.code y bytes maxL ret :: wsy') (hrm : rm.cells = 0 ∧ rm.slots = 0 ∧ rm.frames + 1 ≤ R.frames ∧ 8 + (maxL + 11) + rm.locals ≤ R.locals) (hd : y.cls ≠ "java/lang/invoke/MethodHandle" ∧ y.cls ≠ "java/lang/invoke/VarHandle" ∧ (parseMethodDescriptor y.desc).map (fun d => d.parameters.length) = some n') (hn : As.length = n') (isC isR is' : List Nat) (hC : isC.map (fun i => ws[i]?) = wc.map some) (hR : isR.map (fun i => ws[i]?) = wr.map some) (hnd : va_nd isC = true ∧ va_nd isR = true ∧ va_nd is' = true) (hdis : ∀ i ∈ isR, i ∉ isC) (hW : ∀ u, is'.map (fun i => (wr ++ wc' u)[i]?) = (ws' u).map some) (hst : st = As.reverse ++ rest) (hroom : (rest.map fun v => v.category).sum ≤ 8) (hdg : decode cc pc = .ok (.invokestatic index, 3)) (kk : ∀ u : S, V p l e R s m args below meth c k n Q cc own Ts nL G A H0 (ws' u) lv (pc + 3) (.long r :: rest)) : V p l e R s m args below meth c k n Q cc own Ts nL G A H0 ws lv pc st := by
  intro X H locs ls hP hD hS hl
  have hPc := hP.pick hC
  have hDc := hD.sub isC hnd.1 hC
  have hFc := va_free (wc := wc) hD hS X.2.2.2.2.2.2.1 isC hC
  refine va_calll (va_runS (As := As) (rest := rest) ⟨X.1, X.2.1, X.2.2.1, X.2.2.2.1, X.2.2.2.2.1⟩ (hM H.size) (va_cwS n' X.2.2.2.2.1 gi hw hrm.1 hrm.2.1 hd hrm.2.2) ⟨cPre.blind, fun U hU hW => ⟨rfl, by rw [hU], by rw [hU]; exact hPc, KK.warm hW X.2.2.2.2.2.1, hDc.weaken (fun _ _ _ _ => trivial)⟩⟩ rfl hn hl.1 hst (lv_room hroom) hdg X.2.2.2.2.2.2.2) hS (fun q _ h => hFc q h) hFc (fun r' u t H1 locs1 ht hvm hw1 hB hz1 hk1 hS1 => ?_)
  obtain ⟨hP1, hD1⟩ := hB
  rw [ht] at hP1
  obtain ⟨hPj, hDj⟩ := va_join (wr := wr) (w1 := wc' u) hP hD isC isR hC hR hnd.2.1 hdis hk1 hFc hP1 hD1
  subst hw1; exact kk u X H1 locs1 ls (hPj.pick (hW u)) (hDj.sub is' hnd.2.2 (hW u)) hS1 hl
theorem V_callNI {y : MethodName} {bytes : ByteArray} {maxL index : Nat} {ret : Option FieldType} {wsy wsy' : List Cond} {rm : Room} {wc wr : va_W} {S : Type} {wc' : S → va_W} {ws' : S → va_W} {r : Int32} (As rest : List Value) (n' : Nat) (hM : CI l y wsy rm G wc As r wc') (gi : GoodIn Ts wsy) (hnest : va_Nw (.methodLinkNest own index y RX5) s) (hini : Jvm.Cond.initialized y.cls ∈ Ts) (hst2 : Jvm.Cond.static y ∈ Ts) (hw : wsy = Cond.code y bytes maxL ret :: wsy') (hrm : rm.cells = 0 ∧ rm.slots = 0 ∧ rm.frames + 1 ≤ R.frames ∧ 8 + (maxL + 11) + rm.locals ≤ R.locals) (hd : y.cls ≠ "java/lang/invoke/MethodHandle" ∧ y.cls ≠ "java/lang/invoke/VarHandle" ∧ (parseMethodDescriptor y.desc).map (fun d => d.parameters.length) = some n') (hn : As.length = n') (isC isR is' : List Nat) (hC : isC.map (fun i => ws[i]?) = wc.map some) (hR : isR.map (fun i => ws[i]?) = wr.map some) (hnd : va_nd isC = true ∧ va_nd isR = true ∧ va_nd is' = true) (hdis : ∀ i ∈ isR, i ∉ isC) (hW : ∀ u, is'.map (fun i => (wr ++ wc' u)[i]?) = (ws' u).map some) (hst : st = As.reverse ++ rest) (hroom : (rest.map fun v => v.category).sum ≤ 8) (hdg : decode cc pc = .ok (.invokestatic index, 3)) (kk : ∀ u : S, V p l e R s m args below meth c k n Q cc own Ts nL G A H0 (ws' u) lv (pc + 3) (.int r :: rest)) : V p l e R s m args below meth c k n Q cc own Ts nL G A H0 ws lv pc st := by
  intro X H locs ls hP hD hS hl
  have hPc := hP.pick hC
  have hDc := hD.sub isC hnd.1 hC
  have hFc := va_free (wc := wc) hD hS X.2.2.2.2.2.2.1 isC hC
  refine va_calli (va_runSN (As := As) (rest := rest) ⟨X.1, X.2.1, X.2.2.1, X.2.2.2.1, X.2.2.2.2.1⟩ (hM H.size) ⟨va_cnB n' X.2.2.2.2.1 gi hw hrm.1 hrm.2.1 hnest (X.2.2.2.2.1 _ hini) hd hrm.2.2, X.2.2.2.2.1 _ hst2, trivial⟩ ⟨cPre.blind, fun U hU hW => ⟨rfl, by rw [hU], by rw [hU]; exact hPc, KK.warm hW X.2.2.2.2.2.1, hDc.weaken (fun _ _ _ _ => trivial)⟩⟩ rfl hn hl.1 hst (lv_room hroom) hdg X.2.2.2.2.2.2.2) hS (fun q _ h => hFc q h) hFc (fun r' u t H1 locs1 ht hvm hw1 hB hz1 hk1 hS1 => ?_)
  obtain ⟨hP1, hD1⟩ := hB
  rw [ht] at hP1
  obtain ⟨hPj, hDj⟩ := va_join (wr := wr) (w1 := wc' u) hP hD isC isR hC hR hnd.2.1 hdis hk1 hFc hP1 hD1
  subst hw1; exact kk u X H1 locs1 ls (hPj.pick (hW u)) (hDj.sub is' hnd.2.2 (hW u)) hS1 hl
theorem V_arr {a : Nat} (q0 : Nat) {cA : ClassId} {n' : Nat} {f g : Nat → Int32} (ha : ws[q0]? = some (a, .inl (cA, n', .inl f))) (hf : ∀ j, j < n' → f j = g j) (hws : ws.set q0 (a, .inl (cA, n', .inl g)) = ws') (kk : V p l e R s m args below meth c k n Q cc own Ts nL G A H0 ws' lv pc st) : V p l e R s m args below meth c k n Q cc own Ts nL G A H0 ws lv pc st := by
  intro X H locs ls hP hD hS hl
  subst hws
  refine kk X H locs ls (hP.set hD ha ?_ (fun _ _ => rfl)) (hD.set ha) hS hl
  have h0 : H[a]? = some (vp_cell cA (n', .inl f)) := hP q0 _ ha
  show H[a]? = some (vp_cell cA (n', .inl g))
  rw [h0, vp_cell_i, vp_cell_i, arrV_cg (fun j hj => by rw [hf j hj])]
theorem V_copyi {a a0 index : Nat} (q0 q1 : Nat) {n' : Nat} {f g : Nat → Int32} {x : Int32} (ha0 : ws[q0]? = some (a0, .inl (G.2.1, n', .inl f))) (ha1 : ws[q1]? = some (a, .inl (G.2.1, n', .inl g))) (hx : x = nI n') (hn : n' < 2 ^ 31) (hws : ws.set q1 (a, .inl (G.2.1, n', .inl f)) = ws') (wl : Jvm.Cond.methodLink own index arraycopyName ∈ Ts) (w2 : Jvm.Cond.native arraycopyName ∈ Ts) (w3 : Jvm.Cond.static arraycopyName ∈ Ts) (w4 : Jvm.Cond.initialized "java/lang/System" ∈ Ts) (hframes : 1 ≤ R.frames) (hlocals : (st.map fun v => v.category).sum + (nativeFrameWords "java/lang/System" "arraycopy" 5 + 11) ≤ R.locals) (hdg : decode cc pc = .ok (.invokestatic index, 3)) (kk : V p l e R s m args below meth c k n Q cc own Ts nL G A H0 ws' lv (pc + 3) st) : V p l e R s m args below meth c k n Q cc own Ts nL G A H0 ws lv pc (.int x :: .int 0 :: .ref a :: .int 0 :: .ref a0 :: st) := by
  intro X H locs ls hP hD hS hl
  have hcl : x.toNatClampNeg = n' := by rw [hx, nI_clamp hn]
  have h00 : (0 : Int32).toNatClampNeg = 0 := rfl
  refine va_copyi X.1 X.2.1 (by rw [X.2.2.1]; exact hl.1.symm) X.2.2.2.1 (X.2.2.2.2.1 _ wl) (X.2.2.2.2.1 _ w2) (X.2.2.2.2.1 _ w3) (X.2.2.2.2.1 _ w4) X.2.2.2.2.2.1.1 hP hD hS q0 q1 0 0 ha0 ha1 rfl rfl rfl (by decide) (by decide) (by rw [hx]; exact nI_pos hn) (by rw [hcl, h00]; omega) (by rw [hcl, h00]; omega) (fun _ _ => rfl) hframes hlocals hdg (fun H1 locs1 h1 h2 h3 => ?_)
  rw [hcl, h00] at h1 h2
  have e0 : (ws.set q1 (a, .inl (G.2.1, n', .inl (va_cpy f g 0 0 n'))))[q1]? = some (a, .inl (G.2.1, n', .inl (va_cpy f g 0 0 n'))) := by
    have hlt := (List.getElem?_eq_some_iff.mp ha1).1
    rw [List.getElem?_set_self hlt]
  refine V_arr (ws' := ws') (g := f) q1 e0 (fun j hj => (pk_cpy_in (by omega) (by omega)).trans (by rw [Nat.zero_add, Nat.sub_zero])) (by rw [List.set_set]; exact hws) kk X H1 locs1 ls h1 h2 h3 hl
theorem V_mmax {x y : Int32} {index : Nat} (hdg : decode cc pc = .ok (.invokestatic index, 3)) (wl : Jvm.Cond.methodLink own index Lib.Math.max.name ∈ Ts) (w2 : Jvm.Cond.static Lib.Math.max.name ∈ Ts) (w3 : Jvm.Cond.initialized "java/lang/Math" ∈ Ts) (w4 : Jvm.Cond.code Lib.Math.max.name Lib.Math.max.code 2 (some .int) ∈ Ts) (hf : 1 ≤ R.frames) (hlo : (st.map fun v => v.category).sum + 13 ≤ R.locals) (kk : V p l e R s m args below meth c k n Q cc own Ts nL G A H0 ws lv (pc + 3) (.int (if x < y then y else x) :: st)) : V p l e R s m args below meth c k n Q cc own Ts nL G A H0 ws lv pc (.int y :: .int x :: st) :=
  fun X H locs ls hP hD hS hl => va_mmax X.1 X.2.1 (by rw [X.2.2.1]; exact hl.1.symm) X.2.2.2.1 (X.2.2.2.2.1 _ wl) (X.2.2.2.2.1 _ w2) (X.2.2.2.2.1 _ w3) (X.2.2.2.2.1 _ w4) hf hlo X.2.2.2.2.2.2.2.1 X.2.2.2.2.2.2.2.2 hdg (kk X H locs ls hP hD hS hl)
theorem V_mmin {x y : Int32} {index : Nat} (hdg : decode cc pc = .ok (.invokestatic index, 3)) (wl : Jvm.Cond.methodLink own index Lib.Math.min.name ∈ Ts) (w2 : Jvm.Cond.static Lib.Math.min.name ∈ Ts) (w3 : Jvm.Cond.initialized "java/lang/Math" ∈ Ts) (w4 : Jvm.Cond.code Lib.Math.min.name Lib.Math.min.code 2 (some .int) ∈ Ts) (hf : 1 ≤ R.frames) (hlo : (st.map fun v => v.category).sum + 13 ≤ R.locals) (kk : V p l e R s m args below meth c k n Q cc own Ts nL G A H0 ws lv (pc + 3) (.int (if y < x then y else x) :: st)) : V p l e R s m args below meth c k n Q cc own Ts nL G A H0 ws lv pc (.int y :: .int x :: st) :=
  fun X H locs ls hP hD hS hl => va_mmin X.1 X.2.1 (by rw [X.2.2.1]; exact hl.1.symm) X.2.2.2.1 (X.2.2.2.2.1 _ wl) (X.2.2.2.2.1 _ w2) (X.2.2.2.2.1 _ w3) (X.2.2.2.2.1 _ w4) hf hlo X.2.2.2.2.2.2.2.1 X.2.2.2.2.2.2.2.2 hdg (kk X H locs ls hP hD hS hl)
end VV
theorem CI.of {l : Launch} {y : MethodName} {wsy wsy' : List Cond} {rm : Room} {G : GG} {wc : va_W} {S : Type} {wc' : S → va_W} {av : List Value} {r : Int32} {ty : FieldType} {cc : ByteArray} {nL : Nat} (hy : plainName y.cls = true) (hw : wsy = Cond.code y cc nL (some ty) :: wsy') (hrm : rm.cells = 0 ∧ rm.slots = 0) (hav : (lg_sl av).length ≤ nL) (body : ∀ (p : Program) (e : Env) (s : State) (m : MethodId) (args : Array Value) (below : List Frame) (meth : Method) (c : Code) (Q : State → Prop) (A : Nat → Prop) (H0 : Heap) (_ : KK G s) (fin : ∀ (lv : List (Nat × Value)) (pc : Nat) (r' : Int32) (wf : va_W), decode cc pc = .ok (.ireturn, 1) → narrow ty (.int r') = .int r' → r' = r → (u : S) → wf = wc' u → V p l e (headSpec wsy rm).room s m args below meth c 0 0 Q cc y.cls wsy nL G A H0 wf lv pc [.int r']), V p l e (headSpec wsy rm).room s m args below meth c 0 0 Q cc y.cls wsy nL G A H0 wc (lv_args 0 av) 0 []) : CI l y wsy rm G wc av r wc' := by
  intro sz
  refine Met.ofW (cc := cc) (maxL := nL) hy hw ?_
  intro p e s m args below meth c s₁ B hml hv
  obtain ⟨rfl, hsz, hP, hK, hD0⟩ := hv
  subst hsz
  have hts := atoms_spec (ws := wsy) B.pre
  have hown : s.vm.findClass y.cls = some m.cls := findClass_of_methodNamed B.named
  have hl := lv_entry av (n := nL) hav
  rw [lg_entry_eq]
  refine body p e s m av.toArray below meth c _ (va_A wc s.heap.size) s.heap hK (fun lv pc r' wf hdg hn hr u hwf X H locs ls hP hD hS hl => by
    subst hr; subst hwf
    exact W.zret X.1 X.2.1 B.returns hn (fun t ht hW => ⟨⟨r', u, rfl, rfl, by rw [ht]; exact hP, hD⟩, hS.F ht⟩) hS.2.2 hdg B.notSynchronized) ⟨B.exec, B.bytes, hml, hown, hts, hK, fun q h => Or.inr h, ⟨Nat.zero_le _, Nat.zero_le _⟩⟩ s.heap [] _ hP hD0.self va_S.rf hl
theorem CV.of {l : Launch} {y : MethodName} {wsy wsy' : List Cond} {rm : Room} {G : GG} {wc : va_W} {S : Type} {wc' : S → va_W} {av : List Value} {cc : ByteArray} {nL : Nat} (hy : plainName y.cls = true) (hw : wsy = Cond.code y cc nL none :: wsy') (hrm : rm.cells = 0 ∧ rm.slots = 0) (hav : (lg_sl av).length ≤ nL) (body : ∀ (p : Program) (e : Env) (s : State) (m : MethodId) (args : Array Value) (below : List Frame) (meth : Method) (c : Code) (Q : State → Prop) (A : Nat → Prop) (H0 : Heap) (_ : KK G s) (fin : ∀ (lv : List (Nat × Value)) (pc : Nat) (wf : va_W), decode cc pc = .ok (.return_, 1) → (u : S) → wf = wc' u → V p l e (headSpec wsy rm).room s m args below meth c 0 0 Q cc y.cls wsy nL G A H0 wf lv pc []), V p l e (headSpec wsy rm).room s m args below meth c 0 0 Q cc y.cls wsy nL G A H0 wc (lv_args 0 av) 0 []) : CV l y wsy rm G wc av wc' := by
  intro sz
  refine Met.ofW (cc := cc) (maxL := nL) hy hw ?_
  intro p e s m args below meth c s₁ B hml hv
  obtain ⟨rfl, hsz, hP, hK, hD0⟩ := hv
  subst hsz
  have hts := atoms_spec (ws := wsy) B.pre
  have hown : s.vm.findClass y.cls = some m.cls := findClass_of_methodNamed B.named
  have hl := lv_entry av (n := nL) hav
  rw [lg_entry_eq]
  refine body p e s m av.toArray below meth c _ (va_A wc s.heap.size) s.heap hK (fun lv pc wf hdg u hwf X H locs ls hP hD hS hl => by
    subst hwf
    exact W.vret X.1 X.2.1 B.returns (fun t ht hW => ⟨⟨u, rfl, trivial, by rw [ht]; exact hP, hD⟩, hS.F ht⟩) hS.2.2 hdg B.notSynchronized) ⟨B.exec, B.bytes, hml, hown, hts, hK, fun q h => Or.inr h, ⟨Nat.zero_le _, Nat.zero_le _⟩⟩ s.heap [] _ hP hD0.self va_S.rf hl
theorem CL.of {l : Launch} {y : MethodName} {wsy wsy' : List Cond} {rm : Room} {G : GG} {wc : va_W} {S : Type} {wc' : S → va_W} {av : List Value} {r : Int64} {cc : ByteArray} {nL : Nat} (hy : plainName y.cls = true) (hw : wsy = Cond.code y cc nL (some .long) :: wsy') (hrm : rm.cells = 0 ∧ rm.slots = 0) (hav : (lg_sl av).length ≤ nL) (body : ∀ (p : Program) (e : Env) (s : State) (m : MethodId) (args : Array Value) (below : List Frame) (meth : Method) (c : Code) (Q : State → Prop) (A : Nat → Prop) (H0 : Heap) (_ : KK G s) (fin : ∀ (lv : List (Nat × Value)) (pc : Nat) (r' : Int64) (wf : va_W), decode cc pc = .ok (.lreturn, 1) → r' = r → (u : S) → wf = wc' u → V p l e (headSpec wsy rm).room s m args below meth c 0 0 Q cc y.cls wsy nL G A H0 wf lv pc [.long r']), V p l e (headSpec wsy rm).room s m args below meth c 0 0 Q cc y.cls wsy nL G A H0 wc (lv_args 0 av) 0 []) : CL l y wsy rm G wc av r wc' := by
  intro sz
  refine Met.ofW (cc := cc) (maxL := nL) hy hw ?_
  intro p e s m args below meth c s₁ B hml hv
  obtain ⟨rfl, hsz, hP, hK, hD0⟩ := hv
  subst hsz
  have hts := atoms_spec (ws := wsy) B.pre
  have hown : s.vm.findClass y.cls = some m.cls := findClass_of_methodNamed B.named
  have hl := lv_entry av (n := nL) hav
  rw [lg_entry_eq]
  refine body p e s m av.toArray below meth c _ (va_A wc s.heap.size) s.heap hK (fun lv pc r' wf hdg hr u hwf X H locs ls hP hD hS hl => by
    subst hr; subst hwf
    exact W.lret X.1 X.2.1 B.returns (fun t ht hW => ⟨⟨r', u, rfl, rfl, by rw [ht]; exact hP, hD⟩, hS.F ht⟩) hS.2.2 hdg B.notSynchronized) ⟨B.exec, B.bytes, hml, hown, hts, hK, fun q h => Or.inr h, ⟨Nat.zero_le _, Nat.zero_le _⟩⟩ s.heap [] _ hP hD0.self va_S.rf hl
