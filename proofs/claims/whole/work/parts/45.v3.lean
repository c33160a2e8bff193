/-! Rows of V for what is new: objects, arrays, constructors; contracts of constructors. -/
def CN (l : Launch) (y : MethodName) (wsy : List Cond) (rm : Room) (G : GG) (Ex : State → Prop) (wc : va_W) (av : List Value) {S : Type} (wc' : S → va_W) (mc ms : Nat) : Prop := ∀ sz : Nat, Met l y wsy rm (va_Pc av (fun U => cPre G wc sz U ∧ Ex U)) (va_Qv (fun (_ : S) => True) (fun u t => va_P G.1 vwCl (wc' u) t.heap ∧ va_D (va_A wc sz) (wc' u)) (va_A wc sz)) mc ms (va_A wc sz)
section VV3
variable {p : Program} {l : Launch} {e : Env} {R : Room} {s : State} {m : MethodId} {args : Array Value} {below : List Frame} {meth : Method} {c : Code} {k n : Nat} {Q : State → Prop}
variable {cc : ByteArray} {own : String} {Ts : List Cond} {nL : Nat} {G : GG} {A : Nat → Prop} {H0 : Heap}
variable {ws ws' : va_W} {lv lv' : List (Nat × Value)} {pc : Nat} {st rest : List Value}
theorem V_kn {k' n' : Nat} (hk : k = k') (hn : n = n') (kk : V p l e R s m args below meth c k' n' Q cc own Ts nL G A H0 ws lv pc st) : V p l e R s m args below meth c k n Q cc own Ts nL G A H0 ws lv pc st := by
  subst hk; subst hn; exact kk
theorem V_objInit {index : Nat} {a : Nat} (wl : Jvm.Cond.methodLink own index objectInit ∈ Ts) (w2 : Jvm.Cond.instanceMethod objectInit ∈ Ts) (w3 : Jvm.Cond.code objectInit ⟨#[0xb1]⟩ 1 none ∈ Ts) (hf : 1 ≤ R.frames) (hlo : (st.map fun v => v.category).sum + 12 ≤ R.locals) (hdg : decode cc pc = .ok (.invokespecial index, 3)) (kk : V p l e R s m args below meth c k n Q cc own Ts nL G A H0 ws lv (pc + 3) st) : V p l e R s m args below meth c k n Q cc own Ts nL G A H0 ws lv pc (.ref a :: st) := by
  intro X H locs ls hP hD hS hl
  refine W.objInit X.1 X.2.1 X.2.2.2.1 (X.2.2.2.2.1 _ wl) (X.2.2.2.2.1 _ w2) (X.2.2.2.2.1 _ w3) rfl (by rw [X.2.2.1]; exact hl.1) rfl hdg hf ?_ ?_
  · have h0 : (F0 m pc ls (.ref a :: st)).monitorRoom = 0 := rfl
    rw [h0]; omega
  · exact W.eq (g2 := F0 m (pc + 3) ls st) rfl (kk X H locs ls hP hD hS hl)
theorem V_newA {at_ : ArrayType} {ty : FieldType} {N' : Nat} {x : Int32} (t0 : Nat) {cA : ClassId} (ht : (tysG G)[t0]? = some (cA, ty)) (hty : newarray.typeOf at_ = ty) (hcell : ∀ cB : ClassId, vp_cell cB (N', .inl (fun _ => 0)) = arrV cB N' (fun _ => defaultValue ty)) (hra : ∀ (c1 c2 : ClassId), va_RA s c1 ty → va_RA s c2 ty → c1 = c2) (harr : Jvm.Cond.arrayClass ty ∈ Ts) (hx : x = nI N') (hN : N' < 1000) (hby : N' * componentBytes ty ≤ 536870912) (hcells : k + 1 ≤ R.cells) (hslots : n + N' ≤ R.slots) (hdg : decode cc pc = .ok (.newarray at_, 2)) (kk : ∀ q : Nat, V p l e R s m args below meth c (k + 1) (n + N') Q cc own Ts nL G A H0 (ws ++ [(q, .inl (cA, N', .inl (fun _ => 0)))]) lv (pc + 2) (.ref q :: st)) : V p l e R s m args below meth c k n Q cc own Ts nL G A H0 ws lv pc (.int x :: st) := by
  intro X H locs ls hP hD hS hl
  subst hty
  refine va_newa X.1 X.2.1 (X.2.2.2.2.1 _ harr) rfl X.2.2.2.2.2.1.1 hP hD hS X.2.2.2.2.2.2.1 (N' := N') (a0 := (N', .inl (fun _ => 0))) hcell (by rw [hx]; exact nI_pos (by omega)) (by rw [hx]; exact nI_clamp (by omega)) hby hcells hslots hdg (fun q cB H1 hK1 hP1 hD1 hS1 => ?_)
  have eq1 : cB = cA := hra cB cA (hK1.2 (tysG G).length (cB, newarray.typeOf at_) (by simp)).2 (X.2.2.2.2.2.1.1.2 t0 _ ht).2
  subst eq1
  exact kk q ⟨X.1, X.2.1, X.2.2.1, X.2.2.2.1, X.2.2.2.2.1, X.2.2.2.2.2.1, X.2.2.2.2.2.2.1, hcells, hslots⟩ H1 locs ls hP1 hD1 hS1 hl
theorem V_newI {N' : Nat} {x : Int32} (harr : Jvm.Cond.arrayClass .int ∈ Ts) (hx : x = nI N') (hN : N' < 1000) (hcells : k + 1 ≤ R.cells) (hslots : n + N' ≤ R.slots) (hdg : decode cc pc = .ok (.newarray .int, 2)) (kk : ∀ q : Nat, V p l e R s m args below meth c (k + 1) (n + N') Q cc own Ts nL G A H0 (ws ++ [(q, .inl (G.2.1, N', .inl (fun _ => 0)))]) lv (pc + 2) (.ref q :: st)) : V p l e R s m args below meth c k n Q cc own Ts nL G A H0 ws lv pc (.int x :: st) :=
  V_newA 0 rfl rfl (fun _ => rfl) (fun c1 c2 (h1 : s.vm.findClass ("[" ++ FieldType.int.toString) = some c1) (h2 : s.vm.findClass ("[" ++ FieldType.int.toString) = some c2) => Option.some.inj (h1.symm.trans h2)) harr hx hN (by show N' * 4 ≤ _; omega) hcells hslots hdg kk
theorem V_newC {N' : Nat} {x : Int32} (harr : Jvm.Cond.arrayClass .char ∈ Ts) (hx : x = nI N') (hN : N' < 1000) (hcells : k + 1 ≤ R.cells) (hslots : n + N' ≤ R.slots) (hdg : decode cc pc = .ok (.newarray .char, 2)) (kk : ∀ q : Nat, V p l e R s m args below meth c (k + 1) (n + N') Q cc own Ts nL G A H0 (ws ++ [(q, .inl (G.2.2.1, N', .inl (fun _ => 0)))]) lv (pc + 2) (.ref q :: st)) : V p l e R s m args below meth c k n Q cc own Ts nL G A H0 ws lv pc (.int x :: st) :=
  V_newA 1 rfl rfl (fun _ => rfl) (fun c1 c2 (h1 : s.vm.findClass ("[" ++ FieldType.char.toString) = some c1) (h2 : s.vm.findClass ("[" ++ FieldType.char.toString) = some c2) => Option.some.inj (h1.symm.trans h2)) harr hx hN (by show N' * 2 ≤ _; omega) hcells hslots hdg kk
theorem V_newZ {N' : Nat} {x : Int32} (harr : Jvm.Cond.arrayClass .boolean ∈ Ts) (hx : x = nI N') (hN : N' < 1000) (hcells : k + 1 ≤ R.cells) (hslots : n + N' ≤ R.slots) (hdg : decode cc pc = .ok (.newarray .boolean, 2)) (kk : ∀ q : Nat, V p l e R s m args below meth c (k + 1) (n + N') Q cc own Ts nL G A H0 (ws ++ [(q, .inl (G.2.2.2.1, N', .inl (fun _ => 0)))]) lv (pc + 2) (.ref q :: st)) : V p l e R s m args below meth c k n Q cc own Ts nL G A H0 ws lv pc (.int x :: st) :=
  V_newA 2 rfl rfl (fun _ => rfl) (fun c1 c2 (h1 : s.vm.findClass ("[" ++ FieldType.boolean.toString) = some c1) (h2 : s.vm.findClass ("[" ++ FieldType.boolean.toString) = some c2) => Option.some.inj (h1.symm.trans h2)) harr hx hN (by show N' * 1 ≤ _; omega) hcells hslots hdg kk
theorem V_newL {index N' : Nat} {x : Int32} (hAO : va_AO RX0 s) (wl : Jvm.Cond.classLink own index RX0 ∈ Ts) (hx : x = nI N') (hN : N' < 1000) (hcells : k + 1 ≤ R.cells) (hslots : n + N' ≤ R.slots) (hdg : decode cc pc = .ok (.anewarray index, 3)) (kk : ∀ q : Nat, V p l e R s m args below meth c (k + 1) (n + N') Q cc own Ts nL G A H0 (ws ++ [(q, .inl (G.2.2.2.2, N', .inr (.inr (.inr (.inr (fun _ => none))))))]) lv (pc + 3) (.ref q :: st)) : V p l e R s m args below meth c k n Q cc own Ts nL G A H0 ws lv pc (.int x :: st) := by
  intro X H locs ls hP hD hS hl
  refine va_newq X.1 X.2.1 X.2.2.2.1 (X.2.2.2.2.1 _ wl) hAO X.2.2.2.2.2.1.1 hP hD hS X.2.2.2.2.2.2.1 (N' := N') (by rw [hx]; exact nI_pos (by omega)) (by rw [hx]; exact nI_clamp (by omega)) (by omega) hcells hslots hdg (fun q cB H1 hK1 hP1 hD1 hS1 => ?_)
  have h1 : va_RA s cB (.object RX0) := (hK1.2 (tysG G).length (cB, .object RX0) (by simp)).2
  have h2 : va_RA s G.2.2.2.2 (.object RX0) := (X.2.2.2.2.2.1.1.2 3 _ rfl).2
  obtain ⟨-, -, -, -, -, h1⟩ := h1
  obtain ⟨-, -, -, -, -, h2⟩ := h2
  have eq1 : cB = G.2.2.2.2 := Option.some.inj (h1.symm.trans h2)
  subst eq1
  exact kk q ⟨X.1, X.2.1, X.2.2.1, X.2.2.2.1, X.2.2.2.2.1, X.2.2.2.2.2.1, X.2.2.2.2.2.2.1, hcells, hslots⟩ H1 locs ls hP1 hD1 hS1 hl
theorem V_aast {a b j : Nat} (q0 t0 qk ci : Nat) {cA : ClassId} {z : vw_C} {n' : Nat} {vs : List Value} {f : Nat → Option Nat} {i : Int32} (ha : ws[q0]? = some (a, .inl (cA, n', .inr (.inr (.inr (.inr f)))))) (ht : (tysG G)[t0]? = some (cA, .object z.1)) (hv : ws[qk]? = some (b, .inr (ci, vs))) (hc : vwCl[ci]? = some z) (hi : i = nI j) (hj : j < n') (hn : n' < 2 ^ 31) (hws : ws.set q0 (a, .inl (cA, n', .inr (.inr (.inr (.inr (va_up f j (some b))))))) = ws') (hdg : decode cc pc = .ok (.aastore, 1)) (kk : V p l e R s m args below meth c k n Q cc own Ts nL G A H0 ws' lv (pc + 1) st) : V p l e R s m args below meth c k n Q cc own Ts nL G A H0 ws lv pc (.ref b :: .int i :: .ref a :: st) := by
  intro X H locs ls hP hD hS hl
  refine va_astq X.1 X.2.1 X.2.2.2.2.2.1.1 hP hD hS q0 t0 qk ci ha ht hv hc (by rw [hi]; exact vp_in_nI hj hn) hdg (fun H1 locs1 h1 h2 h3 => ?_)
  rw [hi, nI_clamp (Nat.lt_trans hj hn)] at h1 h2
  subst hws
  exact kk X H1 locs1 ls h1 h2 h3 hl
theorem V_new {C : String} {T : u_T} {N ci index : Nat} (hin : ∀ w ∈ u_ws C T N, w ∈ Ts) (ty : Nat → FieldType) (hty : ∀ k, k < N → parseFieldDescriptor (T k).2.2.1 = some (ty k)) (hcl : Jvm.Cond.classLink own index C ∈ Ts) (hinst : Jvm.Cond.instantiable C N ∈ Ts) (hini : Jvm.Cond.initialized C ∈ Ts) (hc : vwCl[ci]? = some (C, T, N)) {fs : List Value} (hfs : ∀ j, j < N → defaultValue (ty j) = vp_V fs j) (hcells : k + 1 ≤ R.cells) (hslots : n + N ≤ R.slots) (hdg : decode cc pc = .ok (.new index, 3)) (kk : ∀ q : Nat, V p l e R s m args below meth c (k + 1) (n + N) Q cc own Ts nL G A H0 (ws ++ [(q, .inr (ci, fs))]) lv (pc + 3) (.ref q :: st)) : V p l e R s m args below meth c k n Q cc own Ts nL G A H0 ws lv pc st :=
  fun X H locs ls hP hD hS hl => va_new X.1 X.2.1 X.2.2.2.2.1 hin ty hty X.2.2.2.1 (X.2.2.2.2.1 _ hcl) (X.2.2.2.2.1 _ hinst) (X.2.2.2.2.1 _ hini) X.2.2.2.2.2.1.1 hP hD hS X.2.2.2.2.2.2.1 hc hfs hcells hslots hdg (fun q H1 h1 h2 h3 => kk q ⟨X.1, X.2.1, X.2.2.1, X.2.2.2.1, X.2.2.2.2.1, X.2.2.2.2.2.1, X.2.2.2.2.2.2.1, hcells, hslots⟩ H1 locs ls h1 h2 h3 hl)
theorem V_putF {C : String} {T : u_T} {N ci index : Nat} {a : Nat} (hin : ∀ w ∈ u_ws C T N, w ∈ Ts) (ty0 : Nat → FieldType) (hty : ∀ k, k < N → parseFieldDescriptor (T k).2.2.1 = some (ty0 k)) (hnm : ∀ a, a < N → ∀ b, b < N → a ≠ b → (T a).2.1 ≠ (T b).2.1) (hini : meth.name = "<init>") (q0 : Nat) {fs : List Value} (he : ws[q0]? = some (a, .inr (ci, fs))) (hc : vwCl[ci]? = some (C, T, N)) (j : Nat) (hj : j < N) (hlink : Jvm.Cond.fieldLink own index C (T j).2.1 (T j).2.2.1 ∈ Ts) (hcl : (T j).1 = C) (hfin : (T j).2.2.2 = true) (hdecl : (T j).1 = own) {ty : FieldType} {b : Nat} (hd : parseFieldDescriptor (T j).2.2.1 = some ty) (hnar : narrow ty (.ref b) = .ref b) (hfit : fits ty (.ref b) = true) (hl0 : j < fs.length) (hws : ws.set q0 (a, .inr (ci, fs.set j (.ref b))) = ws') (hdg : decode cc pc = .ok (.putfield index, 3)) (kk : V p l e R s m args below meth c k n Q cc own Ts nL G A H0 ws' lv (pc + 3) st) : V p l e R s m args below meth c k n Q cc own Ts nL G A H0 ws lv pc (.ref b :: .ref a :: st) :=
  fun X H locs ls hP hD hS hl => va_putF X.1 X.2.1 X.2.2.2.2.1 hin ty0 hty hnm X.2.2.2.1 X.2.2.2.2.2.1.1 hP hD hS q0 he hc j hj (X.2.2.2.2.1 _ hlink) (fun x h9 => by rw [hcl] at h9; exact h9) hfin hini hdecl hd hnar hfit hl0 hdg (fun H1 locs1 h1 h2 h3 => by subst hws; exact kk X H1 locs1 ls h1 h2 h3 hl)
theorem V_callI {y : MethodName} {bytes : ByteArray} {maxL index mc ms : Nat} {wsy : List Cond} {rm : Room} {Ex : State → Prop} {wc wr : va_W} {S : Type} {wc' : S → va_W} {ws' : S → va_W} {b : Nat} (As rest : List Value) (n' : Nat) (hM : CN l y wsy rm G Ex wc (.ref b :: As) wc' mc ms) (hEb : ∀ (a : Array Value) (U : State) (g : JFrame) (mk : MethodId), Ex U → Ex (U.calling g mk a)) (hEx : ∀ (U : State) (H : Heap) (locs : List Loc), va_S A H0 H locs → U.heap = H → s.WarmedH U.vm → Ex U) (cw : ∀ (X : Vx p R s m args c k n cc own Ts nL G A H0), CallB R s args own index y bytes maxL none wsy rm mc ms n' ∧ y.name = "<init>" ∧ (Cond.instanceMethod y).before args s = true) (hn : As.length = n') (isC isR is' : List Nat) (hC : isC.map (fun i => ws[i]?) = wc.map some) (hR : isR.map (fun i => ws[i]?) = wr.map some) (hnd : va_nd isC = true ∧ va_nd isR = true ∧ va_nd is' = true) (hdis : ∀ i ∈ isR, i ∉ isC) (hW : ∀ u, is'.map (fun i => (wr ++ wc' u)[i]?) = (ws' u).map some) (hst : st = As.reverse ++ .ref b :: rest) (hroom : (rest.map fun v => v.category).sum ≤ 8) (hfit : k + mc ≤ R.cells ∧ n + ms ≤ R.slots) (hdg : decode cc pc = .ok (.invokespecial index, 3)) (kk : ∀ u : S, V p l e R s m args below meth c (k + mc) (n + ms) Q cc own Ts nL G A H0 (ws' u) lv (pc + 3) (rest)) : V p l e R s m args below meth c k n Q cc own Ts nL G A H0 ws lv pc st := by
  intro X H locs ls hP hD hS hl
  have hPc := hP.pick hC
  have hDc := hD.sub isC hnd.1 hC
  have hFc := va_free (wc := wc) hD hS X.2.2.2.2.2.2.1 isC hC
  refine va_callv (va_runI (As := As) (rest := rest) ⟨X.1, X.2.1, X.2.2.1, X.2.2.2.1, X.2.2.2.2.1⟩ (hM H.size) (cw X) ⟨fun a U g mk q => ⟨q.1, cPre.blind a U g mk ⟨q.1, q.2.1⟩ |>.2, hEb a U g mk q.2.2⟩, fun U hU hW => ⟨rfl, ⟨by rw [hU], by rw [hU]; exact hPc, KK.warm hW X.2.2.2.2.2.1, hDc.weaken (fun _ _ _ _ => trivial)⟩, hEx U H locs hS hU hW⟩⟩ rfl hn hl.1 hst (lv_room hroom) hdg hfit) hS (fun q _ h => hFc q h) hFc (fun u t H1 locs1 ht hvm hw1 hB hz1 hk1 hS1 => ?_)
  obtain ⟨hP1, hD1⟩ := hB
  rw [ht] at hP1
  obtain ⟨hPj, hDj⟩ := va_join (wr := wr) (w1 := wc' u) hP hD isC isR hC hR hnd.2.1 hdis hk1 hFc hP1 hD1
  exact kk u ⟨X.1, X.2.1, X.2.2.1, X.2.2.2.1, X.2.2.2.2.1, X.2.2.2.2.2.1, X.2.2.2.2.2.2.1, hfit⟩ H1 locs1 ls (hPj.pick (hW u)) (hDj.sub is' hnd.2.2 (hW u)) hS1 hl
theorem V_callIN {y : MethodName} {bytes : ByteArray} {maxL index mc ms : Nat} {wsy : List Cond} {rm : Room} {Ex : State → Prop} {wc wr : va_W} {S : Type} {wc' : S → va_W} {ws' : S → va_W} {b : Nat} (As rest : List Value) (n' : Nat) (hM : CN l y wsy rm G Ex wc (.ref b :: As) wc' mc ms) (hEb : ∀ (a : Array Value) (U : State) (g : JFrame) (mk : MethodId), Ex U → Ex (U.calling g mk a)) (hEx : ∀ (U : State) (H : Heap) (locs : List Loc), va_S A H0 H locs → U.heap = H → s.WarmedH U.vm → Ex U) (cw : ∀ (X : Vx p R s m args c k n cc own Ts nL G A H0), va_CN R s args own index y RX5 bytes maxL none wsy rm mc ms n' ∧ y.name = "<init>" ∧ (Cond.instanceMethod y).before args s = true) (hn : As.length = n') (isC isR is' : List Nat) (hC : isC.map (fun i => ws[i]?) = wc.map some) (hR : isR.map (fun i => ws[i]?) = wr.map some) (hnd : va_nd isC = true ∧ va_nd isR = true ∧ va_nd is' = true) (hdis : ∀ i ∈ isR, i ∉ isC) (hW : ∀ u, is'.map (fun i => (wr ++ wc' u)[i]?) = (ws' u).map some) (hst : st = As.reverse ++ .ref b :: rest) (hroom : (rest.map fun v => v.category).sum ≤ 8) (hfit : k + mc ≤ R.cells ∧ n + ms ≤ R.slots) (hdg : decode cc pc = .ok (.invokespecial index, 3)) (kk : ∀ u : S, V p l e R s m args below meth c (k + mc) (n + ms) Q cc own Ts nL G A H0 (ws' u) lv (pc + 3) (rest)) : V p l e R s m args below meth c k n Q cc own Ts nL G A H0 ws lv pc st := by
  intro X H locs ls hP hD hS hl
  have hPc := hP.pick hC
  have hDc := hD.sub isC hnd.1 hC
  have hFc := va_free (wc := wc) hD hS X.2.2.2.2.2.2.1 isC hC
  refine va_callv (va_runIN (As := As) (rest := rest) ⟨X.1, X.2.1, X.2.2.1, X.2.2.2.1, X.2.2.2.2.1⟩ (hM H.size) (cw X) ⟨fun a U g mk q => ⟨q.1, cPre.blind a U g mk ⟨q.1, q.2.1⟩ |>.2, hEb a U g mk q.2.2⟩, fun U hU hW => ⟨rfl, ⟨by rw [hU], by rw [hU]; exact hPc, KK.warm hW X.2.2.2.2.2.1, hDc.weaken (fun _ _ _ _ => trivial)⟩, hEx U H locs hS hU hW⟩⟩ rfl hn hl.1 hst (lv_room hroom) hdg hfit) hS (fun q _ h => hFc q h) hFc (fun u t H1 locs1 ht hvm hw1 hB hz1 hk1 hS1 => ?_)
  obtain ⟨hP1, hD1⟩ := hB
  rw [ht] at hP1
  obtain ⟨hPj, hDj⟩ := va_join (wr := wr) (w1 := wc' u) hP hD isC isR hC hR hnd.2.1 hdis hk1 hFc hP1 hD1
  exact kk u ⟨X.1, X.2.1, X.2.2.1, X.2.2.2.1, X.2.2.2.2.1, X.2.2.2.2.2.1, X.2.2.2.2.2.2.1, hfit⟩ H1 locs1 ls (hPj.pick (hW u)) (hDj.sub is' hnd.2.2 (hW u)) hS1 hl
theorem V_arrL {a : Nat} (q0 : Nat) {cA : ClassId} {n' : Nat} {f g : Nat → Option Nat} (ha : ws[q0]? = some (a, .inl (cA, n', .inr (.inr (.inr (.inr f)))))) (hf : ∀ j, j < n' → f j = g j) (hws : ws.set q0 (a, .inl (cA, n', .inr (.inr (.inr (.inr g))))) = ws') (kk : V p l e R s m args below meth c k n Q cc own Ts nL G A H0 ws' lv pc st) : V p l e R s m args below meth c k n Q cc own Ts nL G A H0 ws lv pc st := by
  intro X H locs ls hP hD hS hl
  subst hws
  refine kk X H locs ls (hP.set hD ha ?_ (fun _ _ => rfl)) (hD.set ha) hS hl
  have h0 : H[a]? = some (vp_cell cA (n', .inr (.inr (.inr (.inr f))))) := hP q0 _ ha
  show H[a]? = some (vp_cell cA (n', .inr (.inr (.inr (.inr g)))))
  rw [h0, vp_cell_q, vp_cell_q, arrV_cg (fun j hj => by rw [hf j hj])]
end VV3
theorem CN.of {l : Launch} {y : MethodName} {wsy wsy' : List Cond} {rm : Room} {G : GG} {Ex : State → Prop} {wc : va_W} {S : Type} {wc' : S → va_W} {mc ms : Nat} {av : List Value} {cc : ByteArray} {nL : Nat} (hy : plainName y.cls = true) (hw : wsy = Cond.code y cc nL none :: wsy') (hnm : y.name = "<init>") (hav : (lg_sl av).length ≤ nL) (body : ∀ (p : Program) (e : Env) (s : State) (m : MethodId) (args : Array Value) (below : List Frame) (meth : Method) (c : Code) (Q : State → Prop) (_ : KK G s) (_ : Ex s) (_ : meth.name = "<init>") (fin : ∀ (lv : List (Nat × Value)) (pc : Nat) (wf : va_W) (k n : Nat), k ≤ mc → n ≤ ms → decode cc pc = .ok (.return_, 1) → (u : S) → wf = wc' u → V p l e (headSpec wsy rm).room s m args below meth c k n Q cc y.cls wsy nL G (va_A wc s.heap.size) s.heap wf lv pc []), V p l e (headSpec wsy rm).room s m args below meth c 0 0 Q cc y.cls wsy nL G (va_A wc s.heap.size) s.heap wc (lv_args 0 av) 0 []) : CN l y wsy rm G Ex wc av wc' mc ms := by
  intro sz
  refine Met.ofW (cc := cc) (maxL := nL) hy hw ?_
  intro p e s m args below meth c s₁ B hml hv
  obtain ⟨rfl, ⟨hsz, hP, hK, hD0⟩, hE⟩ := hv
  subst hsz
  have hts := atoms_spec (ws := wsy) B.pre
  have hown : s.vm.findClass y.cls = some m.cls := findClass_of_methodNamed B.named
  have hin : meth.name = "<init>" := ((name_of_methodNamed B.named B.method).1).trans hnm
  have hl := lv_entry av (n := nL) hav
  rw [lg_entry_eq]
  refine body p e s m av.toArray below meth c _ hK hE hin (fun lv pc wf k n hk hn hdg u hwf X H locs ls hP hD hS hl => by
    subst hwf
    refine W.widen hk hn ?_
    exact W.vret X.1 X.2.1 B.returns (fun t ht hW => ⟨⟨u, rfl, trivial, by rw [ht]; exact hP, hD⟩, hS.F ht⟩) hS.2.2 hdg B.notSynchronized) ⟨B.exec, B.bytes, hml, hown, hts, hK, fun q h => Or.inr h, ⟨Nat.zero_le _, Nat.zero_le _⟩⟩ s.heap [] _ hP hD0.self va_S.rf hl
