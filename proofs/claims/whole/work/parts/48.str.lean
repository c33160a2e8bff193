/-! The text that the class begins with: a String constant, its length and letters. -/
def SBY : List Int32 := [99, 48, 44, 48, 44, 54, 44, 49, 48, 59, 99, 49, 44, 48, 44, 52, 44, 50, 53, 59, 99, 50, 44, 49, 44, 51, 44, 56, 59, 99, 51, 44, 50, 44, 57, 44, 52, 48, 59, 99, 48, 44, 50, 44, 53, 44, 49, 50, 59, 99, 49, 44, 54, 44, 50, 44, 51, 48, 59, 99, 48, 44, 57, 44, 51, 44, 53, 59, 115, 49, 44, 52, 59, 114, 48, 59]
def SNA : List Nat := [99, 48, 44, 48, 44, 54, 44, 49, 48, 59, 99, 49, 44, 48, 44, 52, 44, 50, 53, 59, 99, 50, 44, 49, 44, 51, 44, 56, 59, 99, 51, 44, 50, 44, 57, 44, 52, 48, 59, 99, 48, 44, 50, 44, 53, 44, 49, 50, 59, 99, 49, 44, 54, 44, 50, 44, 51, 48, 59, 99, 48, 44, 57, 44, 51, 44, 53, 59, 115, 49, 44, 52, 59, 114, 48, 59]
def sby (j : Nat) : Int32 := SBY.getD j 0
def sna (j : Nat) : Nat := SNA.getD j 0
theorem sby_N : ∀ j : Fin 76, sby j.val = nI (sna j.val) ∧ sna j.val < 127 ∧ ((sby j.val &&& 255).toUInt32 % 65536).toInt32 = nI (sna j.val) := by decide +kernel
def SF (a v b0 : Nat) (U : State) (H : Heap) : Prop := vk_S 1 [76] [SBY] (fun _ => a) (fun _ => v) (fun q => b0 ≤ q) U H ∧ va_Z "java/lang/String" "COMPACT_STRINGS" "Z" (.int 1) (fun q => b0 ≤ q) U H ∧ va_Zq "jdk/internal/util/Preconditions" "SIOOBE_FORMATTER" "Ljava/util/function/BiFunction;" (fun q => b0 ≤ q) U H
theorem SF.moved {a v b0 : Nat} {u U : State} {H : Heap} (hvm : u.vm.Alike U.vm) (h : SF a v b0 u H) : SF a v b0 U H := ⟨vk_S.moved hvm h.1, va_Z.moved hvm h.2.1, va_Zq.moved hvm h.2.2⟩
theorem SF.kept {a v b0 : Nat} {U : State} {H H1 : Heap} (h : SF a v b0 U H) (hq : ∀ x : Nat, x < H.size → ¬ b0 ≤ x → H1[x]? = H[x]?) : SF a v b0 U H1 := ⟨vk_S.kept h.1 hq, va_Z.kept h.2.1 hq, va_Zq.kept h.2.2 hq⟩
def SE (a v b0 : Nat) : State → Prop := fun U => SF a v b0 U U.heap ∧ b0 ≤ U.heap.size
theorem SE.calling {a v b0 : Nat} (x : Array Value) (U : State) (g : JFrame) (mk : MethodId) (h : SE a v b0 U) : SE a v b0 (U.calling g mk x) := ⟨SF.moved (u := U) (U := U.calling g mk x) (Vm.Alike.refl U.vm) h.1, h.2⟩
/-- at a call within a method that began in s -/
theorem SE.at {a v b0 : Nat} {s U : State} {A : Nat → Prop} {H : Heap} {locs : List Loc} (h : SE a v b0 s) (hA : ∀ q, A q → b0 ≤ q) (hS : va_S A s.heap H locs) (hU : U.heap = H) (hW : s.WarmedH U.vm) : SE a v b0 U := by
  subst hU
  exact ⟨SF.moved hW.alike (SF.kept h.1 (fun x h1 h2 => hS.2.1 x h1 (fun q => h2 (hA x q)))), Nat.le_trans h.2 hS.1⟩
def CX (l : Launch) (y : MethodName) (wsy : List Cond) (rm : Room) (G : GG) (Ex : State → Prop) (av : List Value) (r : Int32) : Prop := ∀ sz : Nat, Met l y wsy rm (va_Pc av (fun U => cPre G [] sz U ∧ Ex U)) (va_Qi (fun (r' : Int32) (_ : Unit) => r' = r) (fun _ _ => True) (va_A [] sz)) 0 0 (va_A [] sz)
def CXV (l : Launch) (y : MethodName) (wsy : List Cond) (rm : Room) (G : GG) (Ex : State → Prop) (av : List Value) : Prop := ∀ sz : Nat, Met l y wsy rm (va_Pc av (fun U => cPre G [] sz U ∧ Ex U)) (va_Qv (fun (_ : Unit) => True) (fun _ _ => True) (va_A [] sz)) 0 0 (va_A [] sz)
section VV4
variable {p : Program} {l : Launch} {e : Env} {R : Room} {s : State} {m : MethodId} {args : Array Value} {below : List Frame} {meth : Method} {c : Code} {k n : Nat} {Q : State → Prop}
variable {cc : ByteArray} {own : String} {Ts : List Cond} {nL : Nat} {G : GG} {A : Nat → Prop}
variable {ws : va_W} {lv : List (Nat × Value)} {pc : Nat} {st rest : List Value}
theorem V_sgets {C d nm : String} {v : Value} {index : Nat} (hZ : va_Z C nm d v A s s.heap) (hlink : Jvm.Cond.fieldLink own index C nm d ∈ Ts) (hdg : decode cc pc = .ok (.getstatic index, 3)) (kk : V p l e R s m args below meth c k n Q cc own Ts nL G A s.heap ws lv (pc + 3) (v :: st)) : V p l e R s m args below meth c k n Q cc own Ts nL G A s.heap ws lv pc st :=
  fun X H locs ls hP hD hS hl => va_gets X.1 X.2.1 hZ hS X.2.2.2.1 (X.2.2.2.2.1 _ hlink) (fun _ h => h) hdg (kk X H locs ls hP hD hS hl)
theorem V_sgetf {C d nm : String} {v : Value} {q index : Nat} (hE : va_OF C nm d v q A s s.heap) (hlink : Jvm.Cond.fieldLink own index C nm d ∈ Ts) (hdg : decode cc pc = .ok (.getfield index, 3)) (kk : V p l e R s m args below meth c k n Q cc own Ts nL G A s.heap ws lv (pc + 3) (v :: st)) : V p l e R s m args below meth c k n Q cc own Ts nL G A s.heap ws lv pc (.ref q :: st) :=
  fun X H locs ls hP hD hS hl => vk_getf X.1 X.2.1 hE hS X.2.2.2.1 (X.2.2.2.2.1 _ hlink) (fun _ h => h) hdg (kk X H locs ls hP hD hS hl)
theorem V_salen {t N : Nat} {f : Nat → Value} (hT : va_T .byte t N f A s s.heap) (hdg : decode cc pc = .ok (.arraylength, 1)) (kk : V p l e R s m args below meth c k n Q cc own Ts nL G A s.heap ws lv (pc + 1) (.int (nI N) :: st)) : V p l e R s m args below meth c k n Q cc own Ts nL G A s.heap ws lv pc (.ref t :: st) :=
  fun X H locs ls hP hD hS hl => va_tlen X.1 X.2.1 hT hS rfl hdg (kk X H locs ls hP hD hS hl)
theorem V_sbald {t N j : Nat} {f : Nat → Value} {i x : Int32} (hT : va_T .byte t N f A s s.heap) (hi : i = nI j) (hj : j < N) (hN : N < 2 ^ 31) (hf : f j = .int x) (hdg : decode cc pc = .ok (.baload, 1)) (kk : V p l e R s m args below meth c k n Q cc own Ts nL G A s.heap ws lv (pc + 1) (.int x :: st)) : V p l e R s m args below meth c k n Q cc own Ts nL G A s.heap ws lv pc (.int i :: .ref t :: st) :=
  fun X H locs ls hP hD hS hl => va_tb X.1 X.2.1 hT hS (by rw [hi]; exact vp_in_nI hj hN) (v := .int x) (by rw [hi, nI_clamp (Nat.lt_trans hj hN)]; exact hf) hdg (kk X H locs ls hP hD hS hl)
theorem V_sldc {tx : String} {index q : Nat} (hZ : vk_R own index tx q s) (hdg : decode cc pc = .ok (.ldc index, 2)) (kk : V p l e R s m args below meth c k n Q cc own Ts nL G A s.heap ws lv (pc + 2) (.ref q :: st)) : V p l e R s m args below meth c k n Q cc own Ts nL G A s.heap ws lv pc st :=
  fun X H locs ls hP hD hS hl => va_ldcS X.1 X.2.1 X.2.2.2.1 hZ hdg (kk X H locs ls hP hD hS hl)
theorem va_A0 {sz q : Nat} (h : va_A [] sz q) : sz ≤ q := by
  rcases h with h | h
  · obtain ⟨k, x, hx, -⟩ := h
  · exact h
theorem V_callXV {y : MethodName} {bytes : ByteArray} {maxL index : Nat} {ret : Option FieldType} {wsy : List Cond} {rm : Room} {Ex : State → Prop} {b : Nat} {r : Int32} (As rest : List Value) (n' : Nat) (hM : CX l y wsy rm G Ex (.ref b :: As) r) (hEb : ∀ (a : Array Value) (U : State) (g : JFrame) (mk : MethodId), Ex U → Ex (U.calling g mk a)) (hEx : ∀ (U : State) (H : Heap) (locs : List Loc), va_S A s.heap H locs → U.heap = H → s.WarmedH U.vm → Ex U) (hA : ∀ q, va_A [] s.heap.size q → A q) (hrv : ∀ (H : Heap) (locs : List Loc), va_S A s.heap H locs → ∃ cell : Cell, H[b]? = some cell ∧ cell.vm.isStatics = false ∧ s.vm.findClass "java/lang/String" = some cell.cls) (cw : ∀ (X : Vx p R s m args c k n cc own Ts nL G A s.heap), CallW R s args own "java/lang/String" index y bytes maxL ret wsy rm 0 0 n') (hn : As.length = n') (hst : st = As.reverse ++ .ref b :: rest) (hroom : (rest.map fun v => v.category).sum ≤ 8) (hdg : decode cc pc = .ok (.invokevirtual index, 3)) (kk : V p l e R s m args below meth c k n Q cc own Ts nL G A s.heap ws lv (pc + 3) (.int r :: rest)) : V p l e R s m args below meth c k n Q cc own Ts nL G A s.heap ws lv pc st := by
  intro X H locs ls hP hD hS hl
  have hFc : ∀ q, va_A [] H.size q → A q := fun q h => X.2.2.2.2.2.2.1 q (Nat.le_trans hS.1 (va_A0 h))
  refine va_calli (va_runV (As := As) (rest := rest) ⟨X.1, X.2.1, X.2.2.1, X.2.2.2.1, X.2.2.2.2.1⟩ (hM H.size) (cw X) ⟨fun a U g mk q => ⟨q.1, (cPre.blind a U g mk ⟨q.1, q.2.1⟩).2, hEb a U g mk q.2.2⟩, hrv H locs hS, fun U hU hW => ⟨rfl, ⟨by rw [hU], fun k x hx => by simp at hx, KK.warm hW X.2.2.2.2.2.1, ⟨fun i j x y hx => by simp at hx, fun k x hx => by simp at hx⟩⟩, hEx U H locs hS hU hW⟩⟩ rfl hn hl.1 hst (lv_room hroom) hdg X.2.2.2.2.2.2.2) hS (fun q _ h => hFc q h) hFc (fun r' u t H1 locs1 ht hvm hw1 hB hz1 hk1 hS1 => ?_)
  have hk : ∀ q : Nat, q < H.size → H1[q]? = H[q]? := fun q hq => hk1 q hq (fun h => absurd (va_A0 h) (Nat.not_le.mpr hq))
  subst hw1; exact kk X H1 locs1 ls (hP.kept (fun i x hx => hk x.1 ((hP i x hx).lt))) hD hS1 hl
theorem V_callXS {y : MethodName} {bytes : ByteArray} {maxL index : Nat} {ret : Option FieldType} {wsy : List Cond} {rm : Room} {Ex : State → Prop} {r : Int32} (As rest : List Value) (n' : Nat) (hM : CX l y wsy rm G Ex As r) (hEb : ∀ (a : Array Value) (U : State) (g : JFrame) (mk : MethodId), Ex U → Ex (U.calling g mk a)) (hEx : ∀ (U : State) (H : Heap) (locs : List Loc), va_S A s.heap H locs → U.heap = H → s.WarmedH U.vm → Ex U) (hA : ∀ q, va_A [] s.heap.size q → A q) (cw : ∀ (X : Vx p R s m args c k n cc own Ts nL G A s.heap), CallB R s args own index y bytes maxL ret wsy rm 0 0 n' ∧ (Cond.static y).before args s = true) (hn : As.length = n') (hst : st = As.reverse ++ rest) (hroom : (rest.map fun v => v.category).sum ≤ 8) (hdg : decode cc pc = .ok (.invokestatic index, 3)) (kk : V p l e R s m args below meth c k n Q cc own Ts nL G A s.heap ws lv (pc + 3) (.int r :: rest)) : V p l e R s m args below meth c k n Q cc own Ts nL G A s.heap ws lv pc st := by
  intro X H locs ls hP hD hS hl
  have hFc : ∀ q, va_A [] H.size q → A q := fun q h => X.2.2.2.2.2.2.1 q (Nat.le_trans hS.1 (va_A0 h))
  refine va_calli (va_runS (As := As) (rest := rest) ⟨X.1, X.2.1, X.2.2.1, X.2.2.2.1, X.2.2.2.2.1⟩ (hM H.size) (cw X) ⟨fun a U g mk q => ⟨q.1, (cPre.blind a U g mk ⟨q.1, q.2.1⟩).2, hEb a U g mk q.2.2⟩, fun U hU hW => ⟨rfl, ⟨by rw [hU], fun k x hx => by simp at hx, KK.warm hW X.2.2.2.2.2.1, ⟨fun i j x y hx => by simp at hx, fun k x hx => by simp at hx⟩⟩, hEx U H locs hS hU hW⟩⟩ rfl hn hl.1 hst (lv_room hroom) hdg X.2.2.2.2.2.2.2) hS (fun q _ h => hFc q h) hFc (fun r' u t H1 locs1 ht hvm hw1 hB hz1 hk1 hS1 => ?_)
  have hk : ∀ q : Nat, q < H.size → H1[q]? = H[q]? := fun q hq => hk1 q hq (fun h => absurd (va_A0 h) (Nat.not_le.mpr hq))
  subst hw1; exact kk X H1 locs1 ls (hP.kept (fun i x hx => hk x.1 ((hP i x hx).lt))) hD hS1 hl
theorem V_callXSv {y : MethodName} {bytes : ByteArray} {maxL index : Nat} {ret : Option FieldType} {wsy : List Cond} {rm : Room} {Ex : State → Prop} (As rest : List Value) (n' : Nat) (hM : CXV l y wsy rm G Ex As) (hEb : ∀ (a : Array Value) (U : State) (g : JFrame) (mk : MethodId), Ex U → Ex (U.calling g mk a)) (hEx : ∀ (U : State) (H : Heap) (locs : List Loc), va_S A s.heap H locs → U.heap = H → s.WarmedH U.vm → Ex U) (hA : ∀ q, va_A [] s.heap.size q → A q) (cw : ∀ (X : Vx p R s m args c k n cc own Ts nL G A s.heap), CallB R s args own index y bytes maxL ret wsy rm 0 0 n' ∧ (Cond.static y).before args s = true) (hn : As.length = n') (hst : st = As.reverse ++ rest) (hroom : (rest.map fun v => v.category).sum ≤ 8) (hdg : decode cc pc = .ok (.invokestatic index, 3)) (kk : V p l e R s m args below meth c k n Q cc own Ts nL G A s.heap ws lv (pc + 3) (rest)) : V p l e R s m args below meth c k n Q cc own Ts nL G A s.heap ws lv pc st := by
  intro X H locs ls hP hD hS hl
  have hFc : ∀ q, va_A [] H.size q → A q := fun q h => X.2.2.2.2.2.2.1 q (Nat.le_trans hS.1 (va_A0 h))
  refine va_callv (va_runS (As := As) (rest := rest) ⟨X.1, X.2.1, X.2.2.1, X.2.2.2.1, X.2.2.2.2.1⟩ (hM H.size) (cw X) ⟨fun a U g mk q => ⟨q.1, (cPre.blind a U g mk ⟨q.1, q.2.1⟩).2, hEb a U g mk q.2.2⟩, fun U hU hW => ⟨rfl, ⟨by rw [hU], fun k x hx => by simp at hx, KK.warm hW X.2.2.2.2.2.1, ⟨fun i j x y hx => by simp at hx, fun k x hx => by simp at hx⟩⟩, hEx U H locs hS hU hW⟩⟩ rfl hn hl.1 hst (lv_room hroom) hdg X.2.2.2.2.2.2.2) hS (fun q _ h => hFc q h) hFc (fun u t H1 locs1 ht hvm hw1 hB hz1 hk1 hS1 => ?_)
  have hk : ∀ q : Nat, q < H.size → H1[q]? = H[q]? := fun q hq => hk1 q hq (fun h => absurd (va_A0 h) (Nat.not_le.mpr hq))
  exact kk X H1 locs1 ls (hP.kept (fun i x hx => hk x.1 ((hP i x hx).lt))) hD hS1 hl
end VV4
theorem CX.of {l : Launch} {y : MethodName} {wsy wsy' : List Cond} {rm : Room} {G : GG} {a v b0 : Nat} {av : List Value} {r : Int32} {ty : FieldType} {cc : ByteArray} {nL : Nat} (hy : plainName y.cls = true) (hw : wsy = Cond.code y cc nL (some ty) :: wsy') (hav : (lg_sl av).length ≤ nL) (body : ∀ (p : Program) (e : Env) (s : State) (m : MethodId) (args : Array Value) (below : List Frame) (meth : Method) (c : Code) (Q : State → Prop) (A : Nat → Prop) (_ : KK G s) (_ : SE a v b0 s) (_ : ∀ q, A q → b0 ≤ q) (_ : ∀ q, va_A [] s.heap.size q → A q) (_ : vk_S 1 [76] [SBY] (fun _ => a) (fun _ => v) A s s.heap) (_ : va_Z "java/lang/String" "COMPACT_STRINGS" "Z" (.int 1) A s s.heap) (_ : va_Zq "jdk/internal/util/Preconditions" "SIOOBE_FORMATTER" "Ljava/util/function/BiFunction;" A s s.heap) (fin : ∀ (lv : List (Nat × Value)) (pc : Nat) (r' : Int32), decode cc pc = .ok (.ireturn, 1) → narrow ty (.int r') = .int r' → r' = r → V p l e (headSpec wsy rm).room s m args below meth c 0 0 Q cc y.cls wsy nL G A s.heap [] lv pc [.int r']), V p l e (headSpec wsy rm).room s m args below meth c 0 0 Q cc y.cls wsy nL G A s.heap [] (lv_args 0 av) 0 []) : CX l y wsy rm G (SE a v b0) av r := by
  intro sz
  refine Met.ofW (cc := cc) (maxL := nL) hy hw ?_
  intro p e s m args below meth c s₁ B hml hv
  obtain ⟨rfl, ⟨hsz, hP, hK, hD0⟩, hE⟩ := hv
  subst hsz
  have hts := atoms_spec (ws := wsy) B.pre
  have hown : s.vm.findClass y.cls = some m.cls := findClass_of_methodNamed B.named
  have hl := lv_entry av (n := nL) hav
  rw [lg_entry_eq]
  have hA : ∀ q, va_A [] s.heap.size q → b0 ≤ q := fun q h => Nat.le_trans hE.2 (va_A0 h)
  refine body p e s m av.toArray below meth c _ (va_A [] s.heap.size) hK hE hA (fun _ h => h) (vk_S.narrow hE.1.1 hA) (va_Z.narrow hE.1.2.1 hA) (va_Zq.narrow hE.1.2.2 hA) (fun lv pc r' hdg hn hr X H locs ls hP hD hS hl => by
    subst hr; exact W.zret X.1 X.2.1 B.returns hn (fun t ht hW => ⟨⟨r', (), rfl, rfl, trivial⟩, hS.F ht⟩) hS.2.2 hdg B.notSynchronized) ⟨B.exec, B.bytes, hml, hown, hts, hK, fun q h => Or.inr h, ⟨Nat.zero_le _, Nat.zero_le _⟩⟩ s.heap [] _ hP hD0.self va_S.rf hl
theorem CXV.of {l : Launch} {y : MethodName} {wsy wsy' : List Cond} {rm : Room} {G : GG} {a v b0 : Nat} {av : List Value} {cc : ByteArray} {nL : Nat} (hy : plainName y.cls = true) (hw : wsy = Cond.code y cc nL none :: wsy') (hav : (lg_sl av).length ≤ nL) (body : ∀ (p : Program) (e : Env) (s : State) (m : MethodId) (args : Array Value) (below : List Frame) (meth : Method) (c : Code) (Q : State → Prop) (A : Nat → Prop) (_ : KK G s) (_ : SE a v b0 s) (_ : ∀ q, A q → b0 ≤ q) (_ : ∀ q, va_A [] s.heap.size q → A q) (_ : vk_S 1 [76] [SBY] (fun _ => a) (fun _ => v) A s s.heap) (_ : va_Z "java/lang/String" "COMPACT_STRINGS" "Z" (.int 1) A s s.heap) (_ : va_Zq "jdk/internal/util/Preconditions" "SIOOBE_FORMATTER" "Ljava/util/function/BiFunction;" A s s.heap) (fin : ∀ (lv : List (Nat × Value)) (pc : Nat) , decode cc pc = .ok (.return_, 1) → V p l e (headSpec wsy rm).room s m args below meth c 0 0 Q cc y.cls wsy nL G A s.heap [] lv pc []), V p l e (headSpec wsy rm).room s m args below meth c 0 0 Q cc y.cls wsy nL G A s.heap [] (lv_args 0 av) 0 []) : CXV l y wsy rm G (SE a v b0) av := by
  intro sz
  refine Met.ofW (cc := cc) (maxL := nL) hy hw ?_
  intro p e s m args below meth c s₁ B hml hv
  obtain ⟨rfl, ⟨hsz, hP, hK, hD0⟩, hE⟩ := hv
  subst hsz
  have hts := atoms_spec (ws := wsy) B.pre
  have hown : s.vm.findClass y.cls = some m.cls := findClass_of_methodNamed B.named
  have hl := lv_entry av (n := nL) hav
  rw [lg_entry_eq]
  have hA : ∀ q, va_A [] s.heap.size q → b0 ≤ q := fun q h => Nat.le_trans hE.2 (va_A0 h)
  refine body p e s m av.toArray below meth c _ (va_A [] s.heap.size) hK hE hA (fun _ h => h) (vk_S.narrow hE.1.1 hA) (va_Z.narrow hE.1.2.1 hA) (va_Zq.narrow hE.1.2.2 hA) (fun lv pc hdg X H locs ls hP hD hS hl => by
    exact W.vret X.1 X.2.1 B.returns (fun t ht hW => ⟨⟨(), rfl, trivial, trivial⟩, hS.F ht⟩) hS.2.2 hdg B.notSynchronized) ⟨B.exec, B.bytes, hml, hown, hts, hK, fun q h => Or.inr h, ⟨Nat.zero_le _, Nat.zero_le _⟩⟩ s.heap [] _ hP hD0.self va_S.rf hl
set_option maxHeartbeats 4000000 in
set_option maxRecDepth 100000 in
theorem k_J0_coder_7d493 (l : Launch) (G : GG) (a v b0 : Nat)   : CX l yJ0_coder_7d493 wsJ0_coder_7d493 ({ frames := 0, cells := 0, slots := 0, locals := 0 }) G (SE a v b0) [.ref a] (0) := by
  refine CX.of (cc := cJ0_coder_7d493) (nL := 1) (by decide) rfl (Nat.le_of_ble_eq_true rfl) ?_
  intro p e s m args below meth c Q A hKs hSE hAb hAs hSt hZc hZq fin
  have w_1 : Jvm.Cond.fieldLink RJ0 38 "java/lang/String" "COMPACT_STRINGS" "Z" ∈ wsJ0_coder_7d493 := by decide +kernel
  have w_2 : Jvm.Cond.fieldLink RJ0 15 "java/lang/String" "coder" "B" ∈ wsJ0_coder_7d493 := by decide +kernel
  refine V_lv (lv' := [(0, .ref a)]) [0] rfl ?_
  refine V_sgets hZc w_1 dJ0_coder_7d493_0 ?_
  refine V_if_eq 13 dJ0_coder_7d493_3 (by decide) (fun c_1 => absurd c_1 (by decide)) (fun c_1 => ?_)
  refine V_aload_n 0 dJ0_coder_7d493_6 rfl rfl ?_
  refine V_sgetf (hSt.1 0 (by decide)).2.1 w_2 dJ0_coder_7d493_7 ?_
  refine V_goto 14 dJ0_coder_7d493_10 (by decide) ?_
  exact fin _ _ _ dJ0_coder_7d493_14 rfl (rfl)
set_option maxHeartbeats 4000000 in
set_option maxRecDepth 100000 in
theorem k_J0_length_8abf5 (l : Launch) (G : GG) (a v b0 : Nat)   : CX l yJ0_length_8abf5 wsJ0_length_8abf5 ({ frames := 1, cells := 0, slots := 0, locals := 20 }) G (SE a v b0) [.ref a] (nI 76) := by
  refine CX.of (cc := cJ0_length_8abf5) (nL := 1) (by decide) rfl (Nat.le_of_ble_eq_true rfl) ?_
  intro p e s m args below meth c Q A hKs hSE hAb hAs hSt hZc hZq fin
  have w_1 : Jvm.Cond.fieldLink RJ0 9 "java/lang/String" "value" "[B" ∈ wsJ0_length_8abf5 := by decide +kernel
  refine V_lv (lv' := [(0, .ref a)]) [0] rfl ?_
  refine V_aload_n 0 dJ0_length_8abf5_0 rfl rfl ?_
  refine V_sgetf (hSt.1 0 (by decide)).2.2.1 w_1 dJ0_length_8abf5_1 ?_
  refine V_salen (N := 76) (hSt.1 0 (by decide)).2.2.2 dJ0_length_8abf5_4 ?_
  refine V_aload_n 0 dJ0_length_8abf5_5 rfl rfl ?_
  refine V_callXV [] [.int (nI 76)] 0 (k_J0_coder_7d493 l G a v b0) (fun a U g mk h => SE.calling a U g mk h) (fun U H locs hS hU hW => SE.at hSE hAb hS hU hW) hAs (fun H locs hS => vk_recv (i := 0) hSt (by decide) hS) (fun X => cwV 0 X.2.2.2.2.1 gJ0_length_8abf5_J0_coder_7d493 rfl rfl rfl (by decide +kernel) ⟨Nat.le_of_ble_eq_true rfl, Nat.le_of_ble_eq_true rfl⟩) rfl rfl (Nat.le_of_ble_eq_true rfl) dJ0_length_8abf5_6 ?_
  refine V_ishr dJ0_length_8abf5_9 ?_
  exact fin _ _ _ dJ0_length_8abf5_10 rfl (rfl)
set_option maxHeartbeats 4000000 in
set_option maxRecDepth 100000 in
theorem k_J0_isLatin1_aae02 (l : Launch) (G : GG) (a v b0 : Nat)   : CX l yJ0_isLatin1_aae02 wsJ0_isLatin1_aae02 ({ frames := 0, cells := 0, slots := 0, locals := 0 }) G (SE a v b0) [.ref a] (1) := by
  refine CX.of (cc := cJ0_isLatin1_aae02) (nL := 1) (by decide) rfl (Nat.le_of_ble_eq_true rfl) ?_
  intro p e s m args below meth c Q A hKs hSE hAb hAs hSt hZc hZq fin
  have w_1 : Jvm.Cond.fieldLink RJ0 38 "java/lang/String" "COMPACT_STRINGS" "Z" ∈ wsJ0_isLatin1_aae02 := by decide +kernel
  have w_2 : Jvm.Cond.fieldLink RJ0 15 "java/lang/String" "coder" "B" ∈ wsJ0_isLatin1_aae02 := by decide +kernel
  refine V_lv (lv' := [(0, .ref a)]) [0] rfl ?_
  refine V_sgets hZc w_1 dJ0_isLatin1_aae02_0 ?_
  refine V_if_eq 17 dJ0_isLatin1_aae02_3 (by decide) (fun c_1 => absurd c_1 (by decide)) (fun c_1 => ?_)
  refine V_aload_n 0 dJ0_isLatin1_aae02_6 rfl rfl ?_
  refine V_sgetf (hSt.1 0 (by decide)).2.1 w_2 dJ0_isLatin1_aae02_7 ?_
  refine V_if_ne 17 dJ0_isLatin1_aae02_10 (by decide) (fun c_2 => absurd (by decide) c_2) (fun c_2 => ?_)
  refine V_iconst (v := 1) dJ0_isLatin1_aae02_13 (by decide) ?_
  refine V_goto 18 dJ0_isLatin1_aae02_14 (by decide) ?_
  exact fin _ _ _ dJ0_isLatin1_aae02_18 rfl (rfl)
set_option maxHeartbeats 4000000 in
set_option maxRecDepth 100000 in
theorem k_J3_checkIndex_n (l : Launch) (G : GG) (a v b0 : Nat) (i : Nat) (hi : i < 76) : CX l yJ3_checkIndex_8e157 wsJ3_checkIndex_8e157 ({ frames := 0, cells := 0, slots := 0, locals := 0 }) G (SE a v b0) [.int (nI i), .int (nI 76), .null] (nI i) := by
  refine CX.of (cc := cJ3_checkIndex_8e157) (nL := 3) (by decide) rfl (Nat.le_of_ble_eq_true rfl) ?_
  intro p e s m args below meth c Q A hKs hSE hAb hAs hSt hZc hZq fin
  refine V_lv (lv' := [(0, .int (nI i)), (1, .int (nI 76)), (2, .null)]) [0, 1, 2] rfl ?_
  refine V_iload_n 0 dJ3_checkIndex_8e157_0 rfl rfl ?_
  refine V_if_lt 9 dJ3_checkIndex_8e157_1 (by decide) (fun c_1 => absurd c_1 (nI_pos (by omega))) (fun c_1 => ?_)
  refine V_iload_n 0 dJ3_checkIndex_8e157_4 rfl rfl ?_
  refine V_iload_n 1 dJ3_checkIndex_8e157_5 rfl rfl ?_
  refine V_icmp_lt 16 dJ3_checkIndex_8e157_6 (by decide) (fun c_2 => ?_) (fun c_2 => absurd (show nI i < nI 76 from nI_lt hi (by decide)) c_2)
  refine V_iload_n 0 dJ3_checkIndex_8e157_16 rfl rfl ?_
  exact fin _ _ _ dJ3_checkIndex_8e157_17 rfl (rfl)
set_option maxHeartbeats 4000000 in
set_option maxRecDepth 100000 in
theorem k_J3_checkIndex_t (l : Launch) (G : GG) (a v b0 : Nat) (i t0 : Nat) (hi : i < 76) : CX l yJ3_checkIndex_8e157 wsJ3_checkIndex_8e157 ({ frames := 0, cells := 0, slots := 0, locals := 0 }) G (SE a v b0) [.int (nI i), .int (nI 76), .ref t0] (nI i) := by
  refine CX.of (cc := cJ3_checkIndex_8e157) (nL := 3) (by decide) rfl (Nat.le_of_ble_eq_true rfl) ?_
  intro p e s m args below meth c Q A hKs hSE hAb hAs hSt hZc hZq fin
  refine V_lv (lv' := [(0, .int (nI i)), (1, .int (nI 76)), (2, .ref t0)]) [0, 1, 2] rfl ?_
  refine V_iload_n 0 dJ3_checkIndex_8e157_0 rfl rfl ?_
  refine V_if_lt 9 dJ3_checkIndex_8e157_1 (by decide) (fun c_1 => absurd c_1 (nI_pos (by omega))) (fun c_1 => ?_)
  refine V_iload_n 0 dJ3_checkIndex_8e157_4 rfl rfl ?_
  refine V_iload_n 1 dJ3_checkIndex_8e157_5 rfl rfl ?_
  refine V_icmp_lt 16 dJ3_checkIndex_8e157_6 (by decide) (fun c_2 => ?_) (fun c_2 => absurd (show nI i < nI 76 from nI_lt hi (by decide)) c_2)
  refine V_iload_n 0 dJ3_checkIndex_8e157_16 rfl rfl ?_
  exact fin _ _ _ dJ3_checkIndex_8e157_17 rfl (rfl)
set_option maxHeartbeats 4000000 in
set_option maxRecDepth 100000 in
theorem k_J0_checkIndex (l : Launch) (G : GG) (a v b0 : Nat) (i : Nat) (hi : i < 76) : CXV l yJ0_checkIndex_df160 wsJ0_checkIndex_df160 ({ frames := 1, cells := 0, slots := 0, locals := 22 }) G (SE a v b0) [.int (nI i), .int (nI 76)] := by
  refine CXV.of (cc := cJ0_checkIndex_df160) (nL := 2) (by decide) rfl (Nat.le_of_ble_eq_true rfl) ?_
  intro p e s m args below meth c Q A hKs hSE hAb hAs hSt hZc hZq fin
  have w_1 : Jvm.Cond.fieldLink RJ0 1053 "jdk/internal/util/Preconditions" "SIOOBE_FORMATTER" "Ljava/util/function/BiFunction;" ∈ wsJ0_checkIndex_df160 := by decide +kernel
  refine V_lv (lv' := [(0, .int (nI i)), (1, .int (nI 76))]) [0, 1] rfl ?_
  refine V_iload_n 0 dJ0_checkIndex_df160_0 rfl rfl ?_
  refine V_iload_n 1 dJ0_checkIndex_df160_1 rfl rfl ?_
  rcases hZq with hz | ⟨t0, hz⟩
  · refine V_sgets hz w_1 dJ0_checkIndex_df160_2 ?_
    refine V_callXS [.int (nI i), .int (nI 76), .null] [] 3 (k_J3_checkIndex_n l G a v b0 i hi) (fun a U g mk h => SE.calling a U g mk h) (fun U H locs hS hU hW => SE.at hSE hAb hS hU hW) hAs (fun X => va_cwS 3 X.2.2.2.2.1 gJ0_checkIndex_df160_J3_checkIndex_8e157 rfl rfl rfl (by decide) ⟨Nat.le_of_ble_eq_true rfl, Nat.le_of_ble_eq_true rfl⟩) rfl rfl (Nat.le_of_ble_eq_true rfl) dJ0_checkIndex_df160_5 ?_
    refine V_pop dJ0_checkIndex_df160_8 rfl ?_
    exact fin _ _ dJ0_checkIndex_df160_9
  · refine V_sgets hz w_1 dJ0_checkIndex_df160_2 ?_
    refine V_callXS [.int (nI i), .int (nI 76), .ref t0] [] 3 (k_J3_checkIndex_t l G a v b0 i t0 hi) (fun a U g mk h => SE.calling a U g mk h) (fun U H locs hS hU hW => SE.at hSE hAb hS hU hW) hAs (fun X => va_cwS 3 X.2.2.2.2.1 gJ0_checkIndex_df160_J3_checkIndex_8e157 rfl rfl rfl (by decide) ⟨Nat.le_of_ble_eq_true rfl, Nat.le_of_ble_eq_true rfl⟩) rfl rfl (Nat.le_of_ble_eq_true rfl) dJ0_checkIndex_df160_5 ?_
    refine V_pop dJ0_checkIndex_df160_8 rfl ?_
    exact fin _ _ dJ0_checkIndex_df160_9
set_option maxHeartbeats 4000000 in
set_option maxRecDepth 100000 in
theorem k_J1_charAt (l : Launch) (G : GG) (a v b0 : Nat) (i : Nat) (hi : i < 76) : CX l yJ1_charAt_3b067 wsJ1_charAt_3b067 ({ frames := 2, cells := 0, slots := 0, locals := 43 }) G (SE a v b0) [.ref v, .int (nI i)] (nI (sna i)) := by
  refine CX.of (cc := cJ1_charAt_3b067) (nL := 2) (by decide) rfl (Nat.le_of_ble_eq_true rfl) ?_
  intro p e s m args below meth c Q A hKs hSE hAb hAs hSt hZc hZq fin
  refine V_lv (lv' := [(0, .ref v), (1, .int (nI i))]) [0, 1] rfl ?_
  refine V_iload_n 1 dJ1_charAt_3b067_0 rfl rfl ?_
  refine V_aload_n 0 dJ1_charAt_3b067_1 rfl rfl ?_
  refine V_salen (N := 76) (hSt.1 0 (by decide)).2.2.2 dJ1_charAt_3b067_2 ?_
  refine V_callXSv [.int (nI i), .int (nI 76)] [] 2 (k_J0_checkIndex l G a v b0 i hi) (fun a U g mk h => SE.calling a U g mk h) (fun U H locs hS hU hW => SE.at hSE hAb hS hU hW) hAs (fun X => va_cwS 2 X.2.2.2.2.1 gJ1_charAt_3b067_J0_checkIndex_df160 rfl rfl rfl (by decide) ⟨Nat.le_of_ble_eq_true rfl, Nat.le_of_ble_eq_true rfl⟩) rfl rfl (Nat.le_of_ble_eq_true rfl) dJ1_charAt_3b067_3 ?_
  refine V_aload_n 0 dJ1_charAt_3b067_6 rfl rfl ?_
  refine V_iload_n 1 dJ1_charAt_3b067_7 rfl rfl ?_
  refine V_sbald (N := 76) (j := i) (x := sby i) (hSt.1 0 (by decide)).2.2.2 rfl hi (by decide) rfl dJ1_charAt_3b067_8 ?_
  refine V_sipush (v := 255) dJ1_charAt_3b067_9 (by decide) ?_
  refine V_iand dJ1_charAt_3b067_12 ?_
  refine V_i2c dJ1_charAt_3b067_13 rfl ?_
  exact fin _ _ _ dJ1_charAt_3b067_14 (by rw [(sby_N ⟨i, hi⟩).2.2]; exact (pk_charN (by have := (sby_N ⟨i, hi⟩).2.1; omega)).1) ((sby_N ⟨i, hi⟩).2.2)
set_option maxHeartbeats 4000000 in
set_option maxRecDepth 100000 in
theorem k_J0_charAt (l : Launch) (G : GG) (a v b0 : Nat) (i : Nat) (hi : i < 76) : CX l yJ0_charAt_5068e wsJ0_charAt_5068e ({ frames := 3, cells := 0, slots := 0, locals := 64 }) G (SE a v b0) [.ref a, .int (nI i)] (nI (sna i)) := by
  refine CX.of (cc := cJ0_charAt_5068e) (nL := 2) (by decide) rfl (Nat.le_of_ble_eq_true rfl) ?_
  intro p e s m args below meth c Q A hKs hSE hAb hAs hSt hZc hZq fin
  have w_1 : Jvm.Cond.fieldLink RJ0 9 "java/lang/String" "value" "[B" ∈ wsJ0_charAt_5068e := by decide +kernel
  refine V_lv (lv' := [(0, .ref a), (1, .int (nI i))]) [0, 1] rfl ?_
  refine V_aload_n 0 dJ0_charAt_5068e_0 rfl rfl ?_
  refine V_callXV [] [] 0 (k_J0_isLatin1_aae02 l G a v b0) (fun a U g mk h => SE.calling a U g mk h) (fun U H locs hS hU hW => SE.at hSE hAb hS hU hW) hAs (fun H locs hS => vk_recv (i := 0) hSt (by decide) hS) (fun X => cwV 0 X.2.2.2.2.1 gJ0_charAt_5068e_J0_isLatin1_aae02 rfl rfl rfl (by decide +kernel) ⟨Nat.le_of_ble_eq_true rfl, Nat.le_of_ble_eq_true rfl⟩) rfl rfl (Nat.le_of_ble_eq_true rfl) dJ0_charAt_5068e_1 ?_
  refine V_if_eq 16 dJ0_charAt_5068e_4 (by decide) (fun c_1 => absurd c_1 (by decide)) (fun c_1 => ?_)
  refine V_aload_n 0 dJ0_charAt_5068e_7 rfl rfl ?_
  refine V_sgetf (hSt.1 0 (by decide)).2.2.1 w_1 dJ0_charAt_5068e_8 ?_
  refine V_iload_n 1 dJ0_charAt_5068e_11 rfl rfl ?_
  refine V_callXS [.ref v, .int (nI i)] [] 2 (k_J1_charAt l G a v b0 i hi) (fun a U g mk h => SE.calling a U g mk h) (fun U H locs hS hU hW => SE.at hSE hAb hS hU hW) hAs (fun X => va_cwS 2 X.2.2.2.2.1 gJ0_charAt_5068e_J1_charAt_3b067 rfl rfl rfl (by decide) ⟨Nat.le_of_ble_eq_true rfl, Nat.le_of_ble_eq_true rfl⟩) rfl rfl (Nat.le_of_ble_eq_true rfl) dJ0_charAt_5068e_12 ?_
  exact fin _ _ _ dJ0_charAt_5068e_15 (pk_charN (by have := (sby_N ⟨i, hi⟩).2.1; dsimp only at this; omega)).1 (rfl)
