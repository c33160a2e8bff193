section VV2
variable {p : Program} {l : Launch} {e : Env} {R : Room} {s : State} {m : MethodId} {args : Array Value} {below : List Frame} {meth : Method} {c : Code} {k n : Nat} {Q : State → Prop}
variable {cc : ByteArray} {own : String} {Ts : List Cond} {nL : Nat} {G : GG} {A : Nat → Prop} {H0 : Heap}
variable {ws ws' : va_W} {lv lv' : List (Nat × Value)} {pc : Nat} {st rest : List Value}

theorem V_iushr {x y v : Int32} (hdg : decode cc pc = .ok (.iushr, 1)) (hv : (x.toUInt32 >>> (y.toUInt32 &&& Int32.toUInt32 31)).toInt32 = v) (kk : V p l e R s m args below meth c k n Q cc own Ts nL G A H0 ws lv (pc + 1) (.int v :: st)) : V p l e R s m args below meth c k n Q cc own Ts nL G A H0 ws lv pc (.int y :: .int x :: st) :=
  fun C H locs ls hP hD hS hl => lv_iushr C.1 C.2.1 hdg hv (kk C H locs ls hP hD hS hl)
theorem V_ldcw {index : Nat} {v : Int32} (hdg : decode cc pc = .ok (.ldc_w index, 3)) (hc : Jvm.Cond.constant own index v ∈ Ts) (kk : V p l e R s m args below meth c k n Q cc own Ts nL G A H0 ws lv (pc + 3) (.int v :: st)) : V p l e R s m args below meth c k n Q cc own Ts nL G A H0 ws lv pc st :=
  fun C H locs ls hP hD hS hl => lv_ldcw C.1 C.2.1 C.2.2.2.1 (C.2.2.2.2.1 _ hc) hdg (kk C H locs ls hP hD hS hl)
theorem V_sld {b L j : Nat} {xs : Nat → Int32} {i : Int32} (hX : va_X b L xs s H0) (hbl : b < H0.size) (hbA : ¬ A b) (hi : i = nI j) (hj : j < L) (hL : L < 2 ^ 31) (hdg : decode cc pc = .ok (.iaload, 1)) (kk : V p l e R s m args below meth c k n Q cc own Ts nL G A H0 ws lv (pc + 1) (.int (xs j) :: st)) : V p l e R s m args below meth c k n Q cc own Ts nL G A H0 ws lv pc (.int i :: .ref b :: st) :=
  fun C H locs ls hP hD hS hl => va_sld C.1 C.2.1 hX hbl hbA hS (by rw [hi]; exact vp_in_nI hj hL) hdg (by rw [hi, nI_clamp (Nat.lt_trans hj hL)]; exact kk C H locs ls hP hD hS hl)
theorem V_slen {b L : Nat} {xs : Nat → Int32} (hX : va_X b L xs s H0) (hbl : b < H0.size) (hbA : ¬ A b) (hdg : decode cc pc = .ok (.arraylength, 1)) (kk : V p l e R s m args below meth c k n Q cc own Ts nL G A H0 ws lv (pc + 1) (.int (nI L) :: st)) : V p l e R s m args below meth c k n Q cc own Ts nL G A H0 ws lv pc (.ref b :: st) :=
  fun C H locs ls hP hD hS hl => va_slen C.1 C.2.1 hX hbl hbA hS hdg (kk C H locs ls hP hD hS hl)
end VV2
theorem nI_addl (a b : Nat) (x : Int32) (h : x = nI b) : nI a + x = nI (a + b) := by rw [h, nI_add]
theorem nI_addr (a b : Nat) (x : Int32) (h : x = nI a) : x + nI b = nI (a + b) := by rw [h, nI_add]
theorem nI_mull (a b : Nat) (x : Int32) (h : x = nI a) : x * nI b = nI (a * b) := by rw [h, pk_mul]
