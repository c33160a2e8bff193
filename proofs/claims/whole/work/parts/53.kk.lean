/-! What the tables give at the law's entry: classes and array classes, the nest mates' links, the String constant. -/
theorem arr_of {args : Array Value} {s : State} {ty : FieldType} (h : (Cond.arrayClass ty).before args s = true) : ∃ c : ClassId, ArrOfT s c ty ∧ s.vm.findClass ("[" ++ ty.toString) = some c := by
  obtain ⟨c, k, comp, f1, f2, f3⟩ := Cond.arrayClass_spec (args := args) (first := s) (o := none) (s := s) (idx := []) h
  exact ⟨c, fun N z => ⟨(fun k h => by cases h), k, f2, comp, f3⟩, f1⟩
theorem arr_ov {args : Array Value} {s : State} {C : String} (h : (Cond.arrayOver (.object C)).before args s = true) : ∃ c : ClassId, ArrOfT s c (.object C) ∧ va_RA s c (.object C) := by
  obtain ⟨comp, c, k, f1, f2, f3, f4, f5⟩ := Cond.arrayOver_spec (args := args) (first := s) (o := none) (s := s) (idx := []) h
  exact ⟨c, fun N z => ⟨(fun k h => by cases h), k, f3, comp, f4⟩, k, comp, f3, f4, f1, f5⟩
set_option maxRecDepth 100000 in
theorem kk_of {args : Array Value} {s : State} (hts : ∀ w ∈ wsL_law, w.before args s = true) (ht0 : ∀ w ∈ tables_1, w.before args s = true) : ∃ G : GG, KK G s := by
  obtain ⟨c0, s0, h0⟩ := u_known (C := RX0) (T := TX0) (N := 9) (n := 9) hts inlX0 (ht0 (.instantiable RX0 9) (List.mem_of_getElem? (i := 88) (by decide +kernel)))
  obtain ⟨c1, s1, h1⟩ := u_known (C := RX1) (T := TX1) (N := 8) (n := 8) hts inlX1 (ht0 (.instantiable RX1 8) (List.mem_of_getElem? (i := 43) (by decide +kernel)))
  obtain ⟨c2, s2, h2⟩ := u_known (C := RX2) (T := TX2) (N := 3) (n := 3) hts inlX2 (ht0 (.instantiable RX2 3) (List.mem_of_getElem? (i := 127) (by decide +kernel)))
  obtain ⟨c3, s3, h3⟩ := u_known (C := RX3) (T := TX3) (N := 4) (n := 4) hts inlX3 (ht0 (.instantiable RX3 4) (List.mem_of_getElem? (i := 150) (by decide +kernel)))
  obtain ⟨c4, s4, h4⟩ := u_known (C := RX4) (T := TX4) (N := 3) (n := 3) hts inlX4 (ht0 (.instantiable RX4 3) (List.mem_of_getElem? (i := 24) (by decide +kernel)))
  obtain ⟨c5, s5, h5⟩ := u_known (C := RX5) (T := TX5) (N := 8) (n := 8) hts inlX5 (ht0 (.instantiable RX5 8) (List.mem_of_getElem? (i := 16) (by decide +kernel)))
  obtain ⟨c6, s6, h6⟩ := u_known (C := RX6) (T := TX6) (N := 37) (n := 37) hts inlX6 (ht0 (.instantiable RX6 37) (List.mem_of_getElem? (i := 616) (by decide +kernel)))
  obtain ⟨ai, ai1, ai2⟩ := arr_of (ty := .int) (ht0 (.arrayClass .int) (List.mem_of_getElem? (i := 41) (by decide +kernel)))
  obtain ⟨ac, ac1, ac2⟩ := arr_of (ty := .char) (ht0 (.arrayClass .char) (List.mem_of_getElem? (i := 40) (by decide +kernel)))
  obtain ⟨az, az1, az2⟩ := arr_of (ty := .boolean) (ht0 (.arrayClass .boolean) (List.mem_of_getElem? (i := 172) (by decide +kernel)))
  obtain ⟨al, al1, al2⟩ := arr_ov (C := RX0) (ht0 (.arrayOver (.object RX0)) (List.mem_of_getElem? (i := 136) (by decide +kernel)))
  refine ⟨((fun k => match k with | 0 => c0 | 1 => c1 | 2 => c2 | 3 => c3 | 4 => c4 | 5 => c5 | _ => c6, fun k => match k with | 0 => s0 | 1 => s1 | 2 => s2 | 3 => s3 | 4 => s4 | 5 => s5 | _ => s6), ai, ac, az, al), ⟨fun k q hq => ?_, fun k q hq => ?_⟩, ?_⟩
  · match k, hq with
    | 0, hq => cases hq; exact h0
    | 1, hq => cases hq; exact h1
    | 2, hq => cases hq; exact h2
    | 3, hq => cases hq; exact h3
    | 4, hq => cases hq; exact h4
    | 5, hq => cases hq; exact h5
    | 6, hq => cases hq; exact h6
    | k + 7, hq => simp [vwCl] at hq
  · match k, hq with
    | 0, hq => cases hq; exact ⟨ai1, ai2⟩
    | 1, hq => cases hq; exact ⟨ac1, ac2⟩
    | 2, hq => cases hq; exact ⟨az1, az2⟩
    | 3, hq => cases hq; exact ⟨al1, al2⟩
    | k + 4, hq => simp at hq
  · exact ⟨va_Nw.of rfl (ht0 (.methodLinkNest RX1 55 yX5_isWithin RX5) (List.mem_of_getElem? (i := 261) (by decide +kernel))), va_Nw.of rfl (ht0 (.methodLinkNest RX2 21 yX0_init RX5) (List.mem_of_getElem? (i := 137) (by decide +kernel))), va_Nw.of rfl (ht0 (.methodLinkNest RX5 9 yX4_init RX5) (List.mem_of_getElem? (i := 25) (by decide +kernel))), va_Nw.of rfl (ht0 (.methodLinkNest RX5 18 yX1_init RX5) (List.mem_of_getElem? (i := 44) (by decide +kernel))), va_Nw.of rfl (ht0 (.methodLinkNest RX5 28 yX0_init RX5) (List.mem_of_getElem? (i := 89) (by decide +kernel))), va_Nw.of rfl (ht0 (.methodLinkNest RX5 50 yX3_init RX5) (List.mem_of_getElem? (i := 151) (by decide +kernel)))⟩
def tmS : Term := .string RX5 55
set_option maxRecDepth 100000 in
theorem ft_el : ∀ j : Fin 76, (flatC (Jvm.Cond.and given_1 narrow_1))[13 + j.val]? = some (Cond.eq (.elem (.field tmS "java/lang/String" "value" "[B") (.int (Int32.ofNat j.val))) (.int (SBY.getD j.val 0))) := by decide +kernel
set_option maxRecDepth 100000 in
theorem ne0_of {args : Array Value} {s : State} (ht0 : ∀ w ∈ tables_1, w.before args s = true) (hgv : (Jvm.Cond.and given_1 narrow_1).before args s = true) : ∃ a v : Nat, NE0 a v s.heap.size s := by
  have hs := flat_of_before _ hgv
  have hA : ∀ a : Nat, a < s.heap.size → ¬ (fun q : Nat => s.heap.size ≤ q) a := fun a h => Nat.not_le.mpr h
  have e1 : (Cond.exactly tmS "java/lang/String").before args s = true := hs _ (List.mem_of_getElem? (i := 9) (by decide +kernel))
  have e2 : (Cond.eq (.field tmS "java/lang/String" "coder" "B") (.int 0)).before args s = true := hs _ (List.mem_of_getElem? (i := 10) (by decide +kernel))
  have e3 : (Cond.arrayOf (.field tmS "java/lang/String" "value" "[B") .byte).before args s = true := hs _ (List.mem_of_getElem? (i := 11) (by decide +kernel))
  have e4 : (Cond.eq (.length (.field tmS "java/lang/String" "value" "[B")) (.int 76)).before args s = true := hs _ (List.mem_of_getElem? (i := 12) (by decide +kernel))
  have z1 : (Cond.eq (.static "java/lang/String" "COMPACT_STRINGS" "Z") (.int 1)).before args s = true := hs _ (List.mem_of_getElem? (i := 4) (by decide +kernel))
  have z2 : (Cond.isRef (.static "jdk/internal/util/Preconditions" "SIOOBE_FORMATTER" "Ljava/util/function/BiFunction;")).before args s = true := hs _ (List.mem_of_getElem? (i := 5) (by decide +kernel))
  have z0 : ∀ i : Nat, i < 1 → i = 0 := fun i hi => by omega
  obtain ⟨aK, aV, hk, ha⟩ := vk_Sof (args := args) (s := s) (N := 1) (tm := fun _ => tmS) (len := [76]) (byt := [SBY]) (A := fun q : Nat => s.heap.size ≤ q) (fun i hi => by rw [z0 i hi]; decide) (fun i hi => e1) (fun i hi => e2) (fun i hi => e3) (fun i hi => by rw [z0 i hi]; exact e4) (fun i hi j hj => by rw [z0 i hi] at hj ⊢; exact hs _ (List.mem_of_getElem? (ft_el ⟨j, hj⟩))) (fun i j hi hj h => absurd (show i = j by omega) h) hA
  refine ⟨aK 0, aV 0, va_AO.of (ht0 (.arrayOver (.object RX0)) (List.mem_of_getElem? (i := 136) (by decide +kernel))), ⟨⟨⟨fun i hi => ?_, fun i j hi hj _ => by omega⟩, va_Zof (ht0 (.laysStatic "java/lang/String" "COMPACT_STRINGS" "Z") (List.mem_of_getElem? (i := 183) (by decide +kernel))) (ht0 (.initialized "java/lang/String") (List.mem_of_getElem? (i := 8) (by decide +kernel))) (va_eqt z1) hA, va_Zqof (ht0 (.laysStatic "jdk/internal/util/Preconditions" "SIOOBE_FORMATTER" "Ljava/util/function/BiFunction;") (List.mem_of_getElem? (i := 199) (by decide +kernel))) (ht0 (.initialized "jdk/internal/util/Preconditions") (List.mem_of_getElem? (i := 10) (by decide +kernel))) z2 hA⟩, Nat.le_refl _⟩, vk_R.of (ht0 (.stringRef RX5 55 FT) (List.mem_of_getElem? (i := 173) (by decide +kernel))) ?_⟩
  · rw [z0 i hi]
    exact hk.1 0 (by decide)
  · exact ha 0 (by decide)
