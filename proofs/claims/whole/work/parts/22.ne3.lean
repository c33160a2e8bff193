set_option maxHeartbeats 4000000 in
set_option maxRecDepth 100000 in
theorem k_J6_bitCount_0f7a4 (l : Launch) (G : GG) (x0 : Int32)  : CI l yJ6_bitCount_0f7a4 wsJ6_bitCount_0f7a4 ({ frames := 0, cells := 0, slots := 0, locals := 0 }) G [] [.int x0] ((bcF x0)) (S := Unit) (fun _ => []) := by
  refine CI.of (cc := cJ6_bitCount_0f7a4) (nL := 1) (by decide) rfl ⟨rfl, rfl⟩ (Nat.le_of_ble_eq_true rfl) ?_
  intro p e s m args below meth c Q A H0 hKs fin
  have w_1 : Jvm.Cond.constant RJ6 265 (1431655765) ∈ wsJ6_bitCount_0f7a4 := by decide +kernel
  have w_2 : Jvm.Cond.constant RJ6 266 (858993459) ∈ wsJ6_bitCount_0f7a4 := by decide +kernel
  have w_3 : Jvm.Cond.constant RJ6 267 (252645135) ∈ wsJ6_bitCount_0f7a4 := by decide +kernel
  refine V_lv (lv' := [(0, .int x0)]) [0] rfl ?_
  refine V_iload_n 0 dJ6_bitCount_0f7a4_0 rfl rfl ?_
  refine V_iload_n 0 dJ6_bitCount_0f7a4_1 rfl rfl ?_
  refine V_iconst (v := 1) dJ6_bitCount_0f7a4_2 (by decide) ?_
  refine V_iushr (v := (us x0 1)) dJ6_bitCount_0f7a4_3 rfl ?_
  refine V_ldcw (v := 1431655765) dJ6_bitCount_0f7a4_4 w_1 ?_
  refine V_iand dJ6_bitCount_0f7a4_7 ?_
  refine V_isub dJ6_bitCount_0f7a4_8 ?_
  refine V_istore_n (lv' := [(0, .int (x0 - ((us x0 1) &&& 1431655765)))]) dJ6_bitCount_0f7a4_9 rfl (by decide) rfl ?_
  refine V_iload_n 0 dJ6_bitCount_0f7a4_10 rfl rfl ?_
  refine V_ldcw (v := 858993459) dJ6_bitCount_0f7a4_11 w_2 ?_
  refine V_iand dJ6_bitCount_0f7a4_14 ?_
  refine V_iload_n 0 dJ6_bitCount_0f7a4_15 rfl rfl ?_
  refine V_iconst (v := 2) dJ6_bitCount_0f7a4_16 (by decide) ?_
  refine V_iushr (v := (us (x0 - ((us x0 1) &&& 1431655765)) 2)) dJ6_bitCount_0f7a4_17 rfl ?_
  refine V_ldcw (v := 858993459) dJ6_bitCount_0f7a4_18 w_2 ?_
  refine V_iand dJ6_bitCount_0f7a4_21 ?_
  refine V_iadd dJ6_bitCount_0f7a4_22 ?_
  refine V_istore_n (lv' := [(0, .int (((x0 - ((us x0 1) &&& 1431655765)) &&& 858993459) + ((us (x0 - ((us x0 1) &&& 1431655765)) 2) &&& 858993459)))]) dJ6_bitCount_0f7a4_23 rfl (by decide) rfl ?_
  refine V_iload_n 0 dJ6_bitCount_0f7a4_24 rfl rfl ?_
  refine V_iload_n 0 dJ6_bitCount_0f7a4_25 rfl rfl ?_
  refine V_iconst (v := 4) dJ6_bitCount_0f7a4_26 (by decide) ?_
  refine V_iushr (v := (us (((x0 - ((us x0 1) &&& 1431655765)) &&& 858993459) + ((us (x0 - ((us x0 1) &&& 1431655765)) 2) &&& 858993459)) 4)) dJ6_bitCount_0f7a4_27 rfl ?_
  refine V_iadd dJ6_bitCount_0f7a4_28 ?_
  refine V_ldcw (v := 252645135) dJ6_bitCount_0f7a4_29 w_3 ?_
  refine V_iand dJ6_bitCount_0f7a4_32 ?_
  refine V_istore_n (lv' := [(0, .int (((((x0 - ((us x0 1) &&& 1431655765)) &&& 858993459) + ((us (x0 - ((us x0 1) &&& 1431655765)) 2) &&& 858993459)) + (us (((x0 - ((us x0 1) &&& 1431655765)) &&& 858993459) + ((us (x0 - ((us x0 1) &&& 1431655765)) 2) &&& 858993459)) 4)) &&& 252645135))]) dJ6_bitCount_0f7a4_33 rfl (by decide) rfl ?_
  refine V_iload_n 0 dJ6_bitCount_0f7a4_34 rfl rfl ?_
  refine V_iload_n 0 dJ6_bitCount_0f7a4_35 rfl rfl ?_
  refine V_bipush (v := 8) dJ6_bitCount_0f7a4_36 (by decide) ?_
  refine V_iushr (v := (us (((((x0 - ((us x0 1) &&& 1431655765)) &&& 858993459) + ((us (x0 - ((us x0 1) &&& 1431655765)) 2) &&& 858993459)) + (us (((x0 - ((us x0 1) &&& 1431655765)) &&& 858993459) + ((us (x0 - ((us x0 1) &&& 1431655765)) 2) &&& 858993459)) 4)) &&& 252645135) 8)) dJ6_bitCount_0f7a4_38 rfl ?_
  refine V_iadd dJ6_bitCount_0f7a4_39 ?_
  refine V_istore_n (lv' := [(0, .int ((((((x0 - ((us x0 1) &&& 1431655765)) &&& 858993459) + ((us (x0 - ((us x0 1) &&& 1431655765)) 2) &&& 858993459)) + (us (((x0 - ((us x0 1) &&& 1431655765)) &&& 858993459) + ((us (x0 - ((us x0 1) &&& 1431655765)) 2) &&& 858993459)) 4)) &&& 252645135) + (us (((((x0 - ((us x0 1) &&& 1431655765)) &&& 858993459) + ((us (x0 - ((us x0 1) &&& 1431655765)) 2) &&& 858993459)) + (us (((x0 - ((us x0 1) &&& 1431655765)) &&& 858993459) + ((us (x0 - ((us x0 1) &&& 1431655765)) 2) &&& 858993459)) 4)) &&& 252645135) 8)))]) dJ6_bitCount_0f7a4_40 rfl (by decide) rfl ?_
  refine V_iload_n 0 dJ6_bitCount_0f7a4_41 rfl rfl ?_
  refine V_iload_n 0 dJ6_bitCount_0f7a4_42 rfl rfl ?_
  refine V_bipush (v := 16) dJ6_bitCount_0f7a4_43 (by decide) ?_
  refine V_iushr (v := (us ((((((x0 - ((us x0 1) &&& 1431655765)) &&& 858993459) + ((us (x0 - ((us x0 1) &&& 1431655765)) 2) &&& 858993459)) + (us (((x0 - ((us x0 1) &&& 1431655765)) &&& 858993459) + ((us (x0 - ((us x0 1) &&& 1431655765)) 2) &&& 858993459)) 4)) &&& 252645135) + (us (((((x0 - ((us x0 1) &&& 1431655765)) &&& 858993459) + ((us (x0 - ((us x0 1) &&& 1431655765)) 2) &&& 858993459)) + (us (((x0 - ((us x0 1) &&& 1431655765)) &&& 858993459) + ((us (x0 - ((us x0 1) &&& 1431655765)) 2) &&& 858993459)) 4)) &&& 252645135) 8)) 16)) dJ6_bitCount_0f7a4_45 rfl ?_
  refine V_iadd dJ6_bitCount_0f7a4_46 ?_
  refine V_istore_n (lv' := [(0, .int (((((((x0 - ((us x0 1) &&& 1431655765)) &&& 858993459) + ((us (x0 - ((us x0 1) &&& 1431655765)) 2) &&& 858993459)) + (us (((x0 - ((us x0 1) &&& 1431655765)) &&& 858993459) + ((us (x0 - ((us x0 1) &&& 1431655765)) 2) &&& 858993459)) 4)) &&& 252645135) + (us (((((x0 - ((us x0 1) &&& 1431655765)) &&& 858993459) + ((us (x0 - ((us x0 1) &&& 1431655765)) 2) &&& 858993459)) + (us (((x0 - ((us x0 1) &&& 1431655765)) &&& 858993459) + ((us (x0 - ((us x0 1) &&& 1431655765)) 2) &&& 858993459)) 4)) &&& 252645135) 8)) + (us ((((((x0 - ((us x0 1) &&& 1431655765)) &&& 858993459) + ((us (x0 - ((us x0 1) &&& 1431655765)) 2) &&& 858993459)) + (us (((x0 - ((us x0 1) &&& 1431655765)) &&& 858993459) + ((us (x0 - ((us x0 1) &&& 1431655765)) 2) &&& 858993459)) 4)) &&& 252645135) + (us (((((x0 - ((us x0 1) &&& 1431655765)) &&& 858993459) + ((us (x0 - ((us x0 1) &&& 1431655765)) 2) &&& 858993459)) + (us (((x0 - ((us x0 1) &&& 1431655765)) &&& 858993459) + ((us (x0 - ((us x0 1) &&& 1431655765)) 2) &&& 858993459)) 4)) &&& 252645135) 8)) 16)))]) dJ6_bitCount_0f7a4_47 rfl (by decide) rfl ?_
  refine V_iload_n 0 dJ6_bitCount_0f7a4_48 rfl rfl ?_
  refine V_bipush (v := 63) dJ6_bitCount_0f7a4_49 (by decide) ?_
  refine V_iand dJ6_bitCount_0f7a4_51 ?_
  exact fin _ _ _ _ dJ6_bitCount_0f7a4_52 rfl (rfl) () (rfl)
set_option maxHeartbeats 4000000 in
set_option maxRecDepth 100000 in
theorem k_X5_power (l : Launch) (G : GG) (x0 : Int32) (a0 : Nat) (ha : a0 ≤ 64) : CI l yX5_power wsX5_power ({ frames := 0, cells := 0, slots := 0, locals := 0 }) G [] [.int x0, .int (nI a0)] ((pwF x0 a0)) (S := Unit) (fun _ => []) := by
  refine CI.of (cc := cX5_power) (nL := 4) (by decide) rfl ⟨rfl, rfl⟩ (Nat.le_of_ble_eq_true rfl) ?_
  intro p e s m args below meth c Q A H0 hKs fin
  refine V_lv (lv' := [(0, .int x0), (1, .int (nI a0))]) [0, 1] rfl ?_
  refine V_iconst (v := 1) dX5_power_0 (by decide) ?_
  refine V_istore_n (lv' := [(2, .int 1), (0, .int x0), (1, .int (nI a0))]) dX5_power_1 rfl (by decide) rfl ?_
  refine V_iconst (v := 0) dX5_power_2 (by decide) ?_
  refine V_istore_n (lv' := [(3, .int 0), (2, .int 1), (0, .int x0), (1, .int (nI a0))]) dX5_power_3 rfl (by decide) rfl ?_
  refine V_lv (lv' := [(0, .int x0), (1, .int (nI a0)), (2, .int 1), (3, .int 0)]) [2, 3, 1, 0] rfl ?_
  refine V_eq (ws' := []) (lv' := [(0, .int x0), (1, .int (nI a0)), (2, .int (it (fun a _ => a * x0) 1 0)), (3, .int (nI 0))]) (rfl) (rfl) ?_
  refine V_for (N := a0) (fun i => []) (fun i => [(0, .int x0), (1, .int (nI a0)), (2, .int (it (fun a _ => a * x0) 1 i)), (3, .int (nI i))]) (fun i hi_4 ih_4 => ?_) ?_ _ 0 (Nat.zero_add _)
  · skip
    refine V_iload_n 3 dX5_power_4 rfl rfl ?_
    refine V_iload_n 1 dX5_power_5 rfl rfl ?_
    refine V_icmp_ge 19 dX5_power_6 (by decide) (fun c_1 => absurd c_1 (nI_ge hi_4 (by omega))) (fun c_1 => ?_)
    refine V_iload_n 2 dX5_power_9 rfl rfl ?_
    refine V_iload_n 0 dX5_power_10 rfl rfl ?_
    refine V_imul dX5_power_11 ?_
    refine V_istore_n (lv' := [(2, .int ((it (fun a _ => a * x0) 1 i) * x0)), (0, .int x0), (1, .int (nI a0)), (3, .int (nI i))]) dX5_power_12 rfl (by decide) rfl ?_
    refine V_iinc 3 (v := (nI (i + 1))) (lv' := [(3, .int (nI (i + 1))), (2, .int ((it (fun a _ => a * x0) 1 i) * x0)), (0, .int x0), (1, .int (nI a0))]) dX5_power_13 rfl (iinc_nI _) (by decide) rfl ?_
    refine V_goto 4 dX5_power_16 (by decide) ?_
    refine V_lv (lv' := [(0, .int x0), (1, .int (nI a0)), (2, .int ((it (fun a _ => a * x0) 1 i) * x0)), (3, .int (nI (i + 1)))]) [2, 3, 1, 0] rfl ?_
    have hF_2 : (it (fun a _ => a * x0) 1 (i + 1)) = ((it (fun a _ => a * x0) 1 i) * x0) := by rfl
    exact V_eq (by first | rfl | (rw [hF_2]; done) | (rw [hF_2]; rfl) | (simp only [hF_2]; done)) (by first | rfl | (rw [hF_2]; done) | (rw [hF_2]; rfl) | (simp only [hF_2]; done)) ih_4
  · skip
    refine V_iload_n 3 dX5_power_4 rfl rfl ?_
    refine V_iload_n 1 dX5_power_5 rfl rfl ?_
    refine V_icmp_ge 19 dX5_power_6 (by decide) (fun c_3 => ?_) (fun c_3 => absurd (Int32.le_refl _) c_3)
    refine V_iload_n 2 dX5_power_19 rfl rfl ?_
    exact fin _ _ _ _ dX5_power_20 rfl (rfl) () (rfl)
set_option maxHeartbeats 4000000 in
set_option maxRecDepth 100000 in
theorem k_X5_commonDivisor (l : Launch) (G : GG) (x0 : Int32) (y0 : Int32)  : CI l yX5_commonDivisor wsX5_commonDivisor ({ frames := 0, cells := 0, slots := 0, locals := 0 }) G [] [.int x0, .int y0] ((cdF 64 x0 y0)) (S := Unit) (fun _ => []) := by
  refine CI.of (cc := cX5_commonDivisor) (nL := 6) (by decide) rfl ⟨rfl, rfl⟩ (Nat.le_of_ble_eq_true rfl) ?_
  intro p e s m args below meth c Q A H0 hKs fin
  refine V_lv (lv' := [(0, .int x0), (1, .int y0)]) [0, 1] rfl ?_
  refine V_iload_n 0 dX5_commonDivisor_0 rfl rfl ?_
  refine V_istore_n (lv' := [(2, .int x0), (0, .int x0), (1, .int y0)]) dX5_commonDivisor_1 rfl (by decide) rfl ?_
  refine V_iload_n 2 dX5_commonDivisor_2 rfl rfl ?_
  refine V_istore_n (lv' := [(3, .int y0), (2, .int x0), (0, .int x0), (1, .int y0)]) dX5_commonDivisor_3 rfl (by decide) rfl ?_
  refine V_iconst (v := 0) dX5_commonDivisor_4 (by decide) ?_
  refine V_istore (lv' := [(4, .int 0), (3, .int y0), (2, .int x0), (0, .int x0), (1, .int y0)]) dX5_commonDivisor_5 (by decide) rfl ?_
  refine V_lv (lv' := [(0, .int x0), (1, .int y0), (2, .int x0), (3, .int y0), (4, .int 0)]) [3, 4, 2, 1, 0] rfl ?_
  refine V_eq (ws' := []) (lv' := [(0, .int x0), (1, .int y0), (2, .int x0), (3, .int y0), (4, .int (nI 0))]) (rfl) (rfl) ?_
  refine down_to (N := 64) (fun i => ∀ (x2 : Int32) (y2 : Int32), (cdF (64 - i) x2 y2 = cdF 64 x0 y0) → V p l e _ s m args below meth c _ _ Q _ _ _ _ G A H0 [] [(0, .int x0), (1, .int y0), (2, .int x2), (3, .int y2), (4, .int (nI i))] 7 []) (fun i hi_7 ih_7 x2 y2 hR => ?_) (fun x2 y2 hR => ?_) _ 0 (Nat.zero_add _) x0 y0 rfl
  · skip
    refine V_iload 4 dX5_commonDivisor_7 rfl ?_
    refine V_bipush (v := 64) dX5_commonDivisor_9 (by decide) ?_
    refine V_icmp_ge 34 dX5_commonDivisor_11 (by decide) (fun c_1 => absurd (show nI 64 ≤ nI i from c_1) (nI_ge hi_7 (by omega))) (fun c_1 => ?_)
    refine V_iload_n 3 dX5_commonDivisor_14 rfl rfl ?_
    refine V_if_eq 34 dX5_commonDivisor_15 (by decide) (fun c_2 => ?_) (fun c_2 => ?_)
    · refine V_iload_n 2 dX5_commonDivisor_34 rfl rfl ?_
      have hk : 64 - i = (64 - (i + 1)) + 1 := by omega
      have hst : cdF ((64 - (i + 1)) + 1) x2 y2 = if y2 = 0 then x2 else cdF (64 - (i + 1)) y2 (x2 - x2 / y2 * y2) := rfl
      have hZ : cdF 64 x0 y0 = x2 := by rw [← hR, hk, hst, if_pos c_2]
      exact fin _ _ _ _ dX5_commonDivisor_35 rfl (by rw [hZ]) () (rfl)
    · refine V_iload_n 2 dX5_commonDivisor_18 rfl rfl ?_
      refine V_iload_n 3 dX5_commonDivisor_19 rfl rfl ?_
      refine V_irem dX5_commonDivisor_20 c_2 ?_
      refine V_istore (lv' := [(5, .int (x2 - x2 / y2 * y2)), (0, .int x0), (1, .int y0), (2, .int x2), (3, .int y2), (4, .int (nI i))]) dX5_commonDivisor_21 (by decide) rfl ?_
      refine V_iload_n 4 dX5_commonDivisor_23 rfl rfl ?_
      refine V_istore_n (lv' := [(2, .int y2), (5, .int (x2 - x2 / y2 * y2)), (0, .int x0), (1, .int y0), (3, .int y2), (4, .int (nI i))]) dX5_commonDivisor_24 rfl (by decide) rfl ?_
      refine V_iload 1 dX5_commonDivisor_25 rfl ?_
      refine V_istore_n (lv' := [(3, .int (x2 - x2 / y2 * y2)), (2, .int y2), (5, .int (x2 - x2 / y2 * y2)), (0, .int x0), (1, .int y0), (4, .int (nI i))]) dX5_commonDivisor_27 rfl (by decide) rfl ?_
      refine V_iinc 5 (v := (nI (i + 1))) (lv' := [(4, .int (nI (i + 1))), (3, .int (x2 - x2 / y2 * y2)), (2, .int y2), (5, .int (x2 - x2 / y2 * y2)), (0, .int x0), (1, .int y0)]) dX5_commonDivisor_28 rfl (iinc_nI _) (by decide) rfl ?_
      refine V_goto 7 dX5_commonDivisor_31 (by decide) ?_
      have hk : 64 - i = (64 - (i + 1)) + 1 := by omega
      have hst : cdF ((64 - (i + 1)) + 1) x2 y2 = if y2 = 0 then x2 else cdF (64 - (i + 1)) y2 (x2 - x2 / y2 * y2) := rfl
      have hR2 : cdF (64 - (i + 1)) y2 (x2 - x2 / y2 * y2) = cdF 64 x0 y0 := by rw [← hR, hk, hst, if_neg c_2]
      refine V_lv (lv' := [(0, .int x0), (1, .int y0), (2, .int y2), (3, .int (x2 - x2 / y2 * y2)), (4, .int (nI (i + 1)))]) [4, 5, 2, 1, 0] rfl ?_
      exact V_eq (rfl) (rfl) (ih_7 y2 (x2 - x2 / y2 * y2) hR2)
  · skip
    refine V_iload 4 dX5_commonDivisor_7 rfl ?_
    refine V_bipush (v := 64) dX5_commonDivisor_9 (by decide) ?_
    refine V_icmp_ge 34 dX5_commonDivisor_11 (by decide) (fun c_3 => ?_) (fun c_3 => absurd (show nI 64 ≤ nI 64 from Int32.le_refl _) c_3)
    refine V_iload_n 2 dX5_commonDivisor_34 rfl rfl ?_
    have hZ : cdF 64 x0 y0 = x2 := by rw [← hR]; rfl
    exact fin _ _ _ _ dX5_commonDivisor_35 rfl (by rw [hZ]) () (rfl)
set_option maxHeartbeats 4000000 in
set_option maxRecDepth 100000 in
theorem k_X5_draw (l : Launch) (G : GG) (x0 : Int32) (y0 : Int32)  : CI l yX5_draw wsX5_draw ({ frames := 0, cells := 0, slots := 0, locals := 0 }) G [] [.int x0, .int y0] ((drF x0 y0)) (S := Unit) (fun _ => []) := by
  refine CI.of (cc := cX5_draw) (nL := 4) (by decide) rfl ⟨rfl, rfl⟩ (Nat.le_of_ble_eq_true rfl) ?_
  intro p e s m args below meth c Q A H0 hKs fin
  have w_1 : Jvm.Cond.constantLong RX5 248 (7919) ∈ wsX5_draw := by decide +kernel
  have w_2 : Jvm.Cond.constantLong RX5 250 (6151) ∈ wsX5_draw := by decide +kernel
  have w_3 : Jvm.Cond.constantLong RX5 252 (65521) ∈ wsX5_draw := by decide +kernel
  have w_4 : Jvm.Cond.constantLong RX5 254 (2) ∈ wsX5_draw := by decide +kernel
  refine V_lv (lv' := [(0, .int x0), (1, .int y0)]) [0, 1] rfl ?_
  refine V_ldc2 (v := 7919) dX5_draw_0 w_1 ?_
  refine V_iload_n 0 dX5_draw_3 rfl rfl ?_
  refine V_i2l dX5_draw_4 rfl ?_
  refine V_lmul dX5_draw_5 ?_
  refine V_ldc2 (v := 6151) dX5_draw_6 w_2 ?_
  refine V_iload_n 1 dX5_draw_9 rfl rfl ?_
  refine V_i2l dX5_draw_10 rfl ?_
  refine V_lmul dX5_draw_11 ?_
  refine V_ladd dX5_draw_12 ?_
  refine V_lconst (v := 1) dX5_draw_13 (by decide) ?_
  refine V_ladd dX5_draw_14 ?_
  refine V_lstore_n (lv' := [(2, .long (((7919 * (x0.toInt64)) + (6151 * (y0.toInt64))) + 1)), (0, .int x0), (1, .int y0)]) dX5_draw_15 rfl (by decide) rfl ?_
  refine V_lload_n 0 dX5_draw_16 rfl rfl ?_
  refine V_lload_n 0 dX5_draw_17 rfl rfl ?_
  refine V_lmul dX5_draw_18 ?_
  refine V_ldc2 (v := 65521) dX5_draw_19 w_3 ?_
  refine V_lrem dX5_draw_22 (by decide) ?_
  refine V_ldc2 (v := 2) dX5_draw_23 w_4 ?_
  refine V_ldiv dX5_draw_26 (by decide) ?_
  refine V_l2i dX5_draw_27 rfl ?_
  exact fin _ _ _ _ dX5_draw_28 rfl (rfl) () (rfl)
set_option maxHeartbeats 4000000 in
set_option maxRecDepth 100000 in
theorem k_X5_othersWhoWait (l : Launch) (G : GG) (nx tx px ox lx rx ex kx sx : Nat) (px1 px2 px3 px4 : Nat) (P : PlS) (lx1 lx2 lx3 lx4 : Nat) (L : LnS) (a0 : Nat) (hN : pN P ≤ 8) : CI l yX5_othersWhoWait wsX5_othersWhoWait ({ frames := 1, cells := 0, slots := 0, locals := 21 }) G [(nx, .inr (5, [.ref tx, .ref px, .ref ox, .ref lx, .ref rx, .ref ex, .ref kx, .ref sx])), (px, .inr (1, [.ref px1, .ref px2, .ref px3, .ref px4, .int (nI (pN P)), .int (pse P), .int (pme P), .int (pru P)])), (px1, .inl (G.2.1, 8, .inl (pki P))), (px2, .inl (G.2.1, 8, .inl (pci P))), (px3, .inl (G.2.1, 8, .inl (ppa P))), (px4, .inl (G.2.1, 8, .inl (pwo P))), (lx, .inr (0, [.ref lx1, .ref lx2, .ref lx3, .ref lx4, .int (lcg L), .int (lco L), .int (lmi L), .int (lse L), .int (lru L)])), (lx1, .inl (G.2.1, 8, .inl (lst L))), (lx2, .inl (G.2.1, 8, .inl (lwa L))), (lx3, .inl (G.2.1, 8, .inl (lca L))), (lx4, .inl (G.2.1, 8, .inl (lti L)))] [.ref nx, .int (nI a0)] ((owF P L a0)) (S := Unit) (fun _ => [(nx, .inr (5, [.ref tx, .ref px, .ref ox, .ref lx, .ref rx, .ref ex, .ref kx, .ref sx])), (px, .inr (1, [.ref px1, .ref px2, .ref px3, .ref px4, .int (nI (pN P)), .int (pse P), .int (pme P), .int (pru P)])), (px1, .inl (G.2.1, 8, .inl (pki P))), (px2, .inl (G.2.1, 8, .inl (pci P))), (px3, .inl (G.2.1, 8, .inl (ppa P))), (px4, .inl (G.2.1, 8, .inl (pwo P))), (lx, .inr (0, [.ref lx1, .ref lx2, .ref lx3, .ref lx4, .int (lcg L), .int (lco L), .int (lmi L), .int (lse L), .int (lru L)])), (lx1, .inl (G.2.1, 8, .inl (lst L))), (lx2, .inl (G.2.1, 8, .inl (lwa L))), (lx3, .inl (G.2.1, 8, .inl (lca L))), (lx4, .inl (G.2.1, 8, .inl (lti L)))]) := by
  refine CI.of (cc := cX5_othersWhoWait) (nL := 4) (by decide) rfl ⟨rfl, rfl⟩ (Nat.le_of_ble_eq_true rfl) ?_
  intro p e s m args below meth c Q A H0 hKs fin
  have i_X1 : ∀ w ∈ wsX10, w ∈ wsX5_othersWhoWait := by decide +kernel
  have i_X5 : ∀ w ∈ wsX50, w ∈ wsX5_othersWhoWait := by decide +kernel
  have w_1 : Jvm.Cond.fieldLink RX5 19 "NumberEleven" "plan" "LNumberEleven$Plan;" ∈ wsX5_othersWhoWait := by decide +kernel
  have w_2 : Jvm.Cond.fieldLink RX5 89 "NumberEleven$Plan" "callers" "I" ∈ wsX5_othersWhoWait := by decide +kernel
  have w_3 : Jvm.Cond.fieldLink RX5 29 "NumberEleven" "line" "LNumberEleven$Line;" ∈ wsX5_othersWhoWait := by decide +kernel
  refine V_lv (lv' := [(0, .ref nx), (1, .int (nI a0))]) [0, 1] rfl ?_
  refine V_iconst (v := 0) dX5_othersWhoWait_0 (by decide) ?_
  refine V_istore_n (lv' := [(2, .int 0), (0, .ref nx), (1, .int (nI a0))]) dX5_othersWhoWait_1 rfl (by decide) rfl ?_
  refine V_iconst (v := 0) dX5_othersWhoWait_2 (by decide) ?_
  refine V_istore_n (lv' := [(3, .int 0), (2, .int 0), (0, .ref nx), (1, .int (nI a0))]) dX5_othersWhoWait_3 rfl (by decide) rfl ?_
  refine V_lv (lv' := [(0, .ref nx), (1, .int (nI a0)), (2, .int 0), (3, .int 0)]) [2, 3, 1, 0] rfl ?_
  refine V_eq (ws' := [(nx, .inr (5, [.ref tx, .ref px, .ref ox, .ref lx, .ref rx, .ref ex, .ref kx, .ref sx])), (px, .inr (1, [.ref px1, .ref px2, .ref px3, .ref px4, .int (nI (pN P)), .int (pse P), .int (pme P), .int (pru P)])), (px1, .inl (G.2.1, 8, .inl (pki P))), (px2, .inl (G.2.1, 8, .inl (pci P))), (px3, .inl (G.2.1, 8, .inl (ppa P))), (px4, .inl (G.2.1, 8, .inl (pwo P))), (lx, .inr (0, [.ref lx1, .ref lx2, .ref lx3, .ref lx4, .int (lcg L), .int (lco L), .int (lmi L), .int (lse L), .int (lru L)])), (lx1, .inl (G.2.1, 8, .inl (lst L))), (lx2, .inl (G.2.1, 8, .inl (lwa L))), (lx3, .inl (G.2.1, 8, .inl (lca L))), (lx4, .inl (G.2.1, 8, .inl (lti L)))]) (lv' := [(0, .ref nx), (1, .int (nI a0)), (2, .int (it (owB L a0) 0 0)), (3, .int (nI 0))]) (rfl) (rfl) ?_
  refine V_for (N := (pN P)) (fun i => [(nx, .inr (5, [.ref tx, .ref px, .ref ox, .ref lx, .ref rx, .ref ex, .ref kx, .ref sx])), (px, .inr (1, [.ref px1, .ref px2, .ref px3, .ref px4, .int (nI (pN P)), .int (pse P), .int (pme P), .int (pru P)])), (px1, .inl (G.2.1, 8, .inl (pki P))), (px2, .inl (G.2.1, 8, .inl (pci P))), (px3, .inl (G.2.1, 8, .inl (ppa P))), (px4, .inl (G.2.1, 8, .inl (pwo P))), (lx, .inr (0, [.ref lx1, .ref lx2, .ref lx3, .ref lx4, .int (lcg L), .int (lco L), .int (lmi L), .int (lse L), .int (lru L)])), (lx1, .inl (G.2.1, 8, .inl (lst L))), (lx2, .inl (G.2.1, 8, .inl (lwa L))), (lx3, .inl (G.2.1, 8, .inl (lca L))), (lx4, .inl (G.2.1, 8, .inl (lti L)))]) (fun i => [(0, .ref nx), (1, .int (nI a0)), (2, .int (it (owB L a0) 0 i)), (3, .int (nI i))]) (fun i hi_4 ih_4 => ?_) ?_ _ 0 (Nat.zero_add _)
  · skip
    refine V_iload_n 3 dX5_othersWhoWait_4 rfl rfl ?_
    refine V_aload_n 0 dX5_othersWhoWait_5 rfl rfl ?_
    refine V_get (ci := 5) (C := RX5) (T := TX5) (N := 8) i_X5 0 rfl rfl 1 (by decide) w_1 rfl rfl dX5_othersWhoWait_6 ?_
    refine V_get (ci := 1) (C := RX1) (T := TX1) (N := 8) i_X1 1 rfl rfl 4 (by decide) w_2 rfl rfl dX5_othersWhoWait_9 ?_
    refine V_icmp_ge 43 dX5_othersWhoWait_12 (by decide) (fun c_1 => absurd c_1 (nI_ge hi_4 (by omega))) (fun c_1 => ?_)
    refine V_iload_n 3 dX5_othersWhoWait_15 rfl rfl ?_
    refine V_iload_n 1 dX5_othersWhoWait_16 rfl rfl ?_
    refine V_icmp_eq 37 dX5_othersWhoWait_17 (by decide) (fun c_2 => ?_) (fun c_2 => ?_)
    · refine V_iinc 3 (v := (nI (i + 1))) (lv' := [(3, .int (nI (i + 1))), (0, .ref nx), (1, .int (nI a0)), (2, .int (it (owB L a0) 0 i))]) dX5_othersWhoWait_37 rfl (iinc_nI _) (by decide) rfl ?_
      refine V_goto 4 dX5_othersWhoWait_40 (by decide) ?_
      refine V_lv (lv' := [(0, .ref nx), (1, .int (nI a0)), (2, .int (it (owB L a0) 0 i)), (3, .int (nI (i + 1)))]) [1, 2, 3, 0] rfl ?_
      have hF_3 : (it (owB L a0) 0 (i + 1)) = (it (owB L a0) 0 i) := by simp [it, owB, c_1, c_2]
      exact V_eq (by first | rfl | (rw [hF_3]; done) | (rw [hF_3]; rfl) | (simp only [hF_3]; done)) (by first | rfl | (rw [hF_3]; done) | (rw [hF_3]; rfl) | (simp only [hF_3]; done)) ih_4
    · refine V_aload_n 0 dX5_othersWhoWait_20 rfl rfl ?_
      refine V_get (ci := 5) (C := RX5) (T := TX5) (N := 8) i_X5 0 rfl rfl 3 (by decide) w_3 rfl rfl dX5_othersWhoWait_21 ?_
      refine V_iload_n 3 dX5_othersWhoWait_24 rfl rfl ?_
      refine V_callVI (wr := [(nx, .inr (5, [.ref tx, .ref px, .ref ox, .ref lx, .ref rx, .ref ex, .ref kx, .ref sx])), (px, .inr (1, [.ref px1, .ref px2, .ref px3, .ref px4, .int (nI (pN P)), .int (pse P), .int (pme P), .int (pru P)])), (px1, .inl (G.2.1, 8, .inl (pki P))), (px2, .inl (G.2.1, 8, .inl (pci P))), (px3, .inl (G.2.1, 8, .inl (ppa P))), (px4, .inl (G.2.1, 8, .inl (pwo P)))]) (ws' := fun _ => [(nx, .inr (5, [.ref tx, .ref px, .ref ox, .ref lx, .ref rx, .ref ex, .ref kx, .ref sx])), (px, .inr (1, [.ref px1, .ref px2, .ref px3, .ref px4, .int (nI (pN P)), .int (pse P), .int (pme P), .int (pru P)])), (px1, .inl (G.2.1, 8, .inl (pki P))), (px2, .inl (G.2.1, 8, .inl (pci P))), (px3, .inl (G.2.1, 8, .inl (ppa P))), (px4, .inl (G.2.1, 8, .inl (pwo P))), (lx, .inr (0, [.ref lx1, .ref lx2, .ref lx3, .ref lx4, .int (lcg L), .int (lco L), .int (lmi L), .int (lse L), .int (lru L)])), (lx1, .inl (G.2.1, 8, .inl (lst L))), (lx2, .inl (G.2.1, 8, .inl (lwa L))), (lx3, .inl (G.2.1, 8, .inl (lca L))), (lx4, .inl (G.2.1, 8, .inl (lti L)))]) [.int (nI i)] [] 1 (k_X0_canHangUp l G lx lx1 lx2 lx3 lx4 L i (by first | assumption | omega | (intro hq; omega))) 0 0 rfl rfl gX5_othersWhoWait_X0_canHangUp rfl ⟨rfl, rfl, Nat.le_of_ble_eq_true rfl, Nat.le_of_ble_eq_true rfl⟩ (by decide +kernel) rfl [6, 7, 8, 9, 10] [0, 1, 2, 3, 4, 5] [0, 1, 2, 3, 4, 5, 6, 7, 8, 9, 10] rfl rfl (by decide) (by decide) (fun _ => rfl) rfl (Nat.le_of_ble_eq_true rfl) dX5_othersWhoWait_25 (fun _ => ?_)
      refine V_ifb_eq 37 dX5_othersWhoWait_28 (by decide) (fun c_4 => ?_) (fun c_4 => ?_)
      · have d_4 := of_decide_eq_false c_4
        refine V_iinc 3 (v := (nI (i + 1))) (lv' := [(3, .int (nI (i + 1))), (0, .ref nx), (1, .int (nI a0)), (2, .int (it (owB L a0) 0 i))]) dX5_othersWhoWait_37 rfl (iinc_nI _) (by decide) rfl ?_
        refine V_goto 4 dX5_othersWhoWait_40 (by decide) ?_
        refine V_lv (lv' := [(0, .ref nx), (1, .int (nI a0)), (2, .int (it (owB L a0) 0 i)), (3, .int (nI (i + 1)))]) [1, 2, 3, 0] rfl ?_
        have hF_5 : (it (owB L a0) 0 (i + 1)) = (it (owB L a0) 0 i) := by simp [it, owB, c_1, c_2, d_4, c_4]
        exact V_eq (by first | rfl | (rw [hF_5]; done) | (rw [hF_5]; rfl) | (simp only [hF_5]; done)) (by first | rfl | (rw [hF_5]; done) | (rw [hF_5]; rfl) | (simp only [hF_5]; done)) ih_4
      · have d_4 := of_decide_eq_true c_4
        refine V_iload_n 2 dX5_othersWhoWait_31 rfl rfl ?_
        refine V_iconst (v := 1) dX5_othersWhoWait_32 (by decide) ?_
        refine V_iload_n 3 dX5_othersWhoWait_33 rfl rfl ?_
        refine V_ishl dX5_othersWhoWait_34 ?_
        refine V_ior dX5_othersWhoWait_35 ?_
        refine V_istore_n (lv' := [(2, .int ((it (owB L a0) 0 i) ||| (1 <<< ((nI i) &&& 31)))), (0, .ref nx), (1, .int (nI a0)), (3, .int (nI i))]) dX5_othersWhoWait_36 rfl (by decide) rfl ?_
        refine V_iinc 3 (v := (nI (i + 1))) (lv' := [(3, .int (nI (i + 1))), (2, .int ((it (owB L a0) 0 i) ||| (1 <<< ((nI i) &&& 31)))), (0, .ref nx), (1, .int (nI a0))]) dX5_othersWhoWait_37 rfl (iinc_nI _) (by decide) rfl ?_
        refine V_goto 4 dX5_othersWhoWait_40 (by decide) ?_
        refine V_lv (lv' := [(0, .ref nx), (1, .int (nI a0)), (2, .int ((it (owB L a0) 0 i) ||| (1 <<< ((nI i) &&& 31)))), (3, .int (nI (i + 1)))]) [2, 3, 1, 0] rfl ?_
        have hF_6 : (it (owB L a0) 0 (i + 1)) = ((it (owB L a0) 0 i) ||| (1 <<< ((nI i) &&& 31))) := by simp [it, owB, c_1, c_2, d_4, c_4]
        exact V_eq (by first | rfl | (rw [hF_6]; done) | (rw [hF_6]; rfl) | (simp only [hF_6]; done)) (by first | rfl | (rw [hF_6]; done) | (rw [hF_6]; rfl) | (simp only [hF_6]; done)) ih_4
  · skip
    refine V_iload_n 3 dX5_othersWhoWait_4 rfl rfl ?_
    refine V_aload_n 0 dX5_othersWhoWait_5 rfl rfl ?_
    refine V_get (ci := 5) (C := RX5) (T := TX5) (N := 8) i_X5 0 rfl rfl 1 (by decide) w_1 rfl rfl dX5_othersWhoWait_6 ?_
    refine V_get (ci := 1) (C := RX1) (T := TX1) (N := 8) i_X1 1 rfl rfl 4 (by decide) w_2 rfl rfl dX5_othersWhoWait_9 ?_
    refine V_icmp_ge 43 dX5_othersWhoWait_12 (by decide) (fun c_7 => ?_) (fun c_7 => absurd (Int32.le_refl _) c_7)
    refine V_iload_n 2 dX5_othersWhoWait_43 rfl rfl ?_
    exact fin _ _ _ _ dX5_othersWhoWait_44 rfl (rfl) () (rfl)
set_option maxHeartbeats 4000000 in
set_option maxRecDepth 100000 in
theorem k_X5_weightIfTaken (l : Launch) (G : GG) (nx tx px ox lx rx ex kx sx : Nat) (px1 px2 px3 px4 : Nat) (P : PlS) (lx1 lx2 lx3 lx4 : Nat) (L : LnS) (rx1 rx2 rx3 rx4 : Nat) (X : LnS) (a0 : Nat) (x0 : Int32) (h0 : Nat) (o0 : Nat) (hN : pN P ≤ 8) (ha : a0 < 8) (hh : h0 < 256) (ho : o0 < 256) (hle : tn (bcF (nI h0)) ≤ tn (bcF (nI o0))) : CI l yX5_weightIfTaken wsX5_weightIfTaken ({ frames := 5, cells := 0, slots := 0, locals := 115 }) G [(nx, .inr (5, [.ref tx, .ref px, .ref ox, .ref lx, .ref rx, .ref ex, .ref kx, .ref sx])), (px, .inr (1, [.ref px1, .ref px2, .ref px3, .ref px4, .int (nI (pN P)), .int (pse P), .int (pme P), .int (pru P)])), (px1, .inl (G.2.1, 8, .inl (pki P))), (px2, .inl (G.2.1, 8, .inl (pci P))), (px3, .inl (G.2.1, 8, .inl (ppa P))), (px4, .inl (G.2.1, 8, .inl (pwo P))), (lx, .inr (0, [.ref lx1, .ref lx2, .ref lx3, .ref lx4, .int (lcg L), .int (lco L), .int (lmi L), .int (lse L), .int (lru L)])), (lx1, .inl (G.2.1, 8, .inl (lst L))), (lx2, .inl (G.2.1, 8, .inl (lwa L))), (lx3, .inl (G.2.1, 8, .inl (lca L))), (lx4, .inl (G.2.1, 8, .inl (lti L))), (rx, .inr (0, [.ref rx1, .ref rx2, .ref rx3, .ref rx4, .int (lcg X), .int (lco X), .int (lmi X), .int (lse X), .int (lru X)])), (rx1, .inl (G.2.1, 8, .inl (lst X))), (rx2, .inl (G.2.1, 8, .inl (lwa X))), (rx3, .inl (G.2.1, 8, .inl (lca X))), (rx4, .inl (G.2.1, 8, .inl (lti X)))] [.ref nx, .int (nI a0), .int x0, .int (nI h0), .int (nI o0)] ((wiF P L a0 x0 (nI h0) (nI o0))) (S := LnS) (fun u => [(nx, .inr (5, [.ref tx, .ref px, .ref ox, .ref lx, .ref rx, .ref ex, .ref kx, .ref sx])), (px, .inr (1, [.ref px1, .ref px2, .ref px3, .ref px4, .int (nI (pN P)), .int (pse P), .int (pme P), .int (pru P)])), (px1, .inl (G.2.1, 8, .inl (pki P))), (px2, .inl (G.2.1, 8, .inl (pci P))), (px3, .inl (G.2.1, 8, .inl (ppa P))), (px4, .inl (G.2.1, 8, .inl (pwo P))), (lx, .inr (0, [.ref lx1, .ref lx2, .ref lx3, .ref lx4, .int (lcg L), .int (lco L), .int (lmi L), .int (lse L), .int (lru L)])), (lx1, .inl (G.2.1, 8, .inl (lst L))), (lx2, .inl (G.2.1, 8, .inl (lwa L))), (lx3, .inl (G.2.1, 8, .inl (lca L))), (lx4, .inl (G.2.1, 8, .inl (lti L))), (rx, .inr (0, [.ref rx1, .ref rx2, .ref rx3, .ref rx4, .int (lcg u), .int (lco u), .int (lmi u), .int (lse u), .int (lru u)])), (rx1, .inl (G.2.1, 8, .inl (lst u))), (rx2, .inl (G.2.1, 8, .inl (lwa u))), (rx3, .inl (G.2.1, 8, .inl (lca u))), (rx4, .inl (G.2.1, 8, .inl (lti u)))]) := by
  refine CI.of (cc := cX5_weightIfTaken) (nL := 9) (by decide) rfl ⟨rfl, rfl⟩ (Nat.le_of_ble_eq_true rfl) ?_
  intro p e s m args below meth c Q A H0 hKs fin
  have i_X1 : ∀ w ∈ wsX10, w ∈ wsX5_weightIfTaken := by decide +kernel
  have i_X5 : ∀ w ∈ wsX50, w ∈ wsX5_weightIfTaken := by decide +kernel
  have w_1 : Jvm.Cond.fieldLink RX5 33 "NumberEleven" "trial" "LNumberEleven$Line;" ∈ wsX5_weightIfTaken := by decide +kernel
  have w_2 : Jvm.Cond.fieldLink RX5 29 "NumberEleven" "line" "LNumberEleven$Line;" ∈ wsX5_weightIfTaken := by decide +kernel
  have w_3 : Jvm.Cond.fieldLink RX5 19 "NumberEleven" "plan" "LNumberEleven$Plan;" ∈ wsX5_weightIfTaken := by decide +kernel
  have w_4 : Jvm.Cond.fieldLink RX5 89 "NumberEleven$Plan" "callers" "I" ∈ wsX5_weightIfTaken := by decide +kernel
  refine V_lv (lv' := [(0, .ref nx), (1, .int (nI a0)), (2, .int x0), (3, .int (nI h0)), (4, .int (nI o0))]) [0, 1, 2, 3, 4] rfl ?_
  obtain ⟨hq1, hq2⟩ := bcF_lt ⟨h0, hh⟩
  obtain ⟨hq3, hq4⟩ := bcF_lt ⟨o0, ho⟩
  dsimp only at hq1 hq2 hq3 hq4
  refine V_iload_n 3 dX5_weightIfTaken_0 rfl rfl ?_
  refine V_callSI (wr := [(nx, .inr (5, [.ref tx, .ref px, .ref ox, .ref lx, .ref rx, .ref ex, .ref kx, .ref sx])), (px, .inr (1, [.ref px1, .ref px2, .ref px3, .ref px4, .int (nI (pN P)), .int (pse P), .int (pme P), .int (pru P)])), (px1, .inl (G.2.1, 8, .inl (pki P))), (px2, .inl (G.2.1, 8, .inl (pci P))), (px3, .inl (G.2.1, 8, .inl (ppa P))), (px4, .inl (G.2.1, 8, .inl (pwo P))), (lx, .inr (0, [.ref lx1, .ref lx2, .ref lx3, .ref lx4, .int (lcg L), .int (lco L), .int (lmi L), .int (lse L), .int (lru L)])), (lx1, .inl (G.2.1, 8, .inl (lst L))), (lx2, .inl (G.2.1, 8, .inl (lwa L))), (lx3, .inl (G.2.1, 8, .inl (lca L))), (lx4, .inl (G.2.1, 8, .inl (lti L))), (rx, .inr (0, [.ref rx1, .ref rx2, .ref rx3, .ref rx4, .int (lcg X), .int (lco X), .int (lmi X), .int (lse X), .int (lru X)])), (rx1, .inl (G.2.1, 8, .inl (lst X))), (rx2, .inl (G.2.1, 8, .inl (lwa X))), (rx3, .inl (G.2.1, 8, .inl (lca X))), (rx4, .inl (G.2.1, 8, .inl (lti X)))]) (ws' := fun _ => [(nx, .inr (5, [.ref tx, .ref px, .ref ox, .ref lx, .ref rx, .ref ex, .ref kx, .ref sx])), (px, .inr (1, [.ref px1, .ref px2, .ref px3, .ref px4, .int (nI (pN P)), .int (pse P), .int (pme P), .int (pru P)])), (px1, .inl (G.2.1, 8, .inl (pki P))), (px2, .inl (G.2.1, 8, .inl (pci P))), (px3, .inl (G.2.1, 8, .inl (ppa P))), (px4, .inl (G.2.1, 8, .inl (pwo P))), (lx, .inr (0, [.ref lx1, .ref lx2, .ref lx3, .ref lx4, .int (lcg L), .int (lco L), .int (lmi L), .int (lse L), .int (lru L)])), (lx1, .inl (G.2.1, 8, .inl (lst L))), (lx2, .inl (G.2.1, 8, .inl (lwa L))), (lx3, .inl (G.2.1, 8, .inl (lca L))), (lx4, .inl (G.2.1, 8, .inl (lti L))), (rx, .inr (0, [.ref rx1, .ref rx2, .ref rx3, .ref rx4, .int (lcg X), .int (lco X), .int (lmi X), .int (lse X), .int (lru X)])), (rx1, .inl (G.2.1, 8, .inl (lst X))), (rx2, .inl (G.2.1, 8, .inl (lwa X))), (rx3, .inl (G.2.1, 8, .inl (lca X))), (rx4, .inl (G.2.1, 8, .inl (lti X)))]) [.int (nI h0)] [] 1 (k_J6_bitCount_0f7a4 l G (nI h0)) gX5_weightIfTaken_J6_bitCount_0f7a4 rfl ⟨rfl, rfl, Nat.le_of_ble_eq_true rfl, Nat.le_of_ble_eq_true rfl⟩ (by decide +kernel) rfl [] [0, 1, 2, 3, 4, 5, 6, 7, 8, 9, 10, 11, 12, 13, 14, 15] [0, 1, 2, 3, 4, 5, 6, 7, 8, 9, 10, 11, 12, 13, 14, 15] rfl rfl (by decide) (by decide) (fun _ => rfl) rfl (Nat.le_of_ble_eq_true rfl) dX5_weightIfTaken_1 (fun _ => ?_)
  refine V_st (st' := [.int (nI (tn (bcF (nI h0))))]) (by rw [← hq1]) ?_
  refine V_istore (lv' := [(5, .int (nI (tn (bcF (nI h0))))), (0, .ref nx), (1, .int (nI a0)), (2, .int x0), (3, .int (nI h0)), (4, .int (nI o0))]) dX5_weightIfTaken_4 (by decide) rfl ?_
  refine V_iload 5 dX5_weightIfTaken_6 rfl ?_
  refine V_callSI (wr := [(nx, .inr (5, [.ref tx, .ref px, .ref ox, .ref lx, .ref rx, .ref ex, .ref kx, .ref sx])), (px, .inr (1, [.ref px1, .ref px2, .ref px3, .ref px4, .int (nI (pN P)), .int (pse P), .int (pme P), .int (pru P)])), (px1, .inl (G.2.1, 8, .inl (pki P))), (px2, .inl (G.2.1, 8, .inl (pci P))), (px3, .inl (G.2.1, 8, .inl (ppa P))), (px4, .inl (G.2.1, 8, .inl (pwo P))), (lx, .inr (0, [.ref lx1, .ref lx2, .ref lx3, .ref lx4, .int (lcg L), .int (lco L), .int (lmi L), .int (lse L), .int (lru L)])), (lx1, .inl (G.2.1, 8, .inl (lst L))), (lx2, .inl (G.2.1, 8, .inl (lwa L))), (lx3, .inl (G.2.1, 8, .inl (lca L))), (lx4, .inl (G.2.1, 8, .inl (lti L))), (rx, .inr (0, [.ref rx1, .ref rx2, .ref rx3, .ref rx4, .int (lcg X), .int (lco X), .int (lmi X), .int (lse X), .int (lru X)])), (rx1, .inl (G.2.1, 8, .inl (lst X))), (rx2, .inl (G.2.1, 8, .inl (lwa X))), (rx3, .inl (G.2.1, 8, .inl (lca X))), (rx4, .inl (G.2.1, 8, .inl (lti X)))]) (ws' := fun _ => [(nx, .inr (5, [.ref tx, .ref px, .ref ox, .ref lx, .ref rx, .ref ex, .ref kx, .ref sx])), (px, .inr (1, [.ref px1, .ref px2, .ref px3, .ref px4, .int (nI (pN P)), .int (pse P), .int (pme P), .int (pru P)])), (px1, .inl (G.2.1, 8, .inl (pki P))), (px2, .inl (G.2.1, 8, .inl (pci P))), (px3, .inl (G.2.1, 8, .inl (ppa P))), (px4, .inl (G.2.1, 8, .inl (pwo P))), (lx, .inr (0, [.ref lx1, .ref lx2, .ref lx3, .ref lx4, .int (lcg L), .int (lco L), .int (lmi L), .int (lse L), .int (lru L)])), (lx1, .inl (G.2.1, 8, .inl (lst L))), (lx2, .inl (G.2.1, 8, .inl (lwa L))), (lx3, .inl (G.2.1, 8, .inl (lca L))), (lx4, .inl (G.2.1, 8, .inl (lti L))), (rx, .inr (0, [.ref rx1, .ref rx2, .ref rx3, .ref rx4, .int (lcg X), .int (lco X), .int (lmi X), .int (lse X), .int (lru X)])), (rx1, .inl (G.2.1, 8, .inl (lst X))), (rx2, .inl (G.2.1, 8, .inl (lwa X))), (rx3, .inl (G.2.1, 8, .inl (lca X))), (rx4, .inl (G.2.1, 8, .inl (lti X)))]) [.int (nI o0)] [] 1 (k_J6_bitCount_0f7a4 l G (nI o0)) gX5_weightIfTaken_J6_bitCount_0f7a4 rfl ⟨rfl, rfl, Nat.le_of_ble_eq_true rfl, Nat.le_of_ble_eq_true rfl⟩ (by decide +kernel) rfl [] [0, 1, 2, 3, 4, 5, 6, 7, 8, 9, 10, 11, 12, 13, 14, 15] [0, 1, 2, 3, 4, 5, 6, 7, 8, 9, 10, 11, 12, 13, 14, 15] rfl rfl (by decide) (by decide) (fun _ => rfl) rfl (Nat.le_of_ble_eq_true rfl) dX5_weightIfTaken_8 (fun _ => ?_)
  refine V_st (st' := [.int (nI (tn (bcF (nI o0))))]) (by rw [← hq3]) ?_
  refine V_iload 0 dX5_weightIfTaken_11 rfl ?_
  refine V_isub dX5_weightIfTaken_13 ?_
  refine V_st (st' := [.int (nI (tn (bcF (nI o0)) - tn (bcF (nI h0))))]) (by rw [pk_sub hle]) ?_
  refine V_istore (lv' := [(6, .int (nI (tn (bcF (nI o0)) - tn (bcF (nI h0))))), (5, .int (nI (tn (bcF (nI h0))))), (0, .ref nx), (1, .int (nI a0)), (2, .int x0), (3, .int (nI h0)), (4, .int (nI o0))]) dX5_weightIfTaken_14 (by decide) rfl ?_
  refine V_iload_n 4 dX5_weightIfTaken_16 rfl rfl ?_
  refine V_iload 1 dX5_weightIfTaken_17 rfl ?_
  refine V_callSI (wr := [(nx, .inr (5, [.ref tx, .ref px, .ref ox, .ref lx, .ref rx, .ref ex, .ref kx, .ref sx])), (px, .inr (1, [.ref px1, .ref px2, .ref px3, .ref px4, .int (nI (pN P)), .int (pse P), .int (pme P), .int (pru P)])), (px1, .inl (G.2.1, 8, .inl (pki P))), (px2, .inl (G.2.1, 8, .inl (pci P))), (px3, .inl (G.2.1, 8, .inl (ppa P))), (px4, .inl (G.2.1, 8, .inl (pwo P))), (lx, .inr (0, [.ref lx1, .ref lx2, .ref lx3, .ref lx4, .int (lcg L), .int (lco L), .int (lmi L), .int (lse L), .int (lru L)])), (lx1, .inl (G.2.1, 8, .inl (lst L))), (lx2, .inl (G.2.1, 8, .inl (lwa L))), (lx3, .inl (G.2.1, 8, .inl (lca L))), (lx4, .inl (G.2.1, 8, .inl (lti L))), (rx, .inr (0, [.ref rx1, .ref rx2, .ref rx3, .ref rx4, .int (lcg X), .int (lco X), .int (lmi X), .int (lse X), .int (lru X)])), (rx1, .inl (G.2.1, 8, .inl (lst X))), (rx2, .inl (G.2.1, 8, .inl (lwa X))), (rx3, .inl (G.2.1, 8, .inl (lca X))), (rx4, .inl (G.2.1, 8, .inl (lti X)))]) (ws' := fun _ => [(nx, .inr (5, [.ref tx, .ref px, .ref ox, .ref lx, .ref rx, .ref ex, .ref kx, .ref sx])), (px, .inr (1, [.ref px1, .ref px2, .ref px3, .ref px4, .int (nI (pN P)), .int (pse P), .int (pme P), .int (pru P)])), (px1, .inl (G.2.1, 8, .inl (pki P))), (px2, .inl (G.2.1, 8, .inl (pci P))), (px3, .inl (G.2.1, 8, .inl (ppa P))), (px4, .inl (G.2.1, 8, .inl (pwo P))), (lx, .inr (0, [.ref lx1, .ref lx2, .ref lx3, .ref lx4, .int (lcg L), .int (lco L), .int (lmi L), .int (lse L), .int (lru L)])), (lx1, .inl (G.2.1, 8, .inl (lst L))), (lx2, .inl (G.2.1, 8, .inl (lwa L))), (lx3, .inl (G.2.1, 8, .inl (lca L))), (lx4, .inl (G.2.1, 8, .inl (lti L))), (rx, .inr (0, [.ref rx1, .ref rx2, .ref rx3, .ref rx4, .int (lcg X), .int (lco X), .int (lmi X), .int (lse X), .int (lru X)])), (rx1, .inl (G.2.1, 8, .inl (lst X))), (rx2, .inl (G.2.1, 8, .inl (lwa X))), (rx3, .inl (G.2.1, 8, .inl (lca X))), (rx4, .inl (G.2.1, 8, .inl (lti X)))]) [.int x0, .int (nI (tn (bcF (nI h0))))] [] 2 (k_X5_power l G x0 (tn (bcF (nI h0))) (by first | assumption | omega | (intro hq; omega))) gX5_weightIfTaken_X5_power rfl ⟨rfl, rfl, Nat.le_of_ble_eq_true rfl, Nat.le_of_ble_eq_true rfl⟩ (by decide +kernel) rfl [] [0, 1, 2, 3, 4, 5, 6, 7, 8, 9, 10, 11, 12, 13, 14, 15] [0, 1, 2, 3, 4, 5, 6, 7, 8, 9, 10, 11, 12, 13, 14, 15] rfl rfl (by decide) (by decide) (fun _ => rfl) rfl (Nat.le_of_ble_eq_true rfl) dX5_weightIfTaken_19 (fun _ => ?_)
  refine V_bipush (v := 10) dX5_weightIfTaken_22 (by decide) ?_
  refine V_iload_n 4 dX5_weightIfTaken_24 rfl rfl ?_
  refine V_isub dX5_weightIfTaken_25 ?_
  refine V_iload 0 dX5_weightIfTaken_26 rfl ?_
  refine V_callSI (wr := [(nx, .inr (5, [.ref tx, .ref px, .ref ox, .ref lx, .ref rx, .ref ex, .ref kx, .ref sx])), (px, .inr (1, [.ref px1, .ref px2, .ref px3, .ref px4, .int (nI (pN P)), .int (pse P), .int (pme P), .int (pru P)])), (px1, .inl (G.2.1, 8, .inl (pki P))), (px2, .inl (G.2.1, 8, .inl (pci P))), (px3, .inl (G.2.1, 8, .inl (ppa P))), (px4, .inl (G.2.1, 8, .inl (pwo P))), (lx, .inr (0, [.ref lx1, .ref lx2, .ref lx3, .ref lx4, .int (lcg L), .int (lco L), .int (lmi L), .int (lse L), .int (lru L)])), (lx1, .inl (G.2.1, 8, .inl (lst L))), (lx2, .inl (G.2.1, 8, .inl (lwa L))), (lx3, .inl (G.2.1, 8, .inl (lca L))), (lx4, .inl (G.2.1, 8, .inl (lti L))), (rx, .inr (0, [.ref rx1, .ref rx2, .ref rx3, .ref rx4, .int (lcg X), .int (lco X), .int (lmi X), .int (lse X), .int (lru X)])), (rx1, .inl (G.2.1, 8, .inl (lst X))), (rx2, .inl (G.2.1, 8, .inl (lwa X))), (rx3, .inl (G.2.1, 8, .inl (lca X))), (rx4, .inl (G.2.1, 8, .inl (lti X)))]) (ws' := fun _ => [(nx, .inr (5, [.ref tx, .ref px, .ref ox, .ref lx, .ref rx, .ref ex, .ref kx, .ref sx])), (px, .inr (1, [.ref px1, .ref px2, .ref px3, .ref px4, .int (nI (pN P)), .int (pse P), .int (pme P), .int (pru P)])), (px1, .inl (G.2.1, 8, .inl (pki P))), (px2, .inl (G.2.1, 8, .inl (pci P))), (px3, .inl (G.2.1, 8, .inl (ppa P))), (px4, .inl (G.2.1, 8, .inl (pwo P))), (lx, .inr (0, [.ref lx1, .ref lx2, .ref lx3, .ref lx4, .int (lcg L), .int (lco L), .int (lmi L), .int (lse L), .int (lru L)])), (lx1, .inl (G.2.1, 8, .inl (lst L))), (lx2, .inl (G.2.1, 8, .inl (lwa L))), (lx3, .inl (G.2.1, 8, .inl (lca L))), (lx4, .inl (G.2.1, 8, .inl (lti L))), (rx, .inr (0, [.ref rx1, .ref rx2, .ref rx3, .ref rx4, .int (lcg X), .int (lco X), .int (lmi X), .int (lse X), .int (lru X)])), (rx1, .inl (G.2.1, 8, .inl (lst X))), (rx2, .inl (G.2.1, 8, .inl (lwa X))), (rx3, .inl (G.2.1, 8, .inl (lca X))), (rx4, .inl (G.2.1, 8, .inl (lti X)))]) [.int (10 - x0), .int (nI (tn (bcF (nI o0)) - tn (bcF (nI h0))))] [.int (pwF x0 (tn (bcF (nI h0))))] 2 (k_X5_power l G (10 - x0) (tn (bcF (nI o0)) - tn (bcF (nI h0))) (by first | assumption | omega | (intro hq; omega))) gX5_weightIfTaken_X5_power rfl ⟨rfl, rfl, Nat.le_of_ble_eq_true rfl, Nat.le_of_ble_eq_true rfl⟩ (by decide +kernel) rfl [] [0, 1, 2, 3, 4, 5, 6, 7, 8, 9, 10, 11, 12, 13, 14, 15] [0, 1, 2, 3, 4, 5, 6, 7, 8, 9, 10, 11, 12, 13, 14, 15] rfl rfl (by decide) (by decide) (fun _ => rfl) rfl (Nat.le_of_ble_eq_true rfl) dX5_weightIfTaken_28 (fun _ => ?_)
  refine V_imul dX5_weightIfTaken_31 ?_
  refine V_st (st' := [.int (wgF x0 (nI h0) (nI o0))]) (by unfold wgF; rw [show bcF (nI o0) - bcF (nI h0) = nI (tn (bcF (nI o0)) - tn (bcF (nI h0))) from by rw [hq1, hq3, pk_sub hle]; simp only [tn_nI (show tn (bcF (nI h0)) < 2 ^ 31 by omega), tn_nI (show tn (bcF (nI o0)) < 2 ^ 31 by omega)], tn_nI (by omega)]) ?_
  refine V_istore (lv' := [(7, .int (wgF x0 (nI h0) (nI o0))), (6, .int (nI (tn (bcF (nI o0)) - tn (bcF (nI h0))))), (5, .int (nI (tn (bcF (nI h0))))), (0, .ref nx), (1, .int (nI a0)), (2, .int x0), (3, .int (nI h0)), (4, .int (nI o0))]) dX5_weightIfTaken_32 (by decide) rfl ?_
  refine V_iload 0 dX5_weightIfTaken_34 rfl ?_
  refine V_if_ne 41 dX5_weightIfTaken_36 (by decide) (fun c_1 => ?_) (fun c_1 => ?_)
  · refine V_aload_n 3 dX5_weightIfTaken_41 rfl rfl ?_
    refine V_get (ci := 5) (C := RX5) (T := TX5) (N := 8) i_X5 0 rfl rfl 4 (by decide) w_1 rfl rfl dX5_weightIfTaken_42 ?_
    refine V_aload_n 3 dX5_weightIfTaken_45 rfl rfl ?_
    refine V_get (ci := 5) (C := RX5) (T := TX5) (N := 8) i_X5 0 rfl rfl 3 (by decide) w_2 rfl rfl dX5_weightIfTaken_46 ?_
    refine V_callVV (wr := [(nx, .inr (5, [.ref tx, .ref px, .ref ox, .ref lx, .ref rx, .ref ex, .ref kx, .ref sx])), (px, .inr (1, [.ref px1, .ref px2, .ref px3, .ref px4, .int (nI (pN P)), .int (pse P), .int (pme P), .int (pru P)])), (px1, .inl (G.2.1, 8, .inl (pki P))), (px2, .inl (G.2.1, 8, .inl (pci P))), (px3, .inl (G.2.1, 8, .inl (ppa P))), (px4, .inl (G.2.1, 8, .inl (pwo P)))]) (ws' := fun _ => [(nx, .inr (5, [.ref tx, .ref px, .ref ox, .ref lx, .ref rx, .ref ex, .ref kx, .ref sx])), (px, .inr (1, [.ref px1, .ref px2, .ref px3, .ref px4, .int (nI (pN P)), .int (pse P), .int (pme P), .int (pru P)])), (px1, .inl (G.2.1, 8, .inl (pki P))), (px2, .inl (G.2.1, 8, .inl (pci P))), (px3, .inl (G.2.1, 8, .inl (ppa P))), (px4, .inl (G.2.1, 8, .inl (pwo P))), (lx, .inr (0, [.ref lx1, .ref lx2, .ref lx3, .ref lx4, .int (lcg L), .int (lco L), .int (lmi L), .int (lse L), .int (lru L)])), (lx1, .inl (G.2.1, 8, .inl (lst L))), (lx2, .inl (G.2.1, 8, .inl (lwa L))), (lx3, .inl (G.2.1, 8, .inl (lca L))), (lx4, .inl (G.2.1, 8, .inl (lti L))), (rx, .inr (0, [.ref rx1, .ref rx2, .ref rx3, .ref rx4, .int (lcg L), .int (lco L), .int (lmi L), .int (lse L), .int (lru L)])), (rx1, .inl (G.2.1, 8, .inl (lst L))), (rx2, .inl (G.2.1, 8, .inl (lwa L))), (rx3, .inl (G.2.1, 8, .inl (lca L))), (rx4, .inl (G.2.1, 8, .inl (lti L)))]) [.ref lx] [] 1 (k_X0_copyFrom l G rx rx1 rx2 rx3 rx4 X lx lx1 lx2 lx3 lx4 L) 0 0 rfl rfl gX5_weightIfTaken_X0_copyFrom rfl ⟨rfl, rfl, Nat.le_of_ble_eq_true rfl, Nat.le_of_ble_eq_true rfl⟩ (by decide +kernel) rfl [11, 12, 13, 14, 15, 6, 7, 8, 9, 10] [0, 1, 2, 3, 4, 5] [0, 1, 2, 3, 4, 5, 11, 12, 13, 14, 15, 6, 7, 8, 9, 10] rfl rfl (by decide) (by decide) (fun _ => rfl) rfl (Nat.le_of_ble_eq_true rfl) dX5_weightIfTaken_49 (fun _ => ?_)
    refine V_iconst (v := 0) dX5_weightIfTaken_52 (by decide) ?_
    refine V_istore (lv' := [(8, .int 0), (7, .int (wgF x0 (nI h0) (nI o0))), (6, .int (nI (tn (bcF (nI o0)) - tn (bcF (nI h0))))), (5, .int (nI (tn (bcF (nI h0))))), (0, .ref nx), (1, .int (nI a0)), (2, .int x0), (3, .int (nI h0)), (4, .int (nI o0))]) dX5_weightIfTaken_53 (by decide) rfl ?_
    refine V_lv (lv' := [(0, .ref nx), (1, .int (nI a0)), (2, .int x0), (3, .int (nI h0)), (4, .int (nI o0)), (7, .int (wgF x0 (nI h0) (nI o0))), (8, .int 0)]) [4, 5, 6, 7, 8, 1, 0] rfl ?_
    refine V_eq (ws' := [(nx, .inr (5, [.ref tx, .ref px, .ref ox, .ref lx, .ref rx, .ref ex, .ref kx, .ref sx])), (px, .inr (1, [.ref px1, .ref px2, .ref px3, .ref px4, .int (nI (pN P)), .int (pse P), .int (pme P), .int (pru P)])), (px1, .inl (G.2.1, 8, .inl (pki P))), (px2, .inl (G.2.1, 8, .inl (pci P))), (px3, .inl (G.2.1, 8, .inl (ppa P))), (px4, .inl (G.2.1, 8, .inl (pwo P))), (lx, .inr (0, [.ref lx1, .ref lx2, .ref lx3, .ref lx4, .int (lcg L), .int (lco L), .int (lmi L), .int (lse L), .int (lru L)])), (lx1, .inl (G.2.1, 8, .inl (lst L))), (lx2, .inl (G.2.1, 8, .inl (lwa L))), (lx3, .inl (G.2.1, 8, .inl (lca L))), (lx4, .inl (G.2.1, 8, .inl (lti L))), (rx, .inr (0, [.ref rx1, .ref rx2, .ref rx3, .ref rx4, .int (lcg (it (hgB (nI h0)) L 0)), .int (lco (it (hgB (nI h0)) L 0)), .int (lmi (it (hgB (nI h0)) L 0)), .int (lse (it (hgB (nI h0)) L 0)), .int (lru (it (hgB (nI h0)) L 0))])), (rx1, .inl (G.2.1, 8, .inl (lst (it (hgB (nI h0)) L 0)))), (rx2, .inl (G.2.1, 8, .inl (lwa (it (hgB (nI h0)) L 0)))), (rx3, .inl (G.2.1, 8, .inl (lca (it (hgB (nI h0)) L 0)))), (rx4, .inl (G.2.1, 8, .inl (lti (it (hgB (nI h0)) L 0))))]) (lv' := [(0, .ref nx), (1, .int (nI a0)), (2, .int x0), (3, .int (nI h0)), (4, .int (nI o0)), (7, .int (wgF x0 (nI h0) (nI o0))), (8, .int (nI 0))]) (rfl) (rfl) ?_
    refine V_for (N := (pN P)) (fun i => [(nx, .inr (5, [.ref tx, .ref px, .ref ox, .ref lx, .ref rx, .ref ex, .ref kx, .ref sx])), (px, .inr (1, [.ref px1, .ref px2, .ref px3, .ref px4, .int (nI (pN P)), .int (pse P), .int (pme P), .int (pru P)])), (px1, .inl (G.2.1, 8, .inl (pki P))), (px2, .inl (G.2.1, 8, .inl (pci P))), (px3, .inl (G.2.1, 8, .inl (ppa P))), (px4, .inl (G.2.1, 8, .inl (pwo P))), (lx, .inr (0, [.ref lx1, .ref lx2, .ref lx3, .ref lx4, .int (lcg L), .int (lco L), .int (lmi L), .int (lse L), .int (lru L)])), (lx1, .inl (G.2.1, 8, .inl (lst L))), (lx2, .inl (G.2.1, 8, .inl (lwa L))), (lx3, .inl (G.2.1, 8, .inl (lca L))), (lx4, .inl (G.2.1, 8, .inl (lti L))), (rx, .inr (0, [.ref rx1, .ref rx2, .ref rx3, .ref rx4, .int (lcg (it (hgB (nI h0)) L i)), .int (lco (it (hgB (nI h0)) L i)), .int (lmi (it (hgB (nI h0)) L i)), .int (lse (it (hgB (nI h0)) L i)), .int (lru (it (hgB (nI h0)) L i))])), (rx1, .inl (G.2.1, 8, .inl (lst (it (hgB (nI h0)) L i)))), (rx2, .inl (G.2.1, 8, .inl (lwa (it (hgB (nI h0)) L i)))), (rx3, .inl (G.2.1, 8, .inl (lca (it (hgB (nI h0)) L i)))), (rx4, .inl (G.2.1, 8, .inl (lti (it (hgB (nI h0)) L i))))]) (fun i => [(0, .ref nx), (1, .int (nI a0)), (2, .int x0), (3, .int (nI h0)), (4, .int (nI o0)), (7, .int (wgF x0 (nI h0) (nI o0))), (8, .int (nI i))]) (fun i hi_55 ih_55 => ?_) ?_ _ 0 (Nat.zero_add _)
    · skip
      refine V_iload 6 dX5_weightIfTaken_55 rfl ?_
      refine V_aload_n 0 dX5_weightIfTaken_57 rfl rfl ?_
      refine V_get (ci := 5) (C := RX5) (T := TX5) (N := 8) i_X5 0 rfl rfl 1 (by decide) w_3 rfl rfl dX5_weightIfTaken_58 ?_
      refine V_get (ci := 1) (C := RX1) (T := TX1) (N := 8) i_X1 1 rfl rfl 4 (by decide) w_4 rfl rfl dX5_weightIfTaken_61 ?_
      refine V_icmp_ge 92 dX5_weightIfTaken_64 (by decide) (fun c_2 => absurd c_2 (nI_ge hi_55 (by omega))) (fun c_2 => ?_)
      refine V_iload_n 3 dX5_weightIfTaken_67 rfl rfl ?_
      refine V_iload 6 dX5_weightIfTaken_68 rfl ?_
      refine V_ishr dX5_weightIfTaken_70 ?_
      refine V_iconst (v := 1) dX5_weightIfTaken_71 (by decide) ?_
      refine V_iand dX5_weightIfTaken_72 ?_
      refine V_iconst (v := 1) dX5_weightIfTaken_73 (by decide) ?_
      refine V_icmp_ne 86 dX5_weightIfTaken_74 (by decide) (fun c_3 => ?_) (fun c_3 => ?_)
      · refine V_iinc 6 (v := (nI (i + 1))) (lv' := [(8, .int (nI (i + 1))), (0, .ref nx), (1, .int (nI a0)), (2, .int x0), (3, .int (nI h0)), (4, .int (nI o0)), (7, .int (wgF x0 (nI h0) (nI o0)))]) dX5_weightIfTaken_86 rfl (iinc_nI _) (by decide) rfl ?_
        refine V_goto 55 dX5_weightIfTaken_89 (by decide) ?_
        refine V_lv (lv' := [(0, .ref nx), (1, .int (nI a0)), (2, .int x0), (3, .int (nI h0)), (4, .int (nI o0)), (7, .int (wgF x0 (nI h0) (nI o0))), (8, .int (nI (i + 1)))]) [1, 2, 3, 4, 5, 6, 0] rfl ?_
        have hF_4 : (it (hgB (nI h0)) L (i + 1)) = (it (hgB (nI h0)) L i) := by simp [it, hgB, bitB, c_1, c_2, c_3]
        exact V_eq (by first | rfl | (rw [hF_4]; done) | (rw [hF_4]; rfl) | (simp only [hF_4]; done)) (by first | rfl | (rw [hF_4]; done) | (rw [hF_4]; rfl) | (simp only [hF_4]; done)) ih_55
      · refine V_aload_n 0 dX5_weightIfTaken_77 rfl rfl ?_
        refine V_get (ci := 5) (C := RX5) (T := TX5) (N := 8) i_X5 0 rfl rfl 4 (by decide) w_1 rfl rfl dX5_weightIfTaken_78 ?_
        refine V_iload 6 dX5_weightIfTaken_81 rfl ?_
        refine V_callVV (wr := [(nx, .inr (5, [.ref tx, .ref px, .ref ox, .ref lx, .ref rx, .ref ex, .ref kx, .ref sx])), (px, .inr (1, [.ref px1, .ref px2, .ref px3, .ref px4, .int (nI (pN P)), .int (pse P), .int (pme P), .int (pru P)])), (px1, .inl (G.2.1, 8, .inl (pki P))), (px2, .inl (G.2.1, 8, .inl (pci P))), (px3, .inl (G.2.1, 8, .inl (ppa P))), (px4, .inl (G.2.1, 8, .inl (pwo P))), (lx, .inr (0, [.ref lx1, .ref lx2, .ref lx3, .ref lx4, .int (lcg L), .int (lco L), .int (lmi L), .int (lse L), .int (lru L)])), (lx1, .inl (G.2.1, 8, .inl (lst L))), (lx2, .inl (G.2.1, 8, .inl (lwa L))), (lx3, .inl (G.2.1, 8, .inl (lca L))), (lx4, .inl (G.2.1, 8, .inl (lti L)))]) (ws' := fun _ => [(nx, .inr (5, [.ref tx, .ref px, .ref ox, .ref lx, .ref rx, .ref ex, .ref kx, .ref sx])), (px, .inr (1, [.ref px1, .ref px2, .ref px3, .ref px4, .int (nI (pN P)), .int (pse P), .int (pme P), .int (pru P)])), (px1, .inl (G.2.1, 8, .inl (pki P))), (px2, .inl (G.2.1, 8, .inl (pci P))), (px3, .inl (G.2.1, 8, .inl (ppa P))), (px4, .inl (G.2.1, 8, .inl (pwo P))), (lx, .inr (0, [.ref lx1, .ref lx2, .ref lx3, .ref lx4, .int (lcg L), .int (lco L), .int (lmi L), .int (lse L), .int (lru L)])), (lx1, .inl (G.2.1, 8, .inl (lst L))), (lx2, .inl (G.2.1, 8, .inl (lwa L))), (lx3, .inl (G.2.1, 8, .inl (lca L))), (lx4, .inl (G.2.1, 8, .inl (lti L))), (rx, .inr (0, [.ref rx1, .ref rx2, .ref rx3, .ref rx4, .int (lcg (hangF (it (hgB (nI h0)) L i) i)), .int (lco (hangF (it (hgB (nI h0)) L i) i)), .int (lmi (hangF (it (hgB (nI h0)) L i) i)), .int (lse (hangF (it (hgB (nI h0)) L i) i)), .int (lru (hangF (it (hgB (nI h0)) L i) i))])), (rx1, .inl (G.2.1, 8, .inl (lst (hangF (it (hgB (nI h0)) L i) i)))), (rx2, .inl (G.2.1, 8, .inl (lwa (hangF (it (hgB (nI h0)) L i) i)))), (rx3, .inl (G.2.1, 8, .inl (lca (hangF (it (hgB (nI h0)) L i) i)))), (rx4, .inl (G.2.1, 8, .inl (lti (hangF (it (hgB (nI h0)) L i) i))))]) [.int (nI i)] [] 1 (k_X0_hangUp l G rx rx1 rx2 rx3 rx4 (it (hgB (nI h0)) L i) i (by first | assumption | omega | (intro hq; omega))) 0 0 rfl rfl gX5_weightIfTaken_X0_hangUp rfl ⟨rfl, rfl, Nat.le_of_ble_eq_true rfl, Nat.le_of_ble_eq_true rfl⟩ (by decide +kernel) rfl [11, 12, 13, 14, 15] [0, 1, 2, 3, 4, 5, 6, 7, 8, 9, 10] [0, 1, 2, 3, 4, 5, 6, 7, 8, 9, 10, 11, 12, 13, 14, 15] rfl rfl (by decide) (by decide) (fun _ => rfl) rfl (Nat.le_of_ble_eq_true rfl) dX5_weightIfTaken_83 (fun _ => ?_)
        refine V_iinc 6 (v := (nI (i + 1))) (lv' := [(8, .int (nI (i + 1))), (0, .ref nx), (1, .int (nI a0)), (2, .int x0), (3, .int (nI h0)), (4, .int (nI o0)), (7, .int (wgF x0 (nI h0) (nI o0)))]) dX5_weightIfTaken_86 rfl (iinc_nI _) (by decide) rfl ?_
        refine V_goto 55 dX5_weightIfTaken_89 (by decide) ?_
        refine V_lv (lv' := [(0, .ref nx), (1, .int (nI a0)), (2, .int x0), (3, .int (nI h0)), (4, .int (nI o0)), (7, .int (wgF x0 (nI h0) (nI o0))), (8, .int (nI (i + 1)))]) [1, 2, 3, 4, 5, 6, 0] rfl ?_
        have hF_5 : (it (hgB (nI h0)) L (i + 1)) = (hangF (it (hgB (nI h0)) L i) i) := by simp [it, hgB, bitB, c_1, c_2, c_3]
        exact V_eq (by first | rfl | (rw [hF_5]; done) | (rw [hF_5]; rfl) | (simp only [hF_5]; done)) (by first | rfl | (rw [hF_5]; done) | (rw [hF_5]; rfl) | (simp only [hF_5]; done)) ih_55
    · skip
      refine V_iload 6 dX5_weightIfTaken_55 rfl ?_
      refine V_aload_n 0 dX5_weightIfTaken_57 rfl rfl ?_
      refine V_get (ci := 5) (C := RX5) (T := TX5) (N := 8) i_X5 0 rfl rfl 1 (by decide) w_3 rfl rfl dX5_weightIfTaken_58 ?_
      refine V_get (ci := 1) (C := RX1) (T := TX1) (N := 8) i_X1 1 rfl rfl 4 (by decide) w_4 rfl rfl dX5_weightIfTaken_61 ?_
      refine V_icmp_ge 92 dX5_weightIfTaken_64 (by decide) (fun c_6 => ?_) (fun c_6 => absurd (Int32.le_refl _) c_6)
      refine V_aload_n 0 dX5_weightIfTaken_92 rfl rfl ?_
      refine V_iload_n 1 dX5_weightIfTaken_93 rfl rfl ?_
      refine V_bipush (v := 60) dX5_weightIfTaken_94 (by decide) ?_
      refine V_callVI (wr := [(lx, .inr (0, [.ref lx1, .ref lx2, .ref lx3, .ref lx4, .int (lcg L), .int (lco L), .int (lmi L), .int (lse L), .int (lru L)])), (lx1, .inl (G.2.1, 8, .inl (lst L))), (lx2, .inl (G.2.1, 8, .inl (lwa L))), (lx3, .inl (G.2.1, 8, .inl (lca L))), (lx4, .inl (G.2.1, 8, .inl (lti L)))]) (ws' := fun u_7 => [(nx, .inr (5, [.ref tx, .ref px, .ref ox, .ref lx, .ref rx, .ref ex, .ref kx, .ref sx])), (px, .inr (1, [.ref px1, .ref px2, .ref px3, .ref px4, .int (nI (pN P)), .int (pse P), .int (pme P), .int (pru P)])), (px1, .inl (G.2.1, 8, .inl (pki P))), (px2, .inl (G.2.1, 8, .inl (pci P))), (px3, .inl (G.2.1, 8, .inl (ppa P))), (px4, .inl (G.2.1, 8, .inl (pwo P))), (lx, .inr (0, [.ref lx1, .ref lx2, .ref lx3, .ref lx4, .int (lcg L), .int (lco L), .int (lmi L), .int (lse L), .int (lru L)])), (lx1, .inl (G.2.1, 8, .inl (lst L))), (lx2, .inl (G.2.1, 8, .inl (lwa L))), (lx3, .inl (G.2.1, 8, .inl (lca L))), (lx4, .inl (G.2.1, 8, .inl (lti L))), (rx, .inr (0, [.ref rx1, .ref rx2, .ref rx3, .ref rx4, .int (lcg u_7), .int (lco u_7), .int (lmi u_7), .int (lse u_7), .int (lru u_7)])), (rx1, .inl (G.2.1, 8, .inl (lst u_7))), (rx2, .inl (G.2.1, 8, .inl (lwa u_7))), (rx3, .inl (G.2.1, 8, .inl (lca u_7))), (rx4, .inl (G.2.1, 8, .inl (lti u_7)))]) [.int (nI a0), .int 60] [] 2 (k_X5_minutesTillTaken l G nx tx px ox lx rx ex kx sx px1 px2 px3 px4 P rx1 rx2 rx3 rx4 (it (hgB (nI h0)) L (pN P)) a0 60 (by first | assumption | omega | (intro hq; omega)) (by first | assumption | omega | (intro hq; omega)) (by first | assumption | omega | (intro hq; omega))) 5 0 rfl rfl gX5_weightIfTaken_X5_minutesTillTaken rfl ⟨rfl, rfl, Nat.le_of_ble_eq_true rfl, Nat.le_of_ble_eq_true rfl⟩ (by decide +kernel) rfl [0, 1, 2, 3, 4, 5, 11, 12, 13, 14, 15] [6, 7, 8, 9, 10] [5, 6, 7, 8, 9, 10, 0, 1, 2, 3, 4, 11, 12, 13, 14, 15] rfl rfl (by decide) (by decide) (fun _ => rfl) rfl (Nat.le_of_ble_eq_true rfl) dX5_weightIfTaken_96 (fun u_7 => ?_)
      refine V_bipush (v := (-4)) dX5_weightIfTaken_99 (by decide) ?_
      refine V_icmp_ne 108 dX5_weightIfTaken_101 (by decide) (fun c_8 => ?_) (fun c_8 => ?_)
      · refine V_iload 5 dX5_weightIfTaken_108 rfl ?_
        have hz := c_1
        exact fin _ _ _ _ dX5_weightIfTaken_110 rfl (by unfold wiF; rw [if_neg (show ¬ (wgF x0 (nI h0) (nI o0)) = 0 from hz)]; (first | rw [if_pos c_8] | rw [if_neg c_8])) u_7 (rfl)
      · refine V_iconst (v := 0) dX5_weightIfTaken_104 (by decide) ?_
        refine V_goto 110 dX5_weightIfTaken_105 (by decide) ?_
        have hz := c_1
        exact fin _ _ _ _ dX5_weightIfTaken_110 rfl (by unfold wiF; rw [if_neg (show ¬ (wgF x0 (nI h0) (nI o0)) = 0 from hz)]; (first | rw [if_pos c_8] | rw [if_neg c_8])) u_7 (rfl)
  · refine V_iconst (v := 0) dX5_weightIfTaken_39 (by decide) ?_
    exact fin _ _ _ _ dX5_weightIfTaken_40 rfl (by unfold wiF; rw [if_pos (show (wgF x0 (nI h0) (nI o0)) = 0 from c_1)]) X (rfl)
