/-! The loop of the law. -/
theorem law_lt {i len : Nat} (hi : i ≤ 256) (hl : len ≤ 256) (h : ¬ nI len - 4 < nI i) : i + 4 ≤ len := by
  have e := pk_sub_toInt (a := len) (b := 4) (by omega) (by omega)
  have h1 : ¬ (nI len - nI 4 < nI i) := h
  rw [Int32.lt_iff_toInt_lt, e, nI_toInt (by omega)] at h1
  omega
theorem law_out {z : Int32} (h0 : ¬ z = 0) (h1 : ¬ z = 1) (h2 : ¬ z = 2) (h3 : ¬ z = 3) (h4 : ¬ z = 4) (h5 : ¬ z = 5) (h6 : ¬ z = 6) (h7 : ¬ z = 7) (h8 : ¬ z = 8) (h9 : ¬ z = 9) (h10 : ¬ z = 10) (h11 : ¬ z = 11) (h12 : ¬ z = 12) (h13 : ¬ z = 13) (h14 : ¬ z = 14) (h15 : ¬ z = 15) (h16 : ¬ z = 16) (h17 : ¬ z = 17) (h18 : ¬ z = 18) (h19 : ¬ z = 19) (h20 : ¬ z = 20) (h21 : ¬ z = 21) (h22 : ¬ z = 22) (h23 : ¬ z = 23) (h24 : ¬ z = 24) (h25 : ¬ z = 25) (h26 : ¬ z = 26) (h27 : ¬ z = 27) (h28 : ¬ z = 28) (h29 : ¬ z = 29) : z.toInt < 0 ∨ 29 < z.toInt := by
  have g0 := i32_ne h0
  have g1 := i32_ne h1
  have g2 := i32_ne h2
  have g3 := i32_ne h3
  have g4 := i32_ne h4
  have g5 := i32_ne h5
  have g6 := i32_ne h6
  have g7 := i32_ne h7
  have g8 := i32_ne h8
  have g9 := i32_ne h9
  have g10 := i32_ne h10
  have g11 := i32_ne h11
  have g12 := i32_ne h12
  have g13 := i32_ne h13
  have g14 := i32_ne h14
  have g15 := i32_ne h15
  have g16 := i32_ne h16
  have g17 := i32_ne h17
  have g18 := i32_ne h18
  have g19 := i32_ne h19
  have g20 := i32_ne h20
  have g21 := i32_ne h21
  have g22 := i32_ne h22
  have g23 := i32_ne h23
  have g24 := i32_ne h24
  have g25 := i32_ne h25
  have g26 := i32_ne h26
  have g27 := i32_ne h27
  have g28 := i32_ne h28
  have g29 := i32_ne h29
  simp at g0 g1 g2 g3 g4 g5 g6 g7 g8 g9 g10 g11 g12 g13 g14 g15 g16 g17 g18 g19 g20 g21 g22 g23 g24 g25 g26 g27 g28 g29
  omega
set_option maxHeartbeats 40000000 in
set_option maxRecDepth 100000 in
theorem law_head {p : Program} {l : Launch} {e : Env} {s : State} {m : MethodId} {args : Array Value} {below : List Frame} {meth : Method} {c : Code} {k n : Nat} {Q : State → Prop} {G : GG} {A : Nat → Prop} {H0 : Heap} (nx mx : Nat) (ad ye yk : Nat → Nat → Nat) (ua : Nat → Nat) (b len : Nat) (xs : Nat → Int32) (hScr : va_X b len xs s H0) (hbl : b < H0.size) (hbA : ¬ A b) (hlen : len ≤ 256) (fin : ∀ (wf : va_W) (lf : List (Nat × Value)), V p l e room_1 s m args below meth c k n Q cL_law RL wsL_law 4 G A H0 wf lf 874 []) (i : Nat) (hi0 : i ≤ 256) (ihh : i + 4 ≤ len → ∀ (T : TxS) (g : (Nat → Int32)) (P : PlS) (O : PlS) (L : LnS) (Z : LnS) (es : (Nat → LnS)) (eo : Nat) (ez : Nat) (ks : (Nat → LnS)) (ko : Nat) (kz : Nat) (W : SiS) (M : MLn) (N : MPl) (S : SiS) (Y : TxS) (R : PlS) (ra : Nat) (rn : Int32) (bt : (Nat → Int32)) (ah : (Nat → Int32)) (um : Nat) (az : (Nat → Int32)) (kp : (Nat → Int32)) (km : Nat), LRel P L T es eo ez ks ko kz W N M S Y ah um kp km → V p l e room_1 s m args below meth c k n Q cL_law RL wsL_law 4 G A H0 (WRel G nx mx ad ye yk ua T g P O L Z es eo ez ks ko kz W M N S Y R ra rn bt ah um az kp km) [(0, .ref b), (1, .ref nx), (2, .ref mx), (3, .int (nI (i + 4)))] 18 []) : ∀ (T : TxS) (g : (Nat → Int32)) (P : PlS) (O : PlS) (L : LnS) (Z : LnS) (es : (Nat → LnS)) (eo : Nat) (ez : Nat) (ks : (Nat → LnS)) (ko : Nat) (kz : Nat) (W : SiS) (M : MLn) (N : MPl) (S : SiS) (Y : TxS) (R : PlS) (ra : Nat) (rn : Int32) (bt : (Nat → Int32)) (ah : (Nat → Int32)) (um : Nat) (az : (Nat → Int32)) (kp : (Nat → Int32)) (km : Nat), LRel P L T es eo ez ks ko kz W N M S Y ah um kp km → V p l e room_1 s m args below meth c k n Q cL_law RL wsL_law 4 G A H0 (WRel G nx mx ad ye yk ua T g P O L Z es eo ez ks ko kz W M N S Y R ra rn bt ah um az kp km) [(0, .ref b), (1, .ref nx), (2, .ref mx), (3, .int (nI i))] 18 [] := by
  intro T g P O L Z es eo ez ks ko kz W M N S Y R ra rn bt ah um az kp km hI
  have hln : len < 2 ^ 31 := by omega
  generalize hw : WRel G nx mx ad ye yk ua T g P O L Z es eo ez ks ko kz W M N S Y R ra rn bt ah um az kp km = wl
  refine V_iload_n 3 dL_law_18 rfl rfl ?_
  refine V_aload_n 0 dL_law_19 rfl rfl ?_
  refine V_slen hScr hbl hbA dL_law_20 ?_
  refine V_iconst (v := 4) dL_law_21 (by decide) ?_
  refine V_isub dL_law_22 ?_
  refine V_icmp_gt 874 dL_law_23 (by decide) (fun _ => fin _ _) (fun c_1 => ?_)
  have hi := law_lt hi0 hlen c_1
  have ih := ihh hi
  refine V_aload_n 0 dL_law_26 rfl rfl ?_
  refine V_iload_n 3 dL_law_27 rfl rfl ?_
  refine V_sld (j := i) hScr hbl hbA rfl (by omega) hln dL_law_28 ?_
  refine V_bipush (v := 31) dL_law_29 (by decide) ?_
  refine V_iand dL_law_31 ?_
  generalize xs i &&& 31 = z
  by_cases c0 : z = 0
  · subst hw
    refine V_st (st' := [.int 0]) (by rw [c0]) ?_
    refine V_tableIn (off := 136) 168 dL_law_32 (by decide) (by decide) rfl (by decide) ?_
    exact lc_write nx mx ad ye yk ua b len xs hScr hbl hbA hln i hi T g P O L Z es eo ez ks ko kz W M N S Y R ra rn bt ah um az kp km hI ih
  by_cases c1 : z = 1
  · subst hw
    refine V_st (st' := [.int 1]) (by rw [c1]) ?_
    refine V_tableIn (off := 159) 191 dL_law_32 (by decide) (by decide) rfl (by decide) ?_
    exact lc_wipe nx mx ad ye yk ua b len xs hScr hbl hbA hln i hi T g P O L Z es eo ez ks ko kz W M N S Y R ra rn bt ah um az kp km hI ih
  by_cases c2 : z = 2
  · subst hw
    refine V_st (st' := [.int 2]) (by rw [c2]) ?_
    refine V_tableIn (off := 172) 204 dL_law_32 (by decide) (by decide) rfl (by decide) ?_
    exact lc_fault nx mx ad ye yk ua b len xs hScr hbl hbA hln i hi T g P O L Z es eo ez ks ko kz W M N S Y R ra rn bt ah um az kp km hI ih
  by_cases c3 : z = 3
  · subst hw
    refine V_st (st' := [.int 3]) (by rw [c3]) ?_
    refine V_tableIn (off := 185) 217 dL_law_32 (by decide) (by decide) rfl (by decide) ?_
    exact lc_lay nx mx ad ye yk ua b len xs hScr hbl hbA hln i hi T g P O L Z es eo ez ks ko kz W M N S Y R ra rn bt ah um az kp km hI ih
  by_cases c4 : z = 4
  · subst hw
    refine V_st (st' := [.int 4]) (by rw [c4]) ?_
    refine V_tableIn (off := 198) 230 dL_law_32 (by decide) (by decide) rfl (by decide) ?_
    exact lc_caller nx mx ad ye yk ua b len xs hScr hbl hbA hln i hi T g P O L Z es eo ez ks ko kz W M N S Y R ra rn bt ah um az kp km hI ih
  by_cases c5 : z = 5
  · subst hw
    refine V_st (st' := [.int 5]) (by rw [c5]) ?_
    refine V_tableIn (off := 231) 263 dL_law_32 (by decide) (by decide) rfl (by decide) ?_
    exact lc_pass nx mx ad ye yk ua b len xs hScr hbl hbA hln i hi T g P O L Z es eo ez ks ko kz W M N S Y R ra rn bt ah um az kp km hI ih
  by_cases c6 : z = 6
  · subst hw
    refine V_st (st' := [.int 6]) (by rw [c6]) ?_
    refine V_tableIn (off := 254) 286 dL_law_32 (by decide) (by decide) rfl (by decide) ?_
    exact lc_hang nx mx ad ye yk ua b len xs hScr hbl hbA hln i hi T g P O L Z es eo ez ks ko kz W M N S Y R ra rn bt ah um az kp km hI ih
  by_cases c7 : z = 7
  · subst hw
    refine V_st (st' := [.int 7]) (by rw [c7]) ?_
    refine V_tableIn (off := 277) 309 dL_law_32 (by decide) (by decide) rfl (by decide) ?_
    exact lc_recall nx mx ad ye yk ua b len xs hScr hbl hbA hln i hi T g P O L Z es eo ez ks ko kz W M N S Y R ra rn bt ah um az kp km hI ih
  by_cases c8 : z = 8
  · subst hw
    refine V_st (st' := [.int 8]) (by rw [c8]) ?_
    refine V_tableIn (off := 300) 332 dL_law_32 (by decide) (by decide) rfl (by decide) ?_
    exact lc_staff nx mx ad ye yk ua b len xs hScr hbl hbA hln i hi T g P O L Z es eo ez ks ko kz W M N S Y R ra rn bt ah um az kp km hI ih
  by_cases c9 : z = 9
  · subst hw
    refine V_st (st' := [.int 9]) (by rw [c9]) ?_
    refine V_tableIn (off := 323) 355 dL_law_32 (by decide) (by decide) rfl (by decide) ?_
    exact lc_rule nx mx ad ye yk ua b len xs hScr hbl hbA hln i hi T g P O L Z es eo ez ks ko kz W M N S Y R ra rn bt ah um az kp km hI ih
  by_cases c10 : z = 10
  · subst hw
    refine V_st (st' := [.int 10]) (by rw [c10]) ?_
    refine V_tableIn (off := 346) 378 dL_law_32 (by decide) (by decide) rfl (by decide) ?_
    exact lc_undo nx mx ad ye yk ua b len xs hScr hbl hbA hln i hi T g P O L Z es eo ez ks ko kz W M N S Y R ra rn bt ah um az kp km hI ih
  by_cases c11 : z = 11
  · subst hw
    refine V_st (st' := [.int 11]) (by rw [c11]) ?_
    refine V_tableIn (off := 359) 391 dL_law_32 (by decide) (by decide) rfl (by decide) ?_
    exact lc_behind nx mx ad ye yk ua b len xs hScr hbl hbA hln i hi T g P O L Z es eo ez ks ko kz W M N S Y R ra rn bt ah um az kp km hI ih
  by_cases c12 : z = 12
  · subst hw
    refine V_st (st' := [.int 12]) (by rw [c12]) ?_
    refine V_tableIn (off := 392) 424 dL_law_32 (by decide) (by decide) rfl (by decide) ?_
    exact lc_taken nx mx ad ye yk ua b len xs hScr hbl hbA hln i hi T g P O L Z es eo ez ks ko kz W M N S Y R ra rn bt ah um az kp km hI ih
  by_cases c13 : z = 13
  · subst hw
    refine V_st (st' := [.int 13]) (by rw [c13]) ?_
    refine V_tableIn (off := 415) 447 dL_law_32 (by decide) (by decide) rfl (by decide) ?_
    exact lc_left nx mx ad ye yk ua b len xs hScr hbl hbA hln i hi T g P O L Z es eo ez ks ko kz W M N S Y R ra rn bt ah um az kp km hI ih
  by_cases c14 : z = 14
  · subst hw
    refine V_st (st' := [.int 14]) (by rw [c14]) ?_
    refine V_tableIn (off := 438) 470 dL_law_32 (by decide) (by decide) rfl (by decide) ?_
    exact lc_number nx mx ad ye yk ua b len xs hScr hbl hbA hln i hi T g P O L Z es eo ez ks ko kz W M N S Y R ra rn bt ah um az kp km hI ih
  by_cases c15 : z = 15
  · subst hw
    refine V_st (st' := [.int 15]) (by rw [c15]) ?_
    refine V_tableIn (off := 461) 493 dL_law_32 (by decide) (by decide) rfl (by decide) ?_
    exact lc_again nx mx ad ye yk ua b len xs hScr hbl hbA hln i hi T g P O L Z es eo ez ks ko kz W M N S Y R ra rn bt ah um az kp km hI ih
  by_cases c16 : z = 16
  · subst hw
    refine V_st (st' := [.int 16]) (by rw [c16]) ?_
    refine V_tableIn (off := 494) 526 dL_law_32 (by decide) (by decide) rfl (by decide) ?_
    exact lc_best nx mx ad ye yk ua b len xs hScr hbl hbA hln i hi T g P O L Z es eo ez ks ko kz W M N S Y R ra rn bt ah um az kp km hI ih
  by_cases c17 : z = 17
  · subst hw
    refine V_st (st' := [.int 17]) (by rw [c17]) ?_
    refine V_tableIn (off := 517) 549 dL_law_32 (by decide) (by decide) rfl (by decide) ?_
    exact lc_needed nx mx ad ye yk ua b len xs hScr hbl hbA hln i hi T g P O L Z es eo ez ks ko kz W M N S Y R ra rn bt ah um az kp km hI ih
  by_cases c18 : z = 18
  · subst hw
    refine V_st (st' := [.int 18]) (by rw [c18]) ?_
    refine V_tableIn (off := 530) 562 dL_law_32 (by decide) (by decide) rfl (by decide) ?_
    exact lc_lost nx mx ad ye yk ua b len xs hScr hbl hbA hln i hi T g P O L Z es eo ez ks ko kz W M N S Y R ra rn bt ah um az kp km hI ih
  by_cases c19 : z = 19
  · subst hw
    refine V_st (st' := [.int 19]) (by rw [c19]) ?_
    refine V_tableIn (off := 543) 575 dL_law_32 (by decide) (by decide) rfl (by decide) ?_
    exact lc_helps nx mx ad ye yk ua b len xs hScr hbl hbA hln i hi T g P O L Z es eo ez ks ko kz W M N S Y R ra rn bt ah um az kp km hI ih
  by_cases c20 : z = 20
  · subst hw
    refine V_st (st' := [.int 20]) (by rw [c20]) ?_
    refine V_tableIn (off := 566) 598 dL_law_32 (by decide) (by decide) rfl (by decide) ?_
    exact lc_longest nx mx ad ye yk ua b len xs hScr hbl hbA hln i hi T g P O L Z es eo ez ks ko kz W M N S Y R ra rn bt ah um az kp km hI ih
  by_cases c21 : z = 21
  · subst hw
    refine V_st (st' := [.int 21]) (by rw [c21]) ?_
    refine V_tableIn (off := 589) 621 dL_law_32 (by decide) (by decide) rfl (by decide) ?_
    exact lc_seen nx mx ad ye yk ua b len xs hScr hbl hbA hln i hi T g P O L Z es eo ez ks ko kz W M N S Y R ra rn bt ah um az kp km hI ih
  by_cases c22 : z = 22
  · subst hw
    refine V_st (st' := [.int 22]) (by rw [c22]) ?_
    refine V_tableIn (off := 632) 664 dL_law_32 (by decide) (by decide) rfl (by decide) ?_
    exact lc_forget nx mx ad ye yk ua b len xs hScr hbl hbA hln i hi T g P O L Z es eo ez ks ko kz W M N S Y R ra rn bt ah um az kp km hI ih
  by_cases c23 : z = 23
  · subst hw
    refine V_st (st' := [.int 23]) (by rw [c23]) ?_
    refine V_tableIn (off := 645) 677 dL_law_32 (by decide) (by decide) rfl (by decide) ?_
    exact lc_bears nx mx ad ye yk ua b len xs hScr hbl hbA hln i hi T g P O L Z es eo ez ks ko kz W M N S Y R ra rn bt ah um az kp km hI ih
  by_cases c24 : z = 24
  · subst hw
    refine V_st (st' := [.int 24]) (by rw [c24]) ?_
    refine V_tableIn (off := 678) 710 dL_law_32 (by decide) (by decide) rfl (by decide) ?_
    exact lc_kinds nx mx ad ye yk ua b len xs hScr hbl hbA hln i hi T g P O L Z es eo ez ks ko kz W M N S Y R ra rn bt ah um az kp km hI ih
  by_cases c25 : z = 25
  · subst hw
    refine V_st (st' := [.int 25]) (by rw [c25]) ?_
    refine V_tableIn (off := 701) 733 dL_law_32 (by decide) (by decide) rfl (by decide) ?_
    exact lc_likely nx mx ad ye yk ua b len xs hScr hbl hbA hln i hi T g P O L Z es eo ez ks ko kz W M N S Y R ra rn bt ah um az kp km hI ih
  by_cases c26 : z = 26
  · subst hw
    refine V_st (st' := [.int 26]) (by rw [c26]) ?_
    refine V_tableIn (off := 744) 776 dL_law_32 (by decide) (by decide) rfl (by decide) ?_
    exact lc_day nx mx ad ye yk ua b len xs hScr hbl hbA hln i hi T g P O L Z es eo ez ks ko kz W M N S Y R ra rn bt ah um az kp km hI ih
  by_cases c27 : z = 27
  · subst hw
    refine V_st (st' := [.int 27]) (by rw [c27]) ?_
    refine V_tableIn (off := 787) 819 dL_law_32 (by decide) (by decide) rfl (by decide) ?_
    exact lc_keep nx mx ad ye yk ua b len xs hScr hbl hbA hln i hi T g P O L Z es eo ez ks ko kz W M N S Y R ra rn bt ah um az kp km hI ih
  by_cases c28 : z = 28
  · subst hw
    refine V_st (st' := [.int 28]) (by rw [c28]) ?_
    refine V_tableIn (off := 800) 832 dL_law_32 (by decide) (by decide) rfl (by decide) ?_
    exact lc_back nx mx ad ye yk ua b len xs hScr hbl hbA hln i hi T g P O L Z es eo ez ks ko kz W M N S Y R ra rn bt ah um az kp km hI ih
  by_cases c29 : z = 29
  · subst hw
    refine V_st (st' := [.int 29]) (by rw [c29]) ?_
    refine V_tableIn (off := 813) 845 dL_law_32 (by decide) (by decide) rfl (by decide) ?_
    exact lc_count nx mx ad ye yk ua b len xs hScr hbl hbA hln i hi T g P O L Z es eo ez ks ko kz W M N S Y R ra rn bt ah um az kp km hI ih
  subst hw
  refine V_tableOut 868 dL_law_32 (law_out c0 c1 c2 c3 c4 c5 c6 c7 c8 c9 c10 c11 c12 c13 c14 c15 c16 c17 c18 c19 c20 c21 c22 c23 c24 c25 c26 c27 c28 c29) (by decide) ?_
  refine V_iinc 3 (v := nI (i + 4)) (lv' := [(3, .int (nI (i + 4))), (0, .ref b), (1, .ref nx), (2, .ref mx)]) dL_law_868 rfl (by rw [show Int32.ofInt 4 = nI 4 from rfl, nI_add]) (by decide) rfl ?_
  refine V_goto 18 dL_law_871 (by decide) ?_
  refine V_lv (lv' := [(0, .ref b), (1, .ref nx), (2, .ref mx), (3, .int (nI (i + 4)))]) [1, 2, 3, 0] rfl ?_
  exact ih T g P O L Z es eo ez ks ko kz W M N S Y R ra rn bt ah um az kp km hI
theorem law_loop {p : Program} {l : Launch} {e : Env} {s : State} {m : MethodId} {args : Array Value} {below : List Frame} {meth : Method} {c : Code} {k n : Nat} {Q : State → Prop} {G : GG} {A : Nat → Prop} {H0 : Heap} (nx mx : Nat) (ad ye yk : Nat → Nat → Nat) (ua : Nat → Nat) (b len : Nat) (xs : Nat → Int32) (hScr : va_X b len xs s H0) (hbl : b < H0.size) (hbA : ¬ A b) (hlen : len ≤ 256) (fin : ∀ (wf : va_W) (lf : List (Nat × Value)), V p l e room_1 s m args below meth c k n Q cL_law RL wsL_law 4 G A H0 wf lf 874 []) : ∀ (f i : Nat), i ≤ 256 → len < i + f → ∀ (T : TxS) (g : (Nat → Int32)) (P : PlS) (O : PlS) (L : LnS) (Z : LnS) (es : (Nat → LnS)) (eo : Nat) (ez : Nat) (ks : (Nat → LnS)) (ko : Nat) (kz : Nat) (W : SiS) (M : MLn) (N : MPl) (S : SiS) (Y : TxS) (R : PlS) (ra : Nat) (rn : Int32) (bt : (Nat → Int32)) (ah : (Nat → Int32)) (um : Nat) (az : (Nat → Int32)) (kp : (Nat → Int32)) (km : Nat), LRel P L T es eo ez ks ko kz W N M S Y ah um kp km → V p l e room_1 s m args below meth c k n Q cL_law RL wsL_law 4 G A H0 (WRel G nx mx ad ye yk ua T g P O L Z es eo ez ks ko kz W M N S Y R ra rn bt ah um az kp km) [(0, .ref b), (1, .ref nx), (2, .ref mx), (3, .int (nI i))] 18 [] := by
  intro f
  induction f with
  | zero => intro i h1 h2; exact law_head nx mx ad ye yk ua b len xs hScr hbl hbA hlen fin i h1 (fun h => absurd h (by omega))
  | succ f ih => intro i h1 h2; exact law_head nx mx ad ye yk ua b len xs hScr hbl hbA hlen fin i h1 (fun h => ih (i + 4) (by omega) (by omega))
