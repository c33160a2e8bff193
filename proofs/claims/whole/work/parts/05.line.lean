set_option maxHeartbeats 4000000 in
set_option maxRecDepth 100000 in
theorem k_X0_isAhead (l : Launch) (G : GG) (h h1 h2 h3 h4 : Nat) (L : LnS) (q q1 q2 q3 q4 : Nat) (P : PlS) (a : Nat) (b : Nat) (ha8 : a < 8) (hb8 : b < 8) : CI l yX0_isAhead wsX0_isAhead ({ frames := 0, cells := 0, slots := 0, locals := 0 }) G [(h, .inr (0, [.ref h1, .ref h2, .ref h3, .ref h4, .int (lcg L), .int (lco L), .int (lmi L), .int (lse L), .int (lru L)])), (h1, .inl (G.2.1, 8, .inl (lst L))), (h2, .inl (G.2.1, 8, .inl (lwa L))), (h3, .inl (G.2.1, 8, .inl (lca L))), (h4, .inl (G.2.1, 8, .inl (lti L))), (q, .inr (1, [.ref q1, .ref q2, .ref q3, .ref q4, .int (nI (pN P)), .int (pse P), .int (pme P), .int (pru P)])), (q1, .inl (G.2.1, 8, .inl (pki P))), (q2, .inl (G.2.1, 8, .inl (pci P))), (q3, .inl (G.2.1, 8, .inl (ppa P))), (q4, .inl (G.2.1, 8, .inl (pwo P)))] [.ref h, .ref q, .int (nI a), .int (nI b)] ((b2i (isAheadF P L a b))) (S := Unit) (fun _ => [(h, .inr (0, [.ref h1, .ref h2, .ref h3, .ref h4, .int (lcg L), .int (lco L), .int (lmi L), .int (lse L), .int (lru L)])), (h1, .inl (G.2.1, 8, .inl (lst L))), (h2, .inl (G.2.1, 8, .inl (lwa L))), (h3, .inl (G.2.1, 8, .inl (lca L))), (h4, .inl (G.2.1, 8, .inl (lti L))), (q, .inr (1, [.ref q1, .ref q2, .ref q3, .ref q4, .int (nI (pN P)), .int (pse P), .int (pme P), .int (pru P)])), (q1, .inl (G.2.1, 8, .inl (pki P))), (q2, .inl (G.2.1, 8, .inl (pci P))), (q3, .inl (G.2.1, 8, .inl (ppa P))), (q4, .inl (G.2.1, 8, .inl (pwo P)))]) := by
  refine CI.of (cc := cX0_isAhead) (nL := 4) (by decide) rfl ⟨rfl, rfl⟩ (Nat.le_of_ble_eq_true rfl) ?_
  intro p e s m args below meth c Q A H0 hKs fin
  have i_X0 : ∀ w ∈ wsX00, w ∈ wsX0_isAhead := by decide +kernel
  have i_X1 : ∀ w ∈ wsX10, w ∈ wsX0_isAhead := by decide +kernel
  have w_1 : Jvm.Cond.fieldLink RX0 43 "NumberEleven$Line" "rule" "I" ∈ wsX0_isAhead := by decide +kernel
  have w_2 : Jvm.Cond.fieldLink RX0 18 "NumberEleven$Line" "came" "[I" ∈ wsX0_isAhead := by decide +kernel
  have w_3 : Jvm.Cond.fieldLink RX0 101 "NumberEleven$Plan" "worth" "[I" ∈ wsX0_isAhead := by decide +kernel
  refine V_lv (lv' := [(0, .ref h), (1, .ref q), (2, .int (nI a)), (3, .int (nI b))]) [0, 1, 2, 3] rfl ?_
  refine V_aload_n 0 dX0_isAhead_0 rfl rfl ?_
  refine V_get (ci := 0) (C := RX0) (T := TX0) (N := 9) i_X0 0 rfl rfl 8 (by decide) w_1 rfl rfl dX0_isAhead_1 ?_
  refine V_iconst (v := 1) dX0_isAhead_4 (by decide) ?_
  refine V_icmp_ne 29 dX0_isAhead_5 (by decide) (fun c_1 => ?_) (fun c_1 => ?_)
  · refine V_aload_n 0 dX0_isAhead_29 rfl rfl ?_
    refine V_get (ci := 0) (C := RX0) (T := TX0) (N := 9) i_X0 0 rfl rfl 8 (by decide) w_1 rfl rfl dX0_isAhead_30 ?_
    refine V_iconst (v := 2) dX0_isAhead_33 (by decide) ?_
    refine V_icmp_ne 73 dX0_isAhead_34 (by decide) (fun c_2 => ?_) (fun c_2 => ?_)
    · refine V_aload_n 0 dX0_isAhead_73 rfl rfl ?_
      refine V_get (ci := 0) (C := RX0) (T := TX0) (N := 9) i_X0 0 rfl rfl 2 (by decide) w_2 rfl rfl dX0_isAhead_74 ?_
      refine V_iload_n 2 dX0_isAhead_77 rfl rfl ?_
      refine V_iald 3 (j := a) rfl rfl (by omega) (by decide) dX0_isAhead_78 ?_
      refine V_aload_n 0 dX0_isAhead_79 rfl rfl ?_
      refine V_get (ci := 0) (C := RX0) (T := TX0) (N := 9) i_X0 0 rfl rfl 2 (by decide) w_2 rfl rfl dX0_isAhead_80 ?_
      refine V_iload_n 3 dX0_isAhead_83 rfl rfl ?_
      refine V_iald 3 (j := b) rfl rfl (by omega) (by decide) dX0_isAhead_84 ?_
      refine V_icmp_ge 92 dX0_isAhead_85 (by decide) (fun c_3 => ?_) (fun c_3 => ?_)
      · refine V_iconst (v := 0) dX0_isAhead_92 (by decide) ?_
        exact fin _ _ _ _ dX0_isAhead_93 rfl (by simp [isAheadF, b2i, Int32.not_lt, Int32.not_le, c_1, c_2, c_3]) () (rfl)
      · refine V_iconst (v := 1) dX0_isAhead_88 (by decide) ?_
        refine V_goto 93 dX0_isAhead_89 (by decide) ?_
        exact fin _ _ _ _ dX0_isAhead_93 rfl (by simp [isAheadF, b2i, Int32.not_lt, Int32.not_le, c_1, c_2, c_3]) () (rfl)
    · refine V_aload_n 1 dX0_isAhead_37 rfl rfl ?_
      refine V_get (ci := 1) (C := RX1) (T := TX1) (N := 8) i_X1 5 rfl rfl 3 (by decide) w_3 rfl rfl dX0_isAhead_38 ?_
      refine V_iload_n 2 dX0_isAhead_41 rfl rfl ?_
      refine V_iald 9 (j := a) rfl rfl (by omega) (by decide) dX0_isAhead_42 ?_
      refine V_aload_n 1 dX0_isAhead_43 rfl rfl ?_
      refine V_get (ci := 1) (C := RX1) (T := TX1) (N := 8) i_X1 5 rfl rfl 3 (by decide) w_3 rfl rfl dX0_isAhead_44 ?_
      refine V_iload_n 3 dX0_isAhead_47 rfl rfl ?_
      refine V_iald 9 (j := b) rfl rfl (by omega) (by decide) dX0_isAhead_48 ?_
      refine V_icmp_eq 73 dX0_isAhead_49 (by decide) (fun c_4 => ?_) (fun c_4 => ?_)
      · refine V_aload_n 0 dX0_isAhead_73 rfl rfl ?_
        refine V_get (ci := 0) (C := RX0) (T := TX0) (N := 9) i_X0 0 rfl rfl 2 (by decide) w_2 rfl rfl dX0_isAhead_74 ?_
        refine V_iload_n 2 dX0_isAhead_77 rfl rfl ?_
        refine V_iald 3 (j := a) rfl rfl (by omega) (by decide) dX0_isAhead_78 ?_
        refine V_aload_n 0 dX0_isAhead_79 rfl rfl ?_
        refine V_get (ci := 0) (C := RX0) (T := TX0) (N := 9) i_X0 0 rfl rfl 2 (by decide) w_2 rfl rfl dX0_isAhead_80 ?_
        refine V_iload_n 3 dX0_isAhead_83 rfl rfl ?_
        refine V_iald 3 (j := b) rfl rfl (by omega) (by decide) dX0_isAhead_84 ?_
        refine V_icmp_ge 92 dX0_isAhead_85 (by decide) (fun c_5 => ?_) (fun c_5 => ?_)
        · refine V_iconst (v := 0) dX0_isAhead_92 (by decide) ?_
          exact fin _ _ _ _ dX0_isAhead_93 rfl (by simp [isAheadF, b2i, Int32.not_lt, Int32.not_le, c_1, c_2, c_4, c_5]) () (rfl)
        · refine V_iconst (v := 1) dX0_isAhead_88 (by decide) ?_
          refine V_goto 93 dX0_isAhead_89 (by decide) ?_
          exact fin _ _ _ _ dX0_isAhead_93 rfl (by simp [isAheadF, b2i, Int32.not_lt, Int32.not_le, c_1, c_2, c_4, c_5]) () (rfl)
      · refine V_aload_n 1 dX0_isAhead_52 rfl rfl ?_
        refine V_get (ci := 1) (C := RX1) (T := TX1) (N := 8) i_X1 5 rfl rfl 3 (by decide) w_3 rfl rfl dX0_isAhead_53 ?_
        refine V_iload_n 2 dX0_isAhead_56 rfl rfl ?_
        refine V_iald 9 (j := a) rfl rfl (by omega) (by decide) dX0_isAhead_57 ?_
        refine V_aload_n 1 dX0_isAhead_58 rfl rfl ?_
        refine V_get (ci := 1) (C := RX1) (T := TX1) (N := 8) i_X1 5 rfl rfl 3 (by decide) w_3 rfl rfl dX0_isAhead_59 ?_
        refine V_iload_n 3 dX0_isAhead_62 rfl rfl ?_
        refine V_iald 9 (j := b) rfl rfl (by omega) (by decide) dX0_isAhead_63 ?_
        refine V_icmp_le 71 dX0_isAhead_64 (by decide) (fun c_6 => ?_) (fun c_6 => ?_)
        · refine V_iconst (v := 0) dX0_isAhead_71 (by decide) ?_
          exact fin _ _ _ _ dX0_isAhead_72 rfl (by simp [isAheadF, b2i, Int32.not_lt, Int32.not_le, c_1, c_2, c_4, c_6]) () (rfl)
        · refine V_iconst (v := 1) dX0_isAhead_67 (by decide) ?_
          refine V_goto 72 dX0_isAhead_68 (by decide) ?_
          exact fin _ _ _ _ dX0_isAhead_72 rfl (by simp [isAheadF, b2i, Int32.not_lt, Int32.not_le, c_1, c_2, c_4, c_6]) () (rfl)
  · refine V_aload_n 0 dX0_isAhead_8 rfl rfl ?_
    refine V_get (ci := 0) (C := RX0) (T := TX0) (N := 9) i_X0 0 rfl rfl 2 (by decide) w_2 rfl rfl dX0_isAhead_9 ?_
    refine V_iload_n 2 dX0_isAhead_12 rfl rfl ?_
    refine V_iald 3 (j := a) rfl rfl (by omega) (by decide) dX0_isAhead_13 ?_
    refine V_aload_n 0 dX0_isAhead_14 rfl rfl ?_
    refine V_get (ci := 0) (C := RX0) (T := TX0) (N := 9) i_X0 0 rfl rfl 2 (by decide) w_2 rfl rfl dX0_isAhead_15 ?_
    refine V_iload_n 3 dX0_isAhead_18 rfl rfl ?_
    refine V_iald 3 (j := b) rfl rfl (by omega) (by decide) dX0_isAhead_19 ?_
    refine V_icmp_le 27 dX0_isAhead_20 (by decide) (fun c_7 => ?_) (fun c_7 => ?_)
    · refine V_iconst (v := 0) dX0_isAhead_27 (by decide) ?_
      exact fin _ _ _ _ dX0_isAhead_28 rfl (by simp [isAheadF, b2i, Int32.not_lt, Int32.not_le, c_1, c_7]) () (rfl)
    · refine V_iconst (v := 1) dX0_isAhead_23 (by decide) ?_
      refine V_goto 28 dX0_isAhead_24 (by decide) ?_
      exact fin _ _ _ _ dX0_isAhead_28 rfl (by simp [isAheadF, b2i, Int32.not_lt, Int32.not_le, c_1, c_7]) () (rfl)
set_option maxHeartbeats 4000000 in
set_option maxRecDepth 100000 in
theorem k_X0_isCallingAgain (l : Launch) (G : GG) (h h1 h2 h3 h4 : Nat) (L : LnS) (a : Nat)  : CI l yX0_isCallingAgain wsX0_isCallingAgain ({ frames := 0, cells := 0, slots := 0, locals := 0 }) G [(h, .inr (0, [.ref h1, .ref h2, .ref h3, .ref h4, .int (lcg L), .int (lco L), .int (lmi L), .int (lse L), .int (lru L)])), (h1, .inl (G.2.1, 8, .inl (lst L))), (h2, .inl (G.2.1, 8, .inl (lwa L))), (h3, .inl (G.2.1, 8, .inl (lca L))), (h4, .inl (G.2.1, 8, .inl (lti L)))] [.ref h, .int (nI a)] ((b2i (bitB (lcg L) a))) (S := Unit) (fun _ => [(h, .inr (0, [.ref h1, .ref h2, .ref h3, .ref h4, .int (lcg L), .int (lco L), .int (lmi L), .int (lse L), .int (lru L)])), (h1, .inl (G.2.1, 8, .inl (lst L))), (h2, .inl (G.2.1, 8, .inl (lwa L))), (h3, .inl (G.2.1, 8, .inl (lca L))), (h4, .inl (G.2.1, 8, .inl (lti L)))]) := by
  refine CI.of (cc := cX0_isCallingAgain) (nL := 2) (by decide) rfl ⟨rfl, rfl⟩ (Nat.le_of_ble_eq_true rfl) ?_
  intro p e s m args below meth c Q A H0 hKs fin
  have i_X0 : ∀ w ∈ wsX00, w ∈ wsX0_isCallingAgain := by decide +kernel
  have w_1 : Jvm.Cond.fieldLink RX0 24 "NumberEleven$Line" "callingAgain" "I" ∈ wsX0_isCallingAgain := by decide +kernel
  refine V_lv (lv' := [(0, .ref h), (1, .int (nI a))]) [0, 1] rfl ?_
  refine V_aload_n 0 dX0_isCallingAgain_0 rfl rfl ?_
  refine V_get (ci := 0) (C := RX0) (T := TX0) (N := 9) i_X0 0 rfl rfl 4 (by decide) w_1 rfl rfl dX0_isCallingAgain_1 ?_
  refine V_iload_n 1 dX0_isCallingAgain_4 rfl rfl ?_
  refine V_ishr dX0_isCallingAgain_5 ?_
  refine V_iconst (v := 1) dX0_isCallingAgain_6 (by decide) ?_
  refine V_iand dX0_isCallingAgain_7 ?_
  refine V_iconst (v := 1) dX0_isCallingAgain_8 (by decide) ?_
  refine V_icmp_ne 16 dX0_isCallingAgain_9 (by decide) (fun c_1 => ?_) (fun c_1 => ?_)
  · refine V_iconst (v := 0) dX0_isCallingAgain_16 (by decide) ?_
    exact fin _ _ _ _ dX0_isCallingAgain_17 rfl (by simp [bitB, b2i, Int32.not_lt, Int32.not_le, c_1]) () (rfl)
  · refine V_iconst (v := 1) dX0_isCallingAgain_12 (by decide) ?_
    refine V_goto 17 dX0_isCallingAgain_13 (by decide) ?_
    exact fin _ _ _ _ dX0_isCallingAgain_17 rfl (by simp [bitB, b2i, Int32.not_lt, Int32.not_le, c_1]) () (rfl)
set_option maxHeartbeats 4000000 in
set_option maxRecDepth 100000 in
theorem k_X0_admit (l : Launch) (G : GG) (h h1 h2 h3 h4 : Nat) (L : LnS) (a : Nat) (ha8 : a < 8) : CV l yX0_admit wsX0_admit ({ frames := 0, cells := 0, slots := 0, locals := 0 }) G [(h, .inr (0, [.ref h1, .ref h2, .ref h3, .ref h4, .int (lcg L), .int (lco L), .int (lmi L), .int (lse L), .int (lru L)])), (h1, .inl (G.2.1, 8, .inl (lst L))), (h2, .inl (G.2.1, 8, .inl (lwa L))), (h3, .inl (G.2.1, 8, .inl (lca L))), (h4, .inl (G.2.1, 8, .inl (lti L)))] [.ref h, .int (nI a)] (S := Unit) (fun _ => [(h, .inr (0, [.ref h1, .ref h2, .ref h3, .ref h4, .int (lcg (admitF L a)), .int (lco (admitF L a)), .int (lmi (admitF L a)), .int (lse (admitF L a)), .int (lru (admitF L a))])), (h1, .inl (G.2.1, 8, .inl (lst (admitF L a)))), (h2, .inl (G.2.1, 8, .inl (lwa (admitF L a)))), (h3, .inl (G.2.1, 8, .inl (lca (admitF L a)))), (h4, .inl (G.2.1, 8, .inl (lti (admitF L a))))]) := by
  refine CV.of (cc := cX0_admit) (nL := 2) (by decide) rfl ⟨rfl, rfl⟩ (Nat.le_of_ble_eq_true rfl) ?_
  intro p e s m args below meth c Q A H0 hKs fin
  have i_X0 : ∀ w ∈ wsX00, w ∈ wsX0_admit := by decide +kernel
  have w_1 : Jvm.Cond.fieldLink RX0 9 "NumberEleven$Line" "state" "[I" ∈ wsX0_admit := by decide +kernel
  have w_2 : Jvm.Cond.fieldLink RX0 15 "NumberEleven$Line" "waited" "[I" ∈ wsX0_admit := by decide +kernel
  have w_3 : Jvm.Cond.fieldLink RX0 18 "NumberEleven$Line" "came" "[I" ∈ wsX0_admit := by decide +kernel
  have w_4 : Jvm.Cond.fieldLink RX0 28 "NumberEleven$Line" "comings" "I" ∈ wsX0_admit := by decide +kernel
  refine V_lv (lv' := [(0, .ref h), (1, .int (nI a))]) [0, 1] rfl ?_
  refine V_aload_n 0 dX0_admit_0 rfl rfl ?_
  refine V_get (ci := 0) (C := RX0) (T := TX0) (N := 9) i_X0 0 rfl rfl 0 (by decide) w_1 rfl rfl dX0_admit_1 ?_
  refine V_iload_n 1 dX0_admit_4 rfl rfl ?_
  refine V_iconst (v := 1) dX0_admit_5 (by decide) ?_
  refine V_iast (ws' := [(h, .inr (0, [.ref h1, .ref h2, .ref h3, .ref h4, .int (lcg L), .int (lco L), .int (lmi L), .int (lse L), .int (lru L)])), (h1, .inl (G.2.1, 8, .inl (upd (lst L) a 1))), (h2, .inl (G.2.1, 8, .inl (lwa L))), (h3, .inl (G.2.1, 8, .inl (lca L))), (h4, .inl (G.2.1, 8, .inl (lti L)))]) 1 (j := a) rfl rfl (by omega) (by decide) rfl dX0_admit_6 ?_
  refine V_aload_n 0 dX0_admit_7 rfl rfl ?_
  refine V_get (ci := 0) (C := RX0) (T := TX0) (N := 9) i_X0 0 rfl rfl 1 (by decide) w_2 rfl rfl dX0_admit_8 ?_
  refine V_iload_n 1 dX0_admit_11 rfl rfl ?_
  refine V_iconst (v := 0) dX0_admit_12 (by decide) ?_
  refine V_iast (ws' := [(h, .inr (0, [.ref h1, .ref h2, .ref h3, .ref h4, .int (lcg L), .int (lco L), .int (lmi L), .int (lse L), .int (lru L)])), (h1, .inl (G.2.1, 8, .inl (upd (lst L) a 1))), (h2, .inl (G.2.1, 8, .inl (upd (lwa L) a 0))), (h3, .inl (G.2.1, 8, .inl (lca L))), (h4, .inl (G.2.1, 8, .inl (lti L)))]) 2 (j := a) rfl rfl (by omega) (by decide) rfl dX0_admit_13 ?_
  refine V_aload_n 0 dX0_admit_14 rfl rfl ?_
  refine V_get (ci := 0) (C := RX0) (T := TX0) (N := 9) i_X0 0 rfl rfl 2 (by decide) w_3 rfl rfl dX0_admit_15 ?_
  refine V_iload_n 1 dX0_admit_18 rfl rfl ?_
  refine V_aload_n 0 dX0_admit_19 rfl rfl ?_
  refine V_get (ci := 0) (C := RX0) (T := TX0) (N := 9) i_X0 0 rfl rfl 5 (by decide) w_4 rfl rfl dX0_admit_20 ?_
  refine V_iast (ws' := [(h, .inr (0, [.ref h1, .ref h2, .ref h3, .ref h4, .int (lcg L), .int (lco L), .int (lmi L), .int (lse L), .int (lru L)])), (h1, .inl (G.2.1, 8, .inl (upd (lst L) a 1))), (h2, .inl (G.2.1, 8, .inl (upd (lwa L) a 0))), (h3, .inl (G.2.1, 8, .inl (upd (lca L) a (lco L)))), (h4, .inl (G.2.1, 8, .inl (lti L)))]) 3 (j := a) rfl rfl (by omega) (by decide) rfl dX0_admit_23 ?_
  refine V_aload_n 0 dX0_admit_24 rfl rfl ?_
  refine V_dup dX0_admit_25 rfl ?_
  refine V_get (ci := 0) (C := RX0) (T := TX0) (N := 9) i_X0 0 rfl rfl 5 (by decide) w_4 rfl rfl dX0_admit_26 ?_
  refine V_iconst (v := 1) dX0_admit_29 (by decide) ?_
  refine V_iadd dX0_admit_30 ?_
  refine V_put (ws' := [(h, .inr (0, [.ref h1, .ref h2, .ref h3, .ref h4, .int (lcg L), .int ((lco L) + 1), .int (lmi L), .int (lse L), .int (lru L)])), (h1, .inl (G.2.1, 8, .inl (upd (lst L) a 1))), (h2, .inl (G.2.1, 8, .inl (upd (lwa L) a 0))), (h3, .inl (G.2.1, 8, .inl (upd (lca L) a (lco L)))), (h4, .inl (G.2.1, 8, .inl (lti L)))]) (ci := 0) (C := RX0) (T := TX0) (N := 9) i_X0 tyX0 tyX0_ok nmX0 0 rfl rfl 5 (by decide) w_4 rfl rfl (by decide +kernel) (Nat.le_of_ble_eq_true rfl) rfl dX0_admit_31 ?_
  have hF_1 : (admitF L a) = ((upd (lst L) a 1), (upd (lwa L) a 0), (upd (lca L) a (lco L)), (lti L), (lcg L), ((lco L) + 1), (lmi L), (lse L), (lru L)) := by rfl
  exact fin _ _ _ dX0_admit_34 () (by rw [hF_1]; try rfl)
set_option maxHeartbeats 4000000 in
set_option maxRecDepth 100000 in
theorem k_X0_admitWhoCall (l : Launch) (G : GG) (h h1 h2 h3 h4 : Nat) (L : LnS) (q q1 q2 q3 q4 : Nat) (P : PlS) (hN : pN P ≤ 8) : CV l yX0_admitWhoCall wsX0_admitWhoCall ({ frames := 1, cells := 0, slots := 0, locals := 21 }) G [(h, .inr (0, [.ref h1, .ref h2, .ref h3, .ref h4, .int (lcg L), .int (lco L), .int (lmi L), .int (lse L), .int (lru L)])), (h1, .inl (G.2.1, 8, .inl (lst L))), (h2, .inl (G.2.1, 8, .inl (lwa L))), (h3, .inl (G.2.1, 8, .inl (lca L))), (h4, .inl (G.2.1, 8, .inl (lti L))), (q, .inr (1, [.ref q1, .ref q2, .ref q3, .ref q4, .int (nI (pN P)), .int (pse P), .int (pme P), .int (pru P)])), (q1, .inl (G.2.1, 8, .inl (pki P))), (q2, .inl (G.2.1, 8, .inl (pci P))), (q3, .inl (G.2.1, 8, .inl (ppa P))), (q4, .inl (G.2.1, 8, .inl (pwo P)))] [.ref h, .ref q] (S := Unit) (fun _ => [(h, .inr (0, [.ref h1, .ref h2, .ref h3, .ref h4, .int (lcg (awcF P L)), .int (lco (awcF P L)), .int (lmi (awcF P L)), .int (lse (awcF P L)), .int (lru (awcF P L))])), (h1, .inl (G.2.1, 8, .inl (lst (awcF P L)))), (h2, .inl (G.2.1, 8, .inl (lwa (awcF P L)))), (h3, .inl (G.2.1, 8, .inl (lca (awcF P L)))), (h4, .inl (G.2.1, 8, .inl (lti (awcF P L)))), (q, .inr (1, [.ref q1, .ref q2, .ref q3, .ref q4, .int (nI (pN P)), .int (pse P), .int (pme P), .int (pru P)])), (q1, .inl (G.2.1, 8, .inl (pki P))), (q2, .inl (G.2.1, 8, .inl (pci P))), (q3, .inl (G.2.1, 8, .inl (ppa P))), (q4, .inl (G.2.1, 8, .inl (pwo P)))]) := by
  refine CV.of (cc := cX0_admitWhoCall) (nL := 3) (by decide) rfl ⟨rfl, rfl⟩ (Nat.le_of_ble_eq_true rfl) ?_
  intro p e s m args below meth c Q A H0 hKs fin
  have i_X0 : ∀ w ∈ wsX00, w ∈ wsX0_admitWhoCall := by decide +kernel
  have i_X1 : ∀ w ∈ wsX10, w ∈ wsX0_admitWhoCall := by decide +kernel
  have w_1 : Jvm.Cond.fieldLink RX0 72 "NumberEleven$Plan" "callers" "I" ∈ wsX0_admitWhoCall := by decide +kernel
  have w_2 : Jvm.Cond.fieldLink RX0 9 "NumberEleven$Line" "state" "[I" ∈ wsX0_admitWhoCall := by decide +kernel
  have w_3 : Jvm.Cond.fieldLink RX0 79 "NumberEleven$Plan" "callsIn" "[I" ∈ wsX0_admitWhoCall := by decide +kernel
  have w_4 : Jvm.Cond.fieldLink RX0 31 "NumberEleven$Line" "minute" "I" ∈ wsX0_admitWhoCall := by decide +kernel
  refine V_lv (lv' := [(0, .ref h), (1, .ref q)]) [0, 1] rfl ?_
  refine V_iconst (v := 0) dX0_admitWhoCall_0 (by decide) ?_
  refine V_istore_n (lv' := [(2, .int 0), (0, .ref h), (1, .ref q)]) dX0_admitWhoCall_1 rfl (by decide) rfl ?_
  refine V_lv (lv' := [(0, .ref h), (1, .ref q), (2, .int 0)]) [1, 2, 0] rfl ?_
  refine V_eq (ws' := [(h, .inr (0, [.ref h1, .ref h2, .ref h3, .ref h4, .int (lcg (it (awcB P) L 0)), .int (lco (it (awcB P) L 0)), .int (lmi (it (awcB P) L 0)), .int (lse (it (awcB P) L 0)), .int (lru (it (awcB P) L 0))])), (h1, .inl (G.2.1, 8, .inl (lst (it (awcB P) L 0)))), (h2, .inl (G.2.1, 8, .inl (lwa (it (awcB P) L 0)))), (h3, .inl (G.2.1, 8, .inl (lca (it (awcB P) L 0)))), (h4, .inl (G.2.1, 8, .inl (lti (it (awcB P) L 0)))), (q, .inr (1, [.ref q1, .ref q2, .ref q3, .ref q4, .int (nI (pN P)), .int (pse P), .int (pme P), .int (pru P)])), (q1, .inl (G.2.1, 8, .inl (pki P))), (q2, .inl (G.2.1, 8, .inl (pci P))), (q3, .inl (G.2.1, 8, .inl (ppa P))), (q4, .inl (G.2.1, 8, .inl (pwo P)))]) (lv' := [(0, .ref h), (1, .ref q), (2, .int (nI 0))]) (rfl) (rfl) ?_
  refine V_for (N := (pN P)) (fun i => [(h, .inr (0, [.ref h1, .ref h2, .ref h3, .ref h4, .int (lcg (it (awcB P) L i)), .int (lco (it (awcB P) L i)), .int (lmi (it (awcB P) L i)), .int (lse (it (awcB P) L i)), .int (lru (it (awcB P) L i))])), (h1, .inl (G.2.1, 8, .inl (lst (it (awcB P) L i)))), (h2, .inl (G.2.1, 8, .inl (lwa (it (awcB P) L i)))), (h3, .inl (G.2.1, 8, .inl (lca (it (awcB P) L i)))), (h4, .inl (G.2.1, 8, .inl (lti (it (awcB P) L i)))), (q, .inr (1, [.ref q1, .ref q2, .ref q3, .ref q4, .int (nI (pN P)), .int (pse P), .int (pme P), .int (pru P)])), (q1, .inl (G.2.1, 8, .inl (pki P))), (q2, .inl (G.2.1, 8, .inl (pci P))), (q3, .inl (G.2.1, 8, .inl (ppa P))), (q4, .inl (G.2.1, 8, .inl (pwo P)))]) (fun i => [(0, .ref h), (1, .ref q), (2, .int (nI i))]) (fun i hi_2 ih_2 => ?_) ?_ _ 0 (Nat.zero_add _)
  · skip
    refine V_iload_n 2 dX0_admitWhoCall_2 rfl rfl ?_
    refine V_aload_n 1 dX0_admitWhoCall_3 rfl rfl ?_
    refine V_get (ci := 1) (C := RX1) (T := TX1) (N := 8) i_X1 5 rfl rfl 4 (by decide) w_1 rfl rfl dX0_admitWhoCall_4 ?_
    refine V_icmp_ge 51 dX0_admitWhoCall_7 (by decide) (fun c_1 => absurd c_1 (nI_ge hi_2 (by omega))) (fun c_1 => ?_)
    refine V_aload_n 0 dX0_admitWhoCall_10 rfl rfl ?_
    refine V_get (ci := 0) (C := RX0) (T := TX0) (N := 9) i_X0 0 rfl rfl 0 (by decide) w_2 rfl rfl dX0_admitWhoCall_11 ?_
    refine V_iload_n 2 dX0_admitWhoCall_14 rfl rfl ?_
    refine V_iald 1 (j := i) rfl rfl (by omega) (by decide) dX0_admitWhoCall_15 ?_
    refine V_if_ne 45 dX0_admitWhoCall_16 (by decide) (fun c_2 => ?_) (fun c_2 => ?_)
    · refine V_iinc 2 (v := (nI (i + 1))) (lv' := [(2, .int (nI (i + 1))), (0, .ref h), (1, .ref q)]) dX0_admitWhoCall_45 rfl (iinc_nI _) (by decide) rfl ?_
      refine V_goto 2 dX0_admitWhoCall_48 (by decide) ?_
      refine V_lv (lv' := [(0, .ref h), (1, .ref q), (2, .int (nI (i + 1)))]) [1, 2, 0] rfl ?_
      have hF_3 : (it (awcB P) L (i + 1)) = (it (awcB P) L i) := by simp [it, awcB, c_1, c_2]
      exact V_eq (by first | rfl | (rw [hF_3]; done) | (rw [hF_3]; rfl) | (simp only [hF_3]; done)) (by first | rfl | (rw [hF_3]; done) | (rw [hF_3]; rfl) | (simp only [hF_3]; done)) ih_2
    · refine V_aload_n 0 dX0_admitWhoCall_19 rfl rfl ?_
      refine V_iload_n 2 dX0_admitWhoCall_20 rfl rfl ?_
      refine V_callVI (wr := [(q, .inr (1, [.ref q1, .ref q2, .ref q3, .ref q4, .int (nI (pN P)), .int (pse P), .int (pme P), .int (pru P)])), (q1, .inl (G.2.1, 8, .inl (pki P))), (q2, .inl (G.2.1, 8, .inl (pci P))), (q3, .inl (G.2.1, 8, .inl (ppa P))), (q4, .inl (G.2.1, 8, .inl (pwo P)))]) (ws' := fun _ => [(h, .inr (0, [.ref h1, .ref h2, .ref h3, .ref h4, .int (lcg (it (awcB P) L i)), .int (lco (it (awcB P) L i)), .int (lmi (it (awcB P) L i)), .int (lse (it (awcB P) L i)), .int (lru (it (awcB P) L i))])), (h1, .inl (G.2.1, 8, .inl (lst (it (awcB P) L i)))), (h2, .inl (G.2.1, 8, .inl (lwa (it (awcB P) L i)))), (h3, .inl (G.2.1, 8, .inl (lca (it (awcB P) L i)))), (h4, .inl (G.2.1, 8, .inl (lti (it (awcB P) L i)))), (q, .inr (1, [.ref q1, .ref q2, .ref q3, .ref q4, .int (nI (pN P)), .int (pse P), .int (pme P), .int (pru P)])), (q1, .inl (G.2.1, 8, .inl (pki P))), (q2, .inl (G.2.1, 8, .inl (pci P))), (q3, .inl (G.2.1, 8, .inl (ppa P))), (q4, .inl (G.2.1, 8, .inl (pwo P)))]) [.int (nI i)] [] 1 (k_X0_isCallingAgain l G h h1 h2 h3 h4 (it (awcB P) L i) i) 0 0 rfl rfl gX0_admitWhoCall_X0_isCallingAgain rfl ⟨rfl, rfl, Nat.le_of_ble_eq_true rfl, Nat.le_of_ble_eq_true rfl⟩ (by decide +kernel) rfl [0, 1, 2, 3, 4] [5, 6, 7, 8, 9] [5, 6, 7, 8, 9, 0, 1, 2, 3, 4] rfl rfl (by decide) (by decide) (fun _ => rfl) rfl (Nat.le_of_ble_eq_true rfl) dX0_admitWhoCall_21 (fun _ => ?_)
      refine V_ifb_ne 45 dX0_admitWhoCall_24 (by decide) (fun c_4 => ?_) (fun c_4 => ?_)
      · refine V_iinc 2 (v := (nI (i + 1))) (lv' := [(2, .int (nI (i + 1))), (0, .ref h), (1, .ref q)]) dX0_admitWhoCall_45 rfl (iinc_nI _) (by decide) rfl ?_
        refine V_goto 2 dX0_admitWhoCall_48 (by decide) ?_
        refine V_lv (lv' := [(0, .ref h), (1, .ref q), (2, .int (nI (i + 1)))]) [1, 2, 0] rfl ?_
        have hF_5 : (it (awcB P) L (i + 1)) = (it (awcB P) L i) := by simp [it, awcB, c_1, c_2, c_4]
        exact V_eq (by first | rfl | (rw [hF_5]; done) | (rw [hF_5]; rfl) | (simp only [hF_5]; done)) (by first | rfl | (rw [hF_5]; done) | (rw [hF_5]; rfl) | (simp only [hF_5]; done)) ih_2
      · refine V_aload_n 1 dX0_admitWhoCall_27 rfl rfl ?_
        refine V_get (ci := 1) (C := RX1) (T := TX1) (N := 8) i_X1 5 rfl rfl 1 (by decide) w_3 rfl rfl dX0_admitWhoCall_28 ?_
        refine V_iload_n 2 dX0_admitWhoCall_31 rfl rfl ?_
        refine V_iald 7 (j := i) rfl rfl (by omega) (by decide) dX0_admitWhoCall_32 ?_
        refine V_aload_n 0 dX0_admitWhoCall_33 rfl rfl ?_
        refine V_get (ci := 0) (C := RX0) (T := TX0) (N := 9) i_X0 0 rfl rfl 6 (by decide) w_4 rfl rfl dX0_admitWhoCall_34 ?_
        refine V_icmp_ne 45 dX0_admitWhoCall_37 (by decide) (fun c_6 => ?_) (fun c_6 => ?_)
        · refine V_iinc 2 (v := (nI (i + 1))) (lv' := [(2, .int (nI (i + 1))), (0, .ref h), (1, .ref q)]) dX0_admitWhoCall_45 rfl (iinc_nI _) (by decide) rfl ?_
          refine V_goto 2 dX0_admitWhoCall_48 (by decide) ?_
          refine V_lv (lv' := [(0, .ref h), (1, .ref q), (2, .int (nI (i + 1)))]) [1, 2, 0] rfl ?_
          have hF_7 : (it (awcB P) L (i + 1)) = (it (awcB P) L i) := by simp [it, awcB, c_1, c_2, c_4, c_6]
          exact V_eq (by first | rfl | (rw [hF_7]; done) | (rw [hF_7]; rfl) | (simp only [hF_7]; done)) (by first | rfl | (rw [hF_7]; done) | (rw [hF_7]; rfl) | (simp only [hF_7]; done)) ih_2
        · refine V_aload_n 0 dX0_admitWhoCall_40 rfl rfl ?_
          refine V_iload_n 2 dX0_admitWhoCall_41 rfl rfl ?_
          refine V_callVV (wr := [(q, .inr (1, [.ref q1, .ref q2, .ref q3, .ref q4, .int (nI (pN P)), .int (pse P), .int (pme P), .int (pru P)])), (q1, .inl (G.2.1, 8, .inl (pki P))), (q2, .inl (G.2.1, 8, .inl (pci P))), (q3, .inl (G.2.1, 8, .inl (ppa P))), (q4, .inl (G.2.1, 8, .inl (pwo P)))]) (ws' := fun _ => [(h, .inr (0, [.ref h1, .ref h2, .ref h3, .ref h4, .int (lcg (admitF (it (awcB P) L i) i)), .int (lco (admitF (it (awcB P) L i) i)), .int (lmi (admitF (it (awcB P) L i) i)), .int (lse (admitF (it (awcB P) L i) i)), .int (lru (admitF (it (awcB P) L i) i))])), (h1, .inl (G.2.1, 8, .inl (lst (admitF (it (awcB P) L i) i)))), (h2, .inl (G.2.1, 8, .inl (lwa (admitF (it (awcB P) L i) i)))), (h3, .inl (G.2.1, 8, .inl (lca (admitF (it (awcB P) L i) i)))), (h4, .inl (G.2.1, 8, .inl (lti (admitF (it (awcB P) L i) i)))), (q, .inr (1, [.ref q1, .ref q2, .ref q3, .ref q4, .int (nI (pN P)), .int (pse P), .int (pme P), .int (pru P)])), (q1, .inl (G.2.1, 8, .inl (pki P))), (q2, .inl (G.2.1, 8, .inl (pci P))), (q3, .inl (G.2.1, 8, .inl (ppa P))), (q4, .inl (G.2.1, 8, .inl (pwo P)))]) [.int (nI i)] [] 1 (k_X0_admit l G h h1 h2 h3 h4 (it (awcB P) L i) i (by first | assumption | omega)) 0 0 rfl rfl gX0_admitWhoCall_X0_admit rfl ⟨rfl, rfl, Nat.le_of_ble_eq_true rfl, Nat.le_of_ble_eq_true rfl⟩ (by decide +kernel) rfl [0, 1, 2, 3, 4] [5, 6, 7, 8, 9] [5, 6, 7, 8, 9, 0, 1, 2, 3, 4] rfl rfl (by decide) (by decide) (fun _ => rfl) rfl (Nat.le_of_ble_eq_true rfl) dX0_admitWhoCall_42 (fun _ => ?_)
          refine V_iinc 2 (v := (nI (i + 1))) (lv' := [(2, .int (nI (i + 1))), (0, .ref h), (1, .ref q)]) dX0_admitWhoCall_45 rfl (iinc_nI _) (by decide) rfl ?_
          refine V_goto 2 dX0_admitWhoCall_48 (by decide) ?_
          refine V_lv (lv' := [(0, .ref h), (1, .ref q), (2, .int (nI (i + 1)))]) [1, 2, 0] rfl ?_
          have hF_8 : (it (awcB P) L (i + 1)) = (admitF (it (awcB P) L i) i) := by simp [it, awcB, c_1, c_2, c_4, c_6]
          exact V_eq (by first | rfl | (rw [hF_8]; done) | (rw [hF_8]; rfl) | (simp only [hF_8]; done)) (by first | rfl | (rw [hF_8]; done) | (rw [hF_8]; rfl) | (simp only [hF_8]; done)) ih_2
  · skip
    refine V_iload_n 2 dX0_admitWhoCall_2 rfl rfl ?_
    refine V_aload_n 1 dX0_admitWhoCall_3 rfl rfl ?_
    refine V_get (ci := 1) (C := RX1) (T := TX1) (N := 8) i_X1 5 rfl rfl 4 (by decide) w_1 rfl rfl dX0_admitWhoCall_4 ?_
    refine V_icmp_ge 51 dX0_admitWhoCall_7 (by decide) (fun c_9 => ?_) (fun c_9 => absurd (Int32.le_refl _) c_9)
    have hF_10 : (awcF P L) = (it (awcB P) L (pN P)) := by simp [awcF, c_9]
    exact fin _ _ _ dX0_admitWhoCall_51 () (by rw [hF_10]; try rfl)
set_option maxHeartbeats 4000000 in
set_option maxRecDepth 100000 in
theorem k_X0_admitWhoCallAgain (l : Launch) (G : GG) (h h1 h2 h3 h4 : Nat) (L : LnS) (q q1 q2 q3 q4 : Nat) (P : PlS) (hN : pN P ≤ 8) : CV l yX0_admitWhoCallAgain wsX0_admitWhoCallAgain ({ frames := 1, cells := 0, slots := 0, locals := 21 }) G [(h, .inr (0, [.ref h1, .ref h2, .ref h3, .ref h4, .int (lcg L), .int (lco L), .int (lmi L), .int (lse L), .int (lru L)])), (h1, .inl (G.2.1, 8, .inl (lst L))), (h2, .inl (G.2.1, 8, .inl (lwa L))), (h3, .inl (G.2.1, 8, .inl (lca L))), (h4, .inl (G.2.1, 8, .inl (lti L))), (q, .inr (1, [.ref q1, .ref q2, .ref q3, .ref q4, .int (nI (pN P)), .int (pse P), .int (pme P), .int (pru P)])), (q1, .inl (G.2.1, 8, .inl (pki P))), (q2, .inl (G.2.1, 8, .inl (pci P))), (q3, .inl (G.2.1, 8, .inl (ppa P))), (q4, .inl (G.2.1, 8, .inl (pwo P)))] [.ref h, .ref q] (S := Unit) (fun _ => [(h, .inr (0, [.ref h1, .ref h2, .ref h3, .ref h4, .int (lcg (awaF P L)), .int (lco (awaF P L)), .int (lmi (awaF P L)), .int (lse (awaF P L)), .int (lru (awaF P L))])), (h1, .inl (G.2.1, 8, .inl (lst (awaF P L)))), (h2, .inl (G.2.1, 8, .inl (lwa (awaF P L)))), (h3, .inl (G.2.1, 8, .inl (lca (awaF P L)))), (h4, .inl (G.2.1, 8, .inl (lti (awaF P L)))), (q, .inr (1, [.ref q1, .ref q2, .ref q3, .ref q4, .int (nI (pN P)), .int (pse P), .int (pme P), .int (pru P)])), (q1, .inl (G.2.1, 8, .inl (pki P))), (q2, .inl (G.2.1, 8, .inl (pci P))), (q3, .inl (G.2.1, 8, .inl (ppa P))), (q4, .inl (G.2.1, 8, .inl (pwo P)))]) := by
  refine CV.of (cc := cX0_admitWhoCallAgain) (nL := 3) (by decide) rfl ⟨rfl, rfl⟩ (Nat.le_of_ble_eq_true rfl) ?_
  intro p e s m args below meth c Q A H0 hKs fin
  have i_X0 : ∀ w ∈ wsX00, w ∈ wsX0_admitWhoCallAgain := by decide +kernel
  have i_X1 : ∀ w ∈ wsX10, w ∈ wsX0_admitWhoCallAgain := by decide +kernel
  have w_1 : Jvm.Cond.fieldLink RX0 72 "NumberEleven$Plan" "callers" "I" ∈ wsX0_admitWhoCallAgain := by decide +kernel
  have w_2 : Jvm.Cond.fieldLink RX0 9 "NumberEleven$Line" "state" "[I" ∈ wsX0_admitWhoCallAgain := by decide +kernel
  have w_3 : Jvm.Cond.fieldLink RX0 24 "NumberEleven$Line" "callingAgain" "I" ∈ wsX0_admitWhoCallAgain := by decide +kernel
  refine V_lv (lv' := [(0, .ref h), (1, .ref q)]) [0, 1] rfl ?_
  refine V_iconst (v := 0) dX0_admitWhoCallAgain_0 (by decide) ?_
  refine V_istore_n (lv' := [(2, .int 0), (0, .ref h), (1, .ref q)]) dX0_admitWhoCallAgain_1 rfl (by decide) rfl ?_
  refine V_lv (lv' := [(0, .ref h), (1, .ref q), (2, .int 0)]) [1, 2, 0] rfl ?_
  refine V_eq (ws' := [(h, .inr (0, [.ref h1, .ref h2, .ref h3, .ref h4, .int (lcg (it awaB L 0)), .int (lco (it awaB L 0)), .int (lmi (it awaB L 0)), .int (lse (it awaB L 0)), .int (lru (it awaB L 0))])), (h1, .inl (G.2.1, 8, .inl (lst (it awaB L 0)))), (h2, .inl (G.2.1, 8, .inl (lwa (it awaB L 0)))), (h3, .inl (G.2.1, 8, .inl (lca (it awaB L 0)))), (h4, .inl (G.2.1, 8, .inl (lti (it awaB L 0)))), (q, .inr (1, [.ref q1, .ref q2, .ref q3, .ref q4, .int (nI (pN P)), .int (pse P), .int (pme P), .int (pru P)])), (q1, .inl (G.2.1, 8, .inl (pki P))), (q2, .inl (G.2.1, 8, .inl (pci P))), (q3, .inl (G.2.1, 8, .inl (ppa P))), (q4, .inl (G.2.1, 8, .inl (pwo P)))]) (lv' := [(0, .ref h), (1, .ref q), (2, .int (nI 0))]) (rfl) (rfl) ?_
  refine V_for (N := (pN P)) (fun i => [(h, .inr (0, [.ref h1, .ref h2, .ref h3, .ref h4, .int (lcg (it awaB L i)), .int (lco (it awaB L i)), .int (lmi (it awaB L i)), .int (lse (it awaB L i)), .int (lru (it awaB L i))])), (h1, .inl (G.2.1, 8, .inl (lst (it awaB L i)))), (h2, .inl (G.2.1, 8, .inl (lwa (it awaB L i)))), (h3, .inl (G.2.1, 8, .inl (lca (it awaB L i)))), (h4, .inl (G.2.1, 8, .inl (lti (it awaB L i)))), (q, .inr (1, [.ref q1, .ref q2, .ref q3, .ref q4, .int (nI (pN P)), .int (pse P), .int (pme P), .int (pru P)])), (q1, .inl (G.2.1, 8, .inl (pki P))), (q2, .inl (G.2.1, 8, .inl (pci P))), (q3, .inl (G.2.1, 8, .inl (ppa P))), (q4, .inl (G.2.1, 8, .inl (pwo P)))]) (fun i => [(0, .ref h), (1, .ref q), (2, .int (nI i))]) (fun i hi_2 ih_2 => ?_) ?_ _ 0 (Nat.zero_add _)
  · skip
    refine V_iload_n 2 dX0_admitWhoCallAgain_2 rfl rfl ?_
    refine V_aload_n 1 dX0_admitWhoCallAgain_3 rfl rfl ?_
    refine V_get (ci := 1) (C := RX1) (T := TX1) (N := 8) i_X1 5 rfl rfl 4 (by decide) w_1 rfl rfl dX0_admitWhoCallAgain_4 ?_
    refine V_icmp_ge 38 dX0_admitWhoCallAgain_7 (by decide) (fun c_1 => absurd c_1 (nI_ge hi_2 (by omega))) (fun c_1 => ?_)
    refine V_aload_n 0 dX0_admitWhoCallAgain_10 rfl rfl ?_
    refine V_get (ci := 0) (C := RX0) (T := TX0) (N := 9) i_X0 0 rfl rfl 0 (by decide) w_2 rfl rfl dX0_admitWhoCallAgain_11 ?_
    refine V_iload_n 2 dX0_admitWhoCallAgain_14 rfl rfl ?_
    refine V_iald 1 (j := i) rfl rfl (by omega) (by decide) dX0_admitWhoCallAgain_15 ?_
    refine V_if_ne 32 dX0_admitWhoCallAgain_16 (by decide) (fun c_2 => ?_) (fun c_2 => ?_)
    · refine V_iinc 2 (v := (nI (i + 1))) (lv' := [(2, .int (nI (i + 1))), (0, .ref h), (1, .ref q)]) dX0_admitWhoCallAgain_32 rfl (iinc_nI _) (by decide) rfl ?_
      refine V_goto 2 dX0_admitWhoCallAgain_35 (by decide) ?_
      refine V_lv (lv' := [(0, .ref h), (1, .ref q), (2, .int (nI (i + 1)))]) [1, 2, 0] rfl ?_
      have hF_3 : (it awaB L (i + 1)) = (it awaB L i) := by simp [it, awaB, c_1, c_2]
      exact V_eq (by first | rfl | (rw [hF_3]; done) | (rw [hF_3]; rfl) | (simp only [hF_3]; done)) (by first | rfl | (rw [hF_3]; done) | (rw [hF_3]; rfl) | (simp only [hF_3]; done)) ih_2
    · refine V_aload_n 0 dX0_admitWhoCallAgain_19 rfl rfl ?_
      refine V_iload_n 2 dX0_admitWhoCallAgain_20 rfl rfl ?_
      refine V_callVI (wr := [(q, .inr (1, [.ref q1, .ref q2, .ref q3, .ref q4, .int (nI (pN P)), .int (pse P), .int (pme P), .int (pru P)])), (q1, .inl (G.2.1, 8, .inl (pki P))), (q2, .inl (G.2.1, 8, .inl (pci P))), (q3, .inl (G.2.1, 8, .inl (ppa P))), (q4, .inl (G.2.1, 8, .inl (pwo P)))]) (ws' := fun _ => [(h, .inr (0, [.ref h1, .ref h2, .ref h3, .ref h4, .int (lcg (it awaB L i)), .int (lco (it awaB L i)), .int (lmi (it awaB L i)), .int (lse (it awaB L i)), .int (lru (it awaB L i))])), (h1, .inl (G.2.1, 8, .inl (lst (it awaB L i)))), (h2, .inl (G.2.1, 8, .inl (lwa (it awaB L i)))), (h3, .inl (G.2.1, 8, .inl (lca (it awaB L i)))), (h4, .inl (G.2.1, 8, .inl (lti (it awaB L i)))), (q, .inr (1, [.ref q1, .ref q2, .ref q3, .ref q4, .int (nI (pN P)), .int (pse P), .int (pme P), .int (pru P)])), (q1, .inl (G.2.1, 8, .inl (pki P))), (q2, .inl (G.2.1, 8, .inl (pci P))), (q3, .inl (G.2.1, 8, .inl (ppa P))), (q4, .inl (G.2.1, 8, .inl (pwo P)))]) [.int (nI i)] [] 1 (k_X0_isCallingAgain l G h h1 h2 h3 h4 (it awaB L i) i) 0 0 rfl rfl gX0_admitWhoCallAgain_X0_isCallingAgain rfl ⟨rfl, rfl, Nat.le_of_ble_eq_true rfl, Nat.le_of_ble_eq_true rfl⟩ (by decide +kernel) rfl [0, 1, 2, 3, 4] [5, 6, 7, 8, 9] [5, 6, 7, 8, 9, 0, 1, 2, 3, 4] rfl rfl (by decide) (by decide) (fun _ => rfl) rfl (Nat.le_of_ble_eq_true rfl) dX0_admitWhoCallAgain_21 (fun _ => ?_)
      refine V_ifb_eq 32 dX0_admitWhoCallAgain_24 (by decide) (fun c_4 => ?_) (fun c_4 => ?_)
      · refine V_iinc 2 (v := (nI (i + 1))) (lv' := [(2, .int (nI (i + 1))), (0, .ref h), (1, .ref q)]) dX0_admitWhoCallAgain_32 rfl (iinc_nI _) (by decide) rfl ?_
        refine V_goto 2 dX0_admitWhoCallAgain_35 (by decide) ?_
        refine V_lv (lv' := [(0, .ref h), (1, .ref q), (2, .int (nI (i + 1)))]) [1, 2, 0] rfl ?_
        have hF_5 : (it awaB L (i + 1)) = (it awaB L i) := by simp [it, awaB, c_1, c_2, c_4]
        exact V_eq (by first | rfl | (rw [hF_5]; done) | (rw [hF_5]; rfl) | (simp only [hF_5]; done)) (by first | rfl | (rw [hF_5]; done) | (rw [hF_5]; rfl) | (simp only [hF_5]; done)) ih_2
      · refine V_aload_n 0 dX0_admitWhoCallAgain_27 rfl rfl ?_
        refine V_iload_n 2 dX0_admitWhoCallAgain_28 rfl rfl ?_
        refine V_callVV (wr := [(q, .inr (1, [.ref q1, .ref q2, .ref q3, .ref q4, .int (nI (pN P)), .int (pse P), .int (pme P), .int (pru P)])), (q1, .inl (G.2.1, 8, .inl (pki P))), (q2, .inl (G.2.1, 8, .inl (pci P))), (q3, .inl (G.2.1, 8, .inl (ppa P))), (q4, .inl (G.2.1, 8, .inl (pwo P)))]) (ws' := fun _ => [(h, .inr (0, [.ref h1, .ref h2, .ref h3, .ref h4, .int (lcg (admitF (it awaB L i) i)), .int (lco (admitF (it awaB L i) i)), .int (lmi (admitF (it awaB L i) i)), .int (lse (admitF (it awaB L i) i)), .int (lru (admitF (it awaB L i) i))])), (h1, .inl (G.2.1, 8, .inl (lst (admitF (it awaB L i) i)))), (h2, .inl (G.2.1, 8, .inl (lwa (admitF (it awaB L i) i)))), (h3, .inl (G.2.1, 8, .inl (lca (admitF (it awaB L i) i)))), (h4, .inl (G.2.1, 8, .inl (lti (admitF (it awaB L i) i)))), (q, .inr (1, [.ref q1, .ref q2, .ref q3, .ref q4, .int (nI (pN P)), .int (pse P), .int (pme P), .int (pru P)])), (q1, .inl (G.2.1, 8, .inl (pki P))), (q2, .inl (G.2.1, 8, .inl (pci P))), (q3, .inl (G.2.1, 8, .inl (ppa P))), (q4, .inl (G.2.1, 8, .inl (pwo P)))]) [.int (nI i)] [] 1 (k_X0_admit l G h h1 h2 h3 h4 (it awaB L i) i (by first | assumption | omega)) 0 0 rfl rfl gX0_admitWhoCallAgain_X0_admit rfl ⟨rfl, rfl, Nat.le_of_ble_eq_true rfl, Nat.le_of_ble_eq_true rfl⟩ (by decide +kernel) rfl [0, 1, 2, 3, 4] [5, 6, 7, 8, 9] [5, 6, 7, 8, 9, 0, 1, 2, 3, 4] rfl rfl (by decide) (by decide) (fun _ => rfl) rfl (Nat.le_of_ble_eq_true rfl) dX0_admitWhoCallAgain_29 (fun _ => ?_)
        refine V_iinc 2 (v := (nI (i + 1))) (lv' := [(2, .int (nI (i + 1))), (0, .ref h), (1, .ref q)]) dX0_admitWhoCallAgain_32 rfl (iinc_nI _) (by decide) rfl ?_
        refine V_goto 2 dX0_admitWhoCallAgain_35 (by decide) ?_
        refine V_lv (lv' := [(0, .ref h), (1, .ref q), (2, .int (nI (i + 1)))]) [1, 2, 0] rfl ?_
        have hF_6 : (it awaB L (i + 1)) = (admitF (it awaB L i) i) := by simp [it, awaB, c_1, c_2, c_4]
        exact V_eq (by first | rfl | (rw [hF_6]; done) | (rw [hF_6]; rfl) | (simp only [hF_6]; done)) (by first | rfl | (rw [hF_6]; done) | (rw [hF_6]; rfl) | (simp only [hF_6]; done)) ih_2
  · skip
    refine V_iload_n 2 dX0_admitWhoCallAgain_2 rfl rfl ?_
    refine V_aload_n 1 dX0_admitWhoCallAgain_3 rfl rfl ?_
    refine V_get (ci := 1) (C := RX1) (T := TX1) (N := 8) i_X1 5 rfl rfl 4 (by decide) w_1 rfl rfl dX0_admitWhoCallAgain_4 ?_
    refine V_icmp_ge 38 dX0_admitWhoCallAgain_7 (by decide) (fun c_7 => ?_) (fun c_7 => absurd (Int32.le_refl _) c_7)
    refine V_aload_n 0 dX0_admitWhoCallAgain_38 rfl rfl ?_
    refine V_iconst (v := 0) dX0_admitWhoCallAgain_39 (by decide) ?_
    refine V_put (ws' := [(h, .inr (0, [.ref h1, .ref h2, .ref h3, .ref h4, .int 0, .int (lco (it awaB L (pN P))), .int (lmi (it awaB L (pN P))), .int (lse (it awaB L (pN P))), .int (lru (it awaB L (pN P)))])), (h1, .inl (G.2.1, 8, .inl (lst (it awaB L (pN P))))), (h2, .inl (G.2.1, 8, .inl (lwa (it awaB L (pN P))))), (h3, .inl (G.2.1, 8, .inl (lca (it awaB L (pN P))))), (h4, .inl (G.2.1, 8, .inl (lti (it awaB L (pN P))))), (q, .inr (1, [.ref q1, .ref q2, .ref q3, .ref q4, .int (nI (pN P)), .int (pse P), .int (pme P), .int (pru P)])), (q1, .inl (G.2.1, 8, .inl (pki P))), (q2, .inl (G.2.1, 8, .inl (pci P))), (q3, .inl (G.2.1, 8, .inl (ppa P))), (q4, .inl (G.2.1, 8, .inl (pwo P)))]) (ci := 0) (C := RX0) (T := TX0) (N := 9) i_X0 tyX0 tyX0_ok nmX0 0 rfl rfl 4 (by decide) w_3 rfl rfl (by decide +kernel) (Nat.le_of_ble_eq_true rfl) rfl dX0_admitWhoCallAgain_40 ?_
    have hF_8 : (awaF P L) = ((lst (it awaB L (pN P))), (lwa (it awaB L (pN P))), (lca (it awaB L (pN P))), (lti (it awaB L (pN P))), 0, (lco (it awaB L (pN P))), (lmi (it awaB L (pN P))), (lse (it awaB L (pN P))), (lru (it awaB L (pN P)))) := by rfl
    exact fin _ _ _ dX0_admitWhoCallAgain_43 () (by rw [hF_8]; try rfl)
set_option maxHeartbeats 4000000 in
set_option maxRecDepth 100000 in
theorem k_X0_finishServed (l : Launch) (G : GG) (h h1 h2 h3 h4 : Nat) (L : LnS) (q q1 q2 q3 q4 : Nat) (P : PlS) (hN : pN P ≤ 8) : CV l yX0_finishServed wsX0_finishServed ({ frames := 0, cells := 0, slots := 0, locals := 0 }) G [(h, .inr (0, [.ref h1, .ref h2, .ref h3, .ref h4, .int (lcg L), .int (lco L), .int (lmi L), .int (lse L), .int (lru L)])), (h1, .inl (G.2.1, 8, .inl (lst L))), (h2, .inl (G.2.1, 8, .inl (lwa L))), (h3, .inl (G.2.1, 8, .inl (lca L))), (h4, .inl (G.2.1, 8, .inl (lti L))), (q, .inr (1, [.ref q1, .ref q2, .ref q3, .ref q4, .int (nI (pN P)), .int (pse P), .int (pme P), .int (pru P)])), (q1, .inl (G.2.1, 8, .inl (pki P))), (q2, .inl (G.2.1, 8, .inl (pci P))), (q3, .inl (G.2.1, 8, .inl (ppa P))), (q4, .inl (G.2.1, 8, .inl (pwo P)))] [.ref h, .ref q] (S := Unit) (fun _ => [(h, .inr (0, [.ref h1, .ref h2, .ref h3, .ref h4, .int (lcg (fnF P L)), .int (lco (fnF P L)), .int (lmi (fnF P L)), .int (lse (fnF P L)), .int (lru (fnF P L))])), (h1, .inl (G.2.1, 8, .inl (lst (fnF P L)))), (h2, .inl (G.2.1, 8, .inl (lwa (fnF P L)))), (h3, .inl (G.2.1, 8, .inl (lca (fnF P L)))), (h4, .inl (G.2.1, 8, .inl (lti (fnF P L)))), (q, .inr (1, [.ref q1, .ref q2, .ref q3, .ref q4, .int (nI (pN P)), .int (pse P), .int (pme P), .int (pru P)])), (q1, .inl (G.2.1, 8, .inl (pki P))), (q2, .inl (G.2.1, 8, .inl (pci P))), (q3, .inl (G.2.1, 8, .inl (ppa P))), (q4, .inl (G.2.1, 8, .inl (pwo P)))]) := by
  refine CV.of (cc := cX0_finishServed) (nL := 3) (by decide) rfl ⟨rfl, rfl⟩ (Nat.le_of_ble_eq_true rfl) ?_
  intro p e s m args below meth c Q A H0 hKs fin
  have i_X0 : ∀ w ∈ wsX00, w ∈ wsX0_finishServed := by decide +kernel
  have i_X1 : ∀ w ∈ wsX10, w ∈ wsX0_finishServed := by decide +kernel
  have w_1 : Jvm.Cond.fieldLink RX0 72 "NumberEleven$Plan" "callers" "I" ∈ wsX0_finishServed := by decide +kernel
  have w_2 : Jvm.Cond.fieldLink RX0 9 "NumberEleven$Line" "state" "[I" ∈ wsX0_finishServed := by decide +kernel
  have w_3 : Jvm.Cond.fieldLink RX0 31 "NumberEleven$Line" "minute" "I" ∈ wsX0_finishServed := by decide +kernel
  have w_4 : Jvm.Cond.fieldLink RX0 21 "NumberEleven$Line" "takenIn" "[I" ∈ wsX0_finishServed := by decide +kernel
  have w_5 : Jvm.Cond.fieldLink RX0 86 "NumberEleven$Plan" "minutesEach" "I" ∈ wsX0_finishServed := by decide +kernel
  refine V_lv (lv' := [(0, .ref h), (1, .ref q)]) [0, 1] rfl ?_
  refine V_iconst (v := 0) dX0_finishServed_0 (by decide) ?_
  refine V_istore_n (lv' := [(2, .int 0), (0, .ref h), (1, .ref q)]) dX0_finishServed_1 rfl (by decide) rfl ?_
  refine V_lv (lv' := [(0, .ref h), (1, .ref q), (2, .int 0)]) [1, 2, 0] rfl ?_
  refine V_eq (ws' := [(h, .inr (0, [.ref h1, .ref h2, .ref h3, .ref h4, .int (lcg (it (fnB P) L 0)), .int (lco (it (fnB P) L 0)), .int (lmi (it (fnB P) L 0)), .int (lse (it (fnB P) L 0)), .int (lru (it (fnB P) L 0))])), (h1, .inl (G.2.1, 8, .inl (lst (it (fnB P) L 0)))), (h2, .inl (G.2.1, 8, .inl (lwa (it (fnB P) L 0)))), (h3, .inl (G.2.1, 8, .inl (lca (it (fnB P) L 0)))), (h4, .inl (G.2.1, 8, .inl (lti (it (fnB P) L 0)))), (q, .inr (1, [.ref q1, .ref q2, .ref q3, .ref q4, .int (nI (pN P)), .int (pse P), .int (pme P), .int (pru P)])), (q1, .inl (G.2.1, 8, .inl (pki P))), (q2, .inl (G.2.1, 8, .inl (pci P))), (q3, .inl (G.2.1, 8, .inl (ppa P))), (q4, .inl (G.2.1, 8, .inl (pwo P)))]) (lv' := [(0, .ref h), (1, .ref q), (2, .int (nI 0))]) (rfl) (rfl) ?_
  refine V_for (N := (pN P)) (fun i => [(h, .inr (0, [.ref h1, .ref h2, .ref h3, .ref h4, .int (lcg (it (fnB P) L i)), .int (lco (it (fnB P) L i)), .int (lmi (it (fnB P) L i)), .int (lse (it (fnB P) L i)), .int (lru (it (fnB P) L i))])), (h1, .inl (G.2.1, 8, .inl (lst (it (fnB P) L i)))), (h2, .inl (G.2.1, 8, .inl (lwa (it (fnB P) L i)))), (h3, .inl (G.2.1, 8, .inl (lca (it (fnB P) L i)))), (h4, .inl (G.2.1, 8, .inl (lti (it (fnB P) L i)))), (q, .inr (1, [.ref q1, .ref q2, .ref q3, .ref q4, .int (nI (pN P)), .int (pse P), .int (pme P), .int (pru P)])), (q1, .inl (G.2.1, 8, .inl (pki P))), (q2, .inl (G.2.1, 8, .inl (pci P))), (q3, .inl (G.2.1, 8, .inl (ppa P))), (q4, .inl (G.2.1, 8, .inl (pwo P)))]) (fun i => [(0, .ref h), (1, .ref q), (2, .int (nI i))]) (fun i hi_2 ih_2 => ?_) ?_ _ 0 (Nat.zero_add _)
  · skip
    refine V_iload_n 2 dX0_finishServed_2 rfl rfl ?_
    refine V_aload_n 1 dX0_finishServed_3 rfl rfl ?_
    refine V_get (ci := 1) (C := RX1) (T := TX1) (N := 8) i_X1 5 rfl rfl 4 (by decide) w_1 rfl rfl dX0_finishServed_4 ?_
    refine V_icmp_ge 51 dX0_finishServed_7 (by decide) (fun c_1 => absurd c_1 (nI_ge hi_2 (by omega))) (fun c_1 => ?_)
    refine V_aload_n 0 dX0_finishServed_10 rfl rfl ?_
    refine V_get (ci := 0) (C := RX0) (T := TX0) (N := 9) i_X0 0 rfl rfl 0 (by decide) w_2 rfl rfl dX0_finishServed_11 ?_
    refine V_iload_n 2 dX0_finishServed_14 rfl rfl ?_
    refine V_iald 1 (j := i) rfl rfl (by omega) (by decide) dX0_finishServed_15 ?_
    refine V_iconst (v := 2) dX0_finishServed_16 (by decide) ?_
    refine V_icmp_ne 45 dX0_finishServed_17 (by decide) (fun c_2 => ?_) (fun c_2 => ?_)
    · refine V_iinc 2 (v := (nI (i + 1))) (lv' := [(2, .int (nI (i + 1))), (0, .ref h), (1, .ref q)]) dX0_finishServed_45 rfl (iinc_nI _) (by decide) rfl ?_
      refine V_goto 2 dX0_finishServed_48 (by decide) ?_
      refine V_lv (lv' := [(0, .ref h), (1, .ref q), (2, .int (nI (i + 1)))]) [1, 2, 0] rfl ?_
      have hF_3 : (it (fnB P) L (i + 1)) = (it (fnB P) L i) := by simp [it, fnB, c_1, c_2]
      exact V_eq (by first | rfl | (rw [hF_3]; done) | (rw [hF_3]; rfl) | (simp only [hF_3]; done)) (by first | rfl | (rw [hF_3]; done) | (rw [hF_3]; rfl) | (simp only [hF_3]; done)) ih_2
    · refine V_aload_n 0 dX0_finishServed_20 rfl rfl ?_
      refine V_get (ci := 0) (C := RX0) (T := TX0) (N := 9) i_X0 0 rfl rfl 6 (by decide) w_3 rfl rfl dX0_finishServed_21 ?_
      refine V_aload_n 0 dX0_finishServed_24 rfl rfl ?_
      refine V_get (ci := 0) (C := RX0) (T := TX0) (N := 9) i_X0 0 rfl rfl 3 (by decide) w_4 rfl rfl dX0_finishServed_25 ?_
      refine V_iload_n 2 dX0_finishServed_28 rfl rfl ?_
      refine V_iald 4 (j := i) rfl rfl (by omega) (by decide) dX0_finishServed_29 ?_
      refine V_isub dX0_finishServed_30 ?_
      refine V_aload_n 1 dX0_finishServed_31 rfl rfl ?_
      refine V_get (ci := 1) (C := RX1) (T := TX1) (N := 8) i_X1 5 rfl rfl 6 (by decide) w_5 rfl rfl dX0_finishServed_32 ?_
      refine V_icmp_lt 45 dX0_finishServed_35 (by decide) (fun c_4 => ?_) (fun c_4 => ?_)
      · refine V_iinc 2 (v := (nI (i + 1))) (lv' := [(2, .int (nI (i + 1))), (0, .ref h), (1, .ref q)]) dX0_finishServed_45 rfl (iinc_nI _) (by decide) rfl ?_
        refine V_goto 2 dX0_finishServed_48 (by decide) ?_
        refine V_lv (lv' := [(0, .ref h), (1, .ref q), (2, .int (nI (i + 1)))]) [1, 2, 0] rfl ?_
        have hF_5 : (it (fnB P) L (i + 1)) = (it (fnB P) L i) := by simp [it, fnB, c_1, c_2, c_4]
        exact V_eq (by first | rfl | (rw [hF_5]; done) | (rw [hF_5]; rfl) | (simp only [hF_5]; done)) (by first | rfl | (rw [hF_5]; done) | (rw [hF_5]; rfl) | (simp only [hF_5]; done)) ih_2
      · refine V_aload_n 0 dX0_finishServed_38 rfl rfl ?_
        refine V_get (ci := 0) (C := RX0) (T := TX0) (N := 9) i_X0 0 rfl rfl 0 (by decide) w_2 rfl rfl dX0_finishServed_39 ?_
        refine V_iload_n 2 dX0_finishServed_42 rfl rfl ?_
        refine V_iconst (v := 3) dX0_finishServed_43 (by decide) ?_
        refine V_iast (ws' := [(h, .inr (0, [.ref h1, .ref h2, .ref h3, .ref h4, .int (lcg (it (fnB P) L i)), .int (lco (it (fnB P) L i)), .int (lmi (it (fnB P) L i)), .int (lse (it (fnB P) L i)), .int (lru (it (fnB P) L i))])), (h1, .inl (G.2.1, 8, .inl (upd (lst (it (fnB P) L i)) i 3))), (h2, .inl (G.2.1, 8, .inl (lwa (it (fnB P) L i)))), (h3, .inl (G.2.1, 8, .inl (lca (it (fnB P) L i)))), (h4, .inl (G.2.1, 8, .inl (lti (it (fnB P) L i)))), (q, .inr (1, [.ref q1, .ref q2, .ref q3, .ref q4, .int (nI (pN P)), .int (pse P), .int (pme P), .int (pru P)])), (q1, .inl (G.2.1, 8, .inl (pki P))), (q2, .inl (G.2.1, 8, .inl (pci P))), (q3, .inl (G.2.1, 8, .inl (ppa P))), (q4, .inl (G.2.1, 8, .inl (pwo P)))]) 1 (j := i) rfl rfl (by omega) (by decide) rfl dX0_finishServed_44 ?_
        refine V_iinc 2 (v := (nI (i + 1))) (lv' := [(2, .int (nI (i + 1))), (0, .ref h), (1, .ref q)]) dX0_finishServed_45 rfl (iinc_nI _) (by decide) rfl ?_
        refine V_goto 2 dX0_finishServed_48 (by decide) ?_
        refine V_lv (lv' := [(0, .ref h), (1, .ref q), (2, .int (nI (i + 1)))]) [1, 2, 0] rfl ?_
        have hF_6 : (it (fnB P) L (i + 1)) = ((upd (lst (it (fnB P) L i)) i 3), (lwa (it (fnB P) L i)), (lca (it (fnB P) L i)), (lti (it (fnB P) L i)), (lcg (it (fnB P) L i)), (lco (it (fnB P) L i)), (lmi (it (fnB P) L i)), (lse (it (fnB P) L i)), (lru (it (fnB P) L i))) := by simp [it, fnB, c_1, c_2, c_4]
        exact V_eq (by first | rfl | (rw [hF_6]; done) | (rw [hF_6]; rfl) | (simp only [hF_6]; done)) (by first | rfl | (rw [hF_6]; done) | (rw [hF_6]; rfl) | (simp only [hF_6]; done)) ih_2
  · skip
    refine V_iload_n 2 dX0_finishServed_2 rfl rfl ?_
    refine V_aload_n 1 dX0_finishServed_3 rfl rfl ?_
    refine V_get (ci := 1) (C := RX1) (T := TX1) (N := 8) i_X1 5 rfl rfl 4 (by decide) w_1 rfl rfl dX0_finishServed_4 ?_
    refine V_icmp_ge 51 dX0_finishServed_7 (by decide) (fun c_7 => ?_) (fun c_7 => absurd (Int32.le_refl _) c_7)
    have hF_8 : (fnF P L) = (it (fnB P) L (pN P)) := by simp [fnF, c_7]
    exact fin _ _ _ dX0_finishServed_51 () (by rw [hF_8]; try rfl)
set_option maxHeartbeats 4000000 in
set_option maxRecDepth 100000 in
theorem k_X0_countIn (l : Launch) (G : GG) (h h1 h2 h3 h4 : Nat) (L : LnS) (q q1 q2 q3 q4 : Nat) (P : PlS) (w : Int32) (hN : pN P ≤ 8) : CI l yX0_countIn wsX0_countIn ({ frames := 0, cells := 0, slots := 0, locals := 0 }) G [(h, .inr (0, [.ref h1, .ref h2, .ref h3, .ref h4, .int (lcg L), .int (lco L), .int (lmi L), .int (lse L), .int (lru L)])), (h1, .inl (G.2.1, 8, .inl (lst L))), (h2, .inl (G.2.1, 8, .inl (lwa L))), (h3, .inl (G.2.1, 8, .inl (lca L))), (h4, .inl (G.2.1, 8, .inl (lti L))), (q, .inr (1, [.ref q1, .ref q2, .ref q3, .ref q4, .int (nI (pN P)), .int (pse P), .int (pme P), .int (pru P)])), (q1, .inl (G.2.1, 8, .inl (pki P))), (q2, .inl (G.2.1, 8, .inl (pci P))), (q3, .inl (G.2.1, 8, .inl (ppa P))), (q4, .inl (G.2.1, 8, .inl (pwo P)))] [.ref h, .ref q, .int w] ((cntF (lst L) w (pN P))) (S := Unit) (fun _ => [(h, .inr (0, [.ref h1, .ref h2, .ref h3, .ref h4, .int (lcg L), .int (lco L), .int (lmi L), .int (lse L), .int (lru L)])), (h1, .inl (G.2.1, 8, .inl (lst L))), (h2, .inl (G.2.1, 8, .inl (lwa L))), (h3, .inl (G.2.1, 8, .inl (lca L))), (h4, .inl (G.2.1, 8, .inl (lti L))), (q, .inr (1, [.ref q1, .ref q2, .ref q3, .ref q4, .int (nI (pN P)), .int (pse P), .int (pme P), .int (pru P)])), (q1, .inl (G.2.1, 8, .inl (pki P))), (q2, .inl (G.2.1, 8, .inl (pci P))), (q3, .inl (G.2.1, 8, .inl (ppa P))), (q4, .inl (G.2.1, 8, .inl (pwo P)))]) := by
  refine CI.of (cc := cX0_countIn) (nL := 5) (by decide) rfl ⟨rfl, rfl⟩ (Nat.le_of_ble_eq_true rfl) ?_
  intro p e s m args below meth c Q A H0 hKs fin
  have i_X0 : ∀ w ∈ wsX00, w ∈ wsX0_countIn := by decide +kernel
  have i_X1 : ∀ w ∈ wsX10, w ∈ wsX0_countIn := by decide +kernel
  have w_1 : Jvm.Cond.fieldLink RX0 72 "NumberEleven$Plan" "callers" "I" ∈ wsX0_countIn := by decide +kernel
  have w_2 : Jvm.Cond.fieldLink RX0 9 "NumberEleven$Line" "state" "[I" ∈ wsX0_countIn := by decide +kernel
  refine V_lv (lv' := [(0, .ref h), (1, .ref q), (2, .int w)]) [0, 1, 2] rfl ?_
  refine V_iconst (v := 0) dX0_countIn_0 (by decide) ?_
  refine V_istore_n (lv' := [(3, .int 0), (0, .ref h), (1, .ref q), (2, .int w)]) dX0_countIn_1 rfl (by decide) rfl ?_
  refine V_iconst (v := 0) dX0_countIn_2 (by decide) ?_
  refine V_istore (lv' := [(4, .int 0), (3, .int 0), (0, .ref h), (1, .ref q), (2, .int w)]) dX0_countIn_3 (by decide) rfl ?_
  refine V_lv (lv' := [(0, .ref h), (1, .ref q), (2, .int w), (3, .int 0), (4, .int 0)]) [2, 3, 4, 1, 0] rfl ?_
  refine V_eq (ws' := [(h, .inr (0, [.ref h1, .ref h2, .ref h3, .ref h4, .int (lcg L), .int (lco L), .int (lmi L), .int (lse L), .int (lru L)])), (h1, .inl (G.2.1, 8, .inl (lst L))), (h2, .inl (G.2.1, 8, .inl (lwa L))), (h3, .inl (G.2.1, 8, .inl (lca L))), (h4, .inl (G.2.1, 8, .inl (lti L))), (q, .inr (1, [.ref q1, .ref q2, .ref q3, .ref q4, .int (nI (pN P)), .int (pse P), .int (pme P), .int (pru P)])), (q1, .inl (G.2.1, 8, .inl (pki P))), (q2, .inl (G.2.1, 8, .inl (pci P))), (q3, .inl (G.2.1, 8, .inl (ppa P))), (q4, .inl (G.2.1, 8, .inl (pwo P)))]) (lv' := [(0, .ref h), (1, .ref q), (2, .int w), (3, .int (it (cntB (lst L) w) 0 0)), (4, .int (nI 0))]) (rfl) (rfl) ?_
  refine V_for (N := (pN P)) (fun i => [(h, .inr (0, [.ref h1, .ref h2, .ref h3, .ref h4, .int (lcg L), .int (lco L), .int (lmi L), .int (lse L), .int (lru L)])), (h1, .inl (G.2.1, 8, .inl (lst L))), (h2, .inl (G.2.1, 8, .inl (lwa L))), (h3, .inl (G.2.1, 8, .inl (lca L))), (h4, .inl (G.2.1, 8, .inl (lti L))), (q, .inr (1, [.ref q1, .ref q2, .ref q3, .ref q4, .int (nI (pN P)), .int (pse P), .int (pme P), .int (pru P)])), (q1, .inl (G.2.1, 8, .inl (pki P))), (q2, .inl (G.2.1, 8, .inl (pci P))), (q3, .inl (G.2.1, 8, .inl (ppa P))), (q4, .inl (G.2.1, 8, .inl (pwo P)))]) (fun i => [(0, .ref h), (1, .ref q), (2, .int w), (3, .int (it (cntB (lst L) w) 0 i)), (4, .int (nI i))]) (fun i hi_5 ih_5 => ?_) ?_ _ 0 (Nat.zero_add _)
  · skip
    refine V_iload 4 dX0_countIn_5 rfl ?_
    refine V_aload_n 1 dX0_countIn_7 rfl rfl ?_
    refine V_get (ci := 1) (C := RX1) (T := TX1) (N := 8) i_X1 5 rfl rfl 4 (by decide) w_1 rfl rfl dX0_countIn_8 ?_
    refine V_icmp_ge 34 dX0_countIn_11 (by decide) (fun c_1 => absurd c_1 (nI_ge hi_5 (by omega))) (fun c_1 => ?_)
    refine V_aload_n 0 dX0_countIn_14 rfl rfl ?_
    refine V_get (ci := 0) (C := RX0) (T := TX0) (N := 9) i_X0 0 rfl rfl 0 (by decide) w_2 rfl rfl dX0_countIn_15 ?_
    refine V_iload 4 dX0_countIn_18 rfl ?_
    refine V_iald 1 (j := i) rfl rfl (by omega) (by decide) dX0_countIn_20 ?_
    refine V_iload_n 2 dX0_countIn_21 rfl rfl ?_
    refine V_icmp_ne 28 dX0_countIn_22 (by decide) (fun c_2 => ?_) (fun c_2 => ?_)
    · refine V_iinc 4 (v := (nI (i + 1))) (lv' := [(4, .int (nI (i + 1))), (0, .ref h), (1, .ref q), (2, .int w), (3, .int (it (cntB (lst L) w) 0 i))]) dX0_countIn_28 rfl (iinc_nI _) (by decide) rfl ?_
      refine V_goto 5 dX0_countIn_31 (by decide) ?_
      refine V_lv (lv' := [(0, .ref h), (1, .ref q), (2, .int w), (3, .int (it (cntB (lst L) w) 0 i)), (4, .int (nI (i + 1)))]) [1, 2, 3, 4, 0] rfl ?_
      have hF_3 : (it (cntB (lst L) w) 0 (i + 1)) = (it (cntB (lst L) w) 0 i) := by simp [it, cntB, c_1, c_2]
      exact V_eq (by first | rfl | (rw [hF_3]; done) | (rw [hF_3]; rfl) | (simp only [hF_3]; done)) (by first | rfl | (rw [hF_3]; done) | (rw [hF_3]; rfl) | (simp only [hF_3]; done)) ih_5
    · refine V_iinc 3 (v := ((it (cntB (lst L) w) 0 i) + 1)) (lv' := [(3, .int ((it (cntB (lst L) w) 0 i) + 1)), (0, .ref h), (1, .ref q), (2, .int w), (4, .int (nI i))]) dX0_countIn_25 rfl (iinc_1 _) (by decide) rfl ?_
      refine V_iinc 4 (v := (nI (i + 1))) (lv' := [(4, .int (nI (i + 1))), (3, .int ((it (cntB (lst L) w) 0 i) + 1)), (0, .ref h), (1, .ref q), (2, .int w)]) dX0_countIn_28 rfl (iinc_nI _) (by decide) rfl ?_
      refine V_goto 5 dX0_countIn_31 (by decide) ?_
      refine V_lv (lv' := [(0, .ref h), (1, .ref q), (2, .int w), (3, .int ((it (cntB (lst L) w) 0 i) + 1)), (4, .int (nI (i + 1)))]) [2, 3, 4, 1, 0] rfl ?_
      have hF_4 : (it (cntB (lst L) w) 0 (i + 1)) = ((it (cntB (lst L) w) 0 i) + 1) := by simp [it, cntB, c_1, c_2]
      exact V_eq (by first | rfl | (rw [hF_4]; done) | (rw [hF_4]; rfl) | (simp only [hF_4]; done)) (by first | rfl | (rw [hF_4]; done) | (rw [hF_4]; rfl) | (simp only [hF_4]; done)) ih_5
  · skip
    refine V_iload 4 dX0_countIn_5 rfl ?_
    refine V_aload_n 1 dX0_countIn_7 rfl rfl ?_
    refine V_get (ci := 1) (C := RX1) (T := TX1) (N := 8) i_X1 5 rfl rfl 4 (by decide) w_1 rfl rfl dX0_countIn_8 ?_
    refine V_icmp_ge 34 dX0_countIn_11 (by decide) (fun c_5 => ?_) (fun c_5 => absurd (Int32.le_refl _) c_5)
    refine V_iload_n 3 dX0_countIn_34 rfl rfl ?_
    exact fin _ _ _ _ dX0_countIn_35 rfl (by simp [cntF, b2i, Int32.not_lt, Int32.not_le, c_5]) () (rfl)
set_option maxHeartbeats 4000000 in
set_option maxRecDepth 100000 in
theorem k_X0_worthThrough (l : Launch) (G : GG) (h h1 h2 h3 h4 : Nat) (L : LnS) (q q1 q2 q3 q4 : Nat) (P : PlS) (hN : pN P ≤ 8) : CI l yX0_worthThrough wsX0_worthThrough ({ frames := 0, cells := 0, slots := 0, locals := 0 }) G [(h, .inr (0, [.ref h1, .ref h2, .ref h3, .ref h4, .int (lcg L), .int (lco L), .int (lmi L), .int (lse L), .int (lru L)])), (h1, .inl (G.2.1, 8, .inl (lst L))), (h2, .inl (G.2.1, 8, .inl (lwa L))), (h3, .inl (G.2.1, 8, .inl (lca L))), (h4, .inl (G.2.1, 8, .inl (lti L))), (q, .inr (1, [.ref q1, .ref q2, .ref q3, .ref q4, .int (nI (pN P)), .int (pse P), .int (pme P), .int (pru P)])), (q1, .inl (G.2.1, 8, .inl (pki P))), (q2, .inl (G.2.1, 8, .inl (pci P))), (q3, .inl (G.2.1, 8, .inl (ppa P))), (q4, .inl (G.2.1, 8, .inl (pwo P)))] [.ref h, .ref q] ((wthF P L)) (S := Unit) (fun _ => [(h, .inr (0, [.ref h1, .ref h2, .ref h3, .ref h4, .int (lcg L), .int (lco L), .int (lmi L), .int (lse L), .int (lru L)])), (h1, .inl (G.2.1, 8, .inl (lst L))), (h2, .inl (G.2.1, 8, .inl (lwa L))), (h3, .inl (G.2.1, 8, .inl (lca L))), (h4, .inl (G.2.1, 8, .inl (lti L))), (q, .inr (1, [.ref q1, .ref q2, .ref q3, .ref q4, .int (nI (pN P)), .int (pse P), .int (pme P), .int (pru P)])), (q1, .inl (G.2.1, 8, .inl (pki P))), (q2, .inl (G.2.1, 8, .inl (pci P))), (q3, .inl (G.2.1, 8, .inl (ppa P))), (q4, .inl (G.2.1, 8, .inl (pwo P)))]) := by
  refine CI.of (cc := cX0_worthThrough) (nL := 4) (by decide) rfl ⟨rfl, rfl⟩ (Nat.le_of_ble_eq_true rfl) ?_
  intro p e s m args below meth c Q A H0 hKs fin
  have i_X0 : ∀ w ∈ wsX00, w ∈ wsX0_worthThrough := by decide +kernel
  have i_X1 : ∀ w ∈ wsX10, w ∈ wsX0_worthThrough := by decide +kernel
  have w_1 : Jvm.Cond.fieldLink RX0 72 "NumberEleven$Plan" "callers" "I" ∈ wsX0_worthThrough := by decide +kernel
  have w_2 : Jvm.Cond.fieldLink RX0 9 "NumberEleven$Line" "state" "[I" ∈ wsX0_worthThrough := by decide +kernel
  have w_3 : Jvm.Cond.fieldLink RX0 101 "NumberEleven$Plan" "worth" "[I" ∈ wsX0_worthThrough := by decide +kernel
  refine V_lv (lv' := [(0, .ref h), (1, .ref q)]) [0, 1] rfl ?_
  refine V_iconst (v := 0) dX0_worthThrough_0 (by decide) ?_
  refine V_istore_n (lv' := [(2, .int 0), (0, .ref h), (1, .ref q)]) dX0_worthThrough_1 rfl (by decide) rfl ?_
  refine V_iconst (v := 0) dX0_worthThrough_2 (by decide) ?_
  refine V_istore_n (lv' := [(3, .int 0), (2, .int 0), (0, .ref h), (1, .ref q)]) dX0_worthThrough_3 rfl (by decide) rfl ?_
  refine V_lv (lv' := [(0, .ref h), (1, .ref q), (2, .int 0), (3, .int 0)]) [2, 3, 1, 0] rfl ?_
  refine V_eq (ws' := [(h, .inr (0, [.ref h1, .ref h2, .ref h3, .ref h4, .int (lcg L), .int (lco L), .int (lmi L), .int (lse L), .int (lru L)])), (h1, .inl (G.2.1, 8, .inl (lst L))), (h2, .inl (G.2.1, 8, .inl (lwa L))), (h3, .inl (G.2.1, 8, .inl (lca L))), (h4, .inl (G.2.1, 8, .inl (lti L))), (q, .inr (1, [.ref q1, .ref q2, .ref q3, .ref q4, .int (nI (pN P)), .int (pse P), .int (pme P), .int (pru P)])), (q1, .inl (G.2.1, 8, .inl (pki P))), (q2, .inl (G.2.1, 8, .inl (pci P))), (q3, .inl (G.2.1, 8, .inl (ppa P))), (q4, .inl (G.2.1, 8, .inl (pwo P)))]) (lv' := [(0, .ref h), (1, .ref q), (2, .int (it (wthB P L) 0 0)), (3, .int (nI 0))]) (rfl) (rfl) ?_
  refine V_for (N := (pN P)) (fun i => [(h, .inr (0, [.ref h1, .ref h2, .ref h3, .ref h4, .int (lcg L), .int (lco L), .int (lmi L), .int (lse L), .int (lru L)])), (h1, .inl (G.2.1, 8, .inl (lst L))), (h2, .inl (G.2.1, 8, .inl (lwa L))), (h3, .inl (G.2.1, 8, .inl (lca L))), (h4, .inl (G.2.1, 8, .inl (lti L))), (q, .inr (1, [.ref q1, .ref q2, .ref q3, .ref q4, .int (nI (pN P)), .int (pse P), .int (pme P), .int (pru P)])), (q1, .inl (G.2.1, 8, .inl (pki P))), (q2, .inl (G.2.1, 8, .inl (pci P))), (q3, .inl (G.2.1, 8, .inl (ppa P))), (q4, .inl (G.2.1, 8, .inl (pwo P)))]) (fun i => [(0, .ref h), (1, .ref q), (2, .int (it (wthB P L) 0 i)), (3, .int (nI i))]) (fun i hi_4 ih_4 => ?_) ?_ _ 0 (Nat.zero_add _)
  · skip
    refine V_iload_n 3 dX0_worthThrough_4 rfl rfl ?_
    refine V_aload_n 1 dX0_worthThrough_5 rfl rfl ?_
    refine V_get (ci := 1) (C := RX1) (T := TX1) (N := 8) i_X1 5 rfl rfl 4 (by decide) w_1 rfl rfl dX0_worthThrough_6 ?_
    refine V_icmp_ge 37 dX0_worthThrough_9 (by decide) (fun c_1 => absurd c_1 (nI_ge hi_4 (by omega))) (fun c_1 => ?_)
    refine V_aload_n 0 dX0_worthThrough_12 rfl rfl ?_
    refine V_get (ci := 0) (C := RX0) (T := TX0) (N := 9) i_X0 0 rfl rfl 0 (by decide) w_2 rfl rfl dX0_worthThrough_13 ?_
    refine V_iload_n 3 dX0_worthThrough_16 rfl rfl ?_
    refine V_iald 1 (j := i) rfl rfl (by omega) (by decide) dX0_worthThrough_17 ?_
    refine V_iconst (v := 3) dX0_worthThrough_18 (by decide) ?_
    refine V_icmp_ne 31 dX0_worthThrough_19 (by decide) (fun c_2 => ?_) (fun c_2 => ?_)
    · refine V_iinc 3 (v := (nI (i + 1))) (lv' := [(3, .int (nI (i + 1))), (0, .ref h), (1, .ref q), (2, .int (it (wthB P L) 0 i))]) dX0_worthThrough_31 rfl (iinc_nI _) (by decide) rfl ?_
      refine V_goto 4 dX0_worthThrough_34 (by decide) ?_
      refine V_lv (lv' := [(0, .ref h), (1, .ref q), (2, .int (it (wthB P L) 0 i)), (3, .int (nI (i + 1)))]) [1, 2, 3, 0] rfl ?_
      have hF_3 : (it (wthB P L) 0 (i + 1)) = (it (wthB P L) 0 i) := by simp [it, wthB, c_1, c_2]
      exact V_eq (by first | rfl | (rw [hF_3]; done) | (rw [hF_3]; rfl) | (simp only [hF_3]; done)) (by first | rfl | (rw [hF_3]; done) | (rw [hF_3]; rfl) | (simp only [hF_3]; done)) ih_4
    · refine V_iload_n 2 dX0_worthThrough_22 rfl rfl ?_
      refine V_aload_n 1 dX0_worthThrough_23 rfl rfl ?_
      refine V_get (ci := 1) (C := RX1) (T := TX1) (N := 8) i_X1 5 rfl rfl 3 (by decide) w_3 rfl rfl dX0_worthThrough_24 ?_
      refine V_iload_n 3 dX0_worthThrough_27 rfl rfl ?_
      refine V_iald 9 (j := i) rfl rfl (by omega) (by decide) dX0_worthThrough_28 ?_
      refine V_iadd dX0_worthThrough_29 ?_
      refine V_istore_n (lv' := [(2, .int ((it (wthB P L) 0 i) + ((pwo P) i))), (0, .ref h), (1, .ref q), (3, .int (nI i))]) dX0_worthThrough_30 rfl (by decide) rfl ?_
      refine V_iinc 3 (v := (nI (i + 1))) (lv' := [(3, .int (nI (i + 1))), (2, .int ((it (wthB P L) 0 i) + ((pwo P) i))), (0, .ref h), (1, .ref q)]) dX0_worthThrough_31 rfl (iinc_nI _) (by decide) rfl ?_
      refine V_goto 4 dX0_worthThrough_34 (by decide) ?_
      refine V_lv (lv' := [(0, .ref h), (1, .ref q), (2, .int ((it (wthB P L) 0 i) + ((pwo P) i))), (3, .int (nI (i + 1)))]) [2, 3, 1, 0] rfl ?_
      have hF_4 : (it (wthB P L) 0 (i + 1)) = ((it (wthB P L) 0 i) + ((pwo P) i)) := by simp [it, wthB, c_1, c_2]
      exact V_eq (by first | rfl | (rw [hF_4]; done) | (rw [hF_4]; rfl) | (simp only [hF_4]; done)) (by first | rfl | (rw [hF_4]; done) | (rw [hF_4]; rfl) | (simp only [hF_4]; done)) ih_4
  · skip
    refine V_iload_n 3 dX0_worthThrough_4 rfl rfl ?_
    refine V_aload_n 1 dX0_worthThrough_5 rfl rfl ?_
    refine V_get (ci := 1) (C := RX1) (T := TX1) (N := 8) i_X1 5 rfl rfl 4 (by decide) w_1 rfl rfl dX0_worthThrough_6 ?_
    refine V_icmp_ge 37 dX0_worthThrough_9 (by decide) (fun c_5 => ?_) (fun c_5 => absurd (Int32.le_refl _) c_5)
    refine V_iload_n 2 dX0_worthThrough_37 rfl rfl ?_
    exact fin _ _ _ _ dX0_worthThrough_38 rfl (by simp [wthF, b2i, Int32.not_lt, Int32.not_le, c_5]) () (rfl)
set_option maxHeartbeats 4000000 in
set_option maxRecDepth 100000 in
theorem k_X0_countAhead (l : Launch) (G : GG) (h h1 h2 h3 h4 : Nat) (L : LnS) (q q1 q2 q3 q4 : Nat) (P : PlS) (a : Nat) (hN : pN P ≤ 8) (ha8 : a < 8) : CI l yX0_countAhead wsX0_countAhead ({ frames := 1, cells := 0, slots := 0, locals := 23 }) G [(h, .inr (0, [.ref h1, .ref h2, .ref h3, .ref h4, .int (lcg L), .int (lco L), .int (lmi L), .int (lse L), .int (lru L)])), (h1, .inl (G.2.1, 8, .inl (lst L))), (h2, .inl (G.2.1, 8, .inl (lwa L))), (h3, .inl (G.2.1, 8, .inl (lca L))), (h4, .inl (G.2.1, 8, .inl (lti L))), (q, .inr (1, [.ref q1, .ref q2, .ref q3, .ref q4, .int (nI (pN P)), .int (pse P), .int (pme P), .int (pru P)])), (q1, .inl (G.2.1, 8, .inl (pki P))), (q2, .inl (G.2.1, 8, .inl (pci P))), (q3, .inl (G.2.1, 8, .inl (ppa P))), (q4, .inl (G.2.1, 8, .inl (pwo P)))] [.ref h, .ref q, .int (nI a)] ((cahF P L a)) (S := Unit) (fun _ => [(h, .inr (0, [.ref h1, .ref h2, .ref h3, .ref h4, .int (lcg L), .int (lco L), .int (lmi L), .int (lse L), .int (lru L)])), (h1, .inl (G.2.1, 8, .inl (lst L))), (h2, .inl (G.2.1, 8, .inl (lwa L))), (h3, .inl (G.2.1, 8, .inl (lca L))), (h4, .inl (G.2.1, 8, .inl (lti L))), (q, .inr (1, [.ref q1, .ref q2, .ref q3, .ref q4, .int (nI (pN P)), .int (pse P), .int (pme P), .int (pru P)])), (q1, .inl (G.2.1, 8, .inl (pki P))), (q2, .inl (G.2.1, 8, .inl (pci P))), (q3, .inl (G.2.1, 8, .inl (ppa P))), (q4, .inl (G.2.1, 8, .inl (pwo P)))]) := by
  refine CI.of (cc := cX0_countAhead) (nL := 5) (by decide) rfl ⟨rfl, rfl⟩ (Nat.le_of_ble_eq_true rfl) ?_
  intro p e s m args below meth c Q A H0 hKs fin
  have i_X0 : ∀ w ∈ wsX00, w ∈ wsX0_countAhead := by decide +kernel
  have i_X1 : ∀ w ∈ wsX10, w ∈ wsX0_countAhead := by decide +kernel
  have w_1 : Jvm.Cond.fieldLink RX0 72 "NumberEleven$Plan" "callers" "I" ∈ wsX0_countAhead := by decide +kernel
  have w_2 : Jvm.Cond.fieldLink RX0 9 "NumberEleven$Line" "state" "[I" ∈ wsX0_countAhead := by decide +kernel
  refine V_lv (lv' := [(0, .ref h), (1, .ref q), (2, .int (nI a))]) [0, 1, 2] rfl ?_
  refine V_iconst (v := 0) dX0_countAhead_0 (by decide) ?_
  refine V_istore_n (lv' := [(3, .int 0), (0, .ref h), (1, .ref q), (2, .int (nI a))]) dX0_countAhead_1 rfl (by decide) rfl ?_
  refine V_iconst (v := 0) dX0_countAhead_2 (by decide) ?_
  refine V_istore (lv' := [(4, .int 0), (3, .int 0), (0, .ref h), (1, .ref q), (2, .int (nI a))]) dX0_countAhead_3 (by decide) rfl ?_
  refine V_lv (lv' := [(0, .ref h), (1, .ref q), (2, .int (nI a)), (3, .int 0), (4, .int 0)]) [2, 3, 4, 1, 0] rfl ?_
  refine V_eq (ws' := [(h, .inr (0, [.ref h1, .ref h2, .ref h3, .ref h4, .int (lcg L), .int (lco L), .int (lmi L), .int (lse L), .int (lru L)])), (h1, .inl (G.2.1, 8, .inl (lst L))), (h2, .inl (G.2.1, 8, .inl (lwa L))), (h3, .inl (G.2.1, 8, .inl (lca L))), (h4, .inl (G.2.1, 8, .inl (lti L))), (q, .inr (1, [.ref q1, .ref q2, .ref q3, .ref q4, .int (nI (pN P)), .int (pse P), .int (pme P), .int (pru P)])), (q1, .inl (G.2.1, 8, .inl (pki P))), (q2, .inl (G.2.1, 8, .inl (pci P))), (q3, .inl (G.2.1, 8, .inl (ppa P))), (q4, .inl (G.2.1, 8, .inl (pwo P)))]) (lv' := [(0, .ref h), (1, .ref q), (2, .int (nI a)), (3, .int (it (cahB P L a) 0 0)), (4, .int (nI 0))]) (rfl) (rfl) ?_
  refine V_for (N := (pN P)) (fun i => [(h, .inr (0, [.ref h1, .ref h2, .ref h3, .ref h4, .int (lcg L), .int (lco L), .int (lmi L), .int (lse L), .int (lru L)])), (h1, .inl (G.2.1, 8, .inl (lst L))), (h2, .inl (G.2.1, 8, .inl (lwa L))), (h3, .inl (G.2.1, 8, .inl (lca L))), (h4, .inl (G.2.1, 8, .inl (lti L))), (q, .inr (1, [.ref q1, .ref q2, .ref q3, .ref q4, .int (nI (pN P)), .int (pse P), .int (pme P), .int (pru P)])), (q1, .inl (G.2.1, 8, .inl (pki P))), (q2, .inl (G.2.1, 8, .inl (pci P))), (q3, .inl (G.2.1, 8, .inl (ppa P))), (q4, .inl (G.2.1, 8, .inl (pwo P)))]) (fun i => [(0, .ref h), (1, .ref q), (2, .int (nI a)), (3, .int (it (cahB P L a) 0 i)), (4, .int (nI i))]) (fun i hi_5 ih_5 => ?_) ?_ _ 0 (Nat.zero_add _)
  · skip
    refine V_iload 4 dX0_countAhead_5 rfl ?_
    refine V_aload_n 1 dX0_countAhead_7 rfl rfl ?_
    refine V_get (ci := 1) (C := RX1) (T := TX1) (N := 8) i_X1 5 rfl rfl 4 (by decide) w_1 rfl rfl dX0_countAhead_8 ?_
    refine V_icmp_ge 45 dX0_countAhead_11 (by decide) (fun c_1 => absurd c_1 (nI_ge hi_5 (by omega))) (fun c_1 => ?_)
    refine V_aload_n 0 dX0_countAhead_14 rfl rfl ?_
    refine V_get (ci := 0) (C := RX0) (T := TX0) (N := 9) i_X0 0 rfl rfl 0 (by decide) w_2 rfl rfl dX0_countAhead_15 ?_
    refine V_iload 4 dX0_countAhead_18 rfl ?_
    refine V_iald 1 (j := i) rfl rfl (by omega) (by decide) dX0_countAhead_20 ?_
    refine V_iconst (v := 1) dX0_countAhead_21 (by decide) ?_
    refine V_icmp_ne 39 dX0_countAhead_22 (by decide) (fun c_2 => ?_) (fun c_2 => ?_)
    · refine V_iinc 4 (v := (nI (i + 1))) (lv' := [(4, .int (nI (i + 1))), (0, .ref h), (1, .ref q), (2, .int (nI a)), (3, .int (it (cahB P L a) 0 i))]) dX0_countAhead_39 rfl (iinc_nI _) (by decide) rfl ?_
      refine V_goto 5 dX0_countAhead_42 (by decide) ?_
      refine V_lv (lv' := [(0, .ref h), (1, .ref q), (2, .int (nI a)), (3, .int (it (cahB P L a) 0 i)), (4, .int (nI (i + 1)))]) [1, 2, 3, 4, 0] rfl ?_
      have hF_3 : (it (cahB P L a) 0 (i + 1)) = (it (cahB P L a) 0 i) := by simp [it, cahB, c_1, c_2]
      exact V_eq (by first | rfl | (rw [hF_3]; done) | (rw [hF_3]; rfl) | (simp only [hF_3]; done)) (by first | rfl | (rw [hF_3]; done) | (rw [hF_3]; rfl) | (simp only [hF_3]; done)) ih_5
    · refine V_aload_n 0 dX0_countAhead_25 rfl rfl ?_
      refine V_aload_n 1 dX0_countAhead_26 rfl rfl ?_
      refine V_iload 4 dX0_countAhead_27 rfl ?_
      refine V_iload_n 2 dX0_countAhead_29 rfl rfl ?_
      refine V_callVI (wr := []) (ws' := fun _ => [(h, .inr (0, [.ref h1, .ref h2, .ref h3, .ref h4, .int (lcg L), .int (lco L), .int (lmi L), .int (lse L), .int (lru L)])), (h1, .inl (G.2.1, 8, .inl (lst L))), (h2, .inl (G.2.1, 8, .inl (lwa L))), (h3, .inl (G.2.1, 8, .inl (lca L))), (h4, .inl (G.2.1, 8, .inl (lti L))), (q, .inr (1, [.ref q1, .ref q2, .ref q3, .ref q4, .int (nI (pN P)), .int (pse P), .int (pme P), .int (pru P)])), (q1, .inl (G.2.1, 8, .inl (pki P))), (q2, .inl (G.2.1, 8, .inl (pci P))), (q3, .inl (G.2.1, 8, .inl (ppa P))), (q4, .inl (G.2.1, 8, .inl (pwo P)))]) [.ref q, .int (nI i), .int (nI a)] [] 3 (k_X0_isAhead l G h h1 h2 h3 h4 L q q1 q2 q3 q4 P i a (by first | assumption | omega) (by first | assumption | omega)) 0 0 rfl rfl gX0_countAhead_X0_isAhead rfl ⟨rfl, rfl, Nat.le_of_ble_eq_true rfl, Nat.le_of_ble_eq_true rfl⟩ (by decide +kernel) rfl [0, 1, 2, 3, 4, 5, 6, 7, 8, 9] [] [0, 1, 2, 3, 4, 5, 6, 7, 8, 9] rfl rfl (by decide) (by decide) (fun _ => rfl) rfl (Nat.le_of_ble_eq_true rfl) dX0_countAhead_30 (fun _ => ?_)
      refine V_ifb_eq 39 dX0_countAhead_33 (by decide) (fun c_4 => ?_) (fun c_4 => ?_)
      · refine V_iinc 4 (v := (nI (i + 1))) (lv' := [(4, .int (nI (i + 1))), (0, .ref h), (1, .ref q), (2, .int (nI a)), (3, .int (it (cahB P L a) 0 i))]) dX0_countAhead_39 rfl (iinc_nI _) (by decide) rfl ?_
        refine V_goto 5 dX0_countAhead_42 (by decide) ?_
        refine V_lv (lv' := [(0, .ref h), (1, .ref q), (2, .int (nI a)), (3, .int (it (cahB P L a) 0 i)), (4, .int (nI (i + 1)))]) [1, 2, 3, 4, 0] rfl ?_
        have hF_5 : (it (cahB P L a) 0 (i + 1)) = (it (cahB P L a) 0 i) := by simp [it, cahB, c_1, c_2, c_4]
        exact V_eq (by first | rfl | (rw [hF_5]; done) | (rw [hF_5]; rfl) | (simp only [hF_5]; done)) (by first | rfl | (rw [hF_5]; done) | (rw [hF_5]; rfl) | (simp only [hF_5]; done)) ih_5
      · refine V_iinc 3 (v := ((it (cahB P L a) 0 i) + 1)) (lv' := [(3, .int ((it (cahB P L a) 0 i) + 1)), (0, .ref h), (1, .ref q), (2, .int (nI a)), (4, .int (nI i))]) dX0_countAhead_36 rfl (iinc_1 _) (by decide) rfl ?_
        refine V_iinc 4 (v := (nI (i + 1))) (lv' := [(4, .int (nI (i + 1))), (3, .int ((it (cahB P L a) 0 i) + 1)), (0, .ref h), (1, .ref q), (2, .int (nI a))]) dX0_countAhead_39 rfl (iinc_nI _) (by decide) rfl ?_
        refine V_goto 5 dX0_countAhead_42 (by decide) ?_
        refine V_lv (lv' := [(0, .ref h), (1, .ref q), (2, .int (nI a)), (3, .int ((it (cahB P L a) 0 i) + 1)), (4, .int (nI (i + 1)))]) [2, 3, 4, 1, 0] rfl ?_
        have hF_6 : (it (cahB P L a) 0 (i + 1)) = ((it (cahB P L a) 0 i) + 1) := by simp [it, cahB, c_1, c_2, c_4]
        exact V_eq (by first | rfl | (rw [hF_6]; done) | (rw [hF_6]; rfl) | (simp only [hF_6]; done)) (by first | rfl | (rw [hF_6]; done) | (rw [hF_6]; rfl) | (simp only [hF_6]; done)) ih_5
  · skip
    refine V_iload 4 dX0_countAhead_5 rfl ?_
    refine V_aload_n 1 dX0_countAhead_7 rfl rfl ?_
    refine V_get (ci := 1) (C := RX1) (T := TX1) (N := 8) i_X1 5 rfl rfl 4 (by decide) w_1 rfl rfl dX0_countAhead_8 ?_
    refine V_icmp_ge 45 dX0_countAhead_11 (by decide) (fun c_7 => ?_) (fun c_7 => absurd (Int32.le_refl _) c_7)
    refine V_iload_n 3 dX0_countAhead_45 rfl rfl ?_
    exact fin _ _ _ _ dX0_countAhead_46 rfl (by simp [cahF, b2i, Int32.not_lt, Int32.not_le, c_7]) () (rfl)
set_option maxHeartbeats 4000000 in
set_option maxRecDepth 100000 in
theorem k_X0_waitAMinute (l : Launch) (G : GG) (h h1 h2 h3 h4 : Nat) (L : LnS) (q q1 q2 q3 q4 : Nat) (P : PlS) (hN : pN P ≤ 8) : CV l yX0_waitAMinute wsX0_waitAMinute ({ frames := 0, cells := 0, slots := 0, locals := 0 }) G [(h, .inr (0, [.ref h1, .ref h2, .ref h3, .ref h4, .int (lcg L), .int (lco L), .int (lmi L), .int (lse L), .int (lru L)])), (h1, .inl (G.2.1, 8, .inl (lst L))), (h2, .inl (G.2.1, 8, .inl (lwa L))), (h3, .inl (G.2.1, 8, .inl (lca L))), (h4, .inl (G.2.1, 8, .inl (lti L))), (q, .inr (1, [.ref q1, .ref q2, .ref q3, .ref q4, .int (nI (pN P)), .int (pse P), .int (pme P), .int (pru P)])), (q1, .inl (G.2.1, 8, .inl (pki P))), (q2, .inl (G.2.1, 8, .inl (pci P))), (q3, .inl (G.2.1, 8, .inl (ppa P))), (q4, .inl (G.2.1, 8, .inl (pwo P)))] [.ref h, .ref q] (S := Unit) (fun _ => [(h, .inr (0, [.ref h1, .ref h2, .ref h3, .ref h4, .int (lcg (wtF P L)), .int (lco (wtF P L)), .int (lmi (wtF P L)), .int (lse (wtF P L)), .int (lru (wtF P L))])), (h1, .inl (G.2.1, 8, .inl (lst (wtF P L)))), (h2, .inl (G.2.1, 8, .inl (lwa (wtF P L)))), (h3, .inl (G.2.1, 8, .inl (lca (wtF P L)))), (h4, .inl (G.2.1, 8, .inl (lti (wtF P L)))), (q, .inr (1, [.ref q1, .ref q2, .ref q3, .ref q4, .int (nI (pN P)), .int (pse P), .int (pme P), .int (pru P)])), (q1, .inl (G.2.1, 8, .inl (pki P))), (q2, .inl (G.2.1, 8, .inl (pci P))), (q3, .inl (G.2.1, 8, .inl (ppa P))), (q4, .inl (G.2.1, 8, .inl (pwo P)))]) := by
  refine CV.of (cc := cX0_waitAMinute) (nL := 3) (by decide) rfl ⟨rfl, rfl⟩ (Nat.le_of_ble_eq_true rfl) ?_
  intro p e s m args below meth c Q A H0 hKs fin
  have i_X0 : ∀ w ∈ wsX00, w ∈ wsX0_waitAMinute := by decide +kernel
  have i_X1 : ∀ w ∈ wsX10, w ∈ wsX0_waitAMinute := by decide +kernel
  have w_1 : Jvm.Cond.fieldLink RX0 72 "NumberEleven$Plan" "callers" "I" ∈ wsX0_waitAMinute := by decide +kernel
  have w_2 : Jvm.Cond.fieldLink RX0 9 "NumberEleven$Line" "state" "[I" ∈ wsX0_waitAMinute := by decide +kernel
  have w_3 : Jvm.Cond.fieldLink RX0 15 "NumberEleven$Line" "waited" "[I" ∈ wsX0_waitAMinute := by decide +kernel
  refine V_lv (lv' := [(0, .ref h), (1, .ref q)]) [0, 1] rfl ?_
  refine V_iconst (v := 0) dX0_waitAMinute_0 (by decide) ?_
  refine V_istore_n (lv' := [(2, .int 0), (0, .ref h), (1, .ref q)]) dX0_waitAMinute_1 rfl (by decide) rfl ?_
  refine V_lv (lv' := [(0, .ref h), (1, .ref q), (2, .int 0)]) [1, 2, 0] rfl ?_
  refine V_eq (ws' := [(h, .inr (0, [.ref h1, .ref h2, .ref h3, .ref h4, .int (lcg (it wtB L 0)), .int (lco (it wtB L 0)), .int (lmi (it wtB L 0)), .int (lse (it wtB L 0)), .int (lru (it wtB L 0))])), (h1, .inl (G.2.1, 8, .inl (lst (it wtB L 0)))), (h2, .inl (G.2.1, 8, .inl (lwa (it wtB L 0)))), (h3, .inl (G.2.1, 8, .inl (lca (it wtB L 0)))), (h4, .inl (G.2.1, 8, .inl (lti (it wtB L 0)))), (q, .inr (1, [.ref q1, .ref q2, .ref q3, .ref q4, .int (nI (pN P)), .int (pse P), .int (pme P), .int (pru P)])), (q1, .inl (G.2.1, 8, .inl (pki P))), (q2, .inl (G.2.1, 8, .inl (pci P))), (q3, .inl (G.2.1, 8, .inl (ppa P))), (q4, .inl (G.2.1, 8, .inl (pwo P)))]) (lv' := [(0, .ref h), (1, .ref q), (2, .int (nI 0))]) (rfl) (rfl) ?_
  refine V_for (N := (pN P)) (fun i => [(h, .inr (0, [.ref h1, .ref h2, .ref h3, .ref h4, .int (lcg (it wtB L i)), .int (lco (it wtB L i)), .int (lmi (it wtB L i)), .int (lse (it wtB L i)), .int (lru (it wtB L i))])), (h1, .inl (G.2.1, 8, .inl (lst (it wtB L i)))), (h2, .inl (G.2.1, 8, .inl (lwa (it wtB L i)))), (h3, .inl (G.2.1, 8, .inl (lca (it wtB L i)))), (h4, .inl (G.2.1, 8, .inl (lti (it wtB L i)))), (q, .inr (1, [.ref q1, .ref q2, .ref q3, .ref q4, .int (nI (pN P)), .int (pse P), .int (pme P), .int (pru P)])), (q1, .inl (G.2.1, 8, .inl (pki P))), (q2, .inl (G.2.1, 8, .inl (pci P))), (q3, .inl (G.2.1, 8, .inl (ppa P))), (q4, .inl (G.2.1, 8, .inl (pwo P)))]) (fun i => [(0, .ref h), (1, .ref q), (2, .int (nI i))]) (fun i hi_2 ih_2 => ?_) ?_ _ 0 (Nat.zero_add _)
  · skip
    refine V_iload_n 2 dX0_waitAMinute_2 rfl rfl ?_
    refine V_aload_n 1 dX0_waitAMinute_3 rfl rfl ?_
    refine V_get (ci := 1) (C := RX1) (T := TX1) (N := 8) i_X1 5 rfl rfl 4 (by decide) w_1 rfl rfl dX0_waitAMinute_4 ?_
    refine V_icmp_ge 36 dX0_waitAMinute_7 (by decide) (fun c_1 => absurd c_1 (nI_ge hi_2 (by omega))) (fun c_1 => ?_)
    refine V_aload_n 0 dX0_waitAMinute_10 rfl rfl ?_
    refine V_get (ci := 0) (C := RX0) (T := TX0) (N := 9) i_X0 0 rfl rfl 0 (by decide) w_2 rfl rfl dX0_waitAMinute_11 ?_
    refine V_iload_n 2 dX0_waitAMinute_14 rfl rfl ?_
    refine V_iald 1 (j := i) rfl rfl (by omega) (by decide) dX0_waitAMinute_15 ?_
    refine V_iconst (v := 1) dX0_waitAMinute_16 (by decide) ?_
    refine V_icmp_ne 30 dX0_waitAMinute_17 (by decide) (fun c_2 => ?_) (fun c_2 => ?_)
    · refine V_iinc 2 (v := (nI (i + 1))) (lv' := [(2, .int (nI (i + 1))), (0, .ref h), (1, .ref q)]) dX0_waitAMinute_30 rfl (iinc_nI _) (by decide) rfl ?_
      refine V_goto 2 dX0_waitAMinute_33 (by decide) ?_
      refine V_lv (lv' := [(0, .ref h), (1, .ref q), (2, .int (nI (i + 1)))]) [1, 2, 0] rfl ?_
      have hF_3 : (it wtB L (i + 1)) = (it wtB L i) := by simp [it, wtB, c_1, c_2]
      exact V_eq (by first | rfl | (rw [hF_3]; done) | (rw [hF_3]; rfl) | (simp only [hF_3]; done)) (by first | rfl | (rw [hF_3]; done) | (rw [hF_3]; rfl) | (simp only [hF_3]; done)) ih_2
    · refine V_aload_n 0 dX0_waitAMinute_20 rfl rfl ?_
      refine V_get (ci := 0) (C := RX0) (T := TX0) (N := 9) i_X0 0 rfl rfl 1 (by decide) w_3 rfl rfl dX0_waitAMinute_21 ?_
      refine V_iload_n 2 dX0_waitAMinute_24 rfl rfl ?_
      refine V_dup2 dX0_waitAMinute_25 rfl rfl ?_
      refine V_iald 2 (j := i) rfl rfl (by omega) (by decide) dX0_waitAMinute_26 ?_
      refine V_iconst (v := 1) dX0_waitAMinute_27 (by decide) ?_
      refine V_iadd dX0_waitAMinute_28 ?_
      refine V_iast (ws' := [(h, .inr (0, [.ref h1, .ref h2, .ref h3, .ref h4, .int (lcg (it wtB L i)), .int (lco (it wtB L i)), .int (lmi (it wtB L i)), .int (lse (it wtB L i)), .int (lru (it wtB L i))])), (h1, .inl (G.2.1, 8, .inl (lst (it wtB L i)))), (h2, .inl (G.2.1, 8, .inl (upd (lwa (it wtB L i)) i (((lwa (it wtB L i)) i) + 1)))), (h3, .inl (G.2.1, 8, .inl (lca (it wtB L i)))), (h4, .inl (G.2.1, 8, .inl (lti (it wtB L i)))), (q, .inr (1, [.ref q1, .ref q2, .ref q3, .ref q4, .int (nI (pN P)), .int (pse P), .int (pme P), .int (pru P)])), (q1, .inl (G.2.1, 8, .inl (pki P))), (q2, .inl (G.2.1, 8, .inl (pci P))), (q3, .inl (G.2.1, 8, .inl (ppa P))), (q4, .inl (G.2.1, 8, .inl (pwo P)))]) 2 (j := i) rfl rfl (by omega) (by decide) rfl dX0_waitAMinute_29 ?_
      refine V_iinc 2 (v := (nI (i + 1))) (lv' := [(2, .int (nI (i + 1))), (0, .ref h), (1, .ref q)]) dX0_waitAMinute_30 rfl (iinc_nI _) (by decide) rfl ?_
      refine V_goto 2 dX0_waitAMinute_33 (by decide) ?_
      refine V_lv (lv' := [(0, .ref h), (1, .ref q), (2, .int (nI (i + 1)))]) [1, 2, 0] rfl ?_
      have hF_4 : (it wtB L (i + 1)) = ((lst (it wtB L i)), (upd (lwa (it wtB L i)) i (((lwa (it wtB L i)) i) + 1)), (lca (it wtB L i)), (lti (it wtB L i)), (lcg (it wtB L i)), (lco (it wtB L i)), (lmi (it wtB L i)), (lse (it wtB L i)), (lru (it wtB L i))) := by simp [it, wtB, c_1, c_2]
      exact V_eq (by first | rfl | (rw [hF_4]; done) | (rw [hF_4]; rfl) | (simp only [hF_4]; done)) (by first | rfl | (rw [hF_4]; done) | (rw [hF_4]; rfl) | (simp only [hF_4]; done)) ih_2
  · skip
    refine V_iload_n 2 dX0_waitAMinute_2 rfl rfl ?_
    refine V_aload_n 1 dX0_waitAMinute_3 rfl rfl ?_
    refine V_get (ci := 1) (C := RX1) (T := TX1) (N := 8) i_X1 5 rfl rfl 4 (by decide) w_1 rfl rfl dX0_waitAMinute_4 ?_
    refine V_icmp_ge 36 dX0_waitAMinute_7 (by decide) (fun c_5 => ?_) (fun c_5 => absurd (Int32.le_refl _) c_5)
    have hF_6 : (wtF P L) = (it wtB L (pN P)) := by simp [wtF, c_5]
    exact fin _ _ _ dX0_waitAMinute_36 () (by rw [hF_6]; try rfl)
set_option maxHeartbeats 4000000 in
set_option maxRecDepth 100000 in
theorem k_X0_hangUp (l : Launch) (G : GG) (h h1 h2 h3 h4 : Nat) (L : LnS) (a : Nat) (ha8 : a < 8) : CV l yX0_hangUp wsX0_hangUp ({ frames := 0, cells := 0, slots := 0, locals := 0 }) G [(h, .inr (0, [.ref h1, .ref h2, .ref h3, .ref h4, .int (lcg L), .int (lco L), .int (lmi L), .int (lse L), .int (lru L)])), (h1, .inl (G.2.1, 8, .inl (lst L))), (h2, .inl (G.2.1, 8, .inl (lwa L))), (h3, .inl (G.2.1, 8, .inl (lca L))), (h4, .inl (G.2.1, 8, .inl (lti L)))] [.ref h, .int (nI a)] (S := Unit) (fun _ => [(h, .inr (0, [.ref h1, .ref h2, .ref h3, .ref h4, .int (lcg (hangF L a)), .int (lco (hangF L a)), .int (lmi (hangF L a)), .int (lse (hangF L a)), .int (lru (hangF L a))])), (h1, .inl (G.2.1, 8, .inl (lst (hangF L a)))), (h2, .inl (G.2.1, 8, .inl (lwa (hangF L a)))), (h3, .inl (G.2.1, 8, .inl (lca (hangF L a)))), (h4, .inl (G.2.1, 8, .inl (lti (hangF L a))))]) := by
  refine CV.of (cc := cX0_hangUp) (nL := 2) (by decide) rfl ⟨rfl, rfl⟩ (Nat.le_of_ble_eq_true rfl) ?_
  intro p e s m args below meth c Q A H0 hKs fin
  have i_X0 : ∀ w ∈ wsX00, w ∈ wsX0_hangUp := by decide +kernel
  have w_1 : Jvm.Cond.fieldLink RX0 9 "NumberEleven$Line" "state" "[I" ∈ wsX0_hangUp := by decide +kernel
  refine V_lv (lv' := [(0, .ref h), (1, .int (nI a))]) [0, 1] rfl ?_
  refine V_aload_n 0 dX0_hangUp_0 rfl rfl ?_
  refine V_get (ci := 0) (C := RX0) (T := TX0) (N := 9) i_X0 0 rfl rfl 0 (by decide) w_1 rfl rfl dX0_hangUp_1 ?_
  refine V_iload_n 1 dX0_hangUp_4 rfl rfl ?_
  refine V_iconst (v := 4) dX0_hangUp_5 (by decide) ?_
  refine V_iast (ws' := [(h, .inr (0, [.ref h1, .ref h2, .ref h3, .ref h4, .int (lcg L), .int (lco L), .int (lmi L), .int (lse L), .int (lru L)])), (h1, .inl (G.2.1, 8, .inl (upd (lst L) a 4))), (h2, .inl (G.2.1, 8, .inl (lwa L))), (h3, .inl (G.2.1, 8, .inl (lca L))), (h4, .inl (G.2.1, 8, .inl (lti L)))]) 1 (j := a) rfl rfl (by omega) (by decide) rfl dX0_hangUp_6 ?_
  have hF_1 : (hangF L a) = ((upd (lst L) a 4), (lwa L), (lca L), (lti L), (lcg L), (lco L), (lmi L), (lse L), (lru L)) := by rfl
  exact fin _ _ _ dX0_hangUp_7 () (by rw [hF_1]; try rfl)
set_option maxHeartbeats 4000000 in
set_option maxRecDepth 100000 in
theorem k_X0_callAgain (l : Launch) (G : GG) (h h1 h2 h3 h4 : Nat) (L : LnS) (a : Nat) (ha8 : a < 8) : CV l yX0_callAgain wsX0_callAgain ({ frames := 0, cells := 0, slots := 0, locals := 0 }) G [(h, .inr (0, [.ref h1, .ref h2, .ref h3, .ref h4, .int (lcg L), .int (lco L), .int (lmi L), .int (lse L), .int (lru L)])), (h1, .inl (G.2.1, 8, .inl (lst L))), (h2, .inl (G.2.1, 8, .inl (lwa L))), (h3, .inl (G.2.1, 8, .inl (lca L))), (h4, .inl (G.2.1, 8, .inl (lti L)))] [.ref h, .int (nI a)] (S := Unit) (fun _ => [(h, .inr (0, [.ref h1, .ref h2, .ref h3, .ref h4, .int (lcg (recF L a)), .int (lco (recF L a)), .int (lmi (recF L a)), .int (lse (recF L a)), .int (lru (recF L a))])), (h1, .inl (G.2.1, 8, .inl (lst (recF L a)))), (h2, .inl (G.2.1, 8, .inl (lwa (recF L a)))), (h3, .inl (G.2.1, 8, .inl (lca (recF L a)))), (h4, .inl (G.2.1, 8, .inl (lti (recF L a))))]) := by
  refine CV.of (cc := cX0_callAgain) (nL := 2) (by decide) rfl ⟨rfl, rfl⟩ (Nat.le_of_ble_eq_true rfl) ?_
  intro p e s m args below meth c Q A H0 hKs fin
  have i_X0 : ∀ w ∈ wsX00, w ∈ wsX0_callAgain := by decide +kernel
  have w_1 : Jvm.Cond.fieldLink RX0 9 "NumberEleven$Line" "state" "[I" ∈ wsX0_callAgain := by decide +kernel
  have w_2 : Jvm.Cond.fieldLink RX0 24 "NumberEleven$Line" "callingAgain" "I" ∈ wsX0_callAgain := by decide +kernel
  refine V_lv (lv' := [(0, .ref h), (1, .int (nI a))]) [0, 1] rfl ?_
  refine V_aload_n 0 dX0_callAgain_0 rfl rfl ?_
  refine V_get (ci := 0) (C := RX0) (T := TX0) (N := 9) i_X0 0 rfl rfl 0 (by decide) w_1 rfl rfl dX0_callAgain_1 ?_
  refine V_iload_n 1 dX0_callAgain_4 rfl rfl ?_
  refine V_iconst (v := 0) dX0_callAgain_5 (by decide) ?_
  refine V_iast (ws' := [(h, .inr (0, [.ref h1, .ref h2, .ref h3, .ref h4, .int (lcg L), .int (lco L), .int (lmi L), .int (lse L), .int (lru L)])), (h1, .inl (G.2.1, 8, .inl (upd (lst L) a 0))), (h2, .inl (G.2.1, 8, .inl (lwa L))), (h3, .inl (G.2.1, 8, .inl (lca L))), (h4, .inl (G.2.1, 8, .inl (lti L)))]) 1 (j := a) rfl rfl (by omega) (by decide) rfl dX0_callAgain_6 ?_
  refine V_aload_n 0 dX0_callAgain_7 rfl rfl ?_
  refine V_dup dX0_callAgain_8 rfl ?_
  refine V_get (ci := 0) (C := RX0) (T := TX0) (N := 9) i_X0 0 rfl rfl 4 (by decide) w_2 rfl rfl dX0_callAgain_9 ?_
  refine V_iconst (v := 1) dX0_callAgain_12 (by decide) ?_
  refine V_iload_n 1 dX0_callAgain_13 rfl rfl ?_
  refine V_ishl dX0_callAgain_14 ?_
  refine V_ior dX0_callAgain_15 ?_
  refine V_put (ws' := [(h, .inr (0, [.ref h1, .ref h2, .ref h3, .ref h4, .int ((lcg L) ||| (1 <<< ((nI a) &&& 31))), .int (lco L), .int (lmi L), .int (lse L), .int (lru L)])), (h1, .inl (G.2.1, 8, .inl (upd (lst L) a 0))), (h2, .inl (G.2.1, 8, .inl (lwa L))), (h3, .inl (G.2.1, 8, .inl (lca L))), (h4, .inl (G.2.1, 8, .inl (lti L)))]) (ci := 0) (C := RX0) (T := TX0) (N := 9) i_X0 tyX0 tyX0_ok nmX0 0 rfl rfl 4 (by decide) w_2 rfl rfl (by decide +kernel) (Nat.le_of_ble_eq_true rfl) rfl dX0_callAgain_16 ?_
  have hF_1 : (recF L a) = ((upd (lst L) a 0), (lwa L), (lca L), (lti L), ((lcg L) ||| (1 <<< ((nI a) &&& 31))), (lco L), (lmi L), (lse L), (lru L)) := by rfl
  exact fin _ _ _ dX0_callAgain_19 () (by rw [hF_1]; try rfl)
set_option maxHeartbeats 4000000 in
set_option maxRecDepth 100000 in
theorem k_X0_canHangUp (l : Launch) (G : GG) (h h1 h2 h3 h4 : Nat) (L : LnS) (a : Nat) (ha8 : a < 8) : CI l yX0_canHangUp wsX0_canHangUp ({ frames := 0, cells := 0, slots := 0, locals := 0 }) G [(h, .inr (0, [.ref h1, .ref h2, .ref h3, .ref h4, .int (lcg L), .int (lco L), .int (lmi L), .int (lse L), .int (lru L)])), (h1, .inl (G.2.1, 8, .inl (lst L))), (h2, .inl (G.2.1, 8, .inl (lwa L))), (h3, .inl (G.2.1, 8, .inl (lca L))), (h4, .inl (G.2.1, 8, .inl (lti L)))] [.ref h, .int (nI a)] ((b2i (decide (lst L a = 1)))) (S := Unit) (fun _ => [(h, .inr (0, [.ref h1, .ref h2, .ref h3, .ref h4, .int (lcg L), .int (lco L), .int (lmi L), .int (lse L), .int (lru L)])), (h1, .inl (G.2.1, 8, .inl (lst L))), (h2, .inl (G.2.1, 8, .inl (lwa L))), (h3, .inl (G.2.1, 8, .inl (lca L))), (h4, .inl (G.2.1, 8, .inl (lti L)))]) := by
  refine CI.of (cc := cX0_canHangUp) (nL := 2) (by decide) rfl ⟨rfl, rfl⟩ (Nat.le_of_ble_eq_true rfl) ?_
  intro p e s m args below meth c Q A H0 hKs fin
  have i_X0 : ∀ w ∈ wsX00, w ∈ wsX0_canHangUp := by decide +kernel
  have w_1 : Jvm.Cond.fieldLink RX0 9 "NumberEleven$Line" "state" "[I" ∈ wsX0_canHangUp := by decide +kernel
  refine V_lv (lv' := [(0, .ref h), (1, .int (nI a))]) [0, 1] rfl ?_
  refine V_aload_n 0 dX0_canHangUp_0 rfl rfl ?_
  refine V_get (ci := 0) (C := RX0) (T := TX0) (N := 9) i_X0 0 rfl rfl 0 (by decide) w_1 rfl rfl dX0_canHangUp_1 ?_
  refine V_iload_n 1 dX0_canHangUp_4 rfl rfl ?_
  refine V_iald 1 (j := a) rfl rfl (by omega) (by decide) dX0_canHangUp_5 ?_
  refine V_iconst (v := 1) dX0_canHangUp_6 (by decide) ?_
  refine V_icmp_ne 14 dX0_canHangUp_7 (by decide) (fun c_1 => ?_) (fun c_1 => ?_)
  · refine V_iconst (v := 0) dX0_canHangUp_14 (by decide) ?_
    exact fin _ _ _ _ dX0_canHangUp_15 rfl (by simp [b2i, Int32.not_lt, Int32.not_le, c_1]) () (rfl)
  · refine V_iconst (v := 1) dX0_canHangUp_10 (by decide) ?_
    refine V_goto 15 dX0_canHangUp_11 (by decide) ?_
    exact fin _ _ _ _ dX0_canHangUp_15 rfl (by simp [b2i, Int32.not_lt, Int32.not_le, c_1]) () (rfl)
set_option maxHeartbeats 4000000 in
set_option maxRecDepth 100000 in
theorem k_X0_canCallAgain (l : Launch) (G : GG) (h h1 h2 h3 h4 : Nat) (L : LnS) (a : Nat) (ha8 : a < 8) : CI l yX0_canCallAgain wsX0_canCallAgain ({ frames := 0, cells := 0, slots := 0, locals := 0 }) G [(h, .inr (0, [.ref h1, .ref h2, .ref h3, .ref h4, .int (lcg L), .int (lco L), .int (lmi L), .int (lse L), .int (lru L)])), (h1, .inl (G.2.1, 8, .inl (lst L))), (h2, .inl (G.2.1, 8, .inl (lwa L))), (h3, .inl (G.2.1, 8, .inl (lca L))), (h4, .inl (G.2.1, 8, .inl (lti L)))] [.ref h, .int (nI a)] ((b2i (decide (lst L a = 3 ∨ lst L a = 4)))) (S := Unit) (fun _ => [(h, .inr (0, [.ref h1, .ref h2, .ref h3, .ref h4, .int (lcg L), .int (lco L), .int (lmi L), .int (lse L), .int (lru L)])), (h1, .inl (G.2.1, 8, .inl (lst L))), (h2, .inl (G.2.1, 8, .inl (lwa L))), (h3, .inl (G.2.1, 8, .inl (lca L))), (h4, .inl (G.2.1, 8, .inl (lti L)))]) := by
  refine CI.of (cc := cX0_canCallAgain) (nL := 2) (by decide) rfl ⟨rfl, rfl⟩ (Nat.le_of_ble_eq_true rfl) ?_
  intro p e s m args below meth c Q A H0 hKs fin
  have i_X0 : ∀ w ∈ wsX00, w ∈ wsX0_canCallAgain := by decide +kernel
  have w_1 : Jvm.Cond.fieldLink RX0 9 "NumberEleven$Line" "state" "[I" ∈ wsX0_canCallAgain := by decide +kernel
  refine V_lv (lv' := [(0, .ref h), (1, .int (nI a))]) [0, 1] rfl ?_
  refine V_aload_n 0 dX0_canCallAgain_0 rfl rfl ?_
  refine V_get (ci := 0) (C := RX0) (T := TX0) (N := 9) i_X0 0 rfl rfl 0 (by decide) w_1 rfl rfl dX0_canCallAgain_1 ?_
  refine V_iload_n 1 dX0_canCallAgain_4 rfl rfl ?_
  refine V_iald 1 (j := a) rfl rfl (by omega) (by decide) dX0_canCallAgain_5 ?_
  refine V_iconst (v := 3) dX0_canCallAgain_6 (by decide) ?_
  refine V_icmp_eq 20 dX0_canCallAgain_7 (by decide) (fun c_1 => ?_) (fun c_1 => ?_)
  · refine V_iconst (v := 1) dX0_canCallAgain_20 (by decide) ?_
    refine V_goto 25 dX0_canCallAgain_21 (by decide) ?_
    exact fin _ _ _ _ dX0_canCallAgain_25 rfl (by simp [b2i, Int32.not_lt, Int32.not_le, c_1]) () (rfl)
  · refine V_aload_n 0 dX0_canCallAgain_10 rfl rfl ?_
    refine V_get (ci := 0) (C := RX0) (T := TX0) (N := 9) i_X0 0 rfl rfl 0 (by decide) w_1 rfl rfl dX0_canCallAgain_11 ?_
    refine V_iload_n 1 dX0_canCallAgain_14 rfl rfl ?_
    refine V_iald 1 (j := a) rfl rfl (by omega) (by decide) dX0_canCallAgain_15 ?_
    refine V_iconst (v := 4) dX0_canCallAgain_16 (by decide) ?_
    refine V_icmp_ne 24 dX0_canCallAgain_17 (by decide) (fun c_2 => ?_) (fun c_2 => ?_)
    · refine V_iconst (v := 0) dX0_canCallAgain_24 (by decide) ?_
      exact fin _ _ _ _ dX0_canCallAgain_25 rfl (by simp [b2i, Int32.not_lt, Int32.not_le, c_1, c_2]) () (rfl)
    · refine V_iconst (v := 1) dX0_canCallAgain_20 (by decide) ?_
      refine V_goto 25 dX0_canCallAgain_21 (by decide) ?_
      exact fin _ _ _ _ dX0_canCallAgain_25 rfl (by simp [b2i, Int32.not_lt, Int32.not_le, c_1, c_2]) () (rfl)
set_option maxHeartbeats 4000000 in
set_option maxRecDepth 100000 in
theorem k_X0_isToBeTaken (l : Launch) (G : GG) (h h1 h2 h3 h4 : Nat) (L : LnS) (a : Nat) (ha8 : a < 8) : CI l yX0_isToBeTaken wsX0_isToBeTaken ({ frames := 0, cells := 0, slots := 0, locals := 0 }) G [(h, .inr (0, [.ref h1, .ref h2, .ref h3, .ref h4, .int (lcg L), .int (lco L), .int (lmi L), .int (lse L), .int (lru L)])), (h1, .inl (G.2.1, 8, .inl (lst L))), (h2, .inl (G.2.1, 8, .inl (lwa L))), (h3, .inl (G.2.1, 8, .inl (lca L))), (h4, .inl (G.2.1, 8, .inl (lti L)))] [.ref h, .int (nI a)] ((b2i (decide (lst L a = 1 ∨ lst L a = 0)))) (S := Unit) (fun _ => [(h, .inr (0, [.ref h1, .ref h2, .ref h3, .ref h4, .int (lcg L), .int (lco L), .int (lmi L), .int (lse L), .int (lru L)])), (h1, .inl (G.2.1, 8, .inl (lst L))), (h2, .inl (G.2.1, 8, .inl (lwa L))), (h3, .inl (G.2.1, 8, .inl (lca L))), (h4, .inl (G.2.1, 8, .inl (lti L)))]) := by
  refine CI.of (cc := cX0_isToBeTaken) (nL := 2) (by decide) rfl ⟨rfl, rfl⟩ (Nat.le_of_ble_eq_true rfl) ?_
  intro p e s m args below meth c Q A H0 hKs fin
  have i_X0 : ∀ w ∈ wsX00, w ∈ wsX0_isToBeTaken := by decide +kernel
  have w_1 : Jvm.Cond.fieldLink RX0 9 "NumberEleven$Line" "state" "[I" ∈ wsX0_isToBeTaken := by decide +kernel
  refine V_lv (lv' := [(0, .ref h), (1, .int (nI a))]) [0, 1] rfl ?_
  refine V_aload_n 0 dX0_isToBeTaken_0 rfl rfl ?_
  refine V_get (ci := 0) (C := RX0) (T := TX0) (N := 9) i_X0 0 rfl rfl 0 (by decide) w_1 rfl rfl dX0_isToBeTaken_1 ?_
  refine V_iload_n 1 dX0_isToBeTaken_4 rfl rfl ?_
  refine V_iald 1 (j := a) rfl rfl (by omega) (by decide) dX0_isToBeTaken_5 ?_
  refine V_iconst (v := 1) dX0_isToBeTaken_6 (by decide) ?_
  refine V_icmp_eq 19 dX0_isToBeTaken_7 (by decide) (fun c_1 => ?_) (fun c_1 => ?_)
  · refine V_iconst (v := 1) dX0_isToBeTaken_19 (by decide) ?_
    refine V_goto 24 dX0_isToBeTaken_20 (by decide) ?_
    exact fin _ _ _ _ dX0_isToBeTaken_24 rfl (by simp [b2i, Int32.not_lt, Int32.not_le, c_1]) () (rfl)
  · refine V_aload_n 0 dX0_isToBeTaken_10 rfl rfl ?_
    refine V_get (ci := 0) (C := RX0) (T := TX0) (N := 9) i_X0 0 rfl rfl 0 (by decide) w_1 rfl rfl dX0_isToBeTaken_11 ?_
    refine V_iload_n 1 dX0_isToBeTaken_14 rfl rfl ?_
    refine V_iald 1 (j := a) rfl rfl (by omega) (by decide) dX0_isToBeTaken_15 ?_
    refine V_if_ne 23 dX0_isToBeTaken_16 (by decide) (fun c_2 => ?_) (fun c_2 => ?_)
    · refine V_iconst (v := 0) dX0_isToBeTaken_23 (by decide) ?_
      exact fin _ _ _ _ dX0_isToBeTaken_24 rfl (by simp [b2i, Int32.not_lt, Int32.not_le, c_1, c_2]) () (rfl)
    · refine V_iconst (v := 1) dX0_isToBeTaken_19 (by decide) ?_
      refine V_goto 24 dX0_isToBeTaken_20 (by decide) ?_
      exact fin _ _ _ _ dX0_isToBeTaken_24 rfl (by simp [b2i, Int32.not_lt, Int32.not_le, c_1, c_2]) () (rfl)
set_option maxHeartbeats 4000000 in
set_option maxRecDepth 100000 in
theorem k_X0_isTaken (l : Launch) (G : GG) (h h1 h2 h3 h4 : Nat) (L : LnS) (a : Nat) (ha8 : a < 8) : CI l yX0_isTaken wsX0_isTaken ({ frames := 0, cells := 0, slots := 0, locals := 0 }) G [(h, .inr (0, [.ref h1, .ref h2, .ref h3, .ref h4, .int (lcg L), .int (lco L), .int (lmi L), .int (lse L), .int (lru L)])), (h1, .inl (G.2.1, 8, .inl (lst L))), (h2, .inl (G.2.1, 8, .inl (lwa L))), (h3, .inl (G.2.1, 8, .inl (lca L))), (h4, .inl (G.2.1, 8, .inl (lti L)))] [.ref h, .int (nI a)] ((b2i (decide (lst L a = 2 ∨ lst L a = 3)))) (S := Unit) (fun _ => [(h, .inr (0, [.ref h1, .ref h2, .ref h3, .ref h4, .int (lcg L), .int (lco L), .int (lmi L), .int (lse L), .int (lru L)])), (h1, .inl (G.2.1, 8, .inl (lst L))), (h2, .inl (G.2.1, 8, .inl (lwa L))), (h3, .inl (G.2.1, 8, .inl (lca L))), (h4, .inl (G.2.1, 8, .inl (lti L)))]) := by
  refine CI.of (cc := cX0_isTaken) (nL := 2) (by decide) rfl ⟨rfl, rfl⟩ (Nat.le_of_ble_eq_true rfl) ?_
  intro p e s m args below meth c Q A H0 hKs fin
  have i_X0 : ∀ w ∈ wsX00, w ∈ wsX0_isTaken := by decide +kernel
  have w_1 : Jvm.Cond.fieldLink RX0 9 "NumberEleven$Line" "state" "[I" ∈ wsX0_isTaken := by decide +kernel
  refine V_lv (lv' := [(0, .ref h), (1, .int (nI a))]) [0, 1] rfl ?_
  refine V_aload_n 0 dX0_isTaken_0 rfl rfl ?_
  refine V_get (ci := 0) (C := RX0) (T := TX0) (N := 9) i_X0 0 rfl rfl 0 (by decide) w_1 rfl rfl dX0_isTaken_1 ?_
  refine V_iload_n 1 dX0_isTaken_4 rfl rfl ?_
  refine V_iald 1 (j := a) rfl rfl (by omega) (by decide) dX0_isTaken_5 ?_
  refine V_iconst (v := 2) dX0_isTaken_6 (by decide) ?_
  refine V_icmp_eq 20 dX0_isTaken_7 (by decide) (fun c_1 => ?_) (fun c_1 => ?_)
  · refine V_iconst (v := 1) dX0_isTaken_20 (by decide) ?_
    refine V_goto 25 dX0_isTaken_21 (by decide) ?_
    exact fin _ _ _ _ dX0_isTaken_25 rfl (by simp [b2i, Int32.not_lt, Int32.not_le, c_1]) () (rfl)
  · refine V_aload_n 0 dX0_isTaken_10 rfl rfl ?_
    refine V_get (ci := 0) (C := RX0) (T := TX0) (N := 9) i_X0 0 rfl rfl 0 (by decide) w_1 rfl rfl dX0_isTaken_11 ?_
    refine V_iload_n 1 dX0_isTaken_14 rfl rfl ?_
    refine V_iald 1 (j := a) rfl rfl (by omega) (by decide) dX0_isTaken_15 ?_
    refine V_iconst (v := 3) dX0_isTaken_16 (by decide) ?_
    refine V_icmp_ne 24 dX0_isTaken_17 (by decide) (fun c_2 => ?_) (fun c_2 => ?_)
    · refine V_iconst (v := 0) dX0_isTaken_24 (by decide) ?_
      exact fin _ _ _ _ dX0_isTaken_25 rfl (by simp [b2i, Int32.not_lt, Int32.not_le, c_1, c_2]) () (rfl)
    · refine V_iconst (v := 1) dX0_isTaken_20 (by decide) ?_
      refine V_goto 25 dX0_isTaken_21 (by decide) ?_
      exact fin _ _ _ _ dX0_isTaken_25 rfl (by simp [b2i, Int32.not_lt, Int32.not_le, c_1, c_2]) () (rfl)
set_option maxHeartbeats 4000000 in
set_option maxRecDepth 100000 in
theorem k_X0_hasLeft (l : Launch) (G : GG) (h h1 h2 h3 h4 : Nat) (L : LnS) (a : Nat) (ha8 : a < 8) : CI l yX0_hasLeft wsX0_hasLeft ({ frames := 0, cells := 0, slots := 0, locals := 0 }) G [(h, .inr (0, [.ref h1, .ref h2, .ref h3, .ref h4, .int (lcg L), .int (lco L), .int (lmi L), .int (lse L), .int (lru L)])), (h1, .inl (G.2.1, 8, .inl (lst L))), (h2, .inl (G.2.1, 8, .inl (lwa L))), (h3, .inl (G.2.1, 8, .inl (lca L))), (h4, .inl (G.2.1, 8, .inl (lti L)))] [.ref h, .int (nI a)] ((b2i (decide (lst L a = 3 ∨ lst L a = 4)))) (S := Unit) (fun _ => [(h, .inr (0, [.ref h1, .ref h2, .ref h3, .ref h4, .int (lcg L), .int (lco L), .int (lmi L), .int (lse L), .int (lru L)])), (h1, .inl (G.2.1, 8, .inl (lst L))), (h2, .inl (G.2.1, 8, .inl (lwa L))), (h3, .inl (G.2.1, 8, .inl (lca L))), (h4, .inl (G.2.1, 8, .inl (lti L)))]) := by
  refine CI.of (cc := cX0_hasLeft) (nL := 2) (by decide) rfl ⟨rfl, rfl⟩ (Nat.le_of_ble_eq_true rfl) ?_
  intro p e s m args below meth c Q A H0 hKs fin
  have i_X0 : ∀ w ∈ wsX00, w ∈ wsX0_hasLeft := by decide +kernel
  have w_1 : Jvm.Cond.fieldLink RX0 9 "NumberEleven$Line" "state" "[I" ∈ wsX0_hasLeft := by decide +kernel
  refine V_lv (lv' := [(0, .ref h), (1, .int (nI a))]) [0, 1] rfl ?_
  refine V_aload_n 0 dX0_hasLeft_0 rfl rfl ?_
  refine V_get (ci := 0) (C := RX0) (T := TX0) (N := 9) i_X0 0 rfl rfl 0 (by decide) w_1 rfl rfl dX0_hasLeft_1 ?_
  refine V_iload_n 1 dX0_hasLeft_4 rfl rfl ?_
  refine V_iald 1 (j := a) rfl rfl (by omega) (by decide) dX0_hasLeft_5 ?_
  refine V_iconst (v := 3) dX0_hasLeft_6 (by decide) ?_
  refine V_icmp_eq 20 dX0_hasLeft_7 (by decide) (fun c_1 => ?_) (fun c_1 => ?_)
  · refine V_iconst (v := 1) dX0_hasLeft_20 (by decide) ?_
    refine V_goto 25 dX0_hasLeft_21 (by decide) ?_
    exact fin _ _ _ _ dX0_hasLeft_25 rfl (by simp [b2i, Int32.not_lt, Int32.not_le, c_1]) () (rfl)
  · refine V_aload_n 0 dX0_hasLeft_10 rfl rfl ?_
    refine V_get (ci := 0) (C := RX0) (T := TX0) (N := 9) i_X0 0 rfl rfl 0 (by decide) w_1 rfl rfl dX0_hasLeft_11 ?_
    refine V_iload_n 1 dX0_hasLeft_14 rfl rfl ?_
    refine V_iald 1 (j := a) rfl rfl (by omega) (by decide) dX0_hasLeft_15 ?_
    refine V_iconst (v := 4) dX0_hasLeft_16 (by decide) ?_
    refine V_icmp_ne 24 dX0_hasLeft_17 (by decide) (fun c_2 => ?_) (fun c_2 => ?_)
    · refine V_iconst (v := 0) dX0_hasLeft_24 (by decide) ?_
      exact fin _ _ _ _ dX0_hasLeft_25 rfl (by simp [b2i, Int32.not_lt, Int32.not_le, c_1, c_2]) () (rfl)
    · refine V_iconst (v := 1) dX0_hasLeft_20 (by decide) ?_
      refine V_goto 25 dX0_hasLeft_21 (by decide) ?_
      exact fin _ _ _ _ dX0_hasLeft_25 rfl (by simp [b2i, Int32.not_lt, Int32.not_le, c_1, c_2]) () (rfl)
set_option maxHeartbeats 4000000 in
set_option maxRecDepth 100000 in
theorem k_X0_mostBorne (l : Launch) (G : GG) (q q1 q2 q3 q4 : Nat) (P : PlS) (a : Nat) (x : Int32) (ha8 : a < 8) : CI l yX0_mostBorne wsX0_mostBorne ({ frames := 1, cells := 0, slots := 0, locals := 13 }) G [(q, .inr (1, [.ref q1, .ref q2, .ref q3, .ref q4, .int (nI (pN P)), .int (pse P), .int (pme P), .int (pru P)])), (q1, .inl (G.2.1, 8, .inl (pki P))), (q2, .inl (G.2.1, 8, .inl (pci P))), (q3, .inl (G.2.1, 8, .inl (ppa P))), (q4, .inl (G.2.1, 8, .inl (pwo P)))] [.ref q, .int (nI a), .int x] ((mostF P a x)) (S := Unit) (fun _ => [(q, .inr (1, [.ref q1, .ref q2, .ref q3, .ref q4, .int (nI (pN P)), .int (pse P), .int (pme P), .int (pru P)])), (q1, .inl (G.2.1, 8, .inl (pki P))), (q2, .inl (G.2.1, 8, .inl (pci P))), (q3, .inl (G.2.1, 8, .inl (ppa P))), (q4, .inl (G.2.1, 8, .inl (pwo P)))]) := by
  refine CI.of (cc := cX0_mostBorne) (nL := 4) (by decide) rfl ⟨rfl, rfl⟩ (Nat.le_of_ble_eq_true rfl) ?_
  intro p e s m args below meth c Q A H0 hKs fin
  have i_X1 : ∀ w ∈ wsX10, w ∈ wsX0_mostBorne := by decide +kernel
  have w_1 : Jvm.Cond.fieldLink RX0 111 "NumberEleven$Plan" "patience" "[I" ∈ wsX0_mostBorne := by decide +kernel
  have w_2 : Jvm.Cond.fieldLink RX0 114 "NumberEleven$Plan" "kind" "[I" ∈ wsX0_mostBorne := by decide +kernel
  have w_3 : Jvm.Cond.methodLink RX0 117 Lib.Math.max.name ∈ wsX0_mostBorne := by decide +kernel
  have w_4 : Jvm.Cond.static Lib.Math.max.name ∈ wsX0_mostBorne := by decide +kernel
  have w_5 : Jvm.Cond.initialized "java/lang/Math" ∈ wsX0_mostBorne := by decide +kernel
  have w_6 : Jvm.Cond.code Lib.Math.max.name Lib.Math.max.code 2 (some .int) ∈ wsX0_mostBorne := by decide +kernel
  refine V_lv (lv' := [(0, .ref q), (1, .int (nI a)), (2, .int x)]) [0, 1, 2] rfl ?_
  refine V_aload_n 0 dX0_mostBorne_0 rfl rfl ?_
  refine V_get (ci := 1) (C := RX1) (T := TX1) (N := 8) i_X1 0 rfl rfl 2 (by decide) w_1 rfl rfl dX0_mostBorne_1 ?_
  refine V_iload_n 1 dX0_mostBorne_4 rfl rfl ?_
  refine V_iald 3 (j := a) rfl rfl (by omega) (by decide) dX0_mostBorne_5 ?_
  refine V_istore_n (lv' := [(3, .int ((ppa P) a)), (0, .ref q), (1, .int (nI a)), (2, .int x)]) dX0_mostBorne_6 rfl (by decide) rfl ?_
  refine V_aload_n 1 dX0_mostBorne_7 rfl rfl ?_
  refine V_get (ci := 1) (C := RX1) (T := TX1) (N := 8) i_X1 0 rfl rfl 0 (by decide) w_2 rfl rfl dX0_mostBorne_8 ?_
  refine V_iload_n 2 dX0_mostBorne_11 rfl rfl ?_
  refine V_iald 1 (j := a) rfl rfl (by omega) (by decide) dX0_mostBorne_12 ?_
  by_cases c_1 : ((pki P) a) = 1
  · refine V_st (st' := [.int 1]) (by rw [c_1]) ?_
    refine V_tableIn (off := 27) 40 dX0_mostBorne_13 (by decide) (by decide) rfl (by decide) ?_
    refine V_iload_n 3 dX0_mostBorne_40 rfl rfl ?_
    refine V_iconst (v := 2) dX0_mostBorne_41 (by decide) ?_
    refine V_icmp_lt 49 dX0_mostBorne_42 (by decide) (fun c_2 => ?_) (fun c_2 => ?_)
    · refine V_bipush (v := (-4)) dX0_mostBorne_49 (by decide) ?_
      exact fin _ _ _ _ dX0_mostBorne_51 rfl (by simp [mostF, b2i, Int32.not_lt, Int32.not_le, c_1, c_2]) () (rfl)
    · refine V_iload_n 0 dX0_mostBorne_45 rfl rfl ?_
      refine V_goto 51 dX0_mostBorne_46 (by decide) ?_
      exact fin _ _ _ _ dX0_mostBorne_51 rfl (by simp [mostF, b2i, Int32.not_lt, Int32.not_le, c_1, c_2]) () (rfl)
  by_cases c_3 : ((pki P) a) = 2
  · refine V_st (st' := [.int 2]) (by rw [c_3]) ?_
    refine V_tableIn (off := 39) 52 dX0_mostBorne_13 (by decide) (by decide) rfl (by decide) ?_
    refine V_iconst (v := 2) dX0_mostBorne_52 (by decide) ?_
    refine V_iload_n 0 dX0_mostBorne_53 rfl rfl ?_
    refine V_imul dX0_mostBorne_54 ?_
    exact fin _ _ _ _ dX0_mostBorne_55 rfl (by simp [mostF, b2i, Int32.not_lt, Int32.not_le, c_1, c_3]) () (rfl)
  by_cases c_4 : ((pki P) a) = 3
  · refine V_st (st' := [.int 3]) (by rw [c_4]) ?_
    refine V_tableIn (off := 43) 56 dX0_mostBorne_13 (by decide) (by decide) rfl (by decide) ?_
    refine V_iconst (v := 1) dX0_mostBorne_56 (by decide) ?_
    refine V_iload_n 0 dX0_mostBorne_57 rfl rfl ?_
    refine V_iload_n 3 dX0_mostBorne_58 rfl rfl ?_
    refine V_isub dX0_mostBorne_59 ?_
    refine V_mmax dX0_mostBorne_60 w_3 w_4 w_5 w_6 (Nat.le_of_ble_eq_true rfl) (Nat.le_of_ble_eq_true rfl) ?_
    exact fin _ _ _ _ dX0_mostBorne_63 rfl (by simp [mostF, b2i, Int32.not_lt, Int32.not_le, c_1, c_3, c_4]) () (rfl)
  refine V_tableOut 64 dX0_mostBorne_13 (by have h0 := i32_ne c_1; have h1 := i32_ne c_3; have h2 := i32_ne c_4; simp at h0 h1 h2; omega) (by decide) ?_
  refine V_iload_n 0 dX0_mostBorne_64 rfl rfl ?_
  exact fin _ _ _ _ dX0_mostBorne_65 rfl (by simp [mostF, b2i, Int32.not_lt, Int32.not_le, c_1, c_3, c_4]) () (rfl)
set_option maxHeartbeats 4000000 in
set_option maxRecDepth 100000 in
theorem k_X0_nextOne (l : Launch) (G : GG) (h h1 h2 h3 h4 : Nat) (L : LnS) (q q1 q2 q3 q4 : Nat) (P : PlS) (hN : pN P ≤ 8) : CI l yX0_nextOne wsX0_nextOne ({ frames := 1, cells := 0, slots := 0, locals := 23 }) G [(h, .inr (0, [.ref h1, .ref h2, .ref h3, .ref h4, .int (lcg L), .int (lco L), .int (lmi L), .int (lse L), .int (lru L)])), (h1, .inl (G.2.1, 8, .inl (lst L))), (h2, .inl (G.2.1, 8, .inl (lwa L))), (h3, .inl (G.2.1, 8, .inl (lca L))), (h4, .inl (G.2.1, 8, .inl (lti L))), (q, .inr (1, [.ref q1, .ref q2, .ref q3, .ref q4, .int (nI (pN P)), .int (pse P), .int (pme P), .int (pru P)])), (q1, .inl (G.2.1, 8, .inl (pki P))), (q2, .inl (G.2.1, 8, .inl (pci P))), (q3, .inl (G.2.1, 8, .inl (ppa P))), (q4, .inl (G.2.1, 8, .inl (pwo P)))] [.ref h, .ref q] ((oI (nxF P L))) (S := Unit) (fun _ => [(h, .inr (0, [.ref h1, .ref h2, .ref h3, .ref h4, .int (lcg L), .int (lco L), .int (lmi L), .int (lse L), .int (lru L)])), (h1, .inl (G.2.1, 8, .inl (lst L))), (h2, .inl (G.2.1, 8, .inl (lwa L))), (h3, .inl (G.2.1, 8, .inl (lca L))), (h4, .inl (G.2.1, 8, .inl (lti L))), (q, .inr (1, [.ref q1, .ref q2, .ref q3, .ref q4, .int (nI (pN P)), .int (pse P), .int (pme P), .int (pru P)])), (q1, .inl (G.2.1, 8, .inl (pki P))), (q2, .inl (G.2.1, 8, .inl (pci P))), (q3, .inl (G.2.1, 8, .inl (ppa P))), (q4, .inl (G.2.1, 8, .inl (pwo P)))]) := by
  refine CI.of (cc := cX0_nextOne) (nL := 4) (by decide) rfl ⟨rfl, rfl⟩ (Nat.le_of_ble_eq_true rfl) ?_
  intro p e s m args below meth c Q A H0 hKs fin
  have i_X0 : ∀ w ∈ wsX00, w ∈ wsX0_nextOne := by decide +kernel
  have i_X1 : ∀ w ∈ wsX10, w ∈ wsX0_nextOne := by decide +kernel
  have w_1 : Jvm.Cond.fieldLink RX0 72 "NumberEleven$Plan" "callers" "I" ∈ wsX0_nextOne := by decide +kernel
  have w_2 : Jvm.Cond.fieldLink RX0 9 "NumberEleven$Line" "state" "[I" ∈ wsX0_nextOne := by decide +kernel
  refine V_lv (lv' := [(0, .ref h), (1, .ref q)]) [0, 1] rfl ?_
  refine V_bipush (v := (-4)) dX0_nextOne_0 (by decide) ?_
  refine V_istore_n (lv' := [(2, .int (-4)), (0, .ref h), (1, .ref q)]) dX0_nextOne_2 rfl (by decide) rfl ?_
  refine V_iconst (v := 0) dX0_nextOne_3 (by decide) ?_
  refine V_istore_n (lv' := [(3, .int 0), (2, .int (-4)), (0, .ref h), (1, .ref q)]) dX0_nextOne_4 rfl (by decide) rfl ?_
  refine V_lv (lv' := [(0, .ref h), (1, .ref q), (2, .int (-4)), (3, .int 0)]) [2, 3, 1, 0] rfl ?_
  refine V_eq (ws' := [(h, .inr (0, [.ref h1, .ref h2, .ref h3, .ref h4, .int (lcg L), .int (lco L), .int (lmi L), .int (lse L), .int (lru L)])), (h1, .inl (G.2.1, 8, .inl (lst L))), (h2, .inl (G.2.1, 8, .inl (lwa L))), (h3, .inl (G.2.1, 8, .inl (lca L))), (h4, .inl (G.2.1, 8, .inl (lti L))), (q, .inr (1, [.ref q1, .ref q2, .ref q3, .ref q4, .int (nI (pN P)), .int (pse P), .int (pme P), .int (pru P)])), (q1, .inl (G.2.1, 8, .inl (pki P))), (q2, .inl (G.2.1, 8, .inl (pci P))), (q3, .inl (G.2.1, 8, .inl (ppa P))), (q4, .inl (G.2.1, 8, .inl (pwo P)))]) (lv' := [(0, .ref h), (1, .ref q), (2, .int (oI (it (nxB P L) none 0))), (3, .int (nI 0))]) (rfl) (rfl) ?_
  refine V_for (N := (pN P)) (fun i => [(h, .inr (0, [.ref h1, .ref h2, .ref h3, .ref h4, .int (lcg L), .int (lco L), .int (lmi L), .int (lse L), .int (lru L)])), (h1, .inl (G.2.1, 8, .inl (lst L))), (h2, .inl (G.2.1, 8, .inl (lwa L))), (h3, .inl (G.2.1, 8, .inl (lca L))), (h4, .inl (G.2.1, 8, .inl (lti L))), (q, .inr (1, [.ref q1, .ref q2, .ref q3, .ref q4, .int (nI (pN P)), .int (pse P), .int (pme P), .int (pru P)])), (q1, .inl (G.2.1, 8, .inl (pki P))), (q2, .inl (G.2.1, 8, .inl (pci P))), (q3, .inl (G.2.1, 8, .inl (ppa P))), (q4, .inl (G.2.1, 8, .inl (pwo P)))]) (fun i => [(0, .ref h), (1, .ref q), (2, .int (oI (it (nxB P L) none i))), (3, .int (nI i))]) (fun i hi_5 ih_5 => ?_) ?_ _ 0 (Nat.zero_add _)
  · skip
    refine V_iload_n 3 dX0_nextOne_5 rfl rfl ?_
    refine V_aload_n 1 dX0_nextOne_6 rfl rfl ?_
    refine V_get (ci := 1) (C := RX1) (T := TX1) (N := 8) i_X1 5 rfl rfl 4 (by decide) w_1 rfl rfl dX0_nextOne_7 ?_
    refine V_icmp_ge 47 dX0_nextOne_10 (by decide) (fun c_1 => absurd c_1 (nI_ge hi_5 (by omega))) (fun c_1 => ?_)
    rcases ho_2 : it (nxB P L) none i with _ | k_2
    · refine V_lv (lv' := [(0, .ref h), (1, .ref q), (2, .int (-4)), (3, .int (nI i))]) [0, 1, 2, 3] rfl ?_
      refine V_aload_n 0 dX0_nextOne_13 rfl rfl ?_
      refine V_get (ci := 0) (C := RX0) (T := TX0) (N := 9) i_X0 0 rfl rfl 0 (by decide) w_2 rfl rfl dX0_nextOne_14 ?_
      refine V_iload_n 3 dX0_nextOne_17 rfl rfl ?_
      refine V_iald 1 (j := i) rfl rfl (by omega) (by decide) dX0_nextOne_18 ?_
      refine V_iconst (v := 1) dX0_nextOne_19 (by decide) ?_
      refine V_icmp_ne 41 dX0_nextOne_20 (by decide) (fun c_3 => ?_) (fun c_3 => ?_)
      · refine V_iinc 3 (v := (nI (i + 1))) (lv' := [(3, .int (nI (i + 1))), (0, .ref h), (1, .ref q), (2, .int (-4))]) dX0_nextOne_41 rfl (iinc_nI _) (by decide) rfl ?_
        refine V_goto 5 dX0_nextOne_44 (by decide) ?_
        refine V_lv (lv' := [(0, .ref h), (1, .ref q), (2, .int (-4)), (3, .int (nI (i + 1)))]) [1, 2, 3, 0] rfl ?_
        have hF_4 : (oI (it (nxB P L) none (i + 1))) = (-4) := by simp [it, nxB, oI, c_1, ho_2, c_3]
        exact V_eq (by first | rfl | (rw [hF_4]; done) | (rw [hF_4]; rfl) | (simp only [hF_4]; done)) (by first | rfl | (rw [hF_4]; done) | (rw [hF_4]; rfl) | (simp only [hF_4]; done)) ih_5
      · refine V_iload_n 2 dX0_nextOne_23 rfl rfl ?_
        refine V_bipush (v := (-4)) dX0_nextOne_24 (by decide) ?_
        refine V_icmp_eq 39 dX0_nextOne_26 (by decide) (fun c_5 => ?_) (fun c_5 => absurd (by decide) c_5)
        refine V_iload_n 3 dX0_nextOne_39 rfl rfl ?_
        refine V_istore_n (lv' := [(2, .int (nI i)), (0, .ref h), (1, .ref q), (3, .int (nI i))]) dX0_nextOne_40 rfl (by decide) rfl ?_
        refine V_iinc 3 (v := (nI (i + 1))) (lv' := [(3, .int (nI (i + 1))), (2, .int (nI i)), (0, .ref h), (1, .ref q)]) dX0_nextOne_41 rfl (iinc_nI _) (by decide) rfl ?_
        refine V_goto 5 dX0_nextOne_44 (by decide) ?_
        refine V_lv (lv' := [(0, .ref h), (1, .ref q), (2, .int (nI i)), (3, .int (nI (i + 1)))]) [2, 3, 1, 0] rfl ?_
        have hF_6 : (oI (it (nxB P L) none (i + 1))) = (nI i) := by simp [it, nxB, oI, c_1, ho_2, c_3, c_5]
        exact V_eq (by first | rfl | (rw [hF_6]; done) | (rw [hF_6]; rfl) | (simp only [hF_6]; done)) (by first | rfl | (rw [hF_6]; done) | (rw [hF_6]; rfl) | (simp only [hF_6]; done)) ih_5
    · have hk_2 := nxF_lt _ _ ho_2
      refine V_lv (lv' := [(0, .ref h), (1, .ref q), (2, .int (nI k_2)), (3, .int (nI i))]) [0, 1, 2, 3] rfl ?_
      refine V_aload_n 0 dX0_nextOne_13 rfl rfl ?_
      refine V_get (ci := 0) (C := RX0) (T := TX0) (N := 9) i_X0 0 rfl rfl 0 (by decide) w_2 rfl rfl dX0_nextOne_14 ?_
      refine V_iload_n 3 dX0_nextOne_17 rfl rfl ?_
      refine V_iald 1 (j := i) rfl rfl (by omega) (by decide) dX0_nextOne_18 ?_
      refine V_iconst (v := 1) dX0_nextOne_19 (by decide) ?_
      refine V_icmp_ne 41 dX0_nextOne_20 (by decide) (fun c_7 => ?_) (fun c_7 => ?_)
      · refine V_iinc 3 (v := (nI (i + 1))) (lv' := [(3, .int (nI (i + 1))), (0, .ref h), (1, .ref q), (2, .int (nI k_2))]) dX0_nextOne_41 rfl (iinc_nI _) (by decide) rfl ?_
        refine V_goto 5 dX0_nextOne_44 (by decide) ?_
        refine V_lv (lv' := [(0, .ref h), (1, .ref q), (2, .int (nI k_2)), (3, .int (nI (i + 1)))]) [1, 2, 3, 0] rfl ?_
        have hF_8 : (oI (it (nxB P L) none (i + 1))) = (nI k_2) := by simp [it, nxB, oI, c_1, ho_2, c_7]
        exact V_eq (by first | rfl | (rw [hF_8]; done) | (rw [hF_8]; rfl) | (simp only [hF_8]; done)) (by first | rfl | (rw [hF_8]; done) | (rw [hF_8]; rfl) | (simp only [hF_8]; done)) ih_5
      · refine V_iload_n 2 dX0_nextOne_23 rfl rfl ?_
        refine V_bipush (v := (-4)) dX0_nextOne_24 (by decide) ?_
        refine V_icmp_eq 39 dX0_nextOne_26 (by decide) (fun c_9 => absurd c_9 (nI_ne4 (by omega))) (fun c_9 => ?_)
        refine V_aload_n 0 dX0_nextOne_29 rfl rfl ?_
        refine V_aload_n 1 dX0_nextOne_30 rfl rfl ?_
        refine V_iload_n 3 dX0_nextOne_31 rfl rfl ?_
        refine V_iload_n 2 dX0_nextOne_32 rfl rfl ?_
        refine V_callVI (wr := []) (ws' := fun _ => [(h, .inr (0, [.ref h1, .ref h2, .ref h3, .ref h4, .int (lcg L), .int (lco L), .int (lmi L), .int (lse L), .int (lru L)])), (h1, .inl (G.2.1, 8, .inl (lst L))), (h2, .inl (G.2.1, 8, .inl (lwa L))), (h3, .inl (G.2.1, 8, .inl (lca L))), (h4, .inl (G.2.1, 8, .inl (lti L))), (q, .inr (1, [.ref q1, .ref q2, .ref q3, .ref q4, .int (nI (pN P)), .int (pse P), .int (pme P), .int (pru P)])), (q1, .inl (G.2.1, 8, .inl (pki P))), (q2, .inl (G.2.1, 8, .inl (pci P))), (q3, .inl (G.2.1, 8, .inl (ppa P))), (q4, .inl (G.2.1, 8, .inl (pwo P)))]) [.ref q, .int (nI i), .int (nI k_2)] [] 3 (k_X0_isAhead l G h h1 h2 h3 h4 L q q1 q2 q3 q4 P i k_2 (by first | assumption | omega) (by first | assumption | omega)) 0 0 rfl rfl gX0_nextOne_X0_isAhead rfl ⟨rfl, rfl, Nat.le_of_ble_eq_true rfl, Nat.le_of_ble_eq_true rfl⟩ (by decide +kernel) rfl [0, 1, 2, 3, 4, 5, 6, 7, 8, 9] [] [0, 1, 2, 3, 4, 5, 6, 7, 8, 9] rfl rfl (by decide) (by decide) (fun _ => rfl) rfl (Nat.le_of_ble_eq_true rfl) dX0_nextOne_33 (fun _ => ?_)
        refine V_ifb_eq 41 dX0_nextOne_36 (by decide) (fun c_10 => ?_) (fun c_10 => ?_)
        · refine V_iinc 3 (v := (nI (i + 1))) (lv' := [(3, .int (nI (i + 1))), (0, .ref h), (1, .ref q), (2, .int (nI k_2))]) dX0_nextOne_41 rfl (iinc_nI _) (by decide) rfl ?_
          refine V_goto 5 dX0_nextOne_44 (by decide) ?_
          refine V_lv (lv' := [(0, .ref h), (1, .ref q), (2, .int (nI k_2)), (3, .int (nI (i + 1)))]) [1, 2, 3, 0] rfl ?_
          have hF_11 : (oI (it (nxB P L) none (i + 1))) = (nI k_2) := by simp [it, nxB, oI, c_1, ho_2, c_7, c_10]
          exact V_eq (by first | rfl | (rw [hF_11]; done) | (rw [hF_11]; rfl) | (simp only [hF_11]; done)) (by first | rfl | (rw [hF_11]; done) | (rw [hF_11]; rfl) | (simp only [hF_11]; done)) ih_5
        · refine V_iload_n 3 dX0_nextOne_39 rfl rfl ?_
          refine V_istore_n (lv' := [(2, .int (nI i)), (0, .ref h), (1, .ref q), (3, .int (nI i))]) dX0_nextOne_40 rfl (by decide) rfl ?_
          refine V_iinc 3 (v := (nI (i + 1))) (lv' := [(3, .int (nI (i + 1))), (2, .int (nI i)), (0, .ref h), (1, .ref q)]) dX0_nextOne_41 rfl (iinc_nI _) (by decide) rfl ?_
          refine V_goto 5 dX0_nextOne_44 (by decide) ?_
          refine V_lv (lv' := [(0, .ref h), (1, .ref q), (2, .int (nI i)), (3, .int (nI (i + 1)))]) [2, 3, 1, 0] rfl ?_
          have hF_12 : (oI (it (nxB P L) none (i + 1))) = (nI i) := by simp [it, nxB, oI, c_1, ho_2, c_7, c_10]
          exact V_eq (by first | rfl | (rw [hF_12]; done) | (rw [hF_12]; rfl) | (simp only [hF_12]; done)) (by first | rfl | (rw [hF_12]; done) | (rw [hF_12]; rfl) | (simp only [hF_12]; done)) ih_5
  · skip
    refine V_iload_n 3 dX0_nextOne_5 rfl rfl ?_
    refine V_aload_n 1 dX0_nextOne_6 rfl rfl ?_
    refine V_get (ci := 1) (C := RX1) (T := TX1) (N := 8) i_X1 5 rfl rfl 4 (by decide) w_1 rfl rfl dX0_nextOne_7 ?_
    refine V_icmp_ge 47 dX0_nextOne_10 (by decide) (fun c_13 => ?_) (fun c_13 => absurd (Int32.le_refl _) c_13)
    refine V_iload_n 2 dX0_nextOne_47 rfl rfl ?_
    exact fin _ _ _ _ dX0_nextOne_48 rfl (by simp [nxF, b2i, Int32.not_lt, Int32.not_le, c_13]) () (rfl)
set_option maxHeartbeats 4000000 in
set_option maxRecDepth 100000 in
theorem k_X0_takeNextOnes (l : Launch) (G : GG) (h h1 h2 h3 h4 : Nat) (L : LnS) (q q1 q2 q3 q4 : Nat) (P : PlS) (hN : pN P ≤ 8) : CV l yX0_takeNextOnes wsX0_takeNextOnes ({ frames := 2, cells := 0, slots := 0, locals := 46 }) G [(h, .inr (0, [.ref h1, .ref h2, .ref h3, .ref h4, .int (lcg L), .int (lco L), .int (lmi L), .int (lse L), .int (lru L)])), (h1, .inl (G.2.1, 8, .inl (lst L))), (h2, .inl (G.2.1, 8, .inl (lwa L))), (h3, .inl (G.2.1, 8, .inl (lca L))), (h4, .inl (G.2.1, 8, .inl (lti L))), (q, .inr (1, [.ref q1, .ref q2, .ref q3, .ref q4, .int (nI (pN P)), .int (pse P), .int (pme P), .int (pru P)])), (q1, .inl (G.2.1, 8, .inl (pki P))), (q2, .inl (G.2.1, 8, .inl (pci P))), (q3, .inl (G.2.1, 8, .inl (ppa P))), (q4, .inl (G.2.1, 8, .inl (pwo P)))] [.ref h, .ref q] (S := Unit) (fun _ => [(h, .inr (0, [.ref h1, .ref h2, .ref h3, .ref h4, .int (lcg (tkF P L)), .int (lco (tkF P L)), .int (lmi (tkF P L)), .int (lse (tkF P L)), .int (lru (tkF P L))])), (h1, .inl (G.2.1, 8, .inl (lst (tkF P L)))), (h2, .inl (G.2.1, 8, .inl (lwa (tkF P L)))), (h3, .inl (G.2.1, 8, .inl (lca (tkF P L)))), (h4, .inl (G.2.1, 8, .inl (lti (tkF P L)))), (q, .inr (1, [.ref q1, .ref q2, .ref q3, .ref q4, .int (nI (pN P)), .int (pse P), .int (pme P), .int (pru P)])), (q1, .inl (G.2.1, 8, .inl (pki P))), (q2, .inl (G.2.1, 8, .inl (pci P))), (q3, .inl (G.2.1, 8, .inl (ppa P))), (q4, .inl (G.2.1, 8, .inl (pwo P)))]) := by
  refine CV.of (cc := cX0_takeNextOnes) (nL := 5) (by decide) rfl ⟨rfl, rfl⟩ (Nat.le_of_ble_eq_true rfl) ?_
  intro p e s m args below meth c Q A H0 hKs fin
  have i_X0 : ∀ w ∈ wsX00, w ∈ wsX0_takeNextOnes := by decide +kernel
  have w_1 : Jvm.Cond.fieldLink RX0 39 "NumberEleven$Line" "serving" "I" ∈ wsX0_takeNextOnes := by decide +kernel
  have w_2 : Jvm.Cond.fieldLink RX0 9 "NumberEleven$Line" "state" "[I" ∈ wsX0_takeNextOnes := by decide +kernel
  have w_3 : Jvm.Cond.fieldLink RX0 21 "NumberEleven$Line" "takenIn" "[I" ∈ wsX0_takeNextOnes := by decide +kernel
  have w_4 : Jvm.Cond.fieldLink RX0 31 "NumberEleven$Line" "minute" "I" ∈ wsX0_takeNextOnes := by decide +kernel
  refine V_lv (lv' := [(0, .ref h), (1, .ref q)]) [0, 1] rfl ?_
  refine V_aload_n 0 dX0_takeNextOnes_0 rfl rfl ?_
  refine V_get (ci := 0) (C := RX0) (T := TX0) (N := 9) i_X0 0 rfl rfl 7 (by decide) w_1 rfl rfl dX0_takeNextOnes_1 ?_
  refine V_aload_n 0 dX0_takeNextOnes_4 rfl rfl ?_
  refine V_aload_n 1 dX0_takeNextOnes_5 rfl rfl ?_
  refine V_iconst (v := 2) dX0_takeNextOnes_6 (by decide) ?_
  refine V_callVI (wr := []) (ws' := fun _ => [(h, .inr (0, [.ref h1, .ref h2, .ref h3, .ref h4, .int (lcg L), .int (lco L), .int (lmi L), .int (lse L), .int (lru L)])), (h1, .inl (G.2.1, 8, .inl (lst L))), (h2, .inl (G.2.1, 8, .inl (lwa L))), (h3, .inl (G.2.1, 8, .inl (lca L))), (h4, .inl (G.2.1, 8, .inl (lti L))), (q, .inr (1, [.ref q1, .ref q2, .ref q3, .ref q4, .int (nI (pN P)), .int (pse P), .int (pme P), .int (pru P)])), (q1, .inl (G.2.1, 8, .inl (pki P))), (q2, .inl (G.2.1, 8, .inl (pci P))), (q3, .inl (G.2.1, 8, .inl (ppa P))), (q4, .inl (G.2.1, 8, .inl (pwo P)))]) [.ref q, .int 2] [.int (lse L)] 2 (k_X0_countIn l G h h1 h2 h3 h4 L q q1 q2 q3 q4 P 2 (by first | assumption | omega)) 0 0 rfl rfl gX0_takeNextOnes_X0_countIn rfl ⟨rfl, rfl, Nat.le_of_ble_eq_true rfl, Nat.le_of_ble_eq_true rfl⟩ (by decide +kernel) rfl [0, 1, 2, 3, 4, 5, 6, 7, 8, 9] [] [0, 1, 2, 3, 4, 5, 6, 7, 8, 9] rfl rfl (by decide) (by decide) (fun _ => rfl) rfl (Nat.le_of_ble_eq_true rfl) dX0_takeNextOnes_7 (fun _ => ?_)
  refine V_isub dX0_takeNextOnes_10 ?_
  refine V_istore_n (lv' := [(2, .int ((lse L) - (cntF (lst L) 2 (pN P)))), (0, .ref h), (1, .ref q)]) dX0_takeNextOnes_11 rfl (by decide) rfl ?_
  refine V_iconst (v := 0) dX0_takeNextOnes_12 (by decide) ?_
  refine V_istore_n (lv' := [(3, .int 0), (2, .int ((lse L) - (cntF (lst L) 2 (pN P)))), (0, .ref h), (1, .ref q)]) dX0_takeNextOnes_13 rfl (by decide) rfl ?_
  refine V_lv (lv' := [(0, .ref h), (1, .ref q), (2, .int ((lse L) - (cntF (lst L) 2 (pN P)))), (3, .int 0)]) [2, 3, 1, 0] rfl ?_
  refine V_eq (ws' := [(h, .inr (0, [.ref h1, .ref h2, .ref h3, .ref h4, .int (lcg (it (tkB P) L 0)), .int (lco (it (tkB P) L 0)), .int (lmi (it (tkB P) L 0)), .int (lse (it (tkB P) L 0)), .int (lru (it (tkB P) L 0))])), (h1, .inl (G.2.1, 8, .inl (lst (it (tkB P) L 0)))), (h2, .inl (G.2.1, 8, .inl (lwa (it (tkB P) L 0)))), (h3, .inl (G.2.1, 8, .inl (lca (it (tkB P) L 0)))), (h4, .inl (G.2.1, 8, .inl (lti (it (tkB P) L 0)))), (q, .inr (1, [.ref q1, .ref q2, .ref q3, .ref q4, .int (nI (pN P)), .int (pse P), .int (pme P), .int (pru P)])), (q1, .inl (G.2.1, 8, .inl (pki P))), (q2, .inl (G.2.1, 8, .inl (pci P))), (q3, .inl (G.2.1, 8, .inl (ppa P))), (q4, .inl (G.2.1, 8, .inl (pwo P)))]) (lv' := [(0, .ref h), (1, .ref q), (2, .int (tkN P L)), (3, .int (nI 0))]) (rfl) (rfl) ?_
  refine V_for (N := (tkN P L).toInt.toNat) (fun i => [(h, .inr (0, [.ref h1, .ref h2, .ref h3, .ref h4, .int (lcg (it (tkB P) L i)), .int (lco (it (tkB P) L i)), .int (lmi (it (tkB P) L i)), .int (lse (it (tkB P) L i)), .int (lru (it (tkB P) L i))])), (h1, .inl (G.2.1, 8, .inl (lst (it (tkB P) L i)))), (h2, .inl (G.2.1, 8, .inl (lwa (it (tkB P) L i)))), (h3, .inl (G.2.1, 8, .inl (lca (it (tkB P) L i)))), (h4, .inl (G.2.1, 8, .inl (lti (it (tkB P) L i)))), (q, .inr (1, [.ref q1, .ref q2, .ref q3, .ref q4, .int (nI (pN P)), .int (pse P), .int (pme P), .int (pru P)])), (q1, .inl (G.2.1, 8, .inl (pki P))), (q2, .inl (G.2.1, 8, .inl (pci P))), (q3, .inl (G.2.1, 8, .inl (ppa P))), (q4, .inl (G.2.1, 8, .inl (pwo P)))]) (fun i => [(0, .ref h), (1, .ref q), (2, .int (tkN P L)), (3, .int (nI i))]) (fun i hi_14 ih_14 => ?_) ?_ _ 0 (Nat.zero_add _)
  · skip
    refine V_iload_n 3 dX0_takeNextOnes_14 rfl rfl ?_
    refine V_iload_n 2 dX0_takeNextOnes_15 rfl rfl ?_
    refine V_icmp_ge 59 dX0_takeNextOnes_16 (by decide) (fun c_1 => absurd c_1 (tk_lt hi_14)) (fun c_1 => ?_)
    refine V_aload_n 0 dX0_takeNextOnes_19 rfl rfl ?_
    refine V_aload_n 1 dX0_takeNextOnes_20 rfl rfl ?_
    refine V_callVI (wr := []) (ws' := fun _ => [(h, .inr (0, [.ref h1, .ref h2, .ref h3, .ref h4, .int (lcg (it (tkB P) L i)), .int (lco (it (tkB P) L i)), .int (lmi (it (tkB P) L i)), .int (lse (it (tkB P) L i)), .int (lru (it (tkB P) L i))])), (h1, .inl (G.2.1, 8, .inl (lst (it (tkB P) L i)))), (h2, .inl (G.2.1, 8, .inl (lwa (it (tkB P) L i)))), (h3, .inl (G.2.1, 8, .inl (lca (it (tkB P) L i)))), (h4, .inl (G.2.1, 8, .inl (lti (it (tkB P) L i)))), (q, .inr (1, [.ref q1, .ref q2, .ref q3, .ref q4, .int (nI (pN P)), .int (pse P), .int (pme P), .int (pru P)])), (q1, .inl (G.2.1, 8, .inl (pki P))), (q2, .inl (G.2.1, 8, .inl (pci P))), (q3, .inl (G.2.1, 8, .inl (ppa P))), (q4, .inl (G.2.1, 8, .inl (pwo P)))]) [.ref q] [] 1 (k_X0_nextOne l G h h1 h2 h3 h4 (it (tkB P) L i) q q1 q2 q3 q4 P (by first | assumption | omega)) 0 0 rfl rfl gX0_takeNextOnes_X0_nextOne rfl ⟨rfl, rfl, Nat.le_of_ble_eq_true rfl, Nat.le_of_ble_eq_true rfl⟩ (by decide +kernel) rfl [0, 1, 2, 3, 4, 5, 6, 7, 8, 9] [] [0, 1, 2, 3, 4, 5, 6, 7, 8, 9] rfl rfl (by decide) (by decide) (fun _ => rfl) rfl (Nat.le_of_ble_eq_true rfl) dX0_takeNextOnes_21 (fun _ => ?_)
    refine V_istore (lv' := [(4, .int (oI (nxF P (it (tkB P) L i)))), (0, .ref h), (1, .ref q), (2, .int (tkN P L)), (3, .int (nI i))]) dX0_takeNextOnes_24 (by decide) rfl ?_
    rcases ho_2 : nxF P (it (tkB P) L i) with _ | k_2
    · refine V_lv (lv' := [(4, .int (-4)), (0, .ref h), (1, .ref q), (2, .int (tkN P L)), (3, .int (nI i))]) [0, 1, 2, 3, 4] rfl ?_
      refine V_iload 0 dX0_takeNextOnes_26 rfl ?_
      refine V_bipush (v := (-4)) dX0_takeNextOnes_28 (by decide) ?_
      refine V_icmp_ne 34 dX0_takeNextOnes_30 (by decide) (fun c_3 => absurd c_3 (by decide)) (fun c_3 => ?_)
      have hS : tkF P L = it (tkB P) L i := it_stuck (fun j => by simp only [tkB, ho_2]) _ (by omega)
      exact fin _ _ _ dX0_takeNextOnes_33 () (by rw [hS])
    · have hk_2 := nxF_lt _ _ ho_2
      refine V_lv (lv' := [(4, .int (nI k_2)), (0, .ref h), (1, .ref q), (2, .int (tkN P L)), (3, .int (nI i))]) [0, 1, 2, 3, 4] rfl ?_
      refine V_iload 0 dX0_takeNextOnes_26 rfl ?_
      refine V_bipush (v := (-4)) dX0_takeNextOnes_28 (by decide) ?_
      refine V_icmp_ne 34 dX0_takeNextOnes_30 (by decide) (fun c_4 => ?_) (fun c_4 => absurd c_4 (nI_ne4 (by omega)))
      refine V_aload_n 1 dX0_takeNextOnes_34 rfl rfl ?_
      refine V_get (ci := 0) (C := RX0) (T := TX0) (N := 9) i_X0 0 rfl rfl 0 (by decide) w_2 rfl rfl dX0_takeNextOnes_35 ?_
      refine V_iload 0 dX0_takeNextOnes_38 rfl ?_
      refine V_iconst (v := 2) dX0_takeNextOnes_40 (by decide) ?_
      refine V_iast (ws' := [(h, .inr (0, [.ref h1, .ref h2, .ref h3, .ref h4, .int (lcg (it (tkB P) L i)), .int (lco (it (tkB P) L i)), .int (lmi (it (tkB P) L i)), .int (lse (it (tkB P) L i)), .int (lru (it (tkB P) L i))])), (h1, .inl (G.2.1, 8, .inl (upd (lst (it (tkB P) L i)) k_2 2))), (h2, .inl (G.2.1, 8, .inl (lwa (it (tkB P) L i)))), (h3, .inl (G.2.1, 8, .inl (lca (it (tkB P) L i)))), (h4, .inl (G.2.1, 8, .inl (lti (it (tkB P) L i)))), (q, .inr (1, [.ref q1, .ref q2, .ref q3, .ref q4, .int (nI (pN P)), .int (pse P), .int (pme P), .int (pru P)])), (q1, .inl (G.2.1, 8, .inl (pki P))), (q2, .inl (G.2.1, 8, .inl (pci P))), (q3, .inl (G.2.1, 8, .inl (ppa P))), (q4, .inl (G.2.1, 8, .inl (pwo P)))]) 1 (j := k_2) rfl rfl (by omega) (by decide) rfl dX0_takeNextOnes_41 ?_
      refine V_aload_n 1 dX0_takeNextOnes_42 rfl rfl ?_
      refine V_get (ci := 0) (C := RX0) (T := TX0) (N := 9) i_X0 0 rfl rfl 3 (by decide) w_3 rfl rfl dX0_takeNextOnes_43 ?_
      refine V_iload 0 dX0_takeNextOnes_46 rfl ?_
      refine V_aload_n 1 dX0_takeNextOnes_48 rfl rfl ?_
      refine V_get (ci := 0) (C := RX0) (T := TX0) (N := 9) i_X0 0 rfl rfl 6 (by decide) w_4 rfl rfl dX0_takeNextOnes_49 ?_
      refine V_iast (ws' := [(h, .inr (0, [.ref h1, .ref h2, .ref h3, .ref h4, .int (lcg (it (tkB P) L i)), .int (lco (it (tkB P) L i)), .int (lmi (it (tkB P) L i)), .int (lse (it (tkB P) L i)), .int (lru (it (tkB P) L i))])), (h1, .inl (G.2.1, 8, .inl (upd (lst (it (tkB P) L i)) k_2 2))), (h2, .inl (G.2.1, 8, .inl (lwa (it (tkB P) L i)))), (h3, .inl (G.2.1, 8, .inl (lca (it (tkB P) L i)))), (h4, .inl (G.2.1, 8, .inl (upd (lti (it (tkB P) L i)) k_2 (lmi (it (tkB P) L i))))), (q, .inr (1, [.ref q1, .ref q2, .ref q3, .ref q4, .int (nI (pN P)), .int (pse P), .int (pme P), .int (pru P)])), (q1, .inl (G.2.1, 8, .inl (pki P))), (q2, .inl (G.2.1, 8, .inl (pci P))), (q3, .inl (G.2.1, 8, .inl (ppa P))), (q4, .inl (G.2.1, 8, .inl (pwo P)))]) 4 (j := k_2) rfl rfl (by omega) (by decide) rfl dX0_takeNextOnes_52 ?_
      refine V_iinc 4 (v := (nI (i + 1))) (lv' := [(3, .int (nI (i + 1))), (4, .int (nI k_2)), (0, .ref h), (1, .ref q), (2, .int (tkN P L))]) dX0_takeNextOnes_53 rfl (iinc_nI _) (by decide) rfl ?_
      refine V_goto 14 dX0_takeNextOnes_56 (by decide) ?_
      refine V_lv (lv' := [(0, .ref h), (1, .ref q), (2, .int (tkN P L)), (3, .int (nI (i + 1)))]) [2, 3, 4, 0] rfl ?_
      have hF_5 : (it (tkB P) L (i + 1)) = ((upd (lst (it (tkB P) L i)) k_2 2), (lwa (it (tkB P) L i)), (lca (it (tkB P) L i)), (upd (lti (it (tkB P) L i)) k_2 (lmi (it (tkB P) L i))), (lcg (it (tkB P) L i)), (lco (it (tkB P) L i)), (lmi (it (tkB P) L i)), (lse (it (tkB P) L i)), (lru (it (tkB P) L i))) := by simp [it, tkB, ho_2]
      exact V_eq (by first | rfl | (rw [hF_5]; done) | (rw [hF_5]; rfl) | (simp only [hF_5]; done)) (by first | rfl | (rw [hF_5]; done) | (rw [hF_5]; rfl) | (simp only [hF_5]; done)) ih_14
  · skip
    refine V_iload_n 3 dX0_takeNextOnes_14 rfl rfl ?_
    refine V_iload_n 2 dX0_takeNextOnes_15 rfl rfl ?_
    refine V_icmp_ge 59 dX0_takeNextOnes_16 (by decide) (fun c_6 => ?_) (fun c_6 => absurd tk_ge c_6)
    exact fin _ _ _ dX0_takeNextOnes_59 () (rfl)
set_option maxHeartbeats 4000000 in
set_option maxRecDepth 100000 in
theorem k_X0_giveUpAtOnce (l : Launch) (G : GG) (h h1 h2 h3 h4 : Nat) (L : LnS) (q q1 q2 q3 q4 : Nat) (P : PlS) (hN : pN P ≤ 8) : CV l yX0_giveUpAtOnce wsX0_giveUpAtOnce ({ frames := 2, cells := 0, slots := 0, locals := 47 }) G [(h, .inr (0, [.ref h1, .ref h2, .ref h3, .ref h4, .int (lcg L), .int (lco L), .int (lmi L), .int (lse L), .int (lru L)])), (h1, .inl (G.2.1, 8, .inl (lst L))), (h2, .inl (G.2.1, 8, .inl (lwa L))), (h3, .inl (G.2.1, 8, .inl (lca L))), (h4, .inl (G.2.1, 8, .inl (lti L))), (q, .inr (1, [.ref q1, .ref q2, .ref q3, .ref q4, .int (nI (pN P)), .int (pse P), .int (pme P), .int (pru P)])), (q1, .inl (G.2.1, 8, .inl (pki P))), (q2, .inl (G.2.1, 8, .inl (pci P))), (q3, .inl (G.2.1, 8, .inl (ppa P))), (q4, .inl (G.2.1, 8, .inl (pwo P)))] [.ref h, .ref q] (S := Unit) (fun _ => [(h, .inr (0, [.ref h1, .ref h2, .ref h3, .ref h4, .int (lcg (gvF P L)), .int (lco (gvF P L)), .int (lmi (gvF P L)), .int (lse (gvF P L)), .int (lru (gvF P L))])), (h1, .inl (G.2.1, 8, .inl (lst (gvF P L)))), (h2, .inl (G.2.1, 8, .inl (lwa (gvF P L)))), (h3, .inl (G.2.1, 8, .inl (lca (gvF P L)))), (h4, .inl (G.2.1, 8, .inl (lti (gvF P L)))), (q, .inr (1, [.ref q1, .ref q2, .ref q3, .ref q4, .int (nI (pN P)), .int (pse P), .int (pme P), .int (pru P)])), (q1, .inl (G.2.1, 8, .inl (pki P))), (q2, .inl (G.2.1, 8, .inl (pci P))), (q3, .inl (G.2.1, 8, .inl (ppa P))), (q4, .inl (G.2.1, 8, .inl (pwo P)))]) := by
  refine CV.of (cc := cX0_giveUpAtOnce) (nL := 5) (by decide) rfl ⟨rfl, rfl⟩ (Nat.le_of_ble_eq_true rfl) ?_
  intro p e s m args below meth c Q A H0 hKs fin
  have i_X0 : ∀ w ∈ wsX00, w ∈ wsX0_giveUpAtOnce := by decide +kernel
  have i_X1 : ∀ w ∈ wsX10, w ∈ wsX0_giveUpAtOnce := by decide +kernel
  have w_1 : Jvm.Cond.fieldLink RX0 72 "NumberEleven$Plan" "callers" "I" ∈ wsX0_giveUpAtOnce := by decide +kernel
  have w_2 : Jvm.Cond.fieldLink RX0 9 "NumberEleven$Line" "state" "[I" ∈ wsX0_giveUpAtOnce := by decide +kernel
  have w_3 : Jvm.Cond.fieldLink RX0 15 "NumberEleven$Line" "waited" "[I" ∈ wsX0_giveUpAtOnce := by decide +kernel
  refine V_lv (lv' := [(0, .ref h), (1, .ref q)]) [0, 1] rfl ?_
  refine V_iconst (v := 0) dX0_giveUpAtOnce_0 (by decide) ?_
  refine V_istore_n (lv' := [(2, .int 0), (0, .ref h), (1, .ref q)]) dX0_giveUpAtOnce_1 rfl (by decide) rfl ?_
  refine V_iconst (v := 0) dX0_giveUpAtOnce_2 (by decide) ?_
  refine V_istore_n (lv' := [(3, .int 0), (2, .int 0), (0, .ref h), (1, .ref q)]) dX0_giveUpAtOnce_3 rfl (by decide) rfl ?_
  refine V_lv (lv' := [(0, .ref h), (1, .ref q), (2, .int 0), (3, .int 0)]) [2, 3, 1, 0] rfl ?_
  refine V_eq (ws' := [(h, .inr (0, [.ref h1, .ref h2, .ref h3, .ref h4, .int (lcg L), .int (lco L), .int (lmi L), .int (lse L), .int (lru L)])), (h1, .inl (G.2.1, 8, .inl (lst L))), (h2, .inl (G.2.1, 8, .inl (lwa L))), (h3, .inl (G.2.1, 8, .inl (lca L))), (h4, .inl (G.2.1, 8, .inl (lti L))), (q, .inr (1, [.ref q1, .ref q2, .ref q3, .ref q4, .int (nI (pN P)), .int (pse P), .int (pme P), .int (pru P)])), (q1, .inl (G.2.1, 8, .inl (pki P))), (q2, .inl (G.2.1, 8, .inl (pci P))), (q3, .inl (G.2.1, 8, .inl (ppa P))), (q4, .inl (G.2.1, 8, .inl (pwo P)))]) (lv' := [(0, .ref h), (1, .ref q), (2, .int (it (gvB P L) 0 0)), (3, .int (nI 0))]) (rfl) (rfl) ?_
  refine V_for (N := (pN P)) (fun i => [(h, .inr (0, [.ref h1, .ref h2, .ref h3, .ref h4, .int (lcg L), .int (lco L), .int (lmi L), .int (lse L), .int (lru L)])), (h1, .inl (G.2.1, 8, .inl (lst L))), (h2, .inl (G.2.1, 8, .inl (lwa L))), (h3, .inl (G.2.1, 8, .inl (lca L))), (h4, .inl (G.2.1, 8, .inl (lti L))), (q, .inr (1, [.ref q1, .ref q2, .ref q3, .ref q4, .int (nI (pN P)), .int (pse P), .int (pme P), .int (pru P)])), (q1, .inl (G.2.1, 8, .inl (pki P))), (q2, .inl (G.2.1, 8, .inl (pci P))), (q3, .inl (G.2.1, 8, .inl (ppa P))), (q4, .inl (G.2.1, 8, .inl (pwo P)))]) (fun i => [(0, .ref h), (1, .ref q), (2, .int (it (gvB P L) 0 i)), (3, .int (nI i))]) (fun i hi_4 ih_4 => ?_) ?_ _ 0 (Nat.zero_add _)
  · skip
    refine V_iload_n 3 dX0_giveUpAtOnce_4 rfl rfl ?_
    refine V_aload_n 1 dX0_giveUpAtOnce_5 rfl rfl ?_
    refine V_get (ci := 1) (C := RX1) (T := TX1) (N := 8) i_X1 5 rfl rfl 4 (by decide) w_1 rfl rfl dX0_giveUpAtOnce_6 ?_
    refine V_icmp_ge 65 dX0_giveUpAtOnce_9 (by decide) (fun c_1 => absurd c_1 (nI_ge hi_4 (by omega))) (fun c_1 => ?_)
    refine V_aload_n 0 dX0_giveUpAtOnce_12 rfl rfl ?_
    refine V_get (ci := 0) (C := RX0) (T := TX0) (N := 9) i_X0 0 rfl rfl 0 (by decide) w_2 rfl rfl dX0_giveUpAtOnce_13 ?_
    refine V_iload_n 3 dX0_giveUpAtOnce_16 rfl rfl ?_
    refine V_iald 1 (j := i) rfl rfl (by omega) (by decide) dX0_giveUpAtOnce_17 ?_
    refine V_iconst (v := 1) dX0_giveUpAtOnce_18 (by decide) ?_
    refine V_icmp_ne 59 dX0_giveUpAtOnce_19 (by decide) (fun c_2 => ?_) (fun c_2 => ?_)
    · refine V_iinc 3 (v := (nI (i + 1))) (lv' := [(3, .int (nI (i + 1))), (0, .ref h), (1, .ref q), (2, .int (it (gvB P L) 0 i))]) dX0_giveUpAtOnce_59 rfl (iinc_nI _) (by decide) rfl ?_
      refine V_goto 4 dX0_giveUpAtOnce_62 (by decide) ?_
      refine V_lv (lv' := [(0, .ref h), (1, .ref q), (2, .int (it (gvB P L) 0 i)), (3, .int (nI (i + 1)))]) [1, 2, 3, 0] rfl ?_
      have hF_3 : (it (gvB P L) 0 (i + 1)) = (it (gvB P L) 0 i) := by simp [it, gvB, Int32.not_le, Int32.not_lt, c_1, c_2]
      exact V_eq (by first | rfl | (rw [hF_3]; done) | (rw [hF_3]; rfl) | (simp only [hF_3]; done)) (by first | rfl | (rw [hF_3]; done) | (rw [hF_3]; rfl) | (simp only [hF_3]; done)) ih_4
    · refine V_aload_n 1 dX0_giveUpAtOnce_22 rfl rfl ?_
      refine V_iload_n 3 dX0_giveUpAtOnce_23 rfl rfl ?_
      refine V_aload_n 0 dX0_giveUpAtOnce_24 rfl rfl ?_
      refine V_aload_n 1 dX0_giveUpAtOnce_25 rfl rfl ?_
      refine V_iload_n 3 dX0_giveUpAtOnce_26 rfl rfl ?_
      refine V_callVI (wr := []) (ws' := fun _ => [(h, .inr (0, [.ref h1, .ref h2, .ref h3, .ref h4, .int (lcg L), .int (lco L), .int (lmi L), .int (lse L), .int (lru L)])), (h1, .inl (G.2.1, 8, .inl (lst L))), (h2, .inl (G.2.1, 8, .inl (lwa L))), (h3, .inl (G.2.1, 8, .inl (lca L))), (h4, .inl (G.2.1, 8, .inl (lti L))), (q, .inr (1, [.ref q1, .ref q2, .ref q3, .ref q4, .int (nI (pN P)), .int (pse P), .int (pme P), .int (pru P)])), (q1, .inl (G.2.1, 8, .inl (pki P))), (q2, .inl (G.2.1, 8, .inl (pci P))), (q3, .inl (G.2.1, 8, .inl (ppa P))), (q4, .inl (G.2.1, 8, .inl (pwo P)))]) [.ref q, .int (nI i)] [.int (nI i), .ref q] 2 (k_X0_countAhead l G h h1 h2 h3 h4 L q q1 q2 q3 q4 P i (by first | assumption | omega) (by first | assumption | omega)) 0 0 rfl rfl gX0_giveUpAtOnce_X0_countAhead rfl ⟨rfl, rfl, Nat.le_of_ble_eq_true rfl, Nat.le_of_ble_eq_true rfl⟩ (by decide +kernel) rfl [0, 1, 2, 3, 4, 5, 6, 7, 8, 9] [] [0, 1, 2, 3, 4, 5, 6, 7, 8, 9] rfl rfl (by decide) (by decide) (fun _ => rfl) rfl (Nat.le_of_ble_eq_true rfl) dX0_giveUpAtOnce_27 (fun _ => ?_)
      refine V_callSI (wr := [(h, .inr (0, [.ref h1, .ref h2, .ref h3, .ref h4, .int (lcg L), .int (lco L), .int (lmi L), .int (lse L), .int (lru L)])), (h1, .inl (G.2.1, 8, .inl (lst L))), (h2, .inl (G.2.1, 8, .inl (lwa L))), (h3, .inl (G.2.1, 8, .inl (lca L))), (h4, .inl (G.2.1, 8, .inl (lti L)))]) (ws' := fun _ => [(h, .inr (0, [.ref h1, .ref h2, .ref h3, .ref h4, .int (lcg L), .int (lco L), .int (lmi L), .int (lse L), .int (lru L)])), (h1, .inl (G.2.1, 8, .inl (lst L))), (h2, .inl (G.2.1, 8, .inl (lwa L))), (h3, .inl (G.2.1, 8, .inl (lca L))), (h4, .inl (G.2.1, 8, .inl (lti L))), (q, .inr (1, [.ref q1, .ref q2, .ref q3, .ref q4, .int (nI (pN P)), .int (pse P), .int (pme P), .int (pru P)])), (q1, .inl (G.2.1, 8, .inl (pki P))), (q2, .inl (G.2.1, 8, .inl (pci P))), (q3, .inl (G.2.1, 8, .inl (ppa P))), (q4, .inl (G.2.1, 8, .inl (pwo P)))]) [.ref q, .int (nI i), .int (cahF P L i)] [] 3 (k_X0_mostBorne l G q q1 q2 q3 q4 P i (cahF P L i) (by first | assumption | omega)) gX0_giveUpAtOnce_X0_mostBorne rfl ⟨rfl, rfl, Nat.le_of_ble_eq_true rfl, Nat.le_of_ble_eq_true rfl⟩ (by decide +kernel) rfl [5, 6, 7, 8, 9] [0, 1, 2, 3, 4] [0, 1, 2, 3, 4, 5, 6, 7, 8, 9] rfl rfl (by decide) (by decide) (fun _ => rfl) rfl (Nat.le_of_ble_eq_true rfl) dX0_giveUpAtOnce_30 (fun _ => ?_)
      refine V_istore (lv' := [(4, .int (mostF P i (cahF P L i))), (0, .ref h), (1, .ref q), (2, .int (it (gvB P L) 0 i)), (3, .int (nI i))]) dX0_giveUpAtOnce_33 (by decide) rfl ?_
      refine V_iload 0 dX0_giveUpAtOnce_35 rfl ?_
      refine V_bipush (v := (-4)) dX0_giveUpAtOnce_37 (by decide) ?_
      refine V_icmp_eq 59 dX0_giveUpAtOnce_39 (by decide) (fun c_4 => ?_) (fun c_4 => ?_)
      · refine V_iinc 4 (v := (nI (i + 1))) (lv' := [(3, .int (nI (i + 1))), (4, .int (mostF P i (cahF P L i))), (0, .ref h), (1, .ref q), (2, .int (it (gvB P L) 0 i))]) dX0_giveUpAtOnce_59 rfl (iinc_nI _) (by decide) rfl ?_
        refine V_goto 4 dX0_giveUpAtOnce_62 (by decide) ?_
        refine V_lv (lv' := [(0, .ref h), (1, .ref q), (2, .int (it (gvB P L) 0 i)), (3, .int (nI (i + 1)))]) [2, 3, 4, 0] rfl ?_
        have hF_5 : (it (gvB P L) 0 (i + 1)) = (it (gvB P L) 0 i) := by simp [it, gvB, Int32.not_le, Int32.not_lt, c_1, c_2, c_4]
        exact V_eq (by first | rfl | (rw [hF_5]; done) | (rw [hF_5]; rfl) | (simp only [hF_5]; done)) (by first | rfl | (rw [hF_5]; done) | (rw [hF_5]; rfl) | (simp only [hF_5]; done)) ih_4
      · refine V_aload_n 1 dX0_giveUpAtOnce_42 rfl rfl ?_
        refine V_get (ci := 0) (C := RX0) (T := TX0) (N := 9) i_X0 0 rfl rfl 1 (by decide) w_3 rfl rfl dX0_giveUpAtOnce_43 ?_
        refine V_iload_n 4 dX0_giveUpAtOnce_46 rfl rfl ?_
        refine V_iald 2 (j := i) rfl rfl (by omega) (by decide) dX0_giveUpAtOnce_47 ?_
        refine V_iload 0 dX0_giveUpAtOnce_48 rfl ?_
        refine V_icmp_lt 59 dX0_giveUpAtOnce_50 (by decide) (fun c_6 => ?_) (fun c_6 => ?_)
        · refine V_iinc 4 (v := (nI (i + 1))) (lv' := [(3, .int (nI (i + 1))), (4, .int (mostF P i (cahF P L i))), (0, .ref h), (1, .ref q), (2, .int (it (gvB P L) 0 i))]) dX0_giveUpAtOnce_59 rfl (iinc_nI _) (by decide) rfl ?_
          refine V_goto 4 dX0_giveUpAtOnce_62 (by decide) ?_
          refine V_lv (lv' := [(0, .ref h), (1, .ref q), (2, .int (it (gvB P L) 0 i)), (3, .int (nI (i + 1)))]) [2, 3, 4, 0] rfl ?_
          have hF_7 : (it (gvB P L) 0 (i + 1)) = (it (gvB P L) 0 i) := by simp [it, gvB, Int32.not_le, Int32.not_lt, c_1, c_2, c_4, c_6]
          exact V_eq (by first | rfl | (rw [hF_7]; done) | (rw [hF_7]; rfl) | (simp only [hF_7]; done)) (by first | rfl | (rw [hF_7]; done) | (rw [hF_7]; rfl) | (simp only [hF_7]; done)) ih_4
        · refine V_iload_n 3 dX0_giveUpAtOnce_53 rfl rfl ?_
          refine V_iconst (v := 1) dX0_giveUpAtOnce_54 (by decide) ?_
          refine V_iload_n 4 dX0_giveUpAtOnce_55 rfl rfl ?_
          refine V_ishl dX0_giveUpAtOnce_56 ?_
          refine V_ior dX0_giveUpAtOnce_57 ?_
          refine V_istore_n (lv' := [(2, .int ((it (gvB P L) 0 i) ||| (1 <<< ((nI i) &&& 31)))), (4, .int (mostF P i (cahF P L i))), (0, .ref h), (1, .ref q), (3, .int (nI i))]) dX0_giveUpAtOnce_58 rfl (by decide) rfl ?_
          refine V_iinc 4 (v := (nI (i + 1))) (lv' := [(3, .int (nI (i + 1))), (2, .int ((it (gvB P L) 0 i) ||| (1 <<< ((nI i) &&& 31)))), (4, .int (mostF P i (cahF P L i))), (0, .ref h), (1, .ref q)]) dX0_giveUpAtOnce_59 rfl (iinc_nI _) (by decide) rfl ?_
          refine V_goto 4 dX0_giveUpAtOnce_62 (by decide) ?_
          refine V_lv (lv' := [(0, .ref h), (1, .ref q), (2, .int ((it (gvB P L) 0 i) ||| (1 <<< ((nI i) &&& 31)))), (3, .int (nI (i + 1)))]) [3, 4, 1, 0] rfl ?_
          have hF_8 : (it (gvB P L) 0 (i + 1)) = ((it (gvB P L) 0 i) ||| (1 <<< ((nI i) &&& 31))) := by simp [it, gvB, Int32.not_le, Int32.not_lt, c_1, c_2, c_4, c_6]
          exact V_eq (by first | rfl | (rw [hF_8]; done) | (rw [hF_8]; rfl) | (simp only [hF_8]; done)) (by first | rfl | (rw [hF_8]; done) | (rw [hF_8]; rfl) | (simp only [hF_8]; done)) ih_4
  · skip
    refine V_iload_n 3 dX0_giveUpAtOnce_4 rfl rfl ?_
    refine V_aload_n 1 dX0_giveUpAtOnce_5 rfl rfl ?_
    refine V_get (ci := 1) (C := RX1) (T := TX1) (N := 8) i_X1 5 rfl rfl 4 (by decide) w_1 rfl rfl dX0_giveUpAtOnce_6 ?_
    refine V_icmp_ge 65 dX0_giveUpAtOnce_9 (by decide) (fun c_9 => ?_) (fun c_9 => absurd (Int32.le_refl _) c_9)
    refine V_iconst (v := 0) dX0_giveUpAtOnce_65 (by decide) ?_
    refine V_istore_n (lv' := [(3, .int 0), (0, .ref h), (1, .ref q), (2, .int (it (gvB P L) 0 (pN P)))]) dX0_giveUpAtOnce_66 rfl (by decide) rfl ?_
    refine V_lv (lv' := [(0, .ref h), (1, .ref q), (2, .int (it (gvB P L) 0 (pN P))), (3, .int 0)]) [1, 2, 3, 0] rfl ?_
    refine V_eq (ws' := [(h, .inr (0, [.ref h1, .ref h2, .ref h3, .ref h4, .int (lcg (it (gsB (gvG P L)) L 0)), .int (lco (it (gsB (gvG P L)) L 0)), .int (lmi (it (gsB (gvG P L)) L 0)), .int (lse (it (gsB (gvG P L)) L 0)), .int (lru (it (gsB (gvG P L)) L 0))])), (h1, .inl (G.2.1, 8, .inl (lst (it (gsB (gvG P L)) L 0)))), (h2, .inl (G.2.1, 8, .inl (lwa (it (gsB (gvG P L)) L 0)))), (h3, .inl (G.2.1, 8, .inl (lca (it (gsB (gvG P L)) L 0)))), (h4, .inl (G.2.1, 8, .inl (lti (it (gsB (gvG P L)) L 0)))), (q, .inr (1, [.ref q1, .ref q2, .ref q3, .ref q4, .int (nI (pN P)), .int (pse P), .int (pme P), .int (pru P)])), (q1, .inl (G.2.1, 8, .inl (pki P))), (q2, .inl (G.2.1, 8, .inl (pci P))), (q3, .inl (G.2.1, 8, .inl (ppa P))), (q4, .inl (G.2.1, 8, .inl (pwo P)))]) (lv' := [(0, .ref h), (1, .ref q), (2, .int (gvG P L)), (3, .int (nI 0))]) (rfl) (rfl) ?_
    refine V_for (N := (pN P)) (fun i => [(h, .inr (0, [.ref h1, .ref h2, .ref h3, .ref h4, .int (lcg (it (gsB (gvG P L)) L i)), .int (lco (it (gsB (gvG P L)) L i)), .int (lmi (it (gsB (gvG P L)) L i)), .int (lse (it (gsB (gvG P L)) L i)), .int (lru (it (gsB (gvG P L)) L i))])), (h1, .inl (G.2.1, 8, .inl (lst (it (gsB (gvG P L)) L i)))), (h2, .inl (G.2.1, 8, .inl (lwa (it (gsB (gvG P L)) L i)))), (h3, .inl (G.2.1, 8, .inl (lca (it (gsB (gvG P L)) L i)))), (h4, .inl (G.2.1, 8, .inl (lti (it (gsB (gvG P L)) L i)))), (q, .inr (1, [.ref q1, .ref q2, .ref q3, .ref q4, .int (nI (pN P)), .int (pse P), .int (pme P), .int (pru P)])), (q1, .inl (G.2.1, 8, .inl (pki P))), (q2, .inl (G.2.1, 8, .inl (pci P))), (q3, .inl (G.2.1, 8, .inl (ppa P))), (q4, .inl (G.2.1, 8, .inl (pwo P)))]) (fun i => [(0, .ref h), (1, .ref q), (2, .int (gvG P L)), (3, .int (nI i))]) (fun i hi_67 ih_67 => ?_) ?_ _ 0 (Nat.zero_add _)
    · skip
      refine V_iload_n 3 dX0_giveUpAtOnce_67 rfl rfl ?_
      refine V_aload_n 1 dX0_giveUpAtOnce_68 rfl rfl ?_
      refine V_get (ci := 1) (C := RX1) (T := TX1) (N := 8) i_X1 5 rfl rfl 4 (by decide) w_1 rfl rfl dX0_giveUpAtOnce_69 ?_
      refine V_icmp_ge 97 dX0_giveUpAtOnce_72 (by decide) (fun c_10 => absurd c_10 (nI_ge hi_67 (by omega))) (fun c_10 => ?_)
      refine V_iload_n 2 dX0_giveUpAtOnce_75 rfl rfl ?_
      refine V_iload_n 3 dX0_giveUpAtOnce_76 rfl rfl ?_
      refine V_ishr dX0_giveUpAtOnce_77 ?_
      refine V_iconst (v := 1) dX0_giveUpAtOnce_78 (by decide) ?_
      refine V_iand dX0_giveUpAtOnce_79 ?_
      refine V_iconst (v := 1) dX0_giveUpAtOnce_80 (by decide) ?_
      refine V_icmp_ne 91 dX0_giveUpAtOnce_81 (by decide) (fun c_11 => ?_) (fun c_11 => ?_)
      · refine V_iinc 3 (v := (nI (i + 1))) (lv' := [(3, .int (nI (i + 1))), (0, .ref h), (1, .ref q), (2, .int (gvG P L))]) dX0_giveUpAtOnce_91 rfl (iinc_nI _) (by decide) rfl ?_
        refine V_goto 67 dX0_giveUpAtOnce_94 (by decide) ?_
        refine V_lv (lv' := [(0, .ref h), (1, .ref q), (2, .int (gvG P L)), (3, .int (nI (i + 1)))]) [1, 2, 3, 0] rfl ?_
        have hF_12 : (it (gsB (gvG P L)) L (i + 1)) = (it (gsB (gvG P L)) L i) := by simp [it, gsB, bitB, c_10, c_11]
        exact V_eq (by first | rfl | (rw [hF_12]; done) | (rw [hF_12]; rfl) | (simp only [hF_12]; done)) (by first | rfl | (rw [hF_12]; done) | (rw [hF_12]; rfl) | (simp only [hF_12]; done)) ih_67
      · refine V_aload_n 0 dX0_giveUpAtOnce_84 rfl rfl ?_
        refine V_get (ci := 0) (C := RX0) (T := TX0) (N := 9) i_X0 0 rfl rfl 0 (by decide) w_2 rfl rfl dX0_giveUpAtOnce_85 ?_
        refine V_iload_n 3 dX0_giveUpAtOnce_88 rfl rfl ?_
        refine V_iconst (v := 4) dX0_giveUpAtOnce_89 (by decide) ?_
        refine V_iast (ws' := [(h, .inr (0, [.ref h1, .ref h2, .ref h3, .ref h4, .int (lcg (it (gsB (gvG P L)) L i)), .int (lco (it (gsB (gvG P L)) L i)), .int (lmi (it (gsB (gvG P L)) L i)), .int (lse (it (gsB (gvG P L)) L i)), .int (lru (it (gsB (gvG P L)) L i))])), (h1, .inl (G.2.1, 8, .inl (upd (lst (it (gsB (gvG P L)) L i)) i 4))), (h2, .inl (G.2.1, 8, .inl (lwa (it (gsB (gvG P L)) L i)))), (h3, .inl (G.2.1, 8, .inl (lca (it (gsB (gvG P L)) L i)))), (h4, .inl (G.2.1, 8, .inl (lti (it (gsB (gvG P L)) L i)))), (q, .inr (1, [.ref q1, .ref q2, .ref q3, .ref q4, .int (nI (pN P)), .int (pse P), .int (pme P), .int (pru P)])), (q1, .inl (G.2.1, 8, .inl (pki P))), (q2, .inl (G.2.1, 8, .inl (pci P))), (q3, .inl (G.2.1, 8, .inl (ppa P))), (q4, .inl (G.2.1, 8, .inl (pwo P)))]) 1 (j := i) rfl rfl (by omega) (by decide) rfl dX0_giveUpAtOnce_90 ?_
        refine V_iinc 3 (v := (nI (i + 1))) (lv' := [(3, .int (nI (i + 1))), (0, .ref h), (1, .ref q), (2, .int (gvG P L))]) dX0_giveUpAtOnce_91 rfl (iinc_nI _) (by decide) rfl ?_
        refine V_goto 67 dX0_giveUpAtOnce_94 (by decide) ?_
        refine V_lv (lv' := [(0, .ref h), (1, .ref q), (2, .int (gvG P L)), (3, .int (nI (i + 1)))]) [1, 2, 3, 0] rfl ?_
        have hF_13 : (it (gsB (gvG P L)) L (i + 1)) = ((upd (lst (it (gsB (gvG P L)) L i)) i 4), (lwa (it (gsB (gvG P L)) L i)), (lca (it (gsB (gvG P L)) L i)), (lti (it (gsB (gvG P L)) L i)), (lcg (it (gsB (gvG P L)) L i)), (lco (it (gsB (gvG P L)) L i)), (lmi (it (gsB (gvG P L)) L i)), (lse (it (gsB (gvG P L)) L i)), (lru (it (gsB (gvG P L)) L i))) := by simp [it, gsB, bitB, c_10, c_11]
        exact V_eq (by first | rfl | (rw [hF_13]; done) | (rw [hF_13]; rfl) | (simp only [hF_13]; done)) (by first | rfl | (rw [hF_13]; done) | (rw [hF_13]; rfl) | (simp only [hF_13]; done)) ih_67
    · skip
      refine V_iload_n 3 dX0_giveUpAtOnce_67 rfl rfl ?_
      refine V_aload_n 1 dX0_giveUpAtOnce_68 rfl rfl ?_
      refine V_get (ci := 1) (C := RX1) (T := TX1) (N := 8) i_X1 5 rfl rfl 4 (by decide) w_1 rfl rfl dX0_giveUpAtOnce_69 ?_
      refine V_icmp_ge 97 dX0_giveUpAtOnce_72 (by decide) (fun c_14 => ?_) (fun c_14 => absurd (Int32.le_refl _) c_14)
      have hF_15 : (gvF P L) = (it (gsB (gvG P L)) L (pN P)) := by rfl
      exact fin _ _ _ dX0_giveUpAtOnce_97 () (by rw [hF_15]; try rfl)
set_option maxHeartbeats 4000000 in
set_option maxRecDepth 100000 in
theorem k_X0_goOn (l : Launch) (G : GG) (h h1 h2 h3 h4 : Nat) (L : LnS) (q q1 q2 q3 q4 : Nat) (P : PlS) (hN : pN P ≤ 8) : CV l yX0_goOn wsX0_goOn ({ frames := 3, cells := 0, slots := 0, locals := 71 }) G [(h, .inr (0, [.ref h1, .ref h2, .ref h3, .ref h4, .int (lcg L), .int (lco L), .int (lmi L), .int (lse L), .int (lru L)])), (h1, .inl (G.2.1, 8, .inl (lst L))), (h2, .inl (G.2.1, 8, .inl (lwa L))), (h3, .inl (G.2.1, 8, .inl (lca L))), (h4, .inl (G.2.1, 8, .inl (lti L))), (q, .inr (1, [.ref q1, .ref q2, .ref q3, .ref q4, .int (nI (pN P)), .int (pse P), .int (pme P), .int (pru P)])), (q1, .inl (G.2.1, 8, .inl (pki P))), (q2, .inl (G.2.1, 8, .inl (pci P))), (q3, .inl (G.2.1, 8, .inl (ppa P))), (q4, .inl (G.2.1, 8, .inl (pwo P)))] [.ref h, .ref q] (S := Unit) (fun _ => [(h, .inr (0, [.ref h1, .ref h2, .ref h3, .ref h4, .int (lcg (goF P L)), .int (lco (goF P L)), .int (lmi (goF P L)), .int (lse (goF P L)), .int (lru (goF P L))])), (h1, .inl (G.2.1, 8, .inl (lst (goF P L)))), (h2, .inl (G.2.1, 8, .inl (lwa (goF P L)))), (h3, .inl (G.2.1, 8, .inl (lca (goF P L)))), (h4, .inl (G.2.1, 8, .inl (lti (goF P L)))), (q, .inr (1, [.ref q1, .ref q2, .ref q3, .ref q4, .int (nI (pN P)), .int (pse P), .int (pme P), .int (pru P)])), (q1, .inl (G.2.1, 8, .inl (pki P))), (q2, .inl (G.2.1, 8, .inl (pci P))), (q3, .inl (G.2.1, 8, .inl (ppa P))), (q4, .inl (G.2.1, 8, .inl (pwo P)))]) := by
  refine CV.of (cc := cX0_goOn) (nL := 2) (by decide) rfl ⟨rfl, rfl⟩ (Nat.le_of_ble_eq_true rfl) ?_
  intro p e s m args below meth c Q A H0 hKs fin
  have i_X0 : ∀ w ∈ wsX00, w ∈ wsX0_goOn := by decide +kernel
  have w_1 : Jvm.Cond.fieldLink RX0 31 "NumberEleven$Line" "minute" "I" ∈ wsX0_goOn := by decide +kernel
  refine V_lv (lv' := [(0, .ref h), (1, .ref q)]) [0, 1] rfl ?_
  refine V_aload_n 0 dX0_goOn_0 rfl rfl ?_
  refine V_aload_n 1 dX0_goOn_1 rfl rfl ?_
  refine V_callVV (wr := []) (ws' := fun _ => [(h, .inr (0, [.ref h1, .ref h2, .ref h3, .ref h4, .int (lcg (awcF P L)), .int (lco (awcF P L)), .int (lmi (awcF P L)), .int (lse (awcF P L)), .int (lru (awcF P L))])), (h1, .inl (G.2.1, 8, .inl (lst (awcF P L)))), (h2, .inl (G.2.1, 8, .inl (lwa (awcF P L)))), (h3, .inl (G.2.1, 8, .inl (lca (awcF P L)))), (h4, .inl (G.2.1, 8, .inl (lti (awcF P L)))), (q, .inr (1, [.ref q1, .ref q2, .ref q3, .ref q4, .int (nI (pN P)), .int (pse P), .int (pme P), .int (pru P)])), (q1, .inl (G.2.1, 8, .inl (pki P))), (q2, .inl (G.2.1, 8, .inl (pci P))), (q3, .inl (G.2.1, 8, .inl (ppa P))), (q4, .inl (G.2.1, 8, .inl (pwo P)))]) [.ref q] [] 1 (k_X0_admitWhoCall l G h h1 h2 h3 h4 L q q1 q2 q3 q4 P (by first | assumption | omega)) 0 0 rfl rfl gX0_goOn_X0_admitWhoCall rfl ⟨rfl, rfl, Nat.le_of_ble_eq_true rfl, Nat.le_of_ble_eq_true rfl⟩ (by decide +kernel) rfl [0, 1, 2, 3, 4, 5, 6, 7, 8, 9] [] [0, 1, 2, 3, 4, 5, 6, 7, 8, 9] rfl rfl (by decide) (by decide) (fun _ => rfl) rfl (Nat.le_of_ble_eq_true rfl) dX0_goOn_2 (fun _ => ?_)
  refine V_aload_n 0 dX0_goOn_5 rfl rfl ?_
  refine V_aload_n 1 dX0_goOn_6 rfl rfl ?_
  refine V_callVV (wr := []) (ws' := fun _ => [(h, .inr (0, [.ref h1, .ref h2, .ref h3, .ref h4, .int (lcg (awaF P (awcF P L))), .int (lco (awaF P (awcF P L))), .int (lmi (awaF P (awcF P L))), .int (lse (awaF P (awcF P L))), .int (lru (awaF P (awcF P L)))])), (h1, .inl (G.2.1, 8, .inl (lst (awaF P (awcF P L))))), (h2, .inl (G.2.1, 8, .inl (lwa (awaF P (awcF P L))))), (h3, .inl (G.2.1, 8, .inl (lca (awaF P (awcF P L))))), (h4, .inl (G.2.1, 8, .inl (lti (awaF P (awcF P L))))), (q, .inr (1, [.ref q1, .ref q2, .ref q3, .ref q4, .int (nI (pN P)), .int (pse P), .int (pme P), .int (pru P)])), (q1, .inl (G.2.1, 8, .inl (pki P))), (q2, .inl (G.2.1, 8, .inl (pci P))), (q3, .inl (G.2.1, 8, .inl (ppa P))), (q4, .inl (G.2.1, 8, .inl (pwo P)))]) [.ref q] [] 1 (k_X0_admitWhoCallAgain l G h h1 h2 h3 h4 (awcF P L) q q1 q2 q3 q4 P (by first | assumption | omega)) 0 0 rfl rfl gX0_goOn_X0_admitWhoCallAgain rfl ⟨rfl, rfl, Nat.le_of_ble_eq_true rfl, Nat.le_of_ble_eq_true rfl⟩ (by decide +kernel) rfl [0, 1, 2, 3, 4, 5, 6, 7, 8, 9] [] [0, 1, 2, 3, 4, 5, 6, 7, 8, 9] rfl rfl (by decide) (by decide) (fun _ => rfl) rfl (Nat.le_of_ble_eq_true rfl) dX0_goOn_7 (fun _ => ?_)
  refine V_aload_n 0 dX0_goOn_10 rfl rfl ?_
  refine V_aload_n 1 dX0_goOn_11 rfl rfl ?_
  refine V_callVV (wr := []) (ws' := fun _ => [(h, .inr (0, [.ref h1, .ref h2, .ref h3, .ref h4, .int (lcg (fnF P (awaF P (awcF P L)))), .int (lco (fnF P (awaF P (awcF P L)))), .int (lmi (fnF P (awaF P (awcF P L)))), .int (lse (fnF P (awaF P (awcF P L)))), .int (lru (fnF P (awaF P (awcF P L))))])), (h1, .inl (G.2.1, 8, .inl (lst (fnF P (awaF P (awcF P L)))))), (h2, .inl (G.2.1, 8, .inl (lwa (fnF P (awaF P (awcF P L)))))), (h3, .inl (G.2.1, 8, .inl (lca (fnF P (awaF P (awcF P L)))))), (h4, .inl (G.2.1, 8, .inl (lti (fnF P (awaF P (awcF P L)))))), (q, .inr (1, [.ref q1, .ref q2, .ref q3, .ref q4, .int (nI (pN P)), .int (pse P), .int (pme P), .int (pru P)])), (q1, .inl (G.2.1, 8, .inl (pki P))), (q2, .inl (G.2.1, 8, .inl (pci P))), (q3, .inl (G.2.1, 8, .inl (ppa P))), (q4, .inl (G.2.1, 8, .inl (pwo P)))]) [.ref q] [] 1 (k_X0_finishServed l G h h1 h2 h3 h4 (awaF P (awcF P L)) q q1 q2 q3 q4 P (by first | assumption | omega)) 0 0 rfl rfl gX0_goOn_X0_finishServed rfl ⟨rfl, rfl, Nat.le_of_ble_eq_true rfl, Nat.le_of_ble_eq_true rfl⟩ (by decide +kernel) rfl [0, 1, 2, 3, 4, 5, 6, 7, 8, 9] [] [0, 1, 2, 3, 4, 5, 6, 7, 8, 9] rfl rfl (by decide) (by decide) (fun _ => rfl) rfl (Nat.le_of_ble_eq_true rfl) dX0_goOn_12 (fun _ => ?_)
  refine V_aload_n 0 dX0_goOn_15 rfl rfl ?_
  refine V_aload_n 1 dX0_goOn_16 rfl rfl ?_
  refine V_callVV (wr := []) (ws' := fun _ => [(h, .inr (0, [.ref h1, .ref h2, .ref h3, .ref h4, .int (lcg (tkF P (fnF P (awaF P (awcF P L))))), .int (lco (tkF P (fnF P (awaF P (awcF P L))))), .int (lmi (tkF P (fnF P (awaF P (awcF P L))))), .int (lse (tkF P (fnF P (awaF P (awcF P L))))), .int (lru (tkF P (fnF P (awaF P (awcF P L)))))])), (h1, .inl (G.2.1, 8, .inl (lst (tkF P (fnF P (awaF P (awcF P L))))))), (h2, .inl (G.2.1, 8, .inl (lwa (tkF P (fnF P (awaF P (awcF P L))))))), (h3, .inl (G.2.1, 8, .inl (lca (tkF P (fnF P (awaF P (awcF P L))))))), (h4, .inl (G.2.1, 8, .inl (lti (tkF P (fnF P (awaF P (awcF P L))))))), (q, .inr (1, [.ref q1, .ref q2, .ref q3, .ref q4, .int (nI (pN P)), .int (pse P), .int (pme P), .int (pru P)])), (q1, .inl (G.2.1, 8, .inl (pki P))), (q2, .inl (G.2.1, 8, .inl (pci P))), (q3, .inl (G.2.1, 8, .inl (ppa P))), (q4, .inl (G.2.1, 8, .inl (pwo P)))]) [.ref q] [] 1 (k_X0_takeNextOnes l G h h1 h2 h3 h4 (fnF P (awaF P (awcF P L))) q q1 q2 q3 q4 P (by first | assumption | omega)) 0 0 rfl rfl gX0_goOn_X0_takeNextOnes rfl ⟨rfl, rfl, Nat.le_of_ble_eq_true rfl, Nat.le_of_ble_eq_true rfl⟩ (by decide +kernel) rfl [0, 1, 2, 3, 4, 5, 6, 7, 8, 9] [] [0, 1, 2, 3, 4, 5, 6, 7, 8, 9] rfl rfl (by decide) (by decide) (fun _ => rfl) rfl (Nat.le_of_ble_eq_true rfl) dX0_goOn_17 (fun _ => ?_)
  refine V_aload_n 0 dX0_goOn_20 rfl rfl ?_
  refine V_aload_n 1 dX0_goOn_21 rfl rfl ?_
  refine V_callVV (wr := []) (ws' := fun _ => [(h, .inr (0, [.ref h1, .ref h2, .ref h3, .ref h4, .int (lcg (wtF P (tkF P (fnF P (awaF P (awcF P L)))))), .int (lco (wtF P (tkF P (fnF P (awaF P (awcF P L)))))), .int (lmi (wtF P (tkF P (fnF P (awaF P (awcF P L)))))), .int (lse (wtF P (tkF P (fnF P (awaF P (awcF P L)))))), .int (lru (wtF P (tkF P (fnF P (awaF P (awcF P L))))))])), (h1, .inl (G.2.1, 8, .inl (lst (wtF P (tkF P (fnF P (awaF P (awcF P L)))))))), (h2, .inl (G.2.1, 8, .inl (lwa (wtF P (tkF P (fnF P (awaF P (awcF P L)))))))), (h3, .inl (G.2.1, 8, .inl (lca (wtF P (tkF P (fnF P (awaF P (awcF P L)))))))), (h4, .inl (G.2.1, 8, .inl (lti (wtF P (tkF P (fnF P (awaF P (awcF P L)))))))), (q, .inr (1, [.ref q1, .ref q2, .ref q3, .ref q4, .int (nI (pN P)), .int (pse P), .int (pme P), .int (pru P)])), (q1, .inl (G.2.1, 8, .inl (pki P))), (q2, .inl (G.2.1, 8, .inl (pci P))), (q3, .inl (G.2.1, 8, .inl (ppa P))), (q4, .inl (G.2.1, 8, .inl (pwo P)))]) [.ref q] [] 1 (k_X0_waitAMinute l G h h1 h2 h3 h4 (tkF P (fnF P (awaF P (awcF P L)))) q q1 q2 q3 q4 P (by first | assumption | omega)) 0 0 rfl rfl gX0_goOn_X0_waitAMinute rfl ⟨rfl, rfl, Nat.le_of_ble_eq_true rfl, Nat.le_of_ble_eq_true rfl⟩ (by decide +kernel) rfl [0, 1, 2, 3, 4, 5, 6, 7, 8, 9] [] [0, 1, 2, 3, 4, 5, 6, 7, 8, 9] rfl rfl (by decide) (by decide) (fun _ => rfl) rfl (Nat.le_of_ble_eq_true rfl) dX0_goOn_22 (fun _ => ?_)
  refine V_aload_n 0 dX0_goOn_25 rfl rfl ?_
  refine V_aload_n 1 dX0_goOn_26 rfl rfl ?_
  refine V_callVV (wr := []) (ws' := fun _ => [(h, .inr (0, [.ref h1, .ref h2, .ref h3, .ref h4, .int (lcg (gvF P (wtF P (tkF P (fnF P (awaF P (awcF P L))))))), .int (lco (gvF P (wtF P (tkF P (fnF P (awaF P (awcF P L))))))), .int (lmi (gvF P (wtF P (tkF P (fnF P (awaF P (awcF P L))))))), .int (lse (gvF P (wtF P (tkF P (fnF P (awaF P (awcF P L))))))), .int (lru (gvF P (wtF P (tkF P (fnF P (awaF P (awcF P L)))))))])), (h1, .inl (G.2.1, 8, .inl (lst (gvF P (wtF P (tkF P (fnF P (awaF P (awcF P L))))))))), (h2, .inl (G.2.1, 8, .inl (lwa (gvF P (wtF P (tkF P (fnF P (awaF P (awcF P L))))))))), (h3, .inl (G.2.1, 8, .inl (lca (gvF P (wtF P (tkF P (fnF P (awaF P (awcF P L))))))))), (h4, .inl (G.2.1, 8, .inl (lti (gvF P (wtF P (tkF P (fnF P (awaF P (awcF P L))))))))), (q, .inr (1, [.ref q1, .ref q2, .ref q3, .ref q4, .int (nI (pN P)), .int (pse P), .int (pme P), .int (pru P)])), (q1, .inl (G.2.1, 8, .inl (pki P))), (q2, .inl (G.2.1, 8, .inl (pci P))), (q3, .inl (G.2.1, 8, .inl (ppa P))), (q4, .inl (G.2.1, 8, .inl (pwo P)))]) [.ref q] [] 1 (k_X0_giveUpAtOnce l G h h1 h2 h3 h4 (wtF P (tkF P (fnF P (awaF P (awcF P L))))) q q1 q2 q3 q4 P (by first | assumption | omega)) 0 0 rfl rfl gX0_goOn_X0_giveUpAtOnce rfl ⟨rfl, rfl, Nat.le_of_ble_eq_true rfl, Nat.le_of_ble_eq_true rfl⟩ (by decide +kernel) rfl [0, 1, 2, 3, 4, 5, 6, 7, 8, 9] [] [0, 1, 2, 3, 4, 5, 6, 7, 8, 9] rfl rfl (by decide) (by decide) (fun _ => rfl) rfl (Nat.le_of_ble_eq_true rfl) dX0_goOn_27 (fun _ => ?_)
  refine V_aload_n 0 dX0_goOn_30 rfl rfl ?_
  refine V_dup dX0_goOn_31 rfl ?_
  refine V_get (ci := 0) (C := RX0) (T := TX0) (N := 9) i_X0 0 rfl rfl 6 (by decide) w_1 rfl rfl dX0_goOn_32 ?_
  refine V_iconst (v := 1) dX0_goOn_35 (by decide) ?_
  refine V_iadd dX0_goOn_36 ?_
  refine V_put (ws' := [(h, .inr (0, [.ref h1, .ref h2, .ref h3, .ref h4, .int (lcg (gvF P (wtF P (tkF P (fnF P (awaF P (awcF P L))))))), .int (lco (gvF P (wtF P (tkF P (fnF P (awaF P (awcF P L))))))), .int ((lmi (gvF P (wtF P (tkF P (fnF P (awaF P (awcF P L))))))) + 1), .int (lse (gvF P (wtF P (tkF P (fnF P (awaF P (awcF P L))))))), .int (lru (gvF P (wtF P (tkF P (fnF P (awaF P (awcF P L)))))))])), (h1, .inl (G.2.1, 8, .inl (lst (gvF P (wtF P (tkF P (fnF P (awaF P (awcF P L))))))))), (h2, .inl (G.2.1, 8, .inl (lwa (gvF P (wtF P (tkF P (fnF P (awaF P (awcF P L))))))))), (h3, .inl (G.2.1, 8, .inl (lca (gvF P (wtF P (tkF P (fnF P (awaF P (awcF P L))))))))), (h4, .inl (G.2.1, 8, .inl (lti (gvF P (wtF P (tkF P (fnF P (awaF P (awcF P L))))))))), (q, .inr (1, [.ref q1, .ref q2, .ref q3, .ref q4, .int (nI (pN P)), .int (pse P), .int (pme P), .int (pru P)])), (q1, .inl (G.2.1, 8, .inl (pki P))), (q2, .inl (G.2.1, 8, .inl (pci P))), (q3, .inl (G.2.1, 8, .inl (ppa P))), (q4, .inl (G.2.1, 8, .inl (pwo P)))]) (ci := 0) (C := RX0) (T := TX0) (N := 9) i_X0 tyX0 tyX0_ok nmX0 0 rfl rfl 6 (by decide) w_1 rfl rfl (by decide +kernel) (Nat.le_of_ble_eq_true rfl) rfl dX0_goOn_37 ?_
  have hF_1 : (goF P L) = ((lst (gvF P (wtF P (tkF P (fnF P (awaF P (awcF P L))))))), (lwa (gvF P (wtF P (tkF P (fnF P (awaF P (awcF P L))))))), (lca (gvF P (wtF P (tkF P (fnF P (awaF P (awcF P L))))))), (lti (gvF P (wtF P (tkF P (fnF P (awaF P (awcF P L))))))), (lcg (gvF P (wtF P (tkF P (fnF P (awaF P (awcF P L))))))), (lco (gvF P (wtF P (tkF P (fnF P (awaF P (awcF P L))))))), ((lmi (gvF P (wtF P (tkF P (fnF P (awaF P (awcF P L))))))) + 1), (lse (gvF P (wtF P (tkF P (fnF P (awaF P (awcF P L))))))), (lru (gvF P (wtF P (tkF P (fnF P (awaF P (awcF P L)))))))) := by rfl
  exact fin _ _ _ dX0_goOn_40 () (by rw [hF_1]; try rfl)
set_option maxHeartbeats 4000000 in
set_option maxRecDepth 100000 in
theorem k_X0_goOnFor (l : Launch) (G : GG) (h h1 h2 h3 h4 : Nat) (L : LnS) (q q1 q2 q3 q4 : Nat) (P : PlS) (a : Nat) (hN : pN P ≤ 8) (ha : a ≤ 60) : CV l yX0_goOnFor wsX0_goOnFor ({ frames := 4, cells := 0, slots := 0, locals := 92 }) G [(h, .inr (0, [.ref h1, .ref h2, .ref h3, .ref h4, .int (lcg L), .int (lco L), .int (lmi L), .int (lse L), .int (lru L)])), (h1, .inl (G.2.1, 8, .inl (lst L))), (h2, .inl (G.2.1, 8, .inl (lwa L))), (h3, .inl (G.2.1, 8, .inl (lca L))), (h4, .inl (G.2.1, 8, .inl (lti L))), (q, .inr (1, [.ref q1, .ref q2, .ref q3, .ref q4, .int (nI (pN P)), .int (pse P), .int (pme P), .int (pru P)])), (q1, .inl (G.2.1, 8, .inl (pki P))), (q2, .inl (G.2.1, 8, .inl (pci P))), (q3, .inl (G.2.1, 8, .inl (ppa P))), (q4, .inl (G.2.1, 8, .inl (pwo P)))] [.ref h, .ref q, .int (nI a)] (S := Unit) (fun _ => [(h, .inr (0, [.ref h1, .ref h2, .ref h3, .ref h4, .int (lcg (gosF P L a)), .int (lco (gosF P L a)), .int (lmi (gosF P L a)), .int (lse (gosF P L a)), .int (lru (gosF P L a))])), (h1, .inl (G.2.1, 8, .inl (lst (gosF P L a)))), (h2, .inl (G.2.1, 8, .inl (lwa (gosF P L a)))), (h3, .inl (G.2.1, 8, .inl (lca (gosF P L a)))), (h4, .inl (G.2.1, 8, .inl (lti (gosF P L a)))), (q, .inr (1, [.ref q1, .ref q2, .ref q3, .ref q4, .int (nI (pN P)), .int (pse P), .int (pme P), .int (pru P)])), (q1, .inl (G.2.1, 8, .inl (pki P))), (q2, .inl (G.2.1, 8, .inl (pci P))), (q3, .inl (G.2.1, 8, .inl (ppa P))), (q4, .inl (G.2.1, 8, .inl (pwo P)))]) := by
  refine CV.of (cc := cX0_goOnFor) (nL := 4) (by decide) rfl ⟨rfl, rfl⟩ (Nat.le_of_ble_eq_true rfl) ?_
  intro p e s m args below meth c Q A H0 hKs fin
  refine V_lv (lv' := [(0, .ref h), (1, .ref q), (2, .int (nI a))]) [0, 1, 2] rfl ?_
  refine V_iconst (v := 0) dX0_goOnFor_0 (by decide) ?_
  refine V_istore_n (lv' := [(3, .int 0), (0, .ref h), (1, .ref q), (2, .int (nI a))]) dX0_goOnFor_1 rfl (by decide) rfl ?_
  refine V_lv (lv' := [(0, .ref h), (1, .ref q), (2, .int (nI a)), (3, .int 0)]) [1, 2, 3, 0] rfl ?_
  refine V_eq (ws' := [(h, .inr (0, [.ref h1, .ref h2, .ref h3, .ref h4, .int (lcg (it (gosB P) L 0)), .int (lco (it (gosB P) L 0)), .int (lmi (it (gosB P) L 0)), .int (lse (it (gosB P) L 0)), .int (lru (it (gosB P) L 0))])), (h1, .inl (G.2.1, 8, .inl (lst (it (gosB P) L 0)))), (h2, .inl (G.2.1, 8, .inl (lwa (it (gosB P) L 0)))), (h3, .inl (G.2.1, 8, .inl (lca (it (gosB P) L 0)))), (h4, .inl (G.2.1, 8, .inl (lti (it (gosB P) L 0)))), (q, .inr (1, [.ref q1, .ref q2, .ref q3, .ref q4, .int (nI (pN P)), .int (pse P), .int (pme P), .int (pru P)])), (q1, .inl (G.2.1, 8, .inl (pki P))), (q2, .inl (G.2.1, 8, .inl (pci P))), (q3, .inl (G.2.1, 8, .inl (ppa P))), (q4, .inl (G.2.1, 8, .inl (pwo P)))]) (lv' := [(0, .ref h), (1, .ref q), (2, .int (nI a)), (3, .int (nI 0))]) (rfl) (rfl) ?_
  refine V_for (N := a) (fun i => [(h, .inr (0, [.ref h1, .ref h2, .ref h3, .ref h4, .int (lcg (it (gosB P) L i)), .int (lco (it (gosB P) L i)), .int (lmi (it (gosB P) L i)), .int (lse (it (gosB P) L i)), .int (lru (it (gosB P) L i))])), (h1, .inl (G.2.1, 8, .inl (lst (it (gosB P) L i)))), (h2, .inl (G.2.1, 8, .inl (lwa (it (gosB P) L i)))), (h3, .inl (G.2.1, 8, .inl (lca (it (gosB P) L i)))), (h4, .inl (G.2.1, 8, .inl (lti (it (gosB P) L i)))), (q, .inr (1, [.ref q1, .ref q2, .ref q3, .ref q4, .int (nI (pN P)), .int (pse P), .int (pme P), .int (pru P)])), (q1, .inl (G.2.1, 8, .inl (pki P))), (q2, .inl (G.2.1, 8, .inl (pci P))), (q3, .inl (G.2.1, 8, .inl (ppa P))), (q4, .inl (G.2.1, 8, .inl (pwo P)))]) (fun i => [(0, .ref h), (1, .ref q), (2, .int (nI a)), (3, .int (nI i))]) (fun i hi_2 ih_2 => ?_) ?_ _ 0 (Nat.zero_add _)
  · skip
    refine V_iload_n 3 dX0_goOnFor_2 rfl rfl ?_
    refine V_iload_n 2 dX0_goOnFor_3 rfl rfl ?_
    refine V_icmp_ge 18 dX0_goOnFor_4 (by decide) (fun c_1 => absurd c_1 (nI_ge hi_2 (by omega))) (fun c_1 => ?_)
    refine V_aload_n 0 dX0_goOnFor_7 rfl rfl ?_
    refine V_aload_n 1 dX0_goOnFor_8 rfl rfl ?_
    refine V_callVV (wr := []) (ws' := fun _ => [(h, .inr (0, [.ref h1, .ref h2, .ref h3, .ref h4, .int (lcg (goF P (it (gosB P) L i))), .int (lco (goF P (it (gosB P) L i))), .int (lmi (goF P (it (gosB P) L i))), .int (lse (goF P (it (gosB P) L i))), .int (lru (goF P (it (gosB P) L i)))])), (h1, .inl (G.2.1, 8, .inl (lst (goF P (it (gosB P) L i))))), (h2, .inl (G.2.1, 8, .inl (lwa (goF P (it (gosB P) L i))))), (h3, .inl (G.2.1, 8, .inl (lca (goF P (it (gosB P) L i))))), (h4, .inl (G.2.1, 8, .inl (lti (goF P (it (gosB P) L i))))), (q, .inr (1, [.ref q1, .ref q2, .ref q3, .ref q4, .int (nI (pN P)), .int (pse P), .int (pme P), .int (pru P)])), (q1, .inl (G.2.1, 8, .inl (pki P))), (q2, .inl (G.2.1, 8, .inl (pci P))), (q3, .inl (G.2.1, 8, .inl (ppa P))), (q4, .inl (G.2.1, 8, .inl (pwo P)))]) [.ref q] [] 1 (k_X0_goOn l G h h1 h2 h3 h4 (it (gosB P) L i) q q1 q2 q3 q4 P (by first | assumption | omega)) 0 0 rfl rfl gX0_goOnFor_X0_goOn rfl ⟨rfl, rfl, Nat.le_of_ble_eq_true rfl, Nat.le_of_ble_eq_true rfl⟩ (by decide +kernel) rfl [0, 1, 2, 3, 4, 5, 6, 7, 8, 9] [] [0, 1, 2, 3, 4, 5, 6, 7, 8, 9] rfl rfl (by decide) (by decide) (fun _ => rfl) rfl (Nat.le_of_ble_eq_true rfl) dX0_goOnFor_9 (fun _ => ?_)
    refine V_iinc 3 (v := (nI (i + 1))) (lv' := [(3, .int (nI (i + 1))), (0, .ref h), (1, .ref q), (2, .int (nI a))]) dX0_goOnFor_12 rfl (iinc_nI _) (by decide) rfl ?_
    refine V_goto 2 dX0_goOnFor_15 (by decide) ?_
    refine V_lv (lv' := [(0, .ref h), (1, .ref q), (2, .int (nI a)), (3, .int (nI (i + 1)))]) [1, 2, 3, 0] rfl ?_
    have hF_2 : (it (gosB P) L (i + 1)) = (goF P (it (gosB P) L i)) := by rfl
    exact V_eq (by first | rfl | (rw [hF_2]; done) | (rw [hF_2]; rfl) | (simp only [hF_2]; done)) (by first | rfl | (rw [hF_2]; done) | (rw [hF_2]; rfl) | (simp only [hF_2]; done)) ih_2
  · skip
    refine V_iload_n 3 dX0_goOnFor_2 rfl rfl ?_
    refine V_iload_n 2 dX0_goOnFor_3 rfl rfl ?_
    refine V_icmp_ge 18 dX0_goOnFor_4 (by decide) (fun c_3 => ?_) (fun c_3 => absurd (Int32.le_refl _) c_3)
    have hF_4 : (gosF P L a) = (it (gosB P) L a) := by rfl
    exact fin _ _ _ dX0_goOnFor_18 () (by rw [hF_4]; try rfl)
set_option maxHeartbeats 4000000 in
set_option maxRecDepth 100000 in
theorem k_X0_start (l : Launch) (G : GG) (h h1 h2 h3 h4 : Nat) (L : LnS) (q q1 q2 q3 q4 : Nat) (P : PlS)  : CV l yX0_start wsX0_start ({ frames := 0, cells := 0, slots := 0, locals := 0 }) G [(h, .inr (0, [.ref h1, .ref h2, .ref h3, .ref h4, .int (lcg L), .int (lco L), .int (lmi L), .int (lse L), .int (lru L)])), (h1, .inl (G.2.1, 8, .inl (lst L))), (h2, .inl (G.2.1, 8, .inl (lwa L))), (h3, .inl (G.2.1, 8, .inl (lca L))), (h4, .inl (G.2.1, 8, .inl (lti L))), (q, .inr (1, [.ref q1, .ref q2, .ref q3, .ref q4, .int (nI (pN P)), .int (pse P), .int (pme P), .int (pru P)])), (q1, .inl (G.2.1, 8, .inl (pki P))), (q2, .inl (G.2.1, 8, .inl (pci P))), (q3, .inl (G.2.1, 8, .inl (ppa P))), (q4, .inl (G.2.1, 8, .inl (pwo P)))] [.ref h, .ref q] (S := Unit) (fun _ => [(h, .inr (0, [.ref h1, .ref h2, .ref h3, .ref h4, .int (lcg (startF P)), .int (lco (startF P)), .int (lmi (startF P)), .int (lse (startF P)), .int (lru (startF P))])), (h1, .inl (G.2.1, 8, .inl (lst (startF P)))), (h2, .inl (G.2.1, 8, .inl (lwa (startF P)))), (h3, .inl (G.2.1, 8, .inl (lca (startF P)))), (h4, .inl (G.2.1, 8, .inl (lti (startF P)))), (q, .inr (1, [.ref q1, .ref q2, .ref q3, .ref q4, .int (nI (pN P)), .int (pse P), .int (pme P), .int (pru P)])), (q1, .inl (G.2.1, 8, .inl (pki P))), (q2, .inl (G.2.1, 8, .inl (pci P))), (q3, .inl (G.2.1, 8, .inl (ppa P))), (q4, .inl (G.2.1, 8, .inl (pwo P)))]) := by
  refine CV.of (cc := cX0_start) (nL := 3) (by decide) rfl ⟨rfl, rfl⟩ (Nat.le_of_ble_eq_true rfl) ?_
  intro p e s m args below meth c Q A H0 hKs fin
  have i_X0 : ∀ w ∈ wsX00, w ∈ wsX0_start := by decide +kernel
  have i_X1 : ∀ w ∈ wsX10, w ∈ wsX0_start := by decide +kernel
  have w_1 : Jvm.Cond.fieldLink RX0 9 "NumberEleven$Line" "state" "[I" ∈ wsX0_start := by decide +kernel
  have w_2 : Jvm.Cond.fieldLink RX0 15 "NumberEleven$Line" "waited" "[I" ∈ wsX0_start := by decide +kernel
  have w_3 : Jvm.Cond.fieldLink RX0 18 "NumberEleven$Line" "came" "[I" ∈ wsX0_start := by decide +kernel
  have w_4 : Jvm.Cond.fieldLink RX0 21 "NumberEleven$Line" "takenIn" "[I" ∈ wsX0_start := by decide +kernel
  have w_5 : Jvm.Cond.fieldLink RX0 24 "NumberEleven$Line" "callingAgain" "I" ∈ wsX0_start := by decide +kernel
  have w_6 : Jvm.Cond.fieldLink RX0 28 "NumberEleven$Line" "comings" "I" ∈ wsX0_start := by decide +kernel
  have w_7 : Jvm.Cond.fieldLink RX0 31 "NumberEleven$Line" "minute" "I" ∈ wsX0_start := by decide +kernel
  have w_8 : Jvm.Cond.fieldLink RX0 34 "NumberEleven$Plan" "serving" "I" ∈ wsX0_start := by decide +kernel
  have w_9 : Jvm.Cond.fieldLink RX0 39 "NumberEleven$Line" "serving" "I" ∈ wsX0_start := by decide +kernel
  have w_10 : Jvm.Cond.fieldLink RX0 40 "NumberEleven$Plan" "rule" "I" ∈ wsX0_start := by decide +kernel
  have w_11 : Jvm.Cond.fieldLink RX0 43 "NumberEleven$Line" "rule" "I" ∈ wsX0_start := by decide +kernel
  refine V_lv (lv' := [(0, .ref h), (1, .ref q)]) [0, 1] rfl ?_
  refine V_iconst (v := 0) dX0_start_0 (by decide) ?_
  refine V_istore_n (lv' := [(2, .int 0), (0, .ref h), (1, .ref q)]) dX0_start_1 rfl (by decide) rfl ?_
  refine V_lv (lv' := [(0, .ref h), (1, .ref q), (2, .int 0)]) [1, 2, 0] rfl ?_
  refine V_eq (ws' := [(h, .inr (0, [.ref h1, .ref h2, .ref h3, .ref h4, .int (lcg (it stB L 0)), .int (lco (it stB L 0)), .int (lmi (it stB L 0)), .int (lse (it stB L 0)), .int (lru (it stB L 0))])), (h1, .inl (G.2.1, 8, .inl (lst (it stB L 0)))), (h2, .inl (G.2.1, 8, .inl (lwa (it stB L 0)))), (h3, .inl (G.2.1, 8, .inl (lca (it stB L 0)))), (h4, .inl (G.2.1, 8, .inl (lti (it stB L 0)))), (q, .inr (1, [.ref q1, .ref q2, .ref q3, .ref q4, .int (nI (pN P)), .int (pse P), .int (pme P), .int (pru P)])), (q1, .inl (G.2.1, 8, .inl (pki P))), (q2, .inl (G.2.1, 8, .inl (pci P))), (q3, .inl (G.2.1, 8, .inl (ppa P))), (q4, .inl (G.2.1, 8, .inl (pwo P)))]) (lv' := [(0, .ref h), (1, .ref q), (2, .int (nI 0))]) (rfl) (rfl) ?_
  refine V_for (N := 8) (fun i => [(h, .inr (0, [.ref h1, .ref h2, .ref h3, .ref h4, .int (lcg (it stB L i)), .int (lco (it stB L i)), .int (lmi (it stB L i)), .int (lse (it stB L i)), .int (lru (it stB L i))])), (h1, .inl (G.2.1, 8, .inl (lst (it stB L i)))), (h2, .inl (G.2.1, 8, .inl (lwa (it stB L i)))), (h3, .inl (G.2.1, 8, .inl (lca (it stB L i)))), (h4, .inl (G.2.1, 8, .inl (lti (it stB L i)))), (q, .inr (1, [.ref q1, .ref q2, .ref q3, .ref q4, .int (nI (pN P)), .int (pse P), .int (pme P), .int (pru P)])), (q1, .inl (G.2.1, 8, .inl (pki P))), (q2, .inl (G.2.1, 8, .inl (pci P))), (q3, .inl (G.2.1, 8, .inl (ppa P))), (q4, .inl (G.2.1, 8, .inl (pwo P)))]) (fun i => [(0, .ref h), (1, .ref q), (2, .int (nI i))]) (fun i hi_2 ih_2 => ?_) ?_ _ 0 (Nat.zero_add _)
  · skip
    refine V_iload_n 2 dX0_start_2 rfl rfl ?_
    refine V_bipush (v := 8) dX0_start_3 (by decide) ?_
    refine V_icmp_ge 42 dX0_start_5 (by decide) (fun c_1 => absurd (show nI 8 ≤ nI i from c_1) (nI_ge hi_2 (by omega))) (fun c_1 => ?_)
    refine V_aload_n 0 dX0_start_8 rfl rfl ?_
    refine V_get (ci := 0) (C := RX0) (T := TX0) (N := 9) i_X0 0 rfl rfl 0 (by decide) w_1 rfl rfl dX0_start_9 ?_
    refine V_iload_n 2 dX0_start_12 rfl rfl ?_
    refine V_iconst (v := 0) dX0_start_13 (by decide) ?_
    refine V_iast (ws' := [(h, .inr (0, [.ref h1, .ref h2, .ref h3, .ref h4, .int (lcg (it stB L i)), .int (lco (it stB L i)), .int (lmi (it stB L i)), .int (lse (it stB L i)), .int (lru (it stB L i))])), (h1, .inl (G.2.1, 8, .inl (upd (lst (it stB L i)) i 0))), (h2, .inl (G.2.1, 8, .inl (lwa (it stB L i)))), (h3, .inl (G.2.1, 8, .inl (lca (it stB L i)))), (h4, .inl (G.2.1, 8, .inl (lti (it stB L i)))), (q, .inr (1, [.ref q1, .ref q2, .ref q3, .ref q4, .int (nI (pN P)), .int (pse P), .int (pme P), .int (pru P)])), (q1, .inl (G.2.1, 8, .inl (pki P))), (q2, .inl (G.2.1, 8, .inl (pci P))), (q3, .inl (G.2.1, 8, .inl (ppa P))), (q4, .inl (G.2.1, 8, .inl (pwo P)))]) 1 (j := i) rfl rfl (by omega) (by decide) rfl dX0_start_14 ?_
    refine V_aload_n 0 dX0_start_15 rfl rfl ?_
    refine V_get (ci := 0) (C := RX0) (T := TX0) (N := 9) i_X0 0 rfl rfl 1 (by decide) w_2 rfl rfl dX0_start_16 ?_
    refine V_iload_n 2 dX0_start_19 rfl rfl ?_
    refine V_iconst (v := 0) dX0_start_20 (by decide) ?_
    refine V_iast (ws' := [(h, .inr (0, [.ref h1, .ref h2, .ref h3, .ref h4, .int (lcg (it stB L i)), .int (lco (it stB L i)), .int (lmi (it stB L i)), .int (lse (it stB L i)), .int (lru (it stB L i))])), (h1, .inl (G.2.1, 8, .inl (upd (lst (it stB L i)) i 0))), (h2, .inl (G.2.1, 8, .inl (upd (lwa (it stB L i)) i 0))), (h3, .inl (G.2.1, 8, .inl (lca (it stB L i)))), (h4, .inl (G.2.1, 8, .inl (lti (it stB L i)))), (q, .inr (1, [.ref q1, .ref q2, .ref q3, .ref q4, .int (nI (pN P)), .int (pse P), .int (pme P), .int (pru P)])), (q1, .inl (G.2.1, 8, .inl (pki P))), (q2, .inl (G.2.1, 8, .inl (pci P))), (q3, .inl (G.2.1, 8, .inl (ppa P))), (q4, .inl (G.2.1, 8, .inl (pwo P)))]) 2 (j := i) rfl rfl (by omega) (by decide) rfl dX0_start_21 ?_
    refine V_aload_n 0 dX0_start_22 rfl rfl ?_
    refine V_get (ci := 0) (C := RX0) (T := TX0) (N := 9) i_X0 0 rfl rfl 2 (by decide) w_3 rfl rfl dX0_start_23 ?_
    refine V_iload_n 2 dX0_start_26 rfl rfl ?_
    refine V_iconst (v := 0) dX0_start_27 (by decide) ?_
    refine V_iast (ws' := [(h, .inr (0, [.ref h1, .ref h2, .ref h3, .ref h4, .int (lcg (it stB L i)), .int (lco (it stB L i)), .int (lmi (it stB L i)), .int (lse (it stB L i)), .int (lru (it stB L i))])), (h1, .inl (G.2.1, 8, .inl (upd (lst (it stB L i)) i 0))), (h2, .inl (G.2.1, 8, .inl (upd (lwa (it stB L i)) i 0))), (h3, .inl (G.2.1, 8, .inl (upd (lca (it stB L i)) i 0))), (h4, .inl (G.2.1, 8, .inl (lti (it stB L i)))), (q, .inr (1, [.ref q1, .ref q2, .ref q3, .ref q4, .int (nI (pN P)), .int (pse P), .int (pme P), .int (pru P)])), (q1, .inl (G.2.1, 8, .inl (pki P))), (q2, .inl (G.2.1, 8, .inl (pci P))), (q3, .inl (G.2.1, 8, .inl (ppa P))), (q4, .inl (G.2.1, 8, .inl (pwo P)))]) 3 (j := i) rfl rfl (by omega) (by decide) rfl dX0_start_28 ?_
    refine V_aload_n 0 dX0_start_29 rfl rfl ?_
    refine V_get (ci := 0) (C := RX0) (T := TX0) (N := 9) i_X0 0 rfl rfl 3 (by decide) w_4 rfl rfl dX0_start_30 ?_
    refine V_iload_n 2 dX0_start_33 rfl rfl ?_
    refine V_iconst (v := 0) dX0_start_34 (by decide) ?_
    refine V_iast (ws' := [(h, .inr (0, [.ref h1, .ref h2, .ref h3, .ref h4, .int (lcg (it stB L i)), .int (lco (it stB L i)), .int (lmi (it stB L i)), .int (lse (it stB L i)), .int (lru (it stB L i))])), (h1, .inl (G.2.1, 8, .inl (upd (lst (it stB L i)) i 0))), (h2, .inl (G.2.1, 8, .inl (upd (lwa (it stB L i)) i 0))), (h3, .inl (G.2.1, 8, .inl (upd (lca (it stB L i)) i 0))), (h4, .inl (G.2.1, 8, .inl (upd (lti (it stB L i)) i 0))), (q, .inr (1, [.ref q1, .ref q2, .ref q3, .ref q4, .int (nI (pN P)), .int (pse P), .int (pme P), .int (pru P)])), (q1, .inl (G.2.1, 8, .inl (pki P))), (q2, .inl (G.2.1, 8, .inl (pci P))), (q3, .inl (G.2.1, 8, .inl (ppa P))), (q4, .inl (G.2.1, 8, .inl (pwo P)))]) 4 (j := i) rfl rfl (by omega) (by decide) rfl dX0_start_35 ?_
    refine V_iinc 2 (v := (nI (i + 1))) (lv' := [(2, .int (nI (i + 1))), (0, .ref h), (1, .ref q)]) dX0_start_36 rfl (iinc_nI _) (by decide) rfl ?_
    refine V_goto 2 dX0_start_39 (by decide) ?_
    refine V_lv (lv' := [(0, .ref h), (1, .ref q), (2, .int (nI (i + 1)))]) [1, 2, 0] rfl ?_
    have hF_2 : (it stB L (i + 1)) = ((upd (lst (it stB L i)) i 0), (upd (lwa (it stB L i)) i 0), (upd (lca (it stB L i)) i 0), (upd (lti (it stB L i)) i 0), (lcg (it stB L i)), (lco (it stB L i)), (lmi (it stB L i)), (lse (it stB L i)), (lru (it stB L i))) := by rfl
    exact V_eq (by first | rfl | (rw [hF_2]; done) | (rw [hF_2]; rfl) | (simp only [hF_2]; done)) (by first | rfl | (rw [hF_2]; done) | (rw [hF_2]; rfl) | (simp only [hF_2]; done)) ih_2
  · skip
    refine V_iload_n 2 dX0_start_2 rfl rfl ?_
    refine V_bipush (v := 8) dX0_start_3 (by decide) ?_
    refine V_icmp_ge 42 dX0_start_5 (by decide) (fun c_3 => ?_) (fun c_3 => absurd (show nI 8 ≤ nI 8 from Int32.le_refl _) c_3)
    refine V_arr (ws' := [(h, .inr (0, [.ref h1, .ref h2, .ref h3, .ref h4, .int (lcg (it stB L 8)), .int (lco (it stB L 8)), .int (lmi (it stB L 8)), .int (lse (it stB L 8)), .int (lru (it stB L 8))])), (h1, .inl (G.2.1, 8, .inl (fun _ => 0))), (h2, .inl (G.2.1, 8, .inl (lwa (it stB L 8)))), (h3, .inl (G.2.1, 8, .inl (lca (it stB L 8)))), (h4, .inl (G.2.1, 8, .inl (lti (it stB L 8)))), (q, .inr (1, [.ref q1, .ref q2, .ref q3, .ref q4, .int (nI (pN P)), .int (pse P), .int (pme P), .int (pru P)])), (q1, .inl (G.2.1, 8, .inl (pki P))), (q2, .inl (G.2.1, 8, .inl (pci P))), (q3, .inl (G.2.1, 8, .inl (ppa P))), (q4, .inl (G.2.1, 8, .inl (pwo P)))]) (g := fun _ => 0) 1 rfl (st0_0 L) rfl ?_
    refine V_arr (ws' := [(h, .inr (0, [.ref h1, .ref h2, .ref h3, .ref h4, .int (lcg (it stB L 8)), .int (lco (it stB L 8)), .int (lmi (it stB L 8)), .int (lse (it stB L 8)), .int (lru (it stB L 8))])), (h1, .inl (G.2.1, 8, .inl (fun _ => 0))), (h2, .inl (G.2.1, 8, .inl (fun _ => 0))), (h3, .inl (G.2.1, 8, .inl (lca (it stB L 8)))), (h4, .inl (G.2.1, 8, .inl (lti (it stB L 8)))), (q, .inr (1, [.ref q1, .ref q2, .ref q3, .ref q4, .int (nI (pN P)), .int (pse P), .int (pme P), .int (pru P)])), (q1, .inl (G.2.1, 8, .inl (pki P))), (q2, .inl (G.2.1, 8, .inl (pci P))), (q3, .inl (G.2.1, 8, .inl (ppa P))), (q4, .inl (G.2.1, 8, .inl (pwo P)))]) (g := fun _ => 0) 2 rfl (st0_1 L) rfl ?_
    refine V_arr (ws' := [(h, .inr (0, [.ref h1, .ref h2, .ref h3, .ref h4, .int (lcg (it stB L 8)), .int (lco (it stB L 8)), .int (lmi (it stB L 8)), .int (lse (it stB L 8)), .int (lru (it stB L 8))])), (h1, .inl (G.2.1, 8, .inl (fun _ => 0))), (h2, .inl (G.2.1, 8, .inl (fun _ => 0))), (h3, .inl (G.2.1, 8, .inl (fun _ => 0))), (h4, .inl (G.2.1, 8, .inl (lti (it stB L 8)))), (q, .inr (1, [.ref q1, .ref q2, .ref q3, .ref q4, .int (nI (pN P)), .int (pse P), .int (pme P), .int (pru P)])), (q1, .inl (G.2.1, 8, .inl (pki P))), (q2, .inl (G.2.1, 8, .inl (pci P))), (q3, .inl (G.2.1, 8, .inl (ppa P))), (q4, .inl (G.2.1, 8, .inl (pwo P)))]) (g := fun _ => 0) 3 rfl (st0_2 L) rfl ?_
    refine V_arr (ws' := [(h, .inr (0, [.ref h1, .ref h2, .ref h3, .ref h4, .int (lcg (it stB L 8)), .int (lco (it stB L 8)), .int (lmi (it stB L 8)), .int (lse (it stB L 8)), .int (lru (it stB L 8))])), (h1, .inl (G.2.1, 8, .inl (fun _ => 0))), (h2, .inl (G.2.1, 8, .inl (fun _ => 0))), (h3, .inl (G.2.1, 8, .inl (fun _ => 0))), (h4, .inl (G.2.1, 8, .inl (fun _ => 0))), (q, .inr (1, [.ref q1, .ref q2, .ref q3, .ref q4, .int (nI (pN P)), .int (pse P), .int (pme P), .int (pru P)])), (q1, .inl (G.2.1, 8, .inl (pki P))), (q2, .inl (G.2.1, 8, .inl (pci P))), (q3, .inl (G.2.1, 8, .inl (ppa P))), (q4, .inl (G.2.1, 8, .inl (pwo P)))]) (g := fun _ => 0) 4 rfl (st0_3 L) rfl ?_
    refine V_aload_n 0 dX0_start_42 rfl rfl ?_
    refine V_iconst (v := 0) dX0_start_43 (by decide) ?_
    refine V_put (ws' := [(h, .inr (0, [.ref h1, .ref h2, .ref h3, .ref h4, .int 0, .int (lco (it stB L 8)), .int (lmi (it stB L 8)), .int (lse (it stB L 8)), .int (lru (it stB L 8))])), (h1, .inl (G.2.1, 8, .inl (fun _ => 0))), (h2, .inl (G.2.1, 8, .inl (fun _ => 0))), (h3, .inl (G.2.1, 8, .inl (fun _ => 0))), (h4, .inl (G.2.1, 8, .inl (fun _ => 0))), (q, .inr (1, [.ref q1, .ref q2, .ref q3, .ref q4, .int (nI (pN P)), .int (pse P), .int (pme P), .int (pru P)])), (q1, .inl (G.2.1, 8, .inl (pki P))), (q2, .inl (G.2.1, 8, .inl (pci P))), (q3, .inl (G.2.1, 8, .inl (ppa P))), (q4, .inl (G.2.1, 8, .inl (pwo P)))]) (ci := 0) (C := RX0) (T := TX0) (N := 9) i_X0 tyX0 tyX0_ok nmX0 0 rfl rfl 4 (by decide) w_5 rfl rfl (by decide +kernel) (Nat.le_of_ble_eq_true rfl) rfl dX0_start_44 ?_
    refine V_aload_n 0 dX0_start_47 rfl rfl ?_
    refine V_iconst (v := 0) dX0_start_48 (by decide) ?_
    refine V_put (ws' := [(h, .inr (0, [.ref h1, .ref h2, .ref h3, .ref h4, .int 0, .int 0, .int (lmi (it stB L 8)), .int (lse (it stB L 8)), .int (lru (it stB L 8))])), (h1, .inl (G.2.1, 8, .inl (fun _ => 0))), (h2, .inl (G.2.1, 8, .inl (fun _ => 0))), (h3, .inl (G.2.1, 8, .inl (fun _ => 0))), (h4, .inl (G.2.1, 8, .inl (fun _ => 0))), (q, .inr (1, [.ref q1, .ref q2, .ref q3, .ref q4, .int (nI (pN P)), .int (pse P), .int (pme P), .int (pru P)])), (q1, .inl (G.2.1, 8, .inl (pki P))), (q2, .inl (G.2.1, 8, .inl (pci P))), (q3, .inl (G.2.1, 8, .inl (ppa P))), (q4, .inl (G.2.1, 8, .inl (pwo P)))]) (ci := 0) (C := RX0) (T := TX0) (N := 9) i_X0 tyX0 tyX0_ok nmX0 0 rfl rfl 5 (by decide) w_6 rfl rfl (by decide +kernel) (Nat.le_of_ble_eq_true rfl) rfl dX0_start_49 ?_
    refine V_aload_n 0 dX0_start_52 rfl rfl ?_
    refine V_iconst (v := 0) dX0_start_53 (by decide) ?_
    refine V_put (ws' := [(h, .inr (0, [.ref h1, .ref h2, .ref h3, .ref h4, .int 0, .int 0, .int 0, .int (lse (it stB L 8)), .int (lru (it stB L 8))])), (h1, .inl (G.2.1, 8, .inl (fun _ => 0))), (h2, .inl (G.2.1, 8, .inl (fun _ => 0))), (h3, .inl (G.2.1, 8, .inl (fun _ => 0))), (h4, .inl (G.2.1, 8, .inl (fun _ => 0))), (q, .inr (1, [.ref q1, .ref q2, .ref q3, .ref q4, .int (nI (pN P)), .int (pse P), .int (pme P), .int (pru P)])), (q1, .inl (G.2.1, 8, .inl (pki P))), (q2, .inl (G.2.1, 8, .inl (pci P))), (q3, .inl (G.2.1, 8, .inl (ppa P))), (q4, .inl (G.2.1, 8, .inl (pwo P)))]) (ci := 0) (C := RX0) (T := TX0) (N := 9) i_X0 tyX0 tyX0_ok nmX0 0 rfl rfl 6 (by decide) w_7 rfl rfl (by decide +kernel) (Nat.le_of_ble_eq_true rfl) rfl dX0_start_54 ?_
    refine V_aload_n 0 dX0_start_57 rfl rfl ?_
    refine V_aload_n 1 dX0_start_58 rfl rfl ?_
    refine V_get (ci := 1) (C := RX1) (T := TX1) (N := 8) i_X1 5 rfl rfl 5 (by decide) w_8 rfl rfl dX0_start_59 ?_
    refine V_put (ws' := [(h, .inr (0, [.ref h1, .ref h2, .ref h3, .ref h4, .int 0, .int 0, .int 0, .int (pse P), .int (lru (it stB L 8))])), (h1, .inl (G.2.1, 8, .inl (fun _ => 0))), (h2, .inl (G.2.1, 8, .inl (fun _ => 0))), (h3, .inl (G.2.1, 8, .inl (fun _ => 0))), (h4, .inl (G.2.1, 8, .inl (fun _ => 0))), (q, .inr (1, [.ref q1, .ref q2, .ref q3, .ref q4, .int (nI (pN P)), .int (pse P), .int (pme P), .int (pru P)])), (q1, .inl (G.2.1, 8, .inl (pki P))), (q2, .inl (G.2.1, 8, .inl (pci P))), (q3, .inl (G.2.1, 8, .inl (ppa P))), (q4, .inl (G.2.1, 8, .inl (pwo P)))]) (ci := 0) (C := RX0) (T := TX0) (N := 9) i_X0 tyX0 tyX0_ok nmX0 0 rfl rfl 7 (by decide) w_9 rfl rfl (by decide +kernel) (Nat.le_of_ble_eq_true rfl) rfl dX0_start_62 ?_
    refine V_aload_n 0 dX0_start_65 rfl rfl ?_
    refine V_aload_n 1 dX0_start_66 rfl rfl ?_
    refine V_get (ci := 1) (C := RX1) (T := TX1) (N := 8) i_X1 5 rfl rfl 7 (by decide) w_10 rfl rfl dX0_start_67 ?_
    refine V_put (ws' := [(h, .inr (0, [.ref h1, .ref h2, .ref h3, .ref h4, .int 0, .int 0, .int 0, .int (pse P), .int (pru P)])), (h1, .inl (G.2.1, 8, .inl (fun _ => 0))), (h2, .inl (G.2.1, 8, .inl (fun _ => 0))), (h3, .inl (G.2.1, 8, .inl (fun _ => 0))), (h4, .inl (G.2.1, 8, .inl (fun _ => 0))), (q, .inr (1, [.ref q1, .ref q2, .ref q3, .ref q4, .int (nI (pN P)), .int (pse P), .int (pme P), .int (pru P)])), (q1, .inl (G.2.1, 8, .inl (pki P))), (q2, .inl (G.2.1, 8, .inl (pci P))), (q3, .inl (G.2.1, 8, .inl (ppa P))), (q4, .inl (G.2.1, 8, .inl (pwo P)))]) (ci := 0) (C := RX0) (T := TX0) (N := 9) i_X0 tyX0 tyX0_ok nmX0 0 rfl rfl 8 (by decide) w_11 rfl rfl (by decide +kernel) (Nat.le_of_ble_eq_true rfl) rfl dX0_start_70 ?_
    have hF_4 : (startF P) = ((fun _ => 0), (fun _ => 0), (fun _ => 0), (fun _ => 0), 0, 0, 0, (pse P), (pru P)) := by rfl
    exact fin _ _ _ dX0_start_73 () (by rw [hF_4]; try rfl)
set_option maxHeartbeats 4000000 in
set_option maxRecDepth 100000 in
theorem k_X0_copyFrom (l : Launch) (G : GG) (h h1 h2 h3 h4 : Nat) (L : LnS) (o o1 o2 o3 o4 : Nat) (M : LnS)  : CV l yX0_copyFrom wsX0_copyFrom ({ frames := 1, cells := 0, slots := 0, locals := 18 }) G [(h, .inr (0, [.ref h1, .ref h2, .ref h3, .ref h4, .int (lcg L), .int (lco L), .int (lmi L), .int (lse L), .int (lru L)])), (h1, .inl (G.2.1, 8, .inl (lst L))), (h2, .inl (G.2.1, 8, .inl (lwa L))), (h3, .inl (G.2.1, 8, .inl (lca L))), (h4, .inl (G.2.1, 8, .inl (lti L))), (o, .inr (0, [.ref o1, .ref o2, .ref o3, .ref o4, .int (lcg M), .int (lco M), .int (lmi M), .int (lse M), .int (lru M)])), (o1, .inl (G.2.1, 8, .inl (lst M))), (o2, .inl (G.2.1, 8, .inl (lwa M))), (o3, .inl (G.2.1, 8, .inl (lca M))), (o4, .inl (G.2.1, 8, .inl (lti M)))] [.ref h, .ref o] (S := Unit) (fun _ => [(h, .inr (0, [.ref h1, .ref h2, .ref h3, .ref h4, .int (lcg M), .int (lco M), .int (lmi M), .int (lse M), .int (lru M)])), (h1, .inl (G.2.1, 8, .inl (lst M))), (h2, .inl (G.2.1, 8, .inl (lwa M))), (h3, .inl (G.2.1, 8, .inl (lca M))), (h4, .inl (G.2.1, 8, .inl (lti M))), (o, .inr (0, [.ref o1, .ref o2, .ref o3, .ref o4, .int (lcg M), .int (lco M), .int (lmi M), .int (lse M), .int (lru M)])), (o1, .inl (G.2.1, 8, .inl (lst M))), (o2, .inl (G.2.1, 8, .inl (lwa M))), (o3, .inl (G.2.1, 8, .inl (lca M))), (o4, .inl (G.2.1, 8, .inl (lti M)))]) := by
  refine CV.of (cc := cX0_copyFrom) (nL := 2) (by decide) rfl ⟨rfl, rfl⟩ (Nat.le_of_ble_eq_true rfl) ?_
  intro p e s m args below meth c Q A H0 hKs fin
  have i_X0 : ∀ w ∈ wsX00, w ∈ wsX0_copyFrom := by decide +kernel
  have w_1 : Jvm.Cond.fieldLink RX0 9 "NumberEleven$Line" "state" "[I" ∈ wsX0_copyFrom := by decide +kernel
  have w_2 : Jvm.Cond.methodLink RX0 44 arraycopyName ∈ wsX0_copyFrom := by decide +kernel
  have w_3 : Jvm.Cond.native arraycopyName ∈ wsX0_copyFrom := by decide +kernel
  have w_4 : Jvm.Cond.static arraycopyName ∈ wsX0_copyFrom := by decide +kernel
  have w_5 : Jvm.Cond.initialized "java/lang/System" ∈ wsX0_copyFrom := by decide +kernel
  have w_6 : Jvm.Cond.fieldLink RX0 15 "NumberEleven$Line" "waited" "[I" ∈ wsX0_copyFrom := by decide +kernel
  have w_7 : Jvm.Cond.fieldLink RX0 18 "NumberEleven$Line" "came" "[I" ∈ wsX0_copyFrom := by decide +kernel
  have w_8 : Jvm.Cond.fieldLink RX0 21 "NumberEleven$Line" "takenIn" "[I" ∈ wsX0_copyFrom := by decide +kernel
  have w_9 : Jvm.Cond.fieldLink RX0 24 "NumberEleven$Line" "callingAgain" "I" ∈ wsX0_copyFrom := by decide +kernel
  have w_10 : Jvm.Cond.fieldLink RX0 28 "NumberEleven$Line" "comings" "I" ∈ wsX0_copyFrom := by decide +kernel
  have w_11 : Jvm.Cond.fieldLink RX0 31 "NumberEleven$Line" "minute" "I" ∈ wsX0_copyFrom := by decide +kernel
  have w_12 : Jvm.Cond.fieldLink RX0 39 "NumberEleven$Line" "serving" "I" ∈ wsX0_copyFrom := by decide +kernel
  have w_13 : Jvm.Cond.fieldLink RX0 43 "NumberEleven$Line" "rule" "I" ∈ wsX0_copyFrom := by decide +kernel
  refine V_lv (lv' := [(0, .ref h), (1, .ref o)]) [0, 1] rfl ?_
  refine V_aload_n 1 dX0_copyFrom_0 rfl rfl ?_
  refine V_get (ci := 0) (C := RX0) (T := TX0) (N := 9) i_X0 5 rfl rfl 0 (by decide) w_1 rfl rfl dX0_copyFrom_1 ?_
  refine V_iconst (v := 0) dX0_copyFrom_4 (by decide) ?_
  refine V_aload_n 0 dX0_copyFrom_5 rfl rfl ?_
  refine V_get (ci := 0) (C := RX0) (T := TX0) (N := 9) i_X0 0 rfl rfl 0 (by decide) w_1 rfl rfl dX0_copyFrom_6 ?_
  refine V_iconst (v := 0) dX0_copyFrom_9 (by decide) ?_
  refine V_bipush (v := 8) dX0_copyFrom_10 (by decide) ?_
  refine V_copyi (ws' := [(h, .inr (0, [.ref h1, .ref h2, .ref h3, .ref h4, .int (lcg L), .int (lco L), .int (lmi L), .int (lse L), .int (lru L)])), (h1, .inl (G.2.1, 8, .inl (lst M))), (h2, .inl (G.2.1, 8, .inl (lwa L))), (h3, .inl (G.2.1, 8, .inl (lca L))), (h4, .inl (G.2.1, 8, .inl (lti L))), (o, .inr (0, [.ref o1, .ref o2, .ref o3, .ref o4, .int (lcg M), .int (lco M), .int (lmi M), .int (lse M), .int (lru M)])), (o1, .inl (G.2.1, 8, .inl (lst M))), (o2, .inl (G.2.1, 8, .inl (lwa M))), (o3, .inl (G.2.1, 8, .inl (lca M))), (o4, .inl (G.2.1, 8, .inl (lti M)))]) 6 1 rfl rfl (by decide) (by decide) rfl w_2 w_3 w_4 w_5 (Nat.le_of_ble_eq_true rfl) (Nat.le_of_ble_eq_true rfl) dX0_copyFrom_12 ?_
  refine V_aload_n 1 dX0_copyFrom_15 rfl rfl ?_
  refine V_get (ci := 0) (C := RX0) (T := TX0) (N := 9) i_X0 5 rfl rfl 1 (by decide) w_6 rfl rfl dX0_copyFrom_16 ?_
  refine V_iconst (v := 0) dX0_copyFrom_19 (by decide) ?_
  refine V_aload_n 0 dX0_copyFrom_20 rfl rfl ?_
  refine V_get (ci := 0) (C := RX0) (T := TX0) (N := 9) i_X0 0 rfl rfl 1 (by decide) w_6 rfl rfl dX0_copyFrom_21 ?_
  refine V_iconst (v := 0) dX0_copyFrom_24 (by decide) ?_
  refine V_bipush (v := 8) dX0_copyFrom_25 (by decide) ?_
  refine V_copyi (ws' := [(h, .inr (0, [.ref h1, .ref h2, .ref h3, .ref h4, .int (lcg L), .int (lco L), .int (lmi L), .int (lse L), .int (lru L)])), (h1, .inl (G.2.1, 8, .inl (lst M))), (h2, .inl (G.2.1, 8, .inl (lwa M))), (h3, .inl (G.2.1, 8, .inl (lca L))), (h4, .inl (G.2.1, 8, .inl (lti L))), (o, .inr (0, [.ref o1, .ref o2, .ref o3, .ref o4, .int (lcg M), .int (lco M), .int (lmi M), .int (lse M), .int (lru M)])), (o1, .inl (G.2.1, 8, .inl (lst M))), (o2, .inl (G.2.1, 8, .inl (lwa M))), (o3, .inl (G.2.1, 8, .inl (lca M))), (o4, .inl (G.2.1, 8, .inl (lti M)))]) 7 2 rfl rfl (by decide) (by decide) rfl w_2 w_3 w_4 w_5 (Nat.le_of_ble_eq_true rfl) (Nat.le_of_ble_eq_true rfl) dX0_copyFrom_27 ?_
  refine V_aload_n 1 dX0_copyFrom_30 rfl rfl ?_
  refine V_get (ci := 0) (C := RX0) (T := TX0) (N := 9) i_X0 5 rfl rfl 2 (by decide) w_7 rfl rfl dX0_copyFrom_31 ?_
  refine V_iconst (v := 0) dX0_copyFrom_34 (by decide) ?_
  refine V_aload_n 0 dX0_copyFrom_35 rfl rfl ?_
  refine V_get (ci := 0) (C := RX0) (T := TX0) (N := 9) i_X0 0 rfl rfl 2 (by decide) w_7 rfl rfl dX0_copyFrom_36 ?_
  refine V_iconst (v := 0) dX0_copyFrom_39 (by decide) ?_
  refine V_bipush (v := 8) dX0_copyFrom_40 (by decide) ?_
  refine V_copyi (ws' := [(h, .inr (0, [.ref h1, .ref h2, .ref h3, .ref h4, .int (lcg L), .int (lco L), .int (lmi L), .int (lse L), .int (lru L)])), (h1, .inl (G.2.1, 8, .inl (lst M))), (h2, .inl (G.2.1, 8, .inl (lwa M))), (h3, .inl (G.2.1, 8, .inl (lca M))), (h4, .inl (G.2.1, 8, .inl (lti L))), (o, .inr (0, [.ref o1, .ref o2, .ref o3, .ref o4, .int (lcg M), .int (lco M), .int (lmi M), .int (lse M), .int (lru M)])), (o1, .inl (G.2.1, 8, .inl (lst M))), (o2, .inl (G.2.1, 8, .inl (lwa M))), (o3, .inl (G.2.1, 8, .inl (lca M))), (o4, .inl (G.2.1, 8, .inl (lti M)))]) 8 3 rfl rfl (by decide) (by decide) rfl w_2 w_3 w_4 w_5 (Nat.le_of_ble_eq_true rfl) (Nat.le_of_ble_eq_true rfl) dX0_copyFrom_42 ?_
  refine V_aload_n 1 dX0_copyFrom_45 rfl rfl ?_
  refine V_get (ci := 0) (C := RX0) (T := TX0) (N := 9) i_X0 5 rfl rfl 3 (by decide) w_8 rfl rfl dX0_copyFrom_46 ?_
  refine V_iconst (v := 0) dX0_copyFrom_49 (by decide) ?_
  refine V_aload_n 0 dX0_copyFrom_50 rfl rfl ?_
  refine V_get (ci := 0) (C := RX0) (T := TX0) (N := 9) i_X0 0 rfl rfl 3 (by decide) w_8 rfl rfl dX0_copyFrom_51 ?_
  refine V_iconst (v := 0) dX0_copyFrom_54 (by decide) ?_
  refine V_bipush (v := 8) dX0_copyFrom_55 (by decide) ?_
  refine V_copyi (ws' := [(h, .inr (0, [.ref h1, .ref h2, .ref h3, .ref h4, .int (lcg L), .int (lco L), .int (lmi L), .int (lse L), .int (lru L)])), (h1, .inl (G.2.1, 8, .inl (lst M))), (h2, .inl (G.2.1, 8, .inl (lwa M))), (h3, .inl (G.2.1, 8, .inl (lca M))), (h4, .inl (G.2.1, 8, .inl (lti M))), (o, .inr (0, [.ref o1, .ref o2, .ref o3, .ref o4, .int (lcg M), .int (lco M), .int (lmi M), .int (lse M), .int (lru M)])), (o1, .inl (G.2.1, 8, .inl (lst M))), (o2, .inl (G.2.1, 8, .inl (lwa M))), (o3, .inl (G.2.1, 8, .inl (lca M))), (o4, .inl (G.2.1, 8, .inl (lti M)))]) 9 4 rfl rfl (by decide) (by decide) rfl w_2 w_3 w_4 w_5 (Nat.le_of_ble_eq_true rfl) (Nat.le_of_ble_eq_true rfl) dX0_copyFrom_57 ?_
  refine V_aload_n 0 dX0_copyFrom_60 rfl rfl ?_
  refine V_aload_n 1 dX0_copyFrom_61 rfl rfl ?_
  refine V_get (ci := 0) (C := RX0) (T := TX0) (N := 9) i_X0 5 rfl rfl 4 (by decide) w_9 rfl rfl dX0_copyFrom_62 ?_
  refine V_put (ws' := [(h, .inr (0, [.ref h1, .ref h2, .ref h3, .ref h4, .int (lcg M), .int (lco L), .int (lmi L), .int (lse L), .int (lru L)])), (h1, .inl (G.2.1, 8, .inl (lst M))), (h2, .inl (G.2.1, 8, .inl (lwa M))), (h3, .inl (G.2.1, 8, .inl (lca M))), (h4, .inl (G.2.1, 8, .inl (lti M))), (o, .inr (0, [.ref o1, .ref o2, .ref o3, .ref o4, .int (lcg M), .int (lco M), .int (lmi M), .int (lse M), .int (lru M)])), (o1, .inl (G.2.1, 8, .inl (lst M))), (o2, .inl (G.2.1, 8, .inl (lwa M))), (o3, .inl (G.2.1, 8, .inl (lca M))), (o4, .inl (G.2.1, 8, .inl (lti M)))]) (ci := 0) (C := RX0) (T := TX0) (N := 9) i_X0 tyX0 tyX0_ok nmX0 0 rfl rfl 4 (by decide) w_9 rfl rfl (by decide +kernel) (Nat.le_of_ble_eq_true rfl) rfl dX0_copyFrom_65 ?_
  refine V_aload_n 0 dX0_copyFrom_68 rfl rfl ?_
  refine V_aload_n 1 dX0_copyFrom_69 rfl rfl ?_
  refine V_get (ci := 0) (C := RX0) (T := TX0) (N := 9) i_X0 5 rfl rfl 5 (by decide) w_10 rfl rfl dX0_copyFrom_70 ?_
  refine V_put (ws' := [(h, .inr (0, [.ref h1, .ref h2, .ref h3, .ref h4, .int (lcg M), .int (lco M), .int (lmi L), .int (lse L), .int (lru L)])), (h1, .inl (G.2.1, 8, .inl (lst M))), (h2, .inl (G.2.1, 8, .inl (lwa M))), (h3, .inl (G.2.1, 8, .inl (lca M))), (h4, .inl (G.2.1, 8, .inl (lti M))), (o, .inr (0, [.ref o1, .ref o2, .ref o3, .ref o4, .int (lcg M), .int (lco M), .int (lmi M), .int (lse M), .int (lru M)])), (o1, .inl (G.2.1, 8, .inl (lst M))), (o2, .inl (G.2.1, 8, .inl (lwa M))), (o3, .inl (G.2.1, 8, .inl (lca M))), (o4, .inl (G.2.1, 8, .inl (lti M)))]) (ci := 0) (C := RX0) (T := TX0) (N := 9) i_X0 tyX0 tyX0_ok nmX0 0 rfl rfl 5 (by decide) w_10 rfl rfl (by decide +kernel) (Nat.le_of_ble_eq_true rfl) rfl dX0_copyFrom_73 ?_
  refine V_aload_n 0 dX0_copyFrom_76 rfl rfl ?_
  refine V_aload_n 1 dX0_copyFrom_77 rfl rfl ?_
  refine V_get (ci := 0) (C := RX0) (T := TX0) (N := 9) i_X0 5 rfl rfl 6 (by decide) w_11 rfl rfl dX0_copyFrom_78 ?_
  refine V_put (ws' := [(h, .inr (0, [.ref h1, .ref h2, .ref h3, .ref h4, .int (lcg M), .int (lco M), .int (lmi M), .int (lse L), .int (lru L)])), (h1, .inl (G.2.1, 8, .inl (lst M))), (h2, .inl (G.2.1, 8, .inl (lwa M))), (h3, .inl (G.2.1, 8, .inl (lca M))), (h4, .inl (G.2.1, 8, .inl (lti M))), (o, .inr (0, [.ref o1, .ref o2, .ref o3, .ref o4, .int (lcg M), .int (lco M), .int (lmi M), .int (lse M), .int (lru M)])), (o1, .inl (G.2.1, 8, .inl (lst M))), (o2, .inl (G.2.1, 8, .inl (lwa M))), (o3, .inl (G.2.1, 8, .inl (lca M))), (o4, .inl (G.2.1, 8, .inl (lti M)))]) (ci := 0) (C := RX0) (T := TX0) (N := 9) i_X0 tyX0 tyX0_ok nmX0 0 rfl rfl 6 (by decide) w_11 rfl rfl (by decide +kernel) (Nat.le_of_ble_eq_true rfl) rfl dX0_copyFrom_81 ?_
  refine V_aload_n 0 dX0_copyFrom_84 rfl rfl ?_
  refine V_aload_n 1 dX0_copyFrom_85 rfl rfl ?_
  refine V_get (ci := 0) (C := RX0) (T := TX0) (N := 9) i_X0 5 rfl rfl 7 (by decide) w_12 rfl rfl dX0_copyFrom_86 ?_
  refine V_put (ws' := [(h, .inr (0, [.ref h1, .ref h2, .ref h3, .ref h4, .int (lcg M), .int (lco M), .int (lmi M), .int (lse M), .int (lru L)])), (h1, .inl (G.2.1, 8, .inl (lst M))), (h2, .inl (G.2.1, 8, .inl (lwa M))), (h3, .inl (G.2.1, 8, .inl (lca M))), (h4, .inl (G.2.1, 8, .inl (lti M))), (o, .inr (0, [.ref o1, .ref o2, .ref o3, .ref o4, .int (lcg M), .int (lco M), .int (lmi M), .int (lse M), .int (lru M)])), (o1, .inl (G.2.1, 8, .inl (lst M))), (o2, .inl (G.2.1, 8, .inl (lwa M))), (o3, .inl (G.2.1, 8, .inl (lca M))), (o4, .inl (G.2.1, 8, .inl (lti M)))]) (ci := 0) (C := RX0) (T := TX0) (N := 9) i_X0 tyX0 tyX0_ok nmX0 0 rfl rfl 7 (by decide) w_12 rfl rfl (by decide +kernel) (Nat.le_of_ble_eq_true rfl) rfl dX0_copyFrom_89 ?_
  refine V_aload_n 0 dX0_copyFrom_92 rfl rfl ?_
  refine V_aload_n 1 dX0_copyFrom_93 rfl rfl ?_
  refine V_get (ci := 0) (C := RX0) (T := TX0) (N := 9) i_X0 5 rfl rfl 8 (by decide) w_13 rfl rfl dX0_copyFrom_94 ?_
  refine V_put (ws' := [(h, .inr (0, [.ref h1, .ref h2, .ref h3, .ref h4, .int (lcg M), .int (lco M), .int (lmi M), .int (lse M), .int (lru M)])), (h1, .inl (G.2.1, 8, .inl (lst M))), (h2, .inl (G.2.1, 8, .inl (lwa M))), (h3, .inl (G.2.1, 8, .inl (lca M))), (h4, .inl (G.2.1, 8, .inl (lti M))), (o, .inr (0, [.ref o1, .ref o2, .ref o3, .ref o4, .int (lcg M), .int (lco M), .int (lmi M), .int (lse M), .int (lru M)])), (o1, .inl (G.2.1, 8, .inl (lst M))), (o2, .inl (G.2.1, 8, .inl (lwa M))), (o3, .inl (G.2.1, 8, .inl (lca M))), (o4, .inl (G.2.1, 8, .inl (lti M)))]) (ci := 0) (C := RX0) (T := TX0) (N := 9) i_X0 tyX0 tyX0_ok nmX0 0 rfl rfl 8 (by decide) w_13 rfl rfl (by decide +kernel) (Nat.le_of_ble_eq_true rfl) rfl dX0_copyFrom_97 ?_
  exact fin _ _ _ dX0_copyFrom_100 () (rfl)
