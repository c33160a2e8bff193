/-! The relation of the two sides, and every call keeps it. -/
def LRel (P : PlS) (L : LnS) (T : TxS) (es : Nat → LnS) (eo ez : Nat) (ks : Nat → LnS) (ko kz : Nat) (W : SiS) (N : MPl) (M : MLn) (S : SiS) (X : TxS) (ah : Nat → Int32) (um : Nat) (kp : Nat → Int32) (km : Nat) : Prop := S = W ∧ RP P N ∧ (∃ m : Nat, m ≤ 999 ∧ RR (nN N) m L M) ∧ RT T X ∧ SI W ∧ RU (nN N) es eo ez ah um ∧ RK (nN N) ks ko kz kp km
theorem li_b {P : PlS} {L : LnS} {T : TxS} {es : Nat → LnS} {eo ez : Nat} {ks : Nat → LnS} {ko kz : Nat} {W : SiS} {N : MPl} {M : MLn} {S : SiS} {X : TxS} {ah : Nat → Int32} {um : Nat} {kp : Nat → Int32} {km : Nat} (h : LRel P L T es eo ez ks ko kz W N M S X ah um kp km) : 1 ≤ pN P ∧ pN P ≤ 8 ∧ 1 ≤ nN N ∧ nN N ≤ 8 ∧ tN T ≤ 200 ∧ tN X ≤ 200 ∧ eo < 8 ∧ ez ≤ 8 ∧ um ≤ 8 ∧ ko < 2 ∧ kz ≤ 2 ∧ km ≤ 2 ∧ siZ W ≤ 6 ∧ siZ S ≤ 6 ∧ ∀ i, i < siZ W → ∃ t, t ≤ 40 ∧ siT W i = nI t := by
  obtain ⟨rfl, hP, -, hT, hS, hU, hK⟩ := h
  refine ⟨by rw [hP.1]; exact hP.2.1, by rw [hP.1]; exact hP.2.2.1, hP.2.1, hP.2.2.1, by rw [hT.1]; exact hT.2.1, hT.2.1, hU.2.2.1, hU.2.1, by rw [← hU.1]; exact hU.2.1, hK.2.2.1, hK.2.1, by rw [← hK.1]; exact hK.2.1, hS.1, hS.1, fun i hi => ?_⟩
  obtain ⟨t, -, h2, h3⟩ := (hS.2 i hi).1
  exact ⟨t, h2, h3⟩
theorem li_write {P : PlS} {L : LnS} {T : TxS} {es : Nat → LnS} {eo ez : Nat} {ks : Nat → LnS} {ko kz : Nat} {W : SiS} {N : MPl} {M : MLn} {S : SiS} {X : TxS} {ah : Nat → Int32} {um : Nat} {kp : Nat → Int32} {km : Nat} (h : LRel P L T es eo ez ks ko kz W N M S X ah um kp km) (x : Int32) : wrR T x = mwrR X x ∧ LRel P L (wrF T x) es eo ez ks ko kz W N M S (mwrF X x) ah um kp km := by
  obtain ⟨rfl, hP, ⟨m, hm, hR⟩, hT, hS, hU, hK⟩ := h
  have e := wr_eq hT x
  exact ⟨e.1, rfl, hP, ⟨m, hm, hR⟩, e.2, hS, hU, hK⟩
theorem li_wipe {P : PlS} {L : LnS} {T : TxS} {es : Nat → LnS} {eo ez : Nat} {ks : Nat → LnS} {ko kz : Nat} {W : SiS} {N : MPl} {M : MLn} {S : SiS} {X : TxS} {ah : Nat → Int32} {um : Nat} {kp : Nat → Int32} {km : Nat} (h : LRel P L T es eo ez ks ko kz W N M S X ah um kp km)  : nI (tN T) = nI (tN X) ∧ LRel P L (tF T, 0) es eo ez ks ko kz W N M S (tF X, 0) ah um kp km := by
  obtain ⟨rfl, hP, ⟨m, hm, hR⟩, hT, hS, hU, hK⟩ := h
  exact ⟨by rw [hT.1], rfl, hP, ⟨m, hm, hR⟩, ⟨rfl, Nat.zero_le _, fun j hj => absurd hj (Nat.not_lt_zero j)⟩, hS, hU, hK⟩
theorem li_fault {P : PlS} {L : LnS} {T : TxS} {es : Nat → LnS} {eo ez : Nat} {ks : Nat → LnS} {ko kz : Nat} {W : SiS} {N : MPl} {M : MLn} {S : SiS} {X : TxS} {ah : Nat → Int32} {um : Nat} {kp : Nat → Int32} {km : Nat} (h : LRel P L T es eo ez ks ko kz W N M S X ah um kp km) (O Z : PlS) (n : Int32) : (rinF T O).1 = (mfl X 201 (clrF Z) 0 n).1 := by
  obtain ⟨rfl, hP, ⟨m, hm, hR⟩, hT, hS, hU, hK⟩ := h
  exact (fault_eq hT O Z n).1
theorem li_lay {P : PlS} {L : LnS} {T : TxS} {es : Nat → LnS} {eo ez : Nat} {ks : Nat → LnS} {ko kz : Nat} {W : SiS} {N : MPl} {M : MLn} {S : SiS} {X : TxS} {ah : Nat → Int32} {um : Nat} {kp : Nat → Int32} {km : Nat} (h : LRel P L T es eo ez ks ko kz W N M S X ah um kp km) (O Z : PlS) (n : Int32) : (if layOk T O = true then nI (pN (rinF T O).2) else -2) = (if mlyOk X Z n = true then nI (pN (mfl X 201 (clrF Z) 0 n).2.1) else -2) ∧ LRel (if layOk T O = true then (rinF T O).2 else P) (if layOk T O = true then startF (rinF T O).2 else L) T es eo (if layOk T O = true then 0 else ez) ks ko (if layOk T O = true then 0 else kz) (if layOk T O = true then (siW W, siT W, siG W, 0) else W) (if mlyOk X Z n = true then mlyN (mfl X 201 (clrF Z) 0 n).2.1 N (pN (mfl X 201 (clrF Z) 0 n).2.1) else N) (if mlyOk X Z n = true then mlyM (mfl X 201 (clrF Z) 0 n).2.1 M (pN (mfl X 201 (clrF Z) 0 n).2.1) else M) (if mlyOk X Z n = true then (siW S, siT S, siG S, 0) else S) X ah (if mlyOk X Z n = true then 0 else um) kp (if mlyOk X Z n = true then 0 else km) := by
  obtain ⟨rfl, hP, ⟨m, hm, hR⟩, hT, hS, hU, hK⟩ := h
  obtain ⟨e1, e2⟩ := lay_eq hT O Z n
  rw [e1]
  by_cases c : mlyOk X Z n = true
  · obtain ⟨e3, e4⟩ := e2 c
    obtain ⟨e5, e6⟩ := e4 N M
    rw [if_pos c, if_pos c, if_pos c, if_pos c, if_pos c, if_pos c, if_pos c, if_pos c, if_pos c, if_pos c, if_pos c]
    refine ⟨by rw [e3], rfl, e5, ⟨0, Nat.zero_le _, e6⟩, hT, ⟨Nat.zero_le _, fun k hk => absurd hk (Nat.not_lt_zero k)⟩, ⟨rfl, Nat.zero_le _, hU.2.2.1, fun j hj => absurd hj (Nat.not_lt_zero j)⟩, ⟨rfl, Nat.zero_le _, hK.2.2.1, fun j hj => absurd hj (Nat.not_lt_zero j)⟩⟩
  · rw [if_neg c, if_neg c, if_neg c, if_neg c, if_neg c, if_neg c, if_neg c, if_neg c, if_neg c, if_neg c, if_neg c]
    exact ⟨rfl, rfl, hP, ⟨m, hm, hR⟩, hT, hS, hU, hK⟩
theorem li_pass {P : PlS} {L : LnS} {T : TxS} {es : Nat → LnS} {eo ez : Nat} {ks : Nat → LnS} {ko kz : Nat} {W : SiS} {N : MPl} {M : MLn} {S : SiS} {X : TxS} {ah : Nat → Int32} {um : Nat} {kp : Nat → Int32} {km : Nat} (h : LRel P L T es eo ez ks ko kz W N M S X ah um kp km) (x : Int32) : paR P L x = mpaR N M x ∧ LRel P (paF P L x) T (peS (paOk L x) es eo ez L) (peO (paOk L x) eo ez) (peZ (paOk L x) ez) ks ko kz W N (mpaF N M x) S X (moA (mpaOk M x) M ah um) (moU (mpaOk M x) um) kp km := by
  obtain ⟨rfl, hP, ⟨m, hm, hR⟩, hT, hS, hU, hK⟩ := h
  obtain ⟨e1, e2, m2, hm2, e3⟩ := pa_eq hP hm hR x
  exact ⟨e1, rfl, hP, ⟨m2, hm2, e3⟩, hT, hS, hU.pe hm hR e2, hK⟩
theorem li_hang {P : PlS} {L : LnS} {T : TxS} {es : Nat → LnS} {eo ez : Nat} {ks : Nat → LnS} {ko kz : Nat} {W : SiS} {N : MPl} {M : MLn} {S : SiS} {X : TxS} {ah : Nat → Int32} {um : Nat} {kp : Nat → Int32} {km : Nat} (h : LRel P L T es eo ez ks ko kz W N M S X ah um kp km) (x : Int32) : haR P L x = mhaR N M x ∧ LRel P (haF P L x) T (peS (haOk P L x) es eo ez L) (peO (haOk P L x) eo ez) (peZ (haOk P L x) ez) ks ko kz W N (mhaF N M x) S X (moA (mhaOk N M x) M ah um) (moU (mhaOk N M x) um) kp km := by
  obtain ⟨rfl, hP, ⟨m, hm, hR⟩, hT, hS, hU, hK⟩ := h
  obtain ⟨e1, e2, e3⟩ := ha_eq hP hR x
  exact ⟨e1, rfl, hP, ⟨m, hm, e3⟩, hT, hS, hU.pe hm hR e2, hK⟩
theorem li_recall {P : PlS} {L : LnS} {T : TxS} {es : Nat → LnS} {eo ez : Nat} {ks : Nat → LnS} {ko kz : Nat} {W : SiS} {N : MPl} {M : MLn} {S : SiS} {X : TxS} {ah : Nat → Int32} {um : Nat} {kp : Nat → Int32} {km : Nat} (h : LRel P L T es eo ez ks ko kz W N M S X ah um kp km) (x : Int32) : reR P L x = mreR N M x ∧ LRel P (reF P L x) T (peS (reOk P L x) es eo ez L) (peO (reOk P L x) eo ez) (peZ (reOk P L x) ez) ks ko kz W N (mreF N M x) S X (moA (mreOk N M x) M ah um) (moU (mreOk N M x) um) kp km := by
  obtain ⟨rfl, hP, ⟨m, hm, hR⟩, hT, hS, hU, hK⟩ := h
  obtain ⟨e1, e2, e3⟩ := re_eq hP hR x
  exact ⟨e1, rfl, hP, ⟨m, hm, e3⟩, hT, hS, hU.pe hm hR e2, hK⟩
theorem li_staff {P : PlS} {L : LnS} {T : TxS} {es : Nat → LnS} {eo ez : Nat} {ks : Nat → LnS} {ko kz : Nat} {W : SiS} {N : MPl} {M : MLn} {S : SiS} {X : TxS} {ah : Nat → Int32} {um : Nat} {kp : Nat → Int32} {km : Nat} (h : LRel P L T es eo ez ks ko kz W N M S X ah um kp km) (x : Int32) : sfR L x = msfR M x ∧ LRel P (sfF L x) T (peS (sfOk L x) es eo ez L) (peO (sfOk L x) eo ez) (peZ (sfOk L x) ez) ks ko kz W N (msfF M x) S X (moA (msfOk M x) M ah um) (moU (msfOk M x) um) kp km := by
  obtain ⟨rfl, hP, ⟨m, hm, hR⟩, hT, hS, hU, hK⟩ := h
  obtain ⟨e1, e2, e3⟩ := sf_eq hR x
  exact ⟨e1, rfl, hP, ⟨m, hm, e3⟩, hT, hS, hU.pe hm hR e2, hK⟩
theorem li_rule {P : PlS} {L : LnS} {T : TxS} {es : Nat → LnS} {eo ez : Nat} {ks : Nat → LnS} {ko kz : Nat} {W : SiS} {N : MPl} {M : MLn} {S : SiS} {X : TxS} {ah : Nat → Int32} {um : Nat} {kp : Nat → Int32} {km : Nat} (h : LRel P L T es eo ez ks ko kz W N M S X ah um kp km) (x : Int32) : rlR L x = mrlR M x ∧ LRel P (rlF L x) T (peS (rlOk L x) es eo ez L) (peO (rlOk L x) eo ez) (peZ (rlOk L x) ez) ks ko kz W N (mrlF M x) S X (moA (mrlOk M x) M ah um) (moU (mrlOk M x) um) kp km := by
  obtain ⟨rfl, hP, ⟨m, hm, hR⟩, hT, hS, hU, hK⟩ := h
  obtain ⟨e1, e2, e3⟩ := rl_eq hR x
  exact ⟨e1, rfl, hP, ⟨m, hm, e3⟩, hT, hS, hU.pe hm hR e2, hK⟩
theorem li_undo {P : PlS} {L : LnS} {T : TxS} {es : Nat → LnS} {eo ez : Nat} {ks : Nat → LnS} {ko kz : Nat} {W : SiS} {N : MPl} {M : MLn} {S : SiS} {X : TxS} {ah : Nat → Int32} {um : Nat} {kp : Nat → Int32} {km : Nat} (h : LRel P L T es eo ez ks ko kz W N M S X ah um kp km)  : ∃ M0 : MLn, (um ≠ 0 → tkOK ah (44 * (um - 1)) M0) ∧ unR ez = unR um ∧ LRel P (gvL 8 es eo ez L) T es eo (ez - 1) ks ko kz W N (if um = 0 then M else M0) S X ah (um - 1) kp km := by
  obtain ⟨rfl, hP, ⟨m, hm, hR⟩, hT, hS, hU, hK⟩ := h
  obtain ⟨M0, m2, h1, h2, h3, h4⟩ := hU.un hm hR
  exact ⟨M0, h2, by rw [hU.1], rfl, hP, ⟨m2, h1, h3⟩, hT, hS, h4, hK⟩
theorem li_back {P : PlS} {L : LnS} {T : TxS} {es : Nat → LnS} {eo ez : Nat} {ks : Nat → LnS} {ko kz : Nat} {W : SiS} {N : MPl} {M : MLn} {S : SiS} {X : TxS} {ah : Nat → Int32} {um : Nat} {kp : Nat → Int32} {km : Nat} (h : LRel P L T es eo ez ks ko kz W N M S X ah um kp km)  : ∃ M0 : MLn, (km ≠ 0 → tkOK kp (44 * (km - 1)) M0) ∧ unR kz = unR km ∧ LRel P (gvL 2 ks ko kz L) T es eo (bkZ kz ez) ks ko (kz - 1) W N (if km = 0 then M else M0) S X ah (bkZ km um) kp (km - 1) := by
  obtain ⟨rfl, hP, ⟨m, hm, hR⟩, hT, hS, hU, hK⟩ := h
  obtain ⟨M0, m2, h1, h2, h3, h4⟩ := hK.un hm hR
  exact ⟨M0, h2, by rw [hK.1], rfl, hP, ⟨m2, h1, h3⟩, hT, hS, hU.bk hK.1, h4⟩
theorem li_keep {P : PlS} {L : LnS} {T : TxS} {es : Nat → LnS} {eo ez : Nat} {ks : Nat → LnS} {ko kz : Nat} {W : SiS} {N : MPl} {M : MLn} {S : SiS} {X : TxS} {ah : Nat → Int32} {um : Nat} {kp : Nat → Int32} {km : Nat} (h : LRel P L T es eo ez ks ko kz W N M S X ah um kp km)  : keR kz = mkeR km ∧ LRel P L T es eo ez (kpS ks ko kz L) ko (kpZ kz) W N M S X ah um (mkeA M kp km) (mkeZ km) := by
  obtain ⟨rfl, hP, ⟨m, hm, hR⟩, hT, hS, hU, hK⟩ := h
  exact ⟨by rw [hK.1]; rfl, rfl, hP, ⟨m, hm, hR⟩, hT, hS, hU, hK.put hm hR⟩
theorem li_seen {P : PlS} {L : LnS} {T : TxS} {es : Nat → LnS} {eo ez : Nat} {ks : Nat → LnS} {ko kz : Nat} {W : SiS} {N : MPl} {M : MLn} {S : SiS} {X : TxS} {ah : Nat → Int32} {um : Nat} {kp : Nat → Int32} {km : Nat} (h : LRel P L T es eo ez ks ko kz W N M S X ah um kp km) (x y z : Int32) : snR P W x y z = msnR N S x y z ∧ LRel P L T es eo ez ks ko kz (snF P W x y z) N M (msnF N S x y z) X ah um kp km := by
  obtain ⟨rfl, hP, ⟨m, hm, hR⟩, hT, hS, hU, hK⟩ := h
  obtain ⟨e1, e2, e3⟩ := sn_eq hP hS x y z
  exact ⟨e1, e2.symm, hP, ⟨m, hm, hR⟩, hT, by rw [e2]; exact e3, hU, hK⟩
theorem li_forget {P : PlS} {L : LnS} {T : TxS} {es : Nat → LnS} {eo ez : Nat} {ks : Nat → LnS} {ko kz : Nat} {W : SiS} {N : MPl} {M : MLn} {S : SiS} {X : TxS} {ah : Nat → Int32} {um : Nat} {kp : Nat → Int32} {km : Nat} (h : LRel P L T es eo ez ks ko kz W N M S X ah um kp km)  : nI (siZ W) = nI (siZ S) ∧ LRel P L T es eo ez ks ko kz (siW W, siT W, siG W, 0) N M (siW S, siT S, siG S, 0) X ah um kp km := by
  obtain ⟨rfl, hP, ⟨m, hm, hR⟩, hT, hS, hU, hK⟩ := h
  exact ⟨rfl, rfl, hP, ⟨m, hm, hR⟩, hT, ⟨Nat.zero_le _, fun k hk => absurd hk (Nat.not_lt_zero k)⟩, hU, hK⟩
theorem li_count {P : PlS} {L : LnS} {T : TxS} {es : Nat → LnS} {eo ez : Nat} {ks : Nat → LnS} {ko kz : Nat} {W : SiS} {N : MPl} {M : MLn} {S : SiS} {X : TxS} {ah : Nat → Int32} {um : Nat} {kp : Nat → Int32} {km : Nat} (h : LRel P L T es eo ez ks ko kz W N M S X ah um kp km) (y : Int32) : cuR T P L W ez kz y = mcuR X N M S um km y := by
  obtain ⟨rfl, hP, ⟨m, hm, hR⟩, hT, hS, hU, hK⟩ := h
  rw [hU.1, hK.1]
  exact cu_ans hP hR hT.1 _ _ _ y
theorem li_caller {P : PlS} {L : LnS} {T : TxS} {es : Nat → LnS} {eo ez : Nat} {ks : Nat → LnS} {ko kz : Nat} {W : SiS} {N : MPl} {M : MLn} {S : SiS} {X : TxS} {ah : Nat → Int32} {um : Nat} {kp : Nat → Int32} {km : Nat} (h : LRel P L T es eo ez ks ko kz W N M S X ah um kp km) (x y : Int32) : callerF P L x y = mcaR N M x y := by
  obtain ⟨rfl, hP, ⟨m, hm, hR⟩, hT, hS, hU, hK⟩ := h
  exact caller_eq hP hR x y
theorem li_behind {P : PlS} {L : LnS} {T : TxS} {es : Nat → LnS} {eo ez : Nat} {ks : Nat → LnS} {ko kz : Nat} {W : SiS} {N : MPl} {M : MLn} {S : SiS} {X : TxS} {ah : Nat → Int32} {um : Nat} {kp : Nat → Int32} {km : Nat} (h : LRel P L T es eo ez ks ko kz W N M S X ah um kp km) (x y : Int32) : beR P L x y = mbeR N M x y := by
  obtain ⟨rfl, hP, ⟨m, hm, hR⟩, hT, hS, hU, hK⟩ := h
  exact be_ans hP hm hR x y
theorem li_taken {P : PlS} {L : LnS} {T : TxS} {es : Nat → LnS} {eo ez : Nat} {ks : Nat → LnS} {ko kz : Nat} {W : SiS} {N : MPl} {M : MLn} {S : SiS} {X : TxS} {ah : Nat → Int32} {um : Nat} {kp : Nat → Int32} {km : Nat} (h : LRel P L T es eo ez ks ko kz W N M S X ah um kp km) (x : Int32) : taR P L x = mtaR N M x := by
  obtain ⟨rfl, hP, ⟨m, hm, hR⟩, hT, hS, hU, hK⟩ := h
  exact ta_ans hP hm hR x
theorem li_left {P : PlS} {L : LnS} {T : TxS} {es : Nat → LnS} {eo ez : Nat} {ks : Nat → LnS} {ko kz : Nat} {W : SiS} {N : MPl} {M : MLn} {S : SiS} {X : TxS} {ah : Nat → Int32} {um : Nat} {kp : Nat → Int32} {km : Nat} (h : LRel P L T es eo ez ks ko kz W N M S X ah um kp km) (x : Int32) : lfR P L x = mlfR N M x := by
  obtain ⟨rfl, hP, ⟨m, hm, hR⟩, hT, hS, hU, hK⟩ := h
  exact lf_ans hP hm hR x
theorem li_number {P : PlS} {L : LnS} {T : TxS} {es : Nat → LnS} {eo ez : Nat} {ks : Nat → LnS} {ko kz : Nat} {W : SiS} {N : MPl} {M : MLn} {S : SiS} {X : TxS} {ah : Nat → Int32} {um : Nat} {kp : Nat → Int32} {km : Nat} (h : LRel P L T es eo ez ks ko kz W N M S X ah um kp km) (x : Int32) : nuR P L x = mnuR N M x := by
  obtain ⟨rfl, hP, ⟨m, hm, hR⟩, hT, hS, hU, hK⟩ := h
  exact nu_ans hP hR x
theorem li_again {P : PlS} {L : LnS} {T : TxS} {es : Nat → LnS} {eo ez : Nat} {ks : Nat → LnS} {ko kz : Nat} {W : SiS} {N : MPl} {M : MLn} {S : SiS} {X : TxS} {ah : Nat → Int32} {um : Nat} {kp : Nat → Int32} {km : Nat} (h : LRel P L T es eo ez ks ko kz W N M S X ah um kp km) (x y : Int32) : agR P L x y = magR N M x y := by
  obtain ⟨rfl, hP, ⟨m, hm, hR⟩, hT, hS, hU, hK⟩ := h
  exact ag_ans hP hm hR x y
theorem li_best {P : PlS} {L : LnS} {T : TxS} {es : Nat → LnS} {eo ez : Nat} {ks : Nat → LnS} {ko kz : Nat} {W : SiS} {N : MPl} {M : MLn} {S : SiS} {X : TxS} {ah : Nat → Int32} {um : Nat} {kp : Nat → Int32} {km : Nat} (h : LRel P L T es eo ez ks ko kz W N M S X ah um kp km) (y : Int32) : bsR P L y = mbsR N M y := by
  obtain ⟨rfl, hP, ⟨m, hm, hR⟩, hT, hS, hU, hK⟩ := h
  exact bs_ans hP hm hR y
theorem li_needed {P : PlS} {L : LnS} {T : TxS} {es : Nat → LnS} {eo ez : Nat} {ks : Nat → LnS} {ko kz : Nat} {W : SiS} {N : MPl} {M : MLn} {S : SiS} {X : TxS} {ah : Nat → Int32} {um : Nat} {kp : Nat → Int32} {km : Nat} (h : LRel P L T es eo ez ks ko kz W N M S X ah um kp km)  : neF P L 4 1 = mneF N M := by
  obtain ⟨rfl, hP, ⟨m, hm, hR⟩, hT, hS, hU, hK⟩ := h
  exact ne_ans hP hm hR
theorem li_lost {P : PlS} {L : LnS} {T : TxS} {es : Nat → LnS} {eo ez : Nat} {ks : Nat → LnS} {ko kz : Nat} {W : SiS} {N : MPl} {M : MLn} {S : SiS} {X : TxS} {ah : Nat → Int32} {um : Nat} {kp : Nat → Int32} {km : Nat} (h : LRel P L T es eo ez ks ko kz W N M S X ah um kp km)  : guF P L = mloF N M := by
  obtain ⟨rfl, hP, ⟨m, hm, hR⟩, hT, hS, hU, hK⟩ := h
  exact gu_eq hP (by omega) hR
theorem li_helps {P : PlS} {L : LnS} {T : TxS} {es : Nat → LnS} {eo ez : Nat} {ks : Nat → LnS} {ko kz : Nat} {W : SiS} {N : MPl} {M : MLn} {S : SiS} {X : TxS} {ah : Nat → Int32} {um : Nat} {kp : Nat → Int32} {km : Nat} (h : LRel P L T es eo ez ks ko kz W N M S X ah um kp km) (y : Int32) : hlR P L y = mhlR N M y := by
  obtain ⟨rfl, hP, ⟨m, hm, hR⟩, hT, hS, hU, hK⟩ := h
  exact hl_ans hP hm hR y
theorem li_longest {P : PlS} {L : LnS} {T : TxS} {es : Nat → LnS} {eo ez : Nat} {ks : Nat → LnS} {ko kz : Nat} {W : SiS} {N : MPl} {M : MLn} {S : SiS} {X : TxS} {ah : Nat → Int32} {um : Nat} {kp : Nat → Int32} {km : Nat} (h : LRel P L T es eo ez ks ko kz W N M S X ah um kp km) (y : Int32) : loR P L y = mlnR N M y := by
  obtain ⟨rfl, hP, ⟨m, hm, hR⟩, hT, hS, hU, hK⟩ := h
  exact lo_ans hP hm hR y
theorem li_bears {P : PlS} {L : LnS} {T : TxS} {es : Nat → LnS} {eo ez : Nat} {ks : Nat → LnS} {ko kz : Nat} {W : SiS} {N : MPl} {M : MLn} {S : SiS} {X : TxS} {ah : Nat → Int32} {um : Nat} {kp : Nat → Int32} {km : Nat} (h : LRel P L T es eo ez ks ko kz W N M S X ah um kp km) (x y : Int32) : besR P L W x y = mbsbR N S M x y := by
  obtain ⟨rfl, hP, ⟨m, hm, hR⟩, hT, hS, hU, hK⟩ := h
  exact bes_ans hP hS hm hR x y
theorem li_kinds {P : PlS} {L : LnS} {T : TxS} {es : Nat → LnS} {eo ez : Nat} {ks : Nat → LnS} {ko kz : Nat} {W : SiS} {N : MPl} {M : MLn} {S : SiS} {X : TxS} {ah : Nat → Int32} {um : Nat} {kp : Nat → Int32} {km : Nat} (h : LRel P L T es eo ez ks ko kz W N M S X ah um kp km) (x : Int32) : kisR P L W x = mkdR N S M x := by
  obtain ⟨rfl, hP, ⟨m, hm, hR⟩, hT, hS, hU, hK⟩ := h
  exact kis_ans hP hS hm hR x
theorem li_likely {P : PlS} {L : LnS} {T : TxS} {es : Nat → LnS} {eo ez : Nat} {ks : Nat → LnS} {ko kz : Nat} {W : SiS} {N : MPl} {M : MLn} {S : SiS} {X : TxS} {ah : Nat → Int32} {um : Nat} {kp : Nat → Int32} {km : Nat} (h : LRel P L T es eo ez ks ko kz W N M S X ah um kp km) (x y z : Int32) : lkR P L x y z = mlkR N M x y z := by
  obtain ⟨rfl, hP, ⟨m, hm, hR⟩, hT, hS, hU, hK⟩ := h
  exact lk_ans hP hm hR x y z
theorem li_day {P : PlS} {L : LnS} {T : TxS} {es : Nat → LnS} {eo ez : Nat} {ks : Nat → LnS} {ko kz : Nat} {W : SiS} {N : MPl} {M : MLn} {S : SiS} {X : TxS} {ah : Nat → Int32} {um : Nat} {kp : Nat → Int32} {km : Nat} (h : LRel P L T es eo ez ks ko kz W N M S X ah um kp km) (x y z : Int32) : dyR P L x y z = mdyR N M x y z := by
  obtain ⟨rfl, hP, ⟨m, hm, hR⟩, hT, hS, hU, hK⟩ := h
  exact dy_ans hP hm hR x y z
