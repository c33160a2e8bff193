/-! Acts: what is put away, undone, kept. -/
def RU (n : Nat) (es : Nat → LnS) (eo ez : Nat) (ah : Nat → Int32) (um : Nat) : Prop := ez = um ∧ ez ≤ 8 ∧ eo < 8 ∧ ∀ j, j < ez → ∃ (m : Nat) (Mj : MLn), m ≤ 999 ∧ RR n m (es ((eo + j) % 8)) Mj ∧ tkOK ah (44 * j) Mj
def RK (n : Nat) (ks : Nat → LnS) (ko kz : Nat) (kp : Nat → Int32) (km : Nat) : Prop := kz = km ∧ kz ≤ 2 ∧ ko < 2 ∧ ∀ j, j < kz → ∃ (m : Nat) (Mj : MLn), m ≤ 999 ∧ RR n m (ks ((ko + j) % 2)) Mj ∧ tkOK kp (44 * j) Mj
theorem sh_at (f : Nat → Int32) (n k : Nat) : it shB f n k = if k < n then f (k + 44) else f k := by
  induction n generalizing k with
  | zero => rw [if_neg (Nat.not_lt_zero k)]; rfl
  | succ n ih =>
    show upd (it shB f n) n (it shB f n (n + 44)) k = _
    by_cases e : k = n
    · subst e
      rw [pk_us, ih, if_neg (by omega), if_pos (by omega)]
    · rw [pk_un e, ih]
      by_cases c : k < n
      · rw [if_pos c, if_pos (by omega)]
      · rw [if_neg c, if_neg (by omega)]
theorem tkOK_sh {f : Nat → Int32} {a : Nat} {M : MLn} (h : tkOK f (a + 44) M) (ha : a + 44 ≤ 308) : tkOK (it shB f 308) a M := by
  obtain ⟨h0, h1, h2, h3, h4⟩ := h
  refine ⟨?_, ?_, ?_, ?_, fun j hj => ?_⟩
  · rw [sh_at, if_pos (by omega)]; exact h0
  · rw [sh_at, if_pos (by omega), show a + 1 + 44 = a + 44 + 1 by omega]; exact h1
  · rw [sh_at, if_pos (by omega), show a + 2 + 44 = a + 44 + 2 by omega]; exact h2
  · rw [sh_at, if_pos (by omega), show a + 3 + 44 = a + 44 + 3 by omega]; exact h3
  · obtain ⟨b0, b1, b2, b3, b4⟩ := h4 j hj
    refine ⟨?_, ?_, ?_, ?_, ?_⟩
    · rw [sh_at, if_pos (by omega), show a + 4 + j + 44 = a + 44 + 4 + j by omega]; exact b0
    · rw [sh_at, if_pos (by omega), show a + 12 + j + 44 = a + 44 + 12 + j by omega]; exact b1
    · rw [sh_at, if_pos (by omega), show a + 20 + j + 44 = a + 44 + 20 + j by omega]; exact b2
    · rw [sh_at, if_pos (by omega), show a + 28 + j + 44 = a + 44 + 28 + j by omega]; exact b3
    · rw [sh_at, if_pos (by omega), show a + 36 + j + 44 = a + 44 + 36 + j by omega]; exact b4
theorem RU.put {n : Nat} {es : Nat → LnS} {eo ez : Nat} {ah : Nat → Int32} {um : Nat} (h : RU n es eo ez ah um) {m : Nat} (hm : m ≤ 999) {L : LnS} {M : MLn} (hL : RR n m L M) : RU n (va_up es (spK 8 eo ez) L) (spO 8 eo ez) (spZ 8 ez) (ntA M ah um) (ntU um) := by
  obtain ⟨rfl, hz, ho, hj⟩ := h
  unfold spK spO spZ ntA ntU
  by_cases c : ez = 8
  · subst c
    rw [if_pos rfl, if_pos rfl, if_pos rfl, if_pos rfl]
    refine ⟨rfl, Nat.le_refl 8, by omega, fun j hj8 => ?_⟩
    by_cases e : j = 7
    · subst e
      refine ⟨m, M, hm, ?_, lay_ok M (44 * 7) _⟩
      rw [show ((eo + 1) % 8 + 7) % 8 = ((eo + 1) % 8 + (8 - 1)) % 8 from rfl, va_up_self]
      exact hL
    · obtain ⟨mj, Mj, h1, h2, h3⟩ := hj (j + 1) (by omega)
      refine ⟨mj, Mj, h1, ?_, ?_⟩
      · rw [va_up_ne _ _ (show ((eo + 1) % 8 + j) % 8 ≠ ((eo + 1) % 8 + (8 - 1)) % 8 by omega), show ((eo + 1) % 8 + j) % 8 = (eo + (j + 1)) % 8 by omega]
        exact h2
      · refine tkOK_cg (tkOK_sh (a := 44 * j) (by rw [show 44 * j + 44 = 44 * (j + 1) by omega]; exact h3) (by omega)) (fun k h1 h2 => ?_)
        rw [lay_same M _ (by omega)]
  · rw [if_neg c, if_neg c, if_neg c, if_neg c]
    refine ⟨rfl, by omega, ho, fun j hj8 => ?_⟩
    by_cases e : j = ez
    · subst e
      refine ⟨m, M, hm, ?_, lay_ok M (44 * j) _⟩
      rw [va_up_self]; exact hL
    · obtain ⟨mj, Mj, h1, h2, h3⟩ := hj j (by omega)
      refine ⟨mj, Mj, h1, ?_, ?_⟩
      · rw [va_up_ne _ _ (show (eo + j) % 8 ≠ (eo + ez) % 8 by omega)]
        exact h2
      · exact tkOK_cg h3 (fun k h1 h2 => lay_same M _ (by omega))
theorem RU.pe {n : Nat} {es : Nat → LnS} {eo ez : Nat} {ah : Nat → Int32} {um : Nat} (h : RU n es eo ez ah um) {m : Nat} (hm : m ≤ 999) {L : LnS} {M : MLn} (hL : RR n m L M) {ok ok' : Bool} (e : ok = ok') : RU n (peS ok es eo ez L) (peO ok eo ez) (peZ ok ez) (moA ok' M ah um) (moU ok' um) := by
  subst e
  unfold peS peO peZ moA moU
  cases ok with
  | true => exact h.put hm hL
  | false => exact h
theorem RU.un {n : Nat} {es : Nat → LnS} {eo ez : Nat} {ah : Nat → Int32} {um : Nat} (h : RU n es eo ez ah um) {m : Nat} (hm : m ≤ 999) {L : LnS} {M : MLn} (hL : RR n m L M) : ∃ (M0 : MLn) (m' : Nat), m' ≤ 999 ∧ (um ≠ 0 → tkOK ah (44 * (um - 1)) M0) ∧ RR n m' (gvL 8 es eo ez L) (if um = 0 then M else M0) ∧ RU n es eo (ez - 1) ah (um - 1) := by
  obtain ⟨rfl, hz, ho, hj⟩ := h
  unfold gvL
  by_cases c : ez = 0
  · subst c
    refine ⟨M, m, hm, fun q => absurd rfl q, ?_, rfl, by omega, ho, fun j hj0 => absurd hj0 (Nat.not_lt_zero j)⟩
    rw [if_pos rfl, if_pos rfl]; exact hL
  · obtain ⟨mj, Mj, h1, h2, h3⟩ := hj (ez - 1) (by omega)
    refine ⟨Mj, mj, h1, fun _ => h3, ?_, rfl, by omega, ho, fun j hj0 => hj j (by omega)⟩
    rw [if_neg c, if_neg c]; exact h2
theorem RK.put {n : Nat} {ks : Nat → LnS} {ko kz : Nat} {kp : Nat → Int32} {km : Nat} (h : RK n ks ko kz kp km) {m : Nat} (hm : m ≤ 999) {L : LnS} {M : MLn} (hL : RR n m L M) : RK n (kpS ks ko kz L) ko (kpZ kz) (mkeA M kp km) (mkeZ km) := by
  obtain ⟨rfl, hz, ho, hj⟩ := h
  unfold kpS kpZ mkeA mkeZ spK
  by_cases c : kz = 2
  · rw [if_pos c, if_pos c, if_pos c]
    exact ⟨rfl, hz, ho, hj⟩
  · rw [if_neg c, if_neg c, if_neg c, if_neg c]
    refine ⟨rfl, by omega, ho, fun j hj8 => ?_⟩
    by_cases e : j = kz
    · subst e
      refine ⟨m, M, hm, ?_, lay_ok M (44 * j) _⟩
      rw [va_up_self]; exact hL
    · obtain ⟨mj, Mj, h1, h2, h3⟩ := hj j (by omega)
      refine ⟨mj, Mj, h1, ?_, ?_⟩
      · rw [va_up_ne _ _ (show (ko + j) % 2 ≠ (ko + kz) % 2 by omega)]
        exact h2
      · exact tkOK_cg h3 (fun k h1 h2 => lay_same M _ (by omega))
theorem RK.un {n : Nat} {ks : Nat → LnS} {ko kz : Nat} {kp : Nat → Int32} {km : Nat} (h : RK n ks ko kz kp km) {m : Nat} (hm : m ≤ 999) {L : LnS} {M : MLn} (hL : RR n m L M) : ∃ (M0 : MLn) (m' : Nat), m' ≤ 999 ∧ (km ≠ 0 → tkOK kp (44 * (km - 1)) M0) ∧ RR n m' (gvL 2 ks ko kz L) (if km = 0 then M else M0) ∧ RK n ks ko (kz - 1) kp (km - 1) := by
  obtain ⟨rfl, hz, ho, hj⟩ := h
  unfold gvL
  by_cases c : kz = 0
  · subst c
    refine ⟨M, m, hm, fun q => absurd rfl q, ?_, rfl, by omega, ho, fun j hj0 => absurd hj0 (Nat.not_lt_zero j)⟩
    rw [if_pos rfl, if_pos rfl]; exact hL
  · obtain ⟨mj, Mj, h1, h2, h3⟩ := hj (kz - 1) (by omega)
    refine ⟨Mj, mj, h1, fun _ => h3, ?_, rfl, by omega, ho, fun j hj0 => hj j (by omega)⟩
    rw [if_neg c, if_neg c]; exact h2
theorem RU.bk {n : Nat} {es : Nat → LnS} {eo ez : Nat} {ah : Nat → Int32} {um : Nat} (h : RU n es eo ez ah um) {kz km : Nat} (e : kz = km) : RU n es eo (bkZ kz ez) ah (bkZ km um) := by
  subst e
  unfold bkZ
  split
  · exact h
  · exact ⟨rfl, by omega, h.2.2.1, fun j hj => absurd hj (Nat.not_lt_zero j)⟩
theorem pa_eq {P : PlS} {N : MPl} (hP : RP P N) {m : Nat} (hm : m ≤ 999) {L : LnS} {M : MLn} (h : RR (nN N) m L M) (x : Int32) : paR P L x = mpaR N M x ∧ paOk L x = mpaOk M x ∧ ∃ m', m' ≤ 999 ∧ RR (nN N) m' (paF P L x) (mpaF N M x) := by
  unfold paR mpaR paF mpaF paOk mpaOk
  rw [h.1.1.2.2.1]
  refine ⟨?_, rfl, ?_⟩
  · refine gate (fun c1 => ?_)
    obtain ⟨j, -, hj, -, rfl⟩ := inB_nat (a := 1) (b := 40) rfl rfl (by omega) c1
    have g := gos_eq hP h (tn (nI j)) (by rw [tn_nI (by omega)]; omega)
    rw [g.1.1.2.2.1]
  · by_cases c1 : inB x 1 40 = true
    · rw [if_pos c1]
      obtain ⟨j, -, hj, -, rfl⟩ := inB_nat (a := 1) (b := 40) rfl rfl (by omega) c1
      by_cases c2 : mmi M + nI j ≤ 999
      · rw [if_pos (decide_eq_true c2), if_pos (decide_eq_true c2), tn_nI (by omega)]
        have e : mmi M = nI m := h.1.1.2.2.1.symm.trans h.1.2.1
        rw [e, nI_add] at c2
        have := (nI_leI (a := m + j) (b := 999) (by omega) (by omega)).mp c2
        exact ⟨m + j, this, gos_eq hP h j (by omega)⟩
      · rw [if_neg (fun z => c2 (of_decide_eq_true z)), if_neg (fun z => c2 (of_decide_eq_true z))]
        exact ⟨m, hm, h⟩
    · rw [if_neg c1, if_neg (show ¬ false = true by decide), if_neg (show ¬ false = true by decide)]
      exact ⟨m, hm, h⟩
theorem ha_eq {P : PlS} {N : MPl} (hP : RP P N) {m : Nat} {L : LnS} {M : MLn} (h : RR (nN N) m L M) (x : Int32) : haR P L x = mhaR N M x ∧ haOk P L x = mhaOk N M x ∧ RR (nN N) m (haF P L x) (mhaF N M x) := by
  unfold haR mhaR haF mhaF haOk mhaOk
  rw [isC_eq hP]
  by_cases c1 : isM N x = true
  · obtain ⟨c, hc, rfl⟩ := isC_nat hP.2.2.1 c1
    rw [if_pos c1, if_pos c1, if_pos c1, if_pos c1, tn_c hP.2.2.1 hc, h.st hc, h.wa hc]
    refine ⟨rfl, rfl, ?_⟩
    by_cases c2 : mis M c = 1
    · rw [if_pos (decide_eq_true c2), if_pos (decide_eq_true c2)]
      exact h.hang c (by rw [h.st hc, c2]; decide)
    · rw [if_neg (fun z => c2 (of_decide_eq_true z)), if_neg (fun z => c2 (of_decide_eq_true z))]
      exact h
  · rw [if_neg c1, if_neg c1, if_neg c1, if_neg c1, if_neg (show ¬ false = true by decide), if_neg (show ¬ false = true by decide)]
    exact ⟨rfl, rfl, h⟩
theorem re_eq {P : PlS} {N : MPl} (hP : RP P N) {m : Nat} {L : LnS} {M : MLn} (h : RR (nN N) m L M) (x : Int32) : reR P L x = mreR N M x ∧ reOk P L x = mreOk N M x ∧ RR (nN N) m (reF P L x) (mreF N M x) := by
  have hok : reOk P L x = mreOk N M x := by
    unfold reOk mreOk
    rw [isC_eq hP]
    refine gate (fun c1 => ?_)
    obtain ⟨c, hc, rfl⟩ := isC_nat hP.2.2.1 c1
    rw [tn_c hP.2.2.1 hc, h.st hc]
    by_cases a : mis M c = 3
    · rw [if_pos a, decide_eq_true (Or.inl a)]
    · rw [if_neg a]
      by_cases b : mis M c = 4
      · rw [if_pos b, decide_eq_true (Or.inr b)]
      · rw [if_neg b, decide_eq_false (fun z => by rcases z with z | z; exact a z; exact b z)]
  refine ⟨?_, hok, ?_⟩
  · unfold reR mreR
    rw [isC_eq hP]
    refine gate (fun c1 => ?_)
    obtain ⟨c, hc, rfl⟩ := isC_nat hP.2.2.1 c1
    rw [tn_c hP.2.2.1 hc, h.st hc]
    by_cases a : mis M c = 3
    · rw [if_pos (Or.inl a), if_pos a, if_pos a]
    · rw [if_neg a, if_neg a]
      by_cases b : mis M c = 4
      · rw [if_pos (Or.inr b), if_pos b]
      · rw [if_neg (fun z => by rcases z with z | z; exact a z; exact b z), if_neg b]
  · unfold reF mreF
    rw [hok]
    by_cases k : mreOk N M x = true
    · rw [if_pos k, if_pos k]
      have c1 : isM N x = true := by
        unfold mreOk at k
        by_cases z : isM N x = true
        · exact z
        · rw [if_neg z] at k; cases k
      obtain ⟨c, hc, rfl⟩ := isC_nat hP.2.2.1 c1
      rw [tn_c hP.2.2.1 hc]
      exact h.rec hP.2.2.1 hc
    · rw [if_neg k, if_neg k]; exact h
theorem sf_eq {n m : Nat} {L : LnS} {M : MLn} (h : RR n m L M) (x : Int32) : sfR L x = msfR M x ∧ sfOk L x = msfOk M x ∧ RR n m (sfF L x) (msfF M x) := by
  have hv : svV L x = msvV M x := by unfold svV msvV; rw [h.1.1.2.2.2.1]
  have hok : sfOk L x = msfOk M x := by unfold sfOk msfOk; rw [hv]
  refine ⟨by unfold sfR msfR; rw [hv], hok, ?_⟩
  unfold sfF msfF
  rw [hok, hv]
  by_cases k : msfOk M x = true
  · rw [if_pos k, if_pos k]
    have c : inB (msvV M x) 1 4 = true := by
      unfold msfOk at k
      by_cases z : inB x 0 1 = true
      · rw [if_pos z] at k; exact k
      · rw [if_neg z] at k; cases k
    obtain ⟨s, h1, h4, -, e⟩ := inB_nat (a := 1) (b := 4) rfl rfl (by omega) c
    rw [e]
    exact h.se h1 h4
  · rw [if_neg k, if_neg k]; exact h
theorem rl_eq {n m : Nat} {L : LnS} {M : MLn} (h : RR n m L M) (x : Int32) : rlR L x = mrlR M x ∧ rlOk L x = mrlOk M x ∧ RR n m (rlF L x) (mrlF M x) := by
  have hc : (lru L = x) ↔ (x = mru M) := by rw [h.1.1.2.2.2.2]; exact eq_comm
  have hok : rlOk L x = mrlOk M x := by
    unfold rlOk mrlOk
    refine gate (fun _ => ?_)
    by_cases a : x = mru M
    · rw [decide_eq_false (show ¬ ¬ lru L = x from fun z => z (hc.mpr a)), decide_eq_false (show ¬ ¬ x = mru M from fun z => z a)]
    · rw [decide_eq_true (show ¬ lru L = x from fun z => a (hc.mp z)), decide_eq_true (show ¬ x = mru M from a)]
  refine ⟨?_, hok, ?_⟩
  · unfold rlR mrlR
    refine gate (fun _ => ?_)
    by_cases a : x = mru M
    · rw [if_pos a, if_pos (hc.mpr a)]
    · rw [if_neg a, if_neg (fun z => a (hc.mp z)), h.1.1.2.2.2.2]
  · unfold rlF mrlF
    rw [hok]
    by_cases k : mrlOk M x = true
    · rw [if_pos k, if_pos k]; exact h.ru x
    · rw [if_neg k, if_neg k]; exact h
/-- the texts -/
def RT (T X : TxS) : Prop := tN T = tN X ∧ tN X ≤ 200 ∧ ∀ j, j < tN X → tF T j = tF X j
theorem wr_eq {T X : TxS} (h : RT T X) (x : Int32) : wrR T x = mwrR X x ∧ RT (wrF T x) (mwrF X x) := by
  obtain ⟨h1, h2, h3⟩ := h
  unfold wrR mwrR wrF mwrF
  rw [h1]
  refine ⟨rfl, ?_⟩
  by_cases c1 : inB x 32 126 = true
  · rw [if_pos c1, if_pos c1]
    by_cases c2 : nI (tN X) = 200
    · rw [if_pos c2, if_pos c2]; exact ⟨h1, h2, h3⟩
    · rw [if_neg c2, if_neg c2]
      have h6 : ¬ tN X = 200 := fun e => c2 (by rw [e]; rfl)
      refine ⟨rfl, ?_, fun j hj => ?_⟩
      · show tN X + 1 ≤ 200
        omega
      · have hj : j < tN X + 1 := hj
        show upd (tF T) (tN X) x j = upd (tF X) (tN X) x j
        by_cases e : j = tN X
        · subst e; rw [pk_us, pk_us]
        · rw [pk_un e, pk_un e]; exact h3 j (by omega)
  · rw [if_neg c1, if_neg c1]; exact ⟨h1, h2, h3⟩
