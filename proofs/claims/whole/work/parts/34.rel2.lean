theorem ah_eq {P : PlS} {N : MPl} (hP : RP P N) {L : LnS} {M : MLn} (hL : QL (nN N) L M) {a b : Nat} (ha : a < nN N) (hb : b < nN N) : isAheadF P L a b = mAhF N M a b := by
  unfold isAheadF mAhF
  rw [hL.2.2.2.2, (hL.1 a ha).2.2.1, (hL.1 b hb).2.2.1, hP.wo ha, hP.wo hb]
theorem ah_self (P : PlS) (L : LnS) (a : Nat) : isAheadF P L a a = false := by
  unfold isAheadF
  have h : decide (lca L a < lca L a) = false := decide_eq_false (Int32.lt_irrefl)
  rw [h, if_pos (show pwo P a = pwo P a from rfl)]
  split
  · rfl
  · split <;> rfl
theorem nxB_eq {P : PlS} {N : MPl} (hP : RP P N) {L : LnS} {M : MLn} (hL : QL (nN N) L M) {k : Nat} (hk : k < nN N) (o : Option Nat) (hlt : ∀ q, o = some q → q < k) : nxB P L o k = mnxB N M o k := by
  unfold nxB mnxB
  rw [(hL.1 k hk).1]
  by_cases c : mis M k = 1
  · rw [if_pos c, if_pos c]
    cases o with
    | none => rfl
    | some q =>
      have hq := hlt q rfl
      show (if isAheadF P L k q = true then some k else some q) = (if mAhF N M k q = true then some k else some q)
      rw [ah_eq hP hL hk (by omega)]
  · rw [if_neg c, if_neg c]
theorem nx_all {P : PlS} {N : MPl} (hP : RP P N) {L : LnS} {M : MLn} (hL : QL (nN N) L M) : ∀ k, k ≤ nN N → it (nxB P L) none k = it (mnxB N M) none k := by
  intro k
  induction k with
  | zero => intro _; exact Eq.trans (b := none) rfl rfl
  | succ k ih =>
    intro hk
    rw [it_succ, it_succ, ih (by omega)]
    exact nxB_eq hP hL (by omega) _ (fun q h => mnxF_lt _ _ h)
theorem nx_eq {P : PlS} {N : MPl} (hP : RP P N) {L : LnS} {M : MLn} (hL : QL (nN N) L M) : nxF P L = mnxF N M := by
  show it (nxB P L) none (pN P) = it (mnxB N M) none (nN N)
  rw [hP.1]
  exact nx_all hP hL _ (Nat.le_refl _)
theorem cah_eq {P : PlS} {N : MPl} (hP : RP P N) {L : LnS} {M : MLn} (hL : QL (nN N) L M) {c : Nat} (hc : c < nN N) : ∃ k, k ≤ nN N ∧ cahF P L c = nI k ∧ mahF N M c = nI k := by
  unfold cahF mahF
  rw [hP.1]
  have hn := hP.2.2.1
  have hall : ∀ j, j ≤ nN N → ∃ k, k ≤ j ∧ it (cahB P L c) 0 j = nI k ∧ it (mahB N M c) 0 j = nI k := by
    intro j
    induction j with
    | zero => intro _; exact ⟨0, Nat.le_refl _, nI_0.symm, nI_0.symm⟩
    | succ j ih =>
      intro hj
      obtain ⟨k, hk, e1, e2⟩ := ih (by omega)
      rw [it_succ, it_succ, e1, e2]
      unfold cahB mahB
      rw [(hL.1 j (by omega)).1]
      by_cases c0 : j = c
      · subst c0
        rw [ah_self, if_pos (show nI j = nI j from rfl), if_neg (show ¬ false = true by decide), Int32.add_zero]
        refine ⟨k, by omega, ?_, rfl⟩
        split <;> rfl
      · rw [if_neg (show ¬ nI j = nI c from fun e => c0 (nI_inj e (by omega) (by omega)))]
        by_cases c1 : mis M j = 1
        · rw [if_pos c1, if_pos c1, ah_eq hP hL (by omega) hc]
          cases mAhF N M j c with
          | true => exact ⟨k + 1, by omega, nI_1 k, nI_1 k⟩
          | false => exact ⟨k, by omega, rfl, Int32.add_zero _⟩
        · rw [if_neg c1, if_neg c1]
          exact ⟨k, by omega, rfl, Int32.add_zero _⟩
  exact hall _ (Nat.le_refl _)
/-- how many of the first n are w -/
def ctN (f : Nat → Int32) (w : Int32) : Nat → Nat
  | 0 => 0
  | n + 1 => if f n = w then ctN f w n + 1 else ctN f w n
theorem ctN_le (f : Nat → Int32) (w : Int32) (n : Nat) : ctN f w n ≤ n := by
  induction n with
  | zero => exact Nat.le_refl 0
  | succ n ih => unfold ctN; split <;> omega
theorem ctN_cg {f g : Nat → Int32} (w : Int32) (n : Nat) (h : ∀ c, c < n → f c = g c) : ctN f w n = ctN g w n := by
  induction n with
  | zero => rfl
  | succ n ih => unfold ctN; rw [h n (by omega), ih (fun c hc => h c (by omega))]
theorem cnt_N (f : Nat → Int32) (w : Int32) (n : Nat) : cntF f w n = nI (ctN f w n) := by
  unfold cntF
  induction n with
  | zero => exact nI_0.symm
  | succ n ih =>
    rw [it_succ, ih]; unfold cntB
    show (if f n = w then nI (ctN f w n) + 1 else nI (ctN f w n)) = nI (if f n = w then ctN f w n + 1 else ctN f w n)
    split
    · exact nI_1 _
    · rfl
theorem mct_N (f : Nat → Int32) (w : Int32) (n : Nat) : mctF f w n = nI (ctN f w n) := by
  unfold mctF
  induction n with
  | zero => exact nI_0.symm
  | succ n ih =>
    rw [it_succ, ih]; unfold mctB
    show nI (ctN f w n) + (if f n = w then 1 else 0) = nI (if f n = w then ctN f w n + 1 else ctN f w n)
    split
    · exact nI_1 _
    · exact Int32.add_zero _
theorem ct_eq {P : PlS} {N : MPl} (hP : RP P N) {L : LnS} {M : MLn} (hL : QL (nN N) L M) (w : Int32) : cntF (lst L) w (pN P) = mctF (mis M) w (nN N) := by
  rw [cnt_N, mct_N, hP.1, ctN_cg w _ (fun c hc => (hL.1 c hc).1)]
theorem ctN_same {f : Nat → Int32} {w x : Int32} {k : Nat} (n : Nat) (h : n ≤ k) : ctN (upd f k x) w n = ctN f w n := ctN_cg w n (fun c hc => pk_un (by omega))
theorem ctN_take {f : Nat → Int32} {x : Int32} (n k : Nat) (hk : k < n) (h1 : ¬ f k = x) : ctN (upd f k x) x n = ctN f x n + 1 := by
  induction n with
  | zero => omega
  | succ n ih =>
    by_cases c : k = n
    · subst c
      unfold ctN
      rw [pk_us, if_pos rfl, if_neg h1, ctN_same _ (Nat.le_refl _)]
    · have := ih (by omega)
      unfold ctN
      rw [pk_un (fun q => c q.symm)]
      split <;> omega
/-- one is taken -/
def tkX (X : LnS) (k : Nat) : LnS := (upd (lst X) k 2, lwa X, lca X, upd (lti X) k (lmi X), lcg X, lco X, lmi X, lse X, lru X)
theorem R0.take {n m : Nat} {L : LnS} {M : MLn} (h : R0 n m L M) (i : Nat) : R0 n m (tkX L i) (mtkB M i) := by
  obtain ⟨⟨h1, h2, h3, h4, h5⟩, h6⟩ := h
  refine ⟨⟨fun c hc => ?_, h2, h3, h4, h5⟩, h6⟩
  show upd (lst L) i 2 c = upd (mis M) i 2 c ∧ lwa L c = mwa M c ∧ lca L c = mca M c ∧ upd (lti L) i (lmi L) c = upd (mta M) i (mmi M) c
  have H := h1 c hc
  by_cases e : c = i
  · subst e; exact ⟨pk_us.trans pk_us.symm, H.2.1, H.2.2.1, pk_us.trans (h3.trans pk_us.symm)⟩
  · exact ⟨(pk_un e).trans (H.1.trans (pk_un e).symm), H.2.1, H.2.2.1, (pk_un e).trans (H.2.2.2.trans (pk_un e).symm)⟩
theorem tkB_none {P : PlS} {X : LnS} {i : Nat} (h : nxF P X = none) : tkB P X i = X := by unfold tkB; rw [h]
theorem tkB_some {P : PlS} {X : LnS} {i k : Nat} (h : nxF P X = some k) : tkB P X i = tkX X k := by unfold tkB; rw [h]; rfl
/-- a loop that doesn't look at its counter, from its first round -/
theorem it_front {α : Type} {B : α → Nat → α} (hB : ∀ X i j, B X i = B X j) (a : α) (n : Nat) : it B a (n + 1) = it B (B a 0) n := by
  induction n with
  | zero => rfl
  | succ n ih => rw [it_succ, ih, it_succ]; exact hB _ _ _
theorem tkB_i (P : PlS) (X : LnS) (i j : Nat) : tkB P X i = tkB P X j := rfl
theorem tk_eq {P : PlS} {N : MPl} (hP : RP P N) {m : Nat} : ∀ (f j : Nat) (L : LnS) (M : MLn), R0 (nN N) m L M → RZ (nN N) L M → (∃ s : Nat, s ≤ 4 ∧ lse L = nI s ∧ f = s - ctN (lst L) 2 (nN N)) → wcF (mis M) (nN N) < j → R0 (nN N) m (it (tkB P) L f) (mtkF N j M) ∧ RZ (nN N) (it (tkB P) L f) (mtkF N j M) := by
  intro f
  have hn := hP.2.2.1
  induction f with
  | zero =>
    intro j L M h0 hz hs hj
    obtain ⟨s, hs4, hse, hf⟩ := hs
    have e : mtkF N j M = M := by
      cases j with
      | zero => rfl
      | succ j =>
        have hc : mse M ≤ mctF (mis M) 2 (nN N) := by
          rw [← ct_eq hP h0.1, cnt_N, hP.1, ← h0.1.2.2.2.1, hse]
          exact nI_le (by omega) (by have := ctN_le (lst L) 2 (nN N); omega)
        show (if mse M ≤ mctF (mis M) 2 (nN N) then M else _) = M
        rw [if_pos hc]
    rw [e]; exact ⟨h0, hz⟩
  | succ f ih =>
    intro j L M h0 hz hs hj
    obtain ⟨s, hs4, hse, hf⟩ := hs
    cases j with
    | zero => omega
    | succ j =>
      have hc : ¬ mse M ≤ mctF (mis M) 2 (nN N) := by
        rw [← ct_eq hP h0.1, cnt_N, hP.1, ← h0.1.2.2.2.1, hse]
        exact nI_ge (by omega) (by omega)
      rw [it_front (tkB_i P)]
      cases ho : nxF P L with
      | none =>
        have hm : mnxF N M = none := (nx_eq hP h0.1).symm.trans ho
        have e : mtkF N (j + 1) M = M := by
          show (if mse M ≤ mctF (mis M) 2 (nN N) then M else _) = M
          simp only [hc, hm, if_false]
        rw [e, tkB_none ho, it_stuck (i := 0) (fun q => tkB_none ho) f (Nat.zero_le _)]
        exact ⟨h0, hz⟩
      | some k =>
        have hm : mnxF N M = some k := (nx_eq hP h0.1).symm.trans ho
        have e : mtkF N (j + 1) M = mtkF N j (mtkB M k) := by
          show (if mse M ≤ mctF (mis M) 2 (nN N) then M else _) = _
          simp only [hc, hm, if_false]
        rw [e, tkB_some ho]
        have hst := mnxF_st (N := N) (M := M) (nN N) k hm
        have hl1 : lst L k = 1 := (h0.1.1 k hst.1).1.trans hst.2
        have hw := wc_take (f := mis M) (x := 2) (nN N) k hst.1 hst.2 (by decide)
        have ht := ctN_take (f := lst L) (x := 2) (nN N) k hst.1 (by rw [hl1]; decide)
        exact ih j (tkX L k) (mtkB M k) (h0.take k) hz ⟨s, hs4, hse, by show f = s - ctN (upd (lst L) k 2) 2 (nN N); omega⟩ (by show wcF (upd (mis M) k 2) (nN N) < j; omega)
theorem tkF_eq {P : PlS} {N : MPl} (hP : RP P N) {m : Nat} {L : LnS} {M : MLn} (h0 : R0 (nN N) m L M) (hz : RZ (nN N) L M) : R0 (nN N) m (tkF P L) (mtkF N 9 M) ∧ RZ (nN N) (tkF P L) (mtkF N 9 M) := by
  obtain ⟨s, hs1, hs4, hse⟩ := h0.2.2.1
  have hn := hP.2.2.1
  have hc := ctN_le (lst L) 2 (nN N)
  unfold tkF
  refine tk_eq hP _ 9 L M h0 hz ⟨s, hs4, hse, ?_⟩ (by have := wcF_le (mis M) (nN N); omega)
  unfold tkN
  rw [cnt_N, hP.1, hse]
  by_cases q : ctN (lst L) 2 (nN N) ≤ s
  · rw [pk_sub q, nI_toInt (by omega)]; rfl
  · have h := pk_sneg (a := s) (b := ctN (lst L) 2 (nN N)) (by omega) (by omega)
    have h2 := Int32.lt_iff_toInt_lt.mp h
    have e0 : (0 : Int32).toInt = 0 := rfl
    omega
