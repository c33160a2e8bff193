/-! Each question's answer is the reference's. -/
theorem gate {α : Type} {b : Bool} {x y z : α} (h : b = true → x = y) : (if b = true then x else z) = (if b = true then y else z) := by
  cases b with
  | true => exact h rfl
  | false => rfl
theorem gate2 {α : Type} {b : Bool} {x y z w : α} (h : b = true → x = y) (h2 : z = w) : (if b = true then x else z) = (if b = true then y else w) := by
  subst h2; exact gate h
theorem isC_eq {P : PlS} {N : MPl} (hP : RP P N) (x : Int32) : isC P x = isM N x := by
  show inB x 0 (nI (pN P) - 1) = inB x 0 (nI (nN N) - 1)
  rw [hP.1]
theorem tn_c {n c : Nat} (hn : n ≤ 8) (h : c < n) : tn (nI c) = c := tn_nI (by omega)
theorem RR.st {n m : Nat} {L : LnS} {M : MLn} (h : RR n m L M) {c : Nat} (hc : c < n) : lst L c = mis M c := (h.1.1.1 c hc).1
theorem RR.wa {n m : Nat} {L : LnS} {M : MLn} (h : RR n m L M) {c : Nat} (hc : c < n) : lwa L c = mwa M c := (h.1.1.1 c hc).2.1
theorem RR.hang {n m : Nat} {L : LnS} {M : MLn} (h : RR n m L M) (i : Nat) (hi : ¬ lst L i = 0) : RR n m (hangF L i) (mhgF M i) := by
  obtain ⟨⟨⟨h1, h2, h3, h4, h5⟩, h6⟩, ha⟩ := h
  refine ⟨⟨⟨fun c hc => ?_, h2, h3, h4, h5⟩, h6⟩, fun c hc => ?_⟩
  · show upd (lst L) i 4 c = upd (mis M) i 4 c ∧ lwa L c = mwa M c ∧ lca L c = mca M c ∧ lti L c = mta M c
    have H := h1 c hc
    by_cases e : c = i
    · subst e; exact ⟨pk_us.trans pk_us.symm, H.2⟩
    · exact ⟨(pk_un e).trans (H.1.trans (pk_un e).symm), H.2⟩
  · show man M c = b2i (bitB (lcg L) c) ∧ (bitB (lcg L) c = true → upd (lst L) i 4 c = 0)
    refine ⟨(ha c hc).1, fun hb => ?_⟩
    have e : c ≠ i := fun e => hi (e ▸ (ha c hc).2 hb)
    rw [pk_un e]; exact (ha c hc).2 hb
theorem RR.rec {n m : Nat} {L : LnS} {M : MLn} (h : RR n m L M) (hn : n ≤ 8) {i : Nat} (hi : i < n) : RR n m (recF L i) (mrcF M i) := by
  obtain ⟨⟨⟨h1, h2, h3, h4, h5⟩, h6⟩, ha⟩ := h
  refine ⟨⟨⟨fun c hc => ?_, h2, h3, h4, h5⟩, h6⟩, fun c hc => ?_⟩
  · show upd (lst L) i 0 c = upd (mis M) i 0 c ∧ lwa L c = mwa M c ∧ lca L c = mca M c ∧ lti L c = mta M c
    have H := h1 c hc
    by_cases e : c = i
    · subst e; exact ⟨pk_us.trans pk_us.symm, H.2⟩
    · exact ⟨(pk_un e).trans (H.1.trans (pk_un e).symm), H.2⟩
  · show upd (man M) i 1 c = b2i (bitB (lcg L ||| ((1 : Int32) <<< (nI i &&& 31))) c) ∧ (bitB (lcg L ||| ((1 : Int32) <<< (nI i &&& 31))) c = true → upd (lst L) i 0 c = 0)
    rw [bitB_or _ (by omega) (by omega)]
    by_cases e : c = i
    · subst e
      rw [decide_eq_true (rfl : c = c), Bool.or_true]
      exact ⟨pk_us, fun _ => pk_us⟩
    · rw [decide_eq_false e, Bool.or_false, pk_un e, pk_un e]; exact ha c hc
theorem RR.se {n m : Nat} {L : LnS} {M : MLn} (h : RR n m L M) {s : Nat} (h1 : 1 ≤ s) (h4 : s ≤ 4) : RR n m (seF L (nI s)) (mseF M (nI s)) := by
  obtain ⟨⟨⟨a1, a2, a3, a4, a5⟩, a6, a7, a8⟩, ha⟩ := h
  exact ⟨⟨⟨a1, a2, a3, rfl, a5⟩, a6, ⟨s, h1, h4, rfl⟩, a8⟩, ha⟩
theorem RR.ru {n m : Nat} {L : LnS} {M : MLn} (h : RR n m L M) (x : Int32) : RR n m (ruF L x) (mruF M x) := by
  obtain ⟨⟨⟨a1, a2, a3, a4, a5⟩, a6, a7, a8⟩, ha⟩ := h
  exact ⟨⟨⟨a1, a2, a3, a4, rfl⟩, a6, a7, a8⟩, ha⟩
theorem caller_eq {P : PlS} {N : MPl} (hP : RP P N) {m : Nat} {L : LnS} {M : MLn} (h : RR (nN N) m L M) (x y : Int32) : callerF P L x y = mcaR N M x y := by
  unfold callerF mcaR
  rw [isC_eq hP]
  refine gate (fun c1 => ?_)
  obtain ⟨c, hc, rfl⟩ := isC_nat hP.2.2.1 c1
  rw [tn_c hP.2.2.1 hc]
  obtain ⟨p1, p2, ⟨b, -, -, p3, p3'⟩, ⟨w, -, p4, p4'⟩⟩ := hP.2.2.2.2 c hc
  by_cases c2 : inB y 0 6 = true
  · obtain ⟨j, -, hj, -, rfl⟩ := inB_nat (a := 0) (b := 6) rfl rfl (by omega) c2
    rw [if_pos c2, p1, p2, p3, p3', p4, p4', h.st hc, h.wa hc]
    have hm := most_eq hP h.1.1 hc
    have h6 : (if mis M c = 1 then mostF P c (cahF P L c) else -4) = (if mis M c = 1 then (if 1048576 ≤ mbeF N M c then -4 else mbeF N M c) else -4) := by
      split
      · rcases hm with ⟨e1, e2⟩ | ⟨b, hb1, hb2, e1, e2⟩
        · rw [e1, e2]; decide
        · rw [e1, e2, if_neg (show ¬ (1048576 : Int32) ≤ nI b from nI_ge (b := 1048576) (by omega) (by omega))]
      · rfl
    rw [h6]
    rcases (show j = 0 ∨ j = 1 ∨ j = 2 ∨ j = 3 ∨ j = 4 ∨ j = 5 ∨ j = 6 by omega) with rfl | rfl | rfl | rfl | rfl | rfl | rfl <;> first | rfl | simp [nI]
  · rw [if_neg c2]
    have hne : ∀ k : Nat, k ≤ 6 → ¬ y = nI k := fun k hk e => c2 (by
      rw [e]; unfold inB
      rw [if_neg (nI_pos (by omega)), if_neg (show ¬ (6 : Int32) < nI k from fun q => (nI_nlt (a := 6) (b := k) hk (by omega)) q)])
    rw [if_neg (show ¬ y = 0 from hne 0 (by omega)), if_neg (show ¬ y = 1 from hne 1 (by omega)), if_neg (show ¬ y = 2 from hne 2 (by omega)), if_neg (show ¬ y = 3 from hne 3 (by omega)), if_neg (show ¬ y = 4 from hne 4 (by omega)), if_neg (show ¬ y = 5 from hne 5 (by omega)), if_neg (show ¬ y = 6 from hne 6 (by omega))]
theorem be_ans {P : PlS} {N : MPl} (hP : RP P N) {m : Nat} (hm : m ≤ 999) {L : LnS} {M : MLn} (h : RR (nN N) m L M) (x y : Int32) : beR P L x y = mbeR N M x y := by
  unfold beR mbeR
  rw [isC_eq hP]
  refine gate (fun c1 => gate (fun c2 => ?_))
  obtain ⟨j, -, hj, -, rfl⟩ := inB_nat (a := 0) (b := 60) rfl rfl (by omega) c1
  obtain ⟨c, hc, rfl⟩ := isC_nat hP.2.2.1 c2
  rw [tn_c hP.2.2.1 hc]
  exact (gos_eq hP h _ (by rw [tn_nI (by omega)]; omega)).st hc
theorem mt_eq {P : PlS} {N : MPl} (hP : RP P N) {c : Nat} (hc : c < nN N) : ∀ (k i m : Nat) (L : LnS) (M : MLn), RR (nN N) m L M → m + k < 100000 → mtF P c k i L = mtfF N c k i M := by
  intro k
  induction k with
  | zero =>
    intro i m L M h hm
    show (if decide (lst L c = 2 ∨ lst L c = 3) = true then nI i else -4) = (if decide (mis M c = 2 ∨ mis M c = 3) = true then nI i else -4)
    rw [h.st hc]
  | succ k ih =>
    intro i m L M h hm
    show (if decide (lst L c = 2 ∨ lst L c = 3) = true then nI i else mtF P c k (i + 1) (goF P L)) = (if decide (mis M c = 2 ∨ mis M c = 3) = true then nI i else mtfF N c k (i + 1) (mgoF N M))
    rw [h.st hc]
    exact gate2 (fun _ => rfl) (ih (i + 1) (m + 1) _ _ (go_eq hP (by omega) h) (by omega))
theorem mt_val (P : PlS) (c : Nat) : ∀ (k i : Nat) (L : LnS), mtF P c k i L = -4 ∨ ∃ v, v ≤ i + k ∧ mtF P c k i L = nI v := by
  intro k
  induction k with
  | zero =>
    intro i L
    show (if takB L c = true then nI i else -4) = -4 ∨ ∃ v, v ≤ i + 0 ∧ (if takB L c = true then nI i else -4) = nI v
    split
    · exact Or.inr ⟨i, by omega, rfl⟩
    · exact Or.inl rfl
  | succ k ih =>
    intro i L
    show (if takB L c = true then nI i else mtF P c k (i + 1) (goF P L)) = -4 ∨ ∃ v, v ≤ i + (k + 1) ∧ (if takB L c = true then nI i else mtF P c k (i + 1) (goF P L)) = nI v
    split
    · exact Or.inr ⟨i, by omega, rfl⟩
    · rcases ih (i + 1) (goF P L) with e | ⟨v, hv, e⟩
      · exact Or.inl e
      · exact Or.inr ⟨v, by omega, e⟩
theorem ta_ans {P : PlS} {N : MPl} (hP : RP P N) {m : Nat} (hm : m ≤ 999) {L : LnS} {M : MLn} (h : RR (nN N) m L M) (x : Int32) : taR P L x = mtaR N M x := by
  unfold taR mtaR
  rw [isC_eq hP]
  refine gate (fun c2 => ?_)
  obtain ⟨c, hc, rfl⟩ := isC_nat hP.2.2.1 c2
  rw [tn_c hP.2.2.1 hc]
  exact mt_eq hP hc 60 0 m L M h (by omega)
theorem or_if {p a b x y : Int32} : (if decide (p = a ∨ p = b) = true then x else y) = (if p = a then x else if p = b then x else y) := by
  by_cases c1 : p = a
  · rw [if_pos c1, if_pos (decide_eq_true (Or.inl c1))]
  · rw [if_neg c1]
    by_cases c2 : p = b
    · rw [if_pos c2, if_pos (decide_eq_true (Or.inr c2))]
    · rw [if_neg c2, if_neg (fun z => by rcases of_decide_eq_true z with z | z; exact c1 z; exact c2 z)]
theorem lf_eq {P : PlS} {N : MPl} (hP : RP P N) {c : Nat} (hc : c < nN N) : ∀ (k i m : Nat) (L : LnS) (M : MLn), RR (nN N) m L M → m + k < 100000 → lfF P c k i L = mlfF N c k i M := by
  intro k
  induction k with
  | zero =>
    intro i m L M h hm
    show (if decide (lst L c = 3 ∨ lst L c = 4) = true then nI i else -4) = (if mis M c = 3 then nI i else if mis M c = 4 then nI i else -4)
    rw [h.st hc, or_if]
  | succ k ih =>
    intro i m L M h hm
    show (if decide (lst L c = 3 ∨ lst L c = 4) = true then nI i else lfF P c k (i + 1) (goF P L)) = (if mis M c = 3 then nI i else if mis M c = 4 then nI i else mlfF N c k (i + 1) (mgoF N M))
    rw [h.st hc, ih (i + 1) (m + 1) _ _ (go_eq hP (by omega) h) (by omega), or_if]
theorem lf_ans {P : PlS} {N : MPl} (hP : RP P N) {m : Nat} (hm : m ≤ 999) {L : LnS} {M : MLn} (h : RR (nN N) m L M) (x : Int32) : lfR P L x = mlfR N M x := by
  unfold lfR mlfR
  rw [isC_eq hP]
  refine gate (fun c2 => ?_)
  obtain ⟨c, hc, rfl⟩ := isC_nat hP.2.2.1 c2
  rw [tn_c hP.2.2.1 hc]
  exact lf_eq hP hc 60 0 m L M h (by omega)
theorem nu_ans {P : PlS} {N : MPl} (hP : RP P N) {m : Nat} {L : LnS} {M : MLn} (h : RR (nN N) m L M) (x : Int32) : nuR P L x = mnuR N M x := by
  unfold nuR mnuR
  rw [isC_eq hP]
  refine gate (fun c2 => ?_)
  obtain ⟨c, hc, rfl⟩ := isC_nat hP.2.2.1 c2
  rw [tn_c hP.2.2.1 hc, h.st hc]
  obtain ⟨k, -, e1, e2⟩ := cah_eq hP h.1.1 hc
  rw [e1, e2]
theorem mb_eq {P : PlS} {N : MPl} (hP : RP P N) {m : Nat} (hm : m ≤ 999) {L : LnS} {M : MLn} (h : RR (nN N) m L M) {c d : Nat} (hc : c < nN N) (h1 : lst L c = 1) (hd : d ≤ 20) : mbV P L c d = mmbV N M c d := by
  unfold mbV mmbV
  have a := h.hang c (by rw [h1]; decide)
  have b := gos_eq hP a d (by omega)
  have e := b.rec hP.2.2.1 hc
  exact mt_eq hP hc (60 - d) 0 (m + d) _ _ e (by omega)
theorem ag_eq {P : PlS} {N : MPl} (hP : RP P N) {m : Nat} (hm : m ≤ 999) {L : LnS} {M : MLn} (h : RR (nN N) m L M) {c : Nat} (hc : c < nN N) (h1 : lst L c = 1) : ∀ k, k ≤ 21 → (it (agB P L c) (-4, -4) k = (-4, -4) ∧ it (magB N M c) (-4, 1048576) k = (-4, 1048576)) ∨ ∃ p q : Nat, p ≤ 1000 ∧ q ≤ 1000 ∧ it (agB P L c) (-4, -4) k = (nI p, nI q) ∧ it (magB N M c) (-4, 1048576) k = (nI p, nI q) := by
  intro k
  induction k with
  | zero => intro _; exact Or.inl ⟨rfl, rfl⟩
  | succ k ih =>
    intro hk
    have hv := mb_eq hP hm h hc h1 (d := k) (by omega)
    have ih := ih (by omega)
    rw [it_succ, it_succ]
    generalize it (agB P L c) (-4, -4) k = s1 at ih ⊢
    generalize it (magB N M c) (-4, 1048576) k = s2 at ih ⊢
    unfold agB magB mbF
    rw [hv]
    have hval := mt_val P c (60 - k) 0 (recF (gosF P (hangF L c) k) c)
    have hval : mmbV N M c k = -4 ∨ ∃ v, v ≤ 0 + (60 - k) ∧ mmbV N M c k = nI v := by rw [← hv]; exact hval
    rcases hval with e | ⟨v, hvl, e⟩
    · rw [e, if_pos (show (-4 : Int32) = -4 from rfl), if_pos (show (-4 : Int32) = -4 from rfl)]
      exact ih
    · have n1 : ¬ nI v = -4 := nI_ne4 (by omega)
      have n2 : ¬ nI (k + v) = -4 := nI_ne4 (by omega)
      rw [e, if_neg n1, if_neg n1, nI_add, if_neg n2]
      rcases ih with ⟨e1, e2⟩ | ⟨p, q, hp, hq, e1, e2⟩
      · rw [e1, e2]
        refine Or.inr ⟨k, k + v, by omega, by omega, rfl, ?_⟩
        show (if (1048576 : Int32) ≤ nI (k + v) then ((-4, 1048576) : Int32 × Int32) else (nI k, nI (k + v))) = _
        rw [if_neg (show ¬ (1048576 : Int32) ≤ nI (k + v) from nI_ge (b := 1048576) (by omega) (by omega))]
      · rw [e1, e2]
        have n3 : ¬ nI q = -4 := fun z => by
          have h1 := nI_toInt (n := q) (by omega)
          rw [z] at h1
          have : (-4 : Int32).toInt = -4 := rfl
          omega
        show (_ ∧ _) ∨ ∃ p' q' : Nat, p' ≤ 1000 ∧ q' ≤ 1000 ∧ (if nI q = -4 then ((nI k, nI (k + v)) : Int32 × Int32) else if nI q ≤ nI (k + v) then (nI p, nI q) else (nI k, nI (k + v))) = (nI p', nI q') ∧ (if nI q ≤ nI (k + v) then ((nI p, nI q) : Int32 × Int32) else (nI k, nI (k + v))) = (nI p', nI q')
        rw [if_neg n3]
        refine Or.inr ?_
        by_cases z : nI q ≤ nI (k + v)
        · exact ⟨p, q, hp, hq, if_pos z, if_pos z⟩
        · exact ⟨k, k + v, by omega, by omega, if_neg z, if_neg z⟩
theorem ag_ans {P : PlS} {N : MPl} (hP : RP P N) {m : Nat} (hm : m ≤ 999) {L : LnS} {M : MLn} (h : RR (nN N) m L M) (x y : Int32) : agR P L x y = magR N M x y := by
  unfold agR magR
  rw [isC_eq hP]
  refine gate (fun c1 => gate (fun c2 => ?_))
  obtain ⟨c, hc, rfl⟩ := isC_nat hP.2.2.1 c1
  rw [tn_c hP.2.2.1 hc, h.st hc]
  by_cases c3 : mis M c = 1
  · rw [if_pos c3, if_pos c3]
    have := ag_eq hP hm h hc ((h.st hc).trans c3) 21 (Nat.le_refl _)
    unfold agF magF
    rcases this with ⟨e1, e2⟩ | ⟨p, q, hp, hq, e1, e2⟩
    · rw [e1, e2]
      show (if y = 0 then (-4 : Int32) else -4) = (if (-4 : Int32) = -4 then -4 else if y = 0 then -4 else 1048576)
      rw [if_pos (show (-4 : Int32) = -4 from rfl)]
      split <;> rfl
    · rw [e1, e2]
      have n3 : ¬ nI p = -4 := fun z => by
        have h1 := nI_toInt (n := p) (by omega)
        rw [z] at h1
        have : (-4 : Int32).toInt = -4 := rfl
        omega
      show (if y = 0 then nI p else nI q) = (if nI p = -4 then nI p else if y = 0 then nI p else nI q)
      rw [if_neg n3]
  · rw [if_neg c3, if_neg c3]
