theorem to_bits (M : MLn) (k : Nat) (hk : k ≤ 8) (c : Nat) (hc : c < 8) : bitB (it (mtoB M) 0 k) c = (decide (c < k) && decide (mis M c = 0 ∨ mis M c = 1)) := by
  induction k with
  | zero =>
    show bitB 0 c = _
    rw [bitB_0 hc, decide_eq_false (Nat.not_lt_zero c)]; rfl
  | succ k ih =>
    have ih := ih (by omega)
    rw [it_succ]
    have e : ∀ s : Int32, mtoB M s k = if decide (mis M k = 0 ∨ mis M k = 1) = true then s ||| ((1 : Int32) <<< (nI k &&& 31)) else s := by
      intro s
      rw [or_if]; unfold mtoB
      by_cases c1 : mis M k = 0
      · rw [if_pos c1, if_pos c1]
      · rw [if_neg c1, if_neg c1]
        by_cases c2 : mis M k = 1
        · rw [if_pos c2, if_pos c2]
        · rw [if_neg c2, if_neg c2]; exact Int32.or_zero
    rw [e]
    by_cases q : decide (mis M k = 0 ∨ mis M k = 1) = true
    · rw [if_pos q, bitB_or _ (by omega) hc, ih]
      by_cases e : c = k
      · subst e; rw [q]; simp
      · have : decide (c < k + 1) = decide (c < k) := by
          by_cases r : c < k
          · rw [decide_eq_true r, decide_eq_true (by omega)]
          · rw [decide_eq_false r, decide_eq_false (by omega)]
        rw [this, decide_eq_false e, Bool.or_false]
    · rw [if_neg q, ih]
      by_cases e : c = k
      · subst e
        have q' : decide (mis M c = 0 ∨ mis M c = 1) = false := by cases h : decide (mis M c = 0 ∨ mis M c = 1) with
          | true => exact absurd h q
          | false => rfl
        rw [q', Bool.and_false, Bool.and_false]
      · have : decide (c < k + 1) = decide (c < k) := by
          by_cases r : c < k
          · rw [decide_eq_true r, decide_eq_true (by omega)]
          · rw [decide_eq_false r, decide_eq_false (by omega)]
        rw [this]
theorem to_bit {P : PlS} {N : MPl} (hP : RP P N) {L : LnS} {M : MLn} (hL : QL (nN N) L M) {c : Nat} (hc : c < nN N) : bitB (mtoF N M) c = tobB L c := by
  have hn := hP.2.2.1
  unfold mtoF
  rw [to_bits M _ hn c (by omega), decide_eq_true hc, Bool.true_and]
  show decide (mis M c = 0 ∨ mis M c = 1) = decide (lst L c = 1 ∨ lst L c = 0)
  rw [(hL.1 c hc).1]
  by_cases a : mis M c = 0
  · rw [decide_eq_true (Or.inl a), decide_eq_true (Or.inr a)]
  · by_cases b : mis M c = 1
    · rw [decide_eq_true (Or.inr b), decide_eq_true (Or.inl b)]
    · rw [decide_eq_false (fun z => by rcases z with z | z; exact a z; exact b z), decide_eq_false (fun z => by rcases z with z | z; exact b z; exact a z)]
theorem ws_eq {P : PlS} {N : MPl} (hP : RP P N) {m : Nat} (hm : m ≤ 999) {L : LnS} {M : MLn} (h : RR (nN N) m L M) (x : Int32) : ∃ v, v ≤ 60 * nN N ∧ wsF P L x = nI v ∧ mwsF N M x = nI v := by
  unfold wsF mwsF
  rw [hP.1]
  have g := gos_eq hP (h.ru x) 60 (by omega)
  generalize gosF P (ruF L x) 60 = X at g ⊢
  generalize mgsF N (mruF M x) 60 = Y at g ⊢
  have hall : ∀ k, k ≤ nN N → ∃ v, v ≤ 60 * k ∧ it (wsB P L X) 0 k = nI v ∧ it (mwsB N (mtoF N M) Y) 0 k = nI v := by
    intro k
    induction k with
    | zero => intro _; exact ⟨0, by omega, nI_0.symm, nI_0.symm⟩
    | succ k ih =>
      intro hk
      obtain ⟨v, hv, e1, e2⟩ := ih (by omega)
      obtain ⟨w, hw, p1, p2⟩ := (hP.2.2.2.2 k (by omega)).2.2.2
      rw [it_succ, it_succ, e1, e2]
      unfold wsB mwsB
      have ht : takB X k = mtkb Y k := by
        show decide (lst X k = 2 ∨ lst X k = 3) = decide (mis Y k = 2 ∨ mis Y k = 3)
        rw [g.st (by omega)]
      rw [to_bit hP h.1.1 (show k < nN N by omega), ht, p1, p2]
      cases tobB L k with
      | true =>
        cases mtkb Y k with
        | true => exact ⟨v + w, by omega, nI_add v w, nI_add v w⟩
        | false => exact ⟨v, by omega, rfl, Int32.add_zero _⟩
      | false => exact ⟨v, by omega, rfl, Int32.add_zero _⟩
  exact hall _ (Nat.le_refl _)
theorem bs_ans {P : PlS} {N : MPl} (hP : RP P N) {m : Nat} (hm : m ≤ 999) {L : LnS} {M : MLn} (h : RR (nN N) m L M) (y : Int32) : bsR P L y = mbsR N M y := by
  have hn := hP.2.2.1
  obtain ⟨v0, h0, a0, b0⟩ := ws_eq hP hm h (nI 0)
  obtain ⟨v1, h1, a1, b1⟩ := ws_eq hP hm h (nI (0 + 1))
  obtain ⟨v2, h2, a2, b2⟩ := ws_eq hP hm h (nI (1 + 1))
  have step : ∀ (a : Int32) (b v : Nat) (i : Nat), b ≤ 480 → v ≤ 480 → ((if nI v ≤ nI b then a else nI i, grF (nI b) (nI v)) : Int32 × Int32) = (if nI v ≤ nI b then ((a, nI b) : Int32 × Int32) else (nI i, nI v)) := by
    intro a b v i hb hv
    unfold grF
    by_cases q : v ≤ b
    · rw [if_pos (nI_le q (by omega)), if_pos (nI_le q (by omega))]
      by_cases r : b ≤ v
      · rw [if_pos (nI_le r (by omega)), show v = b by omega]
      · rw [if_neg (nI_ge (by omega) (by omega))]
    · rw [if_neg (show ¬ nI v ≤ nI b from nI_ge (by omega) (by omega)), if_neg (show ¬ nI v ≤ nI b from nI_ge (by omega) (by omega)), if_pos (show nI b ≤ nI v from nI_le (by omega) (by omega))]
  have hF : bsF P L = mbsF N M := by
    unfold bsF mbsF
    have e0 : it (mbsB N M) (0, -4) 1 = (nI 0, nI v0) := by
      show ((if mwsF N M (nI 0) ≤ -4 then (0 : Int32) else nI 0, grF (-4) (mwsF N M (nI 0))) : Int32 × Int32) = _
      rw [b0]
      have h4 : (-4 : Int32) ≤ nI v0 := Int32.le_iff_toInt_le.mpr (by rw [nI_toInt (by omega)]; have : (-4 : Int32).toInt = -4 := rfl; omega)
      have h5 : ¬ nI v0 ≤ (-4 : Int32) := fun z => by
        have := Int32.le_iff_toInt_le.mp z
        rw [nI_toInt (by omega)] at this
        have : (-4 : Int32).toInt = -4 := rfl
        omega
      unfold grF
      rw [if_neg h5, if_pos h4]
    have c0 : wsF P L 0 = nI v0 := a0
    show bsB P L (bsB P L (0, wsF P L 0) 0) 1 = mbsB N M (mbsB N M (it (mbsB N M) (0, -4) 1) 1) 2
    rw [e0, c0]
    have s1 : bsB P L (0, nI v0) 0 = mbsB N M (nI 0, nI v0) 1 := by
      show (if wsF P L (nI (0 + 1)) ≤ nI v0 then ((0, nI v0) : Int32 × Int32) else (nI (0 + 1), wsF P L (nI (0 + 1)))) = ((if mwsF N M (nI (0 + 1)) ≤ nI v0 then nI 0 else nI (0 + 1), grF (nI v0) (mwsF N M (nI (0 + 1)))) : Int32 × Int32)
      rw [a1, b1, step _ _ _ _ (by omega) (by omega)]; rfl
    rw [s1]
    have s2 : ∃ (a : Int32) (b : Nat), b ≤ 480 ∧ mbsB N M (nI 0, nI v0) 1 = (a, nI b) := by
      show ∃ (a : Int32) (b : Nat), b ≤ 480 ∧ ((if mwsF N M (nI (0 + 1)) ≤ nI v0 then nI 0 else nI (0 + 1), grF (nI v0) (mwsF N M (nI (0 + 1)))) : Int32 × Int32) = (a, nI b)
      rw [b1, step _ _ _ _ (by omega) (by omega)]
      split
      · exact ⟨_, v0, by omega, rfl⟩
      · exact ⟨_, v1, by omega, rfl⟩
    obtain ⟨a, b, hb, e⟩ := s2
    rw [e]
    show (if wsF P L (nI (1 + 1)) ≤ nI b then ((a, nI b) : Int32 × Int32) else (nI (1 + 1), wsF P L (nI (1 + 1)))) = ((if mwsF N M (nI (1 + 1)) ≤ nI b then a else nI (1 + 1), grF (nI b) (mwsF N M (nI (1 + 1)))) : Int32 × Int32)
    rw [a2, b2, step _ _ _ _ hb (by omega)]
  unfold bsR mbsR
  rw [hF]
theorem gu_eq {P : PlS} {N : MPl} (hP : RP P N) {m : Nat} (hm : m ≤ 2000) {L : LnS} {M : MLn} (h : RR (nN N) m L M) : guF P L = mloF N M := by
  unfold guF mloF
  rw [ct_eq hP (gos_eq hP h 60 (by omega)).1.1, ct_eq hP h.1.1]
theorem gu_small {P : PlS} {N : MPl} (hP : RP P N) (X : LnS) : ¬ (1048576 : Int32) ≤ guF P X := by
  intro z
  have z := Int32.le_iff_toInt_le.mp z
  have e : (1048576 : Int32).toInt = 1048576 := rfl
  have e0 : (0 : Int32).toInt = 0 := rfl
  have hn := hP.2.2.1
  unfold guF at z
  rw [cnt_N, cnt_N, hP.1] at z
  have h1 := ctN_le (lst (gosF P X 60)) 4 (nN N)
  have h2 := ctN_le (lst X) 4 (nN N)
  generalize ctN (lst (gosF P X 60)) 4 (nN N) = a at z h1
  generalize ctN (lst X) 4 (nN N) = b at z h2
  rcases Nat.lt_or_ge a b with r | r
  · have := Int32.lt_iff_toInt_lt.mp (pk_sneg (a := a) (b := b) (by omega) r)
    omega
  · rw [pk_sub r, nI_toInt (by omega)] at z
    omega
theorem ne_ans {P : PlS} {N : MPl} (hP : RP P N) {m : Nat} (hm : m ≤ 999) {L : LnS} {M : MLn} (h : RR (nN N) m L M) : neF P L 4 1 = mneF N M := by
  have g : ∀ s, 1 ≤ s → s ≤ 4 → guF P (seF L (nI s)) = mloF N (mseF M (nI s)) := fun s h1 h4 => gu_eq hP (by omega) (h.se h1 h4)
  have g1 := g 1 (by omega) (by omega)
  have g2 := g 2 (by omega) (by omega)
  have g3 := g 3 (by omega) (by omega)
  have g4 := g 4 (by omega) (by omega)
  show (if guF P (seF L (nI 1)) = 0 then nI 1 else if guF P (seF L (nI 2)) = 0 then nI 2 else if guF P (seF L (nI 3)) = 0 then nI 3 else if guF P (seF L (nI 4)) = 0 then nI 4 else -4) = (if mloF N (mseF M (nI 1)) = 0 then nI 1 else if mloF N (mseF M (nI 2)) = 0 then nI 2 else if mloF N (mseF M (nI 3)) = 0 then nI 3 else if mloF N (mseF M (nI 4)) = 0 then nI 4 else -4)
  rw [g1, g2, g3, g4]
theorem nI_n4 {p : Nat} (h : p < 2 ^ 31) : ¬ nI p = -4 := fun z => by
  have h1 := nI_toInt h
  rw [z] at h1
  have : (-4 : Int32).toInt = -4 := rfl
  omega
theorem hl_eq {P : PlS} {N : MPl} (hP : RP P N) {m : Nat} (hm : m ≤ 999) {L : LnS} {M : MLn} (h : RR (nN N) m L M) : ∀ k, k ≤ nN N → (it (hlB P L) (-4, -4) k = (-4, -4) ∧ it (mhlB N M) (-4, 1048576) k = (-4, 1048576)) ∨ ∃ (p : Nat) (q : Int32), p ≤ 8 ∧ it (hlB P L) (-4, -4) k = (nI p, q) ∧ it (mhlB N M) (-4, 1048576) k = (nI p, q) := by
  intro k
  have hn := hP.2.2.1
  induction k with
  | zero => intro _; exact Or.inl ⟨rfl, rfl⟩
  | succ k ih =>
    intro hk
    have ih := ih (by omega)
    rw [it_succ, it_succ]
    generalize it (hlB P L) (-4, -4) k = s1 at ih ⊢
    generalize it (mhlB N M) (-4, 1048576) k = s2 at ih ⊢
    unfold hlB mhlB
    rw [h.st (show k < nN N by omega)]
    by_cases c : mis M k = 1
    · have c' : lst L k = 1 := (h.st (show k < nN N by omega)).trans c
      have hg : guF P (hangF L k) = mloF N (mhgF M k) := gu_eq hP (by omega) (h.hang k (by rw [c']; decide))
      have hs := gu_small hP (hangF L k)
      rw [hg] at hs ⊢
      generalize mloF N (mhgF M k) = v at hs ⊢
      rw [if_pos c, if_pos c]
      rcases ih with ⟨e1, e2⟩ | ⟨p, q, hp, e1, e2⟩
      · rw [e1, e2]
        refine Or.inr ⟨k, v, by omega, rfl, ?_⟩
        show (if (1048576 : Int32) ≤ v then ((-4, 1048576) : Int32 × Int32) else (nI k, v)) = _
        rw [if_neg hs]
      · rw [e1, e2]
        show (_ ∧ _) ∨ ∃ (p' : Nat) (q' : Int32), p' ≤ 8 ∧ (if nI p = -4 then ((nI k, v) : Int32 × Int32) else if q ≤ v then (nI p, q) else (nI k, v)) = (nI p', q') ∧ (if q ≤ v then ((nI p, q) : Int32 × Int32) else (nI k, v)) = (nI p', q')
        rw [if_neg (nI_n4 (by omega))]
        refine Or.inr ?_
        by_cases z : q ≤ v
        · exact ⟨p, q, hp, if_pos z, if_pos z⟩
        · exact ⟨k, v, by omega, if_neg z, if_neg z⟩
    · rw [if_neg c, if_neg c]; exact ih
theorem hl_ans {P : PlS} {N : MPl} (hP : RP P N) {m : Nat} (hm : m ≤ 999) {L : LnS} {M : MLn} (h : RR (nN N) m L M) (y : Int32) : hlR P L y = mhlR N M y := by
  unfold hlR mhlR
  refine gate (fun c2 => ?_)
  have := hl_eq hP hm h (nN N) (Nat.le_refl _)
  unfold hlF mhlF
  rw [hP.1]
  rcases this with ⟨e1, e2⟩ | ⟨p, q, hp, e1, e2⟩
  · rw [e1, e2]
    show (if y = 0 then (-4 : Int32) else -4) = (if (-4 : Int32) = -4 then -4 else if y = 0 then -4 else 1048576)
    rw [if_pos (show (-4 : Int32) = -4 from rfl)]
    split <;> rfl
  · rw [e1, e2]
    show (if y = 0 then nI p else q) = (if nI p = -4 then nI p else if y = 0 then nI p else q)
    rw [if_neg (nI_n4 (by omega))]
theorem RR.iw {n m : Nat} {L : LnS} {M : MLn} (h : RR n m L M) {c : Nat} (hc : c < n) : ∃ w, w ≤ m ∧ lwa L c = nI w := h.1.2.2.2 c hc
theorem lo_ans {P : PlS} {N : MPl} (hP : RP P N) {m : Nat} (hm : m ≤ 999) {L : LnS} {M : MLn} (h : RR (nN N) m L M) (y : Int32) : loR P L y = mlnR N M y := by
  have hn := hP.2.2.1
  have g := gos_eq hP h 60 (by omega)
  have hF : loF P L = mlnF N M := by
    unfold loF mlnF
    rw [hP.1]
    generalize gosF P L 60 = X at g ⊢
    generalize mgsF N M 60 = Y at g ⊢
    have hall : ∀ k, k ≤ nN N → it (loB L X) (-4, -4) k = it (mlnB (mtoF N M) Y) (-4, -4) k ∧ (it (mlnB (mtoF N M) Y) (-4, -4) k = (-4, -4) ∨ ∃ p q : Nat, p ≤ 8 ∧ q ≤ 2000 ∧ it (mlnB (mtoF N M) Y) (-4, -4) k = (nI p, nI q)) := by
      intro k
      induction k with
      | zero => intro _; exact ⟨Eq.trans (b := ((-4, -4) : Int32 × Int32)) rfl rfl, Or.inl rfl⟩
      | succ k ih =>
        intro hk
        obtain ⟨ih1, ih2⟩ := ih (by omega)
        obtain ⟨w, hw, ew⟩ := g.iw (show k < nN N by omega)
        have ew' : mwa Y k = nI w := (g.wa (show k < nN N by omega)).symm.trans ew
        rw [it_succ, it_succ, ih1]
        clear ih1
        generalize it (mlnB (mtoF N M) Y) (-4, -4) k = s2 at ih2 ⊢
        unfold loB mlnB
        rw [to_bit hP h.1.1 (show k < nN N by omega), ew, ew']
        cases tobB L k with
        | false => exact ⟨rfl, ih2⟩
        | true =>
          rcases ih2 with e | ⟨p, q, hp, hq, e⟩
          · rw [e]
            have h4 : (-4 : Int32) ≤ nI w := Int32.le_iff_toInt_le.mpr (by rw [nI_toInt (by omega)]; have : (-4 : Int32).toInt = -4 := rfl; omega)
            have h5 : ¬ nI w ≤ (-4 : Int32) := fun z => by
              have := Int32.le_iff_toInt_le.mp z
              rw [nI_toInt (by omega)] at this
              have : (-4 : Int32).toInt = -4 := rfl
              omega
            have e3 : ((if nI w ≤ (-4 : Int32) then (-4 : Int32) else nI k, grF (-4) (nI w)) : Int32 × Int32) = (nI k, nI w) := by
              unfold grF
              rw [if_neg h5, if_pos h4]
            exact ⟨e3.symm, Or.inr ⟨k, w, by omega, by omega, e3⟩⟩
          · rw [e]
            have e3 : ((if nI w ≤ nI q then nI p else nI k, grF (nI q) (nI w)) : Int32 × Int32) = if nI w ≤ nI q then ((nI p, nI q) : Int32 × Int32) else (nI k, nI w) := by
              unfold grF
              by_cases z : w ≤ q
              · rw [if_pos (nI_le z (by omega)), if_pos (nI_le z (by omega))]
                by_cases r : q ≤ w
                · rw [if_pos (nI_le r (by omega)), show w = q by omega]
                · rw [if_neg (nI_ge (by omega) (by omega))]
              · rw [if_neg (show ¬ nI w ≤ nI q from nI_ge (by omega) (by omega)), if_neg (show ¬ nI w ≤ nI q from nI_ge (by omega) (by omega)), if_pos (show nI q ≤ nI w from nI_le (by omega) (by omega))]
            refine ⟨?_, ?_⟩
            · show (if nI p = -4 then ((nI k, nI w) : Int32 × Int32) else if nI w ≤ nI q then (nI p, nI q) else (nI k, nI w)) = ((if nI w ≤ nI q then nI p else nI k, grF (nI q) (nI w)) : Int32 × Int32)
              rw [if_neg (nI_n4 (by omega)), e3]
            · refine Or.inr ?_
              show ∃ p' q' : Nat, p' ≤ 8 ∧ q' ≤ 2000 ∧ ((if nI w ≤ nI q then nI p else nI k, grF (nI q) (nI w)) : Int32 × Int32) = (nI p', nI q')
              rw [e3]
              by_cases z : nI w ≤ nI q
              · exact ⟨p, q, hp, hq, if_pos z⟩
              · exact ⟨k, w, by omega, by omega, if_neg z⟩
    exact (hall _ (Nat.le_refl _)).1
  unfold loR mlnR
  rw [hF]
/-! days -/
theorem ad_eq {n m : Nat} (hn : n ≤ 8) {L : LnS} {M : MLn} (h : RR n m L M) {c : Nat} (hc : c < n) (q : Nat) (hq : q < 6) : RR n m (adF L c q) (madF M c (nI q)) := by
  obtain ⟨s, h1, h4, hs⟩ := h.1.2.2.1
  have hs' : mse M = nI s := h.1.1.2.2.2.1.symm.trans hs
  have hst := h.st hc
  rcases (show q = 0 ∨ q = 1 ∨ q = 2 ∨ q = 3 ∨ q = 4 ∨ q = 5 by omega) with rfl | rfl | rfl | rfl | rfl | rfl
  · show RR n m (if lst L c = 1 then hangF L c else L) (if mis M c = 1 then mhgF M c else M)
    rw [← hst]
    by_cases a : lst L c = 1
    · rw [if_pos a, if_pos a]; exact h.hang c (by rw [a]; decide)
    · rw [if_neg a, if_neg a]; exact h
  · show RR n m (if lst L c = 3 ∨ lst L c = 4 then recF L c else L) (if mis M c = 3 then mrcF M c else if mis M c = 4 then mrcF M c else M)
    rw [← hst]
    by_cases a : lst L c = 3
    · rw [if_pos (Or.inl a), if_pos a]; exact h.rec hn hc
    · rw [if_neg a]
      by_cases b : lst L c = 4
      · rw [if_pos (Or.inr b), if_pos b]; exact h.rec hn hc
      · rw [if_neg (fun z => by rcases z with z | z; exact a z; exact b z), if_neg b]; exact h
  · show RR n m (seF L (if lse L + 1 < 4 then lse L + 1 else 4)) (if 4 ≤ mse M then M else mseF M (mse M + 1))
    rw [hs, hs', nI_1]
    rcases (show s = 4 ∨ s < 4 by omega) with e | e
    · subst e
      rw [if_neg (show ¬ nI (4 + 1) < 4 by decide), if_pos (show (4 : Int32) ≤ nI 4 by decide)]
      obtain ⟨⟨⟨a1, a2, a3, a4, a5⟩, a6, a7, a8⟩, ha⟩ := h
      exact ⟨⟨⟨a1, a2, a3, hs'.symm, a5⟩, a6, ⟨4, by omega, by omega, rfl⟩, a8⟩, ha⟩
    · rw [if_neg (show ¬ (4 : Int32) ≤ nI s from nI_ge (b := 4) e (by omega))]
      have e2 : (if nI (s + 1) < 4 then nI (s + 1) else 4) = nI (s + 1) := by
        by_cases r : s + 1 = 4
        · rw [r]; decide
        · rw [if_pos (show nI (s + 1) < 4 from nI_lt (b := 4) (by omega) (by omega))]
      rw [e2]
      exact h.se (by omega) (by omega)
  · show RR n m (seF L (if 1 < lse L - 1 then lse L - 1 else 1)) (if mse M ≤ 1 then M else mseF M (mse M - 1))
    rw [hs, hs']
    rcases (show s = 1 ∨ 1 < s by omega) with e | e
    · subst e
      rw [if_neg (show ¬ (1 : Int32) < nI 1 - 1 by decide), if_pos (show nI 1 ≤ 1 by decide)]
      obtain ⟨⟨⟨a1, a2, a3, a4, a5⟩, a6, a7, a8⟩, ha⟩ := h
      exact ⟨⟨⟨a1, a2, a3, hs'.symm, a5⟩, a6, ⟨1, by omega, by omega, rfl⟩, a8⟩, ha⟩
    · obtain ⟨t, rfl⟩ : ∃ t, s = t + 1 := ⟨s - 1, by omega⟩
      rw [nI_pred, if_neg (show ¬ nI (t + 1) ≤ 1 from nI_ge (a := 1) (by omega) (by omega)), mxN (by omega) (by omega)]
      exact h.se (by omega) (by omega)
  · exact h
  · exact h
theorem dy_eq {P : PlS} {N : MPl} (hP : RP P N) {m : Nat} {L : LnS} {M : MLn} (h : RR (nN N) m L M) (z : Nat) (k : Nat) (hm : m + k < 100000) : RR (nN N) (m + k) (dyF P L z k) (mdyF N M z k) := by
  unfold dyF mdyF
  induction k with
  | zero => exact h
  | succ k ih =>
    have ih := ih (by omega)
    rw [it_succ, it_succ]
    generalize it (dyB P z) L k = A at ih ⊢
    generalize it (mdyB N z) M k = B at ih ⊢
    unfold dyB mdyB
    rw [hP.1]
    exact go_eq hP (show m + k < 100000 by omega) (ad_eq hP.2.2.1 ih (Nat.mod_lt _ (by have := hP.2.1; omega)) _ (Nat.mod_lt _ (by omega)))
theorem wth_eq {P : PlS} {N : MPl} (hP : RP P N) {L : LnS} {M : MLn} (hL : QL (nN N) L M) : wthF P L = mwthF N M := by
  unfold wthF mwthF
  rw [hP.1]
  have hall : ∀ k, k ≤ nN N → it (wthB P L) 0 k = it (mwtB2 N M) 0 k := by
    intro k
    induction k with
    | zero => intro _; exact Eq.trans (b := (0 : Int32)) rfl rfl
    | succ k ih =>
      intro hk
      rw [it_succ, it_succ, ih (by omega)]
      generalize it (mwtB2 N M) 0 k = s
      unfold wthB mwtB2
      rw [(hL.1 k (by omega)).1, hP.wo (show k < nN N by omega)]
      by_cases c : mis M k = 3
      · rw [if_pos c, if_pos c]
      · rw [if_neg c, if_neg c, Int32.add_zero]
  exact hall _ (Nat.le_refl _)
theorem dy_ans {P : PlS} {N : MPl} (hP : RP P N) {m : Nat} (hm : m ≤ 999) {L : LnS} {M : MLn} (h : RR (nN N) m L M) (x y z : Int32) : dyR P L x y z = mdyR N M x y z := by
  unfold dyR mdyR
  refine gate (fun c1 => gate (fun c2 => gate (fun c3 => ?_)))
  obtain ⟨b, -, hb, -, rfl⟩ := inB_nat (a := 1) (b := 60) rfl rfl (by omega) c2
  have g := dy_eq hP h (tn x) (tn (nI b)) (by rw [tn_nI (by omega)]; omega)
  rw [ct_eq hP g.1.1, ct_eq hP g.1.1, wth_eq hP g.1.1]
