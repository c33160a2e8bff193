theorem most_eq {P : PlS} {N : MPl} (hP : RP P N) {L : LnS} {M : MLn} (hL : QL (nN N) L M) {c : Nat} (hc : c < nN N) : (mostF P c (cahF P L c) = -4 ∧ mbeF N M c = 1048576) ∨ ∃ b : Nat, 1 ≤ b ∧ b ≤ 60 ∧ mostF P c (cahF P L c) = nI b ∧ mbeF N M c = nI b := by
  obtain ⟨hki, -, ⟨b, hb1, hb2, e1, e2⟩, -⟩ := hP.2.2.2.2 c hc
  obtain ⟨k, hk, a1, a2⟩ := cah_eq hP hL hc
  have hn := hP.2.2.1
  unfold mostF mbeF
  rw [hki, a1, a2, e1, e2]
  by_cases c1 : nki N c = 1
  · rw [if_pos c1, if_pos c1]
    by_cases q : k ≤ 1
    · exact Or.inl ⟨if_pos (show nI k < 2 from nI_lt (b := 2) (by omega) (by omega)), if_pos (show nI k ≤ 1 from nI_le (b := 1) q (by omega))⟩
    · exact Or.inr ⟨b, hb1, by omega, if_neg (show ¬ nI k < 2 from nI_nlt (b := 2) (by omega) (by omega)), if_neg (show ¬ nI k ≤ 1 from nI_ge (a := 1) (by omega) (by omega))⟩
  · rw [if_neg c1, if_neg c1]
    by_cases c2 : nki N c = 2
    · rw [if_pos c2, if_pos c2]
      exact Or.inr ⟨2 * b, by omega, by omega, nI_mull 2 b 2 rfl, nI_mull 2 b 2 rfl⟩
    · rw [if_neg c2, if_neg c2]
      by_cases c3 : nki N c = 3
      · rw [if_pos c3, if_pos c3]
        unfold grF
        by_cases q : k < b
        · rw [pk_sub (by omega)]
          exact Or.inr ⟨b - k, by omega, by omega, mxN (by omega) (by omega), if_pos (show (1 : Int32) ≤ nI (b - k) from nI_le (a := 1) (by omega) (by omega))⟩
        · have hz : ¬ (1 : Int32) ≤ nI b - nI k := by
            intro h
            have h1 := Int32.le_iff_toInt_le.mp h
            have h2 : (1 : Int32).toInt = 1 := rfl
            rcases Nat.lt_or_ge b k with r | r
            · have h3 := Int32.lt_iff_toInt_lt.mp (pk_sneg (a := b) (b := k) (by omega) r)
              have h4 : (0 : Int32).toInt = 0 := rfl
              omega
            · rw [pk_sub r, nI_toInt (by omega)] at h1
              omega
          have hz2 : ¬ (1 : Int32) < nI b - nI k := fun h => hz (by
            have h1 := Int32.lt_iff_toInt_lt.mp h
            exact Int32.le_iff_toInt_le.mpr (by omega))
          exact Or.inr ⟨1, by omega, by omega, if_neg hz2, if_neg hz⟩
      · rw [if_neg c3, if_neg c3]
        exact Or.inr ⟨b, hb1, by omega, rfl, rfl⟩
/-- one minute more for those who wait -/
def wtW (s f : Nat → Int32) (k c : Nat) : Int32 := if c < k ∧ s c = 1 then f c + 1 else f c
theorem wtW_0 (s f : Nat → Int32) : wtW s f 0 = f := funext (fun c => if_neg (fun h => absurd h.1 (Nat.not_lt_zero c)))
theorem wtW_k (s f : Nat → Int32) (k : Nat) : wtW s f k k = f k := if_neg (fun h => absurd h.1 (Nat.lt_irrefl k))
theorem wtW_s1 {s f : Nat → Int32} {k : Nat} (h : s k = 1) : upd (wtW s f k) k (wtW s f k k + 1) = wtW s f (k + 1) := by
  funext c
  by_cases e : c = k
  · subst e
    rw [pk_us, wtW_k]
    exact (if_pos ⟨Nat.lt_succ_self c, h⟩).symm
  · rw [pk_un e]
    unfold wtW
    by_cases q : s c = 1
    · by_cases r : c < k
      · rw [if_pos (show c < k ∧ s c = 1 from ⟨r, q⟩), if_pos (show c < k + 1 ∧ s c = 1 from ⟨by omega, q⟩)]
      · rw [if_neg (show ¬ (c < k ∧ s c = 1) from fun z => r z.1), if_neg (show ¬ (c < k + 1 ∧ s c = 1) from fun z => r (by omega))]
    · rw [if_neg (show ¬ (c < k ∧ s c = 1) from fun z => q z.2), if_neg (show ¬ (c < k + 1 ∧ s c = 1) from fun z => q z.2)]
theorem wtW_s0 {s f : Nat → Int32} {k : Nat} (h : ¬ s k = 1) : wtW s f k = wtW s f (k + 1) := by
  funext c
  unfold wtW
  by_cases q : s c = 1
  · have e : c ≠ k := fun z => h (z ▸ q)
    by_cases r : c < k
    · rw [if_pos (show c < k ∧ s c = 1 from ⟨r, q⟩), if_pos (show c < k + 1 ∧ s c = 1 from ⟨by omega, q⟩)]
    · rw [if_neg (show ¬ (c < k ∧ s c = 1) from fun z => r z.1), if_neg (show ¬ (c < k + 1 ∧ s c = 1) from fun z => r (by omega))]
  · rw [if_neg (show ¬ (c < k ∧ s c = 1) from fun z => q z.2), if_neg (show ¬ (c < k + 1 ∧ s c = 1) from fun z => q z.2)]
theorem wt_cf (L : LnS) (k : Nat) : it wtB L k = (lst L, wtW (lst L) (lwa L) k, lca L, lti L, lcg L, lco L, lmi L, lse L, lru L) := by
  induction k with
  | zero => exact Prod.ext rfl (Prod.ext (wtW_0 (lst L) (lwa L)).symm rfl)
  | succ k ih =>
    rw [it_succ, ih]
    unfold wtB
    show (if lst L k = 1 then ((lst L, upd (wtW (lst L) (lwa L) k) k (wtW (lst L) (lwa L) k k + 1), lca L, lti L, lcg L, lco L, lmi L, lse L, lru L) : LnS) else (lst L, wtW (lst L) (lwa L) k, lca L, lti L, lcg L, lco L, lmi L, lse L, lru L)) = _
    by_cases c : lst L k = 1
    · rw [if_pos c, wtW_s1 c]
    · rw [if_neg c, wtW_s0 c]
def gsS (s : Nat → Int32) (g : Int32) (k c : Nat) : Int32 := if c < k ∧ bitB g c = true then 4 else s c
theorem gsS_0 (s : Nat → Int32) (g : Int32) : gsS s g 0 = s := funext (fun c => if_neg (fun h => absurd h.1 (Nat.not_lt_zero c)))
theorem gs_cf (g : Int32) (X : LnS) (k : Nat) : it (gsB g) X k = (gsS (lst X) g k, lwa X, lca X, lti X, lcg X, lco X, lmi X, lse X, lru X) := by
  induction k with
  | zero => exact Prod.ext (gsS_0 (lst X) g).symm rfl
  | succ k ih =>
    rw [it_succ, ih]
    unfold gsB
    by_cases c : bitB g k = true
    · rw [if_pos c]
      refine Prod.ext (funext (fun j => ?_)) rfl
      show upd (gsS (lst X) g k) k 4 j = gsS (lst X) g (k + 1) j
      by_cases e : j = k
      · subst e; rw [pk_us]; exact (if_pos ⟨Nat.lt_succ_self j, c⟩).symm
      · rw [pk_un e]
        unfold gsS
        by_cases q : bitB g j = true
        · by_cases r : j < k
          · rw [if_pos (show j < k ∧ bitB g j = true from ⟨r, q⟩), if_pos (show j < k + 1 ∧ bitB g j = true from ⟨by omega, q⟩)]
          · rw [if_neg (show ¬ (j < k ∧ bitB g j = true) from fun z => r z.1), if_neg (show ¬ (j < k + 1 ∧ bitB g j = true) from fun z => r (by omega))]
        · rw [if_neg (show ¬ (j < k ∧ bitB g j = true) from fun z => q z.2), if_neg (show ¬ (j < k + 1 ∧ bitB g j = true) from fun z => q z.2)]
    · rw [if_neg c]
      refine Prod.ext (funext (fun j => ?_)) rfl
      show gsS (lst X) g k j = gsS (lst X) g (k + 1) j
      unfold gsS
      by_cases q : bitB g j = true
      · have e : j ≠ k := fun z => c (z ▸ q)
        by_cases r : j < k
        · rw [if_pos (show j < k ∧ bitB g j = true from ⟨r, q⟩), if_pos (show j < k + 1 ∧ bitB g j = true from ⟨by omega, q⟩)]
        · rw [if_neg (show ¬ (j < k ∧ bitB g j = true) from fun z => r z.1), if_neg (show ¬ (j < k + 1 ∧ bitB g j = true) from fun z => r (by omega))]
      · rw [if_neg (show ¬ (j < k ∧ bitB g j = true) from fun z => q z.2), if_neg (show ¬ (j < k + 1 ∧ bitB g j = true) from fun z => q z.2)]
def mwS (s f b : Nat → Int32) (k c : Nat) : Int32 := if c < k ∧ s c = 1 then (if f c + 1 < b c then 1 else 4) else s c
theorem mwS_0 (s f b : Nat → Int32) : mwS s f b 0 = s := funext (fun c => if_neg (fun h => absurd h.1 (Nat.not_lt_zero c)))
theorem mwt_cf (b : Nat → Int32) (Y : MLn) (k : Nat) : it (mwtB b) Y k = (mwS (mis Y) (mwa Y) b k, wtW (mis Y) (mwa Y) k, mca Y, mta Y, man Y, mor Y, mmi Y, mse Y, mru Y) := by
  induction k with
  | zero => exact Prod.ext (mwS_0 (mis Y) (mwa Y) b).symm (Prod.ext (wtW_0 (mis Y) (mwa Y)).symm rfl)
  | succ k ih =>
    rw [it_succ, ih]
    unfold mwtB
    have hk : mwS (mis Y) (mwa Y) b k k = mis Y k := if_neg (fun h => absurd h.1 (Nat.lt_irrefl k))
    show (if mwS (mis Y) (mwa Y) b k k = 1 then ((upd (mwS (mis Y) (mwa Y) b k) k (if upd (wtW (mis Y) (mwa Y) k) k (wtW (mis Y) (mwa Y) k k + 1) k < b k then 1 else 4), upd (wtW (mis Y) (mwa Y) k) k (wtW (mis Y) (mwa Y) k k + 1), mca Y, mta Y, man Y, mor Y, mmi Y, mse Y, mru Y) : MLn) else (mwS (mis Y) (mwa Y) b k, wtW (mis Y) (mwa Y) k, mca Y, mta Y, man Y, mor Y, mmi Y, mse Y, mru Y)) = _
    rw [hk]
    by_cases c : mis Y k = 1
    · rw [if_pos c, pk_us, wtW_s1 c, wtW_k]
      refine Prod.ext (funext (fun j => ?_)) rfl
      show upd (mwS (mis Y) (mwa Y) b k) k (if mwa Y k + 1 < b k then 1 else 4) j = mwS (mis Y) (mwa Y) b (k + 1) j
      by_cases e : j = k
      · subst e; rw [pk_us]; exact (if_pos ⟨Nat.lt_succ_self j, c⟩).symm
      · rw [pk_un e]
        unfold mwS
        by_cases q : mis Y j = 1
        · by_cases r : j < k
          · rw [if_pos (show j < k ∧ mis Y j = 1 from ⟨r, q⟩), if_pos (show j < k + 1 ∧ mis Y j = 1 from ⟨by omega, q⟩)]
          · rw [if_neg (show ¬ (j < k ∧ mis Y j = 1) from fun z => r z.1), if_neg (show ¬ (j < k + 1 ∧ mis Y j = 1) from fun z => r (by omega))]
        · rw [if_neg (show ¬ (j < k ∧ mis Y j = 1) from fun z => q z.2), if_neg (show ¬ (j < k + 1 ∧ mis Y j = 1) from fun z => q z.2)]
    · rw [if_neg c, wtW_s0 c]
      refine Prod.ext (funext (fun j => ?_)) rfl
      show mwS (mis Y) (mwa Y) b k j = mwS (mis Y) (mwa Y) b (k + 1) j
      unfold mwS
      by_cases q : mis Y j = 1
      · have e : j ≠ k := fun z => c (z ▸ q)
        by_cases r : j < k
        · rw [if_pos (show j < k ∧ mis Y j = 1 from ⟨r, q⟩), if_pos (show j < k + 1 ∧ mis Y j = 1 from ⟨by omega, q⟩)]
        · rw [if_neg (show ¬ (j < k ∧ mis Y j = 1) from fun z => r z.1), if_neg (show ¬ (j < k + 1 ∧ mis Y j = 1) from fun z => r (by omega))]
      · rw [if_neg (show ¬ (j < k ∧ mis Y j = 1) from fun z => q z.2), if_neg (show ¬ (j < k + 1 ∧ mis Y j = 1) from fun z => q z.2)]
/-- who gives up -/
def gvC (P : PlS) (L : LnS) (i : Nat) : Bool := decide (lst L i = 1) && (!decide (mostF P i (cahF P L i) = -4) && !decide (lwa L i < mostF P i (cahF P L i)))
theorem gvB_C (P : PlS) (L : LnS) (g : Int32) (i : Nat) : gvB P L g i = if gvC P L i = true then g ||| ((1 : Int32) <<< (nI i &&& 31)) else g := by
  unfold gvB gvC
  by_cases c1 : lst L i = 1
  · by_cases c2 : mostF P i (cahF P L i) = -4
    · simp [c1, c2]
    · by_cases c3 : lwa L i < mostF P i (cahF P L i)
      · simp [c1, c2, c3]
      · simp [c1, c2, c3]
  · simp [c1]
theorem gv_bits (P : PlS) (L : LnS) (k : Nat) (hk : k ≤ 8) (c : Nat) (hc : c < 8) : bitB (it (gvB P L) 0 k) c = (decide (c < k) && gvC P L c) := by
  induction k with
  | zero =>
    show bitB 0 c = _
    rw [bitB_0 hc, decide_eq_false (Nat.not_lt_zero c)]; rfl
  | succ k ih =>
    have ih := ih (by omega)
    rw [it_succ, gvB_C]
    by_cases q : gvC P L k = true
    · rw [if_pos q, bitB_or _ (by omega) hc, ih]
      by_cases e : c = k
      · subst e; simp [q]
      · have : decide (c < k + 1) = decide (c < k) := by
          by_cases r : c < k
          · rw [decide_eq_true r, decide_eq_true (by omega)]
          · rw [decide_eq_false r, decide_eq_false (by omega)]
        rw [this]; simp [e]
    · rw [if_neg q, ih]
      by_cases e : c = k
      · subst e
        have q' : gvC P L c = false := by cases h : gvC P L c with
          | true => exact absurd h q
          | false => rfl
        simp [q']
      · have : decide (c < k + 1) = decide (c < k) := by
          by_cases r : c < k
          · rw [decide_eq_true r, decide_eq_true (by omega)]
          · rw [decide_eq_false r, decide_eq_false (by omega)]
        rw [this]
theorem wg_eq {P : PlS} {N : MPl} (hP : RP P N) {m : Nat} (hm : m < 100000) {L : LnS} {M : MLn} (h0 : R0 (nN N) m L M) (hz : RZ (nN N) L M) : R0 (nN N) (m + 1) (miF (gvF P (wtF P L))) (mmiF (mwtF N (mbtF N M g0) M)) ∧ RZ (nN N) (miF (gvF P (wtF P L))) (mmiF (mwtF N (mbtF N M g0) M)) := by
  have hn := hP.2.2.1
  unfold gvF wtF mwtF
  rw [wt_cf, gs_cf, mwt_cf, hP.1]
  obtain ⟨⟨h1, h2, h3, h4, h5⟩, h6, h7, h8⟩ := h0
  have hL : QL (nN N) L M := ⟨h1, h2, h3, h4, h5⟩
  refine ⟨⟨⟨fun c hc => ⟨?_, ?_, (h1 c hc).2.2.1, (h1 c hc).2.2.2⟩, h2, ?_, h4, h5⟩, ?_, h7, fun c hc => ?_⟩, hz⟩
  · show gsS (lst L) (gvG P (lst L, wtW (lst L) (lwa L) (nN N), lca L, lti L, lcg L, lco L, lmi L, lse L, lru L)) (nN N) c = mwS (mis M) (mwa M) (mbtF N M g0) (nN N) c
    have hb : bitB (gvG P (lst L, wtW (lst L) (lwa L) (nN N), lca L, lti L, lcg L, lco L, lmi L, lse L, lru L)) c = gvC P (lst L, wtW (lst L) (lwa L) (nN N), lca L, lti L, lcg L, lco L, lmi L, lse L, lru L) c := by
      unfold gvG
      rw [hP.1, gv_bits _ _ _ hn c (by omega), decide_eq_true hc, Bool.true_and]
    have hcah : cahF P (lst L, wtW (lst L) (lwa L) (nN N), lca L, lti L, lcg L, lco L, lmi L, lse L, lru L) c = cahF P L c := rfl
    have hs := (h1 c hc).1
    have hw := (h1 c hc).2.1
    unfold gsS mwS
    rw [hb, mbt_at N M g0 c hc]
    unfold gvC
    rw [hcah]
    show (if c < nN N ∧ (decide (lst L c = 1) && (!decide (mostF P c (cahF P L c) = -4) && !decide (wtW (lst L) (lwa L) (nN N) c < mostF P c (cahF P L c)))) = true then 4 else lst L c) = _
    by_cases c1 : mis M c = 1
    · have c1' : lst L c = 1 := hs.trans c1
      rw [if_pos (show c < nN N ∧ mis M c = 1 from ⟨hc, c1⟩), if_pos c1]
      have hW : wtW (lst L) (lwa L) (nN N) c = mwa M c + 1 := by
        unfold wtW
        rw [if_pos ⟨hc, c1'⟩, hw]
      rw [hW]
      rcases most_eq hP hL hc with ⟨e1, e2⟩ | ⟨b, hb1, hb2, e1, e2⟩
      · obtain ⟨w, hwm, ew⟩ := h8 c hc
        rw [e1, e2, if_pos (show mwa M c + 1 < 1048576 by
          rw [← hw, ew, nI_1]
          exact nI_lt (b := 1048576) (by omega) (by omega))]
        simp [c1']
      · rw [e1, e2]
        have hne : ¬ nI b = -4 := nI_ne4 (by omega)
        by_cases q : mwa M c + 1 < nI b
        · rw [if_pos q]; simp [q, c1']
        · rw [if_neg q, if_pos (show c < nN N ∧ (decide (lst L c = 1) && (!decide (nI b = -4) && !decide (mwa M c + 1 < nI b))) = true from ⟨hc, by simp [q, c1', hne]⟩)]
    · have c1' : ¬ lst L c = 1 := fun z => c1 (hs.symm.trans z)
      rw [if_neg (show ¬ (c < nN N ∧ mis M c = 1) from fun z => c1 z.2), if_neg (fun z => by simp [c1'] at z)]
      exact hs
  · show wtW (lst L) (lwa L) (nN N) c = wtW (mis M) (mwa M) (nN N) c
    unfold wtW
    rw [(h1 c hc).1, (h1 c hc).2.1]
  · show lmi L + 1 = mmi M + 1
    rw [h3]
  · show lmi L + 1 = nI (m + 1)
    rw [h6, nI_1]
  · show ∃ w, w ≤ m + 1 ∧ wtW (lst L) (lwa L) (nN N) c = nI w
    obtain ⟨w, hw, e⟩ := h8 c hc
    unfold wtW
    split
    · exact ⟨w + 1, by omega, by rw [e, nI_1]⟩
    · exact ⟨w, by omega, e⟩
theorem RZ.ra {n : Nat} {L : LnS} {M : MLn} (hn : n ≤ 8) (h : RZ n L M) : RA n L M := fun c hc => by
  have e : bitB (lcg L) c = false := by rw [h.1]; exact bitB_0 (by omega)
  rw [e, h.2 c hc]
  exact ⟨rfl, fun z => absurd z (by decide)⟩
def RR (n m : Nat) (L : LnS) (M : MLn) : Prop := R0 n m L M ∧ RA n L M
/-- A MINUTE GOES BY -/
theorem go_eq {P : PlS} {N : MPl} (hP : RP P N) {m : Nat} (hm : m < 100000) {L : LnS} {M : MLn} (h : RR (nN N) m L M) : RR (nN N) (m + 1) (goF P L) (mgoF N M) := by
  obtain ⟨a0, a1⟩ := awc_eq hP h.1 h.2
  obtain ⟨b0, b1⟩ := awa_eq hP a0 a1
  obtain ⟨c0, c1⟩ := fn_eq hP b0 b1
  obtain ⟨d0, d1⟩ := tkF_eq hP c0 c1
  obtain ⟨e0, e1⟩ := wg_eq hP hm d0 d1
  exact ⟨e0, e1.ra hP.2.2.1⟩
theorem gos_eq {P : PlS} {N : MPl} (hP : RP P N) {m : Nat} {L : LnS} {M : MLn} (h : RR (nN N) m L M) (k : Nat) (hm : m + k < 100000) : RR (nN N) (m + k) (gosF P L k) (mgsF N M k) := by
  induction k with
  | zero => exact h
  | succ k ih =>
    have := go_eq hP (by omega) (ih (by omega))
    exact this
