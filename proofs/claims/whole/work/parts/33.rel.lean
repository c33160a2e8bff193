/-! Bits of an int (after the kit's rows on bits). -/
def bq (x : Int32) (i : Nat) : Bool := x.toBitVec.getLsbD i
theorem bq_or (x y : Int32) (i : Nat) : bq (x ||| y) i = (bq x i || bq y i) := by unfold bq; rw [Int32.toBitVec_or, BitVec.getLsbD_or]
theorem bq_sl : ∀ n, n < 32 → ((nI n &&& 31).toBitVec.smod 32).toNat = n := by decide +kernel
theorem bq_sh : ∀ k, k < 8 → ∀ i, i < 8 → bq ((1 : Int32) <<< (nI k &&& 31)) i = decide (i = k) := by decide +kernel
theorem bq_sshr (n : Nat) (hn : n < 32) (x : Int32) : bq (x >>> (nI n &&& 31)) 0 = bq x n := by
  unfold bq
  rw [Int32.toBitVec_shiftRight]
  show (x.toBitVec.sshiftRight ((nI n &&& 31).toBitVec.smod 32).toNat).getLsbD 0 = _
  rw [bq_sl n hn, BitVec.getLsbD_sshiftRight]
  simp [hn]
theorem bq_and1 (z : Int32) : decide (z &&& 1 = 1) = bq z 0 := by
  have h1 : z &&& 1 = nI (z.toBitVec.toNat % 2) := pk_and z 1 rfl
  have h2 : bq z 0 = decide (z.toBitVec.toNat % 2 = 1) := Nat.testBit_zero _
  rw [h1, h2]
  rcases Nat.mod_two_eq_zero_or_one z.toBitVec.toNat with h | h <;> rw [h] <;> decide
theorem bitB_q (g : Int32) {c : Nat} (hc : c < 32) : bitB g c = bq g c := by
  unfold bitB
  rw [bq_and1, bq_sshr c hc]
theorem bitB_or (g : Int32) {i c : Nat} (hi : i < 8) (hc : c < 8) : bitB (g ||| ((1 : Int32) <<< (nI i &&& 31))) c = (bitB g c || decide (c = i)) := by
  rw [bitB_q _ (by omega), bitB_q _ (by omega), bq_or, bq_sh i hi c hc]
theorem bitB_0 {c : Nat} (hc : c < 8) : bitB 0 c = false := by
  rw [bitB_q _ (by omega)]; exact BitVec.getLsbD_zero
/-! The relation of the class's line to the reference's, and of the plans. -/
def RP (P : PlS) (N : MPl) : Prop := pN P = nN N ∧ 1 ≤ nN N ∧ nN N ≤ 8 ∧ pme P = nea N ∧ ∀ c, c < nN N → pki P c = nki N c ∧ pci P c = nca N c ∧ (∃ b : Nat, 1 ≤ b ∧ b ≤ 30 ∧ ppa P c = nI b ∧ nbe N c = nI b) ∧ (∃ w : Nat, w ≤ 60 ∧ pwo P c = nI w ∧ nwo N c = nI w)
theorem RP.wo {P : PlS} {N : MPl} (h : RP P N) {c : Nat} (hc : c < nN N) : pwo P c = nwo N c := by
  obtain ⟨w, -, h1, h2⟩ := (h.2.2.2.2 c hc).2.2.2
  rw [h1, h2]
def QL (n : Nat) (L : LnS) (M : MLn) : Prop := (∀ c, c < n → lst L c = mis M c ∧ lwa L c = mwa M c ∧ lca L c = mca M c ∧ lti L c = mta M c) ∧ lco L = mor M ∧ lmi L = mmi M ∧ lse L = mse M ∧ lru L = mru M
def RA (n : Nat) (L : LnS) (M : MLn) : Prop := ∀ c, c < n → man M c = b2i (bitB (lcg L) c) ∧ (bitB (lcg L) c = true → lst L c = 0)
def IV (n m : Nat) (L : LnS) : Prop := lmi L = nI m ∧ (∃ s : Nat, 1 ≤ s ∧ s ≤ 4 ∧ lse L = nI s) ∧ ∀ c, c < n → ∃ w : Nat, w ≤ m ∧ lwa L c = nI w
def R0 (n m : Nat) (L : LnS) (M : MLn) : Prop := QL n L M ∧ IV n m L
theorem R0.adm_ {n m : Nat} {L : LnS} {M : MLn} (h : R0 n m L M) (i : Nat) : R0 n m (admitF L i) (mcoF M i) := by
  obtain ⟨⟨h1, h2, h3, h4, h5⟩, h6, h7, h8⟩ := h
  refine ⟨⟨fun c hc => ?_, ?_, h3, h4, h5⟩, h6, h7, fun c hc => ?_⟩
  · show upd (lst L) i 1 c = upd (mis M) i 1 c ∧ upd (lwa L) i 0 c = upd (mwa M) i 0 c ∧ upd (lca L) i (lco L) c = upd (mca M) i (mor M) c ∧ lti L c = mta M c
    have H := h1 c hc
    by_cases e : c = i
    · subst e; exact ⟨pk_us.trans pk_us.symm, pk_us.trans pk_us.symm, pk_us.trans (h2.trans pk_us.symm), H.2.2.2⟩
    · exact ⟨(pk_un e).trans (H.1.trans (pk_un e).symm), (pk_un e).trans (H.2.1.trans (pk_un e).symm), (pk_un e).trans (H.2.2.1.trans (pk_un e).symm), H.2.2.2⟩
  · show lco L + 1 = mor M + 1
    rw [h2]
  · show ∃ w, w ≤ m ∧ upd (lwa L) i 0 c = nI w
    by_cases e : c = i
    · subst e; exact ⟨0, Nat.zero_le _, pk_us.trans nI_0.symm⟩
    · rw [pk_un e]; exact h8 c hc
/-- who calls for the first time -/
theorem awc_eq {P : PlS} {N : MPl} (hP : RP P N) {m : Nat} {L : LnS} {M : MLn} (h0 : R0 (nN N) m L M) (ha : RA (nN N) L M) : R0 (nN N) m (awcF P L) (mc0F N (nI 0) M) ∧ RA (nN N) (awcF P L) (mc0F N (nI 0) M) := by
  have hall : ∀ k, k ≤ nN N → R0 (nN N) m (it (awcB P) L k) (it (mc0B N (nI 0)) M k) ∧ RA (nN N) (it (awcB P) L k) (it (mc0B N (nI 0)) M k) := by
    intro k
    induction k with
    | zero => intro _; exact ⟨h0, ha⟩
    | succ k ih =>
      intro hk
      obtain ⟨r0, ra⟩ := ih (by omega)
      rw [it_succ, it_succ]
      generalize it (awcB P) L k = X at r0 ra ⊢
      generalize it (mc0B N (nI 0)) M k = Y at r0 ra ⊢
      have hs := (r0.1.1 k (by omega)).1
      have hpk := hP.2.2.2.2 k (by omega)
      obtain ⟨hb1, hb2⟩ := ra k (by omega)
      unfold awcB mc0B
      rw [← hs]
      by_cases c1 : lst X k = 0
      · rw [if_pos c1, if_pos c1]
        cases hb : bitB (lcg X) k with
        | true =>
          rw [if_pos (show true = true from rfl), if_neg (show ¬ man Y k = nI 0 by rw [hb1, hb]; decide)]
          exact ⟨r0, ra⟩
        | false =>
          rw [if_neg (show ¬ false = true by decide), if_pos (show man Y k = nI 0 by rw [hb1, hb]; exact b2i_f.trans nI_0.symm), if_neg (show ¬ nI 0 = (1 : Int32) by decide), hpk.2.1, r0.1.2.2.1]
          by_cases c2 : nca N k = mmi Y
          · rw [if_pos c2, if_pos c2]
            refine ⟨r0.adm_ k, fun c hc => ?_⟩
            show upd (man Y) k 0 c = b2i (bitB (lcg X) c) ∧ (bitB (lcg X) c = true → upd (lst X) k 1 c = 0)
            by_cases e : c = k
            · subst e; rw [hb]; exact ⟨pk_us, fun q => absurd q (by decide)⟩
            · rw [pk_un e, pk_un e]; exact ra c hc
          · rw [if_neg c2, if_neg c2]; exact ⟨r0, ra⟩
      · rw [if_neg c1, if_neg c1]; exact ⟨r0, ra⟩
  have := hall (nN N) (Nat.le_refl _)
  unfold awcF mc0F
  rw [hP.1]; exact this
/-- no one calls again any more -/
def RZ (n : Nat) (L : LnS) (M : MLn) : Prop := lcg L = 0 ∧ ∀ c, c < n → man M c = 0
theorem awa_eq {P : PlS} {N : MPl} (hP : RP P N) {m : Nat} {L : LnS} {M : MLn} (h0 : R0 (nN N) m L M) (ha : RA (nN N) L M) : R0 (nN N) m (awaF P L) (mc0F N (nI 1) M) ∧ RZ (nN N) (awaF P L) (mc0F N (nI 1) M) := by
  have hall : ∀ k, k ≤ nN N → R0 (nN N) m (it awaB L k) (it (mc0B N (nI 1)) M k) ∧ lcg (it awaB L k) = lcg L ∧ (∀ c, c < nN N → (c < k → man (it (mc0B N (nI 1)) M k) c = 0) ∧ (k ≤ c → man (it (mc0B N (nI 1)) M k) c = b2i (bitB (lcg L) c) ∧ (bitB (lcg L) c = true → lst (it awaB L k) c = 0))) := by
    intro k
    induction k with
    | zero => intro _; exact ⟨h0, rfl, fun c hc => ⟨fun h => absurd h (Nat.not_lt_zero c), fun _ => ha c hc⟩⟩
    | succ k ih =>
      intro hk
      obtain ⟨r0, rg, ra⟩ := ih (by omega)
      rw [it_succ, it_succ]
      generalize it awaB L k = X at r0 rg ra ⊢
      generalize it (mc0B N (nI 1)) M k = Y at r0 rg ra ⊢
      have hs := (r0.1.1 k (by omega)).1
      obtain ⟨hb1, hb2⟩ := (ra k (by omega)).2 (Nat.le_refl k)
      unfold awaB mc0B
      rw [← hs, rg]
      by_cases c1 : lst X k = 0
      · rw [if_pos c1, if_pos c1]
        cases hb : bitB (lcg L) k with
        | true =>
          rw [if_pos (show true = true from rfl), if_pos (show man Y k = nI 1 by rw [hb1, hb]; decide), if_pos (show nI 1 = (1 : Int32) by decide)]
          refine ⟨r0.adm_ k, rg, fun c hc => ⟨fun h => ?_, fun h => ?_⟩⟩
          · show upd (man Y) k 0 c = 0
            by_cases e : c = k
            · subst e; exact pk_us
            · rw [pk_un e]; exact (ra c hc).1 (by omega)
          · show upd (man Y) k 0 c = b2i (bitB (lcg L) c) ∧ (bitB (lcg L) c = true → upd (lst X) k 1 c = 0)
            have e : c ≠ k := by omega
            rw [pk_un e, pk_un e]; exact (ra c hc).2 (by omega)
        | false =>
          rw [if_neg (show ¬ false = true by decide), if_neg (show ¬ man Y k = nI 1 by rw [hb1, hb]; decide)]
          refine ⟨r0, rg, fun c hc => ⟨fun h => ?_, fun h => (ra c hc).2 (by omega)⟩⟩
          by_cases e : c = k
          · subst e; rw [hb1, hb]; rfl
          · exact (ra c hc).1 (by omega)
      · rw [if_neg c1, if_neg c1]
        refine ⟨r0, rg, fun c hc => ⟨fun h => ?_, fun h => (ra c hc).2 (by omega)⟩⟩
        by_cases e : c = k
        · subst e
          cases hb : bitB (lcg L) c with
          | true => exact absurd (hb2 hb) c1
          | false => rw [hb1, hb]; rfl
        · exact (ra c hc).1 (by omega)
  obtain ⟨r0, -, ra⟩ := hall (nN N) (Nat.le_refl _)
  unfold awaF mc0F
  rw [hP.1]
  exact ⟨r0, rfl, fun c hc => (ra c hc).1 hc⟩
theorem fn_eq {P : PlS} {N : MPl} (hP : RP P N) {m : Nat} {L : LnS} {M : MLn} (h0 : R0 (nN N) m L M) (ha : RZ (nN N) L M) : R0 (nN N) m (fnF P L) (mfnF N M) ∧ RZ (nN N) (fnF P L) (mfnF N M) := by
  have hall : ∀ k, k ≤ nN N → R0 (nN N) m (it (fnB P) L k) (it (mfnB N) M k) ∧ RZ (nN N) (it (fnB P) L k) (it (mfnB N) M k) := by
    intro k
    induction k with
    | zero => intro _; exact ⟨h0, ha⟩
    | succ k ih =>
      intro hk
      obtain ⟨r0, ra⟩ := ih (by omega)
      rw [it_succ, it_succ]
      generalize it (fnB P) L k = X at r0 ra ⊢
      generalize it (mfnB N) M k = Y at r0 ra ⊢
      have hs := r0.1.1 k (by omega)
      have key : ∀ v : Int32, (v = lst X k → R0 (nN N) m X (upd (mis Y) k v, mwa Y, mca Y, mta Y, man Y, mor Y, mmi Y, mse Y, mru Y)) ∧ R0 (nN N) m (upd (lst X) k v, lwa X, lca X, lti X, lcg X, lco X, lmi X, lse X, lru X) (upd (mis Y) k v, mwa Y, mca Y, mta Y, man Y, mor Y, mmi Y, mse Y, mru Y) := by
        intro v
        obtain ⟨⟨h1, h2, h3, h4, h5⟩, h6⟩ := r0
        refine ⟨fun hv => ⟨⟨fun c hc => ?_, h2, h3, h4, h5⟩, h6⟩, ⟨fun c hc => ?_, h2, h3, h4, h5⟩, h6⟩
        · show lst X c = upd (mis Y) k v c ∧ lwa X c = mwa Y c ∧ lca X c = mca Y c ∧ lti X c = mta Y c
          by_cases e : c = k
          · subst e; exact ⟨hv.symm.trans pk_us.symm, (h1 c hc).2⟩
          · exact ⟨(h1 c hc).1.trans (pk_un e).symm, (h1 c hc).2⟩
        · show upd (lst X) k v c = upd (mis Y) k v c ∧ lwa X c = mwa Y c ∧ lca X c = mca Y c ∧ lti X c = mta Y c
          by_cases e : c = k
          · subst e; exact ⟨pk_us.trans pk_us.symm, (h1 c hc).2⟩
          · exact ⟨(pk_un e).trans ((h1 c hc).1.trans (pk_un e).symm), (h1 c hc).2⟩
      unfold fnB mfnB
      rw [← hs.1]
      have hc : (mmi Y - mta Y k < nea N) = (lmi X - lti X k < pme P) := by rw [hs.2.2.2, r0.1.2.2.1, hP.2.2.2.1]
      by_cases c1 : lst X k = 2
      · rw [if_pos c1, if_pos c1]
        by_cases c2 : lmi X - lti X k < pme P
        · rw [if_pos c2, if_pos (show mmi Y - mta Y k < nea N by rw [hc]; exact c2)]; exact ⟨(key _).1 rfl, ra⟩
        · rw [if_neg c2, if_neg (show ¬ mmi Y - mta Y k < nea N by rw [hc]; exact c2)]; exact ⟨(key _).2, ra⟩
      · rw [if_neg c1, if_neg c1]; exact ⟨(key _).1 rfl, ra⟩
  have := hall (nN N) (Nat.le_refl _)
  unfold fnF mfnF
  rw [hP.1]; exact this
