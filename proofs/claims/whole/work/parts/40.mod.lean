/-! Pure words: how the reference reads numbers, items, the text; what it lays; its chances. -/
def nmV (X : TxS) (a : Nat) : Int32 := if mdgB X (a + 1) = true then 10 * (hrF X a - 48) + hrF X (a + 1) - 48 else hrF X a - 48
def nmE (X : TxS) (a : Nat) : Nat := if mdgB X (a + 1) = true then a + 1 + 1 else a + 1
def nmOk (X : TxS) (a : Nat) (lo hi en : Int32) : Bool := if mdgB X a = true then (if hrF X (nmE X a) = en then inB (nmV X a) lo hi else false) else false
def nmA (X : TxS) (a : Nat) (lo hi en : Int32) : Nat := if mdgB X a = true then (if nmOk X a lo hi en = true then nmE X a + 1 else nmE X a) else a
def nmN (X : TxS) (a : Nat) (n : Int32) : Int32 := if mdgB X a = true then nmV X a else n
theorem nmE_le (X : TxS) (a : Nat) : nmE X a ≤ a + 2 ∧ a + 1 ≤ nmE X a := by unfold nmE; split <;> omega
theorem nmA_le (X : TxS) (a : Nat) (lo hi en : Int32) : nmA X a lo hi en ≤ a + 3 := by
  have := nmE_le X a
  unfold nmA
  split
  · split <;> omega
  · omega
def rc4 (X : TxS) (Z : PlS) (a : Nat) (n : Int32) : Bool × PlS × Nat × Int32 := if nmOk X a 0 60 59 = true then (true, (pki Z, pci Z, ppa Z, upd (pwo Z) (pN Z) (nmN X a n), pN Z + 1, pse Z, pme Z, pru Z), nmA X a 0 60 59, nmN X a n) else (false, Z, nmA X a 0 60 59, nmN X a n)
def rc3 (X : TxS) (Z : PlS) (a : Nat) (n : Int32) : Bool × PlS × Nat × Int32 := if nmOk X a 1 30 44 = true then rc4 X (pki Z, pci Z, upd (ppa Z) (pN Z) (nmN X a n), pwo Z, pN Z, pse Z, pme Z, pru Z) (nmA X a 1 30 44) (nmN X a n) else (false, Z, nmA X a 1 30 44, nmN X a n)
def rc2 (X : TxS) (Z : PlS) (a : Nat) (n : Int32) : Bool × PlS × Nat × Int32 := if nmOk X a 0 40 44 = true then rc3 X (pki Z, upd (pci Z) (pN Z) (nmN X a n), ppa Z, pwo Z, pN Z, pse Z, pme Z, pru Z) (nmA X a 0 40 44) (nmN X a n) else (false, Z, nmA X a 0 40 44, nmN X a n)
def rc1 (X : TxS) (Z : PlS) (a : Nat) (n : Int32) : Bool × PlS × Nat × Int32 := if nI (pN Z) = 8 then (false, Z, a, n) else if nmOk X a 0 3 44 = true then rc2 X (upd (pki Z) (pN Z) (nmN X a n), pci Z, ppa Z, pwo Z, pN Z, pse Z, pme Z, pru Z) (nmA X a 0 3 44) (nmN X a n) else (false, Z, nmA X a 0 3 44, nmN X a n)
def rsF (X : TxS) (Z : PlS) (a : Nat) (n : Int32) : Bool × PlS × Nat × Int32 := if nmOk X a 1 4 44 = true then (if nmOk X (nmA X a 1 4 44) 1 20 59 = true then (true, (pki Z, pci Z, ppa Z, pwo Z, pN Z, nmN X a n, nmN X (nmA X a 1 4 44) (nmN X a n), pru Z), nmA X (nmA X a 1 4 44) 1 20 59, nmN X (nmA X a 1 4 44) (nmN X a n)) else (false, Z, nmA X (nmA X a 1 4 44) 1 20 59, nmN X (nmA X a 1 4 44) (nmN X a n))) else (false, Z, nmA X a 1 4 44, nmN X a n)
def rrF (X : TxS) (Z : PlS) (a : Nat) (n : Int32) : Bool × PlS × Nat × Int32 := (nmOk X a 0 2 59, (pki Z, pci Z, ppa Z, pwo Z, pN Z, pse Z, pme Z, nmN X a n), nmA X a 0 2 59, nmN X a n)
def riR (X : TxS) (Z : PlS) (a : Nat) (n : Int32) : Bool × PlS × Nat × Int32 := if hrF X a = 99 then rc1 X Z (a + 1) n else if hrF X a = 115 then rsF X Z (a + 1) n else if hrF X a = 114 then rrF X Z (a + 1) n else (false, Z, a + 1, n)
def mfl (X : TxS) : Nat → PlS → Nat → Int32 → Int32 × PlS × Nat × Int32
  | 0, Z, a, n => (-4, Z, a, n)
  | k + 1, Z, a, n => if nI (tN X) ≤ nI a then (-4, Z, a, n) else if (riR X Z a n).1 = true then mfl X k (riR X Z a n).2.1 (riR X Z a n).2.2.1 (riR X Z a n).2.2.2 else (nI a, (riR X Z a n).2)
theorem nmA_ok {X : TxS} {a : Nat} {lo hi en : Int32} (h : nmOk X a lo hi en = true) (hen : ¬ en = 0) (ha : a ≤ 500) : a + 2 ≤ nmA X a lo hi en ∧ nmA X a lo hi en ≤ tN X := by
  have hE := nmE_le X a
  have h' := h
  unfold nmOk at h'
  by_cases c1 : mdgB X a = true
  · rw [if_pos c1] at h'
    by_cases c2 : hrF X (nmE X a) = en
    · unfold nmA
      rw [if_pos c1, if_pos h]
      have : nmE X a < tN X := by
        unfold hrF at c2
        by_cases c3 : nI (tN X) ≤ nI (nmE X a)
        · rw [if_pos c3] at c2; exact absurd c2.symm hen
        · exact nI_lt_of c3 (by omega)
      omega
    · rw [if_neg c2] at h'; cases h'
  · rw [if_neg c1] at h'; cases h'
theorem riR_ok {X : TxS} {Z : PlS} {a : Nat} {n : Int32} (hX : tN X ≤ 200) (ha : a ≤ 200) (hZ : pN Z ≤ 8) (h : (riR X Z a n).1 = true) : a + 1 ≤ (riR X Z a n).2.2.1 ∧ (riR X Z a n).2.2.1 ≤ tN X ∧ pN (riR X Z a n).2.1 ≤ 8 := by
  unfold riR at h ⊢
  by_cases c1 : hrF X a = 99
  · rw [if_pos c1] at h ⊢
    unfold rc1 at h ⊢
    by_cases c2 : nI (pN Z) = 8
    · rw [if_pos c2] at h; cases h
    · have h8 : pN Z < 8 := by
        have : ¬ pN Z = 8 := fun e => c2 (by rw [e]; rfl)
        omega
      rw [if_neg c2] at h ⊢
      by_cases c3 : nmOk X (a + 1) 0 3 44 = true
      · rw [if_pos c3] at h ⊢
        have b3 := nmA_ok c3 (by decide) (by omega)
        generalize nmA X (a + 1) 0 3 44 = a3 at h b3 ⊢
        unfold rc2 at h ⊢
        by_cases c4 : nmOk X a3 0 40 44 = true
        · rw [if_pos c4] at h ⊢
          have b4 := nmA_ok c4 (by decide) (by omega)
          generalize nmA X a3 0 40 44 = a4 at h b4 ⊢
          unfold rc3 at h ⊢
          by_cases c5 : nmOk X a4 1 30 44 = true
          · rw [if_pos c5] at h ⊢
            have b5 := nmA_ok c5 (by decide) (by omega)
            generalize nmA X a4 1 30 44 = a5 at h b5 ⊢
            unfold rc4 at h ⊢
            by_cases c6 : nmOk X a5 0 60 59 = true
            · rw [if_pos c6]
              have b6 := nmA_ok c6 (by decide) (by omega)
              exact ⟨by show a + 1 ≤ nmA X a5 0 60 59; omega, b6.2, by show pN Z + 1 ≤ 8; omega⟩
            · rw [if_neg c6] at h; cases h
          · rw [if_neg c5] at h; cases h
        · rw [if_neg c4] at h; cases h
      · rw [if_neg c3] at h; cases h
  · rw [if_neg c1] at h ⊢
    by_cases c2 : hrF X a = 115
    · rw [if_pos c2] at h ⊢
      unfold rsF at h ⊢
      by_cases c3 : nmOk X (a + 1) 1 4 44 = true
      · rw [if_pos c3] at h ⊢
        have b3 := nmA_ok c3 (by decide) (by omega)
        by_cases c4 : nmOk X (nmA X (a + 1) 1 4 44) 1 20 59 = true
        · rw [if_pos c4]
          have b4 := nmA_ok c4 (by decide) (by omega)
          exact ⟨by show a + 1 ≤ nmA X (nmA X (a + 1) 1 4 44) 1 20 59; omega, b4.2, hZ⟩
        · rw [if_neg c4] at h; cases h
      · rw [if_neg c3] at h; cases h
    · rw [if_neg c2] at h ⊢
      by_cases c3 : hrF X a = 114
      · rw [if_pos c3] at h ⊢
        have h : nmOk X (a + 1) 0 2 59 = true := h
        have b4 := nmA_ok h (by decide) (by omega)
        exact ⟨by show a + 1 ≤ nmA X (a + 1) 0 2 59; omega, b4.2, hZ⟩
      · rw [if_neg c3] at h; cases h
def cpF (g f : Nat → Int32) (n : Nat) : Nat → Int32 := it (fun h i => upd h i (g i)) f n
def mlyOk (X : TxS) (Z : PlS) (n : Int32) : Bool := if (mfl X 201 (clrF Z) 0 n).1 = -4 then (if nI (pN (mfl X 201 (clrF Z) 0 n).2.1) = 0 then false else true) else false
def mlyN (Z : PlS) (N : MPl) (k : Nat) : MPl := (cpF (pki Z) (nki N) k, cpF (pci Z) (nca N) k, cpF (ppa Z) (nbe N) k, cpF (pwo Z) (nwo N) k, pN Z, pme Z)
def mlyM (Z : PlS) (M : MLn) (k : Nat) : MLn := (cpF g0 (mis M) k, cpF g0 (mwa M) k, cpF g0 (mca M) k, cpF g0 (mta M) k, cpF g0 (man M) k, 0, 0, pse Z, pru Z)
/-! chances -/
def tl (x : Int64) : Nat := x.toNatClampNeg
theorem tl_lN {a : Nat} (h : a < 2 ^ 63) : tl (lN a) = a := by
  have h2 := pk_lT h
  show (lN a).toInt.toNat = a
  rw [h2]; rfl
theorem mwbB_N {M : MLn} {c : Nat} : ∀ n, n ≤ 8 → ∃ v, v < 2 ^ n ∧ it (mwbB M c) 0 n = nI v := by
  intro n
  induction n with
  | zero => intro _; exact ⟨0, by decide, rfl⟩
  | succ n ih =>
    intro hn
    obtain ⟨v, hv, e⟩ := ih (by omega)
    have hp : 2 ^ (n + 1) = 2 ^ n + 2 ^ n := by rw [Nat.pow_succ]; omega
    have h128 : 2 ^ n ≤ 128 := by
      have : ∀ i : Fin 8, 2 ^ i.val ≤ 128 := by decide
      exact this ⟨n, by omega⟩
    rw [it_succ, e]
    unfold mwbB
    by_cases c1 : nI n = nI c
    · rw [if_pos c1]; exact ⟨v, by omega, Int32.or_zero⟩
    · rw [if_neg c1]
      by_cases c2 : mis M n = 1
      · rw [if_pos c2]; exact ⟨v + 2 ^ n, by omega, or_bit ⟨n, by omega⟩ ⟨v, by omega⟩ hv⟩
      · rw [if_neg c2]; exact ⟨v, by omega, Int32.or_zero⟩
theorem mwbF_N {N : MPl} (M : MLn) (c : Nat) (hN : nN N ≤ 8) : ∃ v, v < 256 ∧ mwbF N M c = nI v := by
  obtain ⟨v, hv, e⟩ := mwbB_N (M := M) (c := c) (nN N) hN
  have := pow_le8 ⟨nN N, by omega⟩
  exact ⟨v, by dsimp only at this; omega, e⟩
def mlwB (o : Int32) (s : Int64) (k : Nat) : Int64 := s * (if bitB o k = true then 10 else 1)
def mltB (o x g : Int32) (s : Int64) (k : Nat) : Int64 := s * (if bitB o k = true then (if bitB g k = true then x.toInt64 else (10 - x).toInt64) else 1)
def mhgB (g : Int32) (Z : MLn) (k : Nat) : MLn := (upd (mis Z) k (if bitB g k = true then 4 else mis Z k), mwa Z, mca Z, mta Z, man Z, mor Z, mmi Z, mse Z, mru Z)
def mlkT (N : MPl) (M : MLn) (c : Nat) (x o g : Int32) : Int64 := if mtfF N c 60 0 (it (mhgB g) M (nN N)) = -4 then 0 else it (mltB o x g) 1 (nN N)
def mlkB (N : MPl) (M : MLn) (c : Nat) (x o : Int32) (s : Int64) (i : Nat) : Int64 := if nI i &&& (o ^^^ -1) = 0 then s + mlkT N M c x o (nI i) else s
def mlkW (N : MPl) (M : MLn) (c : Nat) : Int64 := it (mlwB (mwbF N M c)) 1 (nN N)
def mlkF (N : MPl) (M : MLn) (c : Nat) (x : Int32) : Int64 := it (mlkB N M c x (mwbF N M c)) 0 (tn (mwbF N M c) + 1)
def mlkC (N : MPl) (M : MLn) (c : Nat) (x : Int32) : Int64 := lN (Nat.gcd (tl (mlkF N M c x)) (tl (mlkW N M c)))
def mlkR (N : MPl) (M : MLn) (x y z : Int32) : Int32 := if isM N x = true then (if inB y 0 10 = true then (if inB z 0 1 = true then (if z = 0 then mlkF N M (tn x) y / mlkC N M (tn x) y else mlkW N M (tn x) / mlkC N M (tn x) y).toInt32 else -1) else -1) else -1
theorem lN1 : (1 : Int64) = lN 1 := rfl
theorem lN10 : (10 : Int64) = lN 10 := rfl
theorem ml_bound {t : Nat} (h : t ≤ 10) : ∀ n, n ≤ 8 → ∀ s, s ≤ 10 ^ n → s * t ≤ 10 ^ (n + 1) := by
  intro n _ s hs
  rw [Nat.pow_succ]
  exact Nat.mul_le_mul hs h
theorem mlw_N (o : Int32) : ∀ n, ∃ v, 1 ≤ v ∧ v ≤ 10 ^ n ∧ it (mlwB o) 1 n = lN v := by
  intro n
  induction n with
  | zero => exact ⟨1, by decide, by decide, rfl⟩
  | succ n ih =>
    obtain ⟨v, h1, h2, e⟩ := ih
    rw [it_succ, e]; unfold mlwB
    cases bitB o n with
    | true => exact ⟨v * 10, by omega, by rw [Nat.pow_succ]; exact Nat.mul_le_mul h2 (Nat.le_refl _), by rw [if_pos rfl, lN10, lN_mul]⟩
    | false => exact ⟨v * 1, by omega, by rw [Nat.pow_succ]; exact Nat.mul_le_mul h2 (by decide), by rw [if_neg (show ¬ false = true by decide), lN1, lN_mul]⟩
theorem mlt_N (o g : Int32) {x : Nat} (hx : x ≤ 10) : ∀ n, ∃ v, v ≤ 10 ^ n ∧ it (mltB o (nI x) g) 1 n = lN v := by
  have e2 : (10 : Int32) - nI x = nI (10 - x) := pk_sub (a := 10) hx
  intro n
  induction n with
  | zero => exact ⟨1, by decide, rfl⟩
  | succ n ih =>
    obtain ⟨v, h2, e⟩ := ih
    rw [it_succ, e]; unfold mltB
    rw [e2, nI_l (by omega), nI_l (by omega)]
    cases bitB o n with
    | true =>
      cases bitB g n with
      | true => exact ⟨v * x, by rw [Nat.pow_succ]; exact Nat.mul_le_mul h2 hx, by rw [if_pos rfl, if_pos rfl, lN_mul]⟩
      | false => exact ⟨v * (10 - x), by rw [Nat.pow_succ]; exact Nat.mul_le_mul h2 (by omega), by rw [if_pos rfl, if_neg (show ¬ false = true by decide), lN_mul]⟩
    | false => exact ⟨v * 1, by rw [Nat.pow_succ]; exact Nat.mul_le_mul h2 (by decide), by rw [if_neg (show ¬ false = true by decide), lN1, lN_mul]⟩
theorem ten8 {n : Nat} (h : n ≤ 8) : 10 ^ n ≤ 100000000 := by
  have : ∀ i : Fin 9, 10 ^ i.val ≤ 100000000 := by decide
  exact this ⟨n, by omega⟩
theorem mlk_N {N : MPl} (hN : nN N ≤ 8) (M : MLn) (c : Nat) (o : Int32) {x : Nat} (hx : x ≤ 10) : ∀ n, ∃ v, v ≤ 100000000 * n ∧ it (mlkB N M c (nI x) o) 0 n = lN v := by
  intro n
  induction n with
  | zero => exact ⟨0, by decide, rfl⟩
  | succ n ih =>
    obtain ⟨v, h2, e⟩ := ih
    rw [it_succ, e]; unfold mlkB mlkT
    split
    · split
      · exact ⟨v, by omega, by rw [show (0 : Int64) = lN 0 from rfl, lN_add]; rfl⟩
      · obtain ⟨w, hw, ew⟩ := mlt_N o (nI n) hx (nN N)
        have := ten8 hN
        exact ⟨v + w, by omega, by rw [ew, lN_add]⟩
    · exact ⟨v, by omega, rfl⟩
theorem mlkF_N {N : MPl} (hN : nN N ≤ 8) (M : MLn) (c : Nat) {x : Nat} (hx : x ≤ 10) : ∃ v, v < 2 ^ 40 ∧ mlkF N M c (nI x) = lN v := by
  obtain ⟨w, hw, ew⟩ := mwbF_N M c hN
  unfold mlkF
  obtain ⟨v, hv, e⟩ := mlk_N hN M c (mwbF N M c) hx (tn (mwbF N M c) + 1)
  refine ⟨v, ?_, e⟩
  rw [ew, tn_nI (by omega)] at hv
  have : 100000000 * (w + 1) ≤ 100000000 * 256 := Nat.mul_le_mul_left _ (by omega)
  omega
theorem mlkW_N {N : MPl} (hN : nN N ≤ 8) (M : MLn) (c : Nat) : ∃ v, 1 ≤ v ∧ v < 2 ^ 40 ∧ mlkW N M c = lN v := by
  obtain ⟨v, h1, h2, e⟩ := mlw_N (mwbF N M c) (nN N)
  have := ten8 hN
  exact ⟨v, h1, by omega, e⟩
theorem lN_ne0 {a : Nat} (h : 0 < a) (h2 : a < 2 ^ 63) : ¬ lN a = 0 := fun e => by
  have := (pk_lEQ h2 (b := 0) (by decide)).mp e
  omega
theorem mfl_e (X : TxS) (k : Nat) (Z : PlS) (a : Nat) (n : Int32) (h : nI (tN X) ≤ nI a) : mfl X (k + 1) Z a n = (-4, Z, a, n) := if_pos h
theorem mfl_s (X : TxS) (k : Nat) (Z : PlS) (a : Nat) (n : Int32) (h : ¬ nI (tN X) ≤ nI a) (h2 : (riR X Z a n).1 = true) : mfl X (k + 1) Z a n = mfl X k (riR X Z a n).2.1 (riR X Z a n).2.2.1 (riR X Z a n).2.2.2 := by
  show (if nI (tN X) ≤ nI a then _ else _) = _
  rw [if_neg h, if_pos h2]
theorem mfl_f (X : TxS) (k : Nat) (Z : PlS) (a : Nat) (n : Int32) (h : ¬ nI (tN X) ≤ nI a) (h2 : (riR X Z a n).1 = false) : mfl X (k + 1) Z a n = (nI a, (riR X Z a n).2) := by
  show (if nI (tN X) ≤ nI a then _ else _) = _
  rw [if_neg h, if_neg (by rw [h2]; decide)]
theorem rc_8 {X : TxS} {Z : PlS} {a : Nat} {n : Int32} (hZ : pN Z ≤ 8) : pN (riR X Z a n).2.1 ≤ 8 := by
  unfold riR rc1 rc2 rc3 rc4 rsF rrF
  split
  · split
    · exact hZ
    · rename_i c
      have h8 : pN Z < 8 := by
        have : ¬ pN Z = 8 := fun e => c (by rw [e]; rfl)
        omega
      split
      · split
        · split
          · split
            · show pN Z + 1 ≤ 8
              omega
            · exact hZ
          · exact hZ
        · exact hZ
      · exact hZ
  · split
    · split
      · split
        · exact hZ
        · exact hZ
      · exact hZ
    · split
      · exact hZ
      · exact hZ
theorem mfl_8 {X : TxS} (hX : tN X ≤ 200) : ∀ (k : Nat) (Z : PlS) (a : Nat) (n : Int32), a ≤ tN X → pN Z ≤ 8 → pN (mfl X k Z a n).2.1 ≤ 8 := by
  intro k
  induction k with
  | zero => intro Z a n _ hZ; exact hZ
  | succ k ih =>
    intro Z a n ha hZ
    by_cases c : nI (tN X) ≤ nI a
    · rw [mfl_e _ _ _ _ _ c]; exact hZ
    · cases h : (riR X Z a n).1 with
      | true =>
        rw [mfl_s _ _ _ _ _ c h]
        have := riR_ok hX (by omega) hZ h
        exact ih _ _ _ this.2.1 this.2.2
      | false => rw [mfl_f _ _ _ _ _ c h]; exact rc_8 hZ
