/-! Bits of small numbers, by the kernel. -/
theorem or_bit : ∀ (i : Fin 8) (v : Fin 128), v.val < 2 ^ i.val → nI v.val ||| ((1 : Int32) <<< (nI i.val &&& 31)) = nI (v.val + 2 ^ i.val) := by decide +kernel
theorem sh_bit : ∀ i : Fin 9, (1 : Int32) <<< (nI i.val &&& 31) = nI (2 ^ i.val) := by decide +kernel
theorem pow_le8 : ∀ i : Fin 9, 2 ^ i.val ≤ 256 := by decide
theorem owB_N {L : LnS} {c : Nat} : ∀ n, n ≤ 8 → ∃ v, v < 2 ^ n ∧ it (owB L c) 0 n = nI v := by
  intro n
  induction n with
  | zero => intro _; exact ⟨0, by decide, rfl⟩
  | succ n ih =>
    intro hn
    obtain ⟨v, hv, e⟩ := ih (by omega)
    have hp : 2 ^ (n + 1) = 2 ^ n + 2 ^ n := by rw [Nat.pow_succ]; omega
    have h128 : 2 ^ n ≤ 128 := by
      have : ∀ i : Fin 8, 2 ^ i.val ≤ 128 := by decide
      exact this ⟨n, by omega⟩
    rw [it_succ, e]
    unfold owB
    by_cases c1 : nI n = nI c
    · rw [if_pos c1]; exact ⟨v, by omega, rfl⟩
    · rw [if_neg c1]
      by_cases c2 : lst L n = 1
      · rw [if_pos c2]; exact ⟨v + 2 ^ n, by omega, or_bit ⟨n, by omega⟩ ⟨v, by omega⟩ hv⟩
      · rw [if_neg c2]; exact ⟨v, by omega, rfl⟩
theorem owF_N {P : PlS} (L : LnS) (c : Nat) (hN : pN P ≤ 8) : ∃ v, v < 256 ∧ owF P L c = nI v := by
  obtain ⟨v, hv, e⟩ := owB_N (L := L) (c := c) (pN P) hN
  have := pow_le8 ⟨pN P, by omega⟩
  exact ⟨v, by dsimp only at this; omega, e⟩
theorem mx1_ne (x : Int32) : ¬ (if 1 < x then x else 1) = 0 := by
  by_cases c : 1 < x
  · rw [if_pos c]; intro e; rw [e] at c; exact absurd c (by decide)
  · rw [if_neg c]; decide
theorem mxN {a : Nat} (h : 1 ≤ a) (h2 : a < 2 ^ 31) : (if 1 < nI a then nI a else 1) = nI a := by
  by_cases c : 1 < nI a
  · rw [if_pos c]
  · rw [if_neg c]
    have : a ≤ 1 := Nat.le_of_not_lt (fun q => c (show nI 1 < nI a from nI_lt q h2))
    have e : a = 1 := by omega
    rw [e]; rfl
theorem d86 {a : Nat} (h : a < 2 ^ 31) : nI a / 8 - nI a / 8 / 6 * 6 = nI (a / 8 % 6) := by
  have e1 : nI a / 8 = nI (a / 8) := pk_div (d := 8) h (by decide) (by decide)
  rw [e1]
  exact pk_rem (d := 6) (by omega) (by decide) (by decide)
