/-! The class's constructor. -/
def ZL : LnS := (fun _ => 0, fun _ => 0, fun _ => 0, fun _ => 0, 0, 0, 0, 0, 0)
def sapB (X : TxS) (i : Nat) : TxS := apF X (sna i)
theorem sap_N : ∀ n, n ≤ 76 → tN (it sapB ZX n) = n ∧ ∀ j, j < n → tF (it sapB ZX n) j = nI (sna j) := by
  intro n
  induction n with
  | zero => intro _; exact ⟨rfl, fun j hj => absurd hj (Nat.not_lt_zero j)⟩
  | succ n ih =>
    intro hn
    obtain ⟨h1, h2⟩ := ih (by omega)
    have e : it sapB ZX (n + 1) = (upd (tF (it sapB ZX n)) (tN (it sapB ZX n)) (nI (sna n)), tN (it sapB ZX n) + 1) := by
      rw [it_succ]
      generalize it sapB ZX n = Y at h1 ⊢
      unfold sapB apF
      rw [if_neg (show ¬ (200 : Int32) ≤ nI (tN Y) from nI_ge (b := 200) (by omega) (by omega))]
    rw [e, h1]
    refine ⟨rfl, fun j hj => ?_⟩
    show upd (tF (it sapB ZX n)) n (nI (sna n)) j = nI (sna j)
    by_cases c : j = n
    · subst c; exact pk_us
    · rw [pk_un c]; exact h2 j (by omega)
def FT : String := "c0,0,6,10;c1,0,4,25;c2,1,3,8;c3,2,9,40;c0,2,5,12;c1,6,2,30;c0,9,3,5;s1,4;r0;"
def NE0 (a v b0 : Nat) : State → Prop := fun U => va_AO RX0 U ∧ SE a v b0 U ∧ vk_R RX5 55 FT a U
