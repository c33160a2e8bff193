/-! Pure words: lines laid into a row of numbers and taken out of it. -/
def tkOK (f : Nat → Int32) (a : Nat) (M : MLn) : Prop := f a = mmi M ∧ f (a + 1) = mse M ∧ f (a + 2) = mor M ∧ f (a + 3) = mru M ∧ ∀ j, j < 8 → f (a + 4 + j) = mis M j ∧ f (a + 12 + j) = mwa M j ∧ f (a + 20 + j) = mca M j ∧ f (a + 28 + j) = mta M j ∧ f (a + 36 + j) = man M j
def lay4 (M : MLn) (a : Nat) (f : Nat → Int32) : Nat → Int32 := upd (upd (upd (upd f a (mmi M)) (a + 1) (mse M)) (a + 2) (mor M)) (a + 3) (mru M)
def layB (M : MLn) (a : Nat) (f : Nat → Int32) (i : Nat) : Nat → Int32 := upd (upd (upd (upd (upd f (a + 4 + i) (mis M i)) (a + 12 + i) (mwa M i)) (a + 20 + i) (mca M i)) (a + 28 + i) (mta M i)) (a + 36 + i) (man M i)
def layF (M : MLn) (a : Nat) (f : Nat → Int32) : Nat → Int32 := it (layB M a) (lay4 M a f) 8
theorem layB_out {M : MLn} {a i k : Nat} {f : Nat → Int32} (h1 : k ≠ a + 4 + i) (h2 : k ≠ a + 12 + i) (h3 : k ≠ a + 20 + i) (h4 : k ≠ a + 28 + i) (h5 : k ≠ a + 36 + i) : layB M a f i k = f k := by
  unfold layB
  rw [pk_un h5, pk_un h4, pk_un h3, pk_un h2, pk_un h1]
theorem lay_out {M : MLn} {a k : Nat} {f : Nat → Int32} (n : Nat) (hn : n ≤ 8) (h : k < a + 4 ∨ a + 44 ≤ k) : it (layB M a) f n k = f k := by
  induction n with
  | zero => rfl
  | succ n ih => rw [it_succ, layB_out (by omega) (by omega) (by omega) (by omega) (by omega), ih (by omega)]
theorem lay_in {M : MLn} {a : Nat} {f : Nat → Int32} (n : Nat) (hn : n ≤ 8) (j : Nat) (hj : j < n) : it (layB M a) f n (a + 4 + j) = mis M j ∧ it (layB M a) f n (a + 12 + j) = mwa M j ∧ it (layB M a) f n (a + 20 + j) = mca M j ∧ it (layB M a) f n (a + 28 + j) = mta M j ∧ it (layB M a) f n (a + 36 + j) = man M j := by
  induction n with
  | zero => omega
  | succ n ih =>
    rw [it_succ]
    by_cases c : j = n
    · subst c
      unfold layB
      refine ⟨?_, ?_, ?_, ?_, ?_⟩
      · rw [pk_un (by omega), pk_un (by omega), pk_un (by omega), pk_un (by omega), pk_us]
      · rw [pk_un (by omega), pk_un (by omega), pk_un (by omega), pk_us]
      · rw [pk_un (by omega), pk_un (by omega), pk_us]
      · rw [pk_un (by omega), pk_us]
      · rw [pk_us]
    · have := ih (by omega) (by omega)
      refine ⟨?_, ?_, ?_, ?_, ?_⟩ <;> rw [layB_out (by omega) (by omega) (by omega) (by omega) (by omega)]
      · exact this.1
      · exact this.2.1
      · exact this.2.2.1
      · exact this.2.2.2.1
      · exact this.2.2.2.2
theorem lay_ok (M : MLn) (a : Nat) (f : Nat → Int32) : tkOK (layF M a f) a M := by
  refine ⟨?_, ?_, ?_, ?_, fun j hj => lay_in 8 (Nat.le_refl 8) j hj⟩
  · show it (layB M a) _ 8 a = _
    rw [lay_out 8 (Nat.le_refl 8) (by omega)]; unfold lay4
    rw [pk_un (by omega), pk_un (by omega), pk_un (by omega), pk_us]
  · show it (layB M a) _ 8 (a + 1) = _
    rw [lay_out 8 (Nat.le_refl 8) (by omega)]; unfold lay4
    rw [pk_un (by omega), pk_un (by omega), pk_us]
  · show it (layB M a) _ 8 (a + 2) = _
    rw [lay_out 8 (Nat.le_refl 8) (by omega)]; unfold lay4
    rw [pk_un (by omega), pk_us]
  · show it (layB M a) _ 8 (a + 3) = _
    rw [lay_out 8 (Nat.le_refl 8) (by omega)]; unfold lay4
    rw [pk_us]
theorem lay_same (M : MLn) {a k : Nat} (f : Nat → Int32) (h : k < a ∨ a + 44 ≤ k) : layF M a f k = f k := by
  show it (layB M a) _ 8 k = _
  rw [lay_out 8 (Nat.le_refl 8) (by omega)]; unfold lay4
  rw [pk_un (by omega), pk_un (by omega), pk_un (by omega), pk_un (by omega)]
theorem tkOK_cg {f g : Nat → Int32} {a : Nat} {M : MLn} (h : tkOK f a M) (hg : ∀ k, a ≤ k → k < a + 44 → g k = f k) : tkOK g a M := by
  obtain ⟨h0, h1, h2, h3, h4⟩ := h
  refine ⟨by rw [hg _ (by omega) (by omega)]; exact h0, by rw [hg _ (by omega) (by omega)]; exact h1, by rw [hg _ (by omega) (by omega)]; exact h2, by rw [hg _ (by omega) (by omega)]; exact h3, fun j hj => ?_⟩
  have := h4 j hj
  rw [hg _ (by omega) (by omega), hg _ (by omega) (by omega), hg _ (by omega) (by omega), hg _ (by omega) (by omega), hg _ (by omega) (by omega)]
  exact this
def tke4 (f : Nat → Int32) (a : Nat) (M : MLn) : MLn := (mis M, mwa M, mca M, mta M, man M, f (a + 2), f a, f (a + 1), f (a + 3))
def tkeB (f : Nat → Int32) (a : Nat) (X : MLn) (i : Nat) : MLn := (upd (mis X) i (f (a + 4 + i)), upd (mwa X) i (f (a + 12 + i)), upd (mca X) i (f (a + 20 + i)), upd (mta X) i (f (a + 28 + i)), upd (man X) i (f (a + 36 + i)), mor X, mmi X, mse X, mru X)
theorem tke_at (f : Nat → Int32) (a : Nat) (M : MLn) (n j : Nat) (h : j < n) : mis (it (tkeB f a) M n) j = f (a + 4 + j) ∧ mwa (it (tkeB f a) M n) j = f (a + 12 + j) ∧ mca (it (tkeB f a) M n) j = f (a + 20 + j) ∧ mta (it (tkeB f a) M n) j = f (a + 28 + j) ∧ man (it (tkeB f a) M n) j = f (a + 36 + j) := by
  induction n with
  | zero => omega
  | succ n ih =>
    rw [it_succ]
    by_cases c : j = n
    · subst c
      exact ⟨pk_us, pk_us, pk_us, pk_us, pk_us⟩
    · have := ih (by omega)
      exact ⟨(pk_un c).trans this.1, (pk_un c).trans this.2.1, (pk_un c).trans this.2.2.1, (pk_un c).trans this.2.2.2.1, (pk_un c).trans this.2.2.2.2⟩
theorem tke_n (f : Nat → Int32) (a : Nat) (M : MLn) (n : Nat) : mor (it (tkeB f a) M n) = mor M ∧ mmi (it (tkeB f a) M n) = mmi M ∧ mse (it (tkeB f a) M n) = mse M ∧ mru (it (tkeB f a) M n) = mru M := by
  induction n with
  | zero => exact ⟨rfl, rfl, rfl, rfl⟩
  | succ n ih => rw [it_succ]; exact ih
def mgsB (N : MPl) (X : MLn) (_ : Nat) : MLn := mgoF N X
def mgsF (N : MPl) (M : MLn) (k : Nat) : MLn := it (mgsB N) M k
abbrev mtkb (M : MLn) (c : Nat) : Bool := decide (mis M c = 2 ∨ mis M c = 3)
def mtfF (N : MPl) (c : Nat) : Nat → Nat → MLn → Int32
  | 0, i, M => if mtkb M c = true then nI i else -4
  | k + 1, i, M => if mtkb M c = true then nI i else mtfF N c k (i + 1) (mgoF N M)
def mloF (N : MPl) (M : MLn) : Int32 := mctF (mis (mgsF N M 60)) 4 (nN N) - mctF (mis M) 4 (nN N)
/-- the undoing row: shifted when it is full -/
def shB (f : Nat → Int32) (i : Nat) : Nat → Int32 := upd f i (f (i + 44))
def ntA (M : MLn) (f : Nat → Int32) (u : Nat) : Nat → Int32 := if u = 8 then layF M (44 * 7) (it shB f 308) else layF M (44 * u) f
def ntU (u : Nat) : Nat := if u = 8 then 8 else u + 1
