/-! Pure words: the reference's numbers and rows, and what its methods do to them. -/
abbrev MLn : Type := (Nat → Int32) × (Nat → Int32) × (Nat → Int32) × (Nat → Int32) × (Nat → Int32) × Int32 × Int32 × Int32 × Int32
abbrev mis (M : MLn) : Nat → Int32 := M.1
abbrev mwa (M : MLn) : Nat → Int32 := M.2.1
abbrev mca (M : MLn) : Nat → Int32 := M.2.2.1
abbrev mta (M : MLn) : Nat → Int32 := M.2.2.2.1
abbrev man (M : MLn) : Nat → Int32 := M.2.2.2.2.1
abbrev mor (M : MLn) : Int32 := M.2.2.2.2.2.1
abbrev mmi (M : MLn) : Int32 := M.2.2.2.2.2.2.1
abbrev mse (M : MLn) : Int32 := M.2.2.2.2.2.2.2.1
abbrev mru (M : MLn) : Int32 := M.2.2.2.2.2.2.2.2
abbrev MPl : Type := (Nat → Int32) × (Nat → Int32) × (Nat → Int32) × (Nat → Int32) × Nat × Int32
abbrev nki (N : MPl) : Nat → Int32 := N.1
abbrev nca (N : MPl) : Nat → Int32 := N.2.1
abbrev nbe (N : MPl) : Nat → Int32 := N.2.2.1
abbrev nwo (N : MPl) : Nat → Int32 := N.2.2.2.1
abbrev nN (N : MPl) : Nat := N.2.2.2.2.1
abbrev nea (N : MPl) : Int32 := N.2.2.2.2.2
def grF (x y : Int32) : Int32 := if x ≤ y then y else x
def mAhF (N : MPl) (M : MLn) (a b : Nat) : Bool := if mru M = 1 then decide (mca M b < mca M a) else if mru M = 2 then (if nwo N a = nwo N b then decide (mca M a < mca M b) else decide (nwo N b < nwo N a)) else decide (mca M a < mca M b)
def mahB (N : MPl) (M : MLn) (c : Nat) (s : Int32) (i : Nat) : Int32 := s + (if nI i = nI c then 0 else if mis M i = 1 then (if mAhF N M i c = true then 1 else 0) else 0)
def mahF (N : MPl) (M : MLn) (c : Nat) : Int32 := it (mahB N M c) 0 (nN N)
def mbeF (N : MPl) (M : MLn) (c : Nat) : Int32 := if nki N c = 1 then (if mahF N M c ≤ 1 then 1048576 else nbe N c) else if nki N c = 2 then 2 * nbe N c else if nki N c = 3 then grF 1 (nbe N c - mahF N M c) else nbe N c
def mcoF (M : MLn) (c : Nat) : MLn := (upd (mis M) c 1, upd (mwa M) c 0, upd (mca M) c (mor M), mta M, upd (man M) c 0, mor M + 1, mmi M, mse M, mru M)
def mctB (f : Nat → Int32) (w : Int32) (s : Int32) (i : Nat) : Int32 := s + (if f i = w then 1 else 0)
def mctF (f : Nat → Int32) (w : Int32) (n : Nat) : Int32 := it (mctB f w) 0 n
def mnxB (N : MPl) (M : MLn) (o : Option Nat) (i : Nat) : Option Nat := if mis M i = 1 then (match o with
  | none => some i
  | some k => if mAhF N M i k = true then some i else some k) else o
def mnxF (N : MPl) (M : MLn) : Option Nat := it (mnxB N M) none (nN N)
def mc0B (N : MPl) (q : Int32) (X : MLn) (i : Nat) : MLn := if mis X i = 0 then (if man X i = q then (if q = 1 then mcoF X i else if nca N i = mmi X then mcoF X i else X) else X) else X
def mc0F (N : MPl) (q : Int32) (M : MLn) : MLn := it (mc0B N q) M (nN N)
def mfnB (N : MPl) (X : MLn) (i : Nat) : MLn := (upd (mis X) i (if mis X i = 2 then (if mmi X - mta X i < nea N then mis X i else 3) else mis X i), mwa X, mca X, mta X, man X, mor X, mmi X, mse X, mru X)
def mfnF (N : MPl) (M : MLn) : MLn := it (mfnB N) M (nN N)
def mtkB (X : MLn) (k : Nat) : MLn := (upd (mis X) k 2, mwa X, mca X, upd (mta X) k (mmi X), man X, mor X, mmi X, mse X, mru X)
def mtkF (N : MPl) : Nat → MLn → MLn
  | 0, X => X
  | j + 1, X => if mse X ≤ mctF (mis X) 2 (nN N) then X else match mnxF N X with
    | none => X
    | some k => mtkF N j (mtkB X k)
def mbtB (N : MPl) (M : MLn) (f : Nat → Int32) (i : Nat) : Nat → Int32 := upd f i (if mis M i = 1 then mbeF N M i else 1048576)
def mbtF (N : MPl) (M : MLn) (f : Nat → Int32) : Nat → Int32 := it (mbtB N M) f (nN N)
def mwtB (bt : Nat → Int32) (X : MLn) (i : Nat) : MLn := if mis X i = 1 then (upd (mis X) i (if upd (mwa X) i (mwa X i + 1) i < bt i then 1 else 4), upd (mwa X) i (mwa X i + 1), mca X, mta X, man X, mor X, mmi X, mse X, mru X) else X
def mwtF (N : MPl) (bt : Nat → Int32) (M : MLn) : MLn := it (mwtB bt) M (nN N)
def mmiF (M : MLn) : MLn := (mis M, mwa M, mca M, mta M, man M, mor M, mmi M + 1, mse M, mru M)
def mc01 (N : MPl) (M : MLn) : MLn := it (fun Z a => mc0F N (nI a) Z) M 2
def mpr (N : MPl) (M : MLn) : MLn := mtkF N 9 (mfnF N (mc01 N M))
def mgoF (N : MPl) (M : MLn) : MLn := mmiF (mwtF N (mbtF N (mpr N M) g0) (mpr N M))
theorem mnxF_lt {N : MPl} {M : MLn} : ∀ (j k : Nat), it (mnxB N M) none j = some k → k < j := by
  intro j
  induction j with
  | zero => intro k h; cases h
  | succ j ih =>
    intro k h
    have h' : mnxB N M (it (mnxB N M) none j) j = some k := h
    cases ho : it (mnxB N M) none j with
    | none =>
      rw [ho] at h'
      unfold mnxB at h'
      by_cases c : mis M j = 1
      · rw [if_pos c] at h'; cases h'; omega
      · rw [if_neg c] at h'; cases h'
    | some q =>
      have hq := ih q ho
      rw [ho] at h'
      unfold mnxB at h'
      by_cases c : mis M j = 1
      · rw [if_pos c] at h'
        dsimp only at h'
        split at h' <;> cases h' <;> omega
      · rw [if_neg c] at h'; cases h'; omega
theorem mnxF_st {N : MPl} {M : MLn} : ∀ (j k : Nat), it (mnxB N M) none j = some k → k < j ∧ mis M k = 1 := by
  intro j
  induction j with
  | zero => intro k h; cases h
  | succ j ih =>
    intro k h
    have h' : mnxB N M (it (mnxB N M) none j) j = some k := h
    refine ⟨mnxF_lt _ _ h, ?_⟩
    cases ho : it (mnxB N M) none j with
    | none =>
      rw [ho] at h'
      unfold mnxB at h'
      by_cases c : mis M j = 1
      · rw [if_pos c] at h'; cases h'; exact c
      · rw [if_neg c] at h'; cases h'
    | some q =>
      have hq := ih q ho
      rw [ho] at h'
      unfold mnxB at h'
      by_cases c : mis M j = 1
      · rw [if_pos c] at h'
        dsimp only at h'
        split at h' <;> cases h'
        · exact c
        · exact hq.2
      · rw [if_neg c] at h'; cases h'; exact hq.2
/-- how many of the first n are 1 -/
def wcF (f : Nat → Int32) : Nat → Nat
  | 0 => 0
  | n + 1 => if f n = 1 then wcF f n + 1 else wcF f n
theorem wcF_le (f : Nat → Int32) (n : Nat) : wcF f n ≤ n := by
  induction n with
  | zero => exact Nat.le_refl 0
  | succ n ih => unfold wcF; split <;> omega
theorem wc_same {f : Nat → Int32} {x : Int32} {k : Nat} (n : Nat) (h : n ≤ k) : wcF (upd f k x) n = wcF f n := by
  induction n with
  | zero => rfl
  | succ n ih => unfold wcF; rw [pk_un (by omega), ih (by omega)]
theorem wc_take {f : Nat → Int32} {x : Int32} (n k : Nat) (hk : k < n) (h1 : f k = 1) (hx : ¬ x = 1) : wcF (upd f k x) n + 1 = wcF f n := by
  induction n with
  | zero => omega
  | succ n ih =>
    by_cases c : k = n
    · subst c
      unfold wcF
      rw [pk_us, if_neg hx, if_pos h1, wc_same _ (Nat.le_refl _)]
    · have := ih (by omega)
      unfold wcF
      rw [pk_un (fun q => c q.symm)]
      split <;> omega
theorem it_upd (v : Nat → Int32) (f : Nat → Int32) (n j : Nat) : it (fun (g : Nat → Int32) i => upd g i (v i)) f n j = if j < n then v j else f j := by
  induction n with
  | zero => rw [if_neg (by omega)]; rfl
  | succ n ih =>
    show upd (it _ f n) n (v n) j = _
    by_cases c : j = n
    · subst c; rw [pk_us, if_pos (by omega)]
    · rw [pk_un c, ih]
      by_cases c2 : j < n
      · rw [if_pos c2, if_pos (by omega)]
      · rw [if_neg c2, if_neg (by omega)]
theorem mwtB_cg {b1 b2 : Nat → Int32} (Z : MLn) (i : Nat) (h : b1 i = b2 i) : mwtB b1 Z i = mwtB b2 Z i := by
  unfold mwtB
  rw [h]
theorem it_succ {α : Type} (B : α → Nat → α) (a : α) (i : Nat) : it B a (i + 1) = B (it B a i) i := rfl
theorem it_cg {α : Type} {B C : α → Nat → α} (a : α) (n : Nat) (h : ∀ Z i, i < n → B Z i = C Z i) : it B a n = it C a n := by
  induction n with
  | zero => rfl
  | succ n ih => rw [it_succ, it_succ, ih (fun Z i hi => h Z i (by omega)), h _ n (by omega)]
theorem mwt_cg {b1 b2 : Nat → Int32} (M : MLn) (n : Nat) (h : ∀ i, i < n → b1 i = b2 i) : it (mwtB b1) M n = it (mwtB b2) M n := it_cg M n (fun Z i hi => mwtB_cg Z i (h i hi))
theorem mbt_at (N : MPl) (M : MLn) (f : Nat → Int32) (i : Nat) (h : i < nN N) : mbtF N M f i = if mis M i = 1 then mbeF N M i else 1048576 := by
  have := it_upd (fun i => if mis M i = 1 then mbeF N M i else 1048576) f (nN N) i
  rw [if_pos h] at this
  exact this
theorem mgo_bt (N : MPl) (M : MLn) (bt : Nat → Int32) : mgoF N M = mmiF (mwtF N (mbtF N (mpr N M) bt) (mpr N M)) := by
  unfold mgoF mwtF
  rw [mwt_cg _ _ (fun i hi => (mbt_at N (mpr N M) g0 i hi).trans (mbt_at N (mpr N M) bt i hi).symm)]
def mhgF (M : MLn) (c : Nat) : MLn := (upd (mis M) c 4, mwa M, mca M, mta M, man M, mor M, mmi M, mse M, mru M)
def mrcF (M : MLn) (c : Nat) : MLn := (upd (mis M) c 0, mwa M, mca M, mta M, upd (man M) c 1, mor M, mmi M, mse M, mru M)
