/-! Pure words: a Line's nine numbers and rows, a Plan's eight; what each method of Line does to them. -/
abbrev LnS : Type := (Nat → Int32) × (Nat → Int32) × (Nat → Int32) × (Nat → Int32) × Int32 × Int32 × Int32 × Int32 × Int32
abbrev lst (L : LnS) : Nat → Int32 := L.1
abbrev lwa (L : LnS) : Nat → Int32 := L.2.1
abbrev lca (L : LnS) : Nat → Int32 := L.2.2.1
abbrev lti (L : LnS) : Nat → Int32 := L.2.2.2.1
abbrev lcg (L : LnS) : Int32 := L.2.2.2.2.1
abbrev lco (L : LnS) : Int32 := L.2.2.2.2.2.1
abbrev lmi (L : LnS) : Int32 := L.2.2.2.2.2.2.1
abbrev lse (L : LnS) : Int32 := L.2.2.2.2.2.2.2.1
abbrev lru (L : LnS) : Int32 := L.2.2.2.2.2.2.2.2
abbrev PlS : Type := (Nat → Int32) × (Nat → Int32) × (Nat → Int32) × (Nat → Int32) × Nat × Int32 × Int32 × Int32
abbrev pki (P : PlS) : Nat → Int32 := P.1
abbrev pci (P : PlS) : Nat → Int32 := P.2.1
abbrev ppa (P : PlS) : Nat → Int32 := P.2.2.1
abbrev pwo (P : PlS) : Nat → Int32 := P.2.2.2.1
abbrev pN (P : PlS) : Nat := P.2.2.2.2.1
abbrev pse (P : PlS) : Int32 := P.2.2.2.2.2.1
abbrev pme (P : PlS) : Int32 := P.2.2.2.2.2.2.1
abbrev pru (P : PlS) : Int32 := P.2.2.2.2.2.2.2
def it {α : Type} (B : α → Nat → α) (a : α) : Nat → α
  | 0 => a
  | i + 1 => B (it B a i) i
theorem iinc_nI (a : Nat) : nI a + Int32.ofInt 1 = nI (a + 1) := nI_1 a
theorem iinc_nIm (a : Nat) : nI (a + 1) + Int32.ofInt (-1) = nI a := pk_m1 a
theorem iinc_1 (x : Int32) : x + Int32.ofInt 1 = x + 1 := rfl
theorem i32_ne {x k : Int32} (h : ¬ x = k) : x.toInt ≠ k.toInt := fun e => h (Int32.toInt_inj.mp e)
def bitB (g : Int32) (c : Nat) : Bool := decide ((g >>> (nI c &&& 31)) &&& 1 = 1)
def isAheadF (P : PlS) (L : LnS) (a b : Nat) : Bool :=
  if lru L = 1 then decide (lca L b < lca L a) else if lru L = 2 then (if pwo P a = pwo P b then decide (lca L a < lca L b) else decide (pwo P b < pwo P a)) else decide (lca L a < lca L b)
def admitF (L : LnS) (c : Nat) : LnS := (upd (lst L) c 1, upd (lwa L) c 0, upd (lca L) c (lco L), lti L, lcg L, lco L + 1, lmi L, lse L, lru L)
def awcB (P : PlS) (X : LnS) (i : Nat) : LnS := if lst X i = 0 then (if bitB (lcg X) i = true then X else if pci P i = lmi X then admitF X i else X) else X
def awcF (P : PlS) (L : LnS) : LnS := it (awcB P) L (pN P)
def awaB (X : LnS) (i : Nat) : LnS := if lst X i = 0 then (if bitB (lcg X) i = true then admitF X i else X) else X
def awaF (P : PlS) (L : LnS) : LnS := (lst (it awaB L (pN P)), lwa (it awaB L (pN P)), lca (it awaB L (pN P)), lti (it awaB L (pN P)), 0, lco (it awaB L (pN P)), lmi (it awaB L (pN P)), lse (it awaB L (pN P)), lru (it awaB L (pN P)))
def fnB (P : PlS) (X : LnS) (i : Nat) : LnS := if lst X i = 2 then (if lmi X - lti X i < pme P then X else (upd (lst X) i 3, lwa X, lca X, lti X, lcg X, lco X, lmi X, lse X, lru X)) else X
def fnF (P : PlS) (L : LnS) : LnS := it (fnB P) L (pN P)
def cntB (f : Nat → Int32) (w : Int32) (n : Int32) (i : Nat) : Int32 := if f i = w then n + 1 else n
def cntF (f : Nat → Int32) (w : Int32) (N : Nat) : Int32 := it (cntB f w) 0 N
def oI : Option Nat → Int32
  | none => -4
  | some k => nI k
def nxB (P : PlS) (L : LnS) (o : Option Nat) (i : Nat) : Option Nat := if lst L i = 1 then (match o with
  | none => some i
  | some k => if isAheadF P L i k = true then some i else some k) else o
def nxF (P : PlS) (L : LnS) : Option Nat := it (nxB P L) none (pN P)
def tkB (P : PlS) (X : LnS) (_ : Nat) : LnS := match nxF P X with
  | none => X
  | some k => (upd (lst X) k 2, lwa X, lca X, upd (lti X) k (lmi X), lcg X, lco X, lmi X, lse X, lru X)
def tkN (P : PlS) (L : LnS) : Int32 := lse L - cntF (lst L) 2 (pN P)
def tkF (P : PlS) (L : LnS) : LnS := it (tkB P) L (tkN P L).toInt.toNat
def wtB (X : LnS) (i : Nat) : LnS := if lst X i = 1 then (lst X, upd (lwa X) i (lwa X i + 1), lca X, lti X, lcg X, lco X, lmi X, lse X, lru X) else X
def wtF (P : PlS) (L : LnS) : LnS := it wtB L (pN P)
def mostF (P : PlS) (c : Nat) (a : Int32) : Int32 := if pki P c = 1 then (if a < 2 then -4 else ppa P c) else if pki P c = 2 then 2 * ppa P c else if pki P c = 3 then (if 1 < ppa P c - a then ppa P c - a else 1) else ppa P c
def cahB (P : PlS) (L : LnS) (c : Nat) (n : Int32) (i : Nat) : Int32 := if lst L i = 1 then (if isAheadF P L i c = true then n + 1 else n) else n
def cahF (P : PlS) (L : LnS) (c : Nat) : Int32 := it (cahB P L c) 0 (pN P)
def gvB (P : PlS) (L : LnS) (g : Int32) (i : Nat) : Int32 := if lst L i = 1 then (if mostF P i (cahF P L i) = -4 then g else if lwa L i < mostF P i (cahF P L i) then g else g ||| ((1 : Int32) <<< (nI i &&& 31))) else g
def gvG (P : PlS) (L : LnS) : Int32 := it (gvB P L) 0 (pN P)
def gsB (g : Int32) (X : LnS) (i : Nat) : LnS := if bitB g i = true then (upd (lst X) i 4, lwa X, lca X, lti X, lcg X, lco X, lmi X, lse X, lru X) else X
def gvF (P : PlS) (L : LnS) : LnS := it (gsB (gvG P L)) L (pN P)
def miF (L : LnS) : LnS := (lst L, lwa L, lca L, lti L, lcg L, lco L, lmi L + 1, lse L, lru L)
def goF (P : PlS) (L : LnS) : LnS := miF (gvF P (wtF P (tkF P (fnF P (awaF P (awcF P L))))))
def gosB (P : PlS) (X : LnS) (_ : Nat) : LnS := goF P X
def gosF (P : PlS) (L : LnS) (k : Nat) : LnS := it (gosB P) L k
def hangF (L : LnS) (c : Nat) : LnS := (upd (lst L) c 4, lwa L, lca L, lti L, lcg L, lco L, lmi L, lse L, lru L)
def recF (L : LnS) (c : Nat) : LnS := (upd (lst L) c 0, lwa L, lca L, lti L, lcg L ||| ((1 : Int32) <<< (nI c &&& 31)), lco L, lmi L, lse L, lru L)
def wthB (P : PlS) (L : LnS) (n : Int32) (i : Nat) : Int32 := if lst L i = 3 then n + pwo P i else n
def wthF (P : PlS) (L : LnS) : Int32 := it (wthB P L) 0 (pN P)
theorem nxF_lt {P : PlS} {L : LnS} : ∀ (j k : Nat), it (nxB P L) none j = some k → k < j := by
  intro j
  induction j with
  | zero => intro k h; cases h
  | succ j ih =>
    intro k h
    have h' : nxB P L (it (nxB P L) none j) j = some k := h
    cases ho : it (nxB P L) none j with
    | none =>
      rw [ho] at h'
      unfold nxB at h'
      by_cases c : lst L j = 1
      · rw [if_pos c] at h'; cases h'; omega
      · rw [if_neg c] at h'; cases h'
    | some q =>
      have hq := ih q ho
      rw [ho] at h'
      unfold nxB at h'
      by_cases c : lst L j = 1
      · rw [if_pos c] at h'
        dsimp only at h'
        split at h' <;> cases h' <;> omega
      · rw [if_neg c] at h'; cases h'; omega
theorem it_stuck {α : Type} {B : α → Nat → α} {a : α} {i : Nat} (h : ∀ j, B (it B a i) j = it B a i) : ∀ N, i ≤ N → it B a N = it B a i := by
  intro N
  induction N with
  | zero => intro hi; have : i = 0 := by omega
            subst this; rfl
  | succ N ih =>
    intro hi
    by_cases c : i = N + 1
    · subst c; rfl
    · have e := ih (by omega)
      show B (it B a N) N = _
      rw [e]; exact h N
theorem tk_lt {x : Int32} {i : Nat} (h : i < x.toInt.toNat) : ¬ x ≤ nI i := by
  have hx : x.toInt < 2 ^ 31 := by have := Int32.toInt_lt x; omega
  rw [Int32.le_iff_toInt_le, nI_toInt (by omega)]
  omega
theorem tk_ge {x : Int32} : x ≤ nI x.toInt.toNat := by
  have hx : x.toInt < 2 ^ 31 := by have := Int32.toInt_lt x; omega
  rw [Int32.le_iff_toInt_le, nI_toInt (by omega)]
  omega
theorem nI_ne4 {k : Nat} (h : k < 1000) : ¬ nI k = -4 := fun e => by
  have h1 := nI_toInt (n := k) (by omega)
  rw [e] at h1
  have : (-4 : Int32).toInt = -4 := rfl
  omega
def stB (X : LnS) (i : Nat) : LnS := (upd (lst X) i 0, upd (lwa X) i 0, upd (lca X) i 0, upd (lti X) i 0, lcg X, lco X, lmi X, lse X, lru X)
def startF (P : PlS) : LnS := (fun _ => 0, fun _ => 0, fun _ => 0, fun _ => 0, 0, 0, 0, pse P, pru P)
theorem st0_0 (L : LnS) : ∀ j, j < 8 → lst (it stB L 8) j = (fun _ => (0 : Int32)) j := by
  intro j hj; rcases (show j = 0 ∨ j = 1 ∨ j = 2 ∨ j = 3 ∨ j = 4 ∨ j = 5 ∨ j = 6 ∨ j = 7 by omega) with rfl | rfl | rfl | rfl | rfl | rfl | rfl | rfl <;> rfl
theorem st0_1 (L : LnS) : ∀ j, j < 8 → lwa (it stB L 8) j = (fun _ => (0 : Int32)) j := by
  intro j hj; rcases (show j = 0 ∨ j = 1 ∨ j = 2 ∨ j = 3 ∨ j = 4 ∨ j = 5 ∨ j = 6 ∨ j = 7 by omega) with rfl | rfl | rfl | rfl | rfl | rfl | rfl | rfl <;> rfl
theorem st0_2 (L : LnS) : ∀ j, j < 8 → lca (it stB L 8) j = (fun _ => (0 : Int32)) j := by
  intro j hj; rcases (show j = 0 ∨ j = 1 ∨ j = 2 ∨ j = 3 ∨ j = 4 ∨ j = 5 ∨ j = 6 ∨ j = 7 by omega) with rfl | rfl | rfl | rfl | rfl | rfl | rfl | rfl <;> rfl
theorem st0_3 (L : LnS) : ∀ j, j < 8 → lti (it stB L 8) j = (fun _ => (0 : Int32)) j := by
  intro j hj; rcases (show j = 0 ∨ j = 1 ∨ j = 2 ∨ j = 3 ∨ j = 4 ∨ j = 5 ∨ j = 6 ∨ j = 7 by omega) with rfl | rfl | rfl | rfl | rfl | rfl | rfl | rfl <;> rfl
