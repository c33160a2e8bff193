def misP (N : MPl) (c : Nat) (x y : Int32) : MPl := (upd (nki N) c x, nca N, upd (nbe N) c y, nwo N, nN N, nea N)
def ffF (S : SiS) (Z : MLn) (c k : Nat) : Int32 := if mis Z c = 4 then (if siG S k = 1 then 1 else 0) else (if siG S k = 1 then 0 else 1)
def isiB (S : SiS) (Z : MLn) (c : Nat) (t : Int32) (so : Int32) (k : Nat) : Int32 := if so = 0 then 0 else if siW S k = nI c then (if siT S k = t then ffF S Z c k else 1) else 1
def isoB (N : MPl) (S : SiS) (M : MLn) (c : Nat) (so : Int32) (i : Nat) : Int32 := it (isiB S (it (mgsB N) M (i + 1)) c (nI (i + 1))) so (siZ S)
def isoF (N : MPl) (S : SiS) (M : MLn) (c : Nat) (x y : Int32) : Int32 := it (isoB (misP N c x y) S M c) 1 40
theorem isiB_01 (S : SiS) (Z : MLn) (c : Nat) (t so : Int32) (k : Nat) : isiB S Z c t so k = 0 ∨ isiB S Z c t so k = 1 := by
  unfold isiB ffF
  repeat' split
  all_goals first | exact Or.inl rfl | exact Or.inr rfl
theorem isi_01 (S : SiS) (Z : MLn) (c : Nat) (t so : Int32) (n : Nat) (h : so = 0 ∨ so = 1) : it (isiB S Z c t) so n = 0 ∨ it (isiB S Z c t) so n = 1 := by
  cases n with
  | zero => exact h
  | succ n => rw [it_succ]; exact isiB_01 _ _ _ _ _ _
theorem iso_01 (N : MPl) (S : SiS) (M : MLn) (c : Nat) : ∀ n, it (isoB N S M c) 1 n = 0 ∨ it (isoB N S M c) 1 n = 1 := by
  intro n
  induction n with
  | zero => exact Or.inr rfl
  | succ n ih => rw [it_succ]; exact isi_01 _ _ _ _ _ _ ih
theorem x_b2i {x : Int32} (h : x = 0 ∨ x = 1) : x = b2i (decide (x = 1)) := by
  rcases h with h | h <;> rw [h] <;> rfl
theorem upd_back (f : Nat → Int32) (j : Nat) (x : Int32) : upd (upd f j x) j (f j) = f := by
  funext q
  by_cases c : q = j
  · subst c; rw [pk_us]
  · rw [pk_un c, pk_un c]
def msoB (N : MPl) (S : SiS) (M : MLn) (c : Nat) (x y : Int32) : Bool := decide (isoF N S M c x y = 1)
def mbsbB (N : MPl) (S : SiS) (M : MLn) (c : Nat) (s : Int32 × Int32) (i : Nat) : Int32 × Int32 := if msoB N S M c (nki N c) (nI (30 - i)) = true then (s.1 + 1, nI (30 - i)) else s
def mbsbF (N : MPl) (S : SiS) (M : MLn) (c : Nat) : Int32 × Int32 := it (mbsbB N S M c) (0, -4) 30
def mbsbR (N : MPl) (S : SiS) (M : MLn) (x y : Int32) : Int32 := if isM N x = true then (if inB y 0 1 = true then (if y = 0 then (mbsbF N S M (tn x)).1 else (mbsbF N S M (tn x)).2) else -1) else -1
def mkdB (N : MPl) (S : SiS) (M : MLn) (c : Nat) (s : Int32) (i : Nat) : Int32 := s ||| (if msoB N S M c (nI i) (nbe N c) = true then (1 : Int32) <<< (nI i &&& 31) else 0)
def mkdR (N : MPl) (S : SiS) (M : MLn) (x : Int32) : Int32 := if isM N x = true then it (mkdB N S M (tn x)) 0 4 else -1
def mwbB (M : MLn) (c : Nat) (s : Int32) (i : Nat) : Int32 := s ||| (if nI i = nI c then 0 else if mis M i = 1 then (1 : Int32) <<< (nI i &&& 31) else 0)
def mwbF (N : MPl) (M : MLn) (c : Nat) : Int32 := it (mwbB M c) 0 (nN N)
def mwtB2 (N : MPl) (M : MLn) (s : Int32) (i : Nat) : Int32 := s + (if mis M i = 3 then nwo N i else 0)
def mwthF (N : MPl) (M : MLn) : Int32 := it (mwtB2 N M) 0 (nN N)
