/-! Pure words: what each call of the reference answers and does. -/
abbrev isM (N : MPl) (x : Int32) : Bool := inB x 0 (nI (nN N) - 1)
def mwrR (X : TxS) (x : Int32) : Int32 := if inB x 32 126 = true then (if nI (tN X) = 200 then -3 else nI (tN X + 1)) else -1
def mwrF (X : TxS) (x : Int32) : TxS := if inB x 32 126 = true then (if nI (tN X) = 200 then X else (upd (tF X) (tN X) x, tN X + 1)) else X
def mcaR (N : MPl) (M : MLn) (x y : Int32) : Int32 := if isM N x = true then (if inB y 0 6 = true then (if y = 0 then nki N (tn x) else if y = 1 then nca N (tn x) else if y = 2 then nbe N (tn x) else if y = 3 then nwo N (tn x) else if y = 4 then mis M (tn x) else if y = 5 then mwa M (tn x) else (if mis M (tn x) = 1 then (if 1048576 ≤ mbeF N M (tn x) then -4 else mbeF N M (tn x)) else -4)) else -1) else -1
def moA (ok : Bool) (M : MLn) (f : Nat → Int32) (u : Nat) : Nat → Int32 := if ok = true then ntA M f u else f
def moU (ok : Bool) (u : Nat) : Nat := if ok = true then ntU u else u
def mpaOk (M : MLn) (x : Int32) : Bool := if inB x 1 40 = true then decide (mmi M + x ≤ 999) else false
def mpaF (N : MPl) (M : MLn) (x : Int32) : MLn := if mpaOk M x = true then mgsF N M (tn x) else M
def mpaR (N : MPl) (M : MLn) (x : Int32) : Int32 := if inB x 1 40 = true then (if mmi M + x ≤ 999 then mmi (mgsF N M (tn x)) else -2) else -1
def mhaOk (N : MPl) (M : MLn) (x : Int32) : Bool := if isM N x = true then decide (mis M (tn x) = 1) else false
def mhaF (N : MPl) (M : MLn) (x : Int32) : MLn := if mhaOk N M x = true then mhgF M (tn x) else M
def mhaR (N : MPl) (M : MLn) (x : Int32) : Int32 := if isM N x = true then (if mis M (tn x) = 1 then mwa M (tn x) else -2) else -1
def mreOk (N : MPl) (M : MLn) (x : Int32) : Bool := if isM N x = true then (if mis M (tn x) = 3 then true else if mis M (tn x) = 4 then true else false) else false
def mreF (N : MPl) (M : MLn) (x : Int32) : MLn := if mreOk N M x = true then mrcF M (tn x) else M
def mreR (N : MPl) (M : MLn) (x : Int32) : Int32 := if isM N x = true then (if mis M (tn x) = 3 then 1 else if mis M (tn x) = 4 then 0 else -2) else -1
def mseF (M : MLn) (x : Int32) : MLn := (mis M, mwa M, mca M, mta M, man M, mor M, mmi M, x, mru M)
def mruF (M : MLn) (x : Int32) : MLn := (mis M, mwa M, mca M, mta M, man M, mor M, mmi M, mse M, x)
def msvV (M : MLn) (x : Int32) : Int32 := if x = 1 then mse M + 1 else mse M - 1
def msfOk (M : MLn) (x : Int32) : Bool := if inB x 0 1 = true then inB (msvV M x) 1 4 else false
def msfF (M : MLn) (x : Int32) : MLn := if msfOk M x = true then mseF M (msvV M x) else M
def msfR (M : MLn) (x : Int32) : Int32 := if inB x 0 1 = true then (if inB (msvV M x) 1 4 = true then msvV M x else -2) else -1
def mrlOk (M : MLn) (x : Int32) : Bool := if inB x 0 2 = true then decide (¬ x = mru M) else false
def mrlF (M : MLn) (x : Int32) : MLn := if mrlOk M x = true then mruF M x else M
def mrlR (M : MLn) (x : Int32) : Int32 := if inB x 0 2 = true then (if x = mru M then -2 else mru M) else -1
def mbeR (N : MPl) (M : MLn) (x y : Int32) : Int32 := if inB x 0 60 = true then (if isM N y = true then mis (mgsF N M (tn x)) (tn y) else -1) else -1
def mtaR (N : MPl) (M : MLn) (x : Int32) : Int32 := if isM N x = true then mtfF N (tn x) 60 0 M else -1
def mlfF (N : MPl) (c : Nat) : Nat → Nat → MLn → Int32
  | 0, i, M => if mis M c = 3 then nI i else if mis M c = 4 then nI i else -4
  | k + 1, i, M => if mis M c = 3 then nI i else if mis M c = 4 then nI i else mlfF N c k (i + 1) (mgoF N M)
def mlfR (N : MPl) (M : MLn) (x : Int32) : Int32 := if isM N x = true then mlfF N (tn x) 60 0 M else -1
def mnuR (N : MPl) (M : MLn) (x : Int32) : Int32 := if isM N x = true then (if mis M (tn x) = 1 then mahF N M (tn x) else -2) else -1
def mmbV (N : MPl) (M : MLn) (c d : Nat) : Int32 := mtfF N c (60 - d) 0 (mrcF (mgsF N (mhgF M c) d) c)
def magB (N : MPl) (M : MLn) (c : Nat) (s : Int32 × Int32) (d : Nat) : Int32 × Int32 := if mmbV N M c d = -4 then s else if s.2 ≤ nI d + mmbV N M c d then s else (nI d, nI d + mmbV N M c d)
def magF (N : MPl) (M : MLn) (c : Nat) : Int32 × Int32 := it (magB N M c) (-4, 1048576) 21
def magR (N : MPl) (M : MLn) (x y : Int32) : Int32 := if isM N x = true then (if inB y 0 1 = true then (if mis M (tn x) = 1 then (if (magF N M (tn x)).1 = -4 then (magF N M (tn x)).1 else if y = 0 then (magF N M (tn x)).1 else (magF N M (tn x)).2) else -2) else -1) else -1
def mtoB (M : MLn) (s : Int32) (i : Nat) : Int32 := s ||| (if mis M i = 0 then (1 : Int32) <<< (nI i &&& 31) else if mis M i = 1 then (1 : Int32) <<< (nI i &&& 31) else 0)
def mtoF (N : MPl) (M : MLn) : Int32 := it (mtoB M) 0 (nN N)
def mwsB (N : MPl) (w : Int32) (Z : MLn) (s : Int32) (i : Nat) : Int32 := s + (if bitB w i = true then (if mtkb Z i = true then nwo N i else 0) else 0)
def mwsF (N : MPl) (M : MLn) (x : Int32) : Int32 := it (mwsB N (mtoF N M) (mgsF N (mruF M x) 60)) 0 (nN N)
def mbsB (N : MPl) (M : MLn) (s : Int32 × Int32) (i : Nat) : Int32 × Int32 := (if mwsF N M (nI i) ≤ s.2 then s.1 else nI i, grF s.2 (mwsF N M (nI i)))
def mbsF (N : MPl) (M : MLn) : Int32 × Int32 := it (mbsB N M) (0, -4) 3
def mbsR (N : MPl) (M : MLn) (y : Int32) : Int32 := if inB y 0 1 = true then (if y = 0 then (mbsF N M).1 else (mbsF N M).2) else -1
def mneB (N : MPl) (M : MLn) (s : Int32) (i : Nat) : Int32 := if mloF N (mseF M (nI (4 - i))) = 0 then nI (4 - i) else s
def mneF (N : MPl) (M : MLn) : Int32 := it (mneB N M) (-4) 4
def mhlB (N : MPl) (M : MLn) (s : Int32 × Int32) (i : Nat) : Int32 × Int32 := if mis M i = 1 then (if s.2 ≤ mloF N (mhgF M i) then s else (nI i, mloF N (mhgF M i))) else s
def mhlF (N : MPl) (M : MLn) : Int32 × Int32 := it (mhlB N M) (-4, 1048576) (nN N)
def mhlR (N : MPl) (M : MLn) (y : Int32) : Int32 := if inB y 0 1 = true then (if (mhlF N M).1 = -4 then (mhlF N M).1 else if y = 0 then (mhlF N M).1 else (mhlF N M).2) else -1
def mlnB (w : Int32) (Z : MLn) (s : Int32 × Int32) (i : Nat) : Int32 × Int32 := (if bitB w i = true then (if mwa Z i ≤ s.2 then s.1 else nI i) else s.1, if bitB w i = true then grF s.2 (mwa Z i) else s.2)
def mlnF (N : MPl) (M : MLn) : Int32 × Int32 := it (mlnB (mtoF N M) (mgsF N M 60)) (-4, -4) (nN N)
def mlnR (N : MPl) (M : MLn) (y : Int32) : Int32 := if inB y 0 1 = true then (if y = 0 then (mlnF N M).1 else (mlnF N M).2) else -1
def msnOk (N : MPl) (S : SiS) (x y z : Int32) : Bool := if isM N x = true then (if inB y 1 40 = true then (if inB z 0 1 = true then (if nI (siZ S) = 6 then false else true) else false) else false) else false
def msnF (N : MPl) (S : SiS) (x y z : Int32) : SiS := if msnOk N S x y z = true then sWF S x y z else S
def msnR (N : MPl) (S : SiS) (x y z : Int32) : Int32 := if isM N x = true then (if inB y 1 40 = true then (if inB z 0 1 = true then (if nI (siZ S) = 6 then -3 else nI (siZ S + 1)) else -1) else -1) else -1
def mkeA (M : MLn) (f : Nat → Int32) (k : Nat) : Nat → Int32 := if k = 2 then f else layF M (44 * k) f
def mkeZ (k : Nat) : Nat := if k = 2 then k else k + 1
def mkeR (k : Nat) : Int32 := if k = 2 then -3 else nI (k + 1)
def mcuR (X : TxS) (N : MPl) (M : MLn) (S : SiS) (um km : Nat) (y : Int32) : Int32 := if inB y 0 12 = true then (if y = 0 then nI (nN N) else if y = 1 then mmi M else if y = 2 then mctF (mis M) 1 (nN N) else if y = 3 then mctF (mis M) 2 (nN N) else if y = 4 then mctF (mis M) 3 (nN N) else if y = 5 then mctF (mis M) 4 (nN N) else if y = 6 then mse M else if y = 7 then nea N else if y = 8 then mru M else if y = 9 then nI (siZ S) else if y = 10 then nI um else if y = 11 then nI km else nI (tN X)) else -1
