def mad3 (M : MLn) (q : Int32) : MLn := if q = 3 then (if mse M ≤ 1 then M else mseF M (mse M - 1)) else M
def mad2 (M : MLn) (q : Int32) : MLn := if q = 2 then (if 4 ≤ mse M then mad3 M q else mseF M (mse M + 1)) else mad3 M q
def mad1 (M : MLn) (c : Nat) (q : Int32) : MLn := if q = 1 then (if mis M c = 3 then mrcF M c else if mis M c = 4 then mrcF M c else mad2 M q) else mad2 M q
def madF (M : MLn) (c : Nat) (q : Int32) : MLn := if q = 0 then (if mis M c = 1 then mhgF M c else mad1 M c q) else mad1 M c q
def mdyB (N : MPl) (z : Nat) (X : MLn) (i : Nat) : MLn := mgoF N (madF X (drN z i % nN N) (nI (drN z i / 8 % 6)))
def mdyF (N : MPl) (M : MLn) (z n : Nat) : MLn := it (mdyB N z) M n
def mdyR (N : MPl) (M : MLn) (x y z : Int32) : Int32 := if inB x 0 9999 = true then (if inB y 1 60 = true then (if inB z 0 2 = true then (if z = 0 then mctF (mis (mdyF N M (tn x) (tn y))) 3 (nN N) else if z = 1 then mctF (mis (mdyF N M (tn x) (tn y))) 4 (nN N) else mwthF N (mdyF N M (tn x) (tn y))) else -1) else -1) else -1
