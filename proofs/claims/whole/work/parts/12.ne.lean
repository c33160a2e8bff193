/-! Pure words: what each call of NumberEleven answers and does. -/
def tn (x : Int32) : Nat := x.toNatClampNeg
theorem tn_nI {a : Nat} (h : a < 2 ^ 31) : tn (nI a) = a := nI_clamp h
theorem i2c_nI {a : Nat} (h : a < 65536) : ((nI a).toUInt32 % 65536).toInt32 = nI a := by
  rw [pk_char, pk_tn (by omega), Nat.mod_eq_of_lt h]
/-- a number between two written ones -/
theorem inB_nat {x lo hi : Int32} {a b : Nat} (hlo : lo = nI a) (hhi : hi.toInt = (b : Int)) (ha : a < 2 ^ 31) (h : inB x lo hi = true) : ∃ j : Nat, a ≤ j ∧ j ≤ b ∧ j < 2 ^ 31 ∧ x = nI j := by
  unfold inB at h
  by_cases c1 : x < lo
  · rw [if_pos c1] at h; cases h
  · rw [if_neg c1] at h
    by_cases c2 : hi < x
    · rw [if_pos c2] at h; cases h
    · have h1 : lo.toInt ≤ x.toInt := Int32.le_iff_toInt_le.mp (Int32.not_lt.mp c1)
      have h2 : x.toInt ≤ hi.toInt := Int32.le_iff_toInt_le.mp (Int32.not_lt.mp c2)
      have h3 := Int32.toInt_lt x
      rw [hlo, nI_toInt ha] at h1
      have hj : x.toInt.toNat < 2 ^ 31 := by omega
      refine ⟨x.toInt.toNat, by omega, by omega, hj, ?_⟩
      apply Int32.toInt_inj.mp
      rw [nI_toInt hj]; omega
theorem isC_nat {N : Nat} {x : Int32} (hN : N ≤ 8) (h : inB x 0 (nI N - 1) = true) : ∃ j : Nat, j < N ∧ x = nI j := by
  rcases Nat.eq_zero_or_pos N with h0 | h0
  · subst h0
    exfalso
    unfold inB at h
    by_cases c1 : x < 0
    · rw [if_pos c1] at h; cases h
    · rw [if_neg c1] at h
      by_cases c2 : nI 0 - 1 < x
      · rw [if_pos c2] at h; cases h
      · have h1 : (0 : Int32).toInt ≤ x.toInt := Int32.le_iff_toInt_le.mp (Int32.not_lt.mp c1)
        have h2 : x.toInt ≤ (nI 0 - 1).toInt := Int32.le_iff_toInt_le.mp (Int32.not_lt.mp c2)
        have e1 : (0 : Int32).toInt = 0 := rfl
        have e2 : (nI 0 - 1).toInt = -1 := rfl
        omega
  · obtain ⟨M, rfl⟩ : ∃ M, N = M + 1 := ⟨N - 1, by omega⟩
    rw [nI_pred] at h
    obtain ⟨j, -, h2, -, h4⟩ := inB_nat (a := 0) (b := M) rfl (nI_toInt (by omega)) (by omega) h
    exact ⟨j, by omega, h4⟩
theorem isC_of {N j : Nat} (hN : N ≤ 8) (h : j < N) : inB (nI j) 0 (nI N - 1) = true := by
  obtain ⟨M, rfl⟩ : ∃ M, N = M + 1 := ⟨N - 1, by omega⟩
  rw [nI_pred]
  unfold inB
  rw [if_neg (nI_pos (by omega)), if_neg (nI_nlt (by omega) (by omega))]
abbrev isC (P : PlS) (x : Int32) : Bool := inB x 0 (nI (pN P) - 1)
def wrR (T : TxS) (x : Int32) : Int32 := if inB x 32 126 = true then (if nI (tN T) = 200 then -3 else nI (tN T + 1)) else -1
def wrF (T : TxS) (x : Int32) : TxS := if inB x 32 126 = true then (if nI (tN T) = 200 then T else (upd (tF T) (tN T) x, tN T + 1)) else T
def layOk (T : TxS) (O : PlS) : Bool := if (rinF T O).1 = -4 then (if nI (pN (rinF T O).2) = 0 then false else true) else false
def callerF (P : PlS) (L : LnS) (x y : Int32) : Int32 := if isC P x = true then (if y = 0 then pki P (tn x) else if y = 1 then pci P (tn x) else if y = 2 then ppa P (tn x) else if y = 3 then pwo P (tn x) else if y = 4 then lst L (tn x) else if y = 5 then lwa L (tn x) else if y = 6 then (if lst L (tn x) = 1 then mostF P (tn x) (cahF P L (tn x)) else -4) else -1) else -1
/-- what is put away when an act is done -/
def peS (ok : Bool) (es : Nat → LnS) (eo ez : Nat) (L : LnS) : Nat → LnS := if ok = true then va_up es (spK 8 eo ez) L else es
def peO (ok : Bool) (eo ez : Nat) : Nat := if ok = true then spO 8 eo ez else eo
def peZ (ok : Bool) (ez : Nat) : Nat := if ok = true then spZ 8 ez else ez
def paOk (L : LnS) (x : Int32) : Bool := if inB x 1 40 = true then decide (lmi L + x ≤ 999) else false
def paF (P : PlS) (L : LnS) (x : Int32) : LnS := if paOk L x = true then gosF P L (tn x) else L
def paR (P : PlS) (L : LnS) (x : Int32) : Int32 := if inB x 1 40 = true then (if lmi L + x ≤ 999 then lmi (gosF P L (tn x)) else -2) else -1
def haOk (P : PlS) (L : LnS) (x : Int32) : Bool := if isC P x = true then decide (lst L (tn x) = 1) else false
def haF (P : PlS) (L : LnS) (x : Int32) : LnS := if haOk P L x = true then hangF L (tn x) else L
def haR (P : PlS) (L : LnS) (x : Int32) : Int32 := if isC P x = true then (if lst L (tn x) = 1 then lwa L (tn x) else -2) else -1
def reOk (P : PlS) (L : LnS) (x : Int32) : Bool := if isC P x = true then decide (lst L (tn x) = 3 ∨ lst L (tn x) = 4) else false
def reF (P : PlS) (L : LnS) (x : Int32) : LnS := if reOk P L x = true then recF L (tn x) else L
def reR (P : PlS) (L : LnS) (x : Int32) : Int32 := if isC P x = true then (if lst L (tn x) = 3 ∨ lst L (tn x) = 4 then (if lst L (tn x) = 3 then 1 else 0) else -2) else -1
def seF (L : LnS) (x : Int32) : LnS := (lst L, lwa L, lca L, lti L, lcg L, lco L, lmi L, x, lru L)
def ruF (L : LnS) (x : Int32) : LnS := (lst L, lwa L, lca L, lti L, lcg L, lco L, lmi L, lse L, x)
def svV (L : LnS) (x : Int32) : Int32 := if x = 1 then lse L + 1 else lse L - 1
def sfOk (L : LnS) (x : Int32) : Bool := if inB x 0 1 = true then inB (svV L x) 1 4 else false
def sfF (L : LnS) (x : Int32) : LnS := if sfOk L x = true then seF L (svV L x) else L
def sfR (L : LnS) (x : Int32) : Int32 := if inB x 0 1 = true then (if inB (svV L x) 1 4 = true then svV L x else -2) else -1
def rlOk (L : LnS) (x : Int32) : Bool := if inB x 0 2 = true then decide (¬ lru L = x) else false
def rlF (L : LnS) (x : Int32) : LnS := if rlOk L x = true then ruF L x else L
def rlR (L : LnS) (x : Int32) : Int32 := if inB x 0 2 = true then (if lru L = x then -2 else lru L) else -1
def unR (z : Nat) : Int32 := if z = 0 then -2 else nI (z - 1)
def beR (P : PlS) (L : LnS) (x y : Int32) : Int32 := if inB x 0 60 = true then (if isC P y = true then lst (gosF P L (tn x)) (tn y) else -1) else -1
abbrev takB (L : LnS) (c : Nat) : Bool := decide (lst L c = 2 ∨ lst L c = 3)
abbrev lefB (L : LnS) (c : Nat) : Bool := decide (lst L c = 3 ∨ lst L c = 4)
abbrev tobB (L : LnS) (c : Nat) : Bool := decide (lst L c = 1 ∨ lst L c = 0)
def mtF (P : PlS) (c : Nat) : Nat → Nat → LnS → Int32
  | 0, i, L => if takB L c = true then nI i else -4
  | k + 1, i, L => if takB L c = true then nI i else mtF P c k (i + 1) (goF P L)
def lfF (P : PlS) (c : Nat) : Nat → Nat → LnS → Int32
  | 0, i, L => if lefB L c = true then nI i else -4
  | k + 1, i, L => if lefB L c = true then nI i else lfF P c k (i + 1) (goF P L)
def taR (P : PlS) (L : LnS) (x : Int32) : Int32 := if isC P x = true then mtF P (tn x) 60 0 L else -1
def lfR (P : PlS) (L : LnS) (x : Int32) : Int32 := if isC P x = true then lfF P (tn x) 60 0 L else -1
def nuR (P : PlS) (L : LnS) (x : Int32) : Int32 := if isC P x = true then (if lst L (tn x) = 1 then cahF P L (tn x) else -2) else -1
def mbV (P : PlS) (L : LnS) (c d : Nat) : Int32 := mtF P c (60 - d) 0 (recF (gosF P (hangF L c) d) c)
def mbF (P : PlS) (L : LnS) (c d : Nat) : Int32 := if mbV P L c d = -4 then -4 else nI d + mbV P L c d
def agB (P : PlS) (L : LnS) (c : Nat) (s : Int32 × Int32) (d : Nat) : Int32 × Int32 := if mbF P L c d = -4 then s else if s.2 = -4 then (nI d, mbF P L c d) else if s.2 ≤ mbF P L c d then s else (nI d, mbF P L c d)
def agF (P : PlS) (L : LnS) (c : Nat) : Int32 × Int32 := it (agB P L c) (-4, -4) 21
def agR (P : PlS) (L : LnS) (x y : Int32) : Int32 := if isC P x = true then (if inB y 0 1 = true then (if lst L (tn x) = 1 then (if y = 0 then (agF P L (tn x)).1 else (agF P L (tn x)).2) else -2) else -1) else -1
def wsB (P : PlS) (L X : LnS) (n : Int32) (i : Nat) : Int32 := if tobB L i = true then (if takB X i = true then n + pwo P i else n) else n
def wsF (P : PlS) (L : LnS) (x : Int32) : Int32 := it (wsB P L (gosF P (ruF L x) 60)) 0 (pN P)
def bsB (P : PlS) (L : LnS) (s : Int32 × Int32) (i : Nat) : Int32 × Int32 := if wsF P L (nI (i + 1)) ≤ s.2 then s else (nI (i + 1), wsF P L (nI (i + 1)))
def bsF (P : PlS) (L : LnS) : Int32 × Int32 := it (bsB P L) (0, wsF P L 0) 2
def bsR (P : PlS) (L : LnS) (y : Int32) : Int32 := if inB y 0 1 = true then (if y = 0 then (bsF P L).1 else (bsF P L).2) else -1
def guF (P : PlS) (X : LnS) : Int32 := cntF (lst (gosF P X 60)) 4 (pN P) - cntF (lst X) 4 (pN P)
def neF (P : PlS) (L : LnS) : Nat → Nat → Int32
  | 0, _ => -4
  | k + 1, i => if guF P (seF L (nI i)) = 0 then nI i else neF P L k (i + 1)
def hlB (P : PlS) (L : LnS) (s : Int32 × Int32) (i : Nat) : Int32 × Int32 := if lst L i = 1 then (if s.1 = -4 then (nI i, guF P (hangF L i)) else if s.2 ≤ guF P (hangF L i) then s else (nI i, guF P (hangF L i))) else s
def hlF (P : PlS) (L : LnS) : Int32 × Int32 := it (hlB P L) (-4, -4) (pN P)
def hlR (P : PlS) (L : LnS) (y : Int32) : Int32 := if inB y 0 1 = true then (if y = 0 then (hlF P L).1 else (hlF P L).2) else -1
def loB (L X : LnS) (s : Int32 × Int32) (i : Nat) : Int32 × Int32 := if tobB L i = true then (if s.1 = -4 then (nI i, lwa X i) else if lwa X i ≤ s.2 then s else (nI i, lwa X i)) else s
def loF (P : PlS) (L : LnS) : Int32 × Int32 := it (loB L (gosF P L 60)) (-4, -4) (pN P)
def loR (P : PlS) (L : LnS) (y : Int32) : Int32 := if inB y 0 1 = true then (if y = 0 then (loF P L).1 else (loF P L).2) else -1
def snR (P : PlS) (W : SiS) (x y z : Int32) : Int32 := if isC P x = true then (if inB y 1 40 = true then (if inB z 0 1 = true then (if nI (siZ W) = 6 then -3 else nI (siZ W + 1)) else -1) else -1) else -1
def snOk (P : PlS) (W : SiS) (x y z : Int32) : Bool := if isC P x = true then (if inB y 1 40 = true then (if inB z 0 1 = true then (if nI (siZ W) = 6 then false else true) else false) else false) else false
def snF (P : PlS) (W : SiS) (x y z : Int32) : SiS := if snOk P W x y z = true then sWF W x y (if z = 1 then 1 else 0) else W
def keR (z : Nat) : Int32 := if z = 2 then -3 else nI (z + 1)
def cuR (T : TxS) (P : PlS) (L : LnS) (W : SiS) (ez kz : Nat) (y : Int32) : Int32 := if y = 0 then nI (pN P) else if y = 1 then lmi L else if y = 2 then cntF (lst L) 1 (pN P) else if y = 3 then cntF (lst L) 2 (pN P) else if y = 4 then cntF (lst L) 3 (pN P) else if y = 5 then cntF (lst L) 4 (pN P) else if y = 6 then lse L else if y = 7 then pme P else if y = 8 then lru L else if y = 9 then nI (siZ W) else if y = 10 then nI ez else if y = 11 then nI kz else if y = 12 then nI (tN T) else -1
def kpS (ks : Nat → LnS) (ko kz : Nat) (L : LnS) : Nat → LnS := if kz = 2 then ks else va_up ks (spK 2 ko kz) L
def kpZ (kz : Nat) : Nat := if kz = 2 then kz else kz + 1
def bkZ (kz ez : Nat) : Nat := if kz = 0 then ez else 0
/-- all that is seen of one is so, by the plan O: k sightings from the i-th on -/
def asF (O : PlS) (L : LnS) (W : SiS) (c : Nat) : Nat → Nat → Bool
  | 0, _ => true
  | k + 1, i => if siW W i = nI c then (if lst (gosF O L (tn (siT W i))) c = 4 then (if 1 = siG W i then asF O L W c k (i + 1) else false) else (if 0 = siG W i then asF O L W c k (i + 1) else false)) else asF O L W c k (i + 1)
def paP (P : PlS) (j : Nat) (x : Int32) : PlS := (pki P, pci P, upd (ppa P) j x, pwo P, pN P, pse P, pme P, pru P)
def kiP (P : PlS) (j : Nat) (x : Int32) : PlS := (upd (pki P) j x, pci P, ppa P, pwo P, pN P, pse P, pme P, pru P)
def besB (P : PlS) (L : LnS) (W : SiS) (j : Nat) (s : Int32 × Int32) (i : Nat) : Int32 × Int32 := if asF (paP P j (nI (i + 1))) L W j (siZ W) 0 = true then (s.1 + 1, if s.2 = -4 then nI (i + 1) else s.2) else s
def besF (P : PlS) (L : LnS) (W : SiS) (j : Nat) : Int32 × Int32 := it (besB P L W j) (0, -4) 30
def besR (P : PlS) (L : LnS) (W : SiS) (x y : Int32) : Int32 := if isC P x = true then (if inB y 0 1 = true then (if y = 0 then (besF P L W (tn x)).1 else (besF P L W (tn x)).2) else -1) else -1
def kisB (P : PlS) (L : LnS) (W : SiS) (j : Nat) (s : Int32) (i : Nat) : Int32 := if asF (kiP P j (nI i)) L W j (siZ W) 0 = true then s ||| ((1 : Int32) <<< (nI i &&& 31)) else s
def kisR (P : PlS) (L : LnS) (W : SiS) (x : Int32) : Int32 := if isC P x = true then it (kisB P L W (tn x)) 0 4 else -1
theorem upd_upd (f : Nat → Int32) (j : Nat) (x y : Int32) : upd (upd f j x) j y = upd f j y := by
  funext q
  by_cases c : q = j
  · subst c; rw [pk_us, pk_us]
  · rw [pk_un c, pk_un c, pk_un c]
def pwF (x : Int32) (k : Nat) : Int32 := it (fun a _ => a * x) 1 k
def cdF : Nat → Int32 → Int32 → Int32
  | 0, x, _ => x
  | k + 1, x, y => if y = 0 then x else cdF k y (x - x / y * y)
def drF (x y : Int32) : Int32 := (((7919 * x.toInt64 + 6151 * y.toInt64 + 1) * (7919 * x.toInt64 + 6151 * y.toInt64 + 1) - (7919 * x.toInt64 + 6151 * y.toInt64 + 1) * (7919 * x.toInt64 + 6151 * y.toInt64 + 1) / 65521 * 65521) / 2).toInt32
def drN (a b : Nat) : Nat := (7919 * a + 6151 * b + 1) * (7919 * a + 6151 * b + 1) % 65521 / 2
theorem drN_lt (a b : Nat) : drN a b < 65521 := by unfold drN; omega
theorem drF_N {a b : Nat} (ha : a ≤ 9999) (hb : b ≤ 60) : drF (nI a) (nI b) = nI (drN a b) := by
  have e1 : (7919 : Int64) = lN 7919 := rfl
  have e2 : (6151 : Int64) = lN 6151 := rfl
  have e3 : (1 : Int64) = lN 1 := rfl
  have e4 : (65521 : Int64) = lN 65521 := rfl
  have e5 : (2 : Int64) = lN 2 := rfl
  have hx : 7919 * a + 6151 * b + 1 ≤ 80000000 := by omega
  have hm : (7919 * a + 6151 * b + 1) * (7919 * a + 6151 * b + 1) < 2 ^ 63 := Nat.lt_of_le_of_lt (Nat.mul_le_mul hx hx) (by decide)
  unfold drF
  rw [nI_l (by omega), nI_l (by omega), e1, e2, e3, e4, e5, lN_mul, lN_mul, lN_add, lN_add, lN_mul, pk_lRem hm (by decide) (by decide), pk_lDiv (Nat.lt_trans (Nat.mod_lt _ (by decide)) (by decide)) (by decide) (by decide), lN_i]
  rfl
def owB (L : LnS) (c : Nat) (s : Int32) (i : Nat) : Int32 := if nI i = nI c then s else if lst L i = 1 then s ||| ((1 : Int32) <<< (nI i &&& 31)) else s
def owF (P : PlS) (L : LnS) (c : Nat) : Int32 := it (owB L c) 0 (pN P)
def us (x : Int32) (y : Int32) : Int32 := (x.toUInt32 >>> (y.toUInt32 &&& Int32.toUInt32 31)).toInt32
def bc1 (x : Int32) : Int32 := x - (us x 1 &&& 1431655765)
def bc2 (x : Int32) : Int32 := (x &&& 858993459) + (us x 2 &&& 858993459)
def bc3 (x : Int32) : Int32 := (x + us x 4) &&& 252645135
def bc4 (x : Int32) : Int32 := x + us x 8
def bc5 (x : Int32) : Int32 := x + us x 16
def bcF (x : Int32) : Int32 := bc5 (bc4 (bc3 (bc2 (bc1 x)))) &&& 63
def wgF (x h o : Int32) : Int32 := pwF x (tn (bcF h)) * pwF (10 - x) (tn (bcF o - bcF h))
def hgB (h : Int32) (X : LnS) (i : Nat) : LnS := if bitB h i = true then hangF X i else X
def wiF (P : PlS) (L : LnS) (c : Nat) (x h o : Int32) : Int32 := if wgF x h o = 0 then 0 else if mtF P c 60 0 (it (hgB h) L (pN P)) = -4 then 0 else wgF x h o
def lkB (P : PlS) (L : LnS) (c : Nat) (x o : Int32) (s : Int32) (i : Nat) : Int32 := if nI i &&& (o ^^^ -1) = 0 then s + wiF P L c x (nI i) o else s
def lkF (P : PlS) (L : LnS) (c : Nat) (x : Int32) : Int32 := it (lkB P L c x (owF P L c)) 0 (2 ^ pN P)
def lkW (P : PlS) (L : LnS) (c : Nat) : Int32 := pwF 10 (tn (bcF (owF P L c)))
def mx1 (x : Int32) : Int32 := if 1 < x then x else 1
def lkC (P : PlS) (L : LnS) (c : Nat) (x : Int32) : Int32 := mx1 (cdF 64 (lkW P L c) (lkF P L c x))
def lkR (P : PlS) (L : LnS) (x y z : Int32) : Int32 := if isC P x = true then (if inB y 0 10 = true then (if inB z 0 1 = true then (if z = 0 then lkF P L (tn x) y / lkC P L (tn x) y else lkW P L (tn x) / lkC P L (tn x) y) else -1) else -1) else -1
def adF (L : LnS) (c : Nat) (q : Nat) : LnS := if q = 0 then (if lst L c = 1 then hangF L c else L) else if q = 1 then (if lst L c = 3 ∨ lst L c = 4 then recF L c else L) else if q = 2 then seF L (if lse L + 1 < 4 then lse L + 1 else 4) else if q = 3 then seF L (if 1 < lse L - 1 then lse L - 1 else 1) else L
def dyB (P : PlS) (z : Nat) (X : LnS) (i : Nat) : LnS := goF P (adF X (drN z i % pN P) (drN z i / 8 % 6))
def dyF (P : PlS) (L : LnS) (z n : Nat) : LnS := it (dyB P z) L n
def dyR (P : PlS) (L : LnS) (x y z : Int32) : Int32 := if inB x 0 9999 = true then (if inB y 1 60 = true then (if inB z 0 2 = true then (if z = 0 then cntF (lst (dyF P L (tn x) (tn y))) 3 (pN P) else if z = 1 then cntF (lst (dyF P L (tn x) (tn y))) 4 (pN P) else wthF P (dyF P L (tn x) (tn y))) else -1) else -1) else -1
theorem bcF_lt : ∀ a : Fin 256, bcF (nI a) = nI (tn (bcF (nI a))) ∧ tn (bcF (nI a)) ≤ 8 := by decide +kernel
