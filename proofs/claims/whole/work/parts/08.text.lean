/-! Pure words: Plan's and Text's methods, Sightings, Shelf. -/
abbrev TxS : Type := (Nat → Int32) × Nat
abbrev tF (T : TxS) : Nat → Int32 := T.1
abbrev tN (T : TxS) : Nat := T.2
abbrev SiS : Type := (Nat → Int32) × (Nat → Int32) × (Nat → Int32) × Nat
abbrev siW (T : SiS) : Nat → Int32 := T.1
abbrev siT (T : SiS) : Nat → Int32 := T.2.1
abbrev siG (T : SiS) : Nat → Int32 := T.2.2.1
abbrev siZ (T : SiS) : Nat := T.2.2.2
def inB (x lo hi : Int32) : Bool := if x < lo then false else if hi < x then false else true
def clrF (P : PlS) : PlS := (pki P, pci P, ppa P, pwo P, 0, 1, 5, 0)
def acCok (P : PlS) (x y z w : Int32) : Bool := if (8 : Int32) ≤ nI (pN P) then false else if inB x 0 3 = true then (if inB y 0 40 = true then (if inB z 1 30 = true then (if inB w 0 60 = true then true else false) else false) else false) else false
def acCF (P : PlS) (x y z w : Int32) : PlS := if acCok P x y z w = true then (upd (pki P) (pN P) x, upd (pci P) (pN P) y, upd (ppa P) (pN P) z, upd (pwo P) (pN P) w, pN P + 1, pse P, pme P, pru P) else P
def acSok (x y : Int32) : Bool := if inB x 1 4 = true then (if inB y 1 20 = true then true else false) else false
def acSF (P : PlS) (x y : Int32) : PlS := if acSok x y = true then (pki P, pci P, ppa P, pwo P, pN P, x, y, pru P) else P
def acRok (x : Int32) : Bool := if inB x 0 2 = true then true else false
def acRF (P : PlS) (x : Int32) : PlS := if acRok x = true then (pki P, pci P, ppa P, pwo P, pN P, pse P, pme P, x) else P
def accOk (P : PlS) (x : Int32) (f : Nat → Int32) : Bool := if x = 99 then acCok P (f 0) (f 1) (f 2) (f 3) else if x = 114 then acRok (f 0) else if x = 115 then acSok (f 0) (f 1) else false
def accF (P : PlS) (x : Int32) (f : Nat → Int32) : PlS := if x = 99 then acCF P (f 0) (f 1) (f 2) (f 3) else if x = 114 then acRF P (f 0) else if x = 115 then acSF P (f 0) (f 1) else P
theorem nI_lt8 {a : Nat} (h : ¬ (8 : Int32) ≤ nI a) (ha : a < 2 ^ 31) : a < 8 := by
  rcases Nat.lt_or_ge a 8 with q | q
  · exact q
  · exact absurd (show nI 8 ≤ nI a from nI_le q ha) h
theorem nI_lt200 {a : Nat} (h : ¬ (200 : Int32) ≤ nI a) (ha : a < 2 ^ 31) : a < 200 := by
  rcases Nat.lt_or_ge a 200 with q | q
  · exact q
  · exact absurd (show nI 200 ≤ nI a from nI_le q ha) h
theorem nI_lt_of {a b : Nat} (h : ¬ nI b ≤ nI a) (ha : a < 2 ^ 31) : a < b := by
  rcases Nat.lt_or_ge a b with q | q
  · exact q
  · exact absurd (nI_le q ha) h
theorem nI_ge_of {a b : Nat} (h : nI b ≤ nI a) (hb : b < 2 ^ 31) : b ≤ a := by
  rcases Nat.lt_or_ge a b with q | q
  · exact absurd h (nI_ge q hb)
  · exact q
theorem nI_inj {a b : Nat} (h : nI a = nI b) (ha : a < 2 ^ 31) (hb : b < 2 ^ 31) : a = b := (nI_eq ha hb).mp h
def apF (T : TxS) (a : Nat) : TxS := if (200 : Int32) ≤ nI (tN T) then T else (upd (tF T) (tN T) (nI a), tN T + 1)
def digB (T : TxS) (a : Nat) : Bool := if nI (tN T) ≤ nI a then false else if tF T a < 48 then false else if 57 < tF T a then false else true
def figN (T : TxS) (a : Nat) : Nat := if digB T a = true then (if digB T (a + 1) = true then 2 else 1) else 0
def valF (T : TxS) (a : Nat) (x : Int32) : Int32 := if x = 2 then 10 * (tF T a - 48) + tF T (a + 1) - 48 else tF T a - 48
def nbN (x : Int32) : Nat := if x = 99 then 4 else if x = 114 then 1 else if x = 115 then 2 else 0
/-- one number of an item: place, numbers before; none: not so -/
def rdB (T : TxS) (d : Nat) (o : Option (Nat × (Nat → Int32))) (i : Nat) : Option (Nat × (Nat → Int32)) := match o with
  | none => none
  | some (a, g) => if figN T a = 0 then none else if nI (tN T) ≤ nI (a + figN T a) then none else
    if tF T (a + figN T a) = (if nI i = nI d - 1 then 59 else 44) then some (a + figN T a + 1, upd g i (valF T a (nI (figN T a)))) else none
def rdI (T : TxS) (d a : Nat) (g : Nat → Int32) (i : Nat) : Option (Nat × (Nat → Int32)) := it (rdB T d) (some (a + 1, g)) i
def sWF (W : SiS) (x y z : Int32) : SiS := (upd (siW W) (siZ W) x, upd (siT W) (siZ W) y, upd (siG W) (siZ W) z, siZ W + 1)
theorem vp_b2i (b : Bool) : vp_nar .boolean (b2i b) = b2i b := by cases b <;> rfl
theorem vp_nI {a : Nat} (h : a < 65536) : vp_nar .char (nI a) = nI a := by
  have := (pk_charN h).1
  unfold vp_nar
  rw [this]
theorem rem_nI {a b n : Nat} (h : a + b < 2 ^ 31) (h0 : 0 < n) (hn : n < 2 ^ 31) : nI a + nI b - (nI a + nI b) / nI n * nI n = nI ((a + b) % n) := by
  rw [nI_add]; exact pk_rem h h0 hn
theorem rem8 {a b : Nat} (h : a + b < 2 ^ 31) : nI a + nI b - (nI a + nI b) / 8 * 8 = nI ((a + b) % 8) := rem_nI h (by decide) (by decide)
theorem rem2 {a b : Nat} (h : a + b < 2 ^ 31) : nI a + nI b - (nI a + nI b) / 2 * 2 = nI ((a + b) % 2) := rem_nI h (by decide) (by decide)
theorem rem8' {a : Nat} (h : a < 2 ^ 31) : nI a - nI a / 8 * 8 = nI (a % 8) := pk_rem (d := 8) h (by decide) (by decide)
theorem rem2' {a : Nat} (h : a < 2 ^ 31) : nI a - nI a / 2 * 2 = nI (a % 2) := pk_rem (d := 2) h (by decide) (by decide)
/-- a shelf of n places: the oldest one's place, how many, behind a putting -/
def spO (n o z : Nat) : Nat := if z = n then (o + 1) % n else o
def spZ (n z : Nat) : Nat := if z = n then n else z + 1
def spK (n o z : Nat) : Nat := if z = n then ((o + 1) % n + (n - 1)) % n else (o + z) % n
def gvL (n : Nat) (ls : Nat → LnS) (o z : Nat) (L : LnS) : LnS := if z = 0 then L else ls ((o + (z - 1)) % n)
theorem nbN_le (x : Int32) : nbN x ≤ 4 := by unfold nbN; split <;> (try split) <;> (try split) <;> omega
theorem figN_lt {T : TxS} {a : Nat} (h : ¬ figN T a = 0) (ha : a < 2 ^ 31) : a < tN T := by
  unfold figN at h
  by_cases c : digB T a = true
  · unfold digB at c
    by_cases c2 : nI (tN T) ≤ nI a
    · rw [if_pos c2] at c; cases c
    · exact nI_lt_of c2 ha
  · rw [if_neg c] at h; exact absurd rfl h
theorem figN_2 {T : TxS} {a : Nat} (h : figN T a = 2) (ha : a + 1 < 2 ^ 31) : a + 1 < tN T := by
  unfold figN at h
  by_cases c : digB T a = true
  · rw [if_pos c] at h
    by_cases c1 : digB T (a + 1) = true
    · unfold digB at c1
      by_cases c2 : nI (tN T) ≤ nI (a + 1)
      · rw [if_pos c2] at c1; cases c1
      · exact nI_lt_of c2 ha
    · rw [if_neg c1] at h; cases h
  · rw [if_neg c] at h; cases h
theorem figN_le (T : TxS) (a : Nat) : figN T a ≤ 2 := by
  unfold figN; split <;> (try split) <;> omega
theorem rdI_none {T : TxS} {d a : Nat} {g : Nat → Int32} {i : Nat} (h : rdI T d a g i = none) (N : Nat) (hN : i ≤ N) : rdI T d a g N = none := by
  have h' : it (rdB T d) (some (a + 1, g)) i = none := h
  show it (rdB T d) (some (a + 1, g)) N = none
  rw [it_stuck (i := i) (fun j => by rw [h']; rfl) N hN]; exact h'
theorem rdI_le {T : TxS} {d a : Nat} {g : Nat → Int32} (ha : a < tN T) (hT : tN T ≤ 200) : ∀ (i b : Nat) (g' : Nat → Int32), rdI T d a g i = some (b, g') → b ≤ tN T := by
  intro i
  induction i with
  | zero => intro b g' h; cases h; omega
  | succ i ih =>
    intro b g' h
    have h' : rdB T d (rdI T d a g i) i = some (b, g') := h
    cases ho : rdI T d a g i with
    | none => rw [ho] at h'; cases h'
    | some q =>
      obtain ⟨b0, g0⟩ := q
      rw [ho] at h'
      have hb := ih b0 g0 ho
      have hf := figN_le T b0
      simp only [rdB] at h'
      split at h'
      · cases h'
      · split at h'
        · cases h'
        · rename_i c2
          have := nI_lt_of c2 (by omega)
          by_cases c3 : tF T (b0 + figN T b0) = (if nI i = nI d - 1 then 59 else 44)
          · rw [if_pos c3] at h'; cases h'; omega
          · rw [if_neg c3] at h'; cases h'
/-- an item from place a: the place behind it (none: not so), the plan then -/
def rItF (T : TxS) (a : Nat) (g : Nat → Int32) (P : PlS) : Option Nat := if nbN (tF T a) = 0 then none else match rdI T (nbN (tF T a)) a g (nbN (tF T a)) with
  | none => none
  | some q => if accOk P (tF T a) q.2 = true then some q.1 else none
def rItP (T : TxS) (a : Nat) (g : Nat → Int32) (P : PlS) : PlS := if nbN (tF T a) = 0 then P else match rdI T (nbN (tF T a)) a g (nbN (tF T a)) with
  | none => P
  | some q => accF P (tF T a) q.2
theorem rdI_rel (T : TxS) (d a : Nat) (g g' : Nat → Int32) : ∀ i, (rdI T d a g i = none ∧ rdI T d a g' i = none) ∨ ∃ b x y, rdI T d a g i = some (b, x) ∧ rdI T d a g' i = some (b, y) ∧ ∀ j, j < i → x j = y j := by
  intro i
  induction i with
  | zero => exact Or.inr ⟨a + 1, g, g', rfl, rfl, fun j h => absurd h (Nat.not_lt_zero j)⟩
  | succ i ih =>
    rcases ih with ⟨h1, h2⟩ | ⟨b, x, y, h1, h2, h3⟩
    · exact Or.inl ⟨rdI_none h1 _ (Nat.le_succ i), rdI_none h2 _ (Nat.le_succ i)⟩
    · have e1 : rdI T d a g (i + 1) = rdB T d (some (b, x)) i := by show rdB T d (rdI T d a g i) i = _; rw [h1]
      have e2 : rdI T d a g' (i + 1) = rdB T d (some (b, y)) i := by show rdB T d (rdI T d a g' i) i = _; rw [h2]
      rw [e1, e2]
      simp only [rdB]
      split
      · exact Or.inl ⟨rfl, rfl⟩
      · split
        · exact Or.inl ⟨rfl, rfl⟩
        · by_cases c3 : tF T (b + figN T b) = (if nI i = nI d - 1 then 59 else 44)
          · rw [if_pos c3, if_pos c3]
            refine Or.inr ⟨_, _, _, rfl, rfl, fun j hj => ?_⟩
            by_cases c : j = i
            · subst c; rw [pk_us, pk_us]
            · rw [pk_un c, pk_un c]; exact h3 j (by omega)
          · rw [if_neg c3, if_neg c3]; exact Or.inl ⟨rfl, rfl⟩
theorem nbN_99 {x : Int32} (h : x = 99) : nbN x = 4 := by rw [h]; rfl
theorem acc_cg {P : PlS} {x : Int32} {f f' : Nat → Int32} (h : ∀ j, j < nbN x → f j = f' j) : accOk P x f = accOk P x f' ∧ accF P x f = accF P x f' := by
  unfold accOk accF
  by_cases c1 : x = 99
  · have e : nbN x = 4 := by rw [c1]; rfl
    simp only [c1, if_true, h 0 (by omega), h 1 (by omega), h 2 (by omega), h 3 (by omega), and_self]
  · by_cases c2 : x = 114
    · have e : nbN x = 1 := by rw [c2]; rfl
      simp only [if_neg c1, if_pos c2, h 0 (by omega), and_self]
    · by_cases c3 : x = 115
      · have e : nbN x = 2 := by rw [c3]; rfl
        simp only [if_neg c1, if_neg c2, if_pos c3, h 0 (by omega), h 1 (by omega), and_self]
      · simp only [if_neg c1, if_neg c2, if_neg c3, and_self]
theorem rIt_indep (T : TxS) (a : Nat) (g g' : Nat → Int32) (P : PlS) : rItF T a g P = rItF T a g' P ∧ rItP T a g P = rItP T a g' P := by
  unfold rItF rItP
  by_cases c : nbN (tF T a) = 0
  · simp only [if_pos c, and_self]
  · simp only [if_neg c]
    rcases rdI_rel T (nbN (tF T a)) a g g' (nbN (tF T a)) with ⟨h1, h2⟩ | ⟨b, x, y, h1, h2, h3⟩
    · rw [h1, h2]; exact ⟨rfl, rfl⟩
    · rw [h1, h2]
      have := acc_cg (P := P) h3
      simp only [this.1, this.2, and_self]
def g0 : Nat → Int32 := fun _ => 0
def riF (T : TxS) : Nat → Nat → PlS → Int32 × PlS
  | 0, _, P => (-4, P)
  | k + 1, a, P => if nI (tN T) ≤ nI a then (-4, P) else match rItF T a g0 P with
    | none => (nI a, rItP T a g0 P)
    | some b => riF T k b (rItP T a g0 P)
def rinF (T : TxS) (P : PlS) : Int32 × PlS := riF T 200 0 (clrF P)
theorem accF_N {P : PlS} {x : Int32} {f : Nat → Int32} (h : pN P ≤ 8) : pN (accF P x f) ≤ 8 := by
  unfold accF acCF acRF acSF
  split
  · split
    · rename_i c
      unfold acCok at c
      split at c
      · cases c
      · rename_i c0
        have := nI_lt8 c0 (by omega)
        show pN P + 1 ≤ 8
        omega
    · exact h
  · split
    · split <;> exact h
    · split
      · split <;> exact h
      · exact h
theorem rItP_N {T : TxS} {a : Nat} {g : Nat → Int32} {P : PlS} (h : pN P ≤ 8) : pN (rItP T a g P) ≤ 8 := by
  unfold rItP
  split
  · exact h
  · split
    · exact h
    · exact accF_N h
theorem rItF_le {T : TxS} {a b : Nat} {g : Nat → Int32} {P : PlS} (ha : a < tN T) (hT : tN T ≤ 200) (h : rItF T a g P = some b) : b ≤ tN T := by
  unfold rItF at h
  split at h
  · cases h
  · split at h
    · cases h
    · rename_i q hq
      split at h
      · cases h; exact rdI_le ha hT _ _ _ hq
      · cases h
