/-! Chances: the class's sums are the reference's. -/
theorem tb_N {a : Nat} (ha : a < 256) {k : Nat} (hk : k < 8) : bitB (nI a) k = a.testBit k := by
  rw [bitB_q _ (by omega)]
  show ((nI a).toBitVec.toNat).testBit k = a.testBit k
  rw [pk_tn (by omega)]
def pcN (a : Nat) : Nat → Nat
  | 0 => 0
  | n + 1 => pcN a n + (if a.testBit n = true then 1 else 0)
theorem bc_pc : ∀ a : Fin 256, bcF (nI a.val) = nI (pcN a.val 8) := by decide +kernel
theorem pc_7 : ∀ a : Fin 256, ∀ c : Fin 8, a.val.testBit c.val = false → pcN a.val 8 ≤ 7 := by decide +kernel
theorem pc_le (a : Nat) (n : Nat) : pcN a n ≤ n := by
  induction n with
  | zero => exact Nat.le_refl 0
  | succ n ih => unfold pcN; split <;> omega
theorem pc_ext {a : Nat} {n : Nat} : ∀ d, (∀ k, n ≤ k → k < n + d → a.testBit k = false) → pcN a (n + d) = pcN a n := by
  intro d
  induction d with
  | zero => intro _; rfl
  | succ d ih =>
    intro h
    show pcN a (n + d) + (if a.testBit (n + d) = true then 1 else 0) = pcN a n
    rw [h (n + d) (by omega) (by omega), ih (fun k h1 h2 => h k h1 (by omega))]
    rfl
def cz (c : Nat) : Nat → Nat
  | 0 => 0
  | k + 1 => cz c k + (if k.testBit c = true then 0 else 1)
theorem cz_256 : ∀ c : Fin 8, cz c.val 256 = 128 := by decide +kernel
theorem cz_mono (c k d : Nat) : cz c k ≤ cz c (k + d) := by
  induction d with
  | zero => exact Nat.le_refl _
  | succ d ih =>
    show cz c k ≤ cz c (k + d) + (if (k + d).testBit c = true then 0 else 1)
    omega
theorem cz_le {c : Nat} (hc : c < 8) {k : Nat} (hk : k ≤ 256) : cz c k ≤ 128 := by
  have h := cz_mono c k (256 - k)
  rw [show k + (256 - k) = 256 by omega] at h
  have h2 : cz c 256 = 128 := cz_256 ⟨c, hc⟩
  omega
/-- the bits of one lie in the other -/
theorem sub_q {i o : Nat} (hi : i < 256) (ho : o < 256) (h : nI i &&& (nI o ^^^ -1) = 0) : ∀ k, k < 8 → i.testBit k = true → o.testBit k = true := by
  intro k hk hb
  have h1 : bq (nI i &&& (nI o ^^^ -1)) k = false := by rw [h]; exact BitVec.getLsbD_zero
  have h2 : bq (nI i &&& (nI o ^^^ -1)) k = (bq (nI i) k && (bq (nI o) k ^^ bq (-1) k)) := by
    unfold bq; rw [Int32.toBitVec_and, BitVec.getLsbD_and, Int32.toBitVec_xor, BitVec.getLsbD_xor]
  have h3 : bq (-1) k = true := by
    have : ∀ k, k < 8 → bq (-1) k = true := by decide +kernel
    exact this k hk
  have e1 : bq (nI i) k = i.testBit k := by rw [← bitB_q _ (by omega), tb_N hi hk]
  have e2 : bq (nI o) k = o.testBit k := by rw [← bitB_q _ (by omega), tb_N ho hk]
  rw [h1, e1, e2, h3, hb] at h2
  cases hv : o.testBit k with
  | true => rfl
  | false => rw [hv] at h2; exact absurd h2 (by decide)
theorem sub_le {i o : Nat} (hi : i < 256) (h : ∀ k, k < 8 → i.testBit k = true → o.testBit k = true) : i ≤ o := by
  have e : i &&& o = i := by
    apply Nat.eq_of_testBit_eq
    intro k
    rw [Nat.testBit_and]
    by_cases hk : k < 8
    · cases hb : i.testBit k with
      | true => rw [h k hk hb]; rfl
      | false => rfl
    · have : i.testBit k = false := Nat.testBit_lt_two_pow (Nat.lt_of_lt_of_le hi (show 2 ^ 8 ≤ 2 ^ k from Nat.pow_le_pow_right (by decide) (by omega)))
      rw [this]; rfl
  have := Nat.and_le_right (n := i) (m := o)
  omega
theorem ow_eq {P : PlS} {N : MPl} (hP : RP P N) {L : LnS} {M : MLn} (hL : QL (nN N) L M) (c : Nat) : owF P L c = mwbF N M c := by
  unfold owF mwbF
  rw [hP.1]
  have hall : ∀ k, k ≤ nN N → it (owB L c) 0 k = it (mwbB M c) 0 k := by
    intro k
    induction k with
    | zero => intro _; exact Eq.trans (b := (0 : Int32)) rfl rfl
    | succ k ih =>
      intro hk
      rw [it_succ, it_succ, ih (by omega)]
      generalize it (mwbB M c) 0 k = s
      unfold owB mwbB
      rw [(hL.1 k (by omega)).1]
      by_cases c1 : nI k = nI c
      · rw [if_pos c1, if_pos c1, Int32.or_zero]
      · rw [if_neg c1, if_neg c1]
        by_cases c2 : mis M k = 1
        · rw [if_pos c2, if_pos c2]
        · rw [if_neg c2, if_neg c2, Int32.or_zero]
  exact hall _ (Nat.le_refl _)
theorem ow_bits (M : MLn) {c : Nat} (hc : c < 8) : ∀ k, k ≤ 8 → ∀ j, j < 8 → bitB (it (mwbB M c) 0 k) j = (decide (j < k) && (!decide (j = c) && decide (mis M j = 1))) := by
  intro k
  induction k with
  | zero =>
    intro _ j hj
    show bitB 0 j = _
    rw [bitB_0 hj, decide_eq_false (Nat.not_lt_zero j)]; rfl
  | succ k ih =>
    intro hk j hj
    have ih := ih (by omega) j hj
    rw [it_succ]
    generalize it (mwbB M c) 0 k = s at ih ⊢
    have hd : j ≠ k → decide (j < k + 1) = decide (j < k) := fun e => by
      by_cases r : j < k
      · rw [decide_eq_true r, decide_eq_true (by omega)]
      · rw [decide_eq_false r, decide_eq_false (by omega)]
    unfold mwbB
    by_cases c1 : k = c
    · subst c1
      rw [if_pos rfl, Int32.or_zero, ih]
      by_cases e : j = k
      · subst e; simp
      · rw [hd e]
    · rw [if_neg (show ¬ nI k = nI c from fun z => c1 (nI_inj z (by omega) (by omega)))]
      by_cases c2 : mis M k = 1
      · rw [if_pos c2, bitB_or _ (by omega) hj, ih]
        by_cases e : j = k
        · subst e; simp [c1, c2]
        · rw [hd e, decide_eq_false e, Bool.or_false]
      · rw [if_neg c2, Int32.or_zero, ih]
        by_cases e : j = k
        · subst e; simp [c2]
        · rw [hd e]
theorem upd_self (f : Nat → Int32) (k : Nat) : upd f k (f k) = f := by
  funext q
  by_cases c : q = k
  · subst c; rw [pk_us]
  · rw [pk_un c]
theorem hg_eq {n m : Nat} {L : LnS} {M : MLn} (h : RR n m L M) (g : Int32) (hg : ∀ k, k < n → bitB g k = true → ¬ lst L k = 0) : ∀ k, k ≤ n → RR n m (it (hgB g) L k) (it (mhgB g) M k) ∧ ∀ j, k ≤ j → lst (it (hgB g) L k) j = lst L j := by
  intro k
  induction k with
  | zero => intro _; exact ⟨h, fun _ _ => rfl⟩
  | succ k ih =>
    intro hk
    obtain ⟨r, hs⟩ := ih (by omega)
    rw [it_succ, it_succ]
    generalize it (hgB g) L k = X at r hs ⊢
    generalize it (mhgB g) M k = Z at r ⊢
    unfold hgB mhgB
    by_cases c : bitB g k = true
    · rw [if_pos c, if_pos c]
      refine ⟨r.hang k (by rw [hs k (Nat.le_refl k)]; exact hg k (by omega) c), fun j hj => ?_⟩
      show upd (lst X) k 4 j = lst L j
      rw [pk_un (by omega)]; exact hs j (by omega)
    · rw [if_neg c, if_neg c, upd_self]
      exact ⟨r, fun j hj => hs j (by omega)⟩
theorem pw_N (x k : Nat) : pwF (nI x) k = nI (x ^ k) := by
  unfold pwF
  induction k with
  | zero => rfl
  | succ k ih => rw [it_succ, ih, pk_mul, Nat.pow_succ]
/-- the weight of one set, out of its bits -/
theorem mlt_W {x : Nat} (hx : x ≤ 10) {g o : Nat} (hgl : g < 256) (hol : o < 256) (hsub : ∀ k, k < 8 → g.testBit k = true → o.testBit k = true) : ∀ n, n ≤ 8 → pcN g n ≤ pcN o n ∧ it (mltB (nI o) (nI x) (nI g)) 1 n = lN (x ^ pcN g n * (10 - x) ^ (pcN o n - pcN g n)) := by
  have e2 : (10 : Int32) - nI x = nI (10 - x) := pk_sub (a := 10) hx
  intro n
  induction n with
  | zero => intro _; exact ⟨Nat.le_refl 0, rfl⟩
  | succ n ih =>
    intro hn
    obtain ⟨hle, ih⟩ := ih (by omega)
    rw [it_succ, ih]
    unfold mltB
    rw [tb_N hol (show n < 8 by omega), tb_N hgl (show n < 8 by omega), e2, nI_l (by omega), nI_l (by omega)]
    show pcN g n + (if g.testBit n = true then 1 else 0) ≤ pcN o n + (if o.testBit n = true then 1 else 0) ∧ _ = lN (x ^ (pcN g n + (if g.testBit n = true then 1 else 0)) * (10 - x) ^ (pcN o n + (if o.testBit n = true then 1 else 0) - (pcN g n + (if g.testBit n = true then 1 else 0))))
    have hs := hsub n (by omega)
    generalize pcN g n = a at hle ⊢
    generalize pcN o n = b at hle ⊢
    cases ho : o.testBit n with
    | true =>
      cases hgb : g.testBit n with
      | true =>
        rw [if_pos rfl, if_pos rfl, if_pos rfl, lN_mul, show b + 1 - (a + 1) = b - a by omega, Nat.pow_succ]
        exact ⟨by omega, by rw [Nat.mul_assoc, Nat.mul_comm ((10 - x) ^ (b - a)) x, ← Nat.mul_assoc]⟩
      | false =>
        rw [if_pos rfl, if_neg (show ¬ false = true by decide), if_neg (show ¬ false = true by decide), if_pos rfl, lN_mul, Nat.add_zero, show b + 1 - a = (b - a) + 1 by omega, Nat.pow_succ, Nat.mul_assoc]
        exact ⟨by omega, rfl⟩
    | false =>
      have hgb : g.testBit n = false := by
        cases q : g.testBit n with
        | true => rw [hs q] at ho; cases ho
        | false => rfl
      rw [hgb, if_neg (show ¬ false = true by decide), if_neg (show ¬ false = true by decide), lN1, lN_mul, Nat.mul_one, Nat.add_zero, Nat.add_zero]
      exact ⟨hle, rfl⟩
theorem wt_bound {x : Nat} (hx : x ≤ 10) {a b : Nat} (hab : a ≤ b) (hb : b ≤ 7) : x ^ a * (10 - x) ^ (b - a) ≤ 10000000 := by
  have h1 : x ^ a ≤ 10 ^ a := Nat.pow_le_pow_left hx a
  have h2 : (10 - x) ^ (b - a) ≤ 10 ^ (b - a) := Nat.pow_le_pow_left (by omega) _
  have h3 : 10 ^ a * 10 ^ (b - a) = 10 ^ b := by rw [← Nat.pow_add]; congr 1; omega
  have h4 : 10 ^ b ≤ 10 ^ 7 := Nat.pow_le_pow_right (by decide) hb
  have h5 := Nat.mul_le_mul h1 h2
  rw [h3] at h5
  exact Nat.le_trans h5 h4
theorem wg_N {x : Nat} (hx : x ≤ 10) {g o : Nat} (hgl : g < 256) (hol : o < 256) (hle : pcN g 8 ≤ pcN o 8) : wgF (nI x) (nI g) (nI o) = nI (x ^ pcN g 8 * (10 - x) ^ (pcN o 8 - pcN g 8)) := by
  have e2 : (10 : Int32) - nI x = nI (10 - x) := pk_sub (a := 10) hx
  have hg8 := pc_le g 8
  have ho8 := pc_le o 8
  have b1 : bcF (nI g) = nI (pcN g 8) := bc_pc ⟨g, hgl⟩
  have b2 : bcF (nI o) = nI (pcN o 8) := bc_pc ⟨o, hol⟩
  unfold wgF
  rw [b1, b2, pk_sub hle, tn_nI (by omega), tn_nI (by omega), e2, pw_N, pw_N, pk_mul]
theorem lk_eq {P : PlS} {N : MPl} (hP : RP P N) {m : Nat} (hm : m ≤ 999) {L : LnS} {M : MLn} (h : RR (nN N) m L M) {c : Nat} (hc : c < nN N) {x : Nat} (hx : x ≤ 10) {o : Nat} (ho : o < 2 ^ nN N) (eo : mwbF N M c = nI o) : ∀ k, k ≤ 2 ^ nN N → ∃ A, A ≤ 10000000 * cz c k ∧ it (lkB P L c (nI x) (nI o)) 0 k = nI A ∧ it (mlkB N M c (nI x) (nI o)) 0 k = lN A := by
  have hn := hP.2.2.1
  have h256 : 2 ^ nN N ≤ 256 := pow_le8 ⟨nN N, by omega⟩
  have hbits : ∀ j, j < 8 → o.testBit j = (decide (j < nN N) && (!decide (j = c) && decide (mis M j = 1))) := fun j hj => by
    rw [← tb_N (by omega) hj, ← eo]
    exact ow_bits M (by omega) _ hn j hj
  intro k
  induction k with
  | zero => intro _; exact ⟨0, Nat.zero_le _, nI_0.symm, rfl⟩
  | succ k ih =>
    intro hk
    obtain ⟨A, hA, e1, e2⟩ := ih (by omega)
    have hcz : cz c (k + 1) = cz c k + (if k.testBit c = true then 0 else 1) := rfl
    rw [it_succ, it_succ, e1, e2]
    unfold lkB mlkB
    by_cases cs : nI k &&& (nI o ^^^ -1) = 0
    · rw [if_pos cs, if_pos cs]
      have hsub := sub_q (i := k) (o := o) (by omega) (by omega) cs
      have hkc : k.testBit c = false := by
        cases q : k.testBit c with
        | true =>
          have := hsub c (by omega) q
          rw [hbits c (by omega)] at this
          simp at this
        | false => rfl
      have hoc : o.testBit c = false := by rw [hbits c (by omega)]; simp
      rw [hkc, if_neg (show ¬ false = true by decide)] at hcz
      have hgk : ∀ j, j < nN N → bitB (nI k) j = true → ¬ lst L j = 0 := fun j hj hb => by
        rw [tb_N (by omega) (by omega)] at hb
        have := hsub j (by omega) hb
        rw [hbits j (by omega)] at this
        have h1 : mis M j = 1 := by
          by_cases q : mis M j = 1
          · exact q
          · simp [q] at this
        rw [h.st hj, h1]; decide
      have hRR := (hg_eq h (nI k) hgk (nN N) (Nat.le_refl _)).1
      have hmt := mt_eq hP hc 60 0 m _ _ hRR (by omega)
      obtain ⟨hle, hW⟩ := mlt_W hx (show k < 256 by omega) (show o < 256 by omega) hsub (nN N) hn
      have hoz : ∀ j, nN N ≤ j → j < nN N + (8 - nN N) → o.testBit j = false := fun j h1 h2 => by
        rw [hbits j (by omega), decide_eq_false (by omega)]; rfl
      have hkz : ∀ j, nN N ≤ j → j < nN N + (8 - nN N) → k.testBit j = false := fun j h1 h2 => by
        cases q : k.testBit j with
        | true => have := hsub j (by omega) q; rw [hoz j h1 h2] at this; cases this
        | false => rfl
      have po : pcN o 8 = pcN o (nN N) := by have := pc_ext _ hoz; rw [show nN N + (8 - nN N) = 8 by omega] at this; exact this
      have pk : pcN k 8 = pcN k (nN N) := by have := pc_ext _ hkz; rw [show nN N + (8 - nN N) = 8 by omega] at this; exact this
      rw [← po, ← pk] at hle hW
      have hG := wg_N hx (show k < 256 by omega) (show o < 256 by omega) hle
      have h7 := pc_7 ⟨o, by omega⟩ ⟨c, by omega⟩ hoc
      have hb := wt_bound hx hle h7
      generalize x ^ pcN k 8 * (10 - x) ^ (pcN o 8 - pcN k 8) = w at hW hG hb
      unfold wiF mlkT
      rw [hP.1, hmt, hG, hW]
      by_cases ct : mtfF N c 60 0 (it (mhgB (nI k)) M (nN N)) = -4
      · refine ⟨A, by omega, ?_, ?_⟩
        · have : (if nI w = 0 then (0 : Int32) else if mtfF N c 60 0 (it (mhgB (nI k)) M (nN N)) = -4 then 0 else nI w) = 0 := by
            rw [if_pos ct]; split <;> rfl
          rw [this, Int32.add_zero]
        · rw [if_pos ct, show (0 : Int64) = lN 0 from rfl, lN_add]; rfl
      · refine ⟨A + w, by omega, ?_, ?_⟩
        · have : (if nI w = 0 then (0 : Int32) else if mtfF N c 60 0 (it (mhgB (nI k)) M (nN N)) = -4 then 0 else nI w) = nI w := by
            rw [if_neg ct]
            by_cases q : nI w = 0
            · rw [if_pos q, q]
            · rw [if_neg q]
          rw [this, nI_add]
        · rw [if_neg ct, lN_add]
    · rw [if_neg cs, if_neg cs]
      exact ⟨A, by omega, rfl, rfl⟩
theorem cd_0 (k a : Nat) : cdF k (nI a) (nI 0) = nI a := by
  cases k with
  | zero => rfl
  | succ k => show (if nI 0 = 0 then nI a else _) = nI a; rw [if_pos nI_0]
theorem cd_s {k a b : Nat} (ha : a < 2 ^ 31) (h0 : 0 < b) (hb : b < 2 ^ 31) : cdF (k + 1) (nI a) (nI b) = cdF k (nI b) (nI (a % b)) := by
  show (if nI b = 0 then nI a else cdF k (nI b) (nI a - nI a / nI b * nI b)) = _
  rw [if_neg (nI_ne0 h0 hb), pk_rem ha h0 hb]
theorem gcd_st (a b : Nat) : Nat.gcd a b = Nat.gcd b (a % b) := by rw [Nat.gcd_comm a b, Nat.gcd_rec b a, Nat.gcd_comm]
theorem cd_g : ∀ (j k a b : Nat), 2 * j ≤ k → b < 2 ^ j → b < a → a < 2 ^ 31 → cdF k (nI a) (nI b) = nI (Nat.gcd a b) := by
  intro j
  induction j with
  | zero =>
    intro k a b _ hb _ _
    have : b = 0 := by have : b < 1 := hb; omega
    subst this
    rw [cd_0, Nat.gcd_zero_right]
  | succ j ih =>
    intro k a b hk hb hba ha
    rcases Nat.eq_zero_or_pos b with h0 | h0
    · subst h0; rw [cd_0, Nat.gcd_zero_right]
    · obtain ⟨k', rfl⟩ : ∃ k', k = k' + 2 := ⟨k - 2, by omega⟩
      rw [cd_s ha h0 (by omega), gcd_st]
      have hr := Nat.mod_lt a h0
      generalize a % b = r at hr ⊢
      rcases Nat.eq_zero_or_pos r with h1 | h1
      · subst h1; rw [cd_0, Nat.gcd_zero_right]
      · rw [cd_s (by omega) h1 (by omega), gcd_st]
        have hs := Nat.mod_lt b h1
        have h2 : 2 * (b % r) < b := by
          rcases Nat.lt_or_ge b (2 * r) with q | q
          · have : b % r = b - r := by rw [Nat.mod_eq_sub_mod (by omega), Nat.mod_eq_of_lt (by omega)]
            omega
          · omega
        have hp : 2 ^ (j + 1) = 2 ^ j + 2 ^ j := by rw [Nat.pow_succ]; omega
        exact ih k' r (b % r) (by omega) (by omega) hs (by omega)
theorem cd_64 {a b : Nat} (ha : a < 2 ^ 31) (hb : b < 2 ^ 31) : cdF 64 (nI a) (nI b) = nI (Nat.gcd a b) := by
  rcases Nat.eq_zero_or_pos b with h0 | h0
  · subst h0; rw [cd_0, Nat.gcd_zero_right]
  · rw [cd_s (k := 63) ha h0 hb, gcd_st]
    exact cd_g 31 63 b (a % b) (by omega) (by have := Nat.mod_lt a h0; omega) (Nat.mod_lt a h0) hb
theorem lk_tail {P : PlS} {L : LnS} {c : Nat} {x o : Int32} {v : Nat} (hv : v < 256) (ho : o = nI v) : ∀ d, v + 1 + d ≤ 256 → it (lkB P L c x o) 0 (v + 1 + d) = it (lkB P L c x o) 0 (v + 1) := by
  intro d
  induction d with
  | zero => intro _; rfl
  | succ d ih =>
    intro hd
    show lkB P L c x o (it (lkB P L c x o) 0 (v + 1 + d)) (v + 1 + d) = _
    rw [ih (by omega)]
    generalize it (lkB P L c x o) 0 (v + 1) = s
    unfold lkB
    rw [if_neg]
    intro z
    rw [ho] at z
    have := sub_le (i := v + 1 + d) (o := v) (by omega) (sub_q (by omega) hv z)
    omega
theorem lk_ans {P : PlS} {N : MPl} (hP : RP P N) {m : Nat} (hm : m ≤ 999) {L : LnS} {M : MLn} (h : RR (nN N) m L M) (x y z : Int32) : lkR P L x y z = mlkR N M x y z := by
  unfold lkR mlkR
  rw [isC_eq hP]
  refine gate (fun c1 => gate (fun c2 => gate (fun c3 => ?_)))
  obtain ⟨c, hc, rfl⟩ := isC_nat hP.2.2.1 c1
  obtain ⟨q, -, hq, -, rfl⟩ := inB_nat (a := 0) (b := 10) rfl rfl (by omega) c2
  rw [tn_c hP.2.2.1 hc]
  have hn := hP.2.2.1
  have h256 : 2 ^ nN N ≤ 256 := pow_le8 ⟨nN N, by omega⟩
  obtain ⟨o, ho, eo⟩ := mwbB_N (M := M) (c := c) (nN N) hn
  have eo : mwbF N M c = nI o := eo
  have eow : owF P L c = nI o := (ow_eq hP h.1.1 c).trans eo
  obtain ⟨A, hA, a1, a2⟩ := lk_eq hP hm h hc hq ho eo (o + 1) (by omega)
  have hA2 : A ≤ 1280000000 := by have := cz_le (c := c) (by omega) (k := o + 1) (by omega); omega
  have hF : lkF P L c (nI q) = nI A := by
    unfold lkF
    rw [eow, hP.1]
    have := lk_tail (P := P) (L := L) (c := c) (x := nI q) (o := nI o) (v := o) (by omega) rfl (2 ^ nN N - (o + 1)) (by omega)
    rw [show o + 1 + (2 ^ nN N - (o + 1)) = 2 ^ nN N by omega] at this
    rw [this, a1]
  have hMF : mlkF N M c (nI q) = lN A := by
    unfold mlkF
    rw [eo, tn_nI (by omega), a2]
  have hbits : ∀ j, j < 8 → o.testBit j = (decide (j < nN N) && (!decide (j = c) && decide (mis M j = 1))) := fun j hj => by
    rw [← tb_N (by omega) hj, ← eo]
    exact ow_bits M (by omega) _ hn j hj
  have hoc : o.testBit c = false := by rw [hbits c (by omega)]; simp
  have h7 : pcN o 8 ≤ 7 := pc_7 ⟨o, by omega⟩ ⟨c, by omega⟩ hoc
  have hoz : ∀ j, nN N ≤ j → j < nN N + (8 - nN N) → o.testBit j = false := fun j h1 h2 => by
    rw [hbits j (by omega), decide_eq_false (by omega)]; rfl
  have po : pcN o 8 = pcN o (nN N) := by have := pc_ext _ hoz; rw [show nN N + (8 - nN N) = 8 by omega] at this; exact this
  have hW : lkW P L c = nI (10 ^ pcN o 8) := by
    have b2 : bcF (nI o) = nI (pcN o 8) := bc_pc ⟨o, by omega⟩
    unfold lkW
    rw [eow, b2, tn_nI (by omega), show (10 : Int32) = nI 10 from rfl, pw_N]
  have hMW : mlkW N M c = lN (10 ^ pcN o 8) := by
    unfold mlkW
    rw [eo, po]
    have hall : ∀ k, k ≤ 8 → it (mlwB (nI o)) 1 k = lN (10 ^ pcN o k) := by
      intro k
      induction k with
      | zero => intro _; rfl
      | succ k ih =>
        intro hk
        rw [it_succ, ih (by omega)]
        unfold mlwB
        rw [tb_N (by omega) (show k < 8 by omega)]
        show lN (10 ^ pcN o k) * (if o.testBit k = true then 10 else 1) = lN (10 ^ (pcN o k + (if o.testBit k = true then 1 else 0)))
        cases o.testBit k with
        | true => rw [if_pos rfl, if_pos rfl, lN10, lN_mul, Nat.pow_succ]
        | false => rw [if_neg (show ¬ false = true by decide), if_neg (show ¬ false = true by decide), lN1, lN_mul, Nat.mul_one, Nat.add_zero]
    exact hall _ hn
  have hB1 : 1 ≤ 10 ^ pcN o 8 := Nat.one_le_pow _ _ (by decide)
  have hB2 : 10 ^ pcN o 8 ≤ 10 ^ 7 := Nat.pow_le_pow_right (by decide) h7
  generalize 10 ^ pcN o 8 = B at hW hMW hB1 hB2
  have hB3 : B ≤ 10000000 := hB2
  have hg1 : 0 < Nat.gcd B A := Nat.gcd_pos_of_pos_left _ (by omega)
  have hg2 : Nat.gcd B A ≤ B := Nat.gcd_le_left _ (by omega)
  have hC : lkC P L c (nI q) = nI (Nat.gcd B A) := by
    unfold lkC mx1
    rw [hF, hW, cd_64 (by omega) (by omega), mxN hg1 (by omega)]
  have hMC : mlkC N M c (nI q) = lN (Nat.gcd B A) := by
    unfold mlkC
    rw [hMF, hMW, tl_lN (by omega), tl_lN (by omega), Nat.gcd_comm]
  rw [hF, hW, hC, hMF, hMW, hMC]
  have d1 : A / Nat.gcd B A ≤ A := Nat.div_le_self _ _
  have d2 : B / Nat.gcd B A ≤ B := Nat.div_le_self _ _
  by_cases cz0 : z = 0
  · rw [if_pos cz0, if_pos cz0, pk_div (by omega) hg1 (by omega), pk_lDiv (by omega) hg1 (by omega), lN_i]
  · rw [if_neg cz0, if_neg cz0, pk_div (by omega) hg1 (by omega), pk_lDiv (by omega) hg1 (by omega), lN_i]
