/-! What was seen. -/
def SI (S : SiS) : Prop := siZ S ≤ 6 ∧ ∀ k, k < siZ S → (∃ t : Nat, 1 ≤ t ∧ t ≤ 40 ∧ siT S k = nI t) ∧ (siG S k = 0 ∨ siG S k = 1)
theorem split_all {Q : Nat → Prop} {i k : Nat} : (∀ j, i ≤ j → j < i + (k + 1) → Q j) ↔ (Q i ∧ ∀ j, i + 1 ≤ j → j < (i + 1) + k → Q j) := by
  constructor
  · intro h
    exact ⟨h i (Nat.le_refl i) (by omega), fun j h1 h2 => h j (by omega) (by omega)⟩
  · intro h j h1 h2
    by_cases e : j = i
    · subst e; exact h.1
    · exact h.2 j (by omega) (by omega)
theorem as_iff (O : PlS) (L : LnS) (W : SiS) (c : Nat) : ∀ (k i : Nat), (∀ j, j < i + k → siG W j = 0 ∨ siG W j = 1) → (asF O L W c k i = true ↔ ∀ j, i ≤ j → j < i + k → siW W j = nI c → (lst (gosF O L (tn (siT W j))) c = 4 ↔ siG W j = 1)) := by
  intro k
  induction k with
  | zero =>
    intro i _
    show true = true ↔ _
    exact ⟨fun _ j h1 h2 => by omega, fun _ => rfl⟩
  | succ k ih =>
    intro i hg
    have ih := ih (i + 1) (fun j hj => hg j (by omega))
    rw [split_all (Q := fun j => siW W j = nI c → (lst (gosF O L (tn (siT W j))) c = 4 ↔ siG W j = 1)), ← ih]
    show (if siW W i = nI c then (if lst (gosF O L (tn (siT W i))) c = 4 then (if 1 = siG W i then asF O L W c k (i + 1) else false) else (if 0 = siG W i then asF O L W c k (i + 1) else false)) else asF O L W c k (i + 1)) = true ↔ _
    by_cases a : siW W i = nI c
    · rw [if_pos a]
      by_cases b : lst (gosF O L (tn (siT W i))) c = 4
      · rw [if_pos b]
        rcases hg i (by omega) with g | g
        · rw [g, if_neg (show ¬ (1 : Int32) = 0 by decide)]
          exact ⟨fun z => absurd z (by decide), fun z => absurd ((z.1 a).mp b) (by decide)⟩
        · rw [g, if_pos rfl]
          exact ⟨fun z => ⟨fun _ => ⟨fun _ => rfl, fun _ => b⟩, z⟩, fun z => z.2⟩
      · rw [if_neg b]
        rcases hg i (by omega) with g | g
        · rw [g, if_pos rfl]
          exact ⟨fun z => ⟨fun _ => ⟨fun q => absurd q b, fun q => absurd q (by decide)⟩, z⟩, fun z => z.2⟩
        · rw [g, if_neg (show ¬ (0 : Int32) = 1 by decide)]
          exact ⟨fun z => absurd z (by decide), fun z => absurd ((z.1 a).mpr rfl) b⟩
    · rw [if_neg a]
      exact ⟨fun z => ⟨fun q => absurd q a, z⟩, fun z => z.2⟩
theorem isi_iff (S : SiS) (Z : MLn) (c : Nat) (t so : Int32) (hso : so = 0 ∨ so = 1) : ∀ n, (∀ j, j < n → siG S j = 0 ∨ siG S j = 1) → (it (isiB S Z c t) so n = 1 ↔ (so = 1 ∧ ∀ k, k < n → siW S k = nI c → siT S k = t → (mis Z c = 4 ↔ siG S k = 1))) := by
  intro n
  induction n with
  | zero => intro _; exact ⟨fun h => ⟨h, fun k hk => absurd hk (Nat.not_lt_zero k)⟩, fun h => h.1⟩
  | succ n ih =>
    intro hg
    have ih := ih (fun j hj => hg j (by omega))
    have h01 := isi_01 S Z c t so n hso
    have hsplit : (∀ k, k < n + 1 → siW S k = nI c → siT S k = t → (mis Z c = 4 ↔ siG S k = 1)) ↔ ((∀ k, k < n → siW S k = nI c → siT S k = t → (mis Z c = 4 ↔ siG S k = 1)) ∧ (siW S n = nI c → siT S n = t → (mis Z c = 4 ↔ siG S n = 1))) := by
      constructor
      · intro h; exact ⟨fun k hk => h k (by omega), h n (by omega)⟩
      · intro h k hk
        by_cases e : k = n
        · subst e; exact h.2
        · exact h.1 k (by omega)
    rw [hsplit, ← and_assoc, ← ih, it_succ]
    generalize it (isiB S Z c t) so n = s at h01 ⊢
    unfold isiB
    rcases h01 with h | h
    · rw [if_pos h, h]
      exact ⟨fun z => absurd z (by decide), fun z => absurd z.1 (by decide)⟩
    · rw [h, if_neg (show ¬ (1 : Int32) = 0 by decide)]
      by_cases a : siW S n = nI c
      · rw [if_pos a]
        by_cases b : siT S n = t
        · rw [if_pos b]
          unfold ffF
          by_cases d : mis Z c = 4
          · rw [if_pos d]
            rcases hg n (by omega) with g | g
            · rw [g, if_neg (show ¬ (0 : Int32) = 1 by decide)]
              exact ⟨fun z => absurd z (by decide), fun z => absurd ((z.2 a b).mp d) (by decide)⟩
            · rw [g, if_pos rfl]
              exact ⟨fun _ => ⟨rfl, fun _ _ => ⟨fun _ => rfl, fun _ => d⟩⟩, fun _ => rfl⟩
          · rw [if_neg d]
            rcases hg n (by omega) with g | g
            · rw [g, if_neg (show ¬ (0 : Int32) = 1 by decide)]
              exact ⟨fun _ => ⟨rfl, fun _ _ => ⟨fun q => absurd q d, fun q => absurd q (by decide)⟩⟩, fun _ => rfl⟩
            · rw [g, if_pos rfl]
              exact ⟨fun z => absurd z (by decide), fun z => absurd ((z.2 a b).mpr rfl) d⟩
        · rw [if_neg b]
          exact ⟨fun _ => ⟨rfl, fun _ q => absurd q b⟩, fun _ => rfl⟩
      · rw [if_neg a]
        exact ⟨fun _ => ⟨rfl, fun q => absurd q a⟩, fun _ => rfl⟩
theorem iso_iff (N : MPl) (S : SiS) (M : MLn) (c : Nat) (hg : ∀ j, j < siZ S → siG S j = 0 ∨ siG S j = 1) : ∀ n, (it (isoB N S M c) 1 n = 1 ↔ ∀ i, i < n → ∀ k, k < siZ S → siW S k = nI c → siT S k = nI (i + 1) → (mis (it (mgsB N) M (i + 1)) c = 4 ↔ siG S k = 1)) := by
  intro n
  induction n with
  | zero => exact ⟨fun _ i hi => absurd hi (Nat.not_lt_zero i), fun _ => rfl⟩
  | succ n ih =>
    rw [it_succ]
    show it (isiB S (it (mgsB N) M (n + 1)) c (nI (n + 1))) (it (isoB N S M c) 1 n) (siZ S) = 1 ↔ _
    rw [isi_iff S _ c _ _ (iso_01 N S M c n) _ hg, ih]
    constructor
    · intro h i hi
      by_cases e : i = n
      · subst e; exact h.2
      · exact h.1 i (by omega)
    · intro h
      exact ⟨fun i hi => h i (by omega), h n (by omega)⟩
theorem so_eq {O : PlS} {N : MPl} {c : Nat} {x y : Int32} (hO : RP O (misP N c x y)) {S : SiS} (hS : SI S) {m : Nat} (hm : m ≤ 999) {L : LnS} {M : MLn} (h : RR (nN N) m L M) (hc : c < nN N) : asF O L S c (siZ S) 0 = msoB N S M c x y := by
  rw [Bool.eq_iff_iff]
  unfold msoB isoF
  rw [decide_eq_true_iff, as_iff O L S c _ 0 (fun j hj => (hS.2 j (by omega)).2), iso_iff _ S M c (fun j hj => (hS.2 j hj).2)]
  have key : ∀ t, t ≤ 40 → lst (gosF O L t) c = mis (it (mgsB (misP N c x y)) M t) c := fun t ht => (gos_eq hO (show RR (nN (misP N c x y)) m L M from h) t (by omega)).st hc
  constructor
  · intro a i hi k hk hw ht
    have := a k (Nat.zero_le k) (by omega) hw
    rw [ht, tn_nI (by omega), key _ (by omega)] at this
    exact this
  · intro a k _ hk hw
    obtain ⟨t, h1, h40, ht⟩ := (hS.2 k (by omega)).1
    have := a (t - 1) (by omega) k (by omega) hw (by rw [ht]; congr 1; omega)
    rw [show t - 1 + 1 = t by omega] at this
    rw [ht, tn_nI (by omega), key t h40]
    exact this
theorem RP.pa {P : PlS} {N : MPl} (hP : RP P N) {c p : Nat} (h1 : 1 ≤ p) (h30 : p ≤ 30) : RP (paP P c (nI p)) (misP N c (nki N c) (nI p)) := by
  obtain ⟨a1, a2, a3, a4, a5⟩ := hP
  refine ⟨a1, a2, a3, a4, fun j hj => ?_⟩
  obtain ⟨b1, b2, b3, b4⟩ := a5 j hj
  refine ⟨?_, b2, ?_, b4⟩
  · show pki P j = upd (nki N) c (nki N c) j
    by_cases e : j = c
    · subst e; rw [pk_us]; exact b1
    · rw [pk_un e]; exact b1
  · show ∃ b, 1 ≤ b ∧ b ≤ 30 ∧ upd (ppa P) c (nI p) j = nI b ∧ upd (nbe N) c (nI p) j = nI b
    by_cases e : j = c
    · subst e; exact ⟨p, h1, h30, pk_us, pk_us⟩
    · rw [pk_un e, pk_un e]; exact b3
theorem RP.ki {P : PlS} {N : MPl} (hP : RP P N) {c : Nat} (x : Int32) : RP (kiP P c x) (misP N c x (nbe N c)) := by
  obtain ⟨a1, a2, a3, a4, a5⟩ := hP
  refine ⟨a1, a2, a3, a4, fun j hj => ?_⟩
  obtain ⟨b1, b2, b3, b4⟩ := a5 j hj
  refine ⟨?_, b2, ?_, b4⟩
  · show upd (pki P) c x j = upd (nki N) c x j
    by_cases e : j = c
    · subst e; rw [pk_us, pk_us]
    · rw [pk_un e, pk_un e]; exact b1
  · show ∃ b, 1 ≤ b ∧ b ≤ 30 ∧ ppa P j = nI b ∧ upd (nbe N) c (nbe N c) j = nI b
    obtain ⟨b, c1, c2, c3, c4⟩ := b3
    by_cases e : j = c
    · subst e; exact ⟨b, c1, c2, c3, pk_us.trans c4⟩
    · exact ⟨b, c1, c2, c3, (pk_un e).trans c4⟩
theorem it_shift {α : Type} (B : α → Nat → α) (a : α) (n : Nat) : it B a (n + 1) = it (fun x i => B x (i + 1)) (B a 0) n := by
  induction n with
  | zero => rfl
  | succ n ih => rw [it_succ, ih, it_succ]
def upB (F : Nat → Bool) (s : Int32 × Int32) (i : Nat) : Int32 × Int32 := if F (i + 1) = true then (s.1 + 1, if s.2 = -4 then nI (i + 1) else s.2) else s
def dnB (F : Nat → Bool) (n : Nat) (s : Int32 × Int32) (i : Nat) : Int32 × Int32 := if F (n - i) = true then (s.1 + 1, nI (n - i)) else s
theorem updn (F : Nat → Bool) : ∀ (n : Nat) (a b : Int32), n ≤ 1000 → it (dnB F n) (a, b) n = (a + (it (upB F) (0, -4) n).1, if (it (upB F) (0, -4) n).2 = -4 then b else (it (upB F) (0, -4) n).2) := by
  intro n
  induction n with
  | zero => intro a b _; show (a, b) = (a + 0, if (-4 : Int32) = -4 then b else -4); rw [Int32.add_zero, if_pos rfl]
  | succ n ih =>
    intro a b hn
    have e : (fun x i => dnB F (n + 1) x (i + 1)) = dnB F n := by
      funext x i
      unfold dnB
      rw [show n + 1 - (i + 1) = n - i by omega]
    rw [it_shift, e, it_succ]
    generalize hs : it (upB F) (0, -4) n = s at ih ⊢
    obtain ⟨u, v⟩ := s
    unfold upB dnB
    show it (dnB F n) (if F (n + 1 - 0) = true then (a + 1, nI (n + 1 - 0)) else (a, b)) n = _
    rw [Nat.sub_zero]
    cases F (n + 1) with
    | true =>
      rw [if_pos rfl, if_pos rfl, ih (a + 1) (nI (n + 1)) (by omega)]
      show ((a + 1 + u, if v = -4 then nI (n + 1) else v) : Int32 × Int32) = (a + (u + 1), if (if v = -4 then nI (n + 1) else v) = -4 then b else (if v = -4 then nI (n + 1) else v))
      have e1 : a + 1 + u = a + (u + 1) := by rw [Int32.add_assoc, Int32.add_comm 1 u]
      rw [e1]
      by_cases c : v = -4
      · rw [if_pos c, if_neg (nI_n4 (by omega))]
      · rw [if_neg c, if_neg c]
    | false => exact ih a b (by omega)
theorem bes_ans {P : PlS} {N : MPl} (hP : RP P N) {S : SiS} (hS : SI S) {m : Nat} (hm : m ≤ 999) {L : LnS} {M : MLn} (h : RR (nN N) m L M) (x y : Int32) : besR P L S x y = mbsbR N S M x y := by
  unfold besR mbsbR
  rw [isC_eq hP]
  refine gate (fun c1 => gate (fun c2 => ?_))
  obtain ⟨c, hc, rfl⟩ := isC_nat hP.2.2.1 c1
  rw [tn_c hP.2.2.1 hc]
  have hF : besF P L S c = mbsbF N S M c := by
    unfold besF mbsbF
    have e1 : it (besB P L S c) (0, -4) 30 = it (upB (fun p => msoB N S M c (nki N c) (nI p))) (0, -4) 30 := it_cg _ _ (fun Z i hi => by
      unfold besB upB
      rw [so_eq (hP.pa (c := c) (p := i + 1) (by omega) (by omega)) hS hm h hc])
    have e2 : it (mbsbB N S M c) (0, -4) 30 = it (dnB (fun p => msoB N S M c (nki N c) (nI p)) 30) (0, -4) 30 := rfl
    rw [e1, e2, updn _ 30 _ _ (by omega), Int32.zero_add]
    generalize it (upB (fun p => msoB N S M c (nki N c) (nI p))) (0, -4) 30 = s
    obtain ⟨u, v⟩ := s
    show (u, v) = (u, if v = -4 then -4 else v)
    by_cases q : v = -4
    · rw [if_pos q, q]
    · rw [if_neg q]
  rw [hF]
theorem kis_ans {P : PlS} {N : MPl} (hP : RP P N) {S : SiS} (hS : SI S) {m : Nat} (hm : m ≤ 999) {L : LnS} {M : MLn} (h : RR (nN N) m L M) (x : Int32) : kisR P L S x = mkdR N S M x := by
  unfold kisR mkdR
  rw [isC_eq hP]
  refine gate (fun c1 => ?_)
  obtain ⟨c, hc, rfl⟩ := isC_nat hP.2.2.1 c1
  rw [tn_c hP.2.2.1 hc]
  refine it_cg _ _ (fun Z i hi => ?_)
  unfold kisB mkdB
  rw [so_eq (hP.ki (c := c) (nI i)) hS hm h hc]
  cases msoB N S M c (nI i) (nbe N c) with
  | true => rfl
  | false => exact Int32.or_zero.symm
theorem sn_eq {P : PlS} {N : MPl} (hP : RP P N) {S : SiS} (hS : SI S) (x y z : Int32) : snR P S x y z = msnR N S x y z ∧ snF P S x y z = msnF N S x y z ∧ SI (msnF N S x y z) := by
  unfold snR msnR snF msnF snOk msnOk
  rw [isC_eq hP]
  refine ⟨rfl, ?_⟩
  by_cases c1 : isM N x = true
  · rw [if_pos c1]
    by_cases c2 : inB y 1 40 = true
    · rw [if_pos c2]
      by_cases c3 : inB z 0 1 = true
      · rw [if_pos c3]
        by_cases c4 : nI (siZ S) = 6
        · rw [if_pos c4]; exact ⟨rfl, hS⟩
        · rw [if_neg c4, if_pos rfl, if_pos rfl]
          obtain ⟨j, -, hj, -, rfl⟩ := inB_nat (a := 0) (b := 1) rfl rfl (by omega) c3
          obtain ⟨t, ht1, ht40, -, rfl⟩ := inB_nat (a := 1) (b := 40) rfl rfl (by omega) c2
          have ez : (if nI j = 1 then (1 : Int32) else 0) = nI j := by
            rcases (show j = 0 ∨ j = 1 by omega) with rfl | rfl <;> rfl
          rw [ez]
          have h6 : ¬ siZ S = 6 := fun e => c4 (by rw [e]; rfl)
          refine ⟨rfl, ?_, fun k hk => ?_⟩
          · show siZ S + 1 ≤ 6
            have := hS.1; omega
          · have hk : k < siZ S + 1 := hk
            show (∃ t', 1 ≤ t' ∧ t' ≤ 40 ∧ upd (siT S) (siZ S) (nI t) k = nI t') ∧ (upd (siG S) (siZ S) (nI j) k = 0 ∨ upd (siG S) (siZ S) (nI j) k = 1)
            by_cases e : k = siZ S
            · subst e
              rw [pk_us, pk_us]
              refine ⟨⟨t, ht1, ht40, rfl⟩, ?_⟩
              rcases (show j = 0 ∨ j = 1 by omega) with rfl | rfl
              · exact Or.inl rfl
              · exact Or.inr rfl
            · rw [pk_un e, pk_un e]; exact hS.2 k (by omega)
      · rw [if_neg c3]; exact ⟨rfl, hS⟩
    · rw [if_neg c2]; exact ⟨rfl, hS⟩
  · rw [if_neg c1]; exact ⟨rfl, hS⟩
theorem cu_ans {P : PlS} {N : MPl} (hP : RP P N) {m : Nat} {L : LnS} {M : MLn} (h : RR (nN N) m L M) {T X : TxS} (hT : tN T = tN X) (S : SiS) (u k : Nat) (y : Int32) : cuR T P L S u k y = mcuR X N M S u k y := by
  unfold cuR mcuR
  rw [ct_eq hP h.1.1, ct_eq hP h.1.1, ct_eq hP h.1.1, ct_eq hP h.1.1, hP.1, hP.2.2.2.1, hT, h.1.1.2.2.1, h.1.1.2.2.2.1, h.1.1.2.2.2.2]
  by_cases c2 : inB y 0 12 = true
  · obtain ⟨j, -, hj, -, rfl⟩ := inB_nat (a := 0) (b := 12) rfl rfl (by omega) c2
    rw [if_pos c2]
    rcases (show j = 0 ∨ j = 1 ∨ j = 2 ∨ j = 3 ∨ j = 4 ∨ j = 5 ∨ j = 6 ∨ j = 7 ∨ j = 8 ∨ j = 9 ∨ j = 10 ∨ j = 11 ∨ j = 12 by omega) with rfl | rfl | rfl | rfl | rfl | rfl | rfl | rfl | rfl | rfl | rfl | rfl | rfl <;> first | rfl | simp [nI]
  · rw [if_neg c2]
    have hne : ∀ k : Nat, k ≤ 12 → ¬ y = nI k := fun k hk e => c2 (by
      rw [e]; unfold inB
      rw [if_neg (nI_pos (by omega)), if_neg (show ¬ (12 : Int32) < nI k from fun q => (nI_nlt (a := 12) (b := k) hk (by omega)) q)])
    rw [if_neg (show ¬ y = 0 from hne 0 (by omega)), if_neg (show ¬ y = 1 from hne 1 (by omega)), if_neg (show ¬ y = 2 from hne 2 (by omega)), if_neg (show ¬ y = 3 from hne 3 (by omega)), if_neg (show ¬ y = 4 from hne 4 (by omega)), if_neg (show ¬ y = 5 from hne 5 (by omega)), if_neg (show ¬ y = 6 from hne 6 (by omega)), if_neg (show ¬ y = 7 from hne 7 (by omega)), if_neg (show ¬ y = 8 from hne 8 (by omega)), if_neg (show ¬ y = 9 from hne 9 (by omega)), if_neg (show ¬ y = 10 from hne 10 (by omega)), if_neg (show ¬ y = 11 from hne 11 (by omega)), if_neg (show ¬ y = 12 from hne 12 (by omega))]
