/-! The class reads a text as the reference does. -/
theorem dig_eq {T X : TxS} (h : RT T X) {a : Nat} (ha : a ≤ 1000) : digB T a = mdgB X a := by
  unfold digB mdgB hrF
  rw [h.1]
  by_cases c : nI (tN X) ≤ nI a
  · rw [if_pos c, if_pos c]; rfl
  · rw [if_neg c, if_neg c, h.2.2 a (nI_lt_of c (by omega))]; rfl
theorem hr_at {T X : TxS} (h : RT T X) {a : Nat} (ha : a ≤ 1000) (c : ¬ nI (tN X) ≤ nI a) : hrF X a = tF T a := by
  unfold hrF
  rw [if_neg c, h.2.2 a (nI_lt_of c (by omega))]
theorem dig_in {X : TxS} {a : Nat} (h : mdgB X a = true) : ¬ nI (tN X) ≤ nI a := by
  intro c
  unfold mdgB hrF at h
  rw [if_pos c] at h
  exact absurd h (by decide)
/-- a number's signs are so, ended by that sign -/
def sOk (X : TxS) (a : Nat) (en : Int32) : Bool := if mdgB X a = true then decide (hrF X (nmE X a) = en) else false
theorem nm_s (X : TxS) (a : Nat) (lo hi en : Int32) : nmOk X a lo hi en = (sOk X a en && inB (nmV X a) lo hi) := by
  unfold nmOk sOk
  by_cases c1 : mdgB X a = true
  · rw [if_pos c1, if_pos c1]
    by_cases c2 : hrF X (nmE X a) = en
    · rw [if_pos c2, decide_eq_true c2, Bool.true_and]
    · rw [if_neg c2, decide_eq_false c2, Bool.false_and]
  · rw [if_neg c1, if_neg c1, Bool.false_and]
theorem nm_dig {X : TxS} {a : Nat} {lo hi en : Int32} (h : nmOk X a lo hi en = true) : mdgB X a = true := by
  unfold nmOk at h
  by_cases c1 : mdgB X a = true
  · exact c1
  · rw [if_neg c1] at h; cases h
theorem nmA_e {X : TxS} {a : Nat} {lo hi en : Int32} (h : nmOk X a lo hi en = true) : nmA X a lo hi en = nmE X a + 1 := by
  unfold nmA; rw [if_pos (nm_dig h), if_pos h]
theorem nmN_e {X : TxS} {a : Nat} {lo hi en : Int32} (n : Int32) (h : nmOk X a lo hi en = true) : nmN X a n = nmV X a := by
  unfold nmN; rw [if_pos (nm_dig h)]
theorem rd_eq {T X : TxS} (h : RT T X) {a d i : Nat} (g : Nat → Int32) (ha : a ≤ 900) {sep : Int32} (hs : (if nI i = nI d - 1 then (59 : Int32) else 44) = sep) (h0 : ¬ sep = 0) : rdB T d (some (a, g)) i = if sOk X a sep = true then some (nmE X a + 1, upd g i (nmV X a)) else none := by
  show (if figN T a = 0 then none else if nI (tN T) ≤ nI (a + figN T a) then none else if tF T (a + figN T a) = (if nI i = nI d - 1 then 59 else 44) then some (a + figN T a + 1, upd g i (valF T a (nI (figN T a)))) else none) = _
  rw [hs]
  unfold sOk
  have d0 := dig_eq h (a := a) (by omega)
  have d1 := dig_eq h (a := a + 1) (by omega)
  cases c1 : mdgB X a with
  | false =>
    have hf : figN T a = 0 := by unfold figN; rw [d0, c1]; rfl
    rw [hf, if_pos rfl]; rfl
  | true =>
    have hin := dig_in c1
    have t0 := hr_at h (a := a) (by omega) hin
    have key : ∀ k : Nat, 1 ≤ k → k ≤ 2 → figN T a = k → nmE X a = a + k → valF T a (nI k) = nmV X a → (if figN T a = 0 then none else if nI (tN T) ≤ nI (a + figN T a) then none else if tF T (a + figN T a) = sep then some (a + figN T a + 1, upd g i (valF T a (nI (figN T a)))) else none) = if (if true = true then decide (hrF X (nmE X a) = sep) else false) = true then some (nmE X a + 1, upd g i (nmV X a)) else none := by
      intro k k1 k2 hf hE hV
      rw [hf, hE, hV, if_neg (by omega), if_pos (show true = true from rfl), h.1]
      by_cases c2 : nI (tN X) ≤ nI (a + k)
      · have hz : hrF X (a + k) = 0 := if_pos c2
        rw [if_pos c2, hz, if_neg (fun q => h0 (of_decide_eq_true q).symm)]
      · rw [if_neg c2, hr_at h (a := a + k) (by omega) c2]
        by_cases c3 : tF T (a + k) = sep
        · rw [if_pos c3, if_pos (decide_eq_true c3)]
        · rw [if_neg c3, if_neg (fun q => c3 (of_decide_eq_true q))]
    cases c2 : mdgB X (a + 1) with
    | true =>
      have t1 := hr_at h (a := a + 1) (by omega) (dig_in c2)
      refine key 2 (by omega) (by omega) ?_ ?_ ?_
      · unfold figN; rw [d0, c1, d1, c2]; rfl
      · unfold nmE; rw [c2, if_pos rfl]
      · unfold valF nmV; rw [c2, t0, t1, if_pos rfl, if_pos (show nI 2 = 2 from rfl)]
    | false =>
      refine key 1 (by omega) (by omega) ?_ ?_ ?_
      · unfold figN; rw [d0, c1, d1, c2]; rfl
      · unfold nmE; rw [c2, if_neg (show ¬ false = true by decide)]
      · unfold valF nmV; rw [c2, t0, if_neg (show ¬ false = true by decide), if_neg (show ¬ nI 1 = 2 by decide)]
theorem rd_none (T : TxS) (d i : Nat) : rdB T d none i = none := rfl
theorem rd4 {T X : TxS} (h : RT T X) {a : Nat} (ha : a ≤ 200) : rdI T 4 a g0 4 = if (sOk X (a + 1) 44 && (sOk X (nmE X (a + 1) + 1) 44 && (sOk X (nmE X (nmE X (a + 1) + 1) + 1) 44 && sOk X (nmE X (nmE X (nmE X (a + 1) + 1) + 1) + 1) 59))) = true then some (nmE X (nmE X (nmE X (nmE X (a + 1) + 1) + 1) + 1) + 1, upd (upd (upd (upd g0 0 (nmV X (a + 1))) 1 (nmV X (nmE X (a + 1) + 1))) 2 (nmV X (nmE X (nmE X (a + 1) + 1) + 1))) 3 (nmV X (nmE X (nmE X (nmE X (a + 1) + 1) + 1) + 1))) else none := by
  show rdB T 4 (rdB T 4 (rdB T 4 (rdB T 4 (some (a + 1, g0)) 0) 1) 2) 3 = _
  have e1 := nmE_le X (a + 1)
  generalize hb1 : nmE X (a + 1) + 1 = b1 at *
  have e2 := nmE_le X b1
  generalize hb2 : nmE X b1 + 1 = b2 at *
  have e3 := nmE_le X b2
  generalize hb3 : nmE X b2 + 1 = b3 at *
  rw [rd_eq h g0 (by omega) (show (if nI 0 = nI 4 - 1 then (59 : Int32) else 44) = 44 by decide) (by decide), hb1]
  cases sOk X (a + 1) 44 with
  | false => rfl
  | true =>
    rw [if_pos rfl, rd_eq h _ (by omega) (show (if nI 1 = nI 4 - 1 then (59 : Int32) else 44) = 44 by decide) (by decide), hb2]
    cases sOk X b1 44 with
    | false => rfl
    | true =>
      rw [if_pos rfl, rd_eq h _ (by omega) (show (if nI 2 = nI 4 - 1 then (59 : Int32) else 44) = 44 by decide) (by decide), hb3]
      cases sOk X b2 44 with
      | false => rfl
      | true =>
        rw [if_pos rfl, rd_eq h _ (by omega) (show (if nI 3 = nI 4 - 1 then (59 : Int32) else 44) = 59 by decide) (by decide)]
        cases sOk X b3 59 with
        | false => rfl
        | true => rfl
theorem rd2 {T X : TxS} (h : RT T X) {a : Nat} (ha : a ≤ 200) : rdI T 2 a g0 2 = if (sOk X (a + 1) 44 && sOk X (nmE X (a + 1) + 1) 59) = true then some (nmE X (nmE X (a + 1) + 1) + 1, upd (upd g0 0 (nmV X (a + 1))) 1 (nmV X (nmE X (a + 1) + 1))) else none := by
  show rdB T 2 (rdB T 2 (some (a + 1, g0)) 0) 1 = _
  have e1 := nmE_le X (a + 1)
  generalize hb1 : nmE X (a + 1) + 1 = b1 at *
  rw [rd_eq h g0 (by omega) (show (if nI 0 = nI 2 - 1 then (59 : Int32) else 44) = 44 by decide) (by decide), hb1]
  cases sOk X (a + 1) 44 with
  | false => rfl
  | true =>
    rw [if_pos rfl, rd_eq h _ (by omega) (show (if nI 1 = nI 2 - 1 then (59 : Int32) else 44) = 59 by decide) (by decide)]
    cases sOk X b1 59 with
    | false => rfl
    | true => rfl
theorem rd1 {T X : TxS} (h : RT T X) {a : Nat} (ha : a ≤ 200) : rdI T 1 a g0 1 = if sOk X (a + 1) 59 = true then some (nmE X (a + 1) + 1, upd g0 0 (nmV X (a + 1))) else none := by
  show rdB T 1 (some (a + 1, g0)) 0 = _
  rw [rd_eq h g0 (by omega) (show (if nI 0 = nI 1 - 1 then (59 : Int32) else 44) = 59 by decide) (by decide)]
/-- the plans read -/
def PE (O Z : PlS) : Prop := pN O = pN Z ∧ pN Z ≤ 8 ∧ (pse O = pse Z ∧ ∃ s : Nat, 1 ≤ s ∧ s ≤ 4 ∧ pse Z = nI s) ∧ pme O = pme Z ∧ pru O = pru Z ∧ ∀ j, j < pN Z → pki O j = pki Z j ∧ pci O j = pci Z j ∧ (∃ b : Nat, 1 ≤ b ∧ b ≤ 30 ∧ ppa O j = nI b ∧ ppa Z j = nI b) ∧ (∃ w : Nat, w ≤ 60 ∧ pwo O j = nI w ∧ pwo Z j = nI w)
def itemEq (T X : TxS) (a : Nat) (O Z : PlS) (n : Int32) : Prop := ((riR X Z a n).1 = true → rItF T a g0 O = some (riR X Z a n).2.2.1 ∧ PE (rItP T a g0 O) (riR X Z a n).2.1) ∧ ((riR X Z a n).1 = false → rItF T a g0 O = none)
def f4 (v0 v1 v2 v3 : Int32) : Nat → Int32 := upd (upd (upd (upd g0 0 v0) 1 v1) 2 v2) 3 v3
theorem f4_0 (v0 v1 v2 v3 : Int32) : f4 v0 v1 v2 v3 0 = v0 := by unfold f4; rw [pk_un (by decide), pk_un (by decide), pk_un (by decide), pk_us]
theorem f4_1 (v0 v1 v2 v3 : Int32) : f4 v0 v1 v2 v3 1 = v1 := by unfold f4; rw [pk_un (by decide), pk_un (by decide), pk_us]
theorem f4_2 (v0 v1 v2 v3 : Int32) : f4 v0 v1 v2 v3 2 = v2 := by unfold f4; rw [pk_un (by decide), pk_us]
theorem f4_3 (v0 v1 v2 v3 : Int32) : f4 v0 v1 v2 v3 3 = v3 := by unfold f4; rw [pk_us]
theorem acc4 (O : PlS) (v0 v1 v2 v3 : Int32) : accOk O 99 (f4 v0 v1 v2 v3) = acCok O v0 v1 v2 v3 ∧ accF O 99 (f4 v0 v1 v2 v3) = acCF O v0 v1 v2 v3 := by
  unfold accOk accF
  rw [if_pos (show (99 : Int32) = 99 from rfl), if_pos (show (99 : Int32) = 99 from rfl), f4_0, f4_1, f4_2, f4_3]
  exact ⟨rfl, rfl⟩
theorem rIt_c {T X : TxS} (h : RT T X) {a : Nat} (ha : a ≤ 200) (O : PlS) (hx2 : tF T a = 99) {b0 b1 b2 b3 : Nat} (hb0 : a + 1 = b0) (hb1 : nmE X b0 + 1 = b1) (hb2 : nmE X b1 + 1 = b2) (hb3 : nmE X b2 + 1 = b3) : rItF T a g0 O = (if ((sOk X b0 44 && (sOk X b1 44 && (sOk X b2 44 && sOk X b3 59))) && acCok O (nmV X b0) (nmV X b1) (nmV X b2) (nmV X b3)) = true then some (nmE X b3 + 1) else none) ∧ ((sOk X b0 44 && (sOk X b1 44 && (sOk X b2 44 && sOk X b3 59))) = true → rItP T a g0 O = acCF O (nmV X b0) (nmV X b1) (nmV X b2) (nmV X b3)) := by
  have h4 := rd4 h ha
  rw [hb0, hb1, hb2, hb3] at h4
  unfold rItF rItP
  rw [hx2, show nbN 99 = 4 from rfl, if_neg (show ¬ (4 : Nat) = 0 by decide), if_neg (show ¬ (4 : Nat) = 0 by decide), h4]
  generalize (sOk X b0 44 && (sOk X b1 44 && (sOk X b2 44 && sOk X b3 59))) = C
  generalize nmV X b0 = v0
  generalize nmV X b1 = v1
  generalize nmV X b2 = v2
  generalize nmV X b3 = v3
  generalize nmE X b3 + 1 = p
  cases C with
  | false => exact ⟨rfl, fun q => Bool.noConfusion q⟩
  | true =>
    refine ⟨?_, fun _ => (acc4 O v0 v1 v2 v3).2⟩
    rw [Bool.true_and, ← (acc4 O v0 v1 v2 v3).1]
    show (if accOk O 99 (f4 v0 v1 v2 v3) = true then some p else none) = (if accOk O 99 (f4 v0 v1 v2 v3) = true then some p else none)
    exact rfl
theorem rc4_e (X : TxS) (Z : PlS) (b : Nat) (n : Int32) : (nmOk X b 0 60 59 = true → rc4 X Z b n = (true, (pki Z, pci Z, ppa Z, upd (pwo Z) (pN Z) (nmV X b), pN Z + 1, pse Z, pme Z, pru Z), nmE X b + 1, nmV X b)) ∧ (nmOk X b 0 60 59 = false → (rc4 X Z b n).1 = false) := by
  refine ⟨fun k => ?_, fun k => ?_⟩
  · unfold rc4; rw [if_pos k, nmA_e k, nmN_e n k]
  · unfold rc4; rw [if_neg (show ¬ nmOk X b 0 60 59 = true by rw [k]; decide)]
theorem rc3_e (X : TxS) (Z : PlS) (b : Nat) (n : Int32) : (nmOk X b 1 30 44 = true → rc3 X Z b n = rc4 X (pki Z, pci Z, upd (ppa Z) (pN Z) (nmV X b), pwo Z, pN Z, pse Z, pme Z, pru Z) (nmE X b + 1) (nmV X b)) ∧ (nmOk X b 1 30 44 = false → (rc3 X Z b n).1 = false) := by
  refine ⟨fun k => ?_, fun k => ?_⟩
  · unfold rc3; rw [if_pos k, nmA_e k, nmN_e n k]
  · unfold rc3; rw [if_neg (show ¬ nmOk X b 1 30 44 = true by rw [k]; decide)]
theorem rc2_e (X : TxS) (Z : PlS) (b : Nat) (n : Int32) : (nmOk X b 0 40 44 = true → rc2 X Z b n = rc3 X (pki Z, upd (pci Z) (pN Z) (nmV X b), ppa Z, pwo Z, pN Z, pse Z, pme Z, pru Z) (nmE X b + 1) (nmV X b)) ∧ (nmOk X b 0 40 44 = false → (rc2 X Z b n).1 = false) := by
  refine ⟨fun k => ?_, fun k => ?_⟩
  · unfold rc2; rw [if_pos k, nmA_e k, nmN_e n k]
  · unfold rc2; rw [if_neg (show ¬ nmOk X b 0 40 44 = true by rw [k]; decide)]
theorem rc1_e (X : TxS) (Z : PlS) (b : Nat) (n : Int32) (e8 : ¬ nI (pN Z) = 8) : (nmOk X b 0 3 44 = true → rc1 X Z b n = rc2 X (upd (pki Z) (pN Z) (nmV X b), pci Z, ppa Z, pwo Z, pN Z, pse Z, pme Z, pru Z) (nmE X b + 1) (nmV X b)) ∧ (nmOk X b 0 3 44 = false → (rc1 X Z b n).1 = false) := by
  refine ⟨fun k => ?_, fun k => ?_⟩
  · unfold rc1; rw [if_neg e8, if_pos k, nmA_e k, nmN_e n k]
  · unfold rc1; rw [if_neg e8, if_neg (show ¬ nmOk X b 0 3 44 = true by rw [k]; decide)]
theorem and8 (s0 s1 s2 s3 i0 i1 i2 i3 : Bool) : ((s0 && (s1 && (s2 && s3))) && (i0 && (i1 && (i2 && i3)))) = ((s0 && i0) && ((s1 && i1) && ((s2 && i2) && (s3 && i3)))) := by
  cases s0 <;> cases s1 <;> cases s2 <;> cases s3 <;> cases i0 <;> cases i1 <;> cases i2 <;> cases i3 <;> rfl
theorem acC_b {O : PlS} (h : pN O < 8) (v0 v1 v2 v3 : Int32) : acCok O v0 v1 v2 v3 = (inB v0 0 3 && (inB v1 0 40 && (inB v2 1 30 && inB v3 0 60))) := by
  unfold acCok
  rw [if_neg (show ¬ (8 : Int32) ≤ nI (pN O) from nI_ge (b := 8) h (by omega))]
  generalize inB v0 0 3 = i0
  generalize inB v1 0 40 = i1
  generalize inB v2 1 30 = i2
  generalize inB v3 0 60 = i3
  cases i0 <;> cases i1 <;> cases i2 <;> cases i3 <;> rfl
theorem item_c {T X : TxS} (h : RT T X) {a : Nat} (ha : a < tN X) {O Z : PlS} (hE : PE O Z) (n : Int32) (hx : hrF X a = 99) : itemEq T X a O Z n := by
  have hX := h.2.1
  have hx2 : tF T a = 99 := (hr_at h (by omega) (nI_ge ha (by omega))).symm.trans hx
  have hr : riR X Z a n = rc1 X Z (a + 1) n := by unfold riR; rw [if_pos hx]
  obtain ⟨b0, hb0⟩ : ∃ b, a + 1 = b := ⟨_, rfl⟩
  obtain ⟨b1, hb1⟩ : ∃ b, nmE X b0 + 1 = b := ⟨_, rfl⟩
  obtain ⟨b2, hb2⟩ : ∃ b, nmE X b1 + 1 = b := ⟨_, rfl⟩
  obtain ⟨b3, hb3⟩ : ∃ b, nmE X b2 + 1 = b := ⟨_, rfl⟩
  obtain ⟨hF, hPl⟩ := rIt_c h (by omega) O hx2 hb0 hb1 hb2 hb3
  unfold itemEq
  rw [hr, hF, hb0]
  obtain ⟨p1, p2, p3, p4, p5, p6⟩ := hE
  by_cases e8 : nI (pN Z) = 8
  · have hf : (rc1 X Z b0 n).1 = false := by unfold rc1; rw [if_pos e8]
    have hk : acCok O (nmV X b0) (nmV X b1) (nmV X b2) (nmV X b3) = false := by
      unfold acCok
      rw [if_pos (show (8 : Int32) ≤ nI (pN O) by rw [p1, e8]; exact Int32.le_refl _)]
    rw [hf, hk, Bool.and_false]
    exact ⟨fun q => Bool.noConfusion q, fun _ => rfl⟩
  · have h8 : pN Z < 8 := by
      have : ¬ pN Z = 8 := fun e => e8 (by rw [e]; rfl)
      omega
    have hcond : ((sOk X b0 44 && (sOk X b1 44 && (sOk X b2 44 && sOk X b3 59))) && acCok O (nmV X b0) (nmV X b1) (nmV X b2) (nmV X b3)) = (nmOk X b0 0 3 44 && (nmOk X b1 0 40 44 && (nmOk X b2 1 30 44 && nmOk X b3 0 60 59))) := by
      rw [acC_b (by rw [p1]; exact h8), and8, ← nm_s, ← nm_s, ← nm_s, ← nm_s]
    rw [hcond]
    have e1 := rc1_e X Z b0 n e8
    rw [hb1] at e1
    cases k1 : nmOk X b0 0 3 44 with
    | false => rw [e1.2 k1]; exact ⟨fun q => Bool.noConfusion q, fun _ => rfl⟩
    | true =>
      rw [e1.1 k1, Bool.true_and]
      have e2 := rc2_e X (upd (pki Z) (pN Z) (nmV X b0), pci Z, ppa Z, pwo Z, pN Z, pse Z, pme Z, pru Z) b1 (nmV X b0)
      rw [hb2] at e2
      cases k2 : nmOk X b1 0 40 44 with
      | false => rw [e2.2 k2]; exact ⟨fun q => Bool.noConfusion q, fun _ => rfl⟩
      | true =>
        rw [e2.1 k2, Bool.true_and]
        have e3 := rc3_e X (upd (pki Z) (pN Z) (nmV X b0), upd (pci Z) (pN Z) (nmV X b1), ppa Z, pwo Z, pN Z, pse Z, pme Z, pru Z) b2 (nmV X b1)
        rw [hb3] at e3
        cases k3 : nmOk X b2 1 30 44 with
        | false => rw [e3.2 k3]; exact ⟨fun q => Bool.noConfusion q, fun _ => rfl⟩
        | true =>
          rw [e3.1 k3, Bool.true_and]
          have e4 := rc4_e X (upd (pki Z) (pN Z) (nmV X b0), upd (pci Z) (pN Z) (nmV X b1), upd (ppa Z) (pN Z) (nmV X b2), pwo Z, pN Z, pse Z, pme Z, pru Z) b3 (nmV X b2)
          cases k4 : nmOk X b3 0 60 59 with
          | false => rw [e4.2 k4]; exact ⟨fun q => Bool.noConfusion q, fun _ => rfl⟩
          | true =>
            rw [e4.1 k4]
            rw [nm_s, Bool.and_eq_true] at k1 k2 k3 k4
            refine ⟨fun _ => ⟨rfl, ?_⟩, fun q => Bool.noConfusion (show true = false from q)⟩
            rw [hPl (by rw [k1.1, k2.1, k3.1, k4.1]; rfl)]
            have hok : acCok O (nmV X b0) (nmV X b1) (nmV X b2) (nmV X b3) = true := by
              rw [acC_b (by rw [p1]; exact h8), k1.2, k2.2, k3.2, k4.2]; rfl
            unfold acCF
            rw [if_pos hok, p1]
            obtain ⟨v, hv1, hv30, -, ev⟩ := inB_nat (a := 1) (b := 30) rfl rfl (by omega) k3.2
            obtain ⟨w, -, hw60, -, ew⟩ := inB_nat (a := 0) (b := 60) rfl rfl (by omega) k4.2
            rw [ev, ew]
            generalize nmV X b0 = v0
            generalize nmV X b1 = v1
            refine ⟨rfl, by show pN Z + 1 ≤ 8; omega, p3, p4, p5, fun j hj => ?_⟩
            have hj : j < pN Z + 1 := hj
            show upd (pki O) (pN Z) v0 j = upd (pki Z) (pN Z) v0 j ∧ upd (pci O) (pN Z) v1 j = upd (pci Z) (pN Z) v1 j ∧ (∃ b : Nat, 1 ≤ b ∧ b ≤ 30 ∧ upd (ppa O) (pN Z) (nI v) j = nI b ∧ upd (ppa Z) (pN Z) (nI v) j = nI b) ∧ (∃ w' : Nat, w' ≤ 60 ∧ upd (pwo O) (pN Z) (nI w) j = nI w' ∧ upd (pwo Z) (pN Z) (nI w) j = nI w')
            by_cases e : j = pN Z
            · subst e
              exact ⟨pk_us.trans pk_us.symm, pk_us.trans pk_us.symm, ⟨v, hv1, hv30, pk_us, pk_us⟩, ⟨w, hw60, pk_us, pk_us⟩⟩
            · rw [pk_un e, pk_un e, pk_un e, pk_un e, pk_un e, pk_un e, pk_un e, pk_un e]
              exact p6 j (by omega)
theorem item_s {T X : TxS} (h : RT T X) {a : Nat} (ha : a < tN X) {O Z : PlS} (hE : PE O Z) (n : Int32) (hx : hrF X a = 115) : itemEq T X a O Z n := by
  have hX := h.2.1
  have hx2 : tF T a = 115 := (hr_at h (by omega) (nI_ge ha (by omega))).symm.trans hx
  have hr : riR X Z a n = rsF X Z (a + 1) n := by unfold riR; rw [if_neg (by rw [hx]; decide), if_pos hx]
  have hF : rItF T a g0 O = match rdI T 2 a g0 2 with | none => none | some q => if accOk O 115 q.2 = true then some q.1 else none := by
    unfold rItF; rw [hx2]; rfl
  have hPl : rItP T a g0 O = match rdI T 2 a g0 2 with | none => O | some q => accF O 115 q.2 := by
    unfold rItP; rw [hx2]; rfl
  unfold itemEq
  rw [hr, hF, hPl, rd2 h (by omega)]
  obtain ⟨p1, p2, p3, p4, p5, p6⟩ := hE
  generalize hb0 : a + 1 = b0
  generalize hb1 : nmE X b0 + 1 = b1
  have hacc : acSok (nmV X b0) (nmV X b1) = (inB (nmV X b0) 1 4 && inB (nmV X b1) 1 20) := by
    unfold acSok
    cases inB (nmV X b0) 1 4 <;> cases inB (nmV X b1) 1 20 <;> rfl
  cases k1 : nmOk X b0 1 4 44 with
  | false =>
    have hf : (rsF X Z b0 n).1 = false := by unfold rsF; rw [k1]; rfl
    rw [hf]
    refine ⟨fun q => Bool.noConfusion (show false = true from q), fun _ => ?_⟩
    rw [nm_s] at k1
    cases s1 : sOk X b0 44 with
    | false => rfl
    | true =>
      rw [s1, Bool.true_and] at k1
      cases (true && sOk X b1 59) with
      | false => rfl
      | true =>
        show (if acSok (nmV X b0) (nmV X b1) = true then _ else none) = none
        rw [hacc, k1]; rfl
  | true =>
    have A1 := nmA_e k1
    have N1 := nmN_e n k1
    cases k2 : nmOk X b1 1 20 59 with
    | false =>
      have hf : (rsF X Z b0 n).1 = false := by unfold rsF; rw [k1, if_pos rfl, A1, hb1, k2]; rfl
      rw [hf]
      refine ⟨fun q => Bool.noConfusion (show false = true from q), fun _ => ?_⟩
      rw [nm_s, Bool.and_eq_true] at k1
      rw [nm_s] at k2
      rw [k1.1, Bool.true_and]
      cases s1 : sOk X b1 59 with
      | false => rfl
      | true =>
        rw [s1, Bool.true_and] at k2
        show (if acSok (nmV X b0) (nmV X b1) = true then _ else none) = none
        rw [hacc, k2, k1.2]; rfl
    | true =>
      have A2 := nmA_e k2
      have N2 := nmN_e (nmV X b0) k2
      have r2 : rsF X Z b0 n = (true, (pki Z, pci Z, ppa Z, pwo Z, pN Z, nmV X b0, nmV X b1, pru Z), nmE X b1 + 1, nmV X b1) := by
        unfold rsF; rw [k1, if_pos rfl, A1, hb1, k2, if_pos rfl, N1, N2, A2]
      rw [nm_s, Bool.and_eq_true] at k1 k2
      have hok : acSok (nmV X b0) (nmV X b1) = true := by rw [hacc, k1.2, k2.2]; rfl
      rw [r2, k1.1, k2.1]
      refine ⟨fun _ => ⟨?_, ?_⟩, fun q => Bool.noConfusion (show true = false from q)⟩
      · show (if acSok (nmV X b0) (nmV X b1) = true then some (nmE X b1 + 1) else none) = some (nmE X b1 + 1)
        rw [if_pos hok]
      · show PE (acSF O (nmV X b0) (nmV X b1)) (pki Z, pci Z, ppa Z, pwo Z, pN Z, nmV X b0, nmV X b1, pru Z)
        unfold acSF
        rw [if_pos hok]
        obtain ⟨v, hv1, hv30, -, ev⟩ := inB_nat (a := 1) (b := 4) rfl rfl (by omega) k1.2
        exact ⟨p1, p2, ⟨rfl, v, hv1, hv30, ev⟩, rfl, p5, p6⟩
theorem item_r {T X : TxS} (h : RT T X) {a : Nat} (ha : a < tN X) {O Z : PlS} (hE : PE O Z) (n : Int32) (hx : hrF X a = 114) : itemEq T X a O Z n := by
  have hX := h.2.1
  have hx2 : tF T a = 114 := (hr_at h (by omega) (nI_ge ha (by omega))).symm.trans hx
  have hr : riR X Z a n = rrF X Z (a + 1) n := by unfold riR; rw [if_neg (by rw [hx]; decide), if_neg (by rw [hx]; decide), if_pos hx]
  have hF : rItF T a g0 O = match rdI T 1 a g0 1 with | none => none | some q => if accOk O 114 q.2 = true then some q.1 else none := by
    unfold rItF; rw [hx2]; rfl
  have hPl : rItP T a g0 O = match rdI T 1 a g0 1 with | none => O | some q => accF O 114 q.2 := by
    unfold rItP; rw [hx2]; rfl
  unfold itemEq
  rw [hr, hF, hPl, rd1 h (by omega)]
  obtain ⟨p1, p2, p3, p4, p5, p6⟩ := hE
  generalize hb0 : a + 1 = b0
  have hacc : acRok (nmV X b0) = inB (nmV X b0) 0 2 := by
    unfold acRok
    cases inB (nmV X b0) 0 2 <;> rfl
  unfold rrF
  cases k1 : nmOk X b0 0 2 59 with
  | false =>
    refine ⟨fun q => Bool.noConfusion (show false = true from q), fun _ => ?_⟩
    rw [nm_s] at k1
    cases s1 : sOk X b0 59 with
    | false => rfl
    | true =>
      rw [s1, Bool.true_and] at k1
      show (if acRok (nmV X b0) = true then _ else none) = none
      rw [hacc, k1]; rfl
  | true =>
    have A1 := nmA_e k1
    have N1 := nmN_e n k1
    rw [nm_s, Bool.and_eq_true] at k1
    have hok : acRok (nmV X b0) = true := by rw [hacc, k1.2]
    rw [k1.1, A1, N1]
    refine ⟨fun _ => ⟨?_, ?_⟩, fun q => Bool.noConfusion (show true = false from q)⟩
    · show (if acRok (nmV X b0) = true then some (nmE X b0 + 1) else none) = some (nmE X b0 + 1)
      rw [if_pos hok]
    · show PE (acRF O (nmV X b0)) (pki Z, pci Z, ppa Z, pwo Z, pN Z, pse Z, pme Z, nmV X b0)
      unfold acRF
      rw [if_pos hok]
      exact ⟨p1, p2, p3, p4, rfl, p6⟩
theorem item_eq {T X : TxS} (h : RT T X) {a : Nat} (ha : a < tN X) {O Z : PlS} (hE : PE O Z) (n : Int32) : itemEq T X a O Z n := by
  by_cases c1 : hrF X a = 99
  · exact item_c h ha hE n c1
  · by_cases c2 : hrF X a = 115
    · exact item_s h ha hE n c2
    · by_cases c3 : hrF X a = 114
      · exact item_r h ha hE n c3
      · have hX := h.2.1
        have hx2 : tF T a = hrF X a := (hr_at h (by omega) (nI_ge ha (by omega))).symm
        have hr : riR X Z a n = (false, Z, a + 1, n) := by unfold riR; rw [if_neg c1, if_neg c2, if_neg c3]
        unfold itemEq
        rw [hr]
        refine ⟨fun q => Bool.noConfusion (show false = true from q), fun _ => ?_⟩
        unfold rItF nbN
        rw [hx2, if_neg c1, if_neg c3, if_neg c2, if_pos rfl]
theorem text_eq {T X : TxS} (h : RT T X) : ∀ (k a : Nat) (O Z : PlS) (n : Int32), a ≤ tN X → tN X ≤ a + k → PE O Z → (riF T k a O).1 = (mfl X (k + 1) Z a n).1 ∧ ((mfl X (k + 1) Z a n).1 = -4 → PE (riF T k a O).2 (mfl X (k + 1) Z a n).2.1) := by
  have hX := h.2.1
  intro k
  induction k with
  | zero =>
    intro a O Z n h1 h2 hE
    rw [mfl_e X 0 Z a n (nI_le (by omega) (by omega))]
    exact ⟨rfl, fun _ => hE⟩
  | succ k ih =>
    intro a O Z n h1 h2 hE
    have e : riF T (k + 1) a O = if nI (tN T) ≤ nI a then (-4, O) else match rItF T a g0 O with | none => (nI a, rItP T a g0 O) | some b => riF T k b (rItP T a g0 O) := rfl
    rw [e, h.1]
    by_cases c : nI (tN X) ≤ nI a
    · rw [mfl_e X _ Z a n c, if_pos c]
      exact ⟨rfl, fun _ => hE⟩
    · have ha := nI_lt_of c (by omega)
      have it := item_eq h ha hE n
      rw [if_neg c]
      cases hr : (riR X Z a n).1 with
      | true =>
        rw [mfl_s X _ Z a n c hr, (it.1 hr).1]
        have ho := riR_ok hX (by omega) hE.2.1 hr
        exact ih _ _ _ _ ho.2.1 (by omega) (it.1 hr).2
      | false =>
        rw [mfl_f X _ Z a n c hr, it.2 hr]
        exact ⟨rfl, fun q => absurd q (nI_n4 (by omega))⟩
theorem PE.clr (O Z : PlS) : PE (clrF O) (clrF Z) := ⟨rfl, Nat.zero_le _, ⟨rfl, 1, by omega, by omega, rfl⟩, rfl, rfl, fun j hj => absurd hj (Nat.not_lt_zero j)⟩
theorem fault_eq {T X : TxS} (h : RT T X) (O Z : PlS) (n : Int32) : (rinF T O).1 = (mfl X 201 (clrF Z) 0 n).1 ∧ ((mfl X 201 (clrF Z) 0 n).1 = -4 → PE (rinF T O).2 (mfl X 201 (clrF Z) 0 n).2.1) :=
  text_eq h 200 0 (clrF O) (clrF Z) n (Nat.zero_le _) (by have := h.2.1; omega) (PE.clr O Z)
theorem cp_at (g f : Nat → Int32) (n j : Nat) (h : j < n) : cpF g f n j = g j := by
  have := it_upd g f n j
  rw [if_pos h] at this
  exact this
theorem lay_eq {T X : TxS} (h : RT T X) (O Z : PlS) (n : Int32) : layOk T O = mlyOk X Z n ∧ (mlyOk X Z n = true → pN (rinF T O).2 = pN (mfl X 201 (clrF Z) 0 n).2.1 ∧ ∀ (N : MPl) (M : MLn), RP (rinF T O).2 (mlyN (mfl X 201 (clrF Z) 0 n).2.1 N (pN (mfl X 201 (clrF Z) 0 n).2.1)) ∧ RR (pN (mfl X 201 (clrF Z) 0 n).2.1) 0 (startF (rinF T O).2) (mlyM (mfl X 201 (clrF Z) 0 n).2.1 M (pN (mfl X 201 (clrF Z) 0 n).2.1))) := by
  have hf := fault_eq h O Z n
  unfold layOk mlyOk
  rw [hf.1]
  by_cases c1 : (mfl X 201 (clrF Z) 0 n).1 = -4
  · have hE := hf.2 c1
    rw [if_pos c1, if_pos c1, hE.1]
    refine ⟨rfl, fun hz => ?_⟩
    generalize (rinF T O).2 = P at hE hz ⊢
    generalize (mfl X 201 (clrF Z) 0 n).2.1 = Y at hE hz ⊢
    obtain ⟨p1, p2, ⟨p3, s, hs1, hs4, p3'⟩, p4, p5, p6⟩ := hE
    have hz1 : 1 ≤ pN Y := by
      rcases Nat.eq_zero_or_pos (pN Y) with q | q
      · rw [q] at hz; exact absurd hz (by decide)
      · exact q
    refine ⟨rfl, fun N M => ⟨⟨p1, hz1, p2, p4, fun c hc => ?_⟩, ⟨⟨⟨fun c hc => ?_, rfl, rfl, p3, p5⟩, ?_⟩, fun c hc => ?_⟩⟩⟩
    · have hc : c < pN Y := hc
      obtain ⟨q1, q2, ⟨b, b1, b2, b3, b4⟩, ⟨w, w1, w2, w3⟩⟩ := p6 c hc
      exact ⟨q1.trans (cp_at _ _ _ _ hc).symm, q2.trans (cp_at _ _ _ _ hc).symm, ⟨b, b1, b2, b3, (cp_at _ _ _ _ hc).trans b4⟩, ⟨w, w1, w2, (cp_at _ _ _ _ hc).trans w3⟩⟩
    · exact ⟨(cp_at g0 _ _ _ hc).symm, (cp_at g0 _ _ _ hc).symm, (cp_at g0 _ _ _ hc).symm, (cp_at g0 _ _ _ hc).symm⟩
    · exact ⟨rfl, ⟨s, hs1, hs4, p3.trans p3'⟩, fun c hc => ⟨0, Nat.le_refl 0, rfl⟩⟩
    · show cpF g0 (man M) (pN Y) c = b2i (bitB 0 c) ∧ (bitB 0 c = true → (0 : Int32) = 0)
      rw [cp_at _ _ _ _ hc, bitB_0 (by omega)]
      exact ⟨rfl, fun _ => rfl⟩
  · rw [if_neg c1, if_neg c1]
    exact ⟨rfl, fun q => absurd q (by decide)⟩
