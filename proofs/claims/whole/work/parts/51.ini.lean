/-! The two sides are alike at the start. -/
def FTX : TxS := (fun j => nI (sna j), 76)
set_option maxRecDepth 100000 in
set_option maxHeartbeats 40000000 in
theorem ini_m : (mfl FTX 201 (clrF ZR) 0 0).1 = -4 ∧ pN (mfl FTX 201 (clrF ZR) 0 0).2.1 = nN NZ ∧ pse (mfl FTX 201 (clrF ZR) 0 0).2.1 = mse MZ ∧ pme (mfl FTX 201 (clrF ZR) 0 0).2.1 = nea NZ ∧ pru (mfl FTX 201 (clrF ZR) 0 0).2.1 = mru MZ ∧ ∀ c : Fin 7, pki (mfl FTX 201 (clrF ZR) 0 0).2.1 c.val = nki NZ c.val ∧ pci (mfl FTX 201 (clrF ZR) 0 0).2.1 c.val = nca NZ c.val ∧ ppa (mfl FTX 201 (clrF ZR) 0 0).2.1 c.val = nbe NZ c.val ∧ pwo (mfl FTX 201 (clrF ZR) 0 0).2.1 c.val = nwo NZ c.val := by decide +kernel
theorem li0 : LRel ((rinF (it sapB ZX 76) ZR).2) (startF ((rinF (it sapB ZX 76) ZR).2)) (tF (it sapB ZX 76), 0) (fun _ => ZL) 0 0 (fun _ => ZL) 0 0 ZS NZ MZ ZS ZX (fun _ => 0) 0 (fun _ => 0) 0 := by
  have hT := sap_N 76 (Nat.le_refl _)
  have hRT : RT (it sapB ZX 76) FTX := ⟨hT.1, by decide, fun j hj => hT.2 j hj⟩
  have hf := fault_eq hRT ZR ZR 0
  obtain ⟨i1, i2, i3, i4, i5, i6⟩ := ini_m
  have hE := hf.2 i1
  clear hf i1 hRT hT
  generalize (rinF (it sapB ZX 76) ZR).2 = P at hE ⊢
  generalize (mfl FTX 201 (clrF ZR) 0 0).2.1 = Y at hE i2 i3 i4 i5 i6
  obtain ⟨p1, p2, ⟨p3, s, hs1, hs4, p3'⟩, p4, p5, p6⟩ := hE
  have hn7 : nN NZ = 7 := rfl
  refine ⟨rfl, ⟨p1.trans i2, by rw [hn7]; decide, by rw [hn7]; decide, p4.trans i4, fun c hc => ?_⟩, ⟨0, Nat.zero_le _, ⟨⟨fun c hc => ⟨rfl, rfl, rfl, rfl⟩, rfl, rfl, p3.trans i3, p5.trans i5⟩, ⟨nI_0.symm, ⟨s, hs1, hs4, p3.trans p3'⟩, fun c hc => ⟨0, Nat.le_refl 0, nI_0.symm⟩⟩⟩, fun c hc => ?_⟩, ⟨rfl, Nat.zero_le _, fun j hj => absurd hj (Nat.not_lt_zero j)⟩, ⟨Nat.zero_le _, fun j hj => absurd hj (Nat.not_lt_zero j)⟩, ⟨rfl, Nat.zero_le _, by decide, fun j hj => absurd hj (Nat.not_lt_zero j)⟩, ⟨rfl, Nat.zero_le _, by decide, fun j hj => absurd hj (Nat.not_lt_zero j)⟩⟩
  · obtain ⟨q1, q2, ⟨b, b1, b2, b3, b4⟩, ⟨w, w1, w2, w3⟩⟩ := p6 c (by rw [i2]; exact hc)
    obtain ⟨j1, j2, j3, j4⟩ := i6 ⟨c, by rw [hn7] at hc; exact hc⟩
    exact ⟨q1.trans j1, q2.trans j2, ⟨b, b1, b2, b3, j3.symm.trans b4⟩, ⟨w, w1, w2, j4.symm.trans w3⟩⟩
  · show (0 : Int32) = b2i (bitB 0 c) ∧ (bitB 0 c = true → (0 : Int32) = 0)
    rw [bitB_0 (by rw [hn7] at hc; omega)]
    exact ⟨rfl, fun _ => rfl⟩
