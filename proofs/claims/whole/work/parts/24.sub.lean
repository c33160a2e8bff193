theorem sub_bit : ∀ a b : Fin 256, nI a.val &&& (nI b.val ^^^ (-1)) = 0 → tn (bcF (nI a.val)) ≤ tn (bcF (nI b.val)) := by decide +kernel
