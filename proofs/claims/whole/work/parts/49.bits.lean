/-! bits: how many of a set of twelve, and those of a year -/
theorem bCnt_all : ∀ a : Fin 64, ∀ b : Fin 64, bCnt ((64 * a.val + b.val : Nat) : Int) = xOn ((64 * a.val + b.val : Nat) : Int) 12 := by decide +kernel
theorem bCnt_on {x : Int} (h0 : 0 ≤ x) (h1 : x < 4096) : bCnt x = xOn x 12 := by
  have h := bCnt_all ⟨x.toNat / 64, by omega⟩ ⟨x.toNat % 64, by omega⟩
  dsimp only at h
  rw [show ((64 * (x.toNat / 64) + x.toNat % 64 : Nat) : Int) = x by omega] at h
  exact h
theorem sy_b1 : ∀ v : Fin 3, ∀ g : Fin 16, ∀ i : Fin 4, bAnd (bShr ((g.val * 16 ^ v.val : Nat) : Int) ((4 * v.val + i.val : Nat) : Int)) 1 = if g.val.testBit i.val then 1 else 0 := by decide +kernel
theorem sy_b2 : ∀ v : Fin 3, ∀ g : Fin 16, ∀ i : Fin 4, bOr ((g.val * 16 ^ v.val : Nat) : Int) (bShl 1 ((4 * v.val + i.val : Nat) : Int)) = (((g.val ||| 2 ^ i.val) * 16 ^ v.val : Nat) : Int) := by decide +kernel
theorem sy_b3 : ∀ g : Fin 16, ∀ i j : Fin 4, (g.val ||| 2 ^ i.val) < 16 ∧ (g.val ||| 2 ^ i.val).testBit j.val = (g.val.testBit j.val || decide (i = j)) := by decide +kernel
