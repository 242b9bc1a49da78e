/-! numbers: rows pasted from the kit (pk_, lp, ek_, co_, sb_), then my own (fa_) -/
/-! my own: an array read as naturals; ranges; literals -/
def fa_N (a : Nat → Int32) : Nat → Nat := fun i => (a i).toNatClampNeg
def fa_R (n : Nat) (x : Int32) : Prop := ∃ j, j < n ∧ x = nI j
theorem fa_Rn {n : Nat} {a : Nat → Int32} {i : Nat} (h : fa_R n (a i)) (hn : n < 2 ^ 31) : a i = nI (fa_N a i) ∧ fa_N a i < n := by
  obtain ⟨j, hj, e⟩ := h
  have e2 : fa_N a i = j := by show (a i).toNatClampNeg = j; rw [e, nI_clamp (by omega)]
  rw [e2]
  exact ⟨e, hj⟩
theorem fa_Re {a : Nat → Int32} {i j : Nat} (h : a i = nI j) (hj : j < 2 ^ 31) : fa_N a i = j := by
  show (a i).toNatClampNeg = j
  rw [h, nI_clamp hj]
theorem fa_Nu {a : Nat → Int32} {k j v : Nat} (hv : v < 2 ^ 31) : fa_N (upd a k (nI v)) j = if j = k then v else fa_N a j := by
  show (upd a k (nI v) j).toNatClampNeg = _
  by_cases e : j = k
  · rw [if_pos e, e, pk_us, nI_clamp hv]
  · rw [if_neg e, pk_un e]; rfl
theorem fa_inj {a b : Nat} (ha : a < 2 ^ 31) (hb : b < 2 ^ 31) (h : nI a = nI b) : a = b := (nI_eq ha hb).mp h
theorem fa_ne {a b : Nat} (ha : a < 2 ^ 31) (hb : b < 2 ^ 31) (h : a ≠ b) : ¬ nI a = nI b := fun e => h (fa_inj ha hb e)
theorem fa_m1 {a : Nat} (h : a < 2 ^ 31) : ¬ nI a = -1 := by
  intro e
  have := nI_pos (n := a) h
  rw [e] at this
  exact this (by decide)
theorem fa_m1' {a : Nat} (h : a < 2 ^ 31) : ¬ (-1 : Int32) = nI a := fun e => fa_m1 h e.symm
