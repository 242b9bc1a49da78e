section HCE
/-! a variable's cell and an operand's value, on both sides at once -/
variable {sc oc ne ns ca on st ra xu xn xe xd nc yp yu ye yl yr : Int32} {al ap ac en eu ea eb sU sL sK sE sG sO gr po ec cx ou tc ss av cs cb cn kx ky kd pl rl cm hv ba ad ex cy bi : Nat → Int32}
theorem hc_v {v : Int32} {l : Nat} (h2 : l ≤ 16) : v < 1 ∨ (¬ v < 1 ∧ ¬ v ≤ nI l) ∨ ∃ i, 1 ≤ i ∧ i ≤ l ∧ v = nI i := by
  by_cases a : v < 1
  · exact Or.inl a
  · right
    by_cases b : v ≤ nI l
    · right
      have a0 : ¬ v < 0 := fun z => a (Int32.lt_trans z (by decide))
      obtain ⟨i, hi, rfl⟩ := nI_of a0
      refine ⟨i, Nat.le_of_not_lt fun z => a (nI_lt (b := 1) z (by decide)), ?_, rfl⟩
      rw [nI_leI hi (by omega)] at b
      exact b
    · exact Or.inl ⟨a, b⟩
variable {RC : Nat → Nat → Prop} {u c s p : Nat}
theorem hc_dum (hd : ∀ k, k < 32 → ¬ gd_St (fa_N ap) k → al k = 1) (hu : u < 4) {n : Nat} (hn : n < 8) (h : n < fa_N ap u) : al (u * 8 + n) = 1 := by
  refine hd _ (by omega) ?_
  unfold gd_St
  rw [show (u * 8 + n) % 8 = n by omega, show (u * 8 + n) / 8 = u by omega]
  exact fun z => z h
end HCE
