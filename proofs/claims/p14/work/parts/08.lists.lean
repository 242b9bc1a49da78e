section GLIS
/-! the reference's list of constraints, entry by entry -/
variable {L P CC CB CN EU EA EB : Nat → Nat} {ne : Nat}
theorem ge_snoc {kx ky kd : Nat → Int32} {m x0 y0 : Nat} {d0 : Int32} (hx0 : x0 < 36) (hy0 : y0 < 36) (x y : Nat) (d : Int32) :
    ga_C (fa_N (upd kx m (nI x0))) (fa_N (upd ky m (nI y0))) (upd kd m d0) (m + 1) x y d ↔ (ga_C (fa_N kx) (fa_N ky) kd m x y d ∨ (x = x0 ∧ y = y0 ∧ d = d0)) := by
  have nx : ∀ (a : Nat → Int32) (v c : Nat), v < 36 → fa_N (upd a m (nI v)) c = if c = m then v else fa_N a c := fun a v c hv => fa_Nu (by omega)
  constructor
  · rintro ⟨c, hc, e1, e2, e3⟩
    rw [nx _ _ _ hx0] at e1
    rw [nx _ _ _ hy0] at e2
    by_cases z : c = m
    · subst z
      rw [if_pos rfl] at e1 e2
      rw [pk_us] at e3
      exact Or.inr ⟨e1.symm, e2.symm, e3.symm⟩
    · rw [if_neg z] at e1 e2
      rw [pk_un z] at e3
      exact Or.inl ⟨c, by omega, e1, e2, e3⟩
  · rintro (⟨c, hc, e1, e2, e3⟩ | ⟨rfl, rfl, rfl⟩)
    · have z : c ≠ m := by omega
      refine ⟨c, by omega, ?_, ?_, ?_⟩
      · rw [nx _ _ _ hx0, if_neg z]; exact e1
      · rw [nx _ _ _ hy0, if_neg z]; exact e2
      · rw [pk_un z]; exact e3
    · refine ⟨m, by omega, ?_, ?_, pk_us⟩
      · rw [nx _ _ _ hx0, if_pos rfl]
      · rw [nx _ _ _ hy0, if_pos rfl]
def ge_SY (L CC CB CN : Nat → Nat) (k : Nat) : ga_T := fun x y d =>
  ∃ u i, u < 4 ∧ i < CC u ∧ u * 8 + i < k ∧ x = u * 8 + CN (u * 8 + i) ∧ y = 32 + CB (u * 8 + i) ∧ d = nI (gd_off L CB CN u (CB (u * 8 + i)) i)
def ge_SF (L CC CB CN : Nat → Nat) (EU EA EB : Nat → Nat) (e : Nat) : ga_T := fun x y d =>
  ge_SY L CC CB CN 32 x y d ∨ (∃ f, f < e ∧ x = EU f * 8 + fb_nm (EA f) ∧ y = EU f * 8 + fb_nm (EB f) ∧ d = nI (fb_ix (EB f)) - nI (fb_ix (EA f)))
theorem ge_sy0 {x y : Nat} {d : Int32} : ¬ ge_SY L CC CB CN 0 x y d := by
  rintro ⟨u, i, _, _, h, _⟩
  omega
theorem ge_syNo {k : Nat} (hc : ∀ u, u < 4 → CC u ≤ 8) (h : ¬ k % 8 < CC (k / 8)) {x y : Nat} {d : Int32} : ge_SY L CC CB CN (k + 1) x y d ↔ ge_SY L CC CB CN k x y d := by
  constructor
  · rintro ⟨u, i, h1, h2, h3, h4⟩
    refine ⟨u, i, h1, h2, ?_, h4⟩
    have := hc u h1
    by_cases z : u * 8 + i = k
    · exfalso
      have e1 : k % 8 = i := by omega
      have e2 : k / 8 = u := by omega
      rw [e1, e2] at h
      exact h h2
    · omega
  · rintro ⟨u, i, h1, h2, h3, h4⟩
    exact ⟨u, i, h1, h2, by omega, h4⟩
theorem ge_syYes {k : Nat} (hc : ∀ u, u < 4 → CC u ≤ 8) (hk : k < 32) (h : k % 8 < CC (k / 8)) {x y : Nat} {d : Int32} : ge_SY L CC CB CN (k + 1) x y d ↔
    (ge_SY L CC CB CN k x y d ∨ (x = k / 8 * 8 + CN k ∧ y = 32 + CB k ∧ d = nI (gd_off L CB CN (k / 8) (CB k) (k % 8)))) := by
  have ek : k / 8 * 8 + k % 8 = k := by omega
  constructor
  · rintro ⟨u, i, h1, h2, h3, h4, h5, h6⟩
    by_cases z : u * 8 + i = k ∧ u = k / 8
    · obtain ⟨z1, z2⟩ := z
      have z3 : i = k % 8 := by omega
      right
      rw [z1] at h4 h5 h6
      rw [z2] at h4 h6
      rw [z3] at h6
      exact ⟨h4, h5, h6⟩
    · left
      by_cases z1 : u * 8 + i = k
      · exfalso
        have := hc u h1
        exact z ⟨z1, by omega⟩
      · exact ⟨u, i, h1, h2, by omega, h4, h5, h6⟩
  · rintro (⟨u, i, h1, h2, h3, h4⟩ | ⟨h4, h5, h6⟩)
    · exact ⟨u, i, h1, h2, by omega, h4⟩
    · refine ⟨k / 8, k % 8, by omega, h, by omega, ?_, ?_, ?_⟩
      · rw [ek]; exact h4
      · rw [ek]; exact h5
      · rw [ek]; exact h6
theorem ge_sfe {e : Nat} {x y : Nat} {d : Int32} : ge_SF L CC CB CN EU EA EB (e + 1) x y d ↔
    (ge_SF L CC CB CN EU EA EB e x y d ∨ (x = EU e * 8 + fb_nm (EA e) ∧ y = EU e * 8 + fb_nm (EB e) ∧ d = nI (fb_ix (EB e)) - nI (fb_ix (EA e)))) := by
  constructor
  · rintro (h | ⟨f, hf, h⟩)
    · exact Or.inl (Or.inl h)
    · by_cases z : f = e
      · subst z
        exact Or.inr h
      · exact Or.inl (Or.inr ⟨f, by omega, h⟩)
  · rintro ((h | ⟨f, hf, h⟩) | h)
    · exact Or.inl h
    · exact Or.inr ⟨f, by omega, h⟩
    · exact Or.inr ⟨e, by omega, h⟩
theorem ge_sf0 {x y : Nat} {d : Int32} : ge_SF L CC CB CN EU EA EB 0 x y d ↔ ge_SY L CC CB CN 32 x y d := by
  constructor
  · rintro (h | ⟨f, hf, _⟩)
    · exact h
    · omega
  · exact Or.inl
theorem ge_cs (hc : ∀ u, u < 4 → CC u ≤ 8) {x y : Nat} {d : Int32} : ge_SF L CC CB CN EU EA EB ne x y d ↔ gd_CS L CC CB CN ne EU EA EB x y d := by
  constructor
  · rintro (⟨u, i, h1, h2, h3, h4⟩ | h)
    · exact Or.inl ⟨u, i, h1, h2, h4⟩
    · exact Or.inr h
  · rintro (⟨u, i, h1, h2, h4⟩ | h)
    · have := hc u h1
      exact Or.inl ⟨u, i, h1, h2, by omega, h4⟩
    · exact Or.inr h
end GLIS
