section GADR
variable {C : ga_T} {g q cm rl : Nat → Int32} {L : Nat → Nat} {St : Nat → Prop} {k N r : Nat} {hv ba ad : Nat → Int32}
theorem gc_alNew {mnv mxv : Int32} (H : gb_AL L St cm rl k N hv ba ad) (hk : k < 32) (hr : r < 36) (ec : cm k = nI r) (hh : hv r = 0) (MM : gb_MM L St cm rl r mnv.toInt mxv.toInt)
    (hb : ∀ x, x < 36 → -4608 ≤ (rl x).toInt ∧ (rl x).toInt ≤ 4608) (hL : ∀ k, k < 32 → 1 ≤ L k ∧ L k ≤ 16) :
    ∃ N', nI N + mxv - mnv = nI N' ∧ gb_AL L St cm rl (k + 1) N' (upd hv r 1) (upd ba r (nI N - mnv)) (upd ad k (nI N - mnv + rl k)) := by
  obtain ⟨mn, mx, s, h0, h1, h2, h3, h4⟩ := H
  have M := MM
  obtain ⟨m1, ⟨k1, a1, a2, a3, a4⟩, ⟨k2, b1, b2, b3, b4⟩⟩ := MM
  have c1 := hb k1 (by omega)
  have c2 := hb k2 (by omega)
  have c3 := hL k1 a1
  have c4 := hL k2 b1
  have c5 := m1 k1 a1 a2 a3
  have hN : (nI N).toInt = (N : Int) := nI_toInt (by omega)
  have hba : (nI N - mnv).toInt = (N : Int) - mnv.toInt := by
    rw [ga_subT (by omega) (by omega), hN]
  refine ⟨N + (mxv.toInt - mnv.toInt).toNat, ?_, fun x => if x = r then mnv.toInt else mn x, fun x => if x = r then mxv.toInt else mx x, fun x => if x = r then (N : Int) else s x, ?_, ?_, ?_, ?_, ?_⟩
  · apply Int32.toInt_inj.mp
    have e1 : (nI N + mxv).toInt = N + mxv.toInt := by rw [ga_addT (by omega) (by omega), hN]
    rw [ga_subT (by omega) (by omega), e1, nI_toInt (by omega)]
    omega
  · omega
  · intro k' hk' sk
    by_cases e : k' = k
    · subst e
      exact ⟨r, hr, ec, by rw [pk_us]; decide, by rw [pk_us, pk_us]⟩
    · obtain ⟨r', d1, d2, d3, d4⟩ := h1 k' (by omega) sk
      have ne : r' ≠ r := fun z => d3 (z ▸ hh)
      exact ⟨r', d1, d2, by rw [pk_un ne]; exact d3, by rw [pk_un e, pk_un ne]; exact d4⟩
  · intro x hx hx2
    by_cases e : x = r
    · subst e
      simp only [if_true, pk_us]
      exact ⟨M, by omega, by omega, hba⟩
    · rw [pk_un e] at hx2
      obtain ⟨d1, d2, d3, d4⟩ := h2 x hx hx2
      simp only [if_neg e, pk_un e]
      exact ⟨d1, d2, by omega, d4⟩
  · intro x y hx hy hx2 hy2 ne
    by_cases e : x = r
    · subst e
      have e' : y ≠ x := fun z => ne z.symm
      rw [pk_un e'] at hy2
      obtain ⟨d1, d2, d3, d4⟩ := h2 y hy hy2
      simp only [if_true, if_neg e']
      exact Or.inr d3
    · rw [pk_un e] at hx2
      by_cases e' : y = r
      · subst e'
        obtain ⟨d1, d2, d3, d4⟩ := h2 x hx hx2
        simp only [if_true, if_neg e]
        exact Or.inl d3
      · rw [pk_un e'] at hy2
        simp only [if_neg e, if_neg e']
        exact h3 x y hx hy hx2 hy2 ne
  · intro a l1 l2
    by_cases c : a < N
    · obtain ⟨x, d1, d2, d3, d4⟩ := h4 a l1 c
      have e : x ≠ r := fun z => d2 (z ▸ hh)
      refine ⟨x, d1, by rw [pk_un e]; exact d2, ?_⟩
      simp only [if_neg e]
      exact ⟨d3, d4⟩
    · refine ⟨r, hr, by rw [pk_us]; decide, ?_⟩
      simp only [if_true]
      omega
/-- what the two allocations have in common: the cell E of an element and its address -/
theorem gc_fin (H : gb_AL L St cm rl 32 N hv ba ad) (HL : gb_Lay C g q cm rl) (hs : gb_Str L St C) (hL : ∀ k, k < 32 → 1 ≤ L k ∧ L k ≤ 16) :
    (∀ k, k < 32 → St k → ∃ A, ad k = nI A ∧ A + L k ≤ 512) ∧
    (∀ k k' i i' A A', k < 32 → k' < 32 → St k → St k' → 1 ≤ i → i ≤ L k → 1 ≤ i' → i' ≤ L k' → A < 512 → A' < 512 → ad k = nI A → ad k' = nI A' → (A + i = A' + i' ↔ (cm k = cm k' ∧ rl k + nI i = rl k' + nI i'))) := by
  obtain ⟨mn, mx, s, h0, h1, h2, h3, h4⟩ := H
  have hb := HL.2.2.1
  have rr : ∀ {a b : Nat}, a < 36 → b < 36 → nI a = nI b → a = b := fun ha hb e => (nI_eq (by omega) (by omega)).mp e
  have ad1 : ∀ k r, k < 32 → St k → r < 36 → cm k = nI r → hv r ≠ 0 ∧ (ad k).toInt = s r - mn r + (rl k).toInt ∧ s r ≤ (ad k).toInt ∧ (ad k).toInt + L k ≤ s r + (mx r - mn r) ∧ 0 ≤ s r ∧ s r + (mx r - mn r) ≤ N := by
    intro k r hk sk hr ec
    obtain ⟨r', d1, d2, d3, d4⟩ := h1 k hk sk
    have er := rr hr d1 (ec.symm.trans d2)
    subst er
    obtain ⟨⟨m1, ⟨k1, a1, a2, a3, a4⟩, _⟩, e2, e3, e4⟩ := h2 r hr d3
    have c := m1 k hk sk ec
    have b := hb k (by omega)
    have b1 := hb k1 (by omega)
    have e5 : (ad k).toInt = s r - mn r + (rl k).toInt := by
      rw [d4, ga_addT (by omega) (by omega), e4]
    exact ⟨d3, e5, by omega, by omega, e2, e3⟩
  have hN : N ≤ 512 := by
    refine gb_ph 512 N (fun a e => ∃ k i, k < 32 ∧ St k ∧ 1 ≤ i ∧ i ≤ L k ∧ e = k * 16 + i - 1 ∧ (a : Int) = (ad k).toInt + i - 1) ?_ ?_
    · intro a ha
      obtain ⟨r, hr, d2, d3, d4⟩ := h4 (a : Int) (by omega) (by omega)
      obtain ⟨⟨m1, ⟨k1, a1, a2, a3, a4⟩, ⟨k2, b1, b2, b3, b4⟩⟩, e2, e3, e4⟩ := h2 r hr d2
      obtain ⟨k, f1, f2, f3, f4, f5⟩ := gb_cover (t := (a : Int) - s r + mn r) HL hs hL a1 b1 a2 (a3.trans b3.symm) (by omega) (by omega)
      obtain ⟨_, g2, _⟩ := ad1 k r f1 f2 hr (f3.trans a3)
      have l := hL k f1
      refine ⟨k * 16 + ((a : Int) - s r + mn r - (rl k).toInt + 1).toNat - 1, by omega, k, ((a : Int) - s r + mn r - (rl k).toInt + 1).toNat, f1, f2, by omega, by omega, rfl, by omega⟩
    · rintro a a' e _ _ ⟨k, i, c1, c2, c3, c4, c5, c6⟩ ⟨k', i', c1', c2', c3', c4', c5', c6'⟩
      have l := hL k c1
      have l' := hL k' c1'
      have ek : k = k' := by omega
      have ei : i = i' := by omega
      subst ek
      subst ei
      omega
  constructor
  · intro k hk sk
    obtain ⟨r, d1, d2, d3, d4⟩ := h1 k hk sk
    obtain ⟨_, g2, g3, g4, g5, g6⟩ := ad1 k r hk sk d1 d2
    have l := hL k hk
    refine ⟨(ad k).toInt.toNat, ?_, by omega⟩
    apply Int32.toInt_inj.mp
    rw [nI_toInt (by omega)]
    omega
  · intro k k' i i' A A' hk hk' sk sk' i1 i2 i1' i2' lA lA' eA eA'
    obtain ⟨r, d1, d2, d3, d4⟩ := h1 k hk sk
    obtain ⟨r', d1', d2', d3', d4'⟩ := h1 k' hk' sk'
    obtain ⟨_, g2, g3, g4, g5, g6⟩ := ad1 k r hk sk d1 d2
    obtain ⟨_, g2', g3', g4', g5', g6'⟩ := ad1 k' r' hk' sk' d1' d2'
    have l := hL k hk
    have l' := hL k' hk'
    have b := hb k (by omega)
    have b' := hb k' (by omega)
    have tA : (ad k).toInt = (A : Int) := by rw [eA, nI_toInt (by omega)]
    have tA' : (ad k').toInt = (A' : Int) := by rw [eA', nI_toInt (by omega)]
    have ti : (rl k + nI i).toInt = (rl k).toInt + i := by rw [ga_addT (by omega) (by rw [nI_toInt (by omega)]; omega), nI_toInt (by omega)]
    have ti' : (rl k' + nI i').toInt = (rl k').toInt + i' := by rw [ga_addT (by omega) (by rw [nI_toInt (by omega)]; omega), nI_toInt (by omega)]
    constructor
    · intro e
      have er : r = r' := by
        apply Classical.byContradiction
        intro ne
        have := h3 r r' d1 d1' d3 d3' ne
        omega
      subst er
      refine ⟨d2.trans d2'.symm, ?_⟩
      apply Int32.toInt_inj.mp
      rw [ti, ti']
      omega
    · rintro ⟨e1, e2⟩
      have er : r = r' := rr d1 d1' (d2.symm.trans (e1.trans d2'))
      subst er
      have e3 := congrArg Int32.toInt e2
      rw [ti, ti'] at e3
      omega
end GADR
