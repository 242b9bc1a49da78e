section HLP
/-! the small methods, each against a plain fact -/
variable {sc oc ne ns ca on st ra xu xn xe xd nc yp yu ye yl yr : Int32} {al ap ac en eu ea eb sU sL sK sE sG sO gr po ec cx ou tc ss av cs cb cn kx ky kd pl rl cm hv ba ad ex cy bi : Nat → Int32}
variable {post : Int32 → Prop} {x : Int32}
theorem ha_lo {n : Nat} (hn : n < 2 ^ 31) (h : x < 0) : ¬ fa_R n x := by
  rintro ⟨j, hj, rfl⟩
  exact nI_pos (by omega) h
theorem ha_hi {n : Nat} (hn : n < 2 ^ 31) (h : nI n ≤ x) : ¬ fa_R n x := by
  rintro ⟨j, hj, rfl⟩
  exact nI_ge hj hn h
theorem ha_mid {n : Nat} (hn : n < 2 ^ 31) (h0 : ¬ x < 0) (h : ¬ nI n ≤ x) : fa_R n x := by
  rcases pk_ix x hn with a | a | a
  · exact absurd a h0
  · exact absurd a h
  · exact a
theorem ha_hi' {m : Nat} (hn : m < 2 ^ 30) (h : nI m < x) : ¬ fa_R (m + 1) x := by
  rintro ⟨j, hj, rfl⟩
  exact nI_nlt (by omega) (by omega) h
theorem ha_mid' {m : Nat} (hn : m < 2 ^ 30) (h0 : ¬ x < 0) (h : ¬ nI m < x) : fa_R (m + 1) x := by
  obtain ⟨j, hj, rfl⟩ := nI_of h0
  rw [nI_ltI (by omega) hj] at h
  exact ⟨j, by omega, rfl⟩
theorem ha_le {m : Nat} (hn : m < 2 ^ 30) (h0 : ¬ x < 0) (h : x ≤ nI m) : fa_R (m + 1) x := by
  obtain ⟨j, hj, rfl⟩ := nI_of h0
  rw [nI_leI hj (by omega)] at h
  exact ⟨j, by omega, rfl⟩
theorem ha_nle {m : Nat} (hn : m < 2 ^ 30) (h : ¬ x ≤ nI m) : ¬ fa_R (m + 1) x := by
  rintro ⟨j, hj, rfl⟩
  exact h (nI_le (by omega) (by omega))
theorem hx_isUnit (h1 : fa_R 4 x → post 1) (h0 : ¬ fa_R 4 x → post 0) : wpX_isUnit post () x :=
  br_c (fun a => h0 (ha_lo (by decide) a)) (fun a => br_c (fun b => h0 (ha_hi (n := 4) (by decide) b)) (fun b => h1 (ha_mid (n := 4) (by decide) a b)))
theorem hx_isName (h1 : fa_R 8 x → post 1) (h0 : ¬ fa_R 8 x → post 0) : wpX_isName post () x :=
  br_c (fun a => h0 (ha_lo (by decide) a)) (fun a => br_c (fun b => h0 (ha_hi (n := 8) (by decide) b)) (fun b => h1 (ha_mid (n := 8) (by decide) a b)))
theorem hx_isBlock (h1 : fa_R 4 x → post 1) (h0 : ¬ fa_R 4 x → post 0) : wpX_isBlock post () x :=
  br_c (fun a => h0 (ha_lo (by decide) a)) (fun a => br_c (fun b => h0 (ha_hi (n := 4) (by decide) b)) (fun b => h1 (ha_mid (n := 4) (by decide) a b)))
theorem hx_isFrozen (h1 : ca ≠ 0 → post 1) (h0 : ca = 0 → post 0) : wpX_isFrozen post (sc, oc, ne, ns, ca, on, st, ra, xu, xn, xe, xd, al, ap, ac, en, eu, ea, eb, sU, sL, sK, sE, sG, sO, gr, po, ec, cx, ou, tc, ss, av, cs) := br_c h0 h1
def fa_F (x : Int32) : Prop := ∃ c, fb_FX c ∧ x = nI c
def fa_I (x : Int32) : Prop := ∃ c, fb_IX c ∧ x = nI c
theorem ha_r100 {c : Nat} (h : c < 2 ^ 31) : nI c - nI c / 100 * 100 = nI (c % 100) := pk_rem (d := 100) h (by decide) (by decide)
theorem ha_r10000 {c : Nat} (h : c < 2 ^ 31) : nI c - nI c / 10000 * 10000 = nI (c % 10000) := pk_rem (d := 10000) h (by decide) (by decide)
theorem ha_r8 {c : Nat} (h : c < 2 ^ 31) : nI c - nI c / 8 * 8 = nI (c % 8) := pk_rem (d := 8) h (by decide) (by decide)
theorem ha_r4 {c : Nat} (h : c < 2 ^ 31) : nI c - nI c / 4 * 4 = nI (c % 4) := pk_rem (d := 4) h (by decide) (by decide)
theorem ha_d8 {c : Nat} (h : c < 2 ^ 31) : nI c / 8 = nI (c / 8) := pk_div (d := 8) h (by decide) (by decide)
theorem ha_d4 {c : Nat} (h : c < 2 ^ 31) : nI c / 4 = nI (c / 4) := pk_div (d := 4) h (by decide) (by decide)
theorem ha_d100 {c : Nat} (h : c < 2 ^ 31) : nI c / 100 = nI (c / 100) := pk_div (d := 100) h (by decide) (by decide)
theorem ha_nF (h : ∀ c, fb_FX c → x ≠ nI c) : ¬ fa_F x := fun ⟨c, a, b⟩ => h c a b
theorem hx_isFixed (h1 : fa_F x → post 1) (h0 : ¬ fa_F x → post 0) : wpX_isFixed post () x := by
  refine br_c (fun a => ?_) (fun a => br_c (fun b => ?_) (fun b => ?_))
  · refine br_t rfl (h0 ?_)
    rintro ⟨c, hc, rfl⟩
    unfold fb_FX at hc
    exact nI_nlt (b := 10000) hc.1 (by omega) a
  · refine br_t rfl (h0 ?_)
    rintro ⟨c, hc, rfl⟩
    unfold fb_FX at hc
    exact nI_ge (b := 10800) hc.2.1 (by decide) b
  · have h0' : ¬ x < 0 := fun z => a (Int32.lt_trans z (by decide))
    obtain ⟨c, hc, rfl⟩ := nI_of h0'
    have c1 : 10000 ≤ c := Nat.le_of_not_lt fun z => a (nI_lt (b := 10000) z (by decide))
    have c2 : c < 10800 := Nat.lt_of_not_le fun z => b (nI_le (a := 10800) z hc)
    refine br_f (by decide) ⟨by decide, ?_⟩
    rw [ha_r100 hc]
    refine pk_lt 16 (c % 100) (fun z => h0 ?_) (fun z => h1 ⟨c, ⟨c1, c2, z⟩, rfl⟩)
    rintro ⟨c', hc', e⟩
    have := fa_inj hc (by unfold fb_FX at hc'; omega) e
    subst this
    unfold fb_FX at hc'
    omega
theorem ha_nm {c : Nat} (hc : c < 2 ^ 31) : (nI c - nI c / 10000 * 10000) / 100 = nI (fb_nm c) := by
  rw [ha_r10000 hc, ha_d100 (by omega)]; rfl
theorem hx_slotOf {u c : Nat} (hc : c < 2 ^ 31) (h : post (nI (u * 8 + fb_nm c))) : wpX_slotOf post () (nI u) (nI c) := by
  refine ⟨by decide, by decide, ?_⟩
  rw [ha_nm hc, show nI u * 8 = nI (u * 8) from pk_mul u 8, nI_add]
  exact h
theorem hx_elementOf {c : Nat} (hc : c < 2 ^ 31) (h : post (nI (fb_ix c))) : wpX_elementOf post () (nI c) := by
  refine ⟨by decide, nm_r (ha_r100 hc) (pk_eq (c % 100) 0 (fun z => ?_) (fun z => ?_))⟩
  · unfold fb_ix at h
    rw [if_pos z] at h
    exact h
  · unfold fb_ix at h
    rw [if_neg z] at h
    exact h
theorem hx_isDummy {k : Nat} (hk : k < 32) (hp : fa_R 4 (ap (k / 8))) (h0 : gd_St (fa_N ap) k → post 0) (h1 : ¬ gd_St (fa_N ap) k → post 1) : wpX_isDummy post (sc, oc, ne, ns, ca, on, st, ra, xu, xn, xe, xd, al, ap, ac, en, eu, ea, eb, sU, sL, sK, sE, sG, sO, gr, po, ec, cx, ou, tc, ss, av, cs) (nI k) := by
  obtain ⟨e, l⟩ := fa_Rn hp (by decide)
  refine ⟨by decide, by decide, ?_⟩
  rw [ha_d8 (by omega), show nI k - nI (k / 8) * 8 = nI (k % 8) from by rw [← ha_d8 (by omega)]; exact ha_r8 (by omega), nI_clamp (by omega), e]
  refine ⟨vp_in_nI (by omega) (by decide), pk_le (fa_N ap (k / 8)) (k % 8) (fun z => h0 (by unfold gd_St; omega)) (fun z => h1 (by unfold gd_St; omega))⟩
theorem ha_us {u n : Nat} : nI u * 8 + nI n = nI (u * 8 + n) := by rw [show nI u * 8 = nI (u * 8) from pk_mul u 8, nI_add]
theorem ha_5 {u n : Nat} : nI u * 5 + nI n = nI (u * 5 + n) := by rw [show nI u * 5 = nI (u * 5) from pk_mul u 5, nI_add]
theorem ha_50 {u : Nat} : nI u * 5 = nI (u * 5) := pk_mul u 5
theorem ha_16 {u : Nat} : nI u * 16 = nI (u * 16) := pk_mul u 16
theorem ha_4 {u n : Nat} : nI u * 4 + nI n = nI (u * 4 + n) := by rw [show nI u * 4 = nI (u * 4) from pk_mul u 4, nI_add]
theorem ha_32 {n : Nat} : 32 + nI n = nI (32 + n) := nI_add 32 n
theorem ha_el {k i : Nat} (h : 1 ≤ i) : nI k * 16 + nI i - 1 = nI (k * 16 + i - 1) := by
  rw [ha_16, nI_add, show nI (k * 16 + i) - 1 = nI (k * 16 + i) - nI 1 from rfl, pk_sub (by omega)]
end HLP
