section HSM
/-! the declaring methods and the readers: each side, taken and refused -/
variable {sc oc ne ns ca on st ra xu xn xe xd nc yp yu ye yl yr : Int32} {al ap ac en eu ea eb sU sL sK sE sG sO gr po ec cx ou tc ss av cs cb cn kx ky kd pl rl cm hv ba ad ex cy bi : Nat → Int32}
variable {p0 p1 p2 p3 : Int32} {u m l b n : Nat}
def fa_L (x : Int32) : Prop := ∃ l, 1 ≤ l ∧ l ≤ 16 ∧ x = nI l
theorem hl_1 (h : p2 < 1) : ¬ fa_L p2 := by
  rintro ⟨l, l1, l2, rfl⟩
  exact nI_nlt (b := 1) l1 (by omega) h
theorem hl_2 (h : ¬ p2 ≤ 16) : ¬ fa_L p2 := by
  rintro ⟨l, l1, l2, rfl⟩
  exact h (nI_le (b := 16) l2 (by decide))
theorem hl_3 (h : ¬ p2 < 1) (h' : p2 ≤ 16) : fa_L p2 := by
  rcases hc_v (v := p2) (l := 16) (Nat.le_refl 16) with a | ⟨a, b⟩ | ⟨i, i1, i2, e⟩
  · exact absurd a h
  · exact absurd h' b
  · exact ⟨i, i1, i2, e⟩
theorem vx_dim1 {P : Int32 → St2 → Prop} (hu : u < 4) (hm : m < 8) (l1 : 1 ≤ l) (l16 : l ≤ 16) (h : P 1 (sc, oc, ne, ns, 0, on, st, ra, xu, xn, xe, xd, upd al (u * 8 + m) (nI l), ap, ac, en, eu, ea, eb, sU, sL, sK, sE, sG, sO, gr, po, ec, cx, ou, tc, ss, av, cs)) : wpX_dimension P (sc, oc, ne, ns, 0, on, st, ra, xu, xn, xe, xd, al, ap, ac, en, eu, ea, eb, sU, sL, sK, sE, sG, sO, gr, po, ec, cx, ou, tc, ss, av, cs) (nI u) (nI m) (nI l) := by
  unfold wpX_dimension
  dsimp only
  refine hx_isFrozen (fun z => absurd rfl z) (fun _ => br_t rfl ?_)
  refine hx_isUnit (fun _ => br_f (by decide) ?_) (fun z => absurd ⟨u, hu, rfl⟩ z)
  refine hx_isName (fun _ => br_f (by decide) ?_) (fun z => absurd ⟨m, hm, rfl⟩ z)
  refine br_f (nI_nlt (b := 1) l1 (by omega)) (br_t (nI_le (b := 16) l16 (by decide)) ?_)
  rw [ha_us, nI_clamp (by omega)]
  exact ⟨vp_in_nI (by omega) (by decide), nm_e h⟩
theorem vx_dim0 {P : Int32 → St2 → Prop} (c : ¬ (ca = 0 ∧ fa_R 4 p0 ∧ fa_R 8 p1 ∧ fa_L p2)) (h : P 0 (sc, oc, ne, ns, ca, on, st, ra, xu, xn, xe, xd, al, ap, ac, en, eu, ea, eb, sU, sL, sK, sE, sG, sO, gr, po, ec, cx, ou, tc, ss, av, cs)) : wpX_dimension P (sc, oc, ne, ns, ca, on, st, ra, xu, xn, xe, xd, al, ap, ac, en, eu, ea, eb, sU, sL, sK, sE, sG, sO, gr, po, ec, cx, ou, tc, ss, av, cs) p0 p1 p2 := by
  unfold wpX_dimension
  dsimp only
  refine hx_isFrozen (fun z => br_f (by decide) h) (fun c0 => br_t rfl ?_)
  refine hx_isUnit (fun cu => br_f (by decide) ?_) (fun z => br_t rfl h)
  refine hx_isName (fun cn => br_f (by decide) ?_) (fun z => br_t rfl h)
  exact br_c (fun _ => h) (fun z => br_c (fun z' => absurd ⟨c0, cu, cn, hl_3 z z'⟩ c) (fun _ => h))
def fa_U (x : Int32) : Prop := ∃ u, 1 ≤ u ∧ u < 4 ∧ x = nI u
theorem vx_com1 {P : Int32 → St2 → Prop} (hu : u < 4) (hb : b < 4) (hm : m < 8) (hc : l < 8) (e : ac u = nI l) (h : P 1 (sc, oc, ne, ns, 0, on, st, ra, xu, xn, xe, xd, al, ap, upd ac u (nI (l + 1)), upd en (u * 8 + l) (nI (b * 8 + m)), eu, ea, eb, sU, sL, sK, sE, sG, sO, gr, po, ec, cx, ou, tc, ss, av, cs)) : wpX_common P (sc, oc, ne, ns, 0, on, st, ra, xu, xn, xe, xd, al, ap, ac, en, eu, ea, eb, sU, sL, sK, sE, sG, sO, gr, po, ec, cx, ou, tc, ss, av, cs) (nI u) (nI b) (nI m) := by
  unfold wpX_common
  dsimp only
  refine hx_isFrozen (fun z => absurd rfl z) (fun _ => br_t rfl ?_)
  refine hx_isUnit (fun _ => br_f (by decide) ?_) (fun z => absurd ⟨u, hu, rfl⟩ z)
  refine hx_isBlock (fun _ => br_f (by decide) ?_) (fun z => absurd ⟨b, hb, rfl⟩ z)
  refine hx_isName (fun _ => br_f (by decide) ?_) (fun z => absurd ⟨m, hm, rfl⟩ z)
  have vu : vp_in (nI u) 4 := vp_in_nI hu (by decide)
  rw [nI_clamp (n := u) (by omega), e]
  refine ⟨vu, br_t (nI_lt (b := 8) hc (by decide)) ⟨vu, ?_⟩⟩
  rw [ha_us (u := u) (n := l), ha_us (u := b) (n := m), nI_clamp (n := u * 8 + l) (by omega), nI_1]
  exact ⟨vp_in_nI (by omega) (by decide), nm_e ⟨vu, vu, nm_e h⟩⟩
theorem vx_com0 {P : Int32 → St2 → Prop} (c : ¬ (ca = 0 ∧ fa_R 4 p0 ∧ fa_R 4 p1 ∧ fa_R 8 p2 ∧ ac p0.toNatClampNeg < 8)) (h : P 0 (sc, oc, ne, ns, ca, on, st, ra, xu, xn, xe, xd, al, ap, ac, en, eu, ea, eb, sU, sL, sK, sE, sG, sO, gr, po, ec, cx, ou, tc, ss, av, cs)) : wpX_common P (sc, oc, ne, ns, ca, on, st, ra, xu, xn, xe, xd, al, ap, ac, en, eu, ea, eb, sU, sL, sK, sE, sG, sO, gr, po, ec, cx, ou, tc, ss, av, cs) p0 p1 p2 := by
  unfold wpX_common
  dsimp only
  refine hx_isFrozen (fun z => br_f (by decide) h) (fun c0 => br_t rfl ?_)
  refine hx_isUnit (fun cu => br_f (by decide) ?_) (fun z => br_t rfl h)
  refine hx_isBlock (fun cb => br_f (by decide) ?_) (fun z => br_t rfl h)
  refine hx_isName (fun cn => br_f (by decide) ?_) (fun z => br_t rfl h)
  have vu : vp_in p0 4 := by
    obtain ⟨u, hu, rfl⟩ := cu
    exact vp_in_nI hu (by decide)
  exact ⟨vu, br_c (fun z => absurd ⟨c0, cu, cb, cn, z⟩ c) (fun _ => h)⟩
theorem vx_eqv1 {P : Int32 → St2 → Prop} (hu : fa_R 4 p0) (f1 : fa_F p1) (f2 : fa_F p2) (hm : m < 16) (h : P 1 (sc, oc, nI (m + 1), ns, 0, on, st, ra, xu, xn, xe, xd, al, ap, ac, en, upd eu m p0, upd ea m p1, upd eb m p2, sU, sL, sK, sE, sG, sO, gr, po, ec, cx, ou, tc, ss, av, cs)) : wpX_equivalence P (sc, oc, nI m, ns, 0, on, st, ra, xu, xn, xe, xd, al, ap, ac, en, eu, ea, eb, sU, sL, sK, sE, sG, sO, gr, po, ec, cx, ou, tc, ss, av, cs) p0 p1 p2 := by
  unfold wpX_equivalence
  dsimp only
  refine hx_isFrozen (fun z => absurd rfl z) (fun _ => br_t rfl ?_)
  refine hx_isUnit (fun _ => br_f (by decide) ?_) (fun z => absurd hu z)
  refine hx_isFixed (fun _ => br_f (by decide) ?_) (fun z => absurd f1 z)
  refine hx_isFixed (fun _ => br_f (by decide) ?_) (fun z => absurd f2 z)
  have vm : vp_in (nI m) 16 := vp_in_nI hm (by decide)
  rw [nI_clamp (n := m) (by omega), nI_1]
  exact br_t (nI_lt (b := 16) hm (by decide)) ⟨vm, nm_e ⟨vm, nm_e ⟨vm, nm_e (nm_e h)⟩⟩⟩
theorem vx_eqv0 {P : Int32 → St2 → Prop} (c : ¬ (ca = 0 ∧ fa_R 4 p0 ∧ fa_F p1 ∧ fa_F p2 ∧ ne < 16)) (h : P 0 (sc, oc, ne, ns, ca, on, st, ra, xu, xn, xe, xd, al, ap, ac, en, eu, ea, eb, sU, sL, sK, sE, sG, sO, gr, po, ec, cx, ou, tc, ss, av, cs)) : wpX_equivalence P (sc, oc, ne, ns, ca, on, st, ra, xu, xn, xe, xd, al, ap, ac, en, eu, ea, eb, sU, sL, sK, sE, sG, sO, gr, po, ec, cx, ou, tc, ss, av, cs) p0 p1 p2 := by
  unfold wpX_equivalence
  dsimp only
  refine hx_isFrozen (fun z => br_f (by decide) h) (fun c0 => br_t rfl ?_)
  refine hx_isUnit (fun cu => br_f (by decide) ?_) (fun z => br_t rfl h)
  refine hx_isFixed (fun f1 => br_f (by decide) ?_) (fun z => br_t rfl h)
  refine hx_isFixed (fun f2 => br_f (by decide) ?_) (fun z => br_t rfl h)
  exact br_c (fun z => absurd ⟨c0, cu, f1, f2, z⟩ c) (fun _ => h)
end HSM
