section HSM
/-! the declaring methods and the readers: each side, taken and refused -/
variable {sc oc ne ns ca on st ra xu xn xe xd nc yp yu ye yl yr : Int32} {al ap ac en eu ea eb sU sL sK sE sG sO gr po ec cx ou tc ss av cs cb cn kx ky kd pl rl cm hv ba ad ex cy bi : Nat → Int32}
variable {p0 p1 p2 p3 : Int32} {u m l b n : Nat}
def fa_L (x : Int32) : Prop := ∃ l, 1 ≤ l ∧ l ≤ 16 ∧ x = nI l
theorem hl_1 (h : p2 < 1) : ¬ fa_L p2 := by
  rintro ⟨l, l1, l2, rfl⟩
  exact nI_nlt (b := 1) l1 (by omega) h
theorem hl_2 (h : ¬ p2 ≤ 16) : ¬ fa_L p2 := by
  rintro ⟨l, l1, l2, rfl⟩
  exact h (nI_le (b := 16) l2 (by decide))
theorem hl_3 (h : ¬ p2 < 1) (h' : p2 ≤ 16) : fa_L p2 := by
  rcases hc_v (v := p2) (l := 16) (Nat.le_refl 16) with a | ⟨a, b⟩ | ⟨i, i1, i2, e⟩
  · exact absurd a h
  · exact absurd h' b
  · exact ⟨i, i1, i2, e⟩
theorem vx_dim1 {P : Int32 → SX → Prop} (hu : u < 4) (hm : m < 8) (l1 : 1 ≤ l) (l16 : l ≤ 16) (h : P 1 (sc, oc, ne, ns, 0, on, st, ra, xu, xn, xe, xd, upd al (u * 8 + m) (nI l), ap, ac, en, eu, ea, eb, sU, sL, sK, sE, sG, sO, gr, po, ec, cx, ou, tc, ss, av, cs)) : wpX_dimension P (sc, oc, ne, ns, 0, on, st, ra, xu, xn, xe, xd, al, ap, ac, en, eu, ea, eb, sU, sL, sK, sE, sG, sO, gr, po, ec, cx, ou, tc, ss, av, cs) (nI u) (nI m) (nI l) := by
  unfold wpX_dimension
  dsimp only
  refine hx_isFrozen (fun z => absurd rfl z) (fun _ => br_t rfl ?_)
  refine hx_isUnit (fun _ => br_f (by decide) ?_) (fun z => absurd ⟨u, hu, rfl⟩ z)
  refine hx_isName (fun _ => br_f (by decide) ?_) (fun z => absurd ⟨m, hm, rfl⟩ z)
  refine br_f (nI_nlt (b := 1) l1 (by omega)) (br_t (nI_le (b := 16) l16 (by decide)) ?_)
  rw [ha_us, nI_clamp (by omega)]
  exact ⟨vp_in_nI (by omega) (by decide), nm_e h⟩
theorem vx_dim0 {P : Int32 → SX → Prop} (c : ¬ (ca = 0 ∧ fa_R 4 p0 ∧ fa_R 8 p1 ∧ fa_L p2)) (h : P 0 (sc, oc, ne, ns, ca, on, st, ra, xu, xn, xe, xd, al, ap, ac, en, eu, ea, eb, sU, sL, sK, sE, sG, sO, gr, po, ec, cx, ou, tc, ss, av, cs)) : wpX_dimension P (sc, oc, ne, ns, ca, on, st, ra, xu, xn, xe, xd, al, ap, ac, en, eu, ea, eb, sU, sL, sK, sE, sG, sO, gr, po, ec, cx, ou, tc, ss, av, cs) p0 p1 p2 := by
  unfold wpX_dimension
  dsimp only
  refine hx_isFrozen (fun z => br_f (by decide) h) (fun c0 => br_t rfl ?_)
  refine hx_isUnit (fun cu => br_f (by decide) ?_) (fun z => br_t rfl h)
  refine hx_isName (fun cn => br_f (by decide) ?_) (fun z => br_t rfl h)
  exact br_c (fun _ => h) (fun z => br_c (fun z' => absurd ⟨c0, cu, cn, hl_3 z z'⟩ c) (fun _ => h))
theorem vy_dim1 {P : Int32 → SY → Prop} (hu : u < 4) (hm : m < 8) (l1 : 1 ≤ l) (l16 : l ≤ 16) (h : P 1 (sc, oc, ne, ns, 0, nc, on, yp, yu, ye, st, yl, yr, upd al (u * 8 + m) (nI l), ap, cb, cn, ac, eu, ea, eb, sU, sL, sK, sE, sG, sO, kx, ky, kd, pl, rl, cm, hv, ba, ad, ex, cy, tc, ss, av, cs, bi, ou)) : wpY_dimension P (sc, oc, ne, ns, 0, nc, on, yp, yu, ye, st, yl, yr, al, ap, cb, cn, ac, eu, ea, eb, sU, sL, sK, sE, sG, sO, kx, ky, kd, pl, rl, cm, hv, ba, ad, ex, cy, tc, ss, av, cs, bi, ou) (nI u) (nI m) (nI l) := by
  refine br_t rfl (br_f (nI_pos (by omega)) (br_f (nI_nlt (a := 3) (by omega) (by decide)) (br_f (nI_pos (by omega)) (br_f (nI_nlt (a := 7) (by omega) (by decide)) (br_f (nI_nlt (b := 1) l1 (by omega)) (br_t (nI_le (b := 16) l16 (by decide)) ?_))))))
  rw [ha_us, nI_clamp (by omega)]
  exact ⟨vp_in_nI (by omega) (by decide), nm_e h⟩
theorem vy_dim0 {P : Int32 → SY → Prop} (c : ¬ (ca = 0 ∧ fa_R 4 p0 ∧ fa_R 8 p1 ∧ fa_L p2)) (h : P 0 (sc, oc, ne, ns, ca, nc, on, yp, yu, ye, st, yl, yr, al, ap, cb, cn, ac, eu, ea, eb, sU, sL, sK, sE, sG, sO, kx, ky, kd, pl, rl, cm, hv, ba, ad, ex, cy, tc, ss, av, cs, bi, ou)) : wpY_dimension P (sc, oc, ne, ns, ca, nc, on, yp, yu, ye, st, yl, yr, al, ap, cb, cn, ac, eu, ea, eb, sU, sL, sK, sE, sG, sO, kx, ky, kd, pl, rl, cm, hv, ba, ad, ex, cy, tc, ss, av, cs, bi, ou) p0 p1 p2 :=
  br_c (fun c0 => br_c (fun _ => h) (fun a => br_c (fun _ => h) (fun a' => br_c (fun _ => h) (fun b => br_c (fun _ => h) (fun b' => br_c (fun _ => h) (fun z => br_c (fun z' => absurd ⟨c0, ha_mid' (m := 3) (by decide) a a', ha_mid' (m := 7) (by decide) b b', hl_3 z z'⟩ c) (fun _ => h))))))) (fun _ => h)
def fa_U (x : Int32) : Prop := ∃ u, 1 ≤ u ∧ u < 4 ∧ x = nI u
theorem vx_par1 {P : Int32 → SX → Prop} (u1 : 1 ≤ u) (hu : u < 4) (hm : m < 4) (h : P 1 (sc, oc, ne, ns, 0, on, st, ra, xu, xn, xe, xd, al, upd ap u (nI m), ac, en, eu, ea, eb, sU, sL, sK, sE, sG, sO, gr, po, ec, cx, ou, tc, ss, av, cs)) : wpX_parameters P (sc, oc, ne, ns, 0, on, st, ra, xu, xn, xe, xd, al, ap, ac, en, eu, ea, eb, sU, sL, sK, sE, sG, sO, gr, po, ec, cx, ou, tc, ss, av, cs) (nI u) (nI m) := by
  unfold wpX_parameters
  dsimp only
  refine hx_isFrozen (fun z => absurd rfl z) (fun _ => br_t rfl ?_)
  refine hx_isUnit (fun _ => br_f (by decide) ?_) (fun z => absurd ⟨u, hu, rfl⟩ z)
  refine br_f (fun e => by have := fa_inj (b := 0) (by omega) (by decide) e; omega) (br_f (nI_pos (by omega)) (br_t (nI_le (b := 3) (by omega) (by decide)) ?_))
  rw [nI_clamp (by omega)]
  exact ⟨vp_in_nI (by omega) (by decide), nm_e h⟩
theorem vx_par0 {P : Int32 → SX → Prop} (c : ¬ (ca = 0 ∧ fa_U p0 ∧ fa_R 4 p1)) (h : P 0 (sc, oc, ne, ns, ca, on, st, ra, xu, xn, xe, xd, al, ap, ac, en, eu, ea, eb, sU, sL, sK, sE, sG, sO, gr, po, ec, cx, ou, tc, ss, av, cs)) : wpX_parameters P (sc, oc, ne, ns, ca, on, st, ra, xu, xn, xe, xd, al, ap, ac, en, eu, ea, eb, sU, sL, sK, sE, sG, sO, gr, po, ec, cx, ou, tc, ss, av, cs) p0 p1 := by
  unfold wpX_parameters
  dsimp only
  refine hx_isFrozen (fun z => br_f (by decide) h) (fun c0 => br_t rfl ?_)
  refine hx_isUnit (fun cu => br_f (by decide) ?_) (fun z => br_t rfl h)
  refine br_c (fun _ => h) (fun z => br_c (fun _ => h) (fun a => br_c (fun a' => absurd ⟨c0, ?_, ha_le (m := 3) (by decide) a a'⟩ c) (fun _ => h)))
  obtain ⟨u, hu, rfl⟩ := cu
  refine ⟨u, ?_, hu, rfl⟩
  rcases Nat.eq_zero_or_pos u with e | e
  · subst e; exact absurd rfl z
  · exact e
theorem vy_par1 {P : Int32 → SY → Prop} (u1 : 1 ≤ u) (hu : u < 4) (hm : m < 4) (h : P 1 (sc, oc, ne, ns, 0, nc, on, yp, yu, ye, st, yl, yr, al, upd ap u (nI m), cb, cn, ac, eu, ea, eb, sU, sL, sK, sE, sG, sO, kx, ky, kd, pl, rl, cm, hv, ba, ad, ex, cy, tc, ss, av, cs, bi, ou)) : wpY_parameters P (sc, oc, ne, ns, 0, nc, on, yp, yu, ye, st, yl, yr, al, ap, cb, cn, ac, eu, ea, eb, sU, sL, sK, sE, sG, sO, kx, ky, kd, pl, rl, cm, hv, ba, ad, ex, cy, tc, ss, av, cs, bi, ou) (nI u) (nI m) := by
  refine br_t rfl (br_f (nI_nlt (b := 1) u1 (by omega)) (br_f (nI_nlt (a := 3) (by omega) (by decide)) (br_f (nI_pos (by omega)) (br_t (nI_le (b := 3) (by omega) (by decide)) ?_))))
  rw [nI_clamp (by omega)]
  exact ⟨vp_in_nI (by omega) (by decide), nm_e h⟩
theorem vy_par0 {P : Int32 → SY → Prop} (c : ¬ (ca = 0 ∧ fa_U p0 ∧ fa_R 4 p1)) (h : P 0 (sc, oc, ne, ns, ca, nc, on, yp, yu, ye, st, yl, yr, al, ap, cb, cn, ac, eu, ea, eb, sU, sL, sK, sE, sG, sO, kx, ky, kd, pl, rl, cm, hv, ba, ad, ex, cy, tc, ss, av, cs, bi, ou)) : wpY_parameters P (sc, oc, ne, ns, ca, nc, on, yp, yu, ye, st, yl, yr, al, ap, cb, cn, ac, eu, ea, eb, sU, sL, sK, sE, sG, sO, kx, ky, kd, pl, rl, cm, hv, ba, ad, ex, cy, tc, ss, av, cs, bi, ou) p0 p1 := by
  refine br_c (fun c0 => br_c (fun _ => h) (fun a => br_c (fun _ => h) (fun a' => br_c (fun _ => h) (fun b => br_c (fun b' => absurd ⟨c0, ?_, ha_le (m := 3) (by decide) b b'⟩ c) (fun _ => h))))) (fun _ => h)
  have n0 : ¬ p0 < 0 := fun z => a (Int32.lt_trans z (by decide))
  obtain ⟨u, hu, rfl⟩ := ha_mid' (m := 3) (by decide) n0 a'
  exact ⟨u, Nat.le_of_not_lt fun z => a (nI_lt (b := 1) z (by decide)), hu, rfl⟩
theorem vx_com1 {P : Int32 → SX → Prop} (hu : u < 4) (hb : b < 4) (hm : m < 8) (hc : l < 8) (e : ac u = nI l) (h : P 1 (sc, oc, ne, ns, 0, on, st, ra, xu, xn, xe, xd, al, ap, upd ac u (nI (l + 1)), upd en (u * 8 + l) (nI (b * 8 + m)), eu, ea, eb, sU, sL, sK, sE, sG, sO, gr, po, ec, cx, ou, tc, ss, av, cs)) : wpX_common P (sc, oc, ne, ns, 0, on, st, ra, xu, xn, xe, xd, al, ap, ac, en, eu, ea, eb, sU, sL, sK, sE, sG, sO, gr, po, ec, cx, ou, tc, ss, av, cs) (nI u) (nI b) (nI m) := by
  unfold wpX_common
  dsimp only
  refine hx_isFrozen (fun z => absurd rfl z) (fun _ => br_t rfl ?_)
  refine hx_isUnit (fun _ => br_f (by decide) ?_) (fun z => absurd ⟨u, hu, rfl⟩ z)
  refine hx_isBlock (fun _ => br_f (by decide) ?_) (fun z => absurd ⟨b, hb, rfl⟩ z)
  refine hx_isName (fun _ => br_f (by decide) ?_) (fun z => absurd ⟨m, hm, rfl⟩ z)
  have vu : vp_in (nI u) 4 := vp_in_nI hu (by decide)
  rw [nI_clamp (n := u) (by omega), e]
  refine ⟨vu, br_t (nI_lt (b := 8) hc (by decide)) ⟨vu, ?_⟩⟩
  rw [ha_us (u := u) (n := l), ha_us (u := b) (n := m), nI_clamp (n := u * 8 + l) (by omega), nI_1]
  exact ⟨vp_in_nI (by omega) (by decide), nm_e ⟨vu, vu, nm_e h⟩⟩
theorem vx_com0 {P : Int32 → SX → Prop} (c : ¬ (ca = 0 ∧ fa_R 4 p0 ∧ fa_R 4 p1 ∧ fa_R 8 p2 ∧ ac p0.toNatClampNeg < 8)) (h : P 0 (sc, oc, ne, ns, ca, on, st, ra, xu, xn, xe, xd, al, ap, ac, en, eu, ea, eb, sU, sL, sK, sE, sG, sO, gr, po, ec, cx, ou, tc, ss, av, cs)) : wpX_common P (sc, oc, ne, ns, ca, on, st, ra, xu, xn, xe, xd, al, ap, ac, en, eu, ea, eb, sU, sL, sK, sE, sG, sO, gr, po, ec, cx, ou, tc, ss, av, cs) p0 p1 p2 := by
  unfold wpX_common
  dsimp only
  refine hx_isFrozen (fun z => br_f (by decide) h) (fun c0 => br_t rfl ?_)
  refine hx_isUnit (fun cu => br_f (by decide) ?_) (fun z => br_t rfl h)
  refine hx_isBlock (fun cb => br_f (by decide) ?_) (fun z => br_t rfl h)
  refine hx_isName (fun cn => br_f (by decide) ?_) (fun z => br_t rfl h)
  have vu : vp_in p0 4 := by
    obtain ⟨u, hu, rfl⟩ := cu
    exact vp_in_nI hu (by decide)
  exact ⟨vu, br_c (fun z => absurd ⟨c0, cu, cb, cn, z⟩ c) (fun _ => h)⟩
theorem vy_com1 {P : Int32 → SY → Prop} (hu : u < 4) (hb : b < 4) (hm : m < 8) (hc : l < 8) (e : ac u = nI l) (h : P 1 (sc, oc, ne, ns, 0, nc, on, yp, yu, ye, st, yl, yr, al, ap, upd cb (u * 8 + l) (nI b), upd cn (u * 8 + l) (nI m), upd ac u (nI (l + 1)), eu, ea, eb, sU, sL, sK, sE, sG, sO, kx, ky, kd, pl, rl, cm, hv, ba, ad, ex, cy, tc, ss, av, cs, bi, ou)) : wpY_common P (sc, oc, ne, ns, 0, nc, on, yp, yu, ye, st, yl, yr, al, ap, cb, cn, ac, eu, ea, eb, sU, sL, sK, sE, sG, sO, kx, ky, kd, pl, rl, cm, hv, ba, ad, ex, cy, tc, ss, av, cs, bi, ou) (nI u) (nI b) (nI m) := by
  have vu : vp_in (nI u) 4 := vp_in_nI hu (by decide)
  refine br_t rfl (br_f (nI_pos (by omega)) (br_f (nI_nlt (a := 3) (by omega) (by decide)) (br_f (nI_pos (by omega)) (br_f (nI_nlt (a := 3) (by omega) (by decide)) (br_f (nI_pos (by omega)) (br_t (nI_le (b := 7) (by omega) (by decide)) ⟨vu, ?_⟩))))))
  rw [nI_clamp (n := u) (by omega), e]
  refine br_t (nI_lt (b := 8) hc (by decide)) ⟨vu, ?_⟩
  have vv : vp_in (nI (u * 8 + l)) 32 := vp_in_nI (by omega) (by decide)
  rw [ha_us (u := u) (n := l), nI_clamp (n := u * 8 + l) (by omega), nI_1]
  exact ⟨vv, nm_e ⟨vu, vv, nm_e ⟨vu, vu, nm_e h⟩⟩⟩
theorem vy_com0 {P : Int32 → SY → Prop} (c : ¬ (ca = 0 ∧ fa_R 4 p0 ∧ fa_R 4 p1 ∧ fa_R 8 p2 ∧ ac p0.toNatClampNeg < 8)) (h : P 0 (sc, oc, ne, ns, ca, nc, on, yp, yu, ye, st, yl, yr, al, ap, cb, cn, ac, eu, ea, eb, sU, sL, sK, sE, sG, sO, kx, ky, kd, pl, rl, cm, hv, ba, ad, ex, cy, tc, ss, av, cs, bi, ou)) : wpY_common P (sc, oc, ne, ns, ca, nc, on, yp, yu, ye, st, yl, yr, al, ap, cb, cn, ac, eu, ea, eb, sU, sL, sK, sE, sG, sO, kx, ky, kd, pl, rl, cm, hv, ba, ad, ex, cy, tc, ss, av, cs, bi, ou) p0 p1 p2 := by
  refine br_c (fun c0 => br_c (fun _ => h) (fun a => br_c (fun _ => h) (fun a' => br_c (fun _ => h) (fun b => br_c (fun _ => h) (fun b' => br_c (fun _ => h) (fun z => br_c (fun z' => ⟨?_, br_c (fun w => absurd ⟨c0, ha_mid' (m := 3) (by decide) a a', ha_mid' (m := 3) (by decide) b b', ha_le (m := 7) (by decide) z z', w⟩ c) (fun _ => h)⟩) (fun _ => h))))))) (fun _ => h)
  obtain ⟨u, hu, rfl⟩ := ha_mid' (m := 3) (by decide) a a'
  exact vp_in_nI hu (by decide)
theorem vx_eqv1 {P : Int32 → SX → Prop} (hu : fa_R 4 p0) (f1 : fa_F p1) (f2 : fa_F p2) (hm : m < 16) (h : P 1 (sc, oc, nI (m + 1), ns, 0, on, st, ra, xu, xn, xe, xd, al, ap, ac, en, upd eu m p0, upd ea m p1, upd eb m p2, sU, sL, sK, sE, sG, sO, gr, po, ec, cx, ou, tc, ss, av, cs)) : wpX_equivalence P (sc, oc, nI m, ns, 0, on, st, ra, xu, xn, xe, xd, al, ap, ac, en, eu, ea, eb, sU, sL, sK, sE, sG, sO, gr, po, ec, cx, ou, tc, ss, av, cs) p0 p1 p2 := by
  unfold wpX_equivalence
  dsimp only
  refine hx_isFrozen (fun z => absurd rfl z) (fun _ => br_t rfl ?_)
  refine hx_isUnit (fun _ => br_f (by decide) ?_) (fun z => absurd hu z)
  refine hx_isFixed (fun _ => br_f (by decide) ?_) (fun z => absurd f1 z)
  refine hx_isFixed (fun _ => br_f (by decide) ?_) (fun z => absurd f2 z)
  have vm : vp_in (nI m) 16 := vp_in_nI hm (by decide)
  rw [nI_clamp (n := m) (by omega), nI_1]
  exact br_t (nI_lt (b := 16) hm (by decide)) ⟨vm, nm_e ⟨vm, nm_e ⟨vm, nm_e (nm_e h)⟩⟩⟩
theorem vx_eqv0 {P : Int32 → SX → Prop} (c : ¬ (ca = 0 ∧ fa_R 4 p0 ∧ fa_F p1 ∧ fa_F p2 ∧ ne < 16)) (h : P 0 (sc, oc, ne, ns, ca, on, st, ra, xu, xn, xe, xd, al, ap, ac, en, eu, ea, eb, sU, sL, sK, sE, sG, sO, gr, po, ec, cx, ou, tc, ss, av, cs)) : wpX_equivalence P (sc, oc, ne, ns, ca, on, st, ra, xu, xn, xe, xd, al, ap, ac, en, eu, ea, eb, sU, sL, sK, sE, sG, sO, gr, po, ec, cx, ou, tc, ss, av, cs) p0 p1 p2 := by
  unfold wpX_equivalence
  dsimp only
  refine hx_isFrozen (fun z => br_f (by decide) h) (fun c0 => br_t rfl ?_)
  refine hx_isUnit (fun cu => br_f (by decide) ?_) (fun z => br_t rfl h)
  refine hx_isFixed (fun f1 => br_f (by decide) ?_) (fun z => br_t rfl h)
  refine hx_isFixed (fun f2 => br_f (by decide) ?_) (fun z => br_t rfl h)
  exact br_c (fun z => absurd ⟨c0, cu, f1, f2, z⟩ c) (fun _ => h)
theorem vy_eqv1 {P : Int32 → SY → Prop} (hu : fa_R 4 p0) (f1 : fa_F p1) (f2 : fa_F p2) (hm : m < 16) (h : P 1 (sc, oc, nI (m + 1), ns, 0, nc, on, yp, yu, ye, st, yl, yr, al, ap, cb, cn, ac, upd eu m p0, upd ea m p1, upd eb m p2, sU, sL, sK, sE, sG, sO, kx, ky, kd, pl, rl, cm, hv, ba, ad, ex, cy, tc, ss, av, cs, bi, ou)) : wpY_equivalence P (sc, oc, nI m, ns, 0, nc, on, yp, yu, ye, st, yl, yr, al, ap, cb, cn, ac, eu, ea, eb, sU, sL, sK, sE, sG, sO, kx, ky, kd, pl, rl, cm, hv, ba, ad, ex, cy, tc, ss, av, cs, bi, ou) p0 p1 p2 := by
  obtain ⟨u, hu4, rfl⟩ := hu
  refine br_t rfl (br_f (nI_pos (by omega)) (br_f (nI_nlt (a := 3) (by omega) (by decide)) ?_))
  refine hy_isFixed (fun _ => br_f (by decide) ?_) (fun z => absurd f1 z)
  refine hy_isFixed (fun _ => br_f (by decide) ?_) (fun z => absurd f2 z)
  have vm : vp_in (nI m) 16 := vp_in_nI hm (by decide)
  rw [nI_clamp (n := m) (by omega), nI_1]
  exact br_t (nI_lt (b := 16) hm (by decide)) ⟨vm, nm_e ⟨vm, nm_e ⟨vm, nm_e (nm_e h)⟩⟩⟩
theorem vy_eqv0 {P : Int32 → SY → Prop} (c : ¬ (ca = 0 ∧ fa_R 4 p0 ∧ fa_F p1 ∧ fa_F p2 ∧ ne < 16)) (h : P 0 (sc, oc, ne, ns, ca, nc, on, yp, yu, ye, st, yl, yr, al, ap, cb, cn, ac, eu, ea, eb, sU, sL, sK, sE, sG, sO, kx, ky, kd, pl, rl, cm, hv, ba, ad, ex, cy, tc, ss, av, cs, bi, ou)) : wpY_equivalence P (sc, oc, ne, ns, ca, nc, on, yp, yu, ye, st, yl, yr, al, ap, cb, cn, ac, eu, ea, eb, sU, sL, sK, sE, sG, sO, kx, ky, kd, pl, rl, cm, hv, ba, ad, ex, cy, tc, ss, av, cs, bi, ou) p0 p1 p2 := by
  refine br_c (fun c0 => br_c (fun _ => h) (fun a => br_c (fun _ => h) (fun a' => ?_))) (fun _ => h)
  refine hy_isFixed (fun f1 => br_f (by decide) ?_) (fun z => br_t rfl h)
  refine hy_isFixed (fun f2 => br_f (by decide) ?_) (fun z => br_t rfl h)
  exact br_c (fun z => absurd ⟨c0, ha_mid' (m := 3) (by decide) a a', f1, f2, z⟩ c) (fun _ => h)
end HSM
