section HRD
/-! value, aliased: a stored element, on each side -/
variable {sc oc ne ns ca on st ra xu xn xe xd nc yp yu ye yl yr : Int32} {al ap ac en eu ea eb sU sL sK sE sG sO gr po ec cx ou tc ss av cs cb cn kx ky kd pl rl cm hv ba ad ex cy bi : Nat → Int32}
variable {n : Nat} {post : Int32 → Prop} {p0 p1 : Int32} {u c : Nat}
def fa_V (al ap : Nat → Int32) (x y : Int32) : Prop := ∃ u c, u < 4 ∧ x = nI u ∧ fb_FX c ∧ y = nI c ∧ ¬ fb_nm c < fa_N ap u ∧ fb_ix c ≤ fa_N al (u * 8 + fb_nm c)
theorem rd_x1 (D : fs_D al ap ac en cb cn eu ea eb n) (hu : u < 4) (hc : fb_FX c) (hs : ¬ fb_nm c < fa_N ap u) (hi : fb_ix c ≤ fa_N al (u * 8 + fb_nm c)) (h : post (ec ((u * 8 + fb_nm c) * 16 + fb_ix c - 1))) : wpX_storedCell post (sc, oc, ne, ns, ca, on, st, ra, xu, xn, xe, xd, al, ap, ac, en, eu, ea, eb, sU, sL, sK, sE, sG, sO, gr, po, ec, cx, ou, tc, ss, av, cs) (nI u) (nI c) := by
  have m8 := fb_nm8 (Or.inl hc)
  have c2 := fb_FXlt hc
  have i1 := fb_ix1 c
  obtain ⟨l1, l2, l3⟩ := cn_A D (k := u * 8 + fb_nm c) (by omega)
  unfold wpX_storedCell
  dsimp only
  refine hx_isUnit (fun _ => br_f (by decide) ?_) (fun z => absurd ⟨u, hu, rfl⟩ z)
  refine hx_isFixed (fun _ => br_f (by decide) ?_) (fun z => absurd ⟨c, hc, rfl⟩ z)
  refine hx_slotOf (by omega) ?_
  refine hx_elementOf (by omega) ?_
  refine hx_isDummy (by omega) (by rw [show (u * 8 + fb_nm c) / 8 = u by omega]; exact D.2.2.1 u hu) (fun _ => br_t rfl ⟨vp_in_nI (by omega) (by decide), ?_⟩) (fun s => absurd ((cn_St m8).mpr hs) s)
  rw [nI_clamp (n := u * 8 + fb_nm c) (by omega), l1]
  refine br_t (nI_le hi (by omega)) ?_
  rw [ha_el i1, nI_clamp (n := (u * 8 + fb_nm c) * 16 + fb_ix c - 1) (by omega)]
  exact ⟨vp_in_nI (by omega) (by decide), h⟩
theorem rd_x0 (D : fs_D al ap ac en cb cn eu ea eb n) (nv : ¬ fa_V al ap p0 p1) (h : post (-1)) : wpX_storedCell post (sc, oc, ne, ns, ca, on, st, ra, xu, xn, xe, xd, al, ap, ac, en, eu, ea, eb, sU, sL, sK, sE, sG, sO, gr, po, ec, cx, ou, tc, ss, av, cs) p0 p1 := by
  unfold wpX_storedCell
  dsimp only
  refine hx_isUnit (fun hu => br_f (by decide) ?_) (fun _ => br_t rfl h)
  refine hx_isFixed (fun hf => br_f (by decide) ?_) (fun _ => br_t rfl h)
  obtain ⟨u, hu, rfl⟩ := hu
  obtain ⟨c, hc, rfl⟩ := hf
  have m8 := fb_nm8 (Or.inl hc)
  have c2 := fb_FXlt hc
  have i16 := fb_ix16 hc
  obtain ⟨l1, l2, l3⟩ := cn_A D (k := u * 8 + fb_nm c) (by omega)
  refine hx_slotOf (by omega) ?_
  refine hx_elementOf (by omega) ?_
  refine hx_isDummy (by omega) (by rw [show (u * 8 + fb_nm c) / 8 = u by omega]; exact D.2.2.1 u hu) (fun s => br_t rfl ⟨vp_in_nI (by omega) (by decide), ?_⟩) (fun _ => br_f (by decide) h)
  rw [nI_clamp (n := u * 8 + fb_nm c) (by omega), l1]
  exact pk_le (fb_ix c) (fa_N al (u * 8 + fb_nm c)) (fun z => absurd ⟨u, c, hu, rfl, hc, rfl, (cn_St m8).mp s, z⟩ nv) (fun _ => h)
theorem rd_y1 {d : Nat} (D : fs_D al ap ac en cb cn eu ea eb n) (hr : ¬ yr = 0) (hu : u < 4) (hc : fb_FX c) (hs : ¬ fb_nm c < fa_N ap u) (hi : fb_ix c ≤ fa_N al (u * 8 + fb_nm c)) (ed : ad (u * 8 + fb_nm c) = nI d) (hb : d + fb_ix c - 1 < 512) (h : post (cy (d + fb_ix c - 1))) : wpY_value post (sc, oc, ne, ns, ca, nc, on, yp, yu, ye, st, yl, yr, al, ap, cb, cn, ac, eu, ea, eb, sU, sL, sK, sE, sG, sO, kx, ky, kd, pl, rl, cm, hv, ba, ad, ex, cy, tc, ss, av, cs, bi, ou) (nI u) (nI c) := by
  have m8 := fb_nm8 (Or.inl hc)
  have c2 := fb_FXlt hc
  have i1 := fb_ix1 c
  have i16 := fb_ix16 hc
  obtain ⟨l1, l2, l3⟩ := cn_A D (k := u * 8 + fb_nm c) (by omega)
  obtain ⟨p1, p2⟩ := cn_P D hu
  refine br_f hr (br_f (nI_pos (by omega)) (br_f (nI_nlt (a := 3) (by omega) (by decide)) ?_))
  refine hy_isFixed (fun _ => br_f (by decide) ?_) (fun z => absurd ⟨c, hc, rfl⟩ z)
  refine hy_nameOf (by omega) ?_
  refine hy_idxOf (by omega) ⟨vp_in_nI hu (by decide), ?_⟩
  rw [nI_clamp (n := u) (by omega), p1]
  refine br_f (nI_nlt (by omega) (by omega)) ?_
  have vv : vp_in (nI (u * 8 + fb_nm c)) 32 := vp_in_nI (by omega) (by decide)
  rw [ha_us, nI_clamp (n := u * 8 + fb_nm c) (by omega), l1, ed, nI_add, show nI (d + fb_ix c) - 1 = nI (d + fb_ix c - 1) from pk_sub (b := 1) (by omega)]
  exact ⟨vv, br_t (nI_le hi (by omega)) ⟨vv, hc_get hb h⟩⟩
theorem rd_y0 (D : fs_D al ap ac en cb cn eu ea eb n) (nv : ¬ fa_V al ap p0 p1) (h : post 0) : wpY_value post (sc, oc, ne, ns, ca, nc, on, yp, yu, ye, st, yl, yr, al, ap, cb, cn, ac, eu, ea, eb, sU, sL, sK, sE, sG, sO, kx, ky, kd, pl, rl, cm, hv, ba, ad, ex, cy, tc, ss, av, cs, bi, ou) p0 p1 := by
  refine br_c (fun _ => h) (fun _ => br_c (fun _ => h) (fun a => br_c (fun _ => h) (fun a' => ?_)))
  refine hy_isFixed (fun hf => br_f (by decide) ?_) (fun _ => br_t rfl h)
  obtain ⟨u, hu, rfl⟩ := ha_mid' (m := 3) (by decide) a a'
  obtain ⟨c, hc, rfl⟩ := hf
  have m8 := fb_nm8 (Or.inl hc)
  have c2 := fb_FXlt hc
  have i16 := fb_ix16 hc
  obtain ⟨l1, l2, l3⟩ := cn_A D (k := u * 8 + fb_nm c) (by omega)
  obtain ⟨q1, q2⟩ := cn_P D (u := u) (by omega)
  refine hy_nameOf (by omega) ?_
  refine hy_idxOf (by omega) ⟨vp_in_nI (by omega) (by decide), ?_⟩
  rw [nI_clamp (n := u) (by omega), q1]
  refine pk_lt (fb_nm c) (fa_N ap u) (fun _ => h) (fun z => ?_)
  rw [ha_us, nI_clamp (n := u * 8 + fb_nm c) (by omega), l1]
  exact ⟨vp_in_nI (by omega) (by decide), pk_le (fb_ix c) (fa_N al (u * 8 + fb_nm c)) (fun w => absurd ⟨u, c, by omega, rfl, hc, rfl, by omega, w⟩ nv) (fun _ => h)⟩
theorem rd_a0 {q0 q1 : Int32} (D : fs_D al ap ac en cb cn eu ea eb n) (nv : ¬ (fa_V al ap p0 p1 ∧ fa_V al ap q0 q1)) (h : post 0) : wpY_aliased post (sc, oc, ne, ns, ca, nc, on, yp, yu, ye, st, yl, yr, al, ap, cb, cn, ac, eu, ea, eb, sU, sL, sK, sE, sG, sO, kx, ky, kd, pl, rl, cm, hv, ba, ad, ex, cy, tc, ss, av, cs, bi, ou) p0 p1 q0 q1 := by
  refine br_c (fun _ => br_c (fun _ => h) (fun a => br_c (fun _ => h) (fun a' => br_c (fun _ => h) (fun b => br_c (fun b' => ?_) (fun _ => h))))) (fun _ => h)
  refine hy_isFixed (fun hf => br_f (by decide) ?_) (fun _ => br_t rfl h)
  refine hy_isFixed (fun hg => br_f (by decide) ?_) (fun _ => br_t rfl h)
  obtain ⟨u, hu, rfl⟩ := ha_mid' (m := 3) (by decide) a a'
  obtain ⟨w, hw, rfl⟩ := ha_le (m := 3) (by decide) b b'
  obtain ⟨c, hc, rfl⟩ := hf
  obtain ⟨e, he, rfl⟩ := hg
  have m8 := fb_nm8 (Or.inl hc)
  have c2 := fb_FXlt hc
  have i16 := fb_ix16 hc
  have m8' := fb_nm8 (Or.inl he)
  have c2' := fb_FXlt he
  have i16' := fb_ix16 he
  obtain ⟨l1, l2, l3⟩ := cn_A D (k := u * 8 + fb_nm c) (by omega)
  obtain ⟨q1, q2⟩ := cn_P D (u := u) (by omega)
  obtain ⟨l1', l2', l3'⟩ := cn_A D (k := w * 8 + fb_nm e) (by omega)
  obtain ⟨q1', q2'⟩ := cn_P D (u := w) (by omega)
  refine hy_nameOf (by omega) ?_
  refine hy_nameOf (by omega) ?_
  refine hy_idxOf (by omega) ?_
  refine hy_idxOf (by omega) ⟨vp_in_nI (by omega) (by decide), ?_⟩
  rw [nI_clamp (n := u) (by omega), q1]
  refine pk_lt (fb_nm c) (fa_N ap u) (fun _ => h) (fun z => ⟨vp_in_nI (by omega) (by decide), ?_⟩)
  rw [nI_clamp (n := w) (by omega), q1']
  refine pk_le (fa_N ap w) (fb_nm e) (fun z' => ?_) (fun _ => h)
  rw [ha_us (u := u), ha_us (u := w), nI_clamp (n := u * 8 + fb_nm c) (by omega), nI_clamp (n := w * 8 + fb_nm e) (by omega), l1, l1']
  refine ⟨vp_in_nI (by omega) (by decide), pk_lt (fa_N al (u * 8 + fb_nm c)) (fb_ix c) (fun _ => h) (fun y => ⟨vp_in_nI (by omega) (by decide), pk_le (fb_ix e) (fa_N al (w * 8 + fb_nm e)) (fun y' => absurd ⟨⟨u, c, by omega, rfl, hc, rfl, by omega, y⟩, ⟨w, e, by omega, rfl, he, rfl, by omega, y'⟩⟩ nv) (fun _ => h)⟩)⟩
theorem rd_a1 {w e d d' : Nat} (D : fs_D al ap ac en cb cn eu ea eb n) (hu : u < 4) (hc : fb_FX c) (hs : ¬ fb_nm c < fa_N ap u) (hi : fb_ix c ≤ fa_N al (u * 8 + fb_nm c)) (hw : w < 4) (he : fb_FX e) (hs' : ¬ fb_nm e < fa_N ap w) (hi' : fb_ix e ≤ fa_N al (w * 8 + fb_nm e))
    (ed : ad (u * 8 + fb_nm c) = nI d) (ed' : ad (w * 8 + fb_nm e) = nI d') (hd : d < 512) (hd' : d' < 512) (h1 : d + fb_ix c = d' + fb_ix e → post 1) (h0 : d + fb_ix c ≠ d' + fb_ix e → post 0) : wpY_aliased post (sc, oc, ne, ns, 1, nc, on, yp, yu, ye, st, yl, yr, al, ap, cb, cn, ac, eu, ea, eb, sU, sL, sK, sE, sG, sO, kx, ky, kd, pl, rl, cm, hv, ba, ad, ex, cy, tc, ss, av, cs, bi, ou) (nI u) (nI c) (nI w) (nI e) := by
  have m8 := fb_nm8 (Or.inl hc)
  have c2 := fb_FXlt hc
  have i16 := fb_ix16 hc
  have m8' := fb_nm8 (Or.inl he)
  have c2' := fb_FXlt he
  have i16' := fb_ix16 he
  obtain ⟨l1, l2, l3⟩ := cn_A D (k := u * 8 + fb_nm c) (by omega)
  obtain ⟨q1, q2⟩ := cn_P D (u := u) (by omega)
  obtain ⟨l1', l2', l3'⟩ := cn_A D (k := w * 8 + fb_nm e) (by omega)
  obtain ⟨q1', q2'⟩ := cn_P D (u := w) (by omega)
  refine br_t rfl (br_f (nI_pos (by omega)) (br_f (nI_nlt (a := 3) (by omega) (by decide)) (br_f (nI_pos (by omega)) (br_t (nI_le (b := 3) (by omega) (by decide)) ?_))))
  refine hy_isFixed (fun _ => br_f (by decide) ?_) (fun z => absurd ⟨c, hc, rfl⟩ z)
  refine hy_isFixed (fun _ => br_f (by decide) ?_) (fun z => absurd ⟨e, he, rfl⟩ z)
  refine hy_nameOf (by omega) ?_
  refine hy_nameOf (by omega) ?_
  refine hy_idxOf (by omega) ?_
  refine hy_idxOf (by omega) ⟨vp_in_nI (by omega) (by decide), ?_⟩
  rw [nI_clamp (n := u) (by omega), q1]
  refine br_f (nI_nlt (by omega) (by omega)) ⟨vp_in_nI (by omega) (by decide), ?_⟩
  rw [nI_clamp (n := w) (by omega), q1']
  refine br_t (nI_le (by omega) (by omega)) ?_
  have vv : vp_in (nI (u * 8 + fb_nm c)) 32 := vp_in_nI (by omega) (by decide)
  have vw : vp_in (nI (w * 8 + fb_nm e)) 32 := vp_in_nI (by omega) (by decide)
  rw [ha_us (u := u), ha_us (u := w), nI_clamp (n := u * 8 + fb_nm c) (by omega), nI_clamp (n := w * 8 + fb_nm e) (by omega), l1, l1', ed, ed', nI_add, nI_add]
  exact ⟨vv, br_f (nI_nlt hi (by omega)) ⟨vw, br_t (nI_le hi' (by omega)) ⟨vv, vw, pk_eq (d + fb_ix c) (d' + fb_ix e) h1 h0⟩⟩⟩
end HRD
theorem i_vc_value {k : Nat} {u : SX} {v : SY} (I : i_Rel k u v) (hk : k + 5 ≤ 2562) (v1 : Int32) (v2 : Int32) : wpX_value (fun r => wpY_value (fun r' => r' = r ∧ i_Rel (k + 5) u v) v v1 v2) u v1 v2 := by
  refine i_el (Q := fun u v => wpX_value (fun r => wpY_value (fun r' => r' = r ∧ i_Rel (k + 5) u v) v v1 v2) u v1 v2) I ?_
  intro sc oc ne ns ca on st ra xu xn xe xd nc yp yu ye yl yr al ap ac en eu ea eb sU sL sK sE sG sO gr po ec cx ou tc ss av cs cb cn kx ky kd pl rl cm hv ba ad ex cy bi hsc hoc hD hS hca hyl hra hC
  have I' : i_Rel (k + 5) (sc, oc, ne, ns, ca, on, st, ra, xu, xn, xe, xd, al, ap, ac, en, eu, ea, eb, sU, sL, sK, sE, sG, sO, gr, po, ec, cx, ou, tc, ss, av, cs) (sc, oc, ne, ns, ca, nc, on, yp, yu, ye, st, yl, yr, al, ap, cb, cn, ac, eu, ea, eb, sU, sL, sK, sE, sG, sO, kx, ky, kd, pl, rl, cm, hv, ba, ad, ex, cy, tc, ss, av, cs, bi, ou) := i_mk hsc hoc hD hS hca hyl hra hC
  obtain ⟨q, hq, D⟩ := hD
  rcases hra with ⟨r0, y0⟩ | ⟨r0, y1, c1⟩
  · exact br_t r0 (br_t y0 ⟨rfl, I'⟩)
  · have yn : ¬ yr = 0 := by rw [y1]; decide
    obtain ⟨_, RC, B, St, Mm⟩ := hC c1
    refine br_f r0 ?_
    by_cases V : fa_V al ap v1 v2
    · obtain ⟨u, c, hu, rfl, hc, rfl, hs, hi⟩ := V
      have m8 := fb_nm8 (Or.inl hc)
      obtain ⟨a, b, r, e1, d, e2, e3, e4⟩ := St (u * 8 + fb_nm c) (fb_ix c) (by omega) ((cn_St m8).mpr hs) (fb_ix1 c) hi
      have ab := B.1 a b r
      refine rd_x1 D hu hc hs hi ?_
      rw [e1]
      refine br_f (fa_m1 (by omega)) ⟨vp_in_nI ab.1 (by decide), ?_⟩
      rw [nI_clamp (by omega), Mm r0 a b r, e3]
      exact rd_y1 D yn hu hc hs hi e2 (by omega) ⟨rfl, I'⟩
    · exact rd_x0 D V (br_t rfl (rd_y0 D V ⟨rfl, I'⟩))
theorem i_vc_aliased {k : Nat} {u : SX} {v : SY} (I : i_Rel k u v) (hk : k + 5 ≤ 2562) (v1 : Int32) (v2 : Int32) (v3 : Int32) (v4 : Int32) : wpX_aliased (fun r => wpY_aliased (fun r' => r' = r ∧ i_Rel (k + 5) u v) v v1 v2 v3 v4) u v1 v2 v3 v4 := by
  refine i_el (Q := fun u v => wpX_aliased (fun r => wpY_aliased (fun r' => r' = r ∧ i_Rel (k + 5) u v) v v1 v2 v3 v4) u v1 v2 v3 v4) I ?_
  intro sc oc ne ns ca on st ra xu xn xe xd nc yp yu ye yl yr al ap ac en eu ea eb sU sL sK sE sG sO gr po ec cx ou tc ss av cs cb cn kx ky kd pl rl cm hv ba ad ex cy bi hsc hoc hD hS hca hyl hra hC
  have I' : i_Rel (k + 5) (sc, oc, ne, ns, ca, on, st, ra, xu, xn, xe, xd, al, ap, ac, en, eu, ea, eb, sU, sL, sK, sE, sG, sO, gr, po, ec, cx, ou, tc, ss, av, cs) (sc, oc, ne, ns, ca, nc, on, yp, yu, ye, st, yl, yr, al, ap, cb, cn, ac, eu, ea, eb, sU, sL, sK, sE, sG, sO, kx, ky, kd, pl, rl, cm, hv, ba, ad, ex, cy, tc, ss, av, cs, bi, ou) := i_mk hsc hoc hD hS hca hyl hra hC
  obtain ⟨q, hq, D⟩ := hD
  by_cases c1 : ca = 1
  · subst c1
    obtain ⟨_, RC, B, St, Mm⟩ := hC rfl
    refine br_t rfl ?_
    by_cases V : fa_V al ap v1 v2
    · have V0 := V
      obtain ⟨u, c, hu, rfl, hc, rfl, hs, hi⟩ := V
      have m8 := fb_nm8 (Or.inl hc)
      obtain ⟨a, b, r, e1, d, e2, e3, e4⟩ := St (u * 8 + fb_nm c) (fb_ix c) (by omega) ((cn_St m8).mpr hs) (fb_ix1 c) hi
      have ab := B.1 a b r
      refine rd_x1 D hu hc hs hi ?_
      rw [e1]
      by_cases V2 : fa_V al ap v3 v4
      · obtain ⟨w, e, hw, rfl, he, rfl, hs', hi'⟩ := V2
        have m8' := fb_nm8 (Or.inl he)
        obtain ⟨a', b', r', e1', d', e2', e3', e4'⟩ := St (w * 8 + fb_nm e) (fb_ix e) (by omega) ((cn_St m8').mpr hs') (fb_ix1 e) hi'
        have ab' := B.1 a' b' r'
        have iff := B.2 a b a' b' r r'
        have i1 := fb_ix1 c
        have i1' := fb_ix1 e
        refine rd_x1 D hw he hs' hi' ?_
        rw [e1']
        refine br_f (fa_m1 (by omega)) (pk_eq a a' (fun z => ?_) (fun z => ?_))
        · exact rd_a1 D hu hc hs hi hw he hs' hi' e2 e2' e4 e4' (fun _ => ⟨rfl, I'⟩) (fun y => absurd (iff.mp z) (by omega))
        · exact rd_a1 D hu hc hs hi hw he hs' hi' e2 e2' e4 e4' (fun y => absurd (iff.mpr (by omega)) z) (fun _ => ⟨rfl, I'⟩)
      · refine rd_x0 D V2 (br_f (fa_m1 (by omega)) (br_f (fa_m1 (by omega)) ?_))
        exact rd_a0 D (fun z => V2 z.2) ⟨rfl, I'⟩
    · refine rd_x0 D V ?_
      by_cases V2 : fa_V al ap v3 v4
      · obtain ⟨w, e, hw, rfl, he, rfl, hs', hi'⟩ := V2
        exact rd_x1 D hw he hs' hi' (br_t rfl (rd_a0 D (fun z => V z.1) ⟨rfl, I'⟩))
      · exact rd_x0 D V2 (br_t rfl (rd_a0 D (fun z => V z.1) ⟨rfl, I'⟩))
  · exact br_f c1 (br_f c1 ⟨rfl, I'⟩)
