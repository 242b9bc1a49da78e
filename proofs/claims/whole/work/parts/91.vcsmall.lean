/-! the owed statements of the declaring methods -/
theorem vq_en {en cb cn : Nat → Int32} {i b m : Nat} (hb : b < 4) (hm : m < 8) (h : ∀ j, j < 32 → fa_R 4 (cb j) ∧ fa_R 8 (cn j) ∧ en j = cb j * 8 + cn j) : ∀ j, j < 32 → fa_R 4 (upd cb i (nI b) j) ∧ fa_R 8 (upd cn i (nI m) j) ∧ upd en i (nI (b * 8 + m)) j = upd cb i (nI b) j * 8 + upd cn i (nI m) j := by
  intro j hj
  by_cases e : j = i
  · subst e
    rw [pk_us, pk_us, pk_us, ha_us]
    exact ⟨⟨b, hb, rfl⟩, ⟨m, hm, rfl⟩, rfl⟩
  · rw [pk_un e, pk_un e, pk_un e]
    exact h j hj
theorem i_vc_dimension {k : Nat} {u : SX} {v : SY} (I : i_Rel k u v) (hk : k + 5 ≤ 2562) (v1 : Int32) (v2 : Int32) (v3 : Int32) : wpX_dimension (fun r u' => wpY_dimension (fun r' v' => r' = r ∧ i_Rel (k + 5) u' v') v v1 v2 v3) u v1 v2 v3 := by
  refine i_el (Q := fun u v => wpX_dimension (fun r u' => wpY_dimension (fun r' v' => r' = r ∧ i_Rel (k + 5) u' v') v v1 v2 v3) u v1 v2 v3) I ?_
  intro sc oc ne ns ca on st ra xu xn xe xd nc yp yu ye yl yr al ap ac en eu ea eb sU sL sK sE sG sO gr po ec cx ou tc ss av cs cb cn kx ky kd pl rl cm hv ba ad ex cy bi hsc hoc hD hS hca hyl hra hC
  by_cases c : ca = 0 ∧ fa_R 4 v1 ∧ fa_R 8 v2 ∧ fa_L v3
  · obtain ⟨rfl, ⟨u, hu, rfl⟩, ⟨m, hm, rfl⟩, l, l1, l16, rfl⟩ := c
    refine vx_dim1 hu hm l1 l16 (vy_dim1 hu hm l1 l16 ⟨rfl, i_mk hsc hoc ?_ ?_ hca hyl hra (fun z => absurd z (by decide))⟩)
    · obtain ⟨q, hq, d1, d2⟩ := hD
      refine ⟨q, hq, fun j hj => ?_, d2⟩
      by_cases e : j = u * 8 + m
      · subst e
        exact ⟨l, l1, l16, pk_us⟩
      · rw [pk_un e]
        exact d1 j hj
    · obtain ⟨n, hn, e, S, _⟩ := hS
      exact ⟨n, hn, e, S, fun z => absurd z (by decide)⟩
  · exact vx_dim0 c (vy_dim0 c ⟨rfl, i_mk hsc hoc hD hS hca hyl hra hC⟩)
theorem i_vc_parameters {k : Nat} {u : SX} {v : SY} (I : i_Rel k u v) (hk : k + 5 ≤ 2562) (v1 : Int32) (v2 : Int32) : wpX_parameters (fun r u' => wpY_parameters (fun r' v' => r' = r ∧ i_Rel (k + 5) u' v') v v1 v2) u v1 v2 := by
  refine i_el (Q := fun u v => wpX_parameters (fun r u' => wpY_parameters (fun r' v' => r' = r ∧ i_Rel (k + 5) u' v') v v1 v2) u v1 v2) I ?_
  intro sc oc ne ns ca on st ra xu xn xe xd nc yp yu ye yl yr al ap ac en eu ea eb sU sL sK sE sG sO gr po ec cx ou tc ss av cs cb cn kx ky kd pl rl cm hv ba ad ex cy bi hsc hoc hD hS hca hyl hra hC
  by_cases c : ca = 0 ∧ fa_U v1 ∧ fa_R 4 v2
  · obtain ⟨rfl, ⟨u, u1, hu, rfl⟩, m, hm, rfl⟩ := c
    refine vx_par1 u1 hu hm (vy_par1 u1 hu hm ⟨rfl, i_mk hsc hoc ?_ ?_ hca hyl hra (fun z => absurd z (by decide))⟩)
    · obtain ⟨q, hq, d1, d2, d3, d4⟩ := hD
      refine ⟨q, hq, d1, by rw [pk_un (by omega)]; exact d2, fun j hj => ?_, d4⟩
      by_cases e : j = u
      · subst e
        rw [pk_us]
        exact ⟨m, hm, rfl⟩
      · rw [pk_un e]
        exact d3 j hj
    · obtain ⟨n, hn, e, S, _⟩ := hS
      exact ⟨n, hn, e, S, fun z => absurd z (by decide)⟩
  · exact vx_par0 c (vy_par0 c ⟨rfl, i_mk hsc hoc hD hS hca hyl hra hC⟩)
theorem i_vc_common {k : Nat} {u : SX} {v : SY} (I : i_Rel k u v) (hk : k + 5 ≤ 2562) (v1 : Int32) (v2 : Int32) (v3 : Int32) : wpX_common (fun r u' => wpY_common (fun r' v' => r' = r ∧ i_Rel (k + 5) u' v') v v1 v2 v3) u v1 v2 v3 := by
  refine i_el (Q := fun u v => wpX_common (fun r u' => wpY_common (fun r' v' => r' = r ∧ i_Rel (k + 5) u' v') v v1 v2 v3) u v1 v2 v3) I ?_
  intro sc oc ne ns ca on st ra xu xn xe xd nc yp yu ye yl yr al ap ac en eu ea eb sU sL sK sE sG sO gr po ec cx ou tc ss av cs cb cn kx ky kd pl rl cm hv ba ad ex cy bi hsc hoc hD hS hca hyl hra hC
  by_cases c : ca = 0 ∧ fa_R 4 v1 ∧ fa_R 4 v2 ∧ fa_R 8 v3 ∧ ac v1.toNatClampNeg < 8
  · obtain ⟨rfl, ⟨u, hu, rfl⟩, ⟨b, hb, rfl⟩, ⟨m, hm, rfl⟩, ha⟩ := c
    rw [nI_clamp (by omega)] at ha
    obtain ⟨q, hq, d1, d2, d3, d4, d5, d6⟩ := hD
    obtain ⟨l, hl, el⟩ := d4 u hu
    have l8 : l < 8 := by
      rw [el] at ha
      exact (nI_ltI (b := 8) (by omega) (by decide)).mp ha
    refine vx_com1 hu hb hm l8 el (vy_com1 hu hb hm l8 el ⟨rfl, i_mk hsc hoc ⟨q, hq, d1, d2, d3, fun j hj => ?_, vq_en hb hm d5, d6⟩ ?_ hca hyl hra (fun z => absurd z (by decide))⟩)
    · by_cases e : j = u
      · subst e
        rw [pk_us]
        exact ⟨l + 1, by omega, rfl⟩
      · rw [pk_un e]
        exact d4 j hj
    · obtain ⟨n, hn, e, S, _⟩ := hS
      exact ⟨n, hn, e, S, fun z => absurd z (by decide)⟩
  · exact vx_com0 c (vy_com0 c ⟨rfl, i_mk hsc hoc hD hS hca hyl hra hC⟩)
theorem i_vc_equivalence {k : Nat} {u : SX} {v : SY} (I : i_Rel k u v) (hk : k + 5 ≤ 2562) (v1 : Int32) (v2 : Int32) (v3 : Int32) : wpX_equivalence (fun r u' => wpY_equivalence (fun r' v' => r' = r ∧ i_Rel (k + 5) u' v') v v1 v2 v3) u v1 v2 v3 := by
  refine i_el (Q := fun u v => wpX_equivalence (fun r u' => wpY_equivalence (fun r' v' => r' = r ∧ i_Rel (k + 5) u' v') v v1 v2 v3) u v1 v2 v3) I ?_
  intro sc oc ne ns ca on st ra xu xn xe xd nc yp yu ye yl yr al ap ac en eu ea eb sU sL sK sE sG sO gr po ec cx ou tc ss av cs cb cn kx ky kd pl rl cm hv ba ad ex cy bi hsc hoc hD hS hca hyl hra hC
  by_cases c : ca = 0 ∧ fa_R 4 v1 ∧ fa_F v2 ∧ fa_F v3 ∧ ne < 16
  · obtain ⟨rfl, hu, f1, f2, hm⟩ := c
    obtain ⟨m, rfl, d1, d2, d3, d4, d5, d6, d7⟩ := hD
    have m16 : m < 16 := (nI_ltI (b := 16) (by omega) (by decide)).mp hm
    refine vx_eqv1 hu f1 f2 m16 (vy_eqv1 hu f1 f2 m16 ⟨rfl, i_mk hsc hoc ⟨m + 1, rfl, d1, d2, d3, d4, d5, by omega, fun e he => ?_⟩ ?_ hca hyl hra (fun z => absurd z (by decide))⟩)
    · by_cases z : e = m
      · subst z
        rw [pk_us, pk_us, pk_us]
        exact ⟨hu, f1, f2⟩
      · rw [pk_un z, pk_un z, pk_un z]
        exact d7 e (by omega)
    · obtain ⟨n, hn, e, S, _⟩ := hS
      exact ⟨n, hn, e, S, fun z => absurd z (by decide)⟩
  · exact vx_eqv0 c (vy_eqv0 c ⟨rfl, i_mk hsc hoc hD hS hca hyl hra hC⟩)
theorem i_vc_statement {k : Nat} {u : SX} {v : SY} (I : i_Rel k u v) (hk : k + 5 ≤ 2562) (v1 : Int32) (v2 : Int32) (v3 : Int32) (v4 : Int32) : wpX_statement (fun r u' => wpY_statement (fun r' v' => r' = r ∧ i_Rel (k + 5) u' v') v v1 v2 v3 v4) u v1 v2 v3 v4 := by
  refine i_el (Q := fun u v => wpX_statement (fun r u' => wpY_statement (fun r' v' => r' = r ∧ i_Rel (k + 5) u' v') v v1 v2 v3 v4) u v1 v2 v3 v4) I ?_
  intro sc oc ne ns ca on st ra xu xn xe xd nc yp yu ye yl yr al ap ac en eu ea eb sU sL sK sE sG sO gr po ec cx ou tc ss av cs cb cn kx ky kd pl rl cm hv ba ad ex cy bi hsc hoc hD hS hca hyl hra hC
  have hS0 := hS
  obtain ⟨n, hn, rfl, S, C⟩ := hS
  by_cases c : ca = 0 ∧ fb_pend n sK sE sG = 0 ∧ nI n < sc ∧ fa_R 4 v1 ∧ fa_R 100 v2 ∧ fa_X v3 v4
  · obtain ⟨rfl, hp, hlt, hu, hl, hx⟩ := c
    have hsc0 := hsc
    obtain ⟨scn, s8, s64, es⟩ := hsc
    have nl : n < scn := by
      rw [es] at hlt
      exact (nI_ltI (by omega) (by omega)).mp hlt
    exact vx_stm1 S hp es s64 nl hu hl hx (vy_stm1 S hp es s64 nl hu hl hx ⟨rfl, i_mk hsc0 hoc hD ⟨n + 1, by omega, rfl, vs_new S hp (by decide) hu hl hx, fun z => absurd z (by decide)⟩ hca hyl hra (fun z => absurd z (by decide))⟩)
  · exact vx_stm0 hn S c (vy_stm0 hn S c ⟨rfl, i_mk hsc hoc hD hS0 hca hyl hra hC⟩)
theorem i_vc_operand {k : Nat} {u : SX} {v : SY} (I : i_Rel k u v) (hk : k + 5 ≤ 2562) (v1 : Int32) : wpX_operand (fun r u' => wpY_operand (fun r' v' => r' = r ∧ i_Rel (k + 5) u' v') v v1) u v1 := by
  refine i_el (Q := fun u v => wpX_operand (fun r u' => wpY_operand (fun r' v' => r' = r ∧ i_Rel (k + 5) u' v') v v1) u v1) I ?_
  intro sc oc ne ns ca on st ra xu xn xe xd nc yp yu ye yl yr al ap ac en eu ea eb sU sL sK sE sG sO gr po ec cx ou tc ss av cs cb cn kx ky kd pl rl cm hv ba ad ex cy bi hsc hoc hD hS hca hyl hra hC
  have hS0 := hS
  obtain ⟨n, hn, rfl, S, C⟩ := hS
  by_cases c : ca = 0 ∧ fb_pend n sK sE sG ≠ 0
  · obtain ⟨rfl, hp⟩ := c
    refine vx_opd hn S hp (fun a => vy_opd hn S hp (fun _ => ⟨rfl, i_mk hsc hoc hD ⟨n, hn, rfl, vs_more S (by decide) hp a, fun z => absurd z (by decide)⟩ hca hyl hra (fun z => absurd z (by decide))⟩) (fun z => absurd a z)) (fun a => vy_opd hn S hp (fun z => absurd z a) (fun _ => ⟨rfl, i_mk hsc hoc hD hS0 hca hyl hra hC⟩))
  · exact vx_opd0 hn S c (vy_opd0 hn S c ⟨rfl, i_mk hsc hoc hD hS0 hca hyl hra hC⟩)
theorem i_vc_output {k : Nat} {u : SX} {v : SY} (I : i_Rel k u v) (hk : k + 5 ≤ 2562) (v1 : Int32) : wpX_output (fun r => wpY_output (fun r' => r' = r ∧ i_Rel (k + 5) u v) v v1) u v1 := by
  refine i_el (Q := fun u v => wpX_output (fun r => wpY_output (fun r' => r' = r ∧ i_Rel (k + 5) u v) v v1) u v1) I ?_
  intro sc oc ne ns ca on st ra xu xn xe xd nc yp yu ye yl yr al ap ac en eu ea eb sU sL sK sE sG sO gr po ec cx ou tc ss av cs cb cn kx ky kd pl rl cm hv ba ad ex cy bi hsc hoc hD hS hca hyl hra hC
  have I' : i_Rel (k + 5) (sc, oc, ne, ns, ca, on, st, ra, xu, xn, xe, xd, al, ap, ac, en, eu, ea, eb, sU, sL, sK, sE, sG, sO, gr, po, ec, cx, ou, tc, ss, av, cs) (sc, oc, ne, ns, ca, nc, on, yp, yu, ye, st, yl, yr, al, ap, cb, cn, ac, eu, ea, eb, sU, sL, sK, sE, sG, sO, kx, ky, kd, pl, rl, cm, hv, ba, ad, ex, cy, tc, ss, av, cs, bi, ou) := i_mk hsc hoc hD hS hca hyl hra hC
  obtain ⟨c, o, c4, c32, e1, ho, rfl⟩ := hoc
  rcases pk_ix v1 (n := o) (by omega) with a | a | ⟨j, hj, rfl⟩
  · exact br_t a (br_t a ⟨rfl, I'⟩)
  · have a0 : ¬ v1 < 0 := fun z => absurd (Int32.lt_of_le_of_lt a z) (nI_pos (by omega))
    exact br_f a0 (br_t a (br_f a0 (br_f (Int32.not_lt.mpr a) ⟨rfl, I'⟩)))
  · have vj : vp_in (nI j) 32 := vp_in_nI (by omega) (by decide)
    exact br_f (nI_pos (by omega)) (br_f (nI_ge hj (by omega)) ⟨vj, br_f (nI_pos (by omega)) (br_t (nI_lt hj (by omega)) ⟨vj, rfl, I'⟩)⟩)
