section HYC
/-! the reference's checks, against the same facts -/
variable {sc oc ne ns ca on st ra xu xn xe xd nc yp yu ye yl yr : Int32} {al ap ac en eu ea eb sU sL sK sE sG sO gr po ec cx ou tc ss av cs cb cn kx ky kd pl rl cm hv ba ad ex cy bi : Nat → Int32}
variable {post : Int32 → Prop} {n : Nat} {f : Prop}
theorem cy_dummy (D : fs_D al ap ac en cb cn eu ea eb n) (h1 : gd_DB (fa_N al) (fa_N ap) (fa_N ac) (fa_N cn) n (fa_N eu) (fa_N ea) (fa_N eb) → post 1) (h0 : ¬ gd_DB (fa_N al) (fa_N ap) (fa_N ac) (fa_N cn) n (fa_N eu) (fa_N ea) (fa_N eb) → post 0) : wpY_dummyBad post (sc, oc, nI n, ns, ca, nc, on, yp, yu, ye, st, yl, yr, al, ap, cb, cn, ac, eu, ea, eb, sU, sL, sK, sE, sG, sO, kx, ky, kd, pl, rl, cm, hv, ba, ad, ex, cy, tc, ss, av, cs, bi, ou) := by
  have n16 := D.2.2.2.2.2.1
  refine lb_from (W := fun m z => wY_dummyBad_2 post sc oc (nI n) ns ca nc on yp yu ye st yl yr al ap cb cn ac eu ea eb sU sL sK sE sG sO kx ky kd pl rl cm hv ba ad ex cy tc ss av cs bi ou m z) (B := fun k => k % 8 < fa_N ap (k / 8) ∧ 1 < fa_N al k) 0 32 (by decide) ?_ ?_
  · intro m nb1
    refine br_t (by decide) ?_
    refine lb_from (W := fun m z => wY_dummyBad_44 post sc oc (nI n) ns ca nc on yp yu ye st yl yr al ap cb cn ac eu ea eb sU sL sK sE sG sO kx ky kd pl rl cm hv ba ad ex cy tc ss av cs bi ou m z) (B := fun k => k % 8 < fa_N ac (k / 8) ∧ fa_N cn k < fa_N ap (k / 8)) 0 32 (by decide) ?_ ?_
    · intro m nb2
      refine br_t (by decide) ?_
      refine lb_from (W := fun m z => wY_dummyBad_94 post sc oc (nI n) ns ca nc on yp yu ye st yl yr al ap cb cn ac eu ea eb sU sL sK sE sG sO kx ky kd pl rl cm hv ba ad ex cy tc ss av cs bi ou m z) (B := fun e => fb_nm (fa_N ea e) < fa_N ap (fa_N eu e) ∨ fb_nm (fa_N eb e) < fa_N ap (fa_N eu e)) 0 n (by omega) ?_ ?_
      · intro m nb3
        refine br_t (nI_le (Nat.le_refl n) (by omega)) (h0 ?_)
        rintro (⟨k, hk, a⟩ | ⟨u, i, hu, hi, a⟩ | ⟨e, he, a⟩)
        · exact nb1 k (by omega) hk a
        · have c9 := (cn_C D hu).2
          refine nb2 (u * 8 + i) (by omega) (by omega) ?_
          rw [show (u * 8 + i) % 8 = i by omega, show (u * 8 + i) / 8 = u by omega]
          exact ⟨hi, a⟩
        · exact nb3 e (by omega) he a
      · intro m e _ he go
        obtain ⟨⟨q1, q2⟩, ⟨q3, q4, q5⟩, q6, q7, q8⟩ := cn_E D he
        obtain ⟨p1, p2⟩ := cn_P D q2
        have ve : vp_in (nI e) 16 := vp_in_nI (by omega) (by decide)
        have m1 := fb_nm8 (Or.inl q4)
        have m2 := fb_nm8 (Or.inl q7)
        have vu : vp_in (nI (fa_N eu e)) 4 := vp_in_nI q2 (by decide)
        refine br_f (nI_ge he (by omega)) ⟨ve, ?_⟩
        rw [nI_clamp (n := e) (by omega), q1, q3, q6]
        refine nm_e ⟨ve, ?_⟩
        refine hy_nameOf (by omega) ⟨ve, ?_⟩
        refine hy_nameOf (by omega) ⟨vu, ?_⟩
        rw [nI_clamp (n := fa_N eu e) (by omega), p1]
        exact pk_lt (fb_nm (fa_N ea e)) (fa_N ap (fa_N eu e)) (fun z => h1 (Or.inr (Or.inr ⟨e, he, Or.inl z⟩))) (fun z => ⟨vu, pk_le (fa_N ap (fa_N eu e)) (fb_nm (fa_N eb e)) (fun z' => nm_r (nI_1 e) (go (by omega))) (fun z' => h1 (Or.inr (Or.inr ⟨e, he, Or.inr z'⟩)))⟩)
    · intro m k _ hk go
      obtain ⟨c1, c2⟩ := cn_C D (u := k / 8) (by omega)
      obtain ⟨p1, p2⟩ := cn_P D (u := k / 8) (by omega)
      obtain ⟨_, ⟨i3, i4⟩, _⟩ := cn_I D hk
      have v8 : vp_in (nI (k / 8)) 4 := vp_in_nI (by omega) (by decide)
      refine br_f (nI_ge (b := 32) hk (by decide)) ⟨by decide, by decide, ?_⟩
      rw [ha_r8 (by omega), ha_d8 (by omega), nI_clamp (n := k / 8) (by omega), c1, nI_clamp (n := k) (by omega), i3, p1]
      exact ⟨v8, pk_le (fa_N ac (k / 8)) (k % 8) (fun z => nm_r (nI_1 k) (go (by omega))) (fun z => ⟨vp_in_nI hk (by decide), by decide, v8, pk_le (fa_N ap (k / 8)) (fa_N cn k) (fun z' => nm_r (nI_1 k) (go (by omega))) (fun z' => h1 (Or.inr (Or.inl ⟨k / 8, k % 8, by omega, z, by rw [show k / 8 * 8 + k % 8 = k by omega]; exact z'⟩)))⟩)⟩
  · intro m k _ hk go
    obtain ⟨l1, l2, l3⟩ := cn_A D hk
    obtain ⟨p1, p2⟩ := cn_P D (u := k / 8) (by omega)
    have v8 : vp_in (nI (k / 8)) 4 := vp_in_nI (by omega) (by decide)
    refine br_f (nI_ge (b := 32) hk (by decide)) ⟨by decide, by decide, ?_⟩
    rw [ha_r8 (by omega), ha_d8 (by omega), nI_clamp (n := k / 8) (by omega), p1, nI_clamp (n := k) (by omega), l1]
    exact ⟨v8, pk_le (fa_N ap (k / 8)) (k % 8) (fun z => nm_r (nI_1 k) (go (by omega))) (fun z => ⟨vp_in_nI hk (by decide), pk_le (fa_N al k) 1 (fun z' => nm_r (nI_1 k) (go (by omega))) (fun z' => h1 (Or.inl ⟨k, hk, z, z'⟩))⟩)⟩
theorem cy_eff {u m : Nat} (D : fs_D al ap ac en cb cn eu ea eb n) (hd : ∀ k, k < 32 → ¬ gd_St (fa_N ap) k → al k = 1) (hu : u < 4) (hm : m < 8) (h : post (nI (fa_N al (u * 8 + m)))) : wpY_effLen post (sc, oc, ne, ns, ca, nc, on, yp, yu, ye, st, yl, yr, al, ap, cb, cn, ac, eu, ea, eb, sU, sL, sK, sE, sG, sO, kx, ky, kd, pl, rl, cm, hv, ba, ad, ex, cy, tc, ss, av, cs, bi, ou) (nI u) (nI m) := by
  refine hy_effLen hu hm (D.2.2.1 u hu) ?_
  have e : (if m < fa_N ap u then (1 : Int32) else al (u * 8 + m)) = al (u * 8 + m) := by
    split
    · exact (hc_dum hd hu hm (by assumption)).symm
    · rfl
  rw [e, (cn_A D (k := u * 8 + m) (by omega)).1]
  exact h
theorem cy_index {ns' : Nat} (D : fs_D al ap ac en cb cn eu ea eb n) (hd : ∀ k, k < 32 → ¬ gd_St (fa_N ap) k → al k = 1) (hn : ns' ≤ 64) (S : fs_S ns' sU sL sK sE sG sO f) (h1 : (gd_XE (fa_N al) n (fa_N eu) (fa_N ea) (fa_N eb) ∨ gd_XS ns' al sU sG sO) → post 1) (h0 : ¬ (gd_XE (fa_N al) n (fa_N eu) (fa_N ea) (fa_N eb) ∨ gd_XS ns' al sU sG sO) → post 0) : wpY_indexBad post (sc, oc, nI n, nI ns', ca, nc, on, yp, yu, ye, st, yl, yr, al, ap, cb, cn, ac, eu, ea, eb, sU, sL, sK, sE, sG, sO, kx, ky, kd, pl, rl, cm, hv, ba, ad, ex, cy, tc, ss, av, cs, bi, ou) := by
  have n16 := D.2.2.2.2.2.1
  refine lb_from (W := fun m z => wY_indexBad_2 post sc oc (nI n) (nI ns') ca nc on yp yu ye st yl yr al ap cb cn ac eu ea eb sU sL sK sE sG sO kx ky kd pl rl cm hv ba ad ex cy tc ss av cs bi ou m z) (B := fun e => fa_N al (fa_N eu e * 8 + fb_nm (fa_N ea e)) < fb_ix (fa_N ea e) ∨ fa_N al (fa_N eu e * 8 + fb_nm (fa_N eb e)) < fb_ix (fa_N eb e)) 0 n (by omega) ?_ ?_
  · intro m nb1
    refine br_t (nI_le (Nat.le_refl n) (by omega)) ?_
    refine lb_from (W := fun m z => wY_indexBad_105 post sc oc (nI n) (nI ns') ca nc on yp yu ye st yl yr al ap cb cn ac eu ea eb sU sL sK sE sG sO kx ky kd pl rl cm hv ba ad ex cy tc ss av cs bi ou m z) (B := fun s => ∃ p c, p < fa_N sG s ∧ sO (s * 5 + p) = nI c ∧ fb_FX c ∧ fa_N al (fa_N sU s * 8 + fb_nm c) < fb_ix c) 0 ns' (by omega) ?_ ?_
    · intro m nb2
      refine br_t (nI_le (Nat.le_refl _) (by omega)) (h0 ?_)
      rintro (⟨e, he, a⟩ | ⟨s, p, c, hs, a⟩)
      · exact nb1 e (by omega) he a
      · exact nb2 s (by omega) hs ⟨p, c, a⟩
    · intro m s _ hs go
      obtain ⟨_, _, ⟨g1, g2, g5⟩, ⟨u1, u2⟩, _, _, ops⟩ := ha_V (S s hs)
      have vs : vp_in (nI s) 64 := vp_in_nI (by omega) (by decide)
      refine br_f (nI_ge hs (by omega)) ?_
      refine lb_from (W := fun m' z => wY_indexBad_115 post (wY_indexBad_105 post sc oc (nI n) (nI ns') ca nc on yp yu ye st yl yr al ap cb cn ac eu ea eb sU sL sK sE sG sO kx ky kd pl rl cm hv ba ad ex cy tc ss av cs bi ou m) (nI s) sc oc (nI n) (nI ns') ca nc on yp yu ye st yl yr al ap cb cn ac eu ea eb sU sL sK sE sG sO kx ky kd pl rl cm hv ba ad ex cy tc ss av cs bi ou m' z) (B := fun p => ∃ c, sO (s * 5 + p) = nI c ∧ fb_FX c ∧ fa_N al (fa_N sU s * 8 + fb_nm c) < fb_ix c) 0 (fa_N sG s) (by omega) ?_ ?_
      · intro m' nb
        refine ⟨vs, ?_⟩
        rw [nI_clamp (n := s) (by omega), g1]
        exact br_t (nI_le (Nat.le_refl _) (by omega)) (nm_r (nI_1 s) (go (by rintro ⟨p, c, hp, a⟩; exact nb p (by omega) hp ⟨c, a⟩)))
      · intro m' p _ hp go'
        obtain ⟨c, ec1, hal⟩ := ops p hp
        have c3 : c < 30000 := by
          unfold fb_al fb_FX fb_IX at hal
          omega
        refine ⟨vs, ?_⟩
        rw [nI_clamp (n := s) (by omega), g1]
        refine br_f (nI_ge hp (by omega)) ?_
        rw [ha_5, nI_clamp (n := s * 5 + p) (by omega), ec1]
        refine ⟨vp_in_nI (by omega) (by decide), nm_e ?_⟩
        refine hy_isFixed (fun z => br_f (by decide) ?_) (fun z => br_t rfl (nm_r (nI_1 p) (go' ?_)))
        · obtain ⟨c', hc', e⟩ := z
          have c2 := fb_FXlt hc'
          have := fa_inj (by omega) (by omega) e
          subst this
          have m8 := fb_nm8 (Or.inl hc')
          have l16 := cn_A D (k := fa_N sU s * 8 + fb_nm c) (by omega)
          have i16 := fb_ix16 hc'
          refine hy_nameOf (by omega) ⟨vs, ?_⟩
          rw [u1]
          refine cy_eff D hd u2 m8 ?_
          refine hy_idxOf (by omega) ?_
          refine pk_le (fb_ix c) (fa_N al (fa_N sU s * 8 + fb_nm c)) (fun q => nm_r (nI_1 p) (go' ?_)) (fun q => h1 (Or.inr ⟨s, p, c, hs, hp, ec1, hc', q⟩))
          rintro ⟨c'', e1, e2, e3⟩
          have := fa_inj (by omega) (by have := fb_FXlt e2; omega) (ec1.symm.trans e1)
          subst this
          omega
        · rintro ⟨c'', e1, e2, e3⟩
          exact z ⟨c'', e2, ec1.symm.trans e1⟩
  · intro m e _ he go
    obtain ⟨⟨q1, q2⟩, ⟨q3, q4, q5⟩, q6, q7, q8⟩ := cn_E D he
    have ve : vp_in (nI e) 16 := vp_in_nI (by omega) (by decide)
    have m1 := fb_nm8 (Or.inl q4)
    have m2 := fb_nm8 (Or.inl q7)
    have i1 := fb_ix16 q4
    have i2 := fb_ix16 q7
    have l1 := cn_A D (k := fa_N eu e * 8 + fb_nm (fa_N ea e)) (by omega)
    have l2 := cn_A D (k := fa_N eu e * 8 + fb_nm (fa_N eb e)) (by omega)
    refine br_f (nI_ge he (by omega)) ⟨ve, ?_⟩
    rw [nI_clamp (n := e) (by omega), q1, q3, q6]
    refine nm_e ⟨ve, ?_⟩
    refine hy_nameOf (by omega) ⟨ve, ?_⟩
    refine hy_nameOf (by omega) ?_
    refine cy_eff D hd q2 m1 ?_
    refine cy_eff D hd q2 m2 ⟨ve, ?_⟩
    refine hy_idxOf (by omega) ⟨ve, ?_⟩
    refine hy_idxOf (by omega) ?_
    exact pk_lt (fa_N al (fa_N eu e * 8 + fb_nm (fa_N ea e))) (fb_ix (fa_N ea e)) (fun z => h1 (Or.inl ⟨e, he, Or.inl z⟩)) (fun z => pk_le (fb_ix (fa_N eb e)) (fa_N al (fa_N eu e * 8 + fb_nm (fa_N eb e))) (fun z' => nm_r (nI_1 e) (go (by omega))) (fun z' => h1 (Or.inl ⟨e, he, Or.inr z'⟩)))
def gd_BY (ap cm rl : Nat → Int32) : Prop := ∃ k b, k < 32 ∧ gd_St (fa_N ap) k ∧ 32 ≤ b ∧ b < 36 ∧ cm k = cm b ∧ rl k < rl b
theorem cy_back (hP : ∀ u, u < 4 → fa_R 4 (ap u)) (h1 : gd_BY ap cm rl → post 1) (h0 : ¬ gd_BY ap cm rl → post 0) : wpY_backward post (sc, oc, ne, ns, ca, nc, on, yp, yu, ye, st, yl, yr, al, ap, cb, cn, ac, eu, ea, eb, sU, sL, sK, sE, sG, sO, kx, ky, kd, pl, rl, cm, hv, ba, ad, ex, cy, tc, ss, av, cs, bi, ou) := by
  refine lb_from (W := fun m z => wY_backward_2 post sc oc ne ns ca nc on yp yu ye st yl yr al ap cb cn ac eu ea eb sU sL sK sE sG sO kx ky kd pl rl cm hv ba ad ex cy tc ss av cs bi ou m z) (B := fun k => gd_St (fa_N ap) k ∧ ∃ b, 32 ≤ b ∧ b < 36 ∧ cm k = cm b ∧ rl k < rl b) 0 32 (by decide) ?_ ?_
  · intro m nb
    refine br_t (by decide) (h0 ?_)
    rintro ⟨k, b, hk, s, e⟩
    exact nb k (by omega) hk ⟨s, b, e⟩
  · intro m k _ hk go
    refine br_f (nI_ge (b := 32) hk (by decide)) ?_
    refine hy_stored hk (hP _ (by omega)) (fun s => br_t rfl (nm_r (nI_1 k) (go fun q => s q.1))) (fun s => br_f (by decide) ?_)
    have vk : vp_in (nI k) 36 := vp_in_nI (by omega) (by decide)
    refine lb_from (W := fun m' z => wY_backward_19 post (wY_backward_2 post sc oc ne ns ca nc on yp yu ye st yl yr al ap cb cn ac eu ea eb sU sL sK sE sG sO kx ky kd pl rl cm hv ba ad ex cy tc ss av cs bi ou m) (nI k) sc oc ne ns ca nc on yp yu ye st yl yr al ap cb cn ac eu ea eb sU sL sK sE sG sO kx ky kd pl rl cm hv ba ad ex cy tc ss av cs bi ou m' z) (B := fun b => cm k = cm b ∧ rl k < rl b) 32 36 (by decide) ?_ ?_
    · intro m' nb
      refine br_t (by decide) (nm_r (nI_1 k) (go ?_))
      rintro ⟨_, b, b1, b2, e⟩
      exact nb b b1 b2 e
    · intro m' b b1 b2 go'
      have vb : vp_in (nI b) 36 := vp_in_nI b2 (by decide)
      refine br_f (nI_ge (b := 36) b2 (by decide)) ?_
      rw [nI_clamp (n := k) (by omega), nI_clamp (n := b) (by omega)]
      exact ⟨vk, vb, br_c (fun z => ⟨vk, vb, br_c (fun w => nm_r (nI_1 b) (go' fun q => absurd q.2 (Int32.not_lt.mpr w))) (fun w => h1 ⟨k, b, hk, s, b1, b2, z, Int32.not_le.mp w⟩)⟩) (fun z => nm_r (nI_1 b) (go' fun q => z q.1))⟩
theorem cy_label (hn : n ≤ 64) (S : fs_S n sU sL sK sE sG sO True) (h1 : (gd_LD n sU sL ∨ gd_LT n sU sL sK sG sO ∨ gd_LE n sU sL sK sG sO) → post 1) (h0 : ¬ (gd_LD n sU sL ∨ gd_LT n sU sL sK sG sO ∨ gd_LE n sU sL sK sG sO) → post 0) : wpY_labelBad post (sc, oc, ne, nI n, ca, nc, on, yp, yu, ye, st, yl, yr, al, ap, cb, cn, ac, eu, ea, eb, sU, sL, sK, sE, sG, sO, kx, ky, kd, pl, rl, cm, hv, ba, ad, ex, cy, tc, ss, av, cs, bi, ou) := by
  refine lb_from (W := fun m z => wY_labelBad_2 post sc oc ne (nI n) ca nc on yp yu ye st yl yr al ap cb cn ac eu ea eb sU sL sK sE sG sO kx ky kd pl rl cm hv ba ad ex cy tc ss av cs bi ou m z) (B := fun i => ∃ j, i < j ∧ j < n ∧ sL j = sL i ∧ ¬ sL i = 0 ∧ sU j = sU i) 0 n (by omega) ?_ ?_
  · intro m nb1
    refine br_t (nI_le (Nat.le_refl n) (by omega)) ?_
    refine lb_from (W := fun m z => wY_labelBad_78 post sc oc ne (nI n) ca nc on yp yu ye st yl yr al ap cb cn ac eu ea eb sU sL sK sE sG sO kx ky kd pl rl cm hv ba ad ex cy tc ss av cs bi ou m z) (B := fun s => ∃ p, p < fa_N sG s ∧ fb_pl (fa_N sK s) p = 2 ∧ fb_FL sU sL n (sU s) (sO (s * 5 + p)) = -1) 0 n (by omega) ?_ ?_
    · intro m nb2
      refine br_t (nI_le (Nat.le_refl n) (by omega)) ?_
      refine lb_from (W := fun m z => wY_labelBad_152 post sc oc ne (nI n) ca nc on yp yu ye st yl yr al ap cb cn ac eu ea eb sU sL sK sE sG sO kx ky kd pl rl cm hv ba ad ex cy tc ss av cs bi ou m z) (B := fun s => sK s = 4 ∧ ∃ t, fb_FL sU sL n (sU s) (sO (s * 5)) = nI t ∧ t < n ∧ gd_Bad sK s t) 0 n (by omega) ?_ ?_
      · intro m nb3
        refine br_t (nI_le (Nat.le_refl n) (by omega)) (h0 ?_)
        rintro (⟨i, j, hj, hi, a, b, c⟩ | ⟨s, p, hs, a⟩ | ⟨s, t, hs, a, _, b⟩)
        · exact nb1 j (by omega) (by omega) ⟨i, hj, hi, a, by rw [← a]; exact b, c⟩
        · exact nb2 s (by omega) hs ⟨p, a⟩
        · exact nb3 s (by omega) hs ⟨a, t, b⟩
      · intro m s _ hs go
        have vs : vp_in (nI s) 64 := vp_in_nI (by omega) (by decide)
        refine br_f (nI_ge hs (by omega)) ⟨vs, ?_⟩
        rw [nI_clamp (n := s) (by omega)]
        refine br_c (fun k4 => ⟨vs, ?_⟩) (fun k4 => nm_r (nI_1 s) (go fun q => k4 q.1))
        obtain ⟨_, _, _, _, _, gf, ops⟩ := ha_V (S s hs)
        have kk : fa_N sK s = 4 := fa_Re k4 (by decide)
        have g5 : fa_N sG s = 5 := by rw [gf (Or.inr trivial), kk]; rfl
        obtain ⟨c, ec1, hal⟩ := ops 0 (by omega)
        have c3 : c < 10000 := by
          rw [kk] at hal
          have : fb_pl 4 0 = 2 := rfl
          rw [this] at hal
          unfold fb_al at hal
          omega
        have ec0 : sO (s * 5) = nI c := ec1
        rw [ha_50, nI_clamp (n := s * 5) (by omega), ec0]
        refine ⟨vp_in_nI (by omega) (by decide), ?_⟩
        refine hy_findLabel hn (by omega) ?_
        rcases hs_FLr (sU := sU) (sL := sL) (n := n) (u := sU s) (l := nI c) with e | ⟨t, ht, e, _⟩
        · exact absurd ⟨0, by omega, by rw [kk]; rfl, by rw [ec1]; exact e⟩ (nb2 s (by omega) hs)
        · rw [e]
          have bad : gd_Bad sK s t → post 1 := fun q => h1 (Or.inr (Or.inr ⟨s, t, hs, k4, by omega, by rw [ec0]; exact e, ht, q⟩))
          have ok : (¬ gd_Bad sK s t) → ∀ z, z = nI s + 1 → wY_labelBad_152 post sc oc ne (nI n) ca nc on yp yu ye st yl yr al ap cb cn ac eu ea eb sU sL sK sE sG sO kx ky kd pl rl cm hv ba ad ex cy tc ss av cs bi ou m z := fun q => nm_r (nI_1 s) (go (by
            rintro ⟨_, t', e', ht', b'⟩
            rw [ec0] at e'
            have := fa_inj (by omega) (by omega) (e.symm.trans e')
            subst this
            exact q b'))
          refine pk_lt s t (fun z => ⟨vp_in_nI (by omega) (by decide), ?_⟩) (fun z => bad (Or.inl z))
          rw [nI_clamp (n := t) (by omega)]
          refine nm_e (br_c (fun a => ok ?_) (fun a => br_c (fun b => ok ?_) (fun b => br_c (fun d => ok ?_) (fun d => br_c (fun g => ok ?_) (fun g => bad (Or.inr ?_))))))
          · rintro (q | q); omega; exact q (Or.inl a)
          · rintro (q | q); omega; exact q (Or.inr (Or.inl b))
          · rintro (q | q); omega; exact q (Or.inr (Or.inr (Or.inl d)))
          · rintro (q | q); omega; exact q (Or.inr (Or.inr (Or.inr g)))
          · rintro (q | q | q | q)
            · exact a q
            · exact b q
            · exact d q
            · exact g q
    · intro m s _ hs go
      obtain ⟨⟨k1, k2, k3⟩, _, ⟨g1, g2, g5⟩, _, _, _, ops⟩ := ha_V (S s hs)
      have vs : vp_in (nI s) 64 := vp_in_nI (by omega) (by decide)
      refine br_f (nI_ge hs (by omega)) ?_
      refine lb_from (W := fun m' z => wY_labelBad_88 post (wY_labelBad_78 post sc oc ne (nI n) ca nc on yp yu ye st yl yr al ap cb cn ac eu ea eb sU sL sK sE sG sO kx ky kd pl rl cm hv ba ad ex cy tc ss av cs bi ou m) (nI s) sc oc ne (nI n) ca nc on yp yu ye st yl yr al ap cb cn ac eu ea eb sU sL sK sE sG sO kx ky kd pl rl cm hv ba ad ex cy tc ss av cs bi ou m' z) (B := fun p => fb_pl (fa_N sK s) p = 2 ∧ fb_FL sU sL n (sU s) (sO (s * 5 + p)) = -1) 0 (fa_N sG s) (by omega) ?_ ?_
      · intro m' nb
        refine ⟨vs, ?_⟩
        rw [nI_clamp (n := s) (by omega), g1]
        exact br_t (nI_le (Nat.le_refl _) (by omega)) (nm_r (nI_1 s) (go (by rintro ⟨p, hp, e⟩; exact nb p (by omega) hp e)))
      · intro m' p _ hp go'
        obtain ⟨c, ec1, hal⟩ := ops p hp
        refine ⟨vs, ?_⟩
        rw [nI_clamp (n := s) (by omega), g1]
        refine br_f (nI_ge hp (by omega)) ⟨vs, ?_⟩
        rw [k1]
        refine hy_place k2 k3 (by omega) ?_
        refine pk_eq (fb_pl (fa_N sK s) p) 2 (fun z => ⟨vs, ?_⟩) (fun z => nm_r (nI_1 p) (go' fun q => z q.1)) rfl rfl (by have := vs_pl (k := fa_N sK s) (p := p); omega)
        have c3 : c < 10000 := by
          rw [z] at hal
          unfold fb_al at hal
          omega
        rw [ha_5, nI_clamp (n := s * 5 + p) (by omega), ec1]
        refine ⟨vp_in_nI (by omega) (by decide), ?_⟩
        refine hy_findLabel hn (by omega) ?_
        rcases hs_FLr (sU := sU) (sL := sL) (n := n) (u := sU s) (l := nI c) with e | ⟨t, ht, e, _⟩
        · rw [e]
          exact br_f (by decide) (h1 (Or.inr (Or.inl ⟨s, p, hs, hp, z, by rw [ec1]; exact e⟩)))
        · rw [e]
          refine br_t (nI_pos' (by omega)) (nm_r (nI_1 p) (go' ?_))
          rintro ⟨_, y⟩
          rw [ec1, e] at y
          exact fa_m1 (by omega) y
  · intro m i _ hi go
    obtain ⟨_, _, _, _, ⟨l1, l2⟩, _⟩ := ha_V (S i hi)
    have vi : vp_in (nI i) 64 := vp_in_nI (by omega) (by decide)
    refine br_f (nI_ge hi (by omega)) (nm_r (nI_1 i) ?_)
    refine lb_from (W := fun m' z => wY_labelBad_14 post (wY_labelBad_2 post sc oc ne (nI n) ca nc on yp yu ye st yl yr al ap cb cn ac eu ea eb sU sL sK sE sG sO kx ky kd pl rl cm hv ba ad ex cy tc ss av cs bi ou m) (nI i) sc oc ne (nI n) ca nc on yp yu ye st yl yr al ap cb cn ac eu ea eb sU sL sK sE sG sO kx ky kd pl rl cm hv ba ad ex cy tc ss av cs bi ou m' z) (B := fun j => sL j = sL i ∧ ¬ sL i = 0 ∧ sU j = sU i) (i + 1) n (by omega) ?_ ?_
    · intro m' nb
      exact br_t (nI_le (Nat.le_refl n) (by omega)) (nm_r (nI_1 i) (go (by rintro ⟨j, hj, hjn, e⟩; exact nb j (by omega) hjn e)))
    · intro m' j hj hjn go'
      have vj : vp_in (nI j) 64 := vp_in_nI (by omega) (by decide)
      refine br_f (nI_ge hjn (by omega)) ⟨vi, vj, ?_⟩
      rw [nI_clamp (n := i) (by omega), nI_clamp (n := j) (by omega)]
      refine br_c (fun z => ⟨vi, br_c (fun w => nm_r (nI_1 j) (go' fun q => q.2.1 ?_)) (fun w => ⟨vi, vj, br_c (fun y => h1 (Or.inl ⟨j, i, by omega, hjn, y.symm, ?_, z.symm⟩)) (fun y => nm_r (nI_1 j) (go' fun q => y q.1.symm))⟩)⟩) (fun z => nm_r (nI_1 j) (go' fun q => z q.2.2.symm))
      · rw [l1] at w ⊢
        have : fa_N sL i < 1 := (nI_ltI (b := 1) (by omega) (by decide)).mp w
        have e0 : fa_N sL i = 0 := by omega
        rw [e0]
        rfl
      · intro q
        rw [← y] at q
        rw [q] at w
        exact w (by decide)
theorem cy_wc (hn : n ≤ 64) (S : fs_S n sU sL sK sE sG sO f) (hP : ∀ u, u < 4 → fa_R 4 (ap u)) (h1 : gd_WC n ap sK sE → post 1) (h0 : ¬ gd_WC n ap sK sE → post 0) : wpY_callBad post (sc, oc, ne, nI n, ca, nc, on, yp, yu, ye, st, yl, yr, al, ap, cb, cn, ac, eu, ea, eb, sU, sL, sK, sE, sG, sO, kx, ky, kd, pl, rl, cm, hv, ba, ad, ex, cy, tc, ss, av, cs, bi, ou) := by
  refine lb_from (W := fun m z => wY_callBad_2 post sc oc ne (nI n) ca nc on yp yu ye st yl yr al ap cb cn ac eu ea eb sU sL sK sE sG sO kx ky kd pl rl cm hv ba ad ex cy tc ss av cs bi ou m z) (B := fun s => sK s = 5 ∧ ¬ fa_N sE s / 4 = fa_N ap (fa_N sE s % 4)) 0 n (by omega) ?_ ?_
  · intro m nb
    refine br_t (nI_le (Nat.le_refl n) (by omega)) (h0 ?_)
    rintro ⟨s, hs, a⟩
    exact nb s (by omega) hs a
  · intro m s _ hs go
    obtain ⟨_, ⟨e1, e2, e3⟩, _⟩ := ha_V (S s hs)
    obtain ⟨q1, q2⟩ := fa_Rn (hP (fa_N sE s % 4) (by omega)) (by decide)
    have vs : vp_in (nI s) 64 := vp_in_nI (by omega) (by decide)
    refine br_f (nI_ge hs (by omega)) ⟨vs, ?_⟩
    rw [nI_clamp (n := s) (by omega)]
    refine br_c (fun z => ?_) (fun z => nm_r (nI_1 s) (go fun q => z q.1))
    rw [e1, ha_r4 (by omega), ha_d4 (by omega), nI_clamp (n := fa_N sE s % 4) (by omega), q1]
    exact ⟨vs, by decide, vs, by decide, vp_in_nI (by omega) (by decide), pk_eq (fa_N sE s / 4) (fa_N ap (fa_N sE s % 4)) (fun w => nm_r (nI_1 s) (go fun q => q.2 w)) (fun w => h1 ⟨s, hs, z, w⟩)⟩
end HYC
