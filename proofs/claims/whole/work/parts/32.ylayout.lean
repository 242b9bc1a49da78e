section HYL
/-! the reference's layout -/
variable {sc oc ne ns ca on st ra xu xn xe xd nc yp yu ye yl yr : Int32} {al ap ac en eu ea eb sU sL sK sE sG sO gr po ec cx ou tc ss av cs cb cn kx ky kd pl rl cm hv ba ad ex cy bi : Nat → Int32}
variable {n : Nat}
theorem dl_off {post : Int32 → Prop} {u e : Nat} (D : fs_D al ap ac en cb cn eu ea eb n) (hu : u < 4) (he : e < 8) (h : post (nI (gd_off (fa_N al) (fa_N cb) (fa_N cn) u (fa_N cb (u * 8 + e)) e))) : wpY_offsetOf post (sc, oc, ne, ns, ca, nc, on, yp, yu, ye, st, yl, yr, al, ap, cb, cn, ac, eu, ea, eb, sU, sL, sK, sE, sG, sO, kx, ky, kd, pl, rl, cm, hv, ba, ad, ex, cy, tc, ss, av, cs, bi, ou) (nI u) (nI e) := by
  obtain ⟨⟨b1, b2⟩, _⟩ := cn_I D (i := u * 8 + e) (by omega)
  unfold wpY_offsetOf
  dsimp only
  rw [ha_us, nI_clamp (n := u * 8 + e) (by omega)]
  refine ⟨vp_in_nI (by omega) (by decide), nm_r b1 ?_⟩
  have key : ∀ d f, f + d = e → wY_offsetOf_18 post (nI u) (nI e) (nI (fa_N cb (u * 8 + e))) sc oc ne ns ca nc on yp yu ye st yl yr al ap cb cn ac eu ea eb sU sL sK sE sG sO kx ky kd pl rl cm hv ba ad ex cy tc ss av cs bi ou (d + 1) (nI (gd_off (fa_N al) (fa_N cb) (fa_N cn) u (fa_N cb (u * 8 + e)) f)) (nI f) := by
    intro d
    induction d with
    | zero =>
      intro f hf
      have e' : f = e := by omega
      subst e'
      exact br_t (nI_le (Nat.le_refl f) (by omega)) h
    | succ d ih =>
      intro f hf
      obtain ⟨⟨i1, i2⟩, ⟨i3, i4⟩, _⟩ := cn_I D (i := u * 8 + f) (by omega)
      have l16 := cn_A D (k := u * 8 + fa_N cn (u * 8 + f)) (by omega)
      have offS : gd_off (fa_N al) (fa_N cb) (fa_N cn) u (fa_N cb (u * 8 + e)) (f + 1) = gd_off (fa_N al) (fa_N cb) (fa_N cn) u (fa_N cb (u * 8 + e)) f + (if fa_N cb (u * 8 + f) = fa_N cb (u * 8 + e) then fa_N al (u * 8 + fa_N cn (u * 8 + f)) else 0) := rfl
      have go := ih (f + 1) (by omega)
      refine br_f (nI_ge (by omega) (by omega)) ?_
      rw [ha_us (u := u) (n := f), nI_clamp (n := u * 8 + f) (by omega), i1, i3]
      refine ⟨vp_in_nI (by omega) (by decide), pk_eq (fa_N cb (u * 8 + f)) (fa_N cb (u * 8 + e)) (fun z => ⟨vp_in_nI (by omega) (by decide), ?_⟩) (fun z => nm_r (nI_1 f) ?_)⟩
      · rw [ha_us (u := u) (n := fa_N cn (u * 8 + f)), nI_clamp (n := u * 8 + fa_N cn (u * 8 + f)) (by omega), l16.1]
        rw [if_pos z] at offS
        rw [offS] at go
        exact ⟨vp_in_nI (by omega) (by decide), nm_r (nI_add _ _) (nm_r (nI_1 f) go)⟩
      · rw [if_neg z] at offS
        rw [offS] at go
        exact go
  exact ⟨e + 1, key e 0 (by omega)⟩
/-- the list so far -/
def dl_I (T : ga_T) (M m : Nat) (kx ky kd : Nat → Int32) : Prop := m ≤ M ∧ (∀ c, c < m → fa_R 36 (kx c) ∧ fa_R 36 (ky c)) ∧ (∀ x y d, ga_C (fa_N kx) (fa_N ky) kd m x y d ↔ T x y d)
theorem dl_add {T T' : ga_T} {M m x0 y0 : Nat} {d0 : Int32} {kx ky kd : Nat → Int32} (H : dl_I T M m kx ky kd) (hx : x0 < 36) (hy : y0 < 36) (hT : ∀ x y d, T' x y d ↔ (T x y d ∨ (x = x0 ∧ y = y0 ∧ d = d0))) : dl_I T' (M + 1) (m + 1) (upd kx m (nI x0)) (upd ky m (nI y0)) (upd kd m d0) := by
  obtain ⟨h1, h2, h3⟩ := H
  refine ⟨by omega, fun c hc => ?_, fun x y d => ?_⟩
  · by_cases e : c = m
    · subst e
      rw [pk_us, pk_us]
      exact ⟨⟨x0, hx, rfl⟩, ⟨y0, hy, rfl⟩⟩
    · rw [pk_un e, pk_un e]
      exact h2 c (by omega)
  · rw [ge_snoc hx hy, h3, hT]
theorem dl_same {T T' : ga_T} {M m : Nat} {kx ky kd : Nat → Int32} (H : dl_I T M m kx ky kd) (hT : ∀ x y d, T' x y d ↔ T x y d) : dl_I T' (M + 1) m kx ky kd :=
  ⟨by have := H.1; omega, H.2.1, fun x y d => by rw [H.2.2, hT]⟩
theorem dl_110 {post : Int32 → SY → Prop} (D : fs_D al ap ac en cb cn eu ea eb n)
    (h : ∀ (m : Nat) (kx ky kd : Nat → Int32), dl_I (gd_CS (fa_N al) (fa_N ac) (fa_N cb) (fa_N cn) n (fa_N eu) (fa_N ea) (fa_N eb)) 48 m kx ky kd → ∃ q, wY_layout_235 post sc oc (nI n) ns ca (nI m) on yp yu ye st yl yr q 0 al ap cb cn ac eu ea eb sU sL sK sE sG sO kx ky kd pl rl cm hv ba ad ex cy tc ss av cs bi ou) :
    ∀ d e, e + d = n → ∀ (m : Nat) (kx ky kd : Nat → Int32), dl_I (ge_SF (fa_N al) (fa_N ac) (fa_N cb) (fa_N cn) (fa_N eu) (fa_N ea) (fa_N eb) e) (32 + e) m kx ky kd → wY_layout_110 post sc oc (nI n) ns ca on yp yu ye st yl yr (d + 1) (nI e) (nI m) al ap cb cn ac eu ea eb sU sL sK sE sG sO kx ky kd pl rl cm hv ba ad ex cy tc ss av cs bi ou := by
  have n16 := D.2.2.2.2.2.1
  have W := fs_wd D
  intro d
  induction d with
  | zero =>
    intro e he m kx ky kd H
    have e' : e = n := by omega
    subst e'
    refine br_t (nI_le (Nat.le_refl e) (by omega)) (h m kx ky kd ⟨by have := H.1; omega, H.2.1, fun x y d => ?_⟩)
    rw [H.2.2, ge_cs W.2.2.1]
  | succ d ih =>
    intro e he m kx ky kd H
    obtain ⟨⟨q1, q2⟩, ⟨q3, q4, q5⟩, q6, q7, q8⟩ := cn_E D (e := e) (by omega)
    have ve : vp_in (nI e) 16 := vp_in_nI (by omega) (by decide)
    have m1 := fb_nm8 (Or.inl q4)
    have m2 := fb_nm8 (Or.inl q7)
    have mm := H.1
    have vm : vp_in (nI m) 48 := vp_in_nI (by omega) (by decide)
    refine br_f (nI_ge (by omega) (by omega)) ⟨ve, ?_⟩
    rw [nI_clamp (n := e) (by omega), q1, q3, q6]
    refine nm_e ⟨ve, ?_⟩
    refine hy_nameOf (by omega) ⟨ve, ?_⟩
    refine hy_nameOf (by omega) ⟨ve, ?_⟩
    refine hy_idxOf (by omega) ⟨ve, ?_⟩
    refine hy_idxOf (by omega) ⟨vm, ?_⟩
    rw [nI_clamp (n := m) (by omega), ha_us, ha_us]
    exact nm_e ⟨vm, nm_e ⟨vm, nm_e (nm_r (nI_1 m) (nm_r (nI_1 e) (ih (e + 1) (by omega) (m + 1) _ _ _ (dl_add H (by omega) (by omega) (fun x y d => ge_sfe)))))⟩⟩
theorem dl_7 {post : Int32 → SY → Prop} (D : fs_D al ap ac en cb cn eu ea eb n)
    (h : ∀ (m : Nat) (kx ky kd : Nat → Int32), dl_I (gd_CS (fa_N al) (fa_N ac) (fa_N cb) (fa_N cn) n (fa_N eu) (fa_N ea) (fa_N eb)) 48 m kx ky kd → ∃ q, wY_layout_235 post sc oc (nI n) ns ca (nI m) on yp yu ye st yl yr q 0 al ap cb cn ac eu ea eb sU sL sK sE sG sO kx ky kd pl rl cm hv ba ad ex cy tc ss av cs bi ou) :
    ∀ d k, k + d = 32 → ∀ (m : Nat) (kx ky kd : Nat → Int32), dl_I (ge_SY (fa_N al) (fa_N ac) (fa_N cb) (fa_N cn) k) k m kx ky kd → wY_layout_7 post sc oc (nI n) ns ca on yp yu ye st yl yr (d + 1) (nI k) (nI m) al ap cb cn ac eu ea eb sU sL sK sE sG sO kx ky kd pl rl cm hv ba ad ex cy tc ss av cs bi ou := by
  have W := fs_wd D
  intro d
  induction d with
  | zero =>
    intro k hk m kx ky kd H
    have e : k = 32 := by omega
    subst e
    exact br_t (by decide) ⟨n + 1, dl_110 D h n 0 (by omega) m kx ky kd ⟨H.1, H.2.1, fun x y d => by rw [H.2.2, ge_sf0]⟩⟩
  | succ d ih =>
    intro k hk m kx ky kd H
    obtain ⟨c1, c2⟩ := cn_C D (u := k / 8) (by omega)
    obtain ⟨⟨i1, i2⟩, ⟨i3, i4⟩, _⟩ := cn_I D (i := k) (by omega)
    have v8 : vp_in (nI (k / 8)) 4 := vp_in_nI (by omega) (by decide)
    have vk : vp_in (nI k) 32 := vp_in_nI (by omega) (by decide)
    have mm := H.1
    have vm : vp_in (nI m) 48 := vp_in_nI (by omega) (by decide)
    refine br_f (nI_ge (b := 32) (by omega) (by decide)) ⟨by decide, by decide, ?_⟩
    rw [ha_r8 (by omega), ha_d8 (by omega), nI_clamp (n := k / 8) (by omega), c1]
    refine ⟨v8, pk_le (fa_N ac (k / 8)) (k % 8) (fun z => nm_r (nI_1 k) (ih (k + 1) (by omega) m kx ky kd (dl_same H (fun x y d => ge_syNo W.2.2.1 (by omega))))) (fun z => ⟨by decide, nm_e ⟨by decide, ?_⟩⟩)⟩
    refine dl_off D (by omega) (by omega) ⟨vk, vm, ?_⟩
    have ek : k / 8 * 8 + k % 8 = k := by omega
    rw [ek, nI_clamp (n := k) (by omega), nI_clamp (n := m) (by omega), i3, i1, ha_us, ha_32]
    exact nm_e ⟨vk, vm, nm_e ⟨vm, nm_e (nm_r (nI_1 m) (nm_r (nI_1 k) (ih (k + 1) (by omega) (m + 1) _ _ _ (dl_add H (by omega) (by omega) (fun x y d => ge_syYes W.2.2.1 (by omega) z)))))⟩⟩
/-- one constraint applied -/
theorem dl_ap {post : Int32 → SY → Prop} {m r c : Nat} {E : Nat → Prop} {p0 c0 r0 : Nat → Int32} (hm48 : m ≤ 48) (hR : ∀ c, c < m → fa_R 36 (kx c) ∧ fa_R 36 (ky c)) (hd : ∀ c, c < m → -128 ≤ (kd c).toInt ∧ (kd c).toInt ≤ 128) (hc : c < m)
    (H : gf_In (fa_N kx) (fa_N ky) kd m r E c p0 c0 r0 pl cm rl)
    (h1 : ∀ pl cm rl : Nat → Int32, gf_In (fa_N kx) (fa_N ky) kd m r E (c + 1) p0 c0 r0 pl cm rl → post 1 (sc, oc, ne, ns, ca, nc, on, yp, yu, ye, st, yl, yr, al, ap, cb, cn, ac, eu, ea, eb, sU, sL, sK, sE, sG, sO, kx, ky, kd, pl, rl, cm, hv, ba, ad, ex, cy, tc, ss, av, cs, bi, ou)) (h0 : (¬ ∃ p, ga_Sol (ga_C (fa_N kx) (fa_N ky) kd m) p) → post 0 (sc, oc, ne, ns, ca, nc, on, yp, yu, ye, st, yl, yr, al, ap, cb, cn, ac, eu, ea, eb, sU, sL, sK, sE, sG, sO, kx, ky, kd, pl, rl, cm, hv, ba, ad, ex, cy, tc, ss, av, cs, bi, ou)) : wpY_apply post (sc, oc, ne, ns, ca, nc, on, yp, yu, ye, st, yl, yr, al, ap, cb, cn, ac, eu, ea, eb, sU, sL, sK, sE, sG, sO, kx, ky, kd, pl, rl, cm, hv, ba, ad, ex, cy, tc, ss, av, cs, bi, ou) (nI c) := by
  have hm : ∀ c, c < m → fa_N kx c < 36 ∧ fa_N ky c < 36 := fun c hc => ⟨(fa_Rn (hR c hc).1 (by decide)).2, (fa_Rn (hR c hc).2 (by decide)).2⟩
  have ex1 := (fa_Rn (hR c hc).1 (by decide)).1
  have ey1 := (fa_Rn (hR c hc).2 (by decide)).1
  obtain ⟨x36, y36⟩ := hm c hc
  have vc : vp_in (nI c) 48 := vp_in_nI (by omega) (by decide)
  have vx : vp_in (nI (fa_N kx c)) 36 := vp_in_nI x36 (by decide)
  have vy : vp_in (nI (fa_N ky c)) 36 := vp_in_nI y36 (by decide)
  have nb1 : vp_nar .boolean 1 = 1 := by decide
  unfold wpY_apply
  dsimp only
  rw [nI_clamp (n := c) (by omega), ex1, ey1]
  refine ⟨vc, nm_e ⟨vc, nm_e ⟨vc, nm_e ⟨vx, ?_⟩⟩⟩⟩
  rw [nI_clamp (n := fa_N kx c) (by omega), nI_clamp (n := fa_N ky c) (by omega)]
  have A79 : ¬ (pl (fa_N kx c) ≠ 0 ∧ pl (fa_N ky c) ≠ 0) → wY_apply_79 post (nI (fa_N kx c)) (nI (fa_N ky c)) (kd c) sc oc ne ns ca nc on yp yu ye st yl yr al ap cb cn ac eu ea eb sU sL sK sE sG sO kx ky kd pl rl cm hv ba ad ex cy tc ss av cs bi ou := by
    intro nn
    unfold wY_apply_79
    rw [nI_clamp (n := fa_N kx c) (by omega), nI_clamp (n := fa_N ky c) (by omega), nb1]
    refine ⟨vx, br_c (fun px => ⟨vy, br_c (fun py => h1 _ _ _ (gf_none H px py)) (fun py => ⟨vx, nm_e ⟨vy, vx, nm_e ⟨vy, vx, nm_e (h1 _ _ _ (gf_yx H hm hc (hd c hc) px py))⟩⟩⟩)⟩) (fun px => ⟨vy, nm_e ⟨vx, vy, nm_e ⟨vx, vy, nm_e (h1 _ _ _ (gf_xy H hm hc (hd c hc) px ?_))⟩⟩⟩)⟩
    exact Classical.byContradiction fun q => nn ⟨px, q⟩
  refine br_c (fun px => A79 (fun q => q.1 px)) (fun px => ⟨vy, br_c (fun py => A79 (fun q => q.2 py)) (fun py => ⟨vx, vy, br_c (fun z => ⟨vx, vy, br_c (fun w => h1 _ _ _ (gf_both H hm hc px py w)) (fun w => h0 (ga_iyBad H.1 hm hc px py w))⟩) (fun z => absurd (ga_iyOne H.1 hm hc px py) z)⟩)⟩)
theorem dl_sp {post : Int32 → SY → Prop} {m r : Nat} {E : Nat → Prop} {q0 : Nat → Int32} (hm48 : m ≤ 48) (hR : ∀ c, c < m → fa_R 36 (kx c) ∧ fa_R 36 (ky c)) (hd : ∀ c, c < m → -128 ≤ (kd c).toInt ∧ (kd c).toInt ≤ 128)
    (h1 : ∀ pl cm rl : Nat → Int32, gf_Ps (fa_N kx) (fa_N ky) kd m r E 40 q0 pl cm rl → post 1 (sc, oc, ne, ns, ca, nI m, on, yp, yu, ye, st, yl, yr, al, ap, cb, cn, ac, eu, ea, eb, sU, sL, sK, sE, sG, sO, kx, ky, kd, pl, rl, cm, hv, ba, ad, ex, cy, tc, ss, av, cs, bi, ou)) (h0 : (¬ ∃ p, ga_Sol (ga_C (fa_N kx) (fa_N ky) kd m) p) → ∀ pl cm rl : Nat → Int32, post 0 (sc, oc, ne, ns, ca, nI m, on, yp, yu, ye, st, yl, yr, al, ap, cb, cn, ac, eu, ea, eb, sU, sL, sK, sE, sG, sO, kx, ky, kd, pl, rl, cm, hv, ba, ad, ex, cy, tc, ss, av, cs, bi, ou)) :
    ∀ d j, j + d = 40 → ∀ pl cm rl : Nat → Int32, gf_Ps (fa_N kx) (fa_N ky) kd m r E j q0 pl cm rl → wY_spread_2 post (d + 1) (nI j) sc oc ne ns ca (nI m) on yp yu ye st yl yr al ap cb cn ac eu ea eb sU sL sK sE sG sO kx ky kd pl rl cm hv ba ad ex cy tc ss av cs bi ou := by
  intro d
  induction d with
  | zero =>
    intro j hj pl cm rl H
    have e : j = 40 := by omega
    subst e
    exact br_t (by decide) (h1 pl cm rl H)
  | succ d ih =>
    intro j hj pl cm rl H
    refine br_f (nI_ge (b := 40) (by omega) (by decide)) ?_
    have inner : ∀ d' c, c + d' = m → ∀ pl' cm' rl' : Nat → Int32, gf_In (fa_N kx) (fa_N ky) kd m r E c pl cm rl pl' cm' rl' → wY_spread_10 post (wY_spread_2 post (d + 1)) (nI j) (d' + 1) (nI c) sc oc ne ns ca (nI m) on yp yu ye st yl yr al ap cb cn ac eu ea eb sU sL sK sE sG sO kx ky kd pl' rl' cm' hv ba ad ex cy tc ss av cs bi ou := by
      intro d'
      induction d' with
      | zero =>
        intro c hc pl' cm' rl' H'
        have e : c = m := by omega
        subst e
        exact br_t (nI_le (Nat.le_refl c) (by omega)) (nm_r (nI_1 j) (ih (j + 1) (by omega) pl' cm' rl' (gf_pass H H')))
      | succ d' ih' =>
        intro c hc pl' cm' rl' H'
        refine br_f (nI_ge (by omega) (by omega)) ?_
        exact dl_ap hm48 hR hd (by omega) H' (fun pl2 cm2 rl2 H2 => br_f (by decide) (nm_r (nI_1 c) (ih' (c + 1) (by omega) pl2 cm2 rl2 H2))) (fun ns => br_t rfl (h0 ns pl' cm' rl'))
    exact ⟨m + 1, inner m 0 (by omega) pl cm rl (gf_in0 H.1)⟩
theorem dl_mono {fx fy : Nat → Nat} {Dd : Nat → Int32} {m r : Nat} {pl cm rl : Nat → Int32} (H : ga_IY fx fy Dd m r (fun z => pl z ≠ 0) pl cm rl) : ga_IY fx fy Dd m (r + 1) (fun z => pl z ≠ 0) pl cm rl := by
  obtain ⟨a1, a2, a3, a4, a5, a6, a7⟩ := H
  refine ⟨a1, fun z hz e => ⟨(a2 z hz e).1, ?_⟩, a3, fun z _ h1 h2 => absurd h1 h2, a5, a6, a7⟩
  obtain ⟨_, j, hj, ej⟩ := a2 z hz e
  exact ⟨j, by omega, ej⟩
theorem dl_256 {post : Int32 → SY → Prop} {m : Nat} (hm48 : m ≤ 48) (hR : ∀ c, c < m → fa_R 36 (kx c) ∧ fa_R 36 (ky c)) (hd : ∀ c, c < m → -128 ≤ (kd c).toInt ∧ (kd c).toInt ≤ 128)
    (h1 : ∀ pl cm rl : Nat → Int32, ga_IY (fa_N kx) (fa_N ky) kd m 36 (fun z => pl z ≠ 0) pl cm rl → (∀ z, z < 36 → pl z ≠ 0) → ∃ q, wY_layout_310 post sc oc ne ns ca (nI m) on yp yu ye st yl yr al ap cb cn ac eu ea eb sU sL sK sE sG sO kx ky kd pl rl cm hv ba ad ex cy tc ss av cs bi ou q 32) (h0 : (¬ ∃ p, ga_Sol (ga_C (fa_N kx) (fa_N ky) kd m) p) → ∀ pl cm rl : Nat → Int32, post 0 (sc, oc, ne, ns, ca, nI m, on, yp, yu, ye, st, yl, yr, al, ap, cb, cn, ac, eu, ea, eb, sU, sL, sK, sE, sG, sO, kx, ky, kd, pl, rl, cm, hv, ba, ad, ex, cy, tc, ss, av, cs, bi, ou)) :
    ∀ d r, r + d = 36 → ∀ pl cm rl : Nat → Int32, ga_IY (fa_N kx) (fa_N ky) kd m r (fun z => pl z ≠ 0) pl cm rl → (∀ z, z < r → pl z ≠ 0) → wY_layout_256 post (d + 1) (nI r) sc oc ne ns ca (nI m) on yp yu ye st yl yr al ap cb cn ac eu ea eb sU sL sK sE sG sO kx ky kd pl rl cm hv ba ad ex cy tc ss av cs bi ou := by
  have hm : ∀ c, c < m → fa_N kx c < 36 ∧ fa_N ky c < 36 := fun c hc => ⟨(fa_Rn (hR c hc).1 (by decide)).2, (fa_Rn (hR c hc).2 (by decide)).2⟩
  have nb1 : vp_nar .boolean 1 = 1 := by decide
  intro d
  induction d with
  | zero =>
    intro r hr pl cm rl H hp
    have e : r = 36 := by omega
    subst e
    exact br_t (by decide) (h1 pl cm rl H hp)
  | succ d ih =>
    intro r hr pl cm rl H hp
    have vr : vp_in (nI r) 36 := vp_in_nI (by omega) (by decide)
    refine br_f (nI_ge (b := 36) (by omega) (by decide)) ⟨vr, ?_⟩
    rw [nI_clamp (n := r) (by omega), nb1]
    refine br_c (fun z => ⟨vr, nm_e ⟨vr, nm_e ⟨vr, nm_e ?_⟩⟩⟩) (fun z => nm_r (nI_1 r) (ih (r + 1) (by omega) pl cm rl (dl_mono H) (fun x hx => ?_)))
    · have HR := ga_iyRoot H hm (by omega) z
      refine ⟨40 + 1, dl_sp (r := r) (E := fun z => pl z ≠ 0) (q0 := upd pl r 1) hm48 hR hd (fun pl' cm' rl' H' => br_f (by decide) (nm_r (nI_1 r) (ih (r + 1) (by omega) pl' cm' rl' (ga_iyDone H'.1 (gf_end H')) (fun x hx => H'.2.1 x ?_)))) (fun ns pl' cm' rl' => br_t rfl (h0 ns pl' cm' rl')) 40 0 rfl _ _ _ ⟨HR, fun _ q => q, Or.inr (Nat.zero_le _)⟩⟩
      by_cases e : x = r
      · rw [e, pk_us]; decide
      · rw [pk_un e]; exact hp x (by omega)
    · by_cases e : x = r
      · rw [e]; exact z
      · exact hp x (by omega)
theorem dl_235 {post : Int32 → SY → Prop} (h : ∀ pl : Nat → Int32, (∀ z, z < 36 → pl z = 0) → ∃ q, wY_layout_256 post q 0 sc oc ne ns ca nc on yp yu ye st yl yr al ap cb cn ac eu ea eb sU sL sK sE sG sO kx ky kd pl rl cm hv ba ad ex cy tc ss av cs bi ou) : ∀ d i, i + d = 36 → ∀ pl : Nat → Int32, (∀ z, z < i → pl z = 0) → wY_layout_235 post sc oc ne ns ca nc on yp yu ye st yl yr (d + 1) (nI i) al ap cb cn ac eu ea eb sU sL sK sE sG sO kx ky kd pl rl cm hv ba ad ex cy tc ss av cs bi ou := by
  have nb0 : vp_nar .boolean 0 = 0 := by decide
  intro d
  induction d with
  | zero =>
    intro i hi pl hp
    have e : i = 36 := by omega
    subst e
    exact br_t (by decide) (h pl hp)
  | succ d ih =>
    intro i hi pl hp
    refine br_f (nI_ge (b := 36) (by omega) (by decide)) ⟨vp_in_nI (by omega) (by decide), ?_⟩
    rw [nI_clamp (n := i) (by omega), nb0]
    refine nm_e (nm_r (nI_1 i) (ih (i + 1) (by omega) _ (fun x hx => ?_)))
    by_cases e : x = i
    · subst e; exact pk_us
    · rw [pk_un e]; exact hp x (by omega)
def gd_JY (cm : Nat → Int32) : Prop := ∃ b c, 32 ≤ b ∧ b < c ∧ c < 36 ∧ cm b = cm c
theorem dl_310 {post : Int32 → SY → Prop} (h1 : ¬ gd_JY cm → post 1 (sc, oc, ne, ns, ca, nc, on, yp, yu, ye, st, yl, yr, al, ap, cb, cn, ac, eu, ea, eb, sU, sL, sK, sE, sG, sO, kx, ky, kd, pl, rl, cm, hv, ba, ad, ex, cy, tc, ss, av, cs, bi, ou)) (h0 : gd_JY cm → post 0 (sc, oc, ne, ns, ca, nc, on, yp, yu, ye, st, yl, yr, al, ap, cb, cn, ac, eu, ea, eb, sU, sL, sK, sE, sG, sO, kx, ky, kd, pl, rl, cm, hv, ba, ad, ex, cy, tc, ss, av, cs, bi, ou)) : ∃ q, wY_layout_310 post sc oc ne ns ca nc on yp yu ye st yl yr al ap cb cn ac eu ea eb sU sL sK sE sG sO kx ky kd pl rl cm hv ba ad ex cy tc ss av cs bi ou q 32 := by
  refine lb_from (W := fun m z => wY_layout_310 post sc oc ne ns ca nc on yp yu ye st yl yr al ap cb cn ac eu ea eb sU sL sK sE sG sO kx ky kd pl rl cm hv ba ad ex cy tc ss av cs bi ou m z) (B := fun b => ∃ c, b < c ∧ c < 36 ∧ cm b = cm c) 32 36 (by decide) ?_ ?_
  · intro m nb
    refine br_t (by decide) (h1 ?_)
    rintro ⟨b, c, b1, bc, c2, e⟩
    exact nb b b1 (by omega) ⟨c, bc, c2, e⟩
  · intro m b b1 b2 go
    have vb : vp_in (nI b) 36 := vp_in_nI b2 (by decide)
    refine br_f (nI_ge (b := 36) b2 (by decide)) (nm_r (nI_1 b) ?_)
    refine lb_from (W := fun m' z => wY_layout_320 post (wY_layout_310 post sc oc ne ns ca nc on yp yu ye st yl yr al ap cb cn ac eu ea eb sU sL sK sE sG sO kx ky kd pl rl cm hv ba ad ex cy tc ss av cs bi ou m) (nI b) sc oc ne ns ca nc on yp yu ye st yl yr al ap cb cn ac eu ea eb sU sL sK sE sG sO kx ky kd pl rl cm hv ba ad ex cy tc ss av cs bi ou m' z) (B := fun c => cm b = cm c) (b + 1) 36 (by omega) ?_ ?_
    · intro m' nb
      exact br_t (by decide) (nm_r (nI_1 b) (go (by rintro ⟨c, hc, c2, e⟩; exact nb c (by omega) c2 e)))
    · intro m' c c1 c2 go'
      refine br_f (nI_ge (b := 36) c2 (by decide)) ?_
      rw [nI_clamp (n := b) (by omega), nI_clamp (n := c) (by omega)]
      exact ⟨vb, vp_in_nI c2 (by decide), br_c (fun z => h0 ⟨b, c, b1, by omega, c2, z⟩) (fun z => nm_r (nI_1 c) (go' z))⟩
theorem dl_layout {post : Int32 → SY → Prop} (D : fs_D al ap ac en cb cn eu ea eb n)
    (h0 : (¬ ∃ p, ga_Sol (gd_CS (fa_N al) (fa_N ac) (fa_N cb) (fa_N cn) n (fa_N eu) (fa_N ea) (fa_N eb)) p) → ∀ (nc : Int32) (kx ky kd pl cm rl : Nat → Int32), post 0 (sc, oc, nI n, ns, ca, nc, on, yp, yu, ye, st, yl, yr, al, ap, cb, cn, ac, eu, ea, eb, sU, sL, sK, sE, sG, sO, kx, ky, kd, pl, rl, cm, hv, ba, ad, ex, cy, tc, ss, av, cs, bi, ou))
    (h1 : ∀ (m : Nat) (kx ky kd pl cm rl : Nat → Int32), ga_C (fa_N kx) (fa_N ky) kd m = gd_CS (fa_N al) (fa_N ac) (fa_N cb) (fa_N cn) n (fa_N eu) (fa_N ea) (fa_N eb) → (∀ c, c < m → fa_N kx c < 36 ∧ fa_N ky c < 36) → ga_IY (fa_N kx) (fa_N ky) kd m 36 (fun z => pl z ≠ 0) pl cm rl → (∀ z, z < 36 → pl z ≠ 0) → (¬ gd_JY cm → post 1 (sc, oc, nI n, ns, ca, nI m, on, yp, yu, ye, st, yl, yr, al, ap, cb, cn, ac, eu, ea, eb, sU, sL, sK, sE, sG, sO, kx, ky, kd, pl, rl, cm, hv, ba, ad, ex, cy, tc, ss, av, cs, bi, ou)) ∧ (gd_JY cm → post 0 (sc, oc, nI n, ns, ca, nI m, on, yp, yu, ye, st, yl, yr, al, ap, cb, cn, ac, eu, ea, eb, sU, sL, sK, sE, sG, sO, kx, ky, kd, pl, rl, cm, hv, ba, ad, ex, cy, tc, ss, av, cs, bi, ou))) : wpY_layout post (sc, oc, nI n, ns, ca, nc, on, yp, yu, ye, st, yl, yr, al, ap, cb, cn, ac, eu, ea, eb, sU, sL, sK, sE, sG, sO, kx, ky, kd, pl, rl, cm, hv, ba, ad, ex, cy, tc, ss, av, cs, bi, ou) := by
  have W := fs_wd D
  refine ⟨32 + 1, dl_7 D (fun m kx ky kd H => ?_) 32 0 rfl 0 kx ky kd ⟨Nat.le_refl 0, fun c hc => absurd hc (Nat.not_lt_zero c), fun x y d => ⟨fun ⟨c, hc, _⟩ => absurd hc (Nat.not_lt_zero c), fun z => absurd z ge_sy0⟩⟩⟩
  obtain ⟨m48, hR, hT⟩ := H
  have eT : ga_C (fa_N kx) (fa_N ky) kd m = gd_CS (fa_N al) (fa_N ac) (fa_N cb) (fa_N cn) n (fa_N eu) (fa_N ea) (fa_N eb) := by
    funext x y d
    exact propext (hT x y d)
  have hm : ∀ c, c < m → fa_N kx c < 36 ∧ fa_N ky c < 36 := fun c hc => ⟨(fa_Rn (hR c hc).1 (by decide)).2, (fa_Rn (hR c hc).2 (by decide)).2⟩
  have hd : ∀ c, c < m → -128 ≤ (kd c).toInt ∧ (kd c).toInt ≤ 128 := fun c hc => (gd_cs36 W ((hT _ _ _).mp ⟨c, hc, rfl, rfl, rfl⟩)).2.2
  refine ⟨36 + 1, dl_235 (fun pl hp => ⟨36 + 1, dl_256 m48 hR hd (fun pl cm rl H hpl => dl_310 (h1 m kx ky kd pl cm rl eT hm H hpl).1 (h1 m kx ky kd pl cm rl eT hm H hpl).2) (fun ns pl cm rl => h0 (by rw [← eT]; exact ns) (nI m) kx ky kd pl cm rl) 36 0 rfl pl cm rl (ga_iy0 hm hp) (fun z hz => absurd hz (Nat.not_lt_zero z))⟩) 36 0 rfl pl (fun z hz => absurd hz (Nat.not_lt_zero z))⟩
end HYL
