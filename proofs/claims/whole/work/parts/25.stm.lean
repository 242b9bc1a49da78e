section HS2
/-! statement and operand -/
variable {sc oc ne ns ca on st ra xu xn xe xd nc yp yu ye yl yr : Int32} {al ap ac en eu ea eb sU sL sK sE sG sO gr po ec cx ou tc ss av cs cb cn kx ky kd pl rl cm hv ba ad ex cy bi : Nat → Int32}
variable {p0 p1 p2 p3 : Int32} {u m l b n : Nat} {f : Prop}
theorem vs_pend5 (S : fs_S n sU sL sK sE sG sO f) : fb_pend n sK sE sG ≤ 5 := by
  unfold fb_pend
  split
  · omega
  · obtain ⟨_, ⟨_, c2, _⟩, _⟩ := ha_V (S (n - 1) (by omega))
    have := fb_need5 c2
    omega
theorem vx_stm1 {P : Int32 → SX → Prop} {scn : Nat} (S : fs_S n sU sL sK sE sG sO f) (hp : fb_pend n sK sE sG = 0) (hsc : sc = nI scn) (h64 : scn ≤ 64) (hn : n < scn) (hu : fa_R 4 p0) (hl : fa_R 100 p1) (hx : fa_X p2 p3)
    (h : P 1 (sc, oc, ne, nI (n + 1), 0, on, st, ra, xu, xn, xe, xd, al, ap, ac, en, eu, ea, eb, upd sU n p0, upd sL n p1, upd sK n p2, upd sE n p3, upd sG n 0, sO, gr, po, ec, cx, ou, tc, ss, av, cs)) : wpX_statement P (sc, oc, ne, nI n, 0, on, st, ra, xu, xn, xe, xd, al, ap, ac, en, eu, ea, eb, sU, sL, sK, sE, sG, sO, gr, po, ec, cx, ou, tc, ss, av, cs) p0 p1 p2 p3 := by
  have vn : vp_in (nI n) 64 := vp_in_nI (by omega) (by decide)
  unfold wpX_statement
  dsimp only
  refine hx_isFrozen (fun z => absurd rfl z) (fun _ => br_t rfl ?_)
  refine hx_await (by omega) S ?_
  rw [hp]
  refine br_f (by decide) (br_t (by rw [hsc]; exact nI_lt hn (by omega)) ?_)
  refine hx_isUnit (fun _ => br_f (by decide) ?_) (fun z => absurd hu z)
  obtain ⟨l, hl1, rfl⟩ := hl
  refine br_f (nI_pos (by omega)) (br_f (nI_nlt (a := 99) (by omega) (by decide)) ?_)
  refine hx_isExtra (fun _ => br_f (by decide) ?_) (fun z => absurd hx z)
  rw [nI_clamp (n := n) (by omega), nI_1]
  exact ⟨vn, nm_e ⟨vn, nm_e ⟨vn, nm_e ⟨vn, nm_e ⟨vn, nm_e (nm_e h)⟩⟩⟩⟩⟩
theorem vx_stm0 {P : Int32 → SX → Prop} (hn : n ≤ 64) (S : fs_S n sU sL sK sE sG sO f) (c : ¬ (ca = 0 ∧ fb_pend n sK sE sG = 0 ∧ nI n < sc ∧ fa_R 4 p0 ∧ fa_R 100 p1 ∧ fa_X p2 p3)) (h : P 0 (sc, oc, ne, nI n, ca, on, st, ra, xu, xn, xe, xd, al, ap, ac, en, eu, ea, eb, sU, sL, sK, sE, sG, sO, gr, po, ec, cx, ou, tc, ss, av, cs)) : wpX_statement P (sc, oc, ne, nI n, ca, on, st, ra, xu, xn, xe, xd, al, ap, ac, en, eu, ea, eb, sU, sL, sK, sE, sG, sO, gr, po, ec, cx, ou, tc, ss, av, cs) p0 p1 p2 p3 := by
  have p5 := vs_pend5 S
  unfold wpX_statement
  dsimp only
  refine hx_isFrozen (fun z => br_f (by decide) h) (fun c0 => br_t rfl ?_)
  refine hx_await hn S ?_
  refine pk_lt 0 (fb_pend n sK sE sG) (fun _ => h) (fun z => br_c (fun z1 => ?_) (fun _ => h))
  refine hx_isUnit (fun cu => br_f (by decide) ?_) (fun z => br_t rfl h)
  refine br_c (fun _ => h) (fun z2 => br_c (fun _ => h) (fun z3 => ?_))
  refine hx_isExtra (fun cx => ?_) (fun z => br_t rfl h)
  exact absurd ⟨c0, by omega, z1, cu, ha_mid' (m := 99) (by decide) z2 z3, cx⟩ c
theorem vy_stm1 {P : Int32 → SY → Prop} {scn : Nat} (S : fs_S n sU sL sK sE sG sO f) (hp : fb_pend n sK sE sG = 0) (hsc : sc = nI scn) (h64 : scn ≤ 64) (hn : n < scn) (hu : fa_R 4 p0) (hl : fa_R 100 p1) (hx : fa_X p2 p3)
    (h : P 1 (sc, oc, ne, nI (n + 1), 0, nc, on, yp, yu, ye, st, yl, yr, al, ap, cb, cn, ac, eu, ea, eb, upd sU n p0, upd sL n p1, upd sK n p2, upd sE n p3, upd sG n 0, sO, kx, ky, kd, pl, rl, cm, hv, ba, ad, ex, cy, tc, ss, av, cs, bi, ou)) : wpY_statement P (sc, oc, ne, nI n, 0, nc, on, yp, yu, ye, st, yl, yr, al, ap, cb, cn, ac, eu, ea, eb, sU, sL, sK, sE, sG, sO, kx, ky, kd, pl, rl, cm, hv, ba, ad, ex, cy, tc, ss, av, cs, bi, ou) p0 p1 p2 p3 := by
  have vn : vp_in (nI n) 64 := vp_in_nI (by omega) (by decide)
  obtain ⟨u, hu4, rfl⟩ := hu
  obtain ⟨l, hl1, rfl⟩ := hl
  have hx' := hx
  obtain ⟨k, e, k1, k9, rfl, rfl, e16, xo⟩ := hx
  refine br_t rfl (br_f (nI_pos (by omega)) (br_f (nI_nlt (a := 3) (by omega) (by decide)) (br_f (nI_pos (by omega)) (br_f (nI_nlt (a := 99) (by omega) (by decide)) (br_f (nI_nlt (b := 1) k1 (by omega)) (br_t (nI_le (b := 9) k9 (by decide)) ?_))))))
  refine hy_extraOk k1 k9 (fun _ => br_f (by decide) ?_) (fun z => absurd hx' z)
  refine hy_pending (by omega) S ?_
  rw [hp]
  refine br_f (by decide) (br_t (by rw [hsc]; exact nI_lt hn (by omega)) ?_)
  rw [nI_clamp (n := n) (by omega), nI_1]
  exact ⟨vn, nm_e ⟨vn, nm_e ⟨vn, nm_e ⟨vn, nm_e ⟨vn, nm_e (nm_e h)⟩⟩⟩⟩⟩
theorem vy_stm0 {P : Int32 → SY → Prop} (hn : n ≤ 64) (S : fs_S n sU sL sK sE sG sO f) (c : ¬ (ca = 0 ∧ fb_pend n sK sE sG = 0 ∧ nI n < sc ∧ fa_R 4 p0 ∧ fa_R 100 p1 ∧ fa_X p2 p3)) (h : P 0 (sc, oc, ne, nI n, ca, nc, on, yp, yu, ye, st, yl, yr, al, ap, cb, cn, ac, eu, ea, eb, sU, sL, sK, sE, sG, sO, kx, ky, kd, pl, rl, cm, hv, ba, ad, ex, cy, tc, ss, av, cs, bi, ou)) : wpY_statement P (sc, oc, ne, nI n, ca, nc, on, yp, yu, ye, st, yl, yr, al, ap, cb, cn, ac, eu, ea, eb, sU, sL, sK, sE, sG, sO, kx, ky, kd, pl, rl, cm, hv, ba, ad, ex, cy, tc, ss, av, cs, bi, ou) p0 p1 p2 p3 := by
  have p5 := vs_pend5 S
  refine br_c (fun c0 => br_c (fun _ => h) (fun a => br_c (fun _ => h) (fun a' => br_c (fun _ => h) (fun b => br_c (fun _ => h) (fun b' => br_c (fun _ => h) (fun z => br_c (fun z' => ?_) (fun _ => h))))))) (fun _ => h)
  have n0 : ¬ p2 < 0 := fun q => z (Int32.lt_trans q (by decide))
  obtain ⟨k, hk, rfl⟩ := ha_le (m := 9) (by decide) n0 z'
  have k1 : 1 ≤ k := Nat.le_of_not_lt fun q => z (nI_lt (b := 1) q (by decide))
  refine hy_extraOk k1 (by omega) (fun cx => br_f (by decide) ?_) (fun _ => br_t rfl h)
  refine hy_pending hn S ?_
  refine pk_lt 0 (fb_pend n sK sE sG) (fun _ => h) (fun q => br_c (fun z1 => ?_) (fun _ => h))
  exact absurd ⟨c0, by omega, z1, ha_mid' (m := 3) (by decide) a a', ha_mid' (m := 99) (by decide) b b', cx⟩ c
/-- nothing is pending: every statement is complete -/
theorem vs_full (S : fs_S n sU sL sK sE sG sO f) (hp : fb_pend n sK sE sG = 0) : ∀ s, s < n → fs_V sU sL sK sE sG sO s True := by
  intro s hs
  have V := S s hs
  have key : fa_N sG s = fb_need (fa_N sK s) (fa_N sE s) := by
    obtain ⟨_, _, ⟨_, g2, _⟩, _, _, gf, _⟩ := ha_V V
    by_cases e : s + 1 < n
    · exact gf (Or.inl e)
    · have e2 : s = n - 1 := by omega
      unfold fb_pend at hp
      rw [if_neg (by omega), ← e2] at hp
      omega
  obtain ⟨u, l, k, e, g, a1, a2, a3, a4, a5, a6, a7, a8, a9, a10, a11, a12, a13⟩ := V
  have n5 := fb_need5 a9
  rw [fa_Re a10 (by omega), fa_Re a5 (by omega), fa_Re a8 (by unfold fb_xok at a9; omega)] at key
  exact ⟨u, l, k, e, g, a1, a2, a3, a4, a5, a6, a7, a8, a9, a10, a11, fun _ => key, a13⟩
theorem vs_new (S : fs_S n sU sL sK sE sG sO f) (hp : fb_pend n sK sE sG = 0) (nf : ¬ f) (hu : fa_R 4 p0) (hl : fa_R 100 p1) (hx : fa_X p2 p3) :
    fs_S (n + 1) (upd sU n p0) (upd sL n p1) (upd sK n p2) (upd sE n p3) (upd sG n 0) sO f := by
  intro s hs
  by_cases e : s = n
  · subst e
    obtain ⟨u, hu4, rfl⟩ := hu
    obtain ⟨l, hl1, rfl⟩ := hl
    obtain ⟨k, e, k1, k9, rfl, rfl, e16, xo⟩ := hx
    refine ⟨u, l, k, e, 0, pk_us, hu4, pk_us, hl1, pk_us, k1, k9, pk_us, xo, pk_us, Nat.zero_le _, fun z => ?_, fun p hp => absurd hp (Nat.not_lt_zero p)⟩
    rcases z with z | z
    · omega
    · exact absurd z nf
  · obtain ⟨u, l, k, e', g, a1, a2, a3, a4, a5, a6, a7, a8, a9, a10, a11, a12, a13⟩ := vs_full S hp s (by omega)
    exact ⟨u, l, k, e', g, by rw [pk_un e]; exact a1, a2, by rw [pk_un e]; exact a3, a4, by rw [pk_un e]; exact a5, a6, a7, by rw [pk_un e]; exact a8, a9, by rw [pk_un e]; exact a10, a11, fun _ => a12 trivial, a13⟩
theorem vs_more (S : fs_S n sU sL sK sE sG sO f) (nf : ¬ f) (hp : fb_pend n sK sE sG ≠ 0) (ha : fa_A (fb_pl (fa_N sK (n - 1)) (fa_N sG (n - 1))) p0) :
    fs_S n sU sL sK sE (upd sG (n - 1) (nI (fa_N sG (n - 1) + 1))) (upd sO ((n - 1) * 5 + fa_N sG (n - 1)) p0) f := by
  have n0 : n ≠ 0 := by
    intro z
    unfold fb_pend at hp
    rw [if_pos z] at hp
    exact hp rfl
  intro s hs
  have g5 := (ha_V (S (n - 1) (by omega))).2.2.1.2.2
  obtain ⟨u, l, k, e', g, a1, a2, a3, a4, a5, a6, a7, a8, a9, a10, a11, a12, a13⟩ := S s hs
  have n5 := fb_need5 a9
  by_cases e : s = n - 1
  · subst e
    have eg : fa_N sG (n - 1) = g := fa_Re a10 (by omega)
    have ek : fa_N sK (n - 1) = k := fa_Re a5 (by omega)
    have ee : fa_N sE (n - 1) = e' := fa_Re a8 (by unfold fb_xok at a9; omega)
    unfold fb_pend at hp
    rw [if_neg n0, eg, ek, ee] at hp
    rw [eg, ek] at ha
    rw [eg]
    refine ⟨u, l, k, e', g + 1, a1, a2, a3, a4, a5, a6, a7, a8, a9, pk_us, by omega, fun z => ?_, ?_⟩
    · rcases z with z | z
      · omega
      · exact absurd z nf
    · intro p hpg
      by_cases ep : p = g
      · subst ep
        obtain ⟨c, ec1, hc⟩ := ha
        exact ⟨c, by rw [pk_us]; exact ec1, hc⟩
      · obtain ⟨c, ec1, hc⟩ := a13 p (by omega)
        exact ⟨c, by rw [pk_un (by omega)]; exact ec1, hc⟩
  · refine ⟨u, l, k, e', g, a1, a2, a3, a4, a5, a6, a7, a8, a9, by rw [pk_un e]; exact a10, a11, a12, ?_⟩
    intro p hpg
    obtain ⟨c, ec1, hc⟩ := a13 p hpg
    exact ⟨c, by rw [pk_un (by omega)]; exact ec1, hc⟩
theorem vs_n0 (hp : fb_pend n sK sE sG ≠ 0) : n ≠ 0 := by
  intro z
  unfold fb_pend at hp
  rw [if_pos z] at hp
  exact hp rfl
theorem vs_g4 (S : fs_S n sU sL sK sE sG sO f) (hp : fb_pend n sK sE sG ≠ 0) : fa_N sG (n - 1) ≤ 4 := by
  have n0 := vs_n0 hp
  obtain ⟨_, ⟨_, c2, _⟩, _⟩ := ha_V (S (n - 1) (by omega))
  have := fb_need5 c2
  unfold fb_pend at hp
  rw [if_neg n0] at hp
  omega
theorem vs_pl {k p : Nat} : fb_pl k p < 3 := by
  unfold fb_pl
  repeat' split
  all_goals omega
theorem vx_opd {P : Int32 → SX → Prop} (hn : n ≤ 64) (S : fs_S n sU sL sK sE sG sO f) (hp : fb_pend n sK sE sG ≠ 0)
    (h1 : fa_A (fb_pl (fa_N sK (n - 1)) (fa_N sG (n - 1))) p0 → P 1 (sc, oc, ne, nI n, 0, on, st, ra, xu, xn, xe, xd, al, ap, ac, en, eu, ea, eb, sU, sL, sK, sE, upd sG (n - 1) (nI (fa_N sG (n - 1) + 1)), upd sO ((n - 1) * 5 + fa_N sG (n - 1)) p0, gr, po, ec, cx, ou, tc, ss, av, cs))
    (h0 : ¬ fa_A (fb_pl (fa_N sK (n - 1)) (fa_N sG (n - 1))) p0 → P 0 (sc, oc, ne, nI n, 0, on, st, ra, xu, xn, xe, xd, al, ap, ac, en, eu, ea, eb, sU, sL, sK, sE, sG, sO, gr, po, ec, cx, ou, tc, ss, av, cs)) : wpX_operand P (sc, oc, ne, nI n, 0, on, st, ra, xu, xn, xe, xd, al, ap, ac, en, eu, ea, eb, sU, sL, sK, sE, sG, sO, gr, po, ec, cx, ou, tc, ss, av, cs) p0 := by
  have n0 := vs_n0 hp
  have p5 := vs_pend5 S
  have g4 := vs_g4 S hp
  obtain ⟨⟨b1, b2, b3⟩, _, ⟨d1, d2, d3⟩, _⟩ := ha_V (S (n - 1) (by omega))
  have v : vp_in (nI (n - 1)) 64 := vp_in_nI (by omega) (by decide)
  unfold wpX_operand
  dsimp only
  refine hx_isFrozen (fun z => absurd rfl z) (fun _ => br_t rfl ?_)
  refine hx_await hn S ?_
  refine br_f (fun e => hp (fa_inj (b := 0) (by omega) (by decide) e)) (nm_r (e' := nI (n - 1)) (pk_sub (b := 1) (by omega)) ⟨v, ?_⟩)
  rw [nI_clamp (n := n - 1) (by omega)]
  refine nm_r d1 ⟨v, ?_⟩
  rw [b1]
  refine hx_placeKind b2 b3 (by omega) ?_
  refine hx_isAllowed vs_pl (fun a => br_f (by decide) ?_) (fun a => br_t rfl (h0 a))
  rw [ha_5, nI_clamp (n := (n - 1) * 5 + fa_N sG (n - 1)) (by omega)]
  refine ⟨vp_in_nI (by omega) (by decide), nm_e ⟨v, v, ?_⟩⟩
  rw [d1, nI_1]
  exact nm_e (h1 a)
theorem vx_opd0 {P : Int32 → SX → Prop} (hn : n ≤ 64) (S : fs_S n sU sL sK sE sG sO f) (c : ¬ (ca = 0 ∧ fb_pend n sK sE sG ≠ 0)) (h : P 0 (sc, oc, ne, nI n, ca, on, st, ra, xu, xn, xe, xd, al, ap, ac, en, eu, ea, eb, sU, sL, sK, sE, sG, sO, gr, po, ec, cx, ou, tc, ss, av, cs)) : wpX_operand P (sc, oc, ne, nI n, ca, on, st, ra, xu, xn, xe, xd, al, ap, ac, en, eu, ea, eb, sU, sL, sK, sE, sG, sO, gr, po, ec, cx, ou, tc, ss, av, cs) p0 := by
  have p5 := vs_pend5 S
  unfold wpX_operand
  dsimp only
  refine hx_isFrozen (fun z => br_f (by decide) h) (fun c0 => br_t rfl ?_)
  refine hx_await hn S ?_
  exact pk_eq (fb_pend n sK sE sG) 0 (fun _ => h) (fun z => absurd ⟨c0, z⟩ c)
theorem vy_fin {P : Int32 → SY → Prop} {w : Nat} {x2 v c : Int32} (hw : w < 3) (hv1 : v = 0 ∨ v = 1) (hc1 : c = 0 ∨ c = 1) (h1 : ((w = 2 ∧ c = 1) ∨ (w = 1 ∧ v = 1) ∨ (w = 0 ∧ (v = 1 ∨ c = 1))) → wY_operand_121 P p0 x2 sc oc ne ns ca nc on yp yu ye st yl yr al ap cb cn ac eu ea eb sU sL sK sE sG sO kx ky kd pl rl cm hv ba ad ex cy tc ss av cs bi ou) (h0 : ¬ ((w = 2 ∧ c = 1) ∨ (w = 1 ∧ v = 1) ∨ (w = 0 ∧ (v = 1 ∨ c = 1))) → P 0 (sc, oc, ne, ns, ca, nc, on, yp, yu, ye, st, yl, yr, al, ap, cb, cn, ac, eu, ea, eb, sU, sL, sK, sE, sG, sO, kx, ky, kd, pl, rl, cm, hv, ba, ad, ex, cy, tc, ss, av, cs, bi, ou)) : wY_operand_79 P p0 x2 (nI w) v c sc oc ne ns ca nc on yp yu ye st yl yr al ap cb cn ac eu ea eb sU sL sK sE sG sO kx ky kd pl rl cm hv ba ad ex cy tc ss av cs bi ou := by
  have cw : w = 0 ∨ w = 1 ∨ w = 2 := by omega
  rcases cw with rfl | rfl | rfl
  · refine br_f (by decide) (br_f (by decide) (br_t rfl ?_))
    rcases hv1 with rfl | rfl
    · rcases hc1 with rfl | rfl
      · exact br_t rfl (br_t rfl (h0 (by decide)))
      · exact br_t rfl (br_f (by decide) (h1 (by decide)))
    · exact br_f (by decide) (h1 (Or.inr (Or.inr ⟨rfl, Or.inl rfl⟩)))
  · refine br_f (by decide) (br_t rfl ?_)
    rcases hv1 with rfl | rfl
    · refine br_t rfl (h0 ?_)
      rintro (⟨z, _⟩ | ⟨_, z⟩ | ⟨z, _⟩) <;> exact absurd z (by decide)
    · exact br_f (by decide) (br_f (by decide) (h1 (Or.inr (Or.inl ⟨rfl, rfl⟩))))
  · refine br_t rfl ?_
    rcases hc1 with rfl | rfl
    · refine br_t rfl (h0 ?_)
      rintro (⟨_, z⟩ | ⟨z, _⟩ | ⟨z, _⟩) <;> exact absurd z (by decide)
    · exact br_f (by decide) (br_f (by decide) (br_f (by decide) (h1 (Or.inl ⟨rfl, rfl⟩))))
theorem vy_con {P : Int32 → SY → Prop} {w : Nat} {x2 v : Int32} (hw : w < 3) (hvv : v = 1 ↔ (fa_F p0 ∨ fa_I p0)) (hv1 : v = 0 ∨ v = 1) (h1 : fa_A w p0 → wY_operand_121 P p0 x2 sc oc ne ns ca nc on yp yu ye st yl yr al ap cb cn ac eu ea eb sU sL sK sE sG sO kx ky kd pl rl cm hv ba ad ex cy tc ss av cs bi ou) (h0 : ¬ fa_A w p0 → P 0 (sc, oc, ne, ns, ca, nc, on, yp, yu, ye, st, yl, yr, al, ap, cb, cn, ac, eu, ea, eb, sU, sL, sK, sE, sG, sO, kx, ky, kd, pl, rl, cm, hv, ba, ad, ex, cy, tc, ss, av, cs, bi, ou)) : wY_operand_61 P p0 x2 (nI w) v sc oc ne ns ca nc on yp yu ye st yl yr al ap cb cn ac eu ea eb sU sL sK sE sG sO kx ky kd pl rl cm hv ba ad ex cy tc ss av cs bi ou := by
  have key : ∀ c : Int32, (c = 0 ∨ c = 1) → (c = 1 ↔ fa_R 10000 p0) → wY_operand_79 P p0 x2 (nI w) v c sc oc ne ns ca nc on yp yu ye st yl yr al ap cb cn ac eu ea eb sU sL sK sE sG sO kx ky kd pl rl cm hv ba ad ex cy tc ss av cs bi ou := by
    intro c hc1 hc
    have cA : ((w = 2 ∧ c = 1) ∨ (w = 1 ∧ v = 1) ∨ (w = 0 ∧ (v = 1 ∨ c = 1))) ↔ fa_A w p0 := by
      rw [hc, hvv]
      have cw : w = 0 ∨ w = 1 ∨ w = 2 := by omega
      rcases cw with rfl | rfl | rfl
      · rw [ha_A0]
        constructor
        · rintro (⟨z, _⟩ | ⟨z, _⟩ | ⟨_, z | z⟩)
          · exact absurd z (by decide)
          · exact absurd z (by decide)
          · exact Or.inr z
          · exact Or.inl z
        · rintro (z | z)
          · exact Or.inr (Or.inr ⟨rfl, Or.inr z⟩)
          · exact Or.inr (Or.inr ⟨rfl, Or.inl z⟩)
      · rw [ha_A1]
        constructor
        · rintro (⟨z, _⟩ | ⟨_, z⟩ | ⟨z, _⟩)
          · exact absurd z (by decide)
          · exact z
          · exact absurd z (by decide)
        · exact fun z => Or.inr (Or.inl ⟨rfl, z⟩)
      · rw [ha_A2]
        constructor
        · rintro (⟨_, z⟩ | ⟨z, _⟩ | ⟨z, _⟩)
          · exact z
          · exact absurd z (by decide)
          · exact absurd z (by decide)
        · exact fun z => Or.inl ⟨rfl, z⟩
    exact vy_fin hw hv1 hc1 (fun z => h1 (cA.mp z)) (fun z => h0 (fun q => z (cA.mpr q)))
  refine br_c (fun a => key 0 (Or.inl rfl) ⟨fun z => absurd z (by decide), fun z => absurd z (ha_lo (by decide) a)⟩) (fun a => br_c (fun b => key 0 (Or.inl rfl) ⟨fun z => absurd z (by decide), fun z => absurd z (ha_hi' (m := 9999) (by decide) b)⟩) (fun b => key 1 (Or.inr rfl) ⟨fun _ => ha_mid' (m := 9999) (by decide) a b, fun _ => rfl⟩))
theorem vy_opd {P : Int32 → SY → Prop} (hn : n ≤ 64) (S : fs_S n sU sL sK sE sG sO f) (hp : fb_pend n sK sE sG ≠ 0)
    (h1 : fa_A (fb_pl (fa_N sK (n - 1)) (fa_N sG (n - 1))) p0 → P 1 (sc, oc, ne, nI n, 0, nc, on, yp, yu, ye, st, yl, yr, al, ap, cb, cn, ac, eu, ea, eb, sU, sL, sK, sE, upd sG (n - 1) (nI (fa_N sG (n - 1) + 1)), upd sO ((n - 1) * 5 + fa_N sG (n - 1)) p0, kx, ky, kd, pl, rl, cm, hv, ba, ad, ex, cy, tc, ss, av, cs, bi, ou))
    (h0 : ¬ fa_A (fb_pl (fa_N sK (n - 1)) (fa_N sG (n - 1))) p0 → P 0 (sc, oc, ne, nI n, 0, nc, on, yp, yu, ye, st, yl, yr, al, ap, cb, cn, ac, eu, ea, eb, sU, sL, sK, sE, sG, sO, kx, ky, kd, pl, rl, cm, hv, ba, ad, ex, cy, tc, ss, av, cs, bi, ou)) : wpY_operand P (sc, oc, ne, nI n, 0, nc, on, yp, yu, ye, st, yl, yr, al, ap, cb, cn, ac, eu, ea, eb, sU, sL, sK, sE, sG, sO, kx, ky, kd, pl, rl, cm, hv, ba, ad, ex, cy, tc, ss, av, cs, bi, ou) p0 := by
  have n0 := vs_n0 hp
  have p5 := vs_pend5 S
  have g4 := vs_g4 S hp
  obtain ⟨⟨b1, b2, b3⟩, _, ⟨d1, d2, d3⟩, _⟩ := ha_V (S (n - 1) (by omega))
  have v : vp_in (nI (n - 1)) 64 := vp_in_nI (by omega) (by decide)
  have fin : ∀ vr : Int32, (vr = 1 ↔ (fa_F p0 ∨ fa_I p0)) → (vr = 0 ∨ vr = 1) → wY_operand_61 P p0 (nI (n - 1)) (nI (fb_pl (fa_N sK (n - 1)) (fa_N sG (n - 1)))) vr sc oc ne (nI n) 0 nc on yp yu ye st yl yr al ap cb cn ac eu ea eb sU sL sK sE sG sO kx ky kd pl rl cm hv ba ad ex cy tc ss av cs bi ou := by
    intro vr e1 e2
    refine vy_con vs_pl e1 e2 (fun a => ?_) h0
    unfold wY_operand_121
    rw [nI_clamp (n := n - 1) (by omega), d1, ha_5, nI_clamp (n := (n - 1) * 5 + fa_N sG (n - 1)) (by omega), nI_1]
    exact ⟨v, vp_in_nI (by omega) (by decide), nm_e ⟨v, v, nm_e (h1 a)⟩⟩
  refine br_t rfl ?_
  refine hy_pending hn S ?_
  refine br_t (nI_lt (a := 0) (by omega) (by omega)) (nm_r (e' := nI (n - 1)) (pk_sub (b := 1) (by omega)) ⟨v, v, ?_⟩)
  rw [nI_clamp (n := n - 1) (by omega), b1, d1]
  refine hy_place b2 b3 (by omega) ?_
  refine hy_isFixed (fun z => br_f (by decide) ?_) (fun z => br_t rfl ?_)
  · exact fin 1 ⟨fun _ => Or.inl z, fun _ => rfl⟩ (Or.inr rfl)
  · refine hy_isIndexed (fun z' => br_f (by decide) ?_) (fun z' => br_t rfl ?_)
    · exact fin 1 ⟨fun _ => Or.inr z', fun _ => rfl⟩ (Or.inr rfl)
    · exact fin 0 ⟨fun q => absurd q (by decide), fun q => by rcases q with q | q; exact absurd q z; exact absurd q z'⟩ (Or.inl rfl)
theorem vy_opd0 {P : Int32 → SY → Prop} (hn : n ≤ 64) (S : fs_S n sU sL sK sE sG sO f) (c : ¬ (ca = 0 ∧ fb_pend n sK sE sG ≠ 0)) (h : P 0 (sc, oc, ne, nI n, ca, nc, on, yp, yu, ye, st, yl, yr, al, ap, cb, cn, ac, eu, ea, eb, sU, sL, sK, sE, sG, sO, kx, ky, kd, pl, rl, cm, hv, ba, ad, ex, cy, tc, ss, av, cs, bi, ou)) : wpY_operand P (sc, oc, ne, nI n, ca, nc, on, yp, yu, ye, st, yl, yr, al, ap, cb, cn, ac, eu, ea, eb, sU, sL, sK, sE, sG, sO, kx, ky, kd, pl, rl, cm, hv, ba, ad, ex, cy, tc, ss, av, cs, bi, ou) p0 := by
  have p5 := vs_pend5 S
  refine br_c (fun c0 => ?_) (fun _ => h)
  refine hy_pending hn S ?_
  exact pk_lt 0 (fb_pend n sK sE sG) (fun z => absurd ⟨c0, by omega⟩ c) (fun _ => h)
end HS2
