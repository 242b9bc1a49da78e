section HCO
/-! compile -/
variable {sc oc ne ns ca on st ra xu xn xe xd nc yp yu ye yl yr : Int32} {al ap ac en eu ea eb sU sL sK sE sG sO gr po ec cx ou tc ss av cs cb cn kx ky kd pl rl cm hv ba ad ex cy bi : Nat → Int32}
variable {n q : Nat} {f : Prop}
theorem ck_x {P : Int32 → SX → Prop} (hn : n ≤ 64) (S : fs_S n sU sL sK sE sG sO f) (D : fs_D al ap ac en cb cn eu ea eb q)
    (h2 : fb_pend n sK sE sG ≠ 0 → P 2 (sc, oc, nI q, nI n, ca, on, st, ra, xu, xn, xe, xd, al, ap, ac, en, eu, ea, eb, sU, sL, sK, sE, sG, sO, gr, po, ec, cx, ou, tc, ss, av, cs)) (h3 : fb_pend n sK sE sG = 0 → gd_DB (fa_N al) (fa_N ap) (fa_N ac) (fa_N cn) q (fa_N eu) (fa_N ea) (fa_N eb) → P 3 (sc, oc, nI q, nI n, ca, on, st, ra, xu, xn, xe, xd, al, ap, ac, en, eu, ea, eb, sU, sL, sK, sE, sG, sO, gr, po, ec, cx, ou, tc, ss, av, cs)) (h4 : fb_pend n sK sE sG = 0 → ¬ gd_DB (fa_N al) (fa_N ap) (fa_N ac) (fa_N cn) q (fa_N eu) (fa_N ea) (fa_N eb) → (gd_XE (fa_N al) q (fa_N eu) (fa_N ea) (fa_N eb) ∨ gd_XS n al sU sG sO) → P 4 (sc, oc, nI q, nI n, ca, on, st, ra, xu, xn, xe, xd, al, ap, ac, en, eu, ea, eb, sU, sL, sK, sE, sG, sO, gr, po, ec, cx, ou, tc, ss, av, cs))
    (h5n : fb_pend n sK sE sG = 0 → ¬ gd_DB (fa_N al) (fa_N ap) (fa_N ac) (fa_N cn) q (fa_N eu) (fa_N ea) (fa_N eb) → ¬ (gd_XE (fa_N al) q (fa_N eu) (fa_N ea) (fa_N eb) ∨ gd_XS n al sU sG sO) → (¬ ∃ p, ga_Sol (gd_CS (fa_N al) (fa_N ac) (fa_N cb) (fa_N cn) q (fa_N eu) (fa_N ea) (fa_N eb)) p) → ∀ gr po : Nat → Int32, P 5 (sc, oc, nI q, nI n, ca, on, st, ra, xu, xn, xe, xd, al, ap, ac, en, eu, ea, eb, sU, sL, sK, sE, sG, sO, gr, po, ec, cx, ou, tc, ss, av, cs))
    (hk : fb_pend n sK sE sG = 0 → ¬ gd_DB (fa_N al) (fa_N ap) (fa_N ac) (fa_N cn) q (fa_N eu) (fa_N ea) (fa_N eb) → ¬ (gd_XE (fa_N al) q (fa_N eu) (fa_N ea) (fa_N eb) ∨ gd_XS n al sU sG sO) → ∀ gr po : Nat → Int32, ga_IX (gd_CS (fa_N al) (fa_N ac) (fa_N cb) (fa_N cn) q (fa_N eu) (fa_N ea) (fa_N eb)) (gd_SE (fa_N al) (fa_N ac) (fa_N cb) (fa_N cn) (fa_N eu) (fa_N ea) (fa_N eb) q) gr po → (gd_JB gr → P 5 (sc, oc, nI q, nI n, ca, on, st, ra, xu, xn, xe, xd, al, ap, ac, en, eu, ea, eb, sU, sL, sK, sE, sG, sO, gr, po, ec, cx, ou, tc, ss, av, cs)) ∧ (¬ gd_JB gr → gd_BB gr po → P 6 (sc, oc, nI q, nI n, ca, on, st, ra, xu, xn, xe, xd, al, ap, ac, en, eu, ea, eb, sU, sL, sK, sE, sG, sO, gr, po, ec, cx, ou, tc, ss, av, cs)) ∧ (¬ gd_JB gr → ¬ gd_BB gr po → (gd_LD n sU sL ∨ gd_LT n sU sL sK sG sO ∨ gd_LE n sU sL sK sG sO) → P 7 (sc, oc, nI q, nI n, ca, on, st, ra, xu, xn, xe, xd, al, ap, ac, en, eu, ea, eb, sU, sL, sK, sE, sG, sO, gr, po, ec, cx, ou, tc, ss, av, cs)) ∧ (¬ gd_JB gr → ¬ gd_BB gr po → ¬ (gd_LD n sU sL ∨ gd_LT n sU sL sK sG sO ∨ gd_LE n sU sL sK sG sO) → gd_WC n ap sK sE → P 8 (sc, oc, nI q, nI n, ca, on, st, ra, xu, xn, xe, xd, al, ap, ac, en, eu, ea, eb, sU, sL, sK, sE, sG, sO, gr, po, ec, cx, ou, tc, ss, av, cs)) ∧ (¬ gd_JB gr → ¬ gd_BB gr po → ¬ (gd_LD n sU sL ∨ gd_LT n sU sL sK sG sO ∨ gd_LE n sU sL sK sG sO) → ¬ gd_WC n ap sK sE → P 1 (sc, oc, nI q, nI n, ca, on, st, ra, xu, xn, xe, xd, al, ap, ac, en, eu, ea, eb, sU, sL, sK, sE, sG, sO, gr, po, ec, cx, ou, tc, ss, av, cs))) :
    wpX_judgeProgram P (sc, oc, nI q, nI n, ca, on, st, ra, xu, xn, xe, xd, al, ap, ac, en, eu, ea, eb, sU, sL, sK, sE, sG, sO, gr, po, ec, cx, ou, tc, ss, av, cs) := by
  have p5 := vs_pend5 S
  unfold wpX_judgeProgram
  dsimp only
  refine hx_await hn S ?_
  refine pk_le (fb_pend n sK sE sG) 0 (fun z => ?_) (fun z => h2 (by omega))
  have hp : fb_pend n sK sE sG = 0 := by omega
  refine cx_dummy D (fun d => br_f (by decide) (h3 hp d)) (fun d => br_t rfl ?_)
  refine cx_index D hn S (fun x => br_f (by decide) (h4 hp d x)) (fun x => br_t rfl ?_)
  refine cl_layout D (fun ns gr' po' => br_t rfl (h5n hp d x ns gr' po')) (fun gr' po' H => br_f (by decide) ?_)
  obtain ⟨k5, k6, k7, k8, k1⟩ := hk hp d x gr' po' H
  refine cx_joins (fun j => br_f (by decide) (k5 j)) (fun j => br_t rfl ?_)
  refine cx_back (fun b => br_f (by decide) (k6 j b)) (fun b => br_t rfl ?_)
  refine cx_rep hn (fun l => br_f (by decide) (k7 j b (Or.inl l))) (fun l => br_t rfl ?_)
  refine cx_tgt hn S (fun t => br_f (by decide) (k7 j b (Or.inr t))) (fun t => br_t rfl ?_)
  have nl : ¬ (gd_LD n sU sL ∨ gd_LT n sU sL sK sG sO ∨ gd_LE n sU sL sK sG sO) := fun z => z.elim l t
  exact cx_wc hn S D.2.2.1 (fun w => br_f (by decide) (k8 j b nl w)) (fun w => br_t rfl (k1 j b nl w))
theorem ck_y2 {P : Int32 → SY → Prop} (hn : n ≤ 64) (S : fs_S n sU sL sK sE sG sO f) (hp : fb_pend n sK sE sG ≠ 0) (h : P 2 (sc, oc, nI q, nI n, ca, nc, on, yp, yu, ye, st, yl, yr, al, ap, cb, cn, ac, eu, ea, eb, sU, sL, sK, sE, sG, sO, kx, ky, kd, pl, rl, cm, hv, ba, ad, ex, cy, tc, ss, av, cs, bi, ou)) : wpY_check P (sc, oc, nI q, nI n, ca, nc, on, yp, yu, ye, st, yl, yr, al, ap, cb, cn, ac, eu, ea, eb, sU, sL, sK, sE, sG, sO, kx, ky, kd, pl, rl, cm, hv, ba, ad, ex, cy, tc, ss, av, cs, bi, ou) := by
  have p5 := vs_pend5 S
  unfold wpY_check
  dsimp only
  refine hy_pending hn S ?_
  exact pk_le (fb_pend n sK sE sG) 0 (fun z => absurd (by omega) hp) (fun z => h)
theorem ck_y3 {P : Int32 → SY → Prop} (hn : n ≤ 64) (S : fs_S n sU sL sK sE sG sO f) (D : fs_D al ap ac en cb cn eu ea eb q) (hp : fb_pend n sK sE sG = 0) (d : gd_DB (fa_N al) (fa_N ap) (fa_N ac) (fa_N cn) q (fa_N eu) (fa_N ea) (fa_N eb)) (h : P 3 (sc, oc, nI q, nI n, ca, nc, on, yp, yu, ye, st, yl, yr, al, ap, cb, cn, ac, eu, ea, eb, sU, sL, sK, sE, sG, sO, kx, ky, kd, pl, rl, cm, hv, ba, ad, ex, cy, tc, ss, av, cs, bi, ou)) : wpY_check P (sc, oc, nI q, nI n, ca, nc, on, yp, yu, ye, st, yl, yr, al, ap, cb, cn, ac, eu, ea, eb, sU, sL, sK, sE, sG, sO, kx, ky, kd, pl, rl, cm, hv, ba, ad, ex, cy, tc, ss, av, cs, bi, ou) := by
  unfold wpY_check
  dsimp only
  refine hy_pending hn S ?_
  rw [hp]
  refine br_t (by decide) ?_
  exact cy_dummy D (fun _ => br_f (by decide) h) (fun z => absurd d z)
theorem ck_al1 (D : fs_D al ap ac en cb cn eu ea eb q) (d : ¬ gd_DB (fa_N al) (fa_N ap) (fa_N ac) (fa_N cn) q (fa_N eu) (fa_N ea) (fa_N eb)) : ∀ k, k < 32 → ¬ gd_St (fa_N ap) k → al k = 1 := by
  intro k hk s
  obtain ⟨l1, l2, l3⟩ := cn_A D hk
  have e : fa_N al k = 1 := by
    by_cases z : 1 < fa_N al k
    · unfold gd_St at s
      exact absurd (Or.inl ⟨k, hk, Classical.byContradiction s, z⟩) d
    · omega
  rw [l1, e]
  rfl
theorem ck_y4 {P : Int32 → SY → Prop} (hn : n ≤ 64) (S : fs_S n sU sL sK sE sG sO f) (D : fs_D al ap ac en cb cn eu ea eb q) (hp : fb_pend n sK sE sG = 0) (d : ¬ gd_DB (fa_N al) (fa_N ap) (fa_N ac) (fa_N cn) q (fa_N eu) (fa_N ea) (fa_N eb)) (x : (gd_XE (fa_N al) q (fa_N eu) (fa_N ea) (fa_N eb) ∨ gd_XS n al sU sG sO)) (h : P 4 (sc, oc, nI q, nI n, ca, nc, on, yp, yu, ye, st, yl, yr, al, ap, cb, cn, ac, eu, ea, eb, sU, sL, sK, sE, sG, sO, kx, ky, kd, pl, rl, cm, hv, ba, ad, ex, cy, tc, ss, av, cs, bi, ou)) : wpY_check P (sc, oc, nI q, nI n, ca, nc, on, yp, yu, ye, st, yl, yr, al, ap, cb, cn, ac, eu, ea, eb, sU, sL, sK, sE, sG, sO, kx, ky, kd, pl, rl, cm, hv, ba, ad, ex, cy, tc, ss, av, cs, bi, ou) := by
  unfold wpY_check
  dsimp only
  refine hy_pending hn S ?_
  rw [hp]
  refine br_t (by decide) ?_
  refine cy_dummy D (fun z => absurd z d) (fun _ => br_t rfl ?_)
  exact cy_index D (ck_al1 D d) hn S (fun _ => br_f (by decide) h) (fun z => absurd x z)
theorem ck_y5 {P : Int32 → SY → Prop} (hn : n ≤ 64) (S : fs_S n sU sL sK sE sG sO f) (D : fs_D al ap ac en cb cn eu ea eb q) (hp : fb_pend n sK sE sG = 0) (d : ¬ gd_DB (fa_N al) (fa_N ap) (fa_N ac) (fa_N cn) q (fa_N eu) (fa_N ea) (fa_N eb)) (x : ¬ (gd_XE (fa_N al) q (fa_N eu) (fa_N ea) (fa_N eb) ∨ gd_XS n al sU sG sO)) (ns : ¬ ∃ p, ga_Sol (gd_CS (fa_N al) (fa_N ac) (fa_N cb) (fa_N cn) q (fa_N eu) (fa_N ea) (fa_N eb)) p) (h : ∀ (nc : Int32) (kx ky kd pl cm rl : Nat → Int32), P 5 (sc, oc, nI q, nI n, ca, nc, on, yp, yu, ye, st, yl, yr, al, ap, cb, cn, ac, eu, ea, eb, sU, sL, sK, sE, sG, sO, kx, ky, kd, pl, rl, cm, hv, ba, ad, ex, cy, tc, ss, av, cs, bi, ou)) : wpY_check P (sc, oc, nI q, nI n, ca, nc, on, yp, yu, ye, st, yl, yr, al, ap, cb, cn, ac, eu, ea, eb, sU, sL, sK, sE, sG, sO, kx, ky, kd, pl, rl, cm, hv, ba, ad, ex, cy, tc, ss, av, cs, bi, ou) := by
  unfold wpY_check
  dsimp only
  refine hy_pending hn S ?_
  rw [hp]
  refine br_t (by decide) ?_
  refine cy_dummy D (fun z => absurd z d) (fun _ => br_t rfl ?_)
  refine cy_index D (ck_al1 D d) hn S (fun z => absurd z x) (fun _ => br_t rfl ?_)
  refine dl_layout D (fun _ nc kx ky kd pl cm rl => br_t rfl (h nc kx ky kd pl cm rl)) (fun m kx ky kd pl cm rl eT hm H hpl => absurd ?_ ns)
  refine ⟨rl, fun a b e hc => ?_⟩
  rw [← eT] at hc
  obtain ⟨c, hc, rfl, rfl, rfl⟩ := hc
  exact (H.2.2.1 c hc (hpl _ (hm c hc).1)).2
theorem ck_y {P : Int32 → SY → Prop} (hn : n ≤ 64) (S : fs_S n sU sL sK sE sG sO f) (D : fs_D al ap ac en cb cn eu ea eb q) (hp : fb_pend n sK sE sG = 0) (d : ¬ gd_DB (fa_N al) (fa_N ap) (fa_N ac) (fa_N cn) q (fa_N eu) (fa_N ea) (fa_N eb)) (x : ¬ (gd_XE (fa_N al) q (fa_N eu) (fa_N ea) (fa_N eb) ∨ gd_XS n al sU sG sO)) (HX : ga_IX (gd_CS (fa_N al) (fa_N ac) (fa_N cb) (fa_N cn) q (fa_N eu) (fa_N ea) (fa_N eb)) (gd_SE (fa_N al) (fa_N ac) (fa_N cb) (fa_N cn) (fa_N eu) (fa_N ea) (fa_N eb) q) gr po)
    (h5 : gd_JB gr → ∀ (nc : Int32) (kx ky kd pl cm rl : Nat → Int32), P 5 (sc, oc, nI q, nI n, ca, nc, on, yp, yu, ye, st, yl, yr, al, ap, cb, cn, ac, eu, ea, eb, sU, sL, sK, sE, sG, sO, kx, ky, kd, pl, rl, cm, hv, ba, ad, ex, cy, tc, ss, av, cs, bi, ou)) (h6 : ¬ gd_JB gr → gd_BB gr po → ∀ (nc : Int32) (kx ky kd pl cm rl : Nat → Int32), P 6 (sc, oc, nI q, nI n, ca, nc, on, yp, yu, ye, st, yl, yr, al, ap, cb, cn, ac, eu, ea, eb, sU, sL, sK, sE, sG, sO, kx, ky, kd, pl, rl, cm, hv, ba, ad, ex, cy, tc, ss, av, cs, bi, ou)) (h7 : ¬ gd_JB gr → ¬ gd_BB gr po → (gd_LD n sU sL ∨ gd_LT n sU sL sK sG sO ∨ gd_LE n sU sL sK sG sO) → ∀ (nc : Int32) (kx ky kd pl cm rl : Nat → Int32), P 7 (sc, oc, nI q, nI n, ca, nc, on, yp, yu, ye, st, yl, yr, al, ap, cb, cn, ac, eu, ea, eb, sU, sL, sK, sE, sG, sO, kx, ky, kd, pl, rl, cm, hv, ba, ad, ex, cy, tc, ss, av, cs, bi, ou))
    (h8 : ¬ gd_JB gr → ¬ gd_BB gr po → ¬ (gd_LD n sU sL ∨ gd_LT n sU sL sK sG sO ∨ gd_LE n sU sL sK sG sO) → gd_WC n ap sK sE → ∀ (nc : Int32) (kx ky kd pl cm rl : Nat → Int32), P 8 (sc, oc, nI q, nI n, ca, nc, on, yp, yu, ye, st, yl, yr, al, ap, cb, cn, ac, eu, ea, eb, sU, sL, sK, sE, sG, sO, kx, ky, kd, pl, rl, cm, hv, ba, ad, ex, cy, tc, ss, av, cs, bi, ou))
    (h1 : ¬ gd_JB gr → ¬ gd_BB gr po → ¬ (gd_LD n sU sL ∨ gd_LT n sU sL sK sG sO ∨ gd_LE n sU sL sK sG sO) → ¬ gd_WC n ap sK sE → ∀ (nc : Int32) (kx ky kd pl cm rl hv ba ad ex : Nat → Int32) (N : Nat), gb_Lay (gd_CS (fa_N al) (fa_N ac) (fa_N cb) (fa_N cn) q (fa_N eu) (fa_N ea) (fa_N eb)) gr po cm rl → gb_AL (fa_N al) (gd_St (fa_N ap)) cm rl 32 N hv ba ad → (∀ b, b < 4 → ex b = fs_ext gr po al b 32) → P 1 (sc, oc, nI q, nI n, ca, nc, on, yp, yu, ye, st, yl, yr, al, ap, cb, cn, ac, eu, ea, eb, sU, sL, sK, sE, sG, sO, kx, ky, kd, pl, rl, cm, hv, ba, ad, ex, cy, tc, ss, av, cs, bi, ou)) : wpY_check P (sc, oc, nI q, nI n, ca, nc, on, yp, yu, ye, st, yl, yr, al, ap, cb, cn, ac, eu, ea, eb, sU, sL, sK, sE, sG, sO, kx, ky, kd, pl, rl, cm, hv, ba, ad, ex, cy, tc, ss, av, cs, bi, ou) := by
  have W := fs_wd D
  have Str := gd_str W d (fun z => x (Or.inl z))
  have sol := gb_sol HX (fun a b e he => gd_cse he)
  have S' : fs_S n sU sL sK sE sG sO True := fun s hs => by
    obtain ⟨u, l, k, e, g, a1, a2, a3, a4, a5, a6, a7, a8, a9, a10, a11, a12, a13⟩ := vs_full S hp s hs
    exact ⟨u, l, k, e, g, a1, a2, a3, a4, a5, a6, a7, a8, a9, a10, a11, fun _ => a12 trivial, a13⟩
  unfold wpY_check
  dsimp only
  refine hy_pending hn S ?_
  rw [hp]
  refine br_t (by decide) ?_
  refine cy_dummy D (fun z => absurd z d) (fun _ => br_t rfl ?_)
  refine cy_index D (ck_al1 D d) hn S (fun z => absurd z x) (fun _ => br_t rfl ?_)
  refine dl_layout D (fun ns => absurd sol ns) (fun m kx ky kd pl cm rl eT hm H hpl => ?_)
  have HL : gb_Lay (gd_CS (fa_N al) (fa_N ac) (fa_N cb) (fa_N cn) q (fa_N eu) (fa_N ea) (fa_N eb)) gr po cm rl := by
    have HX' := HX
    rw [← eT] at HX'
    have t := gb_tie HX' (fun a b e he => gd_cse (by rw [eT] at he; exact he)) H hpl hm
    rw [eT] at t
    exact t
  have eJ : gd_JY cm ↔ gd_JB gr := by
    constructor
    · rintro ⟨b, c, b1, bc, c2, e⟩
      have := (HL.1 c b c2 (by omega)).mpr e.symm
      exact ⟨c - 32, b - 32, by omega, by omega, by rw [show 32 + (c - 32) = c by omega, show 32 + (b - 32) = b by omega]; exact this⟩
    · rintro ⟨b, c, cb', b4, e⟩
      exact ⟨32 + c, 32 + b, by omega, by omega, by omega, ((HL.1 _ _ (by omega) (by omega)).mp e).symm⟩
  have hd : ∀ k b, k < 32 → b < 4 → ¬ gd_St (fa_N ap) k → ¬ gr k = gr (32 + b) := by
    intro k b hk hb s e
    have := gb_alone HL (k := k) (y := 32 + b) (by omega) (by omega) (fun z v => gd_alone Str hk s z v) ((HL.1 _ _ (by omega) (by omega)).mp e)
    omega
  have eB : gd_BY ap cm rl ↔ gd_BB gr po := by
    constructor
    · rintro ⟨k, b, hk, s, b1, b2, e, l⟩
      have g := (HL.1 k b (by omega) b2).mpr e
      exact ⟨b - 32, k, by omega, hk, by rw [show 32 + (b - 32) = b by omega]; exact g, by rw [show 32 + (b - 32) = b by omega]; exact (gb_lt HL (by omega) b2 g).mpr l⟩
    · rintro ⟨b, k, hb, hk, g, l⟩
      refine ⟨k, 32 + b, hk, Classical.byContradiction fun s => hd k b hk hb s g, by omega, by omega, (HL.1 _ _ (by omega) (by omega)).mp g, (gb_lt HL (by omega) (by omega) g).mp l⟩
  refine ⟨fun nj => br_f (by decide) ?_, fun j => br_t rfl (h5 (eJ.mp j) (nI m) kx ky kd pl cm rl)⟩
  rw [eJ] at nj
  refine cy_back D.2.2.1 (fun b => br_f (by decide) (h6 nj (eB.mp b) (nI m) kx ky kd pl cm rl)) (fun b => br_t rfl ?_)
  rw [eB] at b
  refine cy_label hn S' (fun l => br_f (by decide) (h7 nj b l (nI m) kx ky kd pl cm rl)) (fun l => br_t rfl ?_)
  refine cy_wc hn S D.2.2.1 (fun w => br_f (by decide) (h8 nj b l w (nI m) kx ky kd pl cm rl)) (fun w => br_t rfl ?_)
  exact al_main D HL hd (fun N hv ba ad ex HA he => h1 nj b l w (nI m) kx ky kd pl cm rl hv ba ad ex N HL HA he)
theorem ck_S {g : Prop} (S : fs_S n sU sL sK sE sG sO f) (h : g → f) : fs_S n sU sL sK sE sG sO g := fun s hs => by
  obtain ⟨u, l, k, e, g, a1, a2, a3, a4, a5, a6, a7, a8, a9, a10, a11, a12, a13⟩ := S s hs
  exact ⟨u, l, k, e, g, a1, a2, a3, a4, a5, a6, a7, a8, a9, a10, a11, fun z => a12 (z.imp id h), a13⟩
/-- what C_OK says of the statements -/
theorem ck_C (S : fs_S n sU sL sK sE sG sO f) (D : fs_D al ap ac en cb cn eu ea eb q) (d : ¬ gd_DB (fa_N al) (fa_N ap) (fa_N ac) (fa_N cn) q (fa_N eu) (fa_N ea) (fa_N eb)) (x : ¬ (gd_XE (fa_N al) q (fa_N eu) (fa_N ea) (fa_N eb) ∨ gd_XS n al sU sG sO)) (l : ¬ (gd_LD n sU sL ∨ gd_LT n sU sL sK sG sO ∨ gd_LE n sU sL sK sG sO)) (w : ¬ gd_WC n ap sK sE) : fs_C n al ap sU sL sK sE sG sO := by
  refine ⟨ck_al1 D d, fun s p c hs hp e hc => ?_, fun s p hs hp hk e => l (Or.inr (Or.inl ⟨s, p, hs, hp, hk, e⟩)), fun s hs hk => Classical.byContradiction fun z => w ⟨s, hs, hk, z⟩⟩
  exact Nat.le_of_not_lt fun z => x (Or.inr ⟨s, p, c, hs, hp, e, hc, z⟩)
end HCO
