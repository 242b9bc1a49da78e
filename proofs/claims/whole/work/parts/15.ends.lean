section HEN
/-! end processing, on both sides at once -/
variable {sc oc ne ns ca on st ra xu xn xe xd nc yp yu ye yl yr : Int32} {al ap ac en eu ea eb sU sL sK sE sG sO gr po ec cx ou tc ss av cs cb cn kx ky kd pl rl cm hv ba ad ex cy bi : Nat → Int32}
variable {RC : Nat → Nat → Prop} {u n t s : Nat}
theorem hx_ended {post : Int32 → Prop} (hs : s < 64) (ht : t < 64) (h1 : sK s = 4 → sU s = sU t → sO (s * 5) = sL t → post 1) (h0 : ¬ (sK s = 4 ∧ sU s = sU t ∧ sO (s * 5) = sL t) → post 0) : wpX_isLoopEndedBy post (sc, oc, ne, ns, ca, on, st, ra, xu, xn, xe, xd, al, ap, ac, en, eu, ea, eb, sU, sL, sK, sE, sG, sO, gr, po, ec, cx, ou, tc, ss, av, cs) (nI s) (nI t) := by
  have vs : vp_in (nI s) 64 := vp_in_nI hs (by decide)
  have vt : vp_in (nI t) 64 := vp_in_nI ht (by decide)
  refine ⟨vs, ?_⟩
  rw [nI_clamp (by omega)]
  refine br_c (fun a => ⟨vs, vt, ?_⟩) (fun a => br_t rfl (h0 fun z => a z.1))
  rw [nI_clamp (by omega)]
  refine br_c (fun b => br_f (by decide) ?_) (fun b => br_t rfl (h0 fun z => b z.2.1))
  rw [ha_50, nI_clamp (by omega), nI_clamp (by omega)]
  exact ⟨vp_in_nI (by omega) (by decide), vt, br_c (fun c => h1 a b c) (fun c => h0 fun z => c z.2.2)⟩
/-- the class alone, where no DO is ended -/
theorem he_x0 {post : SX → Prop} (hn : n ≤ 64) (ht : t < n) (no : ∀ s, s < n → ¬ (sK s = 4 ∧ sU s = sU t ∧ sO (s * 5) = sL t))
    (h : post (sc, oc, ne, nI n, ca, on, st, 0, nI u, nI (fb_nx sU (nI u) (n - (t + 1)) (t + 1)), xe, xd, al, ap, ac, en, eu, ea, eb, sU, sL, sK, sE, sG, sO, gr, po, ec, cx, ou, tc, ss, av, cs)) : ∀ d, d ≤ n → wX_processEnd_17 post (nI t) (d + 1) (nI d - 1) sc oc ne (nI n) ca on st 0 (nI u) xn xe xd al ap ac en eu ea eb sU sL sK sE sG sO gr po ec cx ou tc ss av cs := by
  intro d
  induction d with
  | zero =>
    intro _
    refine br_t (by decide) ?_
    rw [nI_1]
    exact hx_next hn (by omega) h
  | succ d ih =>
    intro hd
    rw [nI_pred]
    refine br_f (nI_pos (by omega)) (hx_ended (by omega) (by omega) (fun a b c => absurd ⟨a, b, c⟩ (no d (by omega))) (fun _ => br_t rfl (nm_r (e' := nI d - 1) (by rw [Int32.sub_eq_add_neg]) (ih (by omega)))))
/-- facts of a compiled program that a run leans on -/
def hr_W (n : Nat) (al ap sU sL sK sE sG sO : Nat → Int32) : Prop := n ≤ 64 ∧ fs_S n sU sL sK sE sG sO True ∧ fs_C n al ap sU sL sK sE sG sO
theorem hr_full (W : hr_W n al ap sU sL sK sE sG sO) (hs : s < n) : fa_N sG s = fb_need (fa_N sK s) (fa_N sE s) := (ha_V (W.2.1 s hs)).2.2.2.2.2.1 (Or.inr trivial)
/-- a variable operand of statement s is good in its unit -/
theorem hr_var (W : hr_W n al ap sU sL sK sE sG sO) (hs : s < n) {p : Nat} (hp : p < fa_N sG s) (hk : fb_pl (fa_N sK s) p = 1) (hu : sU s = nI u) (hu4 : u < 4) :
    ∃ c, sO (s * 5 + p) = nI c ∧ ((fb_FX c ∧ fb_ix c ≤ fa_N al (u * 8 + fb_nm c)) ∨ fb_IX c) := by
  obtain ⟨c, e, a⟩ := (ha_V (W.2.1 s hs)).2.2.2.2.2.2 p hp
  refine ⟨c, e, ?_⟩
  rw [hk] at a
  unfold fb_al at a
  rcases a with a | ⟨_, a | a⟩ | a
  · omega
  · have := W.2.2.2.1 s p c hs hp e a
    rw [fa_Re hu (by omega)] at this
    exact Or.inl ⟨a, this⟩
  · exact Or.inr a
  · omega
theorem hr_val (W : hr_W n al ap sU sL sK sE sG sO) (hs : s < n) {p : Nat} (hp : p < fa_N sG s) (hk : fb_pl (fa_N sK s) p = 0) (hu : sU s = nI u) (hu4 : u < 4) :
    ∃ c, sO (s * 5 + p) = nI c ∧ (c < 10000 ∨ (fb_FX c ∧ fb_ix c ≤ fa_N al (u * 8 + fb_nm c)) ∨ fb_IX c) := by
  obtain ⟨c, e, a⟩ := (ha_V (W.2.1 s hs)).2.2.2.2.2.2 p hp
  refine ⟨c, e, ?_⟩
  rw [hk] at a
  unfold fb_al at a
  rcases a with a | a | ⟨_, a | a | a⟩
  · omega
  · omega
  · exact Or.inl a
  · have := W.2.2.2.1 s p c hs hp e a
    rw [fa_Re hu (by omega)] at this
    exact Or.inr (Or.inl ⟨a, this⟩)
  · exact Or.inr (Or.inr a)
theorem hr_lab (W : hr_W n al ap sU sL sK sE sG sO) (hs : s < n) {p : Nat} (hp : p < fa_N sG s) (hk : fb_pl (fa_N sK s) p = 2) :
    (∃ c, sO (s * 5 + p) = nI c ∧ c < 10000) ∧ ∃ t, t < n ∧ fb_FL sU sL n (sU s) (sO (s * 5 + p)) = nI t ∧ sU t = sU s ∧ sL t = sO (s * 5 + p) ∧ sO (s * 5 + p) ≠ 0 := by
  constructor
  · obtain ⟨c, e, a⟩ := (ha_V (W.2.1 s hs)).2.2.2.2.2.2 p hp
    rw [hk] at a
    unfold fb_al at a
    exact ⟨c, e, by omega⟩
  · obtain ⟨t, a, b, c, d, f⟩ := hs_FL (W.2.2.2.2.1 s p hs hp hk)
    exact ⟨t, a, b, c, d, f⟩
theorem hc_putSt {a b : Nat} {v : Int32} (H : hc_St RC al ap ec ad bi cx cy u) (r : RC a b) : hc_St RC al ap ec ad bi (upd cx a v) (upd cy b v) u :=
  ⟨H.1, H.2.1, fm_put H.1 H.2.2.1 r, H.2.2.2⟩
theorem he_loop {lb : Nat} (W : hr_W n al ap sU sL sK sE sG sO) (ht : t < n) (hut : sU t = nI u) (hlt : sL t = nI lb) (hu4 : u < 4) : ∀ d, d ≤ n → ∀ (cx cy tc : Nat → Int32), hc_St RC al ap ec ad bi cx cy u →
    (∃ cx' cy' tc', hc_St RC al ap ec ad bi cx' cy' u ∧ (∀ post : SX → Prop, post (sc, oc, ne, nI n, ca, on, st, 3, nI u, xn, xe, xd, al, ap, ac, en, eu, ea, eb, sU, sL, sK, sE, sG, sO, gr, po, ec, cx', ou, tc', ss, av, cs) → wX_processEnd_17 post (nI t) (d + 1) (nI d - 1) sc oc ne (nI n) ca on st 0 (nI u) xn xe xd al ap ac en eu ea eb sU sL sK sE sG sO gr po ec cx ou tc ss av cs) ∧ (∀ post : Int32 → SY → Prop, post 3 (sc, oc, ne, nI n, ca, nc, on, yp, nI u, 3, st, yl, yr, al, ap, cb, cn, ac, eu, ea, eb, sU, sL, sK, sE, sG, sO, kx, ky, kd, pl, rl, cm, hv, ba, ad, ex, cy', tc', ss, av, cs, bi, ou) → wY_endProc_26 post (nI t) (nI u) (nI lb) (d + 1) (nI d - 1) sc oc ne (nI n) ca nc on yp (nI u) 0 st yl yr al ap cb cn ac eu ea eb sU sL sK sE sG sO kx ky kd pl rl cm hv ba ad ex cy tc ss av cs bi ou)) ∨
    (∃ cx' cy' tc' p, hc_St RC al ap ec ad bi cx' cy' u ∧ p ≤ n ∧ (p < n → sU p = nI u) ∧ (∀ post : SX → Prop, post (sc, oc, ne, nI n, ca, on, st, 0, nI u, nI p, xe, xd, al, ap, ac, en, eu, ea, eb, sU, sL, sK, sE, sG, sO, gr, po, ec, cx', ou, tc', ss, av, cs) → wX_processEnd_17 post (nI t) (d + 1) (nI d - 1) sc oc ne (nI n) ca on st 0 (nI u) xn xe xd al ap ac en eu ea eb sU sL sK sE sG sO gr po ec cx ou tc ss av cs) ∧ (∀ post : Int32 → SY → Prop, post 0 (sc, oc, ne, nI n, ca, nc, on, fb_pc n p, nI u, 0, st, yl, yr, al, ap, cb, cn, ac, eu, ea, eb, sU, sL, sK, sE, sG, sO, kx, ky, kd, pl, rl, cm, hv, ba, ad, ex, cy', tc', ss, av, cs, bi, ou) → wY_endProc_26 post (nI t) (nI u) (nI lb) (d + 1) (nI d - 1) sc oc ne (nI n) ca nc on yp (nI u) 0 st yl yr al ap cb cn ac eu ea eb sU sL sK sE sG sO kx ky kd pl rl cm hv ba ad ex cy tc ss av cs bi ou)) := by
  have hn := W.1
  intro d
  induction d with
  | zero =>
    intro _ cx cy tc H
    right
    have q := fb_nx_in sU (nI u) (n - (t + 1)) (t + 1)
    refine ⟨cx, cy, tc, fb_nx sU (nI u) (n - (t + 1)) (t + 1), H, by omega, fun z => q.2.2 (by omega), fun post h => br_t (by decide) ?_, fun post h => br_t (by decide) (hy_next hn ht ?_)⟩
    · rw [nI_1]
      exact hx_next hn (by omega) h
    · rw [hut]
      exact h
  | succ d ih =>
    intro hd cx cy tc H
    have hdn : d < n := by omega
    have vd : vp_in (nI d) 64 := vp_in_nI (by omega) (by decide)
    rw [nI_pred]
    have back : nI d + (-1) = nI d - 1 := by rw [Int32.sub_eq_add_neg]
    by_cases m : sK d = 4 ∧ sU d = sU t ∧ sO (d * 5) = sL t
    · obtain ⟨m1, m2, m3⟩ := m
      have hud : sU d = nI u := m2.trans hut
      have k4 : fa_N sK d = 4 := fa_Re m1 (by decide)
      have full := hr_full W hdn
      rw [k4] at full
      have g5 : fa_N sG d = 5 := full
      obtain ⟨c, ec1, hc⟩ := hr_var (p := 1) W hdn (by omega) (by rw [k4]; rfl) hud hu4
      have e51 : nI d * 5 + 1 = nI (d * 5 + 1) := ha_5 (n := 1)
      have v51 : vp_in (nI (d * 5 + 1)) 320 := vp_in_nI (by omega) (by decide)
      rcases hc_cell (c := c) (sc := sc) (oc := oc) (ne := ne) (ca := ca) (on := on) (st := st) (xn := xn) (xe := xe) (xd := xd) (nc := nc) (yp := yp) (yl := yl) (yr := yr) (en := en) (eu := eu) (ea := ea) (eb := eb) (ac := ac) (sU := sU) (sL := sL) (sK := sK) (sE := sE) (sG := sG) (sO := sO) (gr := gr) (po := po) (ou := ou) (tc := tc) (ss := ss) (av := av) (cs := cs) (cb := cb) (cn := cn) (kx := kx) (ky := ky) (kd := kd) (pl := pl) (rl := rl) (cm := cm) (hv := hv) (ba := ba) (ex := ex) (ns := nI n) (ra := 0) (ye := 0) (yu := nI u) H hc with ⟨fx, fy⟩ | ⟨a, b, r, fx, fy⟩
      · left
        refine ⟨cx, cy, tc, H, fun post h => ?_, fun post h => ?_⟩
        · refine br_f (nI_pos (by omega)) (hx_ended (by omega) (by omega) (fun _ _ _ => br_f (by decide) ?_) (fun z => absurd ⟨m1, m2, m3⟩ z))
          rw [e51, nI_clamp (n := d * 5 + 1) (by omega), ec1]
          exact ⟨v51, fx _ (br_t rfl h)⟩
        · refine br_f (nI_pos (by omega)) ⟨vd, ?_⟩
          rw [nI_clamp (by omega)]
          refine br_t hud ⟨vd, br_t m1 ?_⟩
          rw [ha_50, nI_clamp (by omega)]
          refine ⟨vp_in_nI (by omega) (by decide), br_t (m3.trans hlt) ?_⟩
          rw [show nI (d * 5) + 1 = nI (d * 5 + 1) from nI_1 _, nI_clamp (by omega), ec1]
          exact ⟨v51, fy _ (br_f (by decide) h)⟩
      · have ab := H.1.1 a b r
        have va : vp_in (nI a) 512 := vp_in_nI ab.1 (by decide)
        have eab := H.2.2.1 a b r
        have H' : hc_St RC al ap ec ad bi (upd cx a (cx a + ss d)) (upd cy b (cy b + ss d)) u := by
          rw [eab]
          exact hc_putSt H r
        have X1 : ∀ post : SX → Prop, ((tc d - 1 ≤ 0 → wX_processEnd_17 post (nI t) (d + 1) (nI d - 1) sc oc ne (nI n) ca on st 0 (nI u) xn xe xd al ap ac en eu ea eb sU sL sK sE sG sO gr po ec (upd cx a (cx a + ss d)) ou (upd tc d (tc d - 1)) ss av cs) ∧ (¬ tc d - 1 ≤ 0 → post (sc, oc, ne, nI n, ca, on, st, 0, nI u, nI (fb_nx sU (nI u) (n - (d + 1)) (d + 1)), xe, xd, al, ap, ac, en, eu, ea, eb, sU, sL, sK, sE, sG, sO, gr, po, ec, upd cx a (cx a + ss d), ou, upd tc d (tc d - 1), ss, av, cs))) → wX_processEnd_17 post (nI t) (d + 1 + 1) (nI d) sc oc ne (nI n) ca on st 0 (nI u) xn xe xd al ap ac en eu ea eb sU sL sK sE sG sO gr po ec cx ou tc ss av cs := by
          intro post h
          refine br_f (nI_pos (by omega)) (hx_ended (by omega) (by omega) (fun _ _ _ => br_f (by decide) ?_) (fun z => absurd ⟨m1, m2, m3⟩ z))
          rw [e51, nI_clamp (n := d * 5 + 1) (by omega), ec1]
          refine ⟨v51, fx _ (br_f (fa_m1 (by omega)) ⟨va, vd, va, ?_⟩)⟩
          rw [nI_clamp (by omega), nI_clamp (by omega)]
          refine nm_e ⟨vd, vd, nm_e ⟨vd, ?_⟩⟩
          rw [pk_us]
          refine br_c (fun z => nm_r back (h.1 z)) (fun z => ?_)
          rw [nI_1]
          exact hx_next hn (by omega) (h.2 z)
        have Y1 : ∀ post : Int32 → SY → Prop, ((tc d - 1 ≤ 0 → wY_endProc_26 post (nI t) (nI u) (nI lb) (d + 1) (nI d - 1) sc oc ne (nI n) ca nc on yp (nI u) 0 st yl yr al ap cb cn ac eu ea eb sU sL sK sE sG sO kx ky kd pl rl cm hv ba ad ex (upd cy b (cy b + ss d)) (upd tc d (tc d - 1)) ss av cs bi ou) ∧ (¬ tc d - 1 ≤ 0 → post 0 (sc, oc, ne, nI n, ca, nc, on, fb_pc n (fb_nx sU (nI u) (n - (d + 1)) (d + 1)), nI u, 0, st, yl, yr, al, ap, cb, cn, ac, eu, ea, eb, sU, sL, sK, sE, sG, sO, kx, ky, kd, pl, rl, cm, hv, ba, ad, ex, upd cy b (cy b + ss d), upd tc d (tc d - 1), ss, av, cs, bi, ou))) → wY_endProc_26 post (nI t) (nI u) (nI lb) (d + 1 + 1) (nI d) sc oc ne (nI n) ca nc on yp (nI u) 0 st yl yr al ap cb cn ac eu ea eb sU sL sK sE sG sO kx ky kd pl rl cm hv ba ad ex cy tc ss av cs bi ou := by
          intro post h
          refine br_f (nI_pos (by omega)) ⟨vd, ?_⟩
          rw [nI_clamp (by omega)]
          refine br_t hud ⟨vd, br_t m1 ?_⟩
          rw [ha_50, nI_clamp (by omega)]
          refine ⟨vp_in_nI (by omega) (by decide), br_t (m3.trans hlt) ?_⟩
          rw [show nI (d * 5) + 1 = nI (d * 5 + 1) from nI_1 _, nI_clamp (by omega), ec1]
          refine ⟨v51, fy _ (br_t rfl (hc_get ab.2 ⟨vd, hc_put ab.2 ⟨vd, vd, ?_⟩⟩))⟩
          refine nm_e ⟨vd, ?_⟩
          rw [pk_us]
          refine br_c (fun z => nm_r back (h.1 z)) (fun z => hy_next hn hdn ?_)
          rw [hud]
          exact h.2 z
        by_cases z : tc d - 1 ≤ 0
        · rcases ih (by omega) _ _ (upd tc d (tc d - 1)) H' with ⟨cx', cy', tc', G, gx, gy⟩ | ⟨cx', cy', tc', p, G, p1, p2, gx, gy⟩
          · exact Or.inl ⟨cx', cy', tc', G, fun post h => X1 post (br_t z (gx post h)), fun post h => Y1 post (br_t z (gy post h))⟩
          · exact Or.inr ⟨cx', cy', tc', p, G, p1, p2, fun post h => X1 post (br_t z (gx post h)), fun post h => Y1 post (br_t z (gy post h))⟩
        · have q := fb_nx_in sU (nI u) (n - (d + 1)) (d + 1)
          exact Or.inr ⟨_, _, upd tc d (tc d - 1), fb_nx sU (nI u) (n - (d + 1)) (d + 1), H', by omega, fun w => q.2.2 (by omega), fun post h => X1 post (br_f z h), fun post h => Y1 post (br_f z h)⟩
    · have X0 : ∀ post : SX → Prop, wX_processEnd_17 post (nI t) (d + 1) (nI d - 1) sc oc ne (nI n) ca on st 0 (nI u) xn xe xd al ap ac en eu ea eb sU sL sK sE sG sO gr po ec cx ou tc ss av cs → wX_processEnd_17 post (nI t) (d + 1 + 1) (nI d) sc oc ne (nI n) ca on st 0 (nI u) xn xe xd al ap ac en eu ea eb sU sL sK sE sG sO gr po ec cx ou tc ss av cs := fun post h =>
        br_f (nI_pos (by omega)) (hx_ended (by omega) (by omega) (fun a b c => absurd ⟨a, b, c⟩ m) (fun _ => br_t rfl (nm_r back h)))
      have Y0 : ∀ post : Int32 → SY → Prop, wY_endProc_26 post (nI t) (nI u) (nI lb) (d + 1) (nI d - 1) sc oc ne (nI n) ca nc on yp (nI u) 0 st yl yr al ap cb cn ac eu ea eb sU sL sK sE sG sO kx ky kd pl rl cm hv ba ad ex cy tc ss av cs bi ou → wY_endProc_26 post (nI t) (nI u) (nI lb) (d + 1 + 1) (nI d) sc oc ne (nI n) ca nc on yp (nI u) 0 st yl yr al ap cb cn ac eu ea eb sU sL sK sE sG sO kx ky kd pl rl cm hv ba ad ex cy tc ss av cs bi ou := by
        intro post h
        refine br_f (nI_pos (by omega)) ⟨vd, ?_⟩
        rw [nI_clamp (by omega)]
        refine br_c (fun a => ⟨vd, br_c (fun b => ?_) (fun b => nm_r back h)⟩) (fun a => nm_r back h)
        rw [ha_50, nI_clamp (by omega)]
        exact ⟨vp_in_nI (by omega) (by decide), br_c (fun c => absurd ⟨b, a.trans hut.symm, c.trans hlt.symm⟩ m) (fun c => nm_r back h)⟩
      rcases ih (by omega) cx cy tc H with ⟨cx', cy', tc', G, gx, gy⟩ | ⟨cx', cy', tc', p, G, p1, p2, gx, gy⟩
      · exact Or.inl ⟨cx', cy', tc', G, fun post h => X0 post (gx post h), fun post h => Y0 post (gy post h)⟩
      · exact Or.inr ⟨cx', cy', tc', p, G, p1, p2, fun post h => X0 post (gx post h), fun post h => Y0 post (gy post h)⟩
/-- end processing of statement t for the DOs before q -/
theorem he_both {q : Nat} (W : hr_W n al ap sU sL sK sE sG sO) (ht : t < n) (hq : q ≤ n) (hut : sU t = nI u) (H : hc_St RC al ap ec ad bi cx cy u) :
    (∃ cx' cy' tc', hc_St RC al ap ec ad bi cx' cy' u ∧ (∀ post : SX → Prop, post (sc, oc, ne, nI n, ca, on, st, 3, nI u, xn, -1, nI q, al, ap, ac, en, eu, ea, eb, sU, sL, sK, sE, sG, sO, gr, po, ec, cx', ou, tc', ss, av, cs) → wpX_processEnd post (sc, oc, ne, nI n, ca, on, st, 0, nI u, xn, nI t, nI q, al, ap, ac, en, eu, ea, eb, sU, sL, sK, sE, sG, sO, gr, po, ec, cx, ou, tc, ss, av, cs)) ∧ (∀ post : Int32 → SY → Prop, post 3 (sc, oc, ne, nI n, ca, nc, on, yp, nI u, 3, st, yl, yr, al, ap, cb, cn, ac, eu, ea, eb, sU, sL, sK, sE, sG, sO, kx, ky, kd, pl, rl, cm, hv, ba, ad, ex, cy', tc', ss, av, cs, bi, ou) → wpY_endProc post (sc, oc, ne, nI n, ca, nc, on, yp, nI u, 0, st, yl, yr, al, ap, cb, cn, ac, eu, ea, eb, sU, sL, sK, sE, sG, sO, kx, ky, kd, pl, rl, cm, hv, ba, ad, ex, cy, tc, ss, av, cs, bi, ou) (nI t) (nI q))) ∨
    (∃ cx' cy' tc' p, hc_St RC al ap ec ad bi cx' cy' u ∧ p ≤ n ∧ (p < n → sU p = nI u) ∧ (∀ post : SX → Prop, post (sc, oc, ne, nI n, ca, on, st, 0, nI u, nI p, -1, nI q, al, ap, ac, en, eu, ea, eb, sU, sL, sK, sE, sG, sO, gr, po, ec, cx', ou, tc', ss, av, cs) → wpX_processEnd post (sc, oc, ne, nI n, ca, on, st, 0, nI u, xn, nI t, nI q, al, ap, ac, en, eu, ea, eb, sU, sL, sK, sE, sG, sO, gr, po, ec, cx, ou, tc, ss, av, cs)) ∧ (∀ post : Int32 → SY → Prop, post 0 (sc, oc, ne, nI n, ca, nc, on, fb_pc n p, nI u, 0, st, yl, yr, al, ap, cb, cn, ac, eu, ea, eb, sU, sL, sK, sE, sG, sO, kx, ky, kd, pl, rl, cm, hv, ba, ad, ex, cy', tc', ss, av, cs, bi, ou) → wpY_endProc post (sc, oc, ne, nI n, ca, nc, on, yp, nI u, 0, st, yl, yr, al, ap, cb, cn, ac, eu, ea, eb, sU, sL, sK, sE, sG, sO, kx, ky, kd, pl, rl, cm, hv, ba, ad, ex, cy, tc, ss, av, cs, bi, ou) (nI t) (nI q))) := by
  have hn := W.1
  have hu4 := H.2.2.2.2.1
  obtain ⟨_, _, _, _, ⟨hl1, hl2⟩, _⟩ := ha_V (W.2.1 t ht)
  have vt : vp_in (nI t) 64 := vp_in_nI (by omega) (by decide)
  have Yh : ∀ post : Int32 → SY → Prop, ((fa_N sL t < 1 → wY_endProc_165 post (nI t) sc oc ne (nI n) ca nc on yp (nI u) 0 st yl yr al ap cb cn ac eu ea eb sU sL sK sE sG sO kx ky kd pl rl cm hv ba ad ex cy tc ss av cs bi ou) ∧ (1 ≤ fa_N sL t → ∃ k, wY_endProc_26 post (nI t) (nI u) (nI (fa_N sL t)) k (nI q - 1) sc oc ne (nI n) ca nc on yp (nI u) 0 st yl yr al ap cb cn ac eu ea eb sU sL sK sE sG sO kx ky kd pl rl cm hv ba ad ex cy tc ss av cs bi ou)) → wpY_endProc post (sc, oc, ne, nI n, ca, nc, on, yp, nI u, 0, st, yl, yr, al, ap, cb, cn, ac, eu, ea, eb, sU, sL, sK, sE, sG, sO, kx, ky, kd, pl, rl, cm, hv, ba, ad, ex, cy, tc, ss, av, cs, bi, ou) (nI t) (nI q) := by
    intro post h
    unfold wpY_endProc
    dsimp only
    rw [nI_clamp (by omega), hut]
    refine ⟨vt, nm_e ⟨vt, nm_r hl1 (pk_lt (fa_N sL t) 1 h.1 (fun z => nm_e (h.2 z)))⟩⟩
  by_cases z : fa_N sL t < 1
  · right
    have qn := fb_nx_in sU (nI u) (n - (t + 1)) (t + 1)
    refine ⟨cx, cy, tc, fb_nx sU (nI u) (n - (t + 1)) (t + 1), H, by omega, fun w => qn.2.2 (by omega), fun post h => ?_, fun post h => Yh post ⟨fun _ => hy_next hn ht (by rw [hut]; exact h), fun w => by omega⟩⟩
    refine nm_e ⟨q + 1, he_x0 hn ht ?_ h q hq⟩
    rintro s hs ⟨m1, m2, m3⟩
    have k4 : fa_N sK s = 4 := fa_Re m1 (by decide)
    have full := hr_full W hs
    rw [k4] at full
    have g5 : fa_N sG s = 5 := full
    obtain ⟨_, t', _, _, _, _, ne0⟩ := hr_lab (p := 0) W hs (by omega) (by rw [k4]; rfl)
    have e0 : fa_N sL t = 0 := by omega
    rw [e0] at hl1
    exact ne0 (m3.trans hl1)
  · rcases he_loop (xe := -1) (xd := nI q) (sc := sc) (oc := oc) (ne := ne) (ca := ca) (on := on) (st := st) (xn := xn) (nc := nc) (yp := yp) (yl := yl) (yr := yr) (en := en) (eu := eu) (ea := ea) (eb := eb) (ac := ac) (gr := gr) (po := po) (ou := ou) (ss := ss) (av := av) (cs := cs) (cb := cb) (cn := cn) (kx := kx) (ky := ky) (kd := kd) (pl := pl) (rl := rl) (cm := cm) (hv := hv) (ba := ba) (ex := ex) W ht hut hl1 hu4 q hq cx cy tc H with ⟨cx', cy', tc', G, gx, gy⟩ | ⟨cx', cy', tc', p, G, p1, p2, gx, gy⟩
    · exact Or.inl ⟨cx', cy', tc', G, fun post h => nm_e ⟨q + 1, gx post h⟩, fun post h => Yh post ⟨fun w => absurd w z, fun _ => ⟨q + 1, gy post h⟩⟩⟩
    · exact Or.inr ⟨cx', cy', tc', p, G, p1, p2, fun post h => nm_e ⟨q + 1, gx post h⟩, fun post h => Yh post ⟨fun w => absurd w z, fun _ => ⟨q + 1, gy post h⟩⟩⟩
end HEN
