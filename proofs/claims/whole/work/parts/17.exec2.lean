section HEY
/-! the other statements -/
variable {sc oc ne ns ca on st ra xu xn xe xd nc yp yu ye yl yr : Int32} {al ap ac en eu ea eb sU sL sK sE sG sO gr po ec cx ou tc ss av cs cb cn kx ky kd pl rl cm hv ba ad ex cy bi : Nat → Int32}
variable {RC : Nat → Nat → Prop} {u n t s : Nat} {Goal : Prop}
theorem ex_pc {p : Nat} (h : p < n) : fb_pc n p = nI p := if_pos h
theorem ex_xgo {P : SX → Prop} {p : Nat} (W : hr_W n al ap sU sL sK sE sG sO) (hs : s < n) (hus : sU s = nI u) (hp : p < fa_N sG s) (g5 : fa_N sG s ≤ 5) (e : fb_FL sU sL n (sU s) (sO (s * 5 + p)) = nI t) (h : P (sc, oc, ne, nI n, ca, on, st, 0, nI u, nI t, xe, xd, al, ap, ac, en, eu, ea, eb, sU, sL, sK, sE, sG, sO, gr, po, ec, cx, ou, tc, ss, av, cs)) : wpX_goToLabel P (sc, oc, ne, nI n, ca, on, st, 0, nI u, xn, xe, xd, al, ap, ac, en, eu, ea, eb, sU, sL, sK, sE, sG, sO, gr, po, ec, cx, ou, tc, ss, av, cs) (nI s) (nI p) := by
  have hn := W.1
  unfold wpX_goToLabel
  rw [hus] at e
  rw [ha_5, nI_clamp (by omega)]
  refine ⟨vp_in_nI (by omega) (by decide), hx_findLabel hn ?_⟩
  rw [e]
  exact h
theorem ex_ygo {P : Int32 → SY → Prop} {p : Nat} (W : hr_W n al ap sU sL sK sE sG sO) (hs : s < n) (hus : sU s = nI u) (hp : p < fa_N sG s) (g5 : fa_N sG s ≤ 5) (hk : fb_pl (fa_N sK s) p = 2) (ht : t < n) (e : fb_FL sU sL n (sU s) (sO (s * 5 + p)) = nI t) (h : P 0 (sc, oc, ne, nI n, ca, nc, on, fb_pc n t, nI u, 0, st, yl, yr, al, ap, cb, cn, ac, eu, ea, eb, sU, sL, sK, sE, sG, sO, kx, ky, kd, pl, rl, cm, hv, ba, ad, ex, cy, tc, ss, av, cs, bi, ou)) :
    vp_in (nI (s * 5) + nI p) 320 ∧ wpY_findLabel (fun r => P 0 (sc, oc, ne, nI n, ca, nc, on, r, nI u, 0, st, yl, yr, al, ap, cb, cn, ac, eu, ea, eb, sU, sL, sK, sE, sG, sO, kx, ky, kd, pl, rl, cm, hv, ba, ad, ex, cy, tc, ss, av, cs, bi, ou)) (sc, oc, ne, nI n, ca, nc, on, yp, nI u, 0, st, yl, yr, al, ap, cb, cn, ac, eu, ea, eb, sU, sL, sK, sE, sG, sO, kx, ky, kd, pl, rl, cm, hv, ba, ad, ex, cy, tc, ss, av, cs, bi, ou) (nI u) (sO (nI (s * 5) + nI p).toNatClampNeg) := by
  have hn := W.1
  obtain ⟨⟨c, f, hc⟩, _⟩ := hr_lab W hs hp hk
  rw [nI_add (s * 5) p, nI_clamp (n := s * 5 + p) (by omega), f]
  rw [f, hus] at e
  refine ⟨vp_in_nI (by omega) (by decide), hy_findLabel hn (by omega) ?_⟩
  rw [e, ← ex_pc ht]
  exact h
theorem ex_if (W : hr_W n al ap sU sL sK sE sG sO) (H : hc_St RC al ap ec ad bi cx cy u) (hs : s < n) (hus : sU s = nI u) (hk : fa_N sK s = 2) (c_stop : ∀ (r ye' : Int32), r ≠ 0 → (∀ P : SX → Prop, P (sc, oc, ne, nI n, ca, on, st, r, nI u, xn, xe, xd, al, ap, ac, en, eu, ea, eb, sU, sL, sK, sE, sG, sO, gr, po, ec, cx, ou, tc, ss, av, cs) → wpX_execute P (sc, oc, ne, nI n, ca, on, st, 0, nI u, xn, xe, xd, al, ap, ac, en, eu, ea, eb, sU, sL, sK, sE, sG, sO, gr, po, ec, cx, ou, tc, ss, av, cs) (nI s)) → (∀ P : Int32 → SY → Prop, P r (sc, oc, ne, nI n, ca, nc, on, yp, nI u, ye', st, yl, yr, al, ap, cb, cn, ac, eu, ea, eb, sU, sL, sK, sE, sG, sO, kx, ky, kd, pl, rl, cm, hv, ba, ad, ex, cy, tc, ss, av, cs, bi, ou) → wpY_exec P (sc, oc, ne, nI n, ca, nc, on, yp, nI u, 0, st, yl, yr, al, ap, cb, cn, ac, eu, ea, eb, sU, sL, sK, sE, sG, sO, kx, ky, kd, pl, rl, cm, hv, ba, ad, ex, cy, tc, ss, av, cs, bi, ou) (nI s)) → Goal) (c_jump : ∀ (p : Nat) (cx' cy' tc' ss' : Nat → Int32), p ≤ n → (p < n → sU p = nI u) → hc_St RC al ap ec ad bi cx' cy' u → (∀ P : SX → Prop, P (sc, oc, ne, nI n, ca, on, st, 0, nI u, nI p, xe, xd, al, ap, ac, en, eu, ea, eb, sU, sL, sK, sE, sG, sO, gr, po, ec, cx', ou, tc', ss', av, cs) → wpX_execute P (sc, oc, ne, nI n, ca, on, st, 0, nI u, xn, xe, xd, al, ap, ac, en, eu, ea, eb, sU, sL, sK, sE, sG, sO, gr, po, ec, cx, ou, tc, ss, av, cs) (nI s)) → (∀ P : Int32 → SY → Prop, P 0 (sc, oc, ne, nI n, ca, nc, on, fb_pc n p, nI u, 0, st, yl, yr, al, ap, cb, cn, ac, eu, ea, eb, sU, sL, sK, sE, sG, sO, kx, ky, kd, pl, rl, cm, hv, ba, ad, ex, cy', tc', ss', av, cs, bi, ou) → wpY_exec P (sc, oc, ne, nI n, ca, nc, on, yp, nI u, 0, st, yl, yr, al, ap, cb, cn, ac, eu, ea, eb, sU, sL, sK, sE, sG, sO, kx, ky, kd, pl, rl, cm, hv, ba, ad, ex, cy, tc, ss, av, cs, bi, ou) (nI s)) → Goal) : Goal := by
  have hn := W.1
  have hu4 := H.2.2.2.2.1
  obtain ⟨⟨k1, k2, k3⟩, ⟨e1, e2, e3⟩, _⟩ := ha_V (W.2.1 s hs)
  rw [hk] at k1 e2
  have g5 : fa_N sG s = 5 := by rw [hr_full W hs, hk]; rfl
  obtain ⟨c1, f1, v1⟩ := hr_val (p := 0) W hs (by omega) (by rw [hk]; rfl) hus hu4
  obtain ⟨c2, f2, v2⟩ := hr_val (p := 1) W hs (by omega) (by rw [hk]; rfl) hus hu4
  have f1' : sO (s * 5) = nI c1 := f1
  have vs : vp_in (nI s) 64 := vp_in_nI (by omega) (by decide)
  have v5 : vp_in (nI (s * 5)) 320 := vp_in_nI (by omega) (by decide)
  have X0 : ∀ P : SX → Prop, wpX_executeIf P (sc, oc, ne, nI n, ca, on, st, 0, nI u, xn, xe, xd, al, ap, ac, en, eu, ea, eb, sU, sL, sK, sE, sG, sO, gr, po, ec, cx, ou, tc, ss, av, cs) (nI s) → wpX_execute P (sc, oc, ne, nI n, ca, on, st, 0, nI u, xn, xe, xd, al, ap, ac, en, eu, ea, eb, sU, sL, sK, sE, sG, sO, gr, po, ec, cx, ou, tc, ss, av, cs) (nI s) := fun P h =>
    ex_xk (by omega) (by decide) (by decide) k1 ⟨fun z => by omega, fun _ => h, fun z => by omega, fun z => by omega, fun z => by omega, fun z => by omega, fun z => by omega, fun z => by omega, fun z => by omega⟩
  rcases hc_read (s := s) (p := 0) (sc := sc) (oc := oc) (ne := ne) (ns := nI n) (ca := ca) (on := on) (st := st) (ra := 0) (xn := xn) (xe := xe) (xd := xd) (nc := nc) (yp := yp) (yu := nI u) (yl := yl) (yr := yr) (ac := ac) (en := en) (eu := eu) (ea := ea) (eb := eb) (sU := sU) (sL := sL) (sK := sK) (sE := sE) (sG := sG) (sO := sO) (gr := gr) (po := po) (ou := ou) (tc := tc) (ss := ss) (av := av) (cs := cs) (cb := cb) (cn := cn) (kx := kx) (ky := ky) (kd := kd) (pl := pl) (rl := rl) (cm := cm) (hv := hv) (ba := ba) (ex := ex) H (by omega) (by decide) f1 v1 with ⟨rx, ry⟩ | ⟨x, rx, ry⟩
  · refine c_stop 3 3 (by decide) (fun P h => X0 P (by unfold wpX_executeIf; exact rx _ (br_f (by decide) h))) (fun P h => ?_)
    refine ⟨vs, nm_r (e' := nI u) (by rw [nI_clamp (by omega)]; exact hus) ⟨vs, nm_r (e' := nI 2) (by rw [nI_clamp (by omega)]; exact k1) ⟨vs, nm_r (e' := nI (fa_N sE s)) (by rw [nI_clamp (by omega)]; exact e1) (nm_r (e' := nI (s * 5)) ha_50 (br_f (by decide) (br_t (by decide) (?_))))⟩⟩⟩
    rw [nI_clamp (n := s * 5) (by omega), f1']
    exact ⟨v5, ry _ (br_f (by decide) h)⟩
  rcases hc_read (s := s) (p := 1) (sc := sc) (oc := oc) (ne := ne) (ns := nI n) (ca := ca) (on := on) (st := st) (ra := 0) (xn := xn) (xe := xe) (xd := xd) (nc := nc) (yp := yp) (yu := nI u) (yl := yl) (yr := yr) (ac := ac) (en := en) (eu := eu) (ea := ea) (eb := eb) (sU := sU) (sL := sL) (sK := sK) (sE := sE) (sG := sG) (sO := sO) (gr := gr) (po := po) (ou := ou) (tc := tc) (ss := ss) (av := av) (cs := cs) (cb := cb) (cn := cn) (kx := kx) (ky := ky) (kd := kd) (pl := pl) (rl := rl) (cm := cm) (hv := hv) (ba := ba) (ex := ex) H (by omega) (by decide) f2 v2 with ⟨rx2, ry2⟩ | ⟨y, rx2, ry2⟩
  · refine c_stop 3 3 (by decide) (fun P h => X0 P (by unfold wpX_executeIf; exact rx _ (br_t rfl (rx2 _ (br_f (by decide) h))))) (fun P h => ?_)
    refine ⟨vs, nm_r (e' := nI u) (by rw [nI_clamp (by omega)]; exact hus) ⟨vs, nm_r (e' := nI 2) (by rw [nI_clamp (by omega)]; exact k1) ⟨vs, nm_r (e' := nI (fa_N sE s)) (by rw [nI_clamp (by omega)]; exact e1) (nm_r (e' := nI (s * 5)) ha_50 (br_f (by decide) (br_t (by decide) (?_))))⟩⟩⟩
    rw [nI_clamp (n := s * 5) (by omega), f1']
    refine ⟨v5, ry _ (br_t rfl ?_)⟩
    rw [nI_1 (s * 5), nI_clamp (n := s * 5 + 1) (by omega), f2]
    exact ⟨vp_in_nI (by omega) (by decide), ry2 _ (br_f (by decide) h)⟩
  have Y2 : ∀ P : Int32 → SY → Prop, ((0 ≤ x - y → ((x - y = 0 → wY_exec_275 P (nI u) (nI (s * 5)) 3 sc oc ne (nI n) ca nc on yp (nI u) 0 st yl yr al ap cb cn ac eu ea eb sU sL sK sE sG sO kx ky kd pl rl cm hv ba ad ex cy tc ss av cs bi ou) ∧ (¬ x - y = 0 → wY_exec_275 P (nI u) (nI (s * 5)) 4 sc oc ne (nI n) ca nc on yp (nI u) 0 st yl yr al ap cb cn ac eu ea eb sU sL sK sE sG sO kx ky kd pl rl cm hv ba ad ex cy tc ss av cs bi ou))) ∧ (¬ 0 ≤ x - y → wY_exec_275 P (nI u) (nI (s * 5)) 2 sc oc ne (nI n) ca nc on yp (nI u) 0 st yl yr al ap cb cn ac eu ea eb sU sL sK sE sG sO kx ky kd pl rl cm hv ba ad ex cy tc ss av cs bi ou)) → wpY_exec P (sc, oc, ne, nI n, ca, nc, on, yp, nI u, 0, st, yl, yr, al, ap, cb, cn, ac, eu, ea, eb, sU, sL, sK, sE, sG, sO, kx, ky, kd, pl, rl, cm, hv, ba, ad, ex, cy, tc, ss, av, cs, bi, ou) (nI s) := by
    intro P h
    refine ⟨vs, nm_r (e' := nI u) (by rw [nI_clamp (by omega)]; exact hus) ⟨vs, nm_r (e' := nI 2) (by rw [nI_clamp (by omega)]; exact k1) ⟨vs, nm_r (e' := nI (fa_N sE s)) (by rw [nI_clamp (by omega)]; exact e1) (nm_r (e' := nI (s * 5)) ha_50 (br_f (by decide) (br_t (by decide) (?_))))⟩⟩⟩
    rw [nI_clamp (n := s * 5) (by omega), f1']
    refine ⟨v5, ry _ (br_t rfl ?_)⟩
    rw [nI_1 (s * 5), nI_clamp (n := s * 5 + 1) (by omega), f2]
    exact ⟨vp_in_nI (by omega) (by decide), ry2 _ (br_t rfl (nm_e h))⟩
  have go : ∀ j, 2 ≤ j → j ≤ 4 → (∀ P : SX → Prop, wX_executeIf_56 P (nI j) (nI s) sc oc ne (nI n) ca on st 0 (nI u) xn xe xd al ap ac en eu ea eb sU sL sK sE sG sO gr po ec cx ou tc ss av cs → wpX_execute P (sc, oc, ne, nI n, ca, on, st, 0, nI u, xn, xe, xd, al, ap, ac, en, eu, ea, eb, sU, sL, sK, sE, sG, sO, gr, po, ec, cx, ou, tc, ss, av, cs) (nI s)) → (∀ P : Int32 → SY → Prop, wY_exec_275 P (nI u) (nI (s * 5)) (nI j) sc oc ne (nI n) ca nc on yp (nI u) 0 st yl yr al ap cb cn ac eu ea eb sU sL sK sE sG sO kx ky kd pl rl cm hv ba ad ex cy tc ss av cs bi ou → wpY_exec P (sc, oc, ne, nI n, ca, nc, on, yp, nI u, 0, st, yl, yr, al, ap, cb, cn, ac, eu, ea, eb, sU, sL, sK, sE, sG, sO, kx, ky, kd, pl, rl, cm, hv, ba, ad, ex, cy, tc, ss, av, cs, bi, ou) (nI s)) → Goal := by
    intro j j2 j4 hx hy
    have pl2 : fb_pl (fa_N sK s) j = 2 := by rw [hk]; show (if j < 2 then 0 else 2) = 2; exact if_neg (by omega)
    obtain ⟨_, t, ht, e, ut, _⟩ := hr_lab (p := j) W hs (by omega) pl2
    exact c_jump t cx cy tc ss (by omega) (fun _ => ut.trans hus) H (fun P h => hx P (ex_xgo W hs hus (by omega) (by omega) e h)) (fun P h => hy P (ex_ygo W hs hus (by omega) (by omega) pl2 ht e h))
  by_cases z : 0 ≤ x - y
  · by_cases z' : x - y = 0
    · exact go 3 (by decide) (by decide) (fun P h => X0 P (by unfold wpX_executeIf; exact rx _ (br_t rfl (rx2 _ (br_t rfl (nm_e (br_t z (br_t z' h)))))))) (fun P h => Y2 P (br_t z (br_t z' h)))
    · exact go 4 (by decide) (by decide) (fun P h => X0 P (by unfold wpX_executeIf; exact rx _ (br_t rfl (rx2 _ (br_t rfl (nm_e (br_t z (br_f z' h)))))))) (fun P h => Y2 P (br_t z (br_f z' h)))
  · exact go 2 (by decide) (by decide) (fun P h => X0 P (by unfold wpX_executeIf; exact rx _ (br_t rfl (rx2 _ (br_t rfl (nm_e (br_f z h))))))) (fun P h => Y2 P (br_f z h))
theorem ex_goto (W : hr_W n al ap sU sL sK sE sG sO) (H : hc_St RC al ap ec ad bi cx cy u) (hs : s < n) (hus : sU s = nI u) (hk : fa_N sK s = 3) (c_stop : ∀ (r ye' : Int32), r ≠ 0 → (∀ P : SX → Prop, P (sc, oc, ne, nI n, ca, on, st, r, nI u, xn, xe, xd, al, ap, ac, en, eu, ea, eb, sU, sL, sK, sE, sG, sO, gr, po, ec, cx, ou, tc, ss, av, cs) → wpX_execute P (sc, oc, ne, nI n, ca, on, st, 0, nI u, xn, xe, xd, al, ap, ac, en, eu, ea, eb, sU, sL, sK, sE, sG, sO, gr, po, ec, cx, ou, tc, ss, av, cs) (nI s)) → (∀ P : Int32 → SY → Prop, P r (sc, oc, ne, nI n, ca, nc, on, yp, nI u, ye', st, yl, yr, al, ap, cb, cn, ac, eu, ea, eb, sU, sL, sK, sE, sG, sO, kx, ky, kd, pl, rl, cm, hv, ba, ad, ex, cy, tc, ss, av, cs, bi, ou) → wpY_exec P (sc, oc, ne, nI n, ca, nc, on, yp, nI u, 0, st, yl, yr, al, ap, cb, cn, ac, eu, ea, eb, sU, sL, sK, sE, sG, sO, kx, ky, kd, pl, rl, cm, hv, ba, ad, ex, cy, tc, ss, av, cs, bi, ou) (nI s)) → Goal) (c_jump : ∀ (p : Nat) (cx' cy' tc' ss' : Nat → Int32), p ≤ n → (p < n → sU p = nI u) → hc_St RC al ap ec ad bi cx' cy' u → (∀ P : SX → Prop, P (sc, oc, ne, nI n, ca, on, st, 0, nI u, nI p, xe, xd, al, ap, ac, en, eu, ea, eb, sU, sL, sK, sE, sG, sO, gr, po, ec, cx', ou, tc', ss', av, cs) → wpX_execute P (sc, oc, ne, nI n, ca, on, st, 0, nI u, xn, xe, xd, al, ap, ac, en, eu, ea, eb, sU, sL, sK, sE, sG, sO, gr, po, ec, cx, ou, tc, ss, av, cs) (nI s)) → (∀ P : Int32 → SY → Prop, P 0 (sc, oc, ne, nI n, ca, nc, on, fb_pc n p, nI u, 0, st, yl, yr, al, ap, cb, cn, ac, eu, ea, eb, sU, sL, sK, sE, sG, sO, kx, ky, kd, pl, rl, cm, hv, ba, ad, ex, cy', tc', ss', av, cs, bi, ou) → wpY_exec P (sc, oc, ne, nI n, ca, nc, on, yp, nI u, 0, st, yl, yr, al, ap, cb, cn, ac, eu, ea, eb, sU, sL, sK, sE, sG, sO, kx, ky, kd, pl, rl, cm, hv, ba, ad, ex, cy, tc, ss, av, cs, bi, ou) (nI s)) → Goal) : Goal := by
  have hn := W.1
  have hu4 := H.2.2.2.2.1
  obtain ⟨⟨k1, k2, k3⟩, ⟨e1, e2, e3⟩, _⟩ := ha_V (W.2.1 s hs)
  rw [hk] at k1 e2
  have g5 : fa_N sG s = 1 + fa_N sE s := by rw [hr_full W hs, hk]; rfl
  have ee : 1 ≤ fa_N sE s ∧ fa_N sE s ≤ 4 := by unfold fb_xok at e2; omega
  obtain ⟨c1, f1, v1⟩ := hr_val (p := 0) W hs (by omega) (by rw [hk]; rfl) hus hu4
  have f1' : sO (s * 5) = nI c1 := f1
  have vs : vp_in (nI s) 64 := vp_in_nI (by omega) (by decide)
  have v5 : vp_in (nI (s * 5)) 320 := vp_in_nI (by omega) (by decide)
  have X0 : ∀ P : SX → Prop, wpX_executeGoto P (sc, oc, ne, nI n, ca, on, st, 0, nI u, xn, xe, xd, al, ap, ac, en, eu, ea, eb, sU, sL, sK, sE, sG, sO, gr, po, ec, cx, ou, tc, ss, av, cs) (nI s) → wpX_execute P (sc, oc, ne, nI n, ca, on, st, 0, nI u, xn, xe, xd, al, ap, ac, en, eu, ea, eb, sU, sL, sK, sE, sG, sO, gr, po, ec, cx, ou, tc, ss, av, cs) (nI s) := fun P h =>
    ex_xk (by omega) (by decide) (by decide) k1 ⟨fun z => by omega, fun z => by omega, fun _ => h, fun z => by omega, fun z => by omega, fun z => by omega, fun z => by omega, fun z => by omega, fun z => by omega⟩
  rcases hc_read (s := s) (p := 0) (sc := sc) (oc := oc) (ne := ne) (ns := nI n) (ca := ca) (on := on) (st := st) (ra := 0) (xn := xn) (xe := xe) (xd := xd) (nc := nc) (yp := yp) (yu := nI u) (yl := yl) (yr := yr) (ac := ac) (en := en) (eu := eu) (ea := ea) (eb := eb) (sU := sU) (sL := sL) (sK := sK) (sE := sE) (sG := sG) (sO := sO) (gr := gr) (po := po) (ou := ou) (tc := tc) (ss := ss) (av := av) (cs := cs) (cb := cb) (cn := cn) (kx := kx) (ky := ky) (kd := kd) (pl := pl) (rl := rl) (cm := cm) (hv := hv) (ba := ba) (ex := ex) H (by omega) (by decide) f1 v1 with ⟨rx, ry⟩ | ⟨x, rx, ry⟩
  · refine c_stop 3 3 (by decide) (fun P h => X0 P (by unfold wpX_executeGoto; exact rx _ (br_f (by decide) h))) (fun P h => ?_)
    refine ⟨vs, nm_r (e' := nI u) (by rw [nI_clamp (by omega)]; exact hus) ⟨vs, nm_r (e' := nI 3) (by rw [nI_clamp (by omega)]; exact k1) ⟨vs, nm_r (e' := nI (fa_N sE s)) (by rw [nI_clamp (by omega)]; exact e1) (nm_r (e' := nI (s * 5)) ha_50 (br_f (by decide) (br_f (by decide) (br_t (by decide) (?_)))))⟩⟩⟩
    rw [nI_clamp (n := s * 5) (by omega), f1']
    exact ⟨v5, ry _ (br_f (by decide) h)⟩
  have X2 : ∀ P : SX → Prop, ((x < 1 → wX_executeGoto_39 P (nI s) sc oc ne (nI n) ca on st 0 (nI u) xn xe xd al ap ac en eu ea eb sU sL sK sE sG sO gr po ec cx ou tc ss av cs) ∧ (¬ x < 1 → ((nI (fa_N sE s) < x → wX_executeGoto_39 P (nI s) sc oc ne (nI n) ca on st 0 (nI u) xn xe xd al ap ac en eu ea eb sU sL sK sE sG sO gr po ec cx ou tc ss av cs) ∧ (¬ nI (fa_N sE s) < x → wpX_goToLabel P (sc, oc, ne, nI n, ca, on, st, 0, nI u, xn, xe, xd, al, ap, ac, en, eu, ea, eb, sU, sL, sK, sE, sG, sO, gr, po, ec, cx, ou, tc, ss, av, cs) (nI s) x)))) → wpX_execute P (sc, oc, ne, nI n, ca, on, st, 0, nI u, xn, xe, xd, al, ap, ac, en, eu, ea, eb, sU, sL, sK, sE, sG, sO, gr, po, ec, cx, ou, tc, ss, av, cs) (nI s) := by
    intro P h
    refine X0 P ?_
    unfold wpX_executeGoto
    refine rx _ (br_t rfl (br_c h.1 (fun z => ⟨vs, ?_⟩)))
    rw [nI_clamp (n := s) (by omega), e1]
    exact h.2 z
  have Y2 : ∀ P : Int32 → SY → Prop, ((x < 1 → wY_exec_364 P (nI s) sc oc ne (nI n) ca nc on yp (nI u) 0 st yl yr al ap cb cn ac eu ea eb sU sL sK sE sG sO kx ky kd pl rl cm hv ba ad ex cy tc ss av cs bi ou) ∧ (¬ x < 1 → ((nI (fa_N sE s) < x → wY_exec_364 P (nI s) sc oc ne (nI n) ca nc on yp (nI u) 0 st yl yr al ap cb cn ac eu ea eb sU sL sK sE sG sO kx ky kd pl rl cm hv ba ad ex cy tc ss av cs bi ou) ∧ (¬ nI (fa_N sE s) < x → (vp_in (nI (s * 5) + x) 320 ∧ wpY_findLabel (fun r => P 0 (sc, oc, ne, nI n, ca, nc, on, r, nI u, 0, st, yl, yr, al, ap, cb, cn, ac, eu, ea, eb, sU, sL, sK, sE, sG, sO, kx, ky, kd, pl, rl, cm, hv, ba, ad, ex, cy, tc, ss, av, cs, bi, ou)) (sc, oc, ne, nI n, ca, nc, on, yp, nI u, 0, st, yl, yr, al, ap, cb, cn, ac, eu, ea, eb, sU, sL, sK, sE, sG, sO, kx, ky, kd, pl, rl, cm, hv, ba, ad, ex, cy, tc, ss, av, cs, bi, ou) (nI u) (sO (nI (s * 5) + x).toNatClampNeg)))))) → wpY_exec P (sc, oc, ne, nI n, ca, nc, on, yp, nI u, 0, st, yl, yr, al, ap, cb, cn, ac, eu, ea, eb, sU, sL, sK, sE, sG, sO, kx, ky, kd, pl, rl, cm, hv, ba, ad, ex, cy, tc, ss, av, cs, bi, ou) (nI s) := by
    intro P h
    refine ⟨vs, nm_r (e' := nI u) (by rw [nI_clamp (by omega)]; exact hus) ⟨vs, nm_r (e' := nI 3) (by rw [nI_clamp (by omega)]; exact k1) ⟨vs, nm_r (e' := nI (fa_N sE s)) (by rw [nI_clamp (by omega)]; exact e1) (nm_r (e' := nI (s * 5)) ha_50 (br_f (by decide) (br_f (by decide) (br_t (by decide) (?_)))))⟩⟩⟩
    rw [nI_clamp (n := s * 5) (by omega), f1']
    exact ⟨v5, ry _ (br_t rfl h)⟩
  have nx : (∀ P : SX → Prop, wX_executeGoto_39 P (nI s) sc oc ne (nI n) ca on st 0 (nI u) xn xe xd al ap ac en eu ea eb sU sL sK sE sG sO gr po ec cx ou tc ss av cs → wpX_execute P (sc, oc, ne, nI n, ca, on, st, 0, nI u, xn, xe, xd, al, ap, ac, en, eu, ea, eb, sU, sL, sK, sE, sG, sO, gr, po, ec, cx, ou, tc, ss, av, cs) (nI s)) → (∀ P : Int32 → SY → Prop, wY_exec_364 P (nI s) sc oc ne (nI n) ca nc on yp (nI u) 0 st yl yr al ap cb cn ac eu ea eb sU sL sK sE sG sO kx ky kd pl rl cm hv ba ad ex cy tc ss av cs bi ou → wpY_exec P (sc, oc, ne, nI n, ca, nc, on, yp, nI u, 0, st, yl, yr, al, ap, cb, cn, ac, eu, ea, eb, sU, sL, sK, sE, sG, sO, kx, ky, kd, pl, rl, cm, hv, ba, ad, ex, cy, tc, ss, av, cs, bi, ou) (nI s)) → Goal := by
    intro hx hy
    have q := fb_nx_in sU (nI u) (n - (s + 1)) (s + 1)
    refine c_jump (fb_nx sU (nI u) (n - (s + 1)) (s + 1)) cx cy tc ss (by omega) (fun w => q.2.2 (by omega)) H (fun P h => hx P ?_) (fun P h => hy P (hy_next hn hs ?_))
    · unfold wX_executeGoto_39
      rw [nI_1]
      exact hx_next hn (by omega) h
    · rw [hus]
      exact h
  rcases hc_v (v := x) (l := fa_N sE s) (by omega) with z | ⟨z, z'⟩ | ⟨j, j1, j2, ej⟩
  · exact nx (fun P h => X2 P (br_t z h)) (fun P h => Y2 P (br_t z h))
  · have z2 : nI (fa_N sE s) < x := Int32.not_le.mp z'
    exact nx (fun P h => X2 P (br_f z (br_t z2 h))) (fun P h => Y2 P (br_f z (br_t z2 h)))
  · have pl2 : fb_pl (fa_N sK s) j = 2 := by rw [hk]; show (if j = 0 then 0 else 2) = 2; exact if_neg (by omega)
    obtain ⟨_, t, ht, e, ut, _⟩ := hr_lab (p := j) W hs (by omega) pl2
    have z1 : ¬ x < 1 := by rw [ej]; exact nI_nlt (b := 1) j1 (by omega)
    have z2 : ¬ nI (fa_N sE s) < x := by rw [ej]; exact nI_nlt j2 (by omega)
    refine c_jump t cx cy tc ss (by omega) (fun _ => ut.trans hus) H (fun P h => X2 P (br_f z1 (br_f z2 ?_))) (fun P h => Y2 P (br_f z1 (br_f z2 ?_)))
    · rw [ej]
      exact ex_xgo W hs hus (by omega) (by omega) e h
    · rw [ej]
      exact ex_ygo W hs hus (by omega) (by omega) pl2 ht e h
theorem ex_print {o oo : Nat} (W : hr_W n al ap sU sL sK sE sG sO) (H : hc_St RC al ap ec ad bi cx cy u) (hs : s < n) (hus : sU s = nI u) (hk : fa_N sK s = 6) (ho : on = nI o) (hoc : oc = nI oo) (h32 : oo ≤ 32) (hle : o ≤ oo) (c_stop : ∀ (r ye' : Int32), r ≠ 0 → (∀ P : SX → Prop, P (sc, oc, ne, nI n, ca, on, st, r, nI u, xn, xe, xd, al, ap, ac, en, eu, ea, eb, sU, sL, sK, sE, sG, sO, gr, po, ec, cx, ou, tc, ss, av, cs) → wpX_execute P (sc, oc, ne, nI n, ca, on, st, 0, nI u, xn, xe, xd, al, ap, ac, en, eu, ea, eb, sU, sL, sK, sE, sG, sO, gr, po, ec, cx, ou, tc, ss, av, cs) (nI s)) → (∀ P : Int32 → SY → Prop, P r (sc, oc, ne, nI n, ca, nc, on, yp, nI u, ye', st, yl, yr, al, ap, cb, cn, ac, eu, ea, eb, sU, sL, sK, sE, sG, sO, kx, ky, kd, pl, rl, cm, hv, ba, ad, ex, cy, tc, ss, av, cs, bi, ou) → wpY_exec P (sc, oc, ne, nI n, ca, nc, on, yp, nI u, 0, st, yl, yr, al, ap, cb, cn, ac, eu, ea, eb, sU, sL, sK, sE, sG, sO, kx, ky, kd, pl, rl, cm, hv, ba, ad, ex, cy, tc, ss, av, cs, bi, ou) (nI s)) → Goal) (c_end : ∀ (t q : Nat) (on' : Int32) (cx' cy' tc' ss' ou' : Nat → Int32), t < n → q ≤ n → sU t = nI u → hc_St RC al ap ec ad bi cx' cy' u → (on' = on ∨ (on < oc ∧ on' = on + 1)) → (∀ P : SX → Prop, P (sc, oc, ne, nI n, ca, on', st, 0, nI u, xn, nI t, nI q, al, ap, ac, en, eu, ea, eb, sU, sL, sK, sE, sG, sO, gr, po, ec, cx', ou', tc', ss', av, cs) → wpX_execute P (sc, oc, ne, nI n, ca, on, st, 0, nI u, xn, xe, xd, al, ap, ac, en, eu, ea, eb, sU, sL, sK, sE, sG, sO, gr, po, ec, cx, ou, tc, ss, av, cs) (nI s)) → (∀ P : Int32 → SY → Prop, wpY_endProc (fun r w => match w with | (sc0, oc0, ne0, ns0, ca0, nc0, on0, yp0, yu0, ye0, st0, yl0, yr0, al0, ap0, cb0, cn0, ac0, eu0, ea0, eb0, sU0, sL0, sK0, sE0, sG0, sO0, kx0, ky0, kd0, pl0, rl0, cm0, hv0, ba0, ad0, ex0, cy0, tc0, ss0, av0, cs0, bi0, ou0) => P r (sc0, oc0, ne0, ns0, ca0, nc0, on0, yp0, yu0, ye0, st0, yl0, yr0, al0, ap0, cb0, cn0, ac0, eu0, ea0, eb0, sU0, sL0, sK0, sE0, sG0, sO0, kx0, ky0, kd0, pl0, rl0, cm0, hv0, ba0, ad0, ex0, cy0, tc0, ss0, av0, cs0, bi0, ou0)) (sc, oc, ne, nI n, ca, nc, on', yp, nI u, 0, st, yl, yr, al, ap, cb, cn, ac, eu, ea, eb, sU, sL, sK, sE, sG, sO, kx, ky, kd, pl, rl, cm, hv, ba, ad, ex, cy', tc', ss', av, cs, bi, ou') (nI t) (nI q) → wpY_exec P (sc, oc, ne, nI n, ca, nc, on, yp, nI u, 0, st, yl, yr, al, ap, cb, cn, ac, eu, ea, eb, sU, sL, sK, sE, sG, sO, kx, ky, kd, pl, rl, cm, hv, ba, ad, ex, cy, tc, ss, av, cs, bi, ou) (nI s)) → Goal) : Goal := by
  have hn := W.1
  have hu4 := H.2.2.2.2.1
  obtain ⟨⟨k1, k2, k3⟩, ⟨e1, e2, e3⟩, _⟩ := ha_V (W.2.1 s hs)
  rw [hk] at k1 e2
  have g5 : fa_N sG s = 1 := by rw [hr_full W hs, hk]; rfl
  obtain ⟨c1, f1, v1⟩ := hr_val (p := 0) W hs (by omega) (by rw [hk]; rfl) hus hu4
  have f1' : sO (s * 5) = nI c1 := f1
  have vs : vp_in (nI s) 64 := vp_in_nI (by omega) (by decide)
  have v5 : vp_in (nI (s * 5)) 320 := vp_in_nI (by omega) (by decide)
  have X0 : ∀ P : SX → Prop, wpX_executePrint P (sc, oc, ne, nI n, ca, on, st, 0, nI u, xn, xe, xd, al, ap, ac, en, eu, ea, eb, sU, sL, sK, sE, sG, sO, gr, po, ec, cx, ou, tc, ss, av, cs) (nI s) → wpX_execute P (sc, oc, ne, nI n, ca, on, st, 0, nI u, xn, xe, xd, al, ap, ac, en, eu, ea, eb, sU, sL, sK, sE, sG, sO, gr, po, ec, cx, ou, tc, ss, av, cs) (nI s) := fun P h =>
    ex_xk (by omega) (by decide) (by decide) k1 ⟨fun z => by omega, fun z => by omega, fun z => by omega, fun z => by omega, fun z => by omega, fun _ => h, fun z => by omega, fun z => by omega, fun z => by omega⟩
  by_cases full : on < oc
  · rcases hc_read (s := s) (p := 0) (sc := sc) (oc := oc) (ne := ne) (ns := nI n) (ca := ca) (on := on) (st := st) (ra := 0) (xn := xn) (xe := xe) (xd := xd) (nc := nc) (yp := yp) (yu := nI u) (yl := yl) (yr := yr) (ac := ac) (en := en) (eu := eu) (ea := ea) (eb := eb) (sU := sU) (sL := sL) (sK := sK) (sE := sE) (sG := sG) (sO := sO) (gr := gr) (po := po) (ou := ou) (tc := tc) (ss := ss) (av := av) (cs := cs) (cb := cb) (cn := cn) (kx := kx) (ky := ky) (kd := kd) (pl := pl) (rl := rl) (cm := cm) (hv := hv) (ba := ba) (ex := ex) H (by omega) (by decide) f1 v1 with ⟨rx, ry⟩ | ⟨x, rx, ry⟩
    · refine c_stop 3 3 (by decide) (fun P h => X0 P (by unfold wpX_executePrint; exact br_t full (rx _ (br_f (by decide) h)))) (fun P h => ?_)
      refine ⟨vs, nm_r (e' := nI u) (by rw [nI_clamp (by omega)]; exact hus) ⟨vs, nm_r (e' := nI 6) (by rw [nI_clamp (by omega)]; exact k1) ⟨vs, nm_r (e' := nI (fa_N sE s)) (by rw [nI_clamp (by omega)]; exact e1) (nm_r (e' := nI (s * 5)) ha_50 (br_f (by decide) (br_f (by decide) (br_f (by decide) (br_f (by decide) (br_f (by decide) (br_t (by decide) (?_))))))))⟩⟩⟩
      rw [nI_clamp (n := s * 5) (by omega), f1']
      exact br_t full ⟨v5, ry _ (br_f (by decide) h)⟩
    · have o32 : o < 32 := by
        rw [ho, hoc, nI_ltI (by omega) (by omega)] at full
        omega
      have vo : vp_in on 32 := by rw [ho]; exact vp_in_nI o32 (by decide)
      refine c_end s s (on + 1) cx cy tc ss (upd ou on.toNatClampNeg x) hs (by omega) hus H (Or.inr ⟨full, rfl⟩) (fun P h => X0 P (by unfold wpX_executePrint; exact br_t full (rx _ (br_t rfl ⟨vo, nm_e (nm_e h)⟩)))) (fun P h => ?_)
      refine ⟨vs, nm_r (e' := nI u) (by rw [nI_clamp (by omega)]; exact hus) ⟨vs, nm_r (e' := nI 6) (by rw [nI_clamp (by omega)]; exact k1) ⟨vs, nm_r (e' := nI (fa_N sE s)) (by rw [nI_clamp (by omega)]; exact e1) (nm_r (e' := nI (s * 5)) ha_50 (br_f (by decide) (br_f (by decide) (br_f (by decide) (br_f (by decide) (br_f (by decide) (br_t (by decide) (?_))))))))⟩⟩⟩
      rw [nI_clamp (n := s * 5) (by omega), f1']
      exact br_t full ⟨v5, ry _ (br_t rfl ⟨vo, nm_e (nm_e h)⟩)⟩
  · refine c_stop 7 0 (by decide) (fun P h => X0 P (br_f full h)) (fun P h => ?_)
    refine ⟨vs, nm_r (e' := nI u) (by rw [nI_clamp (by omega)]; exact hus) ⟨vs, nm_r (e' := nI 6) (by rw [nI_clamp (by omega)]; exact k1) ⟨vs, nm_r (e' := nI (fa_N sE s)) (by rw [nI_clamp (by omega)]; exact e1) (nm_r (e' := nI (s * 5)) ha_50 (br_f (by decide) (br_f (by decide) (br_f (by decide) (br_f (by decide) (br_f (by decide) (br_t (by decide) (?_))))))))⟩⟩⟩
    exact br_f full h
theorem ex_cont (W : hr_W n al ap sU sL sK sE sG sO) (H : hc_St RC al ap ec ad bi cx cy u) (hs : s < n) (hus : sU s = nI u) (hk : fa_N sK s = 7) (c_end : ∀ (t q : Nat) (on' : Int32) (cx' cy' tc' ss' ou' : Nat → Int32), t < n → q ≤ n → sU t = nI u → hc_St RC al ap ec ad bi cx' cy' u → (on' = on ∨ (on < oc ∧ on' = on + 1)) → (∀ P : SX → Prop, P (sc, oc, ne, nI n, ca, on', st, 0, nI u, xn, nI t, nI q, al, ap, ac, en, eu, ea, eb, sU, sL, sK, sE, sG, sO, gr, po, ec, cx', ou', tc', ss', av, cs) → wpX_execute P (sc, oc, ne, nI n, ca, on, st, 0, nI u, xn, xe, xd, al, ap, ac, en, eu, ea, eb, sU, sL, sK, sE, sG, sO, gr, po, ec, cx, ou, tc, ss, av, cs) (nI s)) → (∀ P : Int32 → SY → Prop, wpY_endProc (fun r w => match w with | (sc0, oc0, ne0, ns0, ca0, nc0, on0, yp0, yu0, ye0, st0, yl0, yr0, al0, ap0, cb0, cn0, ac0, eu0, ea0, eb0, sU0, sL0, sK0, sE0, sG0, sO0, kx0, ky0, kd0, pl0, rl0, cm0, hv0, ba0, ad0, ex0, cy0, tc0, ss0, av0, cs0, bi0, ou0) => P r (sc0, oc0, ne0, ns0, ca0, nc0, on0, yp0, yu0, ye0, st0, yl0, yr0, al0, ap0, cb0, cn0, ac0, eu0, ea0, eb0, sU0, sL0, sK0, sE0, sG0, sO0, kx0, ky0, kd0, pl0, rl0, cm0, hv0, ba0, ad0, ex0, cy0, tc0, ss0, av0, cs0, bi0, ou0)) (sc, oc, ne, nI n, ca, nc, on', yp, nI u, 0, st, yl, yr, al, ap, cb, cn, ac, eu, ea, eb, sU, sL, sK, sE, sG, sO, kx, ky, kd, pl, rl, cm, hv, ba, ad, ex, cy', tc', ss', av, cs, bi, ou') (nI t) (nI q) → wpY_exec P (sc, oc, ne, nI n, ca, nc, on, yp, nI u, 0, st, yl, yr, al, ap, cb, cn, ac, eu, ea, eb, sU, sL, sK, sE, sG, sO, kx, ky, kd, pl, rl, cm, hv, ba, ad, ex, cy, tc, ss, av, cs, bi, ou) (nI s)) → Goal) : Goal := by
  have hn := W.1
  obtain ⟨⟨k1, k2, k3⟩, ⟨e1, e2, e3⟩, _⟩ := ha_V (W.2.1 s hs)
  rw [hk] at k1 e2
  have vs : vp_in (nI s) 64 := vp_in_nI (by omega) (by decide)
  refine c_end s s on cx cy tc ss ou hs (by omega) hus H (Or.inl rfl) (fun P h => ex_xk (by omega) (by decide) (by decide) k1 ⟨fun z => by omega, fun z => by omega, fun z => by omega, fun z => by omega, fun z => by omega, fun z => by omega, fun _ => h, fun z => by omega, fun z => by omega⟩) (fun P h => ?_)
  refine ⟨vs, nm_r (e' := nI u) (by rw [nI_clamp (by omega)]; exact hus) ⟨vs, nm_r (e' := nI 7) (by rw [nI_clamp (by omega)]; exact k1) ⟨vs, nm_r (e' := nI (fa_N sE s)) (by rw [nI_clamp (by omega)]; exact e1) (nm_r (e' := nI (s * 5)) ha_50 (br_f (by decide) (br_f (by decide) (br_f (by decide) (br_f (by decide) (br_f (by decide) (br_f (by decide) (br_t (by decide) (?_)))))))))⟩⟩⟩
  exact h
theorem ex_stop (W : hr_W n al ap sU sL sK sE sG sO) (H : hc_St RC al ap ec ad bi cx cy u) (hs : s < n) (hus : sU s = nI u) (hk : fa_N sK s = 9) (c_stop : ∀ (r ye' : Int32), r ≠ 0 → (∀ P : SX → Prop, P (sc, oc, ne, nI n, ca, on, st, r, nI u, xn, xe, xd, al, ap, ac, en, eu, ea, eb, sU, sL, sK, sE, sG, sO, gr, po, ec, cx, ou, tc, ss, av, cs) → wpX_execute P (sc, oc, ne, nI n, ca, on, st, 0, nI u, xn, xe, xd, al, ap, ac, en, eu, ea, eb, sU, sL, sK, sE, sG, sO, gr, po, ec, cx, ou, tc, ss, av, cs) (nI s)) → (∀ P : Int32 → SY → Prop, P r (sc, oc, ne, nI n, ca, nc, on, yp, nI u, ye', st, yl, yr, al, ap, cb, cn, ac, eu, ea, eb, sU, sL, sK, sE, sG, sO, kx, ky, kd, pl, rl, cm, hv, ba, ad, ex, cy, tc, ss, av, cs, bi, ou) → wpY_exec P (sc, oc, ne, nI n, ca, nc, on, yp, nI u, 0, st, yl, yr, al, ap, cb, cn, ac, eu, ea, eb, sU, sL, sK, sE, sG, sO, kx, ky, kd, pl, rl, cm, hv, ba, ad, ex, cy, tc, ss, av, cs, bi, ou) (nI s)) → Goal) : Goal := by
  have hn := W.1
  obtain ⟨⟨k1, k2, k3⟩, ⟨e1, e2, e3⟩, _⟩ := ha_V (W.2.1 s hs)
  rw [hk] at k1 e2
  have vs : vp_in (nI s) 64 := vp_in_nI (by omega) (by decide)
  refine c_stop 1 0 (by decide) (fun P h => ex_xk (by omega) (by decide) (by decide) k1 ⟨fun z => by omega, fun z => by omega, fun z => by omega, fun z => by omega, fun z => by omega, fun z => by omega, fun z => by omega, fun z => by omega, fun _ => h⟩) (fun P h => ?_)
  refine ⟨vs, nm_r (e' := nI u) (by rw [nI_clamp (by omega)]; exact hus) ⟨vs, nm_r (e' := nI 9) (by rw [nI_clamp (by omega)]; exact k1) ⟨vs, nm_r (e' := nI (fa_N sE s)) (by rw [nI_clamp (by omega)]; exact e1) (nm_r (e' := nI (s * 5)) ha_50 (br_f (by decide) (br_f (by decide) (br_f (by decide) (br_f (by decide) (br_f (by decide) (br_f (by decide) (br_f (by decide) (br_f (by decide) (?_))))))))))⟩⟩⟩
  exact h
theorem ex_ret (W : hr_W n al ap sU sL sK sE sG sO) (H : hc_St RC al ap ec ad bi cx cy u) (hs : s < n) (hus : sU s = nI u) (hk : fa_N sK s = 8) (c_stop : ∀ (r ye' : Int32), r ≠ 0 → (∀ P : SX → Prop, P (sc, oc, ne, nI n, ca, on, st, r, nI u, xn, xe, xd, al, ap, ac, en, eu, ea, eb, sU, sL, sK, sE, sG, sO, gr, po, ec, cx, ou, tc, ss, av, cs) → wpX_execute P (sc, oc, ne, nI n, ca, on, st, 0, nI u, xn, xe, xd, al, ap, ac, en, eu, ea, eb, sU, sL, sK, sE, sG, sO, gr, po, ec, cx, ou, tc, ss, av, cs) (nI s)) → (∀ P : Int32 → SY → Prop, P r (sc, oc, ne, nI n, ca, nc, on, yp, nI u, ye', st, yl, yr, al, ap, cb, cn, ac, eu, ea, eb, sU, sL, sK, sE, sG, sO, kx, ky, kd, pl, rl, cm, hv, ba, ad, ex, cy, tc, ss, av, cs, bi, ou) → wpY_exec P (sc, oc, ne, nI n, ca, nc, on, yp, nI u, 0, st, yl, yr, al, ap, cb, cn, ac, eu, ea, eb, sU, sL, sK, sE, sG, sO, kx, ky, kd, pl, rl, cm, hv, ba, ad, ex, cy, tc, ss, av, cs, bi, ou) (nI s)) → Goal) (c_ret : u ≠ 0 → (∀ P : SX → Prop, wpX_leaveUnit P (sc, oc, ne, nI n, ca, on, st, 0, nI u, xn, xe, xd, al, ap, ac, en, eu, ea, eb, sU, sL, sK, sE, sG, sO, gr, po, ec, cx, ou, tc, ss, av, cs) → wpX_execute P (sc, oc, ne, nI n, ca, on, st, 0, nI u, xn, xe, xd, al, ap, ac, en, eu, ea, eb, sU, sL, sK, sE, sG, sO, gr, po, ec, cx, ou, tc, ss, av, cs) (nI s)) → (∀ P : Int32 → SY → Prop, P 0 (sc, oc, ne, nI n, ca, nc, on, -1, nI u, 0, st, yl, yr, al, ap, cb, cn, ac, eu, ea, eb, sU, sL, sK, sE, sG, sO, kx, ky, kd, pl, rl, cm, hv, ba, ad, ex, cy, tc, ss, av, cs, bi, ou) → wpY_exec P (sc, oc, ne, nI n, ca, nc, on, yp, nI u, 0, st, yl, yr, al, ap, cb, cn, ac, eu, ea, eb, sU, sL, sK, sE, sG, sO, kx, ky, kd, pl, rl, cm, hv, ba, ad, ex, cy, tc, ss, av, cs, bi, ou) (nI s)) → Goal) : Goal := by
  have hn := W.1
  have hu4 := H.2.2.2.2.1
  obtain ⟨⟨k1, k2, k3⟩, ⟨e1, e2, e3⟩, _⟩ := ha_V (W.2.1 s hs)
  rw [hk] at k1 e2
  have vs : vp_in (nI s) 64 := vp_in_nI (by omega) (by decide)
  have X0 : ∀ P : SX → Prop, wpX_leaveUnit P (sc, oc, ne, nI n, ca, on, st, 0, nI u, xn, xe, xd, al, ap, ac, en, eu, ea, eb, sU, sL, sK, sE, sG, sO, gr, po, ec, cx, ou, tc, ss, av, cs) → wpX_execute P (sc, oc, ne, nI n, ca, on, st, 0, nI u, xn, xe, xd, al, ap, ac, en, eu, ea, eb, sU, sL, sK, sE, sG, sO, gr, po, ec, cx, ou, tc, ss, av, cs) (nI s) := fun P h =>
    ex_xk (by omega) (by decide) (by decide) k1 ⟨fun z => by omega, fun z => by omega, fun z => by omega, fun z => by omega, fun z => by omega, fun z => by omega, fun z => by omega, fun _ => h, fun z => by omega⟩
  by_cases z : u = 0
  · have z1 : nI u = 0 := by rw [z]; rfl
    refine c_stop 1 0 (by decide) (fun P h => X0 P (br_t z1 h)) (fun P h => ?_)
    refine ⟨vs, nm_r (e' := nI u) (by rw [nI_clamp (by omega)]; exact hus) ⟨vs, nm_r (e' := nI 8) (by rw [nI_clamp (by omega)]; exact k1) ⟨vs, nm_r (e' := nI (fa_N sE s)) (by rw [nI_clamp (by omega)]; exact e1) (nm_r (e' := nI (s * 5)) ha_50 (br_f (by decide) (br_f (by decide) (br_f (by decide) (br_f (by decide) (br_f (by decide) (br_f (by decide) (br_f (by decide) (br_t (by decide) (?_))))))))))⟩⟩⟩
    exact br_t z1 h
  · have z1 : ¬ nI u = 0 := fun e => z (fa_inj (b := 0) (by omega) (by decide) e)
    refine c_ret z X0 (fun P h => ?_)
    refine ⟨vs, nm_r (e' := nI u) (by rw [nI_clamp (by omega)]; exact hus) ⟨vs, nm_r (e' := nI 8) (by rw [nI_clamp (by omega)]; exact k1) ⟨vs, nm_r (e' := nI (fa_N sE s)) (by rw [nI_clamp (by omega)]; exact e1) (nm_r (e' := nI (s * 5)) ha_50 (br_f (by decide) (br_f (by decide) (br_f (by decide) (br_f (by decide) (br_f (by decide) (br_f (by decide) (br_f (by decide) (br_t (by decide) (?_))))))))))⟩⟩⟩
    exact br_f z1 h
end HEY
