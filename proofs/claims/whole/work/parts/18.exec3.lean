section HEZ
/-! DO and CALL -/
variable {sc oc ne ns ca on st ra xu xn xe xd nc yp yu ye yl yr : Int32} {al ap ac en eu ea eb sU sL sK sE sG sO gr po ec cx ou tc ss av cs cb cn kx ky kd pl rl cm hv ba ad ex cy bi : Nat → Int32}
variable {RC : Nat → Nat → Prop} {u n t s : Nat} {Goal : Prop}
theorem ex_do (W : hr_W n al ap sU sL sK sE sG sO) (H : hc_St RC al ap ec ad bi cx cy u) (hs : s < n) (hus : sU s = nI u) (hk : fa_N sK s = 4) (c_stop : ∀ (r ye' : Int32), r ≠ 0 → (∀ P : SX → Prop, P (sc, oc, ne, nI n, ca, on, st, r, nI u, xn, xe, xd, al, ap, ac, en, eu, ea, eb, sU, sL, sK, sE, sG, sO, gr, po, ec, cx, ou, tc, ss, av, cs) → wpX_execute P (sc, oc, ne, nI n, ca, on, st, 0, nI u, xn, xe, xd, al, ap, ac, en, eu, ea, eb, sU, sL, sK, sE, sG, sO, gr, po, ec, cx, ou, tc, ss, av, cs) (nI s)) → (∀ P : Int32 → SY → Prop, P r (sc, oc, ne, nI n, ca, nc, on, yp, nI u, ye', st, yl, yr, al, ap, cb, cn, ac, eu, ea, eb, sU, sL, sK, sE, sG, sO, kx, ky, kd, pl, rl, cm, hv, ba, ad, ex, cy, tc, ss, av, cs, bi, ou) → wpY_exec P (sc, oc, ne, nI n, ca, nc, on, yp, nI u, 0, st, yl, yr, al, ap, cb, cn, ac, eu, ea, eb, sU, sL, sK, sE, sG, sO, kx, ky, kd, pl, rl, cm, hv, ba, ad, ex, cy, tc, ss, av, cs, bi, ou) (nI s)) → Goal) (c_jump : ∀ (p : Nat) (cx' cy' tc' ss' : Nat → Int32), p ≤ n → (p < n → sU p = nI u) → hc_St RC al ap ec ad bi cx' cy' u → (∀ P : SX → Prop, P (sc, oc, ne, nI n, ca, on, st, 0, nI u, nI p, xe, xd, al, ap, ac, en, eu, ea, eb, sU, sL, sK, sE, sG, sO, gr, po, ec, cx', ou, tc', ss', av, cs) → wpX_execute P (sc, oc, ne, nI n, ca, on, st, 0, nI u, xn, xe, xd, al, ap, ac, en, eu, ea, eb, sU, sL, sK, sE, sG, sO, gr, po, ec, cx, ou, tc, ss, av, cs) (nI s)) → (∀ P : Int32 → SY → Prop, P 0 (sc, oc, ne, nI n, ca, nc, on, fb_pc n p, nI u, 0, st, yl, yr, al, ap, cb, cn, ac, eu, ea, eb, sU, sL, sK, sE, sG, sO, kx, ky, kd, pl, rl, cm, hv, ba, ad, ex, cy', tc', ss', av, cs, bi, ou) → wpY_exec P (sc, oc, ne, nI n, ca, nc, on, yp, nI u, 0, st, yl, yr, al, ap, cb, cn, ac, eu, ea, eb, sU, sL, sK, sE, sG, sO, kx, ky, kd, pl, rl, cm, hv, ba, ad, ex, cy, tc, ss, av, cs, bi, ou) (nI s)) → Goal) (c_end : ∀ (t q : Nat) (on' : Int32) (cx' cy' tc' ss' ou' : Nat → Int32), t < n → q ≤ n → sU t = nI u → hc_St RC al ap ec ad bi cx' cy' u → (on' = on ∨ (on < oc ∧ on' = on + 1)) → (∀ P : SX → Prop, P (sc, oc, ne, nI n, ca, on', st, 0, nI u, xn, nI t, nI q, al, ap, ac, en, eu, ea, eb, sU, sL, sK, sE, sG, sO, gr, po, ec, cx', ou', tc', ss', av, cs) → wpX_execute P (sc, oc, ne, nI n, ca, on, st, 0, nI u, xn, xe, xd, al, ap, ac, en, eu, ea, eb, sU, sL, sK, sE, sG, sO, gr, po, ec, cx, ou, tc, ss, av, cs) (nI s)) → (∀ P : Int32 → SY → Prop, wpY_endProc (fun r w => match w with | (sc0, oc0, ne0, ns0, ca0, nc0, on0, yp0, yu0, ye0, st0, yl0, yr0, al0, ap0, cb0, cn0, ac0, eu0, ea0, eb0, sU0, sL0, sK0, sE0, sG0, sO0, kx0, ky0, kd0, pl0, rl0, cm0, hv0, ba0, ad0, ex0, cy0, tc0, ss0, av0, cs0, bi0, ou0) => P r (sc0, oc0, ne0, ns0, ca0, nc0, on0, yp0, yu0, ye0, st0, yl0, yr0, al0, ap0, cb0, cn0, ac0, eu0, ea0, eb0, sU0, sL0, sK0, sE0, sG0, sO0, kx0, ky0, kd0, pl0, rl0, cm0, hv0, ba0, ad0, ex0, cy0, tc0, ss0, av0, cs0, bi0, ou0)) (sc, oc, ne, nI n, ca, nc, on', yp, nI u, 0, st, yl, yr, al, ap, cb, cn, ac, eu, ea, eb, sU, sL, sK, sE, sG, sO, kx, ky, kd, pl, rl, cm, hv, ba, ad, ex, cy', tc', ss', av, cs, bi, ou') (nI t) (nI q) → wpY_exec P (sc, oc, ne, nI n, ca, nc, on, yp, nI u, 0, st, yl, yr, al, ap, cb, cn, ac, eu, ea, eb, sU, sL, sK, sE, sG, sO, kx, ky, kd, pl, rl, cm, hv, ba, ad, ex, cy, tc, ss, av, cs, bi, ou) (nI s)) → Goal) : Goal := by
  have hn := W.1
  have hu4 := H.2.2.2.2.1
  obtain ⟨⟨k1, k2, k3⟩, ⟨e1, e2, e3⟩, _⟩ := ha_V (W.2.1 s hs)
  rw [hk] at k1 e2
  have g5 : fa_N sG s = 5 := by rw [hr_full W hs, hk]; rfl
  obtain ⟨c1, f1, v1⟩ := hr_val (p := 2) W hs (by omega) (by rw [hk]; rfl) hus hu4
  obtain ⟨c2, f2, v2⟩ := hr_val (p := 3) W hs (by omega) (by rw [hk]; rfl) hus hu4
  obtain ⟨c3, f3, v3⟩ := hr_val (p := 4) W hs (by omega) (by rw [hk]; rfl) hus hu4
  obtain ⟨c0, f0, v0⟩ := hr_var (p := 1) W hs (by omega) (by rw [hk]; rfl) hus hu4
  obtain ⟨⟨cl, fl, lcl⟩, te, hte, el, ute, _⟩ := hr_lab (p := 0) W hs (by omega) (by rw [hk]; rfl)
  have fl' : sO (s * 5) = nI cl := fl
  have el' : fb_FL sU sL n (nI u) (nI cl) = nI te := by rw [← hus, ← fl]; exact el
  have vs : vp_in (nI s) 64 := vp_in_nI (by omega) (by decide)
  have v5 : vp_in (nI (s * 5)) 320 := vp_in_nI (by omega) (by decide)
  have w1 : vp_in (nI (s * 5 + 1)) 320 := vp_in_nI (by omega) (by decide)
  have w2 : vp_in (nI (s * 5 + 2)) 320 := vp_in_nI (by omega) (by decide)
  have w3 : vp_in (nI (s * 5 + 3)) 320 := vp_in_nI (by omega) (by decide)
  have w4 : vp_in (nI (s * 5 + 4)) 320 := vp_in_nI (by omega) (by decide)
  have a1 : nI (s * 5) + 1 = nI (s * 5 + 1) := nI_add (s * 5) 1
  have a2 : nI (s * 5) + 2 = nI (s * 5 + 2) := nI_add (s * 5) 2
  have a3 : nI (s * 5) + 3 = nI (s * 5 + 3) := nI_add (s * 5) 3
  have a4 : nI (s * 5) + 4 = nI (s * 5 + 4) := nI_add (s * 5) 4
  have X0 : ∀ P : SX → Prop, wpX_executeDo P (sc, oc, ne, nI n, ca, on, st, 0, nI u, xn, xe, xd, al, ap, ac, en, eu, ea, eb, sU, sL, sK, sE, sG, sO, gr, po, ec, cx, ou, tc, ss, av, cs) (nI s) → wpX_execute P (sc, oc, ne, nI n, ca, on, st, 0, nI u, xn, xe, xd, al, ap, ac, en, eu, ea, eb, sU, sL, sK, sE, sG, sO, gr, po, ec, cx, ou, tc, ss, av, cs) (nI s) := fun P h =>
    ex_xk (by omega) (by decide) (by decide) k1 ⟨fun z => by omega, fun z => by omega, fun z => by omega, fun _ => h, fun z => by omega, fun z => by omega, fun z => by omega, fun z => by omega, fun z => by omega⟩
  rcases hc_read (s := s) (p := 2) (sc := sc) (oc := oc) (ne := ne) (ns := nI n) (ca := ca) (on := on) (st := st) (ra := 0) (xn := xn) (xe := xe) (xd := xd) (nc := nc) (yp := yp) (yu := nI u) (yl := yl) (yr := yr) (ac := ac) (en := en) (eu := eu) (ea := ea) (eb := eb) (sU := sU) (sL := sL) (sK := sK) (sE := sE) (sG := sG) (sO := sO) (gr := gr) (po := po) (ou := ou) (tc := tc) (ss := ss) (av := av) (cs := cs) (cb := cb) (cn := cn) (kx := kx) (ky := ky) (kd := kd) (pl := pl) (rl := rl) (cm := cm) (hv := hv) (ba := ba) (ex := ex) H (by omega) (by decide) f1 v1 with ⟨rx, ry⟩ | ⟨x, rx, ry⟩
  · refine c_stop 3 3 (by decide) (fun P h => X0 P (by unfold wpX_executeDo; exact rx _ (br_f (by decide) h))) (fun P h => ?_)
    refine ⟨vs, nm_r (e' := nI u) (by rw [nI_clamp (by omega)]; exact hus) ⟨vs, nm_r (e' := nI 4) (by rw [nI_clamp (by omega)]; exact k1) ⟨vs, nm_r (e' := nI (fa_N sE s)) (by rw [nI_clamp (by omega)]; exact e1) (nm_r (e' := nI (s * 5)) ha_50 (br_f (by decide) (br_f (by decide) (br_f (by decide) (br_t (by decide) (?_))))))⟩⟩⟩
    rw [a2, nI_clamp (n := s * 5 + 2) (by omega), f1]
    exact ⟨w2, ry _ (br_f (by decide) h)⟩
  rcases hc_read (s := s) (p := 3) (sc := sc) (oc := oc) (ne := ne) (ns := nI n) (ca := ca) (on := on) (st := st) (ra := 0) (xn := xn) (xe := xe) (xd := xd) (nc := nc) (yp := yp) (yu := nI u) (yl := yl) (yr := yr) (ac := ac) (en := en) (eu := eu) (ea := ea) (eb := eb) (sU := sU) (sL := sL) (sK := sK) (sE := sE) (sG := sG) (sO := sO) (gr := gr) (po := po) (ou := ou) (tc := tc) (ss := ss) (av := av) (cs := cs) (cb := cb) (cn := cn) (kx := kx) (ky := ky) (kd := kd) (pl := pl) (rl := rl) (cm := cm) (hv := hv) (ba := ba) (ex := ex) H (by omega) (by decide) f2 v2 with ⟨rx2, ry2⟩ | ⟨y, rx2, ry2⟩
  · refine c_stop 3 3 (by decide) (fun P h => X0 P (by unfold wpX_executeDo; exact rx _ (br_t rfl (rx2 _ (br_f (by decide) h))))) (fun P h => ?_)
    refine ⟨vs, nm_r (e' := nI u) (by rw [nI_clamp (by omega)]; exact hus) ⟨vs, nm_r (e' := nI 4) (by rw [nI_clamp (by omega)]; exact k1) ⟨vs, nm_r (e' := nI (fa_N sE s)) (by rw [nI_clamp (by omega)]; exact e1) (nm_r (e' := nI (s * 5)) ha_50 (br_f (by decide) (br_f (by decide) (br_f (by decide) (br_t (by decide) (?_))))))⟩⟩⟩
    rw [a2, nI_clamp (n := s * 5 + 2) (by omega), f1]
    refine ⟨w2, ry _ (br_t rfl ?_)⟩
    rw [a3, nI_clamp (n := s * 5 + 3) (by omega), f2]
    exact ⟨w3, ry2 _ (br_f (by decide) h)⟩
  rcases hc_read (s := s) (p := 4) (sc := sc) (oc := oc) (ne := ne) (ns := nI n) (ca := ca) (on := on) (st := st) (ra := 0) (xn := xn) (xe := xe) (xd := xd) (nc := nc) (yp := yp) (yu := nI u) (yl := yl) (yr := yr) (ac := ac) (en := en) (eu := eu) (ea := ea) (eb := eb) (sU := sU) (sL := sL) (sK := sK) (sE := sE) (sG := sG) (sO := sO) (gr := gr) (po := po) (ou := ou) (tc := tc) (ss := ss) (av := av) (cs := cs) (cb := cb) (cn := cn) (kx := kx) (ky := ky) (kd := kd) (pl := pl) (rl := rl) (cm := cm) (hv := hv) (ba := ba) (ex := ex) H (by omega) (by decide) f3 v3 with ⟨rx3, ry3⟩ | ⟨z, rx3, ry3⟩
  · refine c_stop 3 3 (by decide) (fun P h => X0 P (by unfold wpX_executeDo; exact rx _ (br_t rfl (rx2 _ (br_t rfl (rx3 _ (br_f (by decide) h))))))) (fun P h => ?_)
    refine ⟨vs, nm_r (e' := nI u) (by rw [nI_clamp (by omega)]; exact hus) ⟨vs, nm_r (e' := nI 4) (by rw [nI_clamp (by omega)]; exact k1) ⟨vs, nm_r (e' := nI (fa_N sE s)) (by rw [nI_clamp (by omega)]; exact e1) (nm_r (e' := nI (s * 5)) ha_50 (br_f (by decide) (br_f (by decide) (br_f (by decide) (br_t (by decide) (?_))))))⟩⟩⟩
    rw [a2, nI_clamp (n := s * 5 + 2) (by omega), f1]
    refine ⟨w2, ry _ (br_t rfl ?_)⟩
    rw [a3, nI_clamp (n := s * 5 + 3) (by omega), f2]
    refine ⟨w3, ry2 _ (br_t rfl ?_)⟩
    rw [a4, nI_clamp (n := s * 5 + 4) (by omega), f3]
    exact ⟨w4, ry3 _ (br_f (by decide) h)⟩
  by_cases zz : z = 0
  · refine c_stop 5 0 (by decide) (fun P h => X0 P (by unfold wpX_executeDo; exact rx _ (br_t rfl (rx2 _ (br_t rfl (rx3 _ (br_t rfl (br_t zz h)))))))) (fun P h => ?_)
    refine ⟨vs, nm_r (e' := nI u) (by rw [nI_clamp (by omega)]; exact hus) ⟨vs, nm_r (e' := nI 4) (by rw [nI_clamp (by omega)]; exact k1) ⟨vs, nm_r (e' := nI (fa_N sE s)) (by rw [nI_clamp (by omega)]; exact e1) (nm_r (e' := nI (s * 5)) ha_50 (br_f (by decide) (br_f (by decide) (br_f (by decide) (br_t (by decide) (?_))))))⟩⟩⟩
    rw [a2, nI_clamp (n := s * 5 + 2) (by omega), f1]
    refine ⟨w2, ry _ (br_t rfl ?_)⟩
    rw [a3, nI_clamp (n := s * 5 + 3) (by omega), f2]
    refine ⟨w3, ry2 _ (br_t rfl ?_)⟩
    rw [a4, nI_clamp (n := s * 5 + 4) (by omega), f3]
    exact ⟨w4, ry3 _ (br_t rfl (br_t zz h))⟩
  rcases hc_cell (c := c0) (sc := sc) (oc := oc) (ne := ne) (ns := nI n) (ca := ca) (on := on) (st := st) (ra := 0) (xn := xn) (xe := xe) (xd := xd) (nc := nc) (yp := yp) (yu := nI u) (ye := 0) (yl := yl) (yr := yr) (ac := ac) (en := en) (eu := eu) (ea := ea) (eb := eb) (sU := sU) (sL := sL) (sK := sK) (sE := sE) (sG := sG) (sO := sO) (gr := gr) (po := po) (ou := ou) (tc := tc) (ss := ss) (av := av) (cs := cs) (cb := cb) (cn := cn) (kx := kx) (ky := ky) (kd := kd) (pl := pl) (rl := rl) (cm := cm) (hv := hv) (ba := ba) (ex := ex) H v0 with ⟨fx, fy⟩ | ⟨a, b, r, fx, fy⟩
  · refine c_stop 3 3 (by decide) (fun P h => X0 P ?_) (fun P h => ?_)
    · unfold wpX_executeDo
      refine rx _ (br_t rfl (rx2 _ (br_t rfl (rx3 _ (br_t rfl (br_f zz ?_))))))
      rw [show nI s * 5 + 1 = nI (s * 5 + 1) from ha_5 (n := 1), nI_clamp (n := s * 5 + 1) (by omega), f0]
      exact ⟨w1, fx _ (br_t rfl h)⟩
    · refine ⟨vs, nm_r (e' := nI u) (by rw [nI_clamp (by omega)]; exact hus) ⟨vs, nm_r (e' := nI 4) (by rw [nI_clamp (by omega)]; exact k1) ⟨vs, nm_r (e' := nI (fa_N sE s)) (by rw [nI_clamp (by omega)]; exact e1) (nm_r (e' := nI (s * 5)) ha_50 (br_f (by decide) (br_f (by decide) (br_f (by decide) (br_t (by decide) (?_))))))⟩⟩⟩
      rw [a2, nI_clamp (n := s * 5 + 2) (by omega), f1]
      refine ⟨w2, ry _ (br_t rfl ?_)⟩
      rw [a3, nI_clamp (n := s * 5 + 3) (by omega), f2]
      refine ⟨w3, ry2 _ (br_t rfl ?_)⟩
      rw [a4, nI_clamp (n := s * 5 + 4) (by omega), f3]
      refine ⟨w4, ry3 _ (br_t rfl (br_f zz ?_))⟩
      rw [a1, nI_clamp (n := s * 5 + 1) (by omega), f0]
      exact ⟨w1, fy _ (br_f (by decide) h)⟩
  have ab := H.1.1 a b r
  have va : vp_in (nI a) 512 := vp_in_nI ab.1 (by decide)
  have H' : hc_St RC al ap ec ad bi (upd cx a x) (upd cy b x) u := hc_putSt H r
  have X2 : ∀ P : SX → Prop, ((((y - x) + z) / z ≤ 0 → wX_executeDo_115 P (nI s) z (((y - x) + z) / z) 0 (nI s) sc oc ne (nI n) ca on st 0 (nI u) xn xe xd al ap ac en eu ea eb sU sL sK sE sG sO gr po ec (upd cx a x) ou tc ss av cs) ∧ (¬ ((y - x) + z) / z ≤ 0 → wX_executeDo_115 P (nI s) z (((y - x) + z) / z) (((y - x) + z) / z) (nI s) sc oc ne (nI n) ca on st 0 (nI u) xn xe xd al ap ac en eu ea eb sU sL sK sE sG sO gr po ec (upd cx a x) ou tc ss av cs)) → wpX_execute P (sc, oc, ne, nI n, ca, on, st, 0, nI u, xn, xe, xd, al, ap, ac, en, eu, ea, eb, sU, sL, sK, sE, sG, sO, gr, po, ec, cx, ou, tc, ss, av, cs) (nI s) := by
    intro P h
    refine X0 P ?_
    unfold wpX_executeDo
    refine rx _ (br_t rfl (rx2 _ (br_t rfl (rx3 _ (br_t rfl (br_f zz ?_))))))
    rw [show nI s * 5 + 1 = nI (s * 5 + 1) from ha_5 (n := 1), nI_clamp (n := s * 5 + 1) (by omega), f0]
    refine ⟨w1, fx _ (br_f (fa_m1 (by omega)) ⟨va, ?_⟩)⟩
    rw [nI_clamp (n := a) (by omega)]
    exact nm_e ⟨zz, nm_e h⟩
  have Y2 : ∀ P : Int32 → SY → Prop, ((((y - x) + z) / z ≤ 0 → wY_exec_536 P (nI s) (nI u) (nI (s * 5)) z (((y - x) + z) / z) 0 (nI s) sc oc ne (nI n) ca nc on yp (nI u) 0 st yl yr al ap cb cn ac eu ea eb sU sL sK sE sG sO kx ky kd pl rl cm hv ba ad ex (upd cy b x) tc ss av cs bi ou) ∧ (¬ ((y - x) + z) / z ≤ 0 → wY_exec_536 P (nI s) (nI u) (nI (s * 5)) z (((y - x) + z) / z) (((y - x) + z) / z) (nI s) sc oc ne (nI n) ca nc on yp (nI u) 0 st yl yr al ap cb cn ac eu ea eb sU sL sK sE sG sO kx ky kd pl rl cm hv ba ad ex (upd cy b x) tc ss av cs bi ou)) → wpY_exec P (sc, oc, ne, nI n, ca, nc, on, yp, nI u, 0, st, yl, yr, al, ap, cb, cn, ac, eu, ea, eb, sU, sL, sK, sE, sG, sO, kx, ky, kd, pl, rl, cm, hv, ba, ad, ex, cy, tc, ss, av, cs, bi, ou) (nI s) := by
    intro P h
    refine ⟨vs, nm_r (e' := nI u) (by rw [nI_clamp (by omega)]; exact hus) ⟨vs, nm_r (e' := nI 4) (by rw [nI_clamp (by omega)]; exact k1) ⟨vs, nm_r (e' := nI (fa_N sE s)) (by rw [nI_clamp (by omega)]; exact e1) (nm_r (e' := nI (s * 5)) ha_50 (br_f (by decide) (br_f (by decide) (br_f (by decide) (br_t (by decide) (?_))))))⟩⟩⟩
    rw [a2, nI_clamp (n := s * 5 + 2) (by omega), f1]
    refine ⟨w2, ry _ (br_t rfl ?_)⟩
    rw [a3, nI_clamp (n := s * 5 + 3) (by omega), f2]
    refine ⟨w3, ry2 _ (br_t rfl ?_)⟩
    rw [a4, nI_clamp (n := s * 5 + 4) (by omega), f3]
    refine ⟨w4, ry3 _ (br_t rfl (br_f zz ?_))⟩
    rw [a1, nI_clamp (n := s * 5 + 1) (by omega), f0]
    exact ⟨w1, fy _ (br_t rfl (hc_put ab.2 ⟨zz, nm_e h⟩))⟩
  generalize ((y - x) + z) / z = trip at X2 Y2
  by_cases tz : trip ≤ 0
  · refine c_end te s on (upd cx a x) (upd cy b x) (upd tc s 0) (upd ss s z) ou hte (by omega) (ute.trans hus) H' (Or.inl rfl) (fun P h => X2 P (br_t tz ?_)) (fun P h => Y2 P (br_t tz ?_))
    · unfold wX_executeDo_115
      rw [nI_clamp (n := s) (by omega), ha_50, nI_clamp (n := s * 5) (by omega), fl']
      refine ⟨vs, nm_e ⟨vs, nm_e (br_t tz ⟨v5, hx_findLabel hn ?_⟩)⟩⟩
      rw [el']
      exact h
    · unfold wY_exec_536
      rw [nI_clamp (n := s) (by omega), nI_clamp (n := s * 5) (by omega), fl']
      refine ⟨vs, nm_e ⟨vs, nm_e (br_t tz ⟨v5, hy_findLabel hn (by omega) ?_⟩)⟩⟩
      rw [el']
      exact br_t (nI_pos' (by omega)) h
  · have q := fb_nx_in sU (nI u) (n - (s + 1)) (s + 1)
    refine c_jump (fb_nx sU (nI u) (n - (s + 1)) (s + 1)) (upd cx a x) (upd cy b x) (upd tc s trip) (upd ss s z) (by omega) (fun w => q.2.2 (by omega)) H' (fun P h => X2 P (br_f tz ?_)) (fun P h => Y2 P (br_f tz ?_))
    · unfold wX_executeDo_115
      rw [nI_clamp (n := s) (by omega), nI_1 s]
      exact ⟨vs, nm_e ⟨vs, nm_e (br_f tz (hx_next hn (by omega) h))⟩⟩
    · unfold wY_exec_536
      rw [nI_clamp (n := s) (by omega)]
      refine ⟨vs, nm_e ⟨vs, nm_e (br_f tz (hy_next hn hs ?_))⟩⟩
      rw [hus]
      exact h
/-- the arguments of a CALL, from place j on -/
def ex_Bd (RC : Nat → Nat → Prop) (ec bi : Nat → Int32) (v j : Nat) : Prop := ∀ m, m < j → ∃ a b, RC a b ∧ ec ((v * 8 + m) * 16) = nI a ∧ bi (v * 4 + m) = nI b
theorem ex_bd {ec bi : Nat → Int32} {v j a b : Nat} (h : ex_Bd RC ec bi v j) (r : RC a b) : ex_Bd RC (upd ec ((v * 8 + j) * 16) (nI a)) (upd bi (v * 4 + j) (nI b)) v (j + 1) := by
  intro m hm
  by_cases e : m = j
  · subst e
    exact ⟨a, b, r, pk_us, pk_us⟩
  · obtain ⟨a', b', r', e1, e2⟩ := h m (by omega)
    exact ⟨a', b', r', by rw [pk_un (by omega)]; exact e1, by rw [pk_un (by omega)]; exact e2⟩
theorem ex_bdo {ec bi : Nat → Int32} {v w j : Nat} {a b : Int32} (hw : w ≠ v) (hj : j < 8) (hj4 : j < 4) (hp : fa_N ap w ≤ 3) (h : fm_Bnd RC (fa_N ap) ec bi w) : fm_Bnd RC (fa_N ap) (upd ec ((v * 8 + j) * 16) a) (upd bi (v * 4 + j) b) w := by
  intro m hm
  obtain ⟨a', b', r', e1, e2⟩ := h m hm
  exact ⟨a', b', r', by rw [pk_un (by omega)]; exact e1, by rw [pk_un (by omega)]; exact e2⟩
theorem ex_args {v g : Nat} (W : hr_W n al ap sU sL sK sE sG sO) (hs : s < n) (hus : sU s = nI u) (hk : fa_N sK s = 5) (hv4 : v < 4) (hvu : v ≠ u) (hg : fa_N sG s = g) (g3 : g ≤ 3) (hgp : g ≤ fa_N ap v) (x7 : Int32) (hx7 : x7 = nI g) :
    ∀ d j, j + d = g → ∀ (ec bi : Nat → Int32), hc_St RC al ap ec ad bi cx cy u → ex_Bd RC ec bi v j →
    (∃ ec' bi', fm_Sto RC (fa_N al) (fa_N ap) ec' ad ∧ (∀ P : SX → Prop, P (sc, oc, ne, nI n, ca, on, st, 3, nI u, xn, xe, xd, al, ap, ac, en, eu, ea, eb, sU, sL, sK, sE, sG, sO, gr, po, ec', cx, ou, tc, ss, av, cs) → wX_executeCall_27 P (nI s) (nI v) (d + 1) (nI j) sc oc ne (nI n) ca on st 0 (nI u) xn xe xd al ap ac en eu ea eb sU sL sK sE sG sO gr po ec cx ou tc ss av cs) ∧ (∀ P : Int32 → SY → Prop, P 3 (sc, oc, ne, nI n, ca, nc, on, yp, nI u, 3, st, yl, yr, al, ap, cb, cn, ac, eu, ea, eb, sU, sL, sK, sE, sG, sO, kx, ky, kd, pl, rl, cm, hv, ba, ad, ex, cy, tc, ss, av, cs, bi', ou) → wY_exec_632 P (nI s) (nI u) (nI (s * 5)) (nI v) x7 (d + 1) (nI j) sc oc ne (nI n) ca nc on yp (nI u) 0 st yl yr al ap cb cn ac eu ea eb sU sL sK sE sG sO kx ky kd pl rl cm hv ba ad ex cy tc ss av cs bi ou)) ∨
    (∃ ec' bi', fm_Sto RC (fa_N al) (fa_N ap) ec' ad ∧ ex_Bd RC ec' bi' v g ∧ (∀ w, w < 4 → w ≠ v → fm_Bnd RC (fa_N ap) ec bi w → fm_Bnd RC (fa_N ap) ec' bi' w) ∧
      (∀ P : SX → Prop, P (sc, oc, ne, nI n, ca, on, st, 0, nI v, nI (fb_nx sU (nI v) n 0), xe, xd, al, ap, ac, en, eu, ea, eb, sU, sL, sK, sE, sG, sO, gr, po, ec', cx, ou, tc, ss, upd av v 1, upd cs v (nI s)) → wX_executeCall_27 P (nI s) (nI v) (d + 1) (nI j) sc oc ne (nI n) ca on st 0 (nI u) xn xe xd al ap ac en eu ea eb sU sL sK sE sG sO gr po ec cx ou tc ss av cs) ∧
      (∀ P : Int32 → SY → Prop, P 0 (sc, oc, ne, nI n, ca, nc, on, fb_pc n (fb_nx sU (nI v) n 0), nI v, 0, st, yl, yr, al, ap, cb, cn, ac, eu, ea, eb, sU, sL, sK, sE, sG, sO, kx, ky, kd, pl, rl, cm, hv, ba, ad, ex, cy, tc, ss, upd av v 1, upd cs v (nI s), bi', ou) → wY_exec_632 P (nI s) (nI u) (nI (s * 5)) (nI v) x7 (d + 1) (nI j) sc oc ne (nI n) ca nc on yp (nI u) 0 st yl yr al ap cb cn ac eu ea eb sU sL sK sE sG sO kx ky kd pl rl cm hv ba ad ex cy tc ss av cs bi ou)) := by
  have hn := W.1
  obtain ⟨_, _, ⟨g1, g2, g4⟩, _⟩ := ha_V (W.2.1 s hs)
  rw [hg] at g1
  have vs : vp_in (nI s) 64 := vp_in_nI (by omega) (by decide)
  have vv : vp_in (nI v) 4 := vp_in_nI hv4 (by decide)
  have nb1 : vp_nar .boolean 1 = 1 := by decide
  intro d
  induction d with
  | zero =>
    intro j hj ec bi H B
    have ej : j = g := by omega
    subst ej
    right
    refine ⟨ec, bi, H.2.1, B, fun _ _ _ h => h, fun P h => ?_, fun P h => ?_⟩
    · refine ⟨vs, ?_⟩
      rw [nI_clamp (n := s) (by omega), g1]
      refine br_t (nI_le (Nat.le_refl j) (by omega)) ⟨vv, ?_⟩
      rw [nI_clamp (n := v) (by omega)]
      refine nm_e ⟨vv, ?_⟩
      rw [nI_clamp (n := v) (by omega), nb1]
      exact nm_e (hx_next (f := 0) hn (by omega) h)
    · rw [hx7]
      refine br_t (nI_le (Nat.le_refl j) (by omega)) ⟨vv, ?_⟩
      rw [nI_clamp (n := v) (by omega), nb1]
      exact nm_e ⟨vv, nm_e (hy_first hn h)⟩
  | succ d ih =>
    intro j hj ec bi H B
    have hu4 := H.2.2.2.2.1
    obtain ⟨c, f, hc⟩ := hr_var (p := j) W hs (by omega) (by rw [hk]; rfl) hus hu4
    have vc : vp_in (nI (s * 5 + j)) 320 := vp_in_nI (by omega) (by decide)
    rcases hc_cell (c := c) (sc := sc) (oc := oc) (ne := ne) (ns := nI n) (ca := ca) (on := on) (st := st) (ra := 0) (xn := xn) (xe := xe) (xd := xd) (nc := nc) (yp := yp) (yu := nI u) (ye := 0) (yl := yl) (yr := yr) (ac := ac) (en := en) (eu := eu) (ea := ea) (eb := eb) (sU := sU) (sL := sL) (sK := sK) (sE := sE) (sG := sG) (sO := sO) (gr := gr) (po := po) (ou := ou) (tc := tc) (ss := ss) (av := av) (cs := cs) (cb := cb) (cn := cn) (kx := kx) (ky := ky) (kd := kd) (pl := pl) (rl := rl) (cm := cm) (hv := hv) (ba := ba) (ex := ex) H hc with ⟨fx, fy⟩ | ⟨a, b, r, fx, fy⟩
    · left
      refine ⟨ec, bi, H.2.1, fun P h => ?_, fun P h => ?_⟩
      · refine ⟨vs, ?_⟩
        rw [nI_clamp (n := s) (by omega), g1]
        refine br_f (nI_ge (by omega) (by omega)) ?_
        rw [ha_5, nI_clamp (n := s * 5 + j) (by omega), f]
        exact ⟨vc, fx _ (br_t rfl h)⟩
      · rw [hx7]
        refine br_f (nI_ge (by omega) (by omega)) ?_
        rw [nI_add (s * 5) j, nI_clamp (n := s * 5 + j) (by omega), f]
        exact ⟨vc, fy _ (br_f (by decide) h)⟩
    · have ab := H.1.1 a b r
      have hP3 : ∀ w, w < 4 → fa_N ap w ≤ 3 := fun w hw => by have := (fa_Rn (H.2.2.2.2.2.2.1 w hw) (by decide)).2; omega
      have hL : ∀ k, k < 32 → 1 ≤ fa_N al k ∧ fa_N al k ≤ 16 := fun k hk => by
        obtain ⟨l, l1, l2, e⟩ := H.2.2.2.2.2.1 k hk
        rw [fa_Re e (by omega)]
        exact ⟨l1, l2⟩
      have H' : hc_St RC al ap (upd ec ((v * 8 + j) * 16) (nI a)) ad (upd bi (v * 4 + j) (nI b)) cx cy u :=
        ⟨H.1, fm_stoU H.2.1 hL hv4 (by omega) (by omega), H.2.2.1, ex_bdo (fun z => hvu z.symm) (by omega) (by omega) (hP3 u hu4) H.2.2.2.1, H.2.2.2.2⟩
      have X1 : ∀ P : SX → Prop, wX_executeCall_27 P (nI s) (nI v) (d + 1) (nI (j + 1)) sc oc ne (nI n) ca on st 0 (nI u) xn xe xd al ap ac en eu ea eb sU sL sK sE sG sO gr po (upd ec ((v * 8 + j) * 16) (nI a)) cx ou tc ss av cs → wX_executeCall_27 P (nI s) (nI v) (d + 1 + 1) (nI j) sc oc ne (nI n) ca on st 0 (nI u) xn xe xd al ap ac en eu ea eb sU sL sK sE sG sO gr po ec cx ou tc ss av cs := by
        intro P h
        refine ⟨vs, ?_⟩
        rw [nI_clamp (n := s) (by omega), g1]
        refine br_f (nI_ge (by omega) (by omega)) ?_
        rw [ha_5, nI_clamp (n := s * 5 + j) (by omega), f]
        refine ⟨vc, fx _ (br_f (fa_m1 (by omega)) ?_)⟩
        rw [ha_us, ha_16, nI_clamp (n := (v * 8 + j) * 16) (by omega)]
        exact ⟨vp_in_nI (by omega) (by decide), nm_e (nm_r (nI_1 j) h)⟩
      have Y1 : ∀ P : Int32 → SY → Prop, wY_exec_632 P (nI s) (nI u) (nI (s * 5)) (nI v) x7 (d + 1) (nI (j + 1)) sc oc ne (nI n) ca nc on yp (nI u) 0 st yl yr al ap cb cn ac eu ea eb sU sL sK sE sG sO kx ky kd pl rl cm hv ba ad ex cy tc ss av cs (upd bi (v * 4 + j) (nI b)) ou → wY_exec_632 P (nI s) (nI u) (nI (s * 5)) (nI v) x7 (d + 1 + 1) (nI j) sc oc ne (nI n) ca nc on yp (nI u) 0 st yl yr al ap cb cn ac eu ea eb sU sL sK sE sG sO kx ky kd pl rl cm hv ba ad ex cy tc ss av cs bi ou := by
        intro P h
        have e7 : ¬ x7 ≤ nI j := by rw [hx7]; exact nI_ge (by omega) (by omega)
        refine br_f e7 ?_
        rw [nI_add (s * 5) j, nI_clamp (n := s * 5 + j) (by omega), f]
        refine ⟨vc, fy _ (br_t rfl ?_)⟩
        rw [ha_4, nI_clamp (n := v * 4 + j) (by omega)]
        exact ⟨vp_in_nI (by omega) (by decide), nm_e (nm_r (nI_1 j) h)⟩
      rcases ih (j + 1) (by omega) _ _ H' (ex_bd B r) with ⟨ec', bi', S', gx, gy⟩ | ⟨ec', bi', S', B', K', gx, gy⟩
      · exact Or.inl ⟨ec', bi', S', fun P h => X1 P (gx P h), fun P h => Y1 P (gy P h)⟩
      · exact Or.inr ⟨ec', bi', S', B', fun w hw hne hb => K' w hw hne (ex_bdo hne (by omega) (by omega) (hP3 w hw) hb), fun P h => X1 P (gx P h), fun P h => Y1 P (gy P h)⟩
theorem ex_call (W : hr_W n al ap sU sL sK sE sG sO) (H : hc_St RC al ap ec ad bi cx cy u) (hs : s < n) (hus : sU s = nI u) (hk : fa_N sK s = 5) (hav : av u ≠ 0) (c_stop : ∀ (r ye' : Int32), r ≠ 0 → (∀ P : SX → Prop, P (sc, oc, ne, nI n, ca, on, st, r, nI u, xn, xe, xd, al, ap, ac, en, eu, ea, eb, sU, sL, sK, sE, sG, sO, gr, po, ec, cx, ou, tc, ss, av, cs) → wpX_execute P (sc, oc, ne, nI n, ca, on, st, 0, nI u, xn, xe, xd, al, ap, ac, en, eu, ea, eb, sU, sL, sK, sE, sG, sO, gr, po, ec, cx, ou, tc, ss, av, cs) (nI s)) → (∀ P : Int32 → SY → Prop, P r (sc, oc, ne, nI n, ca, nc, on, yp, nI u, ye', st, yl, yr, al, ap, cb, cn, ac, eu, ea, eb, sU, sL, sK, sE, sG, sO, kx, ky, kd, pl, rl, cm, hv, ba, ad, ex, cy, tc, ss, av, cs, bi, ou) → wpY_exec P (sc, oc, ne, nI n, ca, nc, on, yp, nI u, 0, st, yl, yr, al, ap, cb, cn, ac, eu, ea, eb, sU, sL, sK, sE, sG, sO, kx, ky, kd, pl, rl, cm, hv, ba, ad, ex, cy, tc, ss, av, cs, bi, ou) (nI s)) → Goal) (c_stopc : ∀ (ec' bi' : Nat → Int32), fm_Sto RC (fa_N al) (fa_N ap) ec' ad → (∀ P : SX → Prop, P (sc, oc, ne, nI n, ca, on, st, 3, nI u, xn, xe, xd, al, ap, ac, en, eu, ea, eb, sU, sL, sK, sE, sG, sO, gr, po, ec', cx, ou, tc, ss, av, cs) → wpX_execute P (sc, oc, ne, nI n, ca, on, st, 0, nI u, xn, xe, xd, al, ap, ac, en, eu, ea, eb, sU, sL, sK, sE, sG, sO, gr, po, ec, cx, ou, tc, ss, av, cs) (nI s)) → (∀ P : Int32 → SY → Prop, P 3 (sc, oc, ne, nI n, ca, nc, on, yp, nI u, 3, st, yl, yr, al, ap, cb, cn, ac, eu, ea, eb, sU, sL, sK, sE, sG, sO, kx, ky, kd, pl, rl, cm, hv, ba, ad, ex, cy, tc, ss, av, cs, bi', ou) → wpY_exec P (sc, oc, ne, nI n, ca, nc, on, yp, nI u, 0, st, yl, yr, al, ap, cb, cn, ac, eu, ea, eb, sU, sL, sK, sE, sG, sO, kx, ky, kd, pl, rl, cm, hv, ba, ad, ex, cy, tc, ss, av, cs, bi, ou) (nI s)) → Goal) (c_call : ∀ (v : Nat) (ec' bi' : Nat → Int32), v < 4 → v ≠ 0 → av v = 0 → fm_Sto RC (fa_N al) (fa_N ap) ec' ad → fm_Bnd RC (fa_N ap) ec' bi' v → (∀ w, w < 4 → w ≠ v → fm_Bnd RC (fa_N ap) ec bi w → fm_Bnd RC (fa_N ap) ec' bi' w) → (∀ P : SX → Prop, P (sc, oc, ne, nI n, ca, on, st, 0, nI v, nI (fb_nx sU (nI v) n 0), xe, xd, al, ap, ac, en, eu, ea, eb, sU, sL, sK, sE, sG, sO, gr, po, ec', cx, ou, tc, ss, upd av v 1, upd cs v (nI s)) → wpX_execute P (sc, oc, ne, nI n, ca, on, st, 0, nI u, xn, xe, xd, al, ap, ac, en, eu, ea, eb, sU, sL, sK, sE, sG, sO, gr, po, ec, cx, ou, tc, ss, av, cs) (nI s)) → (∀ P : Int32 → SY → Prop, P 0 (sc, oc, ne, nI n, ca, nc, on, fb_pc n (fb_nx sU (nI v) n 0), nI v, 0, st, yl, yr, al, ap, cb, cn, ac, eu, ea, eb, sU, sL, sK, sE, sG, sO, kx, ky, kd, pl, rl, cm, hv, ba, ad, ex, cy, tc, ss, upd av v 1, upd cs v (nI s), bi', ou) → wpY_exec P (sc, oc, ne, nI n, ca, nc, on, yp, nI u, 0, st, yl, yr, al, ap, cb, cn, ac, eu, ea, eb, sU, sL, sK, sE, sG, sO, kx, ky, kd, pl, rl, cm, hv, ba, ad, ex, cy, tc, ss, av, cs, bi, ou) (nI s)) → Goal) : Goal := by
  have hn := W.1
  have hu4 := H.2.2.2.2.1
  obtain ⟨⟨k1, k2, k3⟩, ⟨e1, e2, e3⟩, _⟩ := ha_V (W.2.1 s hs)
  rw [hk] at k1 e2
  have k5 : sK s = 5 := k1
  have gE : fa_N sG s = fa_N sE s / 4 := by rw [hr_full W hs, hk]; rfl
  have pE := W.2.2.2.2.2 s hs k5
  have ee : fa_N sE s % 4 ≠ 0 := by unfold fb_xok at e2; omega
  have vs : vp_in (nI s) 64 := vp_in_nI (by omega) (by decide)
  have vv : vp_in (nI (fa_N sE s % 4)) 4 := vp_in_nI (by omega) (by decide)
  have X0 : ∀ P : SX → Prop, ((av (fa_N sE s % 4) = 0 → ∃ k, wX_executeCall_27 P (nI s) (nI (fa_N sE s % 4)) k 0 sc oc ne (nI n) ca on st 0 (nI u) xn xe xd al ap ac en eu ea eb sU sL sK sE sG sO gr po ec cx ou tc ss av cs) ∧ (¬ av (fa_N sE s % 4) = 0 → P (sc, oc, ne, nI n, ca, on, st, 6, nI u, xn, xe, xd, al, ap, ac, en, eu, ea, eb, sU, sL, sK, sE, sG, sO, gr, po, ec, cx, ou, tc, ss, av, cs))) → wpX_execute P (sc, oc, ne, nI n, ca, on, st, 0, nI u, xn, xe, xd, al, ap, ac, en, eu, ea, eb, sU, sL, sK, sE, sG, sO, gr, po, ec, cx, ou, tc, ss, av, cs) (nI s) := by
    intro P h
    refine ex_xk (by omega) (by decide) (by decide) k1 ⟨fun z => by omega, fun z => by omega, fun z => by omega, fun z => by omega, fun _ => ⟨vs, by decide, nm_r (e' := nI (fa_N sE s % 4)) (by rw [nI_clamp (by omega), e1, ha_r4 (by omega)]) ⟨vv, ?_⟩⟩, fun z => by omega, fun z => by omega, fun z => by omega, fun z => by omega⟩
    rw [nI_clamp (n := fa_N sE s % 4) (by omega)]
    exact h
  have Y0 : ∀ P : Int32 → SY → Prop, ((av (fa_N sE s % 4) = 0 → ∃ k, wY_exec_632 P (nI s) (nI u) (nI (s * 5)) (nI (fa_N sE s % 4)) (nI (fa_N sE s / 4)) k 0 sc oc ne (nI n) ca nc on yp (nI u) 0 st yl yr al ap cb cn ac eu ea eb sU sL sK sE sG sO kx ky kd pl rl cm hv ba ad ex cy tc ss av cs bi ou) ∧ (¬ av (fa_N sE s % 4) = 0 → P 6 (sc, oc, ne, nI n, ca, nc, on, yp, nI u, 0, st, yl, yr, al, ap, cb, cn, ac, eu, ea, eb, sU, sL, sK, sE, sG, sO, kx, ky, kd, pl, rl, cm, hv, ba, ad, ex, cy, tc, ss, av, cs, bi, ou))) → wpY_exec P (sc, oc, ne, nI n, ca, nc, on, yp, nI u, 0, st, yl, yr, al, ap, cb, cn, ac, eu, ea, eb, sU, sL, sK, sE, sG, sO, kx, ky, kd, pl, rl, cm, hv, ba, ad, ex, cy, tc, ss, av, cs, bi, ou) (nI s) := by
    intro P h
    refine ⟨vs, nm_r (e' := nI u) (by rw [nI_clamp (by omega)]; exact hus) ⟨vs, nm_r (e' := nI 5) (by rw [nI_clamp (by omega)]; exact k1) ⟨vs, nm_r (e' := nI (fa_N sE s)) (by rw [nI_clamp (by omega)]; exact e1) (nm_r (e' := nI (s * 5)) ha_50 (br_f (by decide) (br_f (by decide) (br_f (by decide) (br_f (by decide) (br_t (by decide) (?_)))))))⟩⟩⟩
    refine ⟨by decide, nm_r (ha_r4 (by omega)) ⟨by decide, nm_r (ha_d4 (by omega)) ⟨vv, ?_⟩⟩⟩
    rw [nI_clamp (n := fa_N sE s % 4) (by omega)]
    exact h
  by_cases act : av (fa_N sE s % 4) = 0
  · have hvu : fa_N sE s % 4 ≠ u := fun z => hav (z ▸ act)
    rcases ex_args (x7 := nI (fa_N sE s / 4)) (g := fa_N sE s / 4) (sc := sc) (oc := oc) (ne := ne) (ca := ca) (on := on) (st := st) (xn := xn) (xe := xe) (xd := xd) (nc := nc) (yp := yp) (yl := yl) (yr := yr) (ac := ac) (en := en) (eu := eu) (ea := ea) (eb := eb) (gr := gr) (po := po) (ou := ou) (tc := tc) (ss := ss) (av := av) (cs := cs) (cb := cb) (cn := cn) (kx := kx) (ky := ky) (kd := kd) (pl := pl) (rl := rl) (cm := cm) (hv := hv) (ba := ba) (ex := ex) W hs hus hk (by omega) hvu gE (by omega) (by omega) rfl (fa_N sE s / 4) 0 (by omega) ec bi H (fun m hm => absurd hm (Nat.not_lt_zero m)) with ⟨ec', bi', S', gx, gy⟩ | ⟨ec', bi', S', B', K', gx, gy⟩
    · exact c_stopc ec' bi' S' (fun P h => X0 P (br_t act ⟨_, gx P h⟩)) (fun P h => Y0 P (br_t act ⟨_, gy P h⟩))
    · refine c_call (fa_N sE s % 4) ec' bi' (by omega) ee act S' ?_ K' (fun P h => X0 P (br_t act ⟨_, gx P h⟩)) (fun P h => Y0 P (br_t act ⟨_, gy P h⟩))
      intro m hm
      exact B' m (by omega)
  · exact c_stop 6 0 (by decide) (fun P h => X0 P (br_f act h)) (fun P h => Y0 P (br_f act h))
end HEZ
