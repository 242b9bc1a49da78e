section HEX
/-! one statement, on both sides at once; what may come of it is told by continuations into one goal -/
variable {sc oc ne ns ca on st ra xu xn xe xd nc yp yu ye yl yr : Int32} {al ap ac en eu ea eb sU sL sK sE sG sO gr po ec cx ou tc ss av cs cb cn kx ky kd pl rl cm hv ba ad ex cy bi : Nat → Int32}
variable {RC : Nat → Nat → Prop} {u n t s : Nat} {Goal : Prop}
def fb_op (e : Nat) (x y : Int32) : Int32 := if e = 0 then x + y else if e = 1 then x - y else if e = 2 then x * y else x / y
theorem hx_combine {post : Int32 → Prop} {e : Nat} {x y : Int32} (he : e ≤ 3) (hy : e = 3 → ¬ y = 0) (h : post (fb_op e x y)) : wpX_combine post (nI e) x y := by
  have c : e = 0 ∨ e = 1 ∨ e = 2 ∨ e = 3 := by omega
  rcases c with rfl | rfl | rfl | rfl
  · exact br_f (by decide) (br_f (by decide) (br_t (by decide) h))
  · exact br_f (by decide) (br_f (by decide) (br_f (by decide) (br_t (by decide) h)))
  · exact br_f (by decide) (br_f (by decide) (br_f (by decide) (br_f (by decide) (br_t (by decide) h))))
  · exact br_f (by decide) (br_t (by decide) (br_f (hy rfl) ⟨hy rfl, h⟩))
theorem ex_xk {P : SX → Prop} (hs : s < 64) {k : Nat} (k1 : 1 ≤ k) (k9 : k ≤ 9) (ek : sK s = nI k)
    (h : (k = 1 → wpX_executeAssign P (sc, oc, ne, ns, ca, on, st, ra, xu, xn, xe, xd, al, ap, ac, en, eu, ea, eb, sU, sL, sK, sE, sG, sO, gr, po, ec, cx, ou, tc, ss, av, cs) (nI s)) ∧ (k = 2 → wpX_executeIf P (sc, oc, ne, ns, ca, on, st, ra, xu, xn, xe, xd, al, ap, ac, en, eu, ea, eb, sU, sL, sK, sE, sG, sO, gr, po, ec, cx, ou, tc, ss, av, cs) (nI s)) ∧ (k = 3 → wpX_executeGoto P (sc, oc, ne, ns, ca, on, st, ra, xu, xn, xe, xd, al, ap, ac, en, eu, ea, eb, sU, sL, sK, sE, sG, sO, gr, po, ec, cx, ou, tc, ss, av, cs) (nI s)) ∧ (k = 4 → wpX_executeDo P (sc, oc, ne, ns, ca, on, st, ra, xu, xn, xe, xd, al, ap, ac, en, eu, ea, eb, sU, sL, sK, sE, sG, sO, gr, po, ec, cx, ou, tc, ss, av, cs) (nI s)) ∧ (k = 5 → wpX_executeCall P (sc, oc, ne, ns, ca, on, st, ra, xu, xn, xe, xd, al, ap, ac, en, eu, ea, eb, sU, sL, sK, sE, sG, sO, gr, po, ec, cx, ou, tc, ss, av, cs) (nI s)) ∧ (k = 6 → wpX_executePrint P (sc, oc, ne, ns, ca, on, st, ra, xu, xn, xe, xd, al, ap, ac, en, eu, ea, eb, sU, sL, sK, sE, sG, sO, gr, po, ec, cx, ou, tc, ss, av, cs) (nI s)) ∧
      (k = 7 → P (sc, oc, ne, ns, ca, on, st, ra, xu, xn, nI s, nI s, al, ap, ac, en, eu, ea, eb, sU, sL, sK, sE, sG, sO, gr, po, ec, cx, ou, tc, ss, av, cs)) ∧ (k = 8 → wpX_leaveUnit P (sc, oc, ne, ns, ca, on, st, ra, xu, xn, xe, xd, al, ap, ac, en, eu, ea, eb, sU, sL, sK, sE, sG, sO, gr, po, ec, cx, ou, tc, ss, av, cs)) ∧ (k = 9 → P (sc, oc, ne, ns, ca, on, st, 1, xu, xn, xe, xd, al, ap, ac, en, eu, ea, eb, sU, sL, sK, sE, sG, sO, gr, po, ec, cx, ou, tc, ss, av, cs))) : wpX_execute P (sc, oc, ne, ns, ca, on, st, ra, xu, xn, xe, xd, al, ap, ac, en, eu, ea, eb, sU, sL, sK, sE, sG, sO, gr, po, ec, cx, ou, tc, ss, av, cs) (nI s) := by
  obtain ⟨h1, h2, h3, h4, h5, h6, h7, h8, h9⟩ := h
  refine ⟨vp_in_nI hs (by decide), ?_⟩
  rw [nI_clamp (by omega), ek]
  have c : k = 1 ∨ k = 2 ∨ k = 3 ∨ k = 4 ∨ k = 5 ∨ k = 6 ∨ k = 7 ∨ k = 8 ∨ k = 9 := by omega
  rcases c with rfl | rfl | rfl | rfl | rfl | rfl | rfl | rfl | rfl
  · exact nm_e (br_f (by decide) (br_f (by decide) (br_t (by decide) (h1 rfl))))
  · exact nm_e (br_f (by decide) (br_f (by decide) (br_f (by decide) (br_t (by decide) (h2 rfl)))))
  · exact nm_e (br_f (by decide) (br_f (by decide) (br_f (by decide) (br_f (by decide) (br_t (by decide) (h3 rfl))))))
  · exact nm_e (br_f (by decide) (br_f (by decide) (br_f (by decide) (br_f (by decide) (br_f (by decide) (br_t (by decide) (h4 rfl)))))))
  · exact nm_e (br_f (by decide) (br_f (by decide) (br_f (by decide) (br_f (by decide) (br_f (by decide) (br_f (by decide) (br_t (by decide) (h5 rfl))))))))
  · exact nm_e (br_f (by decide) (br_f (by decide) (br_f (by decide) (br_f (by decide) (br_f (by decide) (br_f (by decide) (br_f (by decide) (br_t (by decide) (h6 rfl)))))))))
  · exact nm_e (br_f (by decide) (br_f (by decide) (br_f (by decide) (br_f (by decide) (br_f (by decide) (br_f (by decide) (br_f (by decide) (br_f (by decide) (br_t (by decide) (h7 rfl))))))))))
  · exact nm_e (br_f (by decide) (br_f (by decide) (br_f (by decide) (br_f (by decide) (br_f (by decide) (br_f (by decide) (br_f (by decide) (br_f (by decide) (br_f (by decide) (br_t (by decide) (h8 rfl)))))))))))
  · exact nm_e (br_f (by decide) (br_f (by decide) (br_f (by decide) (br_f (by decide) (br_f (by decide) (br_f (by decide) (br_f (by decide) (br_f (by decide) (br_f (by decide) (br_f (by decide) (br_t (by decide) (h9 rfl))))))))))))
theorem ex_assign (W : hr_W n al ap sU sL sK sE sG sO) (H : hc_St RC al ap ec ad bi cx cy u) (hs : s < n) (hus : sU s = nI u) (hk : fa_N sK s = 1) (c_stop : ∀ (r ye' : Int32), r ≠ 0 → (∀ P : SX → Prop, P (sc, oc, ne, nI n, ca, on, st, r, nI u, xn, xe, xd, al, ap, ac, en, eu, ea, eb, sU, sL, sK, sE, sG, sO, gr, po, ec, cx, ou, tc, ss, av, cs) → wpX_execute P (sc, oc, ne, nI n, ca, on, st, 0, nI u, xn, xe, xd, al, ap, ac, en, eu, ea, eb, sU, sL, sK, sE, sG, sO, gr, po, ec, cx, ou, tc, ss, av, cs) (nI s)) → (∀ P : Int32 → SY → Prop, P r (sc, oc, ne, nI n, ca, nc, on, yp, nI u, ye', st, yl, yr, al, ap, cb, cn, ac, eu, ea, eb, sU, sL, sK, sE, sG, sO, kx, ky, kd, pl, rl, cm, hv, ba, ad, ex, cy, tc, ss, av, cs, bi, ou) → wpY_exec P (sc, oc, ne, nI n, ca, nc, on, yp, nI u, 0, st, yl, yr, al, ap, cb, cn, ac, eu, ea, eb, sU, sL, sK, sE, sG, sO, kx, ky, kd, pl, rl, cm, hv, ba, ad, ex, cy, tc, ss, av, cs, bi, ou) (nI s)) → Goal) (c_end : ∀ (t q : Nat) (on' : Int32) (cx' cy' tc' ss' ou' : Nat → Int32), t < n → q ≤ n → sU t = nI u → hc_St RC al ap ec ad bi cx' cy' u → (on' = on ∨ (on < oc ∧ on' = on + 1)) → (∀ P : SX → Prop, P (sc, oc, ne, nI n, ca, on', st, 0, nI u, xn, nI t, nI q, al, ap, ac, en, eu, ea, eb, sU, sL, sK, sE, sG, sO, gr, po, ec, cx', ou', tc', ss', av, cs) → wpX_execute P (sc, oc, ne, nI n, ca, on, st, 0, nI u, xn, xe, xd, al, ap, ac, en, eu, ea, eb, sU, sL, sK, sE, sG, sO, gr, po, ec, cx, ou, tc, ss, av, cs) (nI s)) → (∀ P : Int32 → SY → Prop, wpY_endProc (fun r w => match w with | (sc0, oc0, ne0, ns0, ca0, nc0, on0, yp0, yu0, ye0, st0, yl0, yr0, al0, ap0, cb0, cn0, ac0, eu0, ea0, eb0, sU0, sL0, sK0, sE0, sG0, sO0, kx0, ky0, kd0, pl0, rl0, cm0, hv0, ba0, ad0, ex0, cy0, tc0, ss0, av0, cs0, bi0, ou0) => P r (sc0, oc0, ne0, ns0, ca0, nc0, on0, yp0, yu0, ye0, st0, yl0, yr0, al0, ap0, cb0, cn0, ac0, eu0, ea0, eb0, sU0, sL0, sK0, sE0, sG0, sO0, kx0, ky0, kd0, pl0, rl0, cm0, hv0, ba0, ad0, ex0, cy0, tc0, ss0, av0, cs0, bi0, ou0)) (sc, oc, ne, nI n, ca, nc, on', yp, nI u, 0, st, yl, yr, al, ap, cb, cn, ac, eu, ea, eb, sU, sL, sK, sE, sG, sO, kx, ky, kd, pl, rl, cm, hv, ba, ad, ex, cy', tc', ss', av, cs, bi, ou') (nI t) (nI q) → wpY_exec P (sc, oc, ne, nI n, ca, nc, on, yp, nI u, 0, st, yl, yr, al, ap, cb, cn, ac, eu, ea, eb, sU, sL, sK, sE, sG, sO, kx, ky, kd, pl, rl, cm, hv, ba, ad, ex, cy, tc, ss, av, cs, bi, ou) (nI s)) → Goal) : Goal := by
  have hn := W.1
  have hu4 := H.2.2.2.2.1
  obtain ⟨⟨k1, k2, k3⟩, ⟨e1, e2, e3⟩, _⟩ := ha_V (W.2.1 s hs)
  rw [hk] at k1 e2
  have g3 : fa_N sG s = 3 := by rw [hr_full W hs, hk]; rfl
  have ee : fa_N sE s ≤ 3 := by unfold fb_xok at e2; omega
  obtain ⟨c1, f1, v1⟩ := hr_val (p := 1) W hs (by omega) (by rw [hk]; rfl) hus hu4
  obtain ⟨c2, f2, v2⟩ := hr_val (p := 2) W hs (by omega) (by rw [hk]; rfl) hus hu4
  obtain ⟨c0, f0, v0⟩ := hr_var (p := 0) W hs (by omega) (by rw [hk]; rfl) hus hu4
  have vs : vp_in (nI s) 64 := vp_in_nI (by omega) (by decide)
  have X0 : ∀ P : SX → Prop, wpX_executeAssign P (sc, oc, ne, nI n, ca, on, st, 0, nI u, xn, xe, xd, al, ap, ac, en, eu, ea, eb, sU, sL, sK, sE, sG, sO, gr, po, ec, cx, ou, tc, ss, av, cs) (nI s) → wpX_execute P (sc, oc, ne, nI n, ca, on, st, 0, nI u, xn, xe, xd, al, ap, ac, en, eu, ea, eb, sU, sL, sK, sE, sG, sO, gr, po, ec, cx, ou, tc, ss, av, cs) (nI s) := fun P h =>
    ex_xk (by omega) (by decide) (by decide) k1 ⟨fun _ => h, fun z => by omega, fun z => by omega, fun z => by omega, fun z => by omega, fun z => by omega, fun z => by omega, fun z => by omega, fun z => by omega⟩
  rcases hc_read (s := s) (p := 1) (sc := sc) (oc := oc) (ne := ne) (ns := nI n) (ca := ca) (on := on) (st := st) (ra := 0) (xn := xn) (xe := xe) (xd := xd) (nc := nc) (yp := yp) (yu := nI u) (yl := yl) (yr := yr) (ac := ac) (en := en) (eu := eu) (ea := ea) (eb := eb) (sU := sU) (sL := sL) (sK := sK) (sE := sE) (sG := sG) (sO := sO) (gr := gr) (po := po) (ou := ou) (tc := tc) (ss := ss) (av := av) (cs := cs) (cb := cb) (cn := cn) (kx := kx) (ky := ky) (kd := kd) (pl := pl) (rl := rl) (cm := cm) (hv := hv) (ba := ba) (ex := ex) H (by omega) (by decide) f1 v1 with ⟨rx, ry⟩ | ⟨x, rx, ry⟩
  · refine c_stop 3 3 (by decide) (fun P h => X0 P (by unfold wpX_executeAssign; exact rx _ (br_f (by decide) h))) (fun P h => ?_)
    refine ⟨vs, nm_r (e' := nI u) (by rw [nI_clamp (by omega)]; exact hus) ⟨vs, nm_r (e' := nI 1) (by rw [nI_clamp (by omega)]; exact k1) ⟨vs, nm_r (e' := nI (fa_N sE s)) (by rw [nI_clamp (by omega)]; exact e1) (nm_r (e' := nI (s * 5)) ha_50 (br_t (by decide) (?_)))⟩⟩⟩
    rw [nI_1 (s * 5), nI_clamp (n := s * 5 + 1) (by omega), f1]
    exact ⟨vp_in_nI (by omega) (by decide), ry _ (br_f (by decide) h)⟩
  rcases hc_read (s := s) (p := 2) (sc := sc) (oc := oc) (ne := ne) (ns := nI n) (ca := ca) (on := on) (st := st) (ra := 0) (xn := xn) (xe := xe) (xd := xd) (nc := nc) (yp := yp) (yu := nI u) (yl := yl) (yr := yr) (ac := ac) (en := en) (eu := eu) (ea := ea) (eb := eb) (sU := sU) (sL := sL) (sK := sK) (sE := sE) (sG := sG) (sO := sO) (gr := gr) (po := po) (ou := ou) (tc := tc) (ss := ss) (av := av) (cs := cs) (cb := cb) (cn := cn) (kx := kx) (ky := ky) (kd := kd) (pl := pl) (rl := rl) (cm := cm) (hv := hv) (ba := ba) (ex := ex) H (by omega) (by decide) f2 v2 with ⟨rx2, ry2⟩ | ⟨y, rx2, ry2⟩
  · refine c_stop 3 3 (by decide) (fun P h => X0 P (by unfold wpX_executeAssign; exact rx _ (br_t rfl (rx2 _ (br_f (by decide) h))))) (fun P h => ?_)
    refine ⟨vs, nm_r (e' := nI u) (by rw [nI_clamp (by omega)]; exact hus) ⟨vs, nm_r (e' := nI 1) (by rw [nI_clamp (by omega)]; exact k1) ⟨vs, nm_r (e' := nI (fa_N sE s)) (by rw [nI_clamp (by omega)]; exact e1) (nm_r (e' := nI (s * 5)) ha_50 (br_t (by decide) (?_)))⟩⟩⟩
    rw [nI_1 (s * 5), nI_clamp (n := s * 5 + 1) (by omega), f1]
    refine ⟨vp_in_nI (by omega) (by decide), ry _ (br_t rfl ?_)⟩
    rw [show nI (s * 5) + 2 = nI (s * 5 + 2) from nI_add (s * 5) 2, nI_clamp (n := s * 5 + 2) (by omega), f2]
    exact ⟨vp_in_nI (by omega) (by decide), ry2 _ (br_f (by decide) h)⟩
  have X2 : ∀ P : SX → Prop, ((fa_N sE s = 3 → y = 0 → P (sc, oc, ne, nI n, ca, on, st, 4, nI u, xn, xe, xd, al, ap, ac, en, eu, ea, eb, sU, sL, sK, sE, sG, sO, gr, po, ec, cx, ou, tc, ss, av, cs)) ∧ (¬ (fa_N sE s = 3 ∧ y = 0) → wX_executeAssign_50 P (nI s) x y sc oc ne (nI n) ca on st 0 (nI u) xn xe xd al ap ac en eu ea eb sU sL sK sE sG sO gr po ec cx ou tc ss av cs)) → wpX_execute P (sc, oc, ne, nI n, ca, on, st, 0, nI u, xn, xe, xd, al, ap, ac, en, eu, ea, eb, sU, sL, sK, sE, sG, sO, gr, po, ec, cx, ou, tc, ss, av, cs) (nI s) := by
    intro P h
    refine X0 P ?_
    unfold wpX_executeAssign
    refine rx _ (br_t rfl (rx2 _ (br_t rfl ⟨vs, ?_⟩)))
    rw [nI_clamp (n := s) (by omega), e1]
    exact pk_eq (fa_N sE s) 3 (fun z => br_c (fun w => h.1 z w) (fun w => h.2 (fun q => w q.2))) (fun z => h.2 (fun q => z q.1))
  have Y2 : ∀ P : Int32 → SY → Prop, ((fa_N sE s = 3 → y = 0 → P 4 (sc, oc, ne, nI n, ca, nc, on, yp, nI u, 0, st, yl, yr, al, ap, cb, cn, ac, eu, ea, eb, sU, sL, sK, sE, sG, sO, kx, ky, kd, pl, rl, cm, hv, ba, ad, ex, cy, tc, ss, av, cs, bi, ou)) ∧ (¬ (fa_N sE s = 3 ∧ y = 0) → wY_exec_149 P (nI s) (nI u) (nI (s * 5)) (fb_op (fa_N sE s) x y) sc oc ne (nI n) ca nc on yp (nI u) 0 st yl yr al ap cb cn ac eu ea eb sU sL sK sE sG sO kx ky kd pl rl cm hv ba ad ex cy tc ss av cs bi ou)) → wpY_exec P (sc, oc, ne, nI n, ca, nc, on, yp, nI u, 0, st, yl, yr, al, ap, cb, cn, ac, eu, ea, eb, sU, sL, sK, sE, sG, sO, kx, ky, kd, pl, rl, cm, hv, ba, ad, ex, cy, tc, ss, av, cs, bi, ou) (nI s) := by
    intro P h
    refine ⟨vs, nm_r (e' := nI u) (by rw [nI_clamp (by omega)]; exact hus) ⟨vs, nm_r (e' := nI 1) (by rw [nI_clamp (by omega)]; exact k1) ⟨vs, nm_r (e' := nI (fa_N sE s)) (by rw [nI_clamp (by omega)]; exact e1) (nm_r (e' := nI (s * 5)) ha_50 (br_t (by decide) (?_)))⟩⟩⟩
    rw [nI_1 (s * 5), nI_clamp (n := s * 5 + 1) (by omega), f1]
    refine ⟨vp_in_nI (by omega) (by decide), ry _ (br_t rfl ?_)⟩
    rw [show nI (s * 5) + 2 = nI (s * 5 + 2) from nI_add (s * 5) 2, nI_clamp (n := s * 5 + 2) (by omega), f2]
    refine ⟨vp_in_nI (by omega) (by decide), ry2 _ (br_t rfl ?_)⟩
    have c : fa_N sE s = 0 ∨ fa_N sE s = 1 ∨ fa_N sE s = 2 ∨ fa_N sE s = 3 := by omega
    rcases c with c | c | c | c
    · rw [c] at h ⊢
      exact br_t rfl (nm_e (h.2 (by omega)))
    · rw [c] at h ⊢
      exact br_f (by decide) (br_t rfl (nm_e (h.2 (by omega))))
    · rw [c] at h ⊢
      exact br_f (by decide) (br_f (by decide) (br_t rfl (nm_e (h.2 (by omega)))))
    · rw [c] at h ⊢
      exact br_f (by decide) (br_f (by decide) (br_f (by decide) (br_c (fun w => h.1 rfl w) (fun w => ⟨w, nm_e (h.2 (fun q => w q.2))⟩))))
  by_cases dz : fa_N sE s = 3 ∧ y = 0
  · exact c_stop 4 0 (by decide) (fun P h => X2 P ⟨fun _ _ => h, fun w => absurd dz w⟩) (fun P h => Y2 P ⟨fun _ _ => h, fun w => absurd dz w⟩)
  have f0' : sO (s * 5) = nI c0 := f0
  rcases hc_cell (c := c0) (sc := sc) (oc := oc) (ne := ne) (ns := nI n) (ca := ca) (on := on) (st := st) (ra := 0) (xn := xn) (xe := xe) (xd := xd) (nc := nc) (yp := yp) (yu := nI u) (ye := 0) (yl := yl) (yr := yr) (ac := ac) (en := en) (eu := eu) (ea := ea) (eb := eb) (sU := sU) (sL := sL) (sK := sK) (sE := sE) (sG := sG) (sO := sO) (gr := gr) (po := po) (ou := ou) (tc := tc) (ss := ss) (av := av) (cs := cs) (cb := cb) (cn := cn) (kx := kx) (ky := ky) (kd := kd) (pl := pl) (rl := rl) (cm := cm) (hv := hv) (ba := ba) (ex := ex) H v0 with ⟨fx, fy⟩ | ⟨a, b, r, fx, fy⟩
  · refine c_stop 3 3 (by decide) (fun P h => X2 P ⟨fun z w => absurd ⟨z, w⟩ dz, fun _ => ?_⟩) (fun P h => Y2 P ⟨fun z w => absurd ⟨z, w⟩ dz, fun _ => ?_⟩)
    · unfold wX_executeAssign_50
      rw [ha_50, nI_clamp (n := s * 5) (by omega), f0']
      exact ⟨vp_in_nI (by omega) (by decide), fx _ (br_t rfl h)⟩
    · unfold wY_exec_149
      rw [nI_clamp (n := s * 5) (by omega), f0']
      exact ⟨vp_in_nI (by omega) (by decide), fy _ (br_f (by decide) h)⟩
  · have ab := H.1.1 a b r
    refine c_end s s on (upd cx a (fb_op (fa_N sE s) x y)) (upd cy b (fb_op (fa_N sE s) x y)) tc ss ou hs (by omega) hus (hc_putSt H r) (Or.inl rfl) (fun P h => X2 P ⟨fun z w => absurd ⟨z, w⟩ dz, fun _ => ?_⟩) (fun P h => Y2 P ⟨fun z w => absurd ⟨z, w⟩ dz, fun _ => ?_⟩)
    · unfold wX_executeAssign_50
      rw [ha_50, nI_clamp (n := s * 5) (by omega), f0']
      refine ⟨vp_in_nI (by omega) (by decide), fx _ (br_f (fa_m1 (by omega)) ⟨vs, ?_⟩)⟩
      rw [nI_clamp (n := s) (by omega), e1]
      refine hx_combine ee (fun z w => dz ⟨z, w⟩) ⟨vp_in_nI (by omega) (by decide), ?_⟩
      rw [nI_clamp (n := a) (by omega)]
      exact nm_e h
    · unfold wY_exec_149
      rw [nI_clamp (n := s * 5) (by omega), f0']
      exact ⟨vp_in_nI (by omega) (by decide), fy _ (br_t rfl (hc_put ab.2 h))⟩
end HEX
