section HRM
/-! the run: both loops in lockstep -/
variable {sc oc ne ns ca on st ra xu xn xe xd nc yp yu ye yl yr : Int32} {al ap ac en eu ea eb sU sL sK sE sG sO gr po ec cx ou tc ss av cs cb cn kx ky kd pl rl cm hv ba ad ex cy bi : Nat → Int32}
variable {RC : Nat → Nat → Prop} {n mx oo : Nat} {ER : Int32 → SX → SY → Prop}
/-- from a state whose end processing is due -/
theorem hm_end {WX : (Int32 → SX → Prop) → Prop} {WY : (Int32 → SY → Prop) → Prop} {M u t q turn it st o : Nat} {l : List Nat} (W : hr_W n al ap sU sL sK sE sG sO) (D : hr_D al ap) (hm : mx ≤ 5000) (hE : ∀ (r xu xn xe xd yp yu ye on : Int32) (cx cy tc ss ou ec bi av cs : Nat → Int32) (o st : Nat), r ≠ 0 → fm_Sto RC (fa_N al) (fa_N ap) ec ad → fm_Mem RC cx cy → on = nI o → o ≤ oo → ER r (sc, oc, ne, nI n, ca, on, nI st, r, xu, xn, xe, xd, al, ap, ac, en, eu, ea, eb, sU, sL, sK, sE, sG, sO, gr, po, ec, cx, ou, tc, ss, av, cs) (sc, oc, ne, nI n, ca, nc, on, yp, yu, ye, nI st, yl, yr, al, ap, cb, cn, ac, eu, ea, eb, sU, sL, sK, sE, sG, sO, kx, ky, kd, pl, rl, cm, hv, ba, ad, ex, cy, tc, ss, av, cs, bi, ou)) (ih : ∀ (cx cy tc ss ou ec bi av cs : Nat → Int32) (on xd : Int32) (u p turn it st o : Nat) (l : List Nat), hr_R RC n al ap sU ec ad bi cx cy av cs u l → on = nI o → o ≤ oo → p ≤ n → (p < n → sU p = nI u) → turn + 2 * l.length ≤ 4 * st → it + l.length ≤ 2 * st → st ≤ mx → 4 * (mx - st) + 2 * l.length < M → hr_G ER (fun post => ∃ k, wX_run_25 post (nI mx) k (nI turn) sc oc ne (nI n) ca on (nI st) 0 (nI u) (nI p) (-1) xd al ap ac en eu ea eb sU sL sK sE sG sO gr po ec cx ou tc ss av cs) (fun post => ∃ k, wY_loop_2 post (nI mx) k (nI it) sc oc ne (nI n) ca nc on (fb_pc n p) (nI u) 0 (nI st) yl yr al ap cb cn ac eu ea eb sU sL sK sE sG sO kx ky kd pl rl cm hv ba ad ex cy tc ss av cs bi ou))
    (R : hr_R RC n al ap sU ec ad bi cx cy av cs u l) (ho : on = nI o) (hoo : o ≤ oo) (ht : t < n) (hq : q ≤ n) (hut : sU t = nI u) (b1 : turn + 1 + 2 * l.length ≤ 4 * st) (b2 : it + l.length ≤ 2 * st) (b3 : st ≤ mx) (b4 : 4 * (mx - st) + 2 * l.length < M)
    (hX : ∀ post, (∃ k, wX_run_25 post (nI mx) k (nI turn) sc oc ne (nI n) ca on (nI st) 0 (nI u) xn (nI t) (nI q) al ap ac en eu ea eb sU sL sK sE sG sO gr po ec cx ou tc ss av cs) → WX post)
    (hY3 : ∀ (cy' tc' : Nat → Int32), (∀ P : Int32 → SY → Prop, P 3 (sc, oc, ne, nI n, ca, nc, on, yp, nI u, 3, nI st, yl, yr, al, ap, cb, cn, ac, eu, ea, eb, sU, sL, sK, sE, sG, sO, kx, ky, kd, pl, rl, cm, hv, ba, ad, ex, cy', tc', ss, av, cs, bi, ou) → wpY_endProc P (sc, oc, ne, nI n, ca, nc, on, yp, nI u, 0, nI st, yl, yr, al, ap, cb, cn, ac, eu, ea, eb, sU, sL, sK, sE, sG, sO, kx, ky, kd, pl, rl, cm, hv, ba, ad, ex, cy, tc, ss, av, cs, bi, ou) (nI t) (nI q)) → ∀ post, post 3 (sc, oc, ne, nI n, ca, nc, on, yp, nI u, 3, nI st, yl, yr, al, ap, cb, cn, ac, eu, ea, eb, sU, sL, sK, sE, sG, sO, kx, ky, kd, pl, rl, cm, hv, ba, ad, ex, cy', tc', ss, av, cs, bi, ou) → WY post)
    (hY0 : ∀ (p : Nat) (cy' tc' : Nat → Int32), (∀ P : Int32 → SY → Prop, P 0 (sc, oc, ne, nI n, ca, nc, on, fb_pc n p, nI u, 0, nI st, yl, yr, al, ap, cb, cn, ac, eu, ea, eb, sU, sL, sK, sE, sG, sO, kx, ky, kd, pl, rl, cm, hv, ba, ad, ex, cy', tc', ss, av, cs, bi, ou) → wpY_endProc P (sc, oc, ne, nI n, ca, nc, on, yp, nI u, 0, nI st, yl, yr, al, ap, cb, cn, ac, eu, ea, eb, sU, sL, sK, sE, sG, sO, kx, ky, kd, pl, rl, cm, hv, ba, ad, ex, cy, tc, ss, av, cs, bi, ou) (nI t) (nI q)) → ∀ post, (∃ k, wY_loop_2 post (nI mx) k (nI it) sc oc ne (nI n) ca nc on (fb_pc n p) (nI u) 0 (nI st) yl yr al ap cb cn ac eu ea eb sU sL sK sE sG sO kx ky kd pl rl cm hv ba ad ex cy' tc' ss av cs bi ou) → WY post) : hr_G ER WX WY := by
  have hn := W.1
  have tb : turn + 1 < 1000000 := by omega
  rcases he_both (q := q) (sc := sc) (oc := oc) (ne := ne) (ca := ca) (on := on) (st := nI st) (xn := xn) (nc := nc) (yp := yp) (yl := yl) (yr := yr) (ac := ac) (en := en) (eu := eu) (ea := ea) (eb := eb) (gr := gr) (po := po) (ou := ou) (tc := tc) (ss := ss) (av := av) (cs := cs) (cb := cb) (cn := cn) (kx := kx) (ky := ky) (kd := kd) (pl := pl) (rl := rl) (cm := cm) (hv := hv) (ba := ba) (ex := ex) W ht hq hut (hr_st D R) with ⟨cx', cy', tc', H', gx, gy⟩ | ⟨cx', cy', tc', p, H', p1, p2, gx, gy⟩
  · refine ⟨3, _, _, hE 3 (nI u) xn (-1) (nI q) yp (nI u) 3 on cx' cy' tc' ss ou ec bi av cs o st (by decide) H'.2.1 H'.2.2.1 ho hoo, fun post h => hX post ⟨0 + 1 + 1, rx_proc (by omega) (by omega) (gx _ (nm_r (nI_1 turn) (rx_stop tb (by decide) h)))⟩, fun post h => hY3 cy' tc' gy post h⟩
  · have key := ih cx' cy' tc' ss ou ec bi av cs on (nI q) u p (turn + 1) it st o l (hr_mem R H') ho hoo p1 p2 b1 b2 b3 b4
    refine hr_Gm key (fun post h => hX post ?_) (fun post h => hY0 p cy' tc' gy post h)
    obtain ⟨k, h⟩ := h
    exact ⟨k + 1, rx_proc (by omega) (by omega) (gx _ (nm_r (nI_1 turn) h))⟩
theorem hm_step {M u p turn it st o : Nat} {l : List Nat} (W : hr_W n al ap sU sL sK sE sG sO) (D : hr_D al ap) (hm : mx ≤ 5000) (hoc : oc = nI oo) (h32 : oo ≤ 32) (hE : ∀ (r xu xn xe xd yp yu ye on : Int32) (cx cy tc ss ou ec bi av cs : Nat → Int32) (o st : Nat), r ≠ 0 → fm_Sto RC (fa_N al) (fa_N ap) ec ad → fm_Mem RC cx cy → on = nI o → o ≤ oo → ER r (sc, oc, ne, nI n, ca, on, nI st, r, xu, xn, xe, xd, al, ap, ac, en, eu, ea, eb, sU, sL, sK, sE, sG, sO, gr, po, ec, cx, ou, tc, ss, av, cs) (sc, oc, ne, nI n, ca, nc, on, yp, yu, ye, nI st, yl, yr, al, ap, cb, cn, ac, eu, ea, eb, sU, sL, sK, sE, sG, sO, kx, ky, kd, pl, rl, cm, hv, ba, ad, ex, cy, tc, ss, av, cs, bi, ou)) (ih : ∀ (cx cy tc ss ou ec bi av cs : Nat → Int32) (on xd : Int32) (u p turn it st o : Nat) (l : List Nat), hr_R RC n al ap sU ec ad bi cx cy av cs u l → on = nI o → o ≤ oo → p ≤ n → (p < n → sU p = nI u) → turn + 2 * l.length ≤ 4 * st → it + l.length ≤ 2 * st → st ≤ mx → 4 * (mx - st) + 2 * l.length < M → hr_G ER (fun post => ∃ k, wX_run_25 post (nI mx) k (nI turn) sc oc ne (nI n) ca on (nI st) 0 (nI u) (nI p) (-1) xd al ap ac en eu ea eb sU sL sK sE sG sO gr po ec cx ou tc ss av cs) (fun post => ∃ k, wY_loop_2 post (nI mx) k (nI it) sc oc ne (nI n) ca nc on (fb_pc n p) (nI u) 0 (nI st) yl yr al ap cb cn ac eu ea eb sU sL sK sE sG sO kx ky kd pl rl cm hv ba ad ex cy tc ss av cs bi ou))
    (R : hr_R RC n al ap sU ec ad bi cx cy av cs u l) (ho : on = nI o) (hoo : o ≤ oo) (hp : p < n) (hup : sU p = nI u) (b1 : turn + 2 * l.length ≤ 4 * st) (b2 : it + l.length ≤ 2 * st) (b3 : st < mx) (b4 : 4 * (mx - st) + 2 * l.length < M + 1) :
    hr_G ER (fun post => ∃ k, wX_run_25 post (nI mx) k (nI turn) sc oc ne (nI n) ca on (nI st) 0 (nI u) (nI p) (-1) xd al ap ac en eu ea eb sU sL sK sE sG sO gr po ec cx ou tc ss av cs) (fun post => ∃ k, wY_loop_2 post (nI mx) k (nI it) sc oc ne (nI n) ca nc on (nI p) (nI u) 0 (nI st) yl yr al ap cb cn ac eu ea eb sU sL sK sE sG sO kx ky kd pl rl cm hv ba ad ex cy tc ss av cs bi ou) := by
  have hn := W.1
  have H := hr_st D R
  have u4 := hr_u4 R
  have tb : turn + 2 < 1000000 := by omega
  have ib : it + 2 < 20000 := by omega
  have c_stop : ∀ (r ye' : Int32), r ≠ 0 → (∀ P : SX → Prop, P (sc, oc, ne, nI n, ca, on, nI (st + 1), r, nI u, nI p, -1, xd, al, ap, ac, en, eu, ea, eb, sU, sL, sK, sE, sG, sO, gr, po, ec, cx, ou, tc, ss, av, cs) → wpX_execute P (sc, oc, ne, nI n, ca, on, nI (st + 1), 0, nI u, nI p, -1, xd, al, ap, ac, en, eu, ea, eb, sU, sL, sK, sE, sG, sO, gr, po, ec, cx, ou, tc, ss, av, cs) (nI p)) → (∀ P : Int32 → SY → Prop, P r (sc, oc, ne, nI n, ca, nc, on, nI p, nI u, ye', nI (st + 1), yl, yr, al, ap, cb, cn, ac, eu, ea, eb, sU, sL, sK, sE, sG, sO, kx, ky, kd, pl, rl, cm, hv, ba, ad, ex, cy, tc, ss, av, cs, bi, ou) → wpY_exec P (sc, oc, ne, nI n, ca, nc, on, nI p, nI u, 0, nI (st + 1), yl, yr, al, ap, cb, cn, ac, eu, ea, eb, sU, sL, sK, sE, sG, sO, kx, ky, kd, pl, rl, cm, hv, ba, ad, ex, cy, tc, ss, av, cs, bi, ou) (nI p)) →
      hr_G ER (fun post => ∃ k, wX_run_25 post (nI mx) k (nI turn) sc oc ne (nI n) ca on (nI st) 0 (nI u) (nI p) (-1) xd al ap ac en eu ea eb sU sL sK sE sG sO gr po ec cx ou tc ss av cs) (fun post => ∃ k, wY_loop_2 post (nI mx) k (nI it) sc oc ne (nI n) ca nc on (nI p) (nI u) 0 (nI st) yl yr al ap cb cn ac eu ea eb sU sL sK sE sG sO kx ky kd pl rl cm hv ba ad ex cy tc ss av cs bi ou) := by
    intro r ye' hr hx hy
    refine ⟨r, _, _, hE r (nI u) (nI p) (-1) xd (nI p) (nI u) ye' on cx cy tc ss ou ec bi av cs o (st + 1) hr H.2.1 H.2.2.1 ho hoo, fun post h => ⟨0 + 1 + 1, rx_exec (by omega) hn hp hm b3 (hx _ (nm_r (nI_1 turn) (rx_stop (by omega) hr h)))⟩, fun post h => ⟨0 + 1, ry_exec (by omega) hn hp hm b3 (hy _ (br_f hr h))⟩⟩
  have c_jump : ∀ (p' : Nat) (cx' cy' tc' ss' : Nat → Int32), p' ≤ n → (p' < n → sU p' = nI u) → hc_St RC al ap ec ad bi cx' cy' u → (∀ P : SX → Prop, P (sc, oc, ne, nI n, ca, on, nI (st + 1), 0, nI u, nI p', -1, xd, al, ap, ac, en, eu, ea, eb, sU, sL, sK, sE, sG, sO, gr, po, ec, cx', ou, tc', ss', av, cs) → wpX_execute P (sc, oc, ne, nI n, ca, on, nI (st + 1), 0, nI u, nI p, -1, xd, al, ap, ac, en, eu, ea, eb, sU, sL, sK, sE, sG, sO, gr, po, ec, cx, ou, tc, ss, av, cs) (nI p)) → (∀ P : Int32 → SY → Prop, P 0 (sc, oc, ne, nI n, ca, nc, on, fb_pc n p', nI u, 0, nI (st + 1), yl, yr, al, ap, cb, cn, ac, eu, ea, eb, sU, sL, sK, sE, sG, sO, kx, ky, kd, pl, rl, cm, hv, ba, ad, ex, cy', tc', ss', av, cs, bi, ou) → wpY_exec P (sc, oc, ne, nI n, ca, nc, on, nI p, nI u, 0, nI (st + 1), yl, yr, al, ap, cb, cn, ac, eu, ea, eb, sU, sL, sK, sE, sG, sO, kx, ky, kd, pl, rl, cm, hv, ba, ad, ex, cy, tc, ss, av, cs, bi, ou) (nI p)) →
      hr_G ER (fun post => ∃ k, wX_run_25 post (nI mx) k (nI turn) sc oc ne (nI n) ca on (nI st) 0 (nI u) (nI p) (-1) xd al ap ac en eu ea eb sU sL sK sE sG sO gr po ec cx ou tc ss av cs) (fun post => ∃ k, wY_loop_2 post (nI mx) k (nI it) sc oc ne (nI n) ca nc on (nI p) (nI u) 0 (nI st) yl yr al ap cb cn ac eu ea eb sU sL sK sE sG sO kx ky kd pl rl cm hv ba ad ex cy tc ss av cs bi ou) := by
    intro p' cx' cy' tc' ss' hp' hup' H' hx hy
    refine hr_Gm (ih cx' cy' tc' ss' ou ec bi av cs on xd u p' (turn + 1) (it + 1) (st + 1) o l (hr_mem R H') ho hoo hp' hup' (by omega) (by omega) (by omega) (by omega)) ?_ ?_
    · rintro post ⟨k, h⟩
      exact ⟨k + 1, rx_exec (by omega) hn hp hm b3 (hx _ (nm_r (nI_1 turn) h))⟩
    · rintro post ⟨k, h⟩
      exact ⟨k + 1, ry_exec (by omega) hn hp hm b3 (hy _ (br_t rfl (nm_r (nI_1 it) h)))⟩
  have c_end : ∀ (t q : Nat) (on' : Int32) (cx' cy' tc' ss' ou' : Nat → Int32), t < n → q ≤ n → sU t = nI u → hc_St RC al ap ec ad bi cx' cy' u → (on' = on ∨ (on < oc ∧ on' = on + 1)) → (∀ P : SX → Prop, P (sc, oc, ne, nI n, ca, on', nI (st + 1), 0, nI u, nI p, nI t, nI q, al, ap, ac, en, eu, ea, eb, sU, sL, sK, sE, sG, sO, gr, po, ec, cx', ou', tc', ss', av, cs) → wpX_execute P (sc, oc, ne, nI n, ca, on, nI (st + 1), 0, nI u, nI p, -1, xd, al, ap, ac, en, eu, ea, eb, sU, sL, sK, sE, sG, sO, gr, po, ec, cx, ou, tc, ss, av, cs) (nI p)) → (∀ P : Int32 → SY → Prop, wpY_endProc (fun r w => match w with | (sc0, oc0, ne0, ns0, ca0, nc0, on0, yp0, yu0, ye0, st0, yl0, yr0, al0, ap0, cb0, cn0, ac0, eu0, ea0, eb0, sU0, sL0, sK0, sE0, sG0, sO0, kx0, ky0, kd0, pl0, rl0, cm0, hv0, ba0, ad0, ex0, cy0, tc0, ss0, av0, cs0, bi0, ou0) => P r (sc0, oc0, ne0, ns0, ca0, nc0, on0, yp0, yu0, ye0, st0, yl0, yr0, al0, ap0, cb0, cn0, ac0, eu0, ea0, eb0, sU0, sL0, sK0, sE0, sG0, sO0, kx0, ky0, kd0, pl0, rl0, cm0, hv0, ba0, ad0, ex0, cy0, tc0, ss0, av0, cs0, bi0, ou0)) (sc, oc, ne, nI n, ca, nc, on', nI p, nI u, 0, nI (st + 1), yl, yr, al, ap, cb, cn, ac, eu, ea, eb, sU, sL, sK, sE, sG, sO, kx, ky, kd, pl, rl, cm, hv, ba, ad, ex, cy', tc', ss', av, cs, bi, ou') (nI t) (nI q) → wpY_exec P (sc, oc, ne, nI n, ca, nc, on, nI p, nI u, 0, nI (st + 1), yl, yr, al, ap, cb, cn, ac, eu, ea, eb, sU, sL, sK, sE, sG, sO, kx, ky, kd, pl, rl, cm, hv, ba, ad, ex, cy, tc, ss, av, cs, bi, ou) (nI p)) →
      hr_G ER (fun post => ∃ k, wX_run_25 post (nI mx) k (nI turn) sc oc ne (nI n) ca on (nI st) 0 (nI u) (nI p) (-1) xd al ap ac en eu ea eb sU sL sK sE sG sO gr po ec cx ou tc ss av cs) (fun post => ∃ k, wY_loop_2 post (nI mx) k (nI it) sc oc ne (nI n) ca nc on (nI p) (nI u) 0 (nI st) yl yr al ap cb cn ac eu ea eb sU sL sK sE sG sO kx ky kd pl rl cm hv ba ad ex cy tc ss av cs bi ou) := by
    intro t q on' cx' cy' tc' ss' ou' ht hq hut H' hon hx hy
    have ho' : ∃ o', on' = nI o' ∧ o' ≤ oo := by
      rcases hon with e | ⟨e1, e2⟩
      · exact ⟨o, e.trans ho, hoo⟩
      · rw [ho, hoc, nI_ltI (by omega) (by omega)] at e1
        exact ⟨o + 1, by rw [e2, ho, nI_1], by omega⟩
    obtain ⟨o', ho1, ho2⟩ := ho'
    refine hm_end (tc := tc') (ss := ss') (ou := ou') (q := q) (turn := turn + 1) (it := it + 1) (st := st + 1) (xn := nI p) (yp := nI p) W D hm hE ih (hr_mem R H') ho1 ho2 ht hq hut (by omega) (by omega) (by omega) (by omega) ?_ ?_ ?_
    · rintro post ⟨k, h⟩
      exact ⟨k + 1, rx_exec (by omega) hn hp hm b3 (hx _ (nm_r (nI_1 turn) h))⟩
    · intro cy2 tc2 g post h
      exact ⟨0 + 1, ry_exec (by omega) hn hp hm b3 (hy _ (g _ (br_f (by decide) h)))⟩
    · rintro p2 cy2 tc2 g post ⟨k, h⟩
      exact ⟨k + 1, ry_exec (by omega) hn hp hm b3 (hy _ (g _ (br_t rfl (nm_r (nI_1 it) h))))⟩
  obtain ⟨⟨k1, k2, k3⟩, _⟩ := ha_V (W.2.1 p hp)
  have kc : fa_N sK p = 1 ∨ fa_N sK p = 2 ∨ fa_N sK p = 3 ∨ fa_N sK p = 4 ∨ fa_N sK p = 5 ∨ fa_N sK p = 6 ∨ fa_N sK p = 7 ∨ fa_N sK p = 8 ∨ fa_N sK p = 9 := by omega
  rcases kc with hk | hk | hk | hk | hk | hk | hk | hk | hk
  · exact ex_assign (sc := sc) (oc := oc) (ne := ne) (ca := ca) (on := on) (st := nI (st + 1)) (xn := nI p) (xe := -1) (xd := xd) (nc := nc) (yp := nI p) (yl := yl) (yr := yr) (ac := ac) (en := en) (eu := eu) (ea := ea) (eb := eb) (gr := gr) (po := po) (ou := ou) (tc := tc) (ss := ss) (av := av) (cs := cs) (cb := cb) (cn := cn) (kx := kx) (ky := ky) (kd := kd) (pl := pl) (rl := rl) (cm := cm) (hv := hv) (ba := ba) (ex := ex) W H hp hup hk c_stop c_end
  · exact ex_if (sc := sc) (oc := oc) (ne := ne) (ca := ca) (on := on) (st := nI (st + 1)) (xn := nI p) (xe := -1) (xd := xd) (nc := nc) (yp := nI p) (yl := yl) (yr := yr) (ac := ac) (en := en) (eu := eu) (ea := ea) (eb := eb) (gr := gr) (po := po) (ou := ou) (tc := tc) (ss := ss) (av := av) (cs := cs) (cb := cb) (cn := cn) (kx := kx) (ky := ky) (kd := kd) (pl := pl) (rl := rl) (cm := cm) (hv := hv) (ba := ba) (ex := ex) W H hp hup hk c_stop c_jump
  · exact ex_goto (sc := sc) (oc := oc) (ne := ne) (ca := ca) (on := on) (st := nI (st + 1)) (xn := nI p) (xe := -1) (xd := xd) (nc := nc) (yp := nI p) (yl := yl) (yr := yr) (ac := ac) (en := en) (eu := eu) (ea := ea) (eb := eb) (gr := gr) (po := po) (ou := ou) (tc := tc) (ss := ss) (av := av) (cs := cs) (cb := cb) (cn := cn) (kx := kx) (ky := ky) (kd := kd) (pl := pl) (rl := rl) (cm := cm) (hv := hv) (ba := ba) (ex := ex) W H hp hup hk c_stop c_jump
  · exact ex_do (sc := sc) (oc := oc) (ne := ne) (ca := ca) (on := on) (st := nI (st + 1)) (xn := nI p) (xe := -1) (xd := xd) (nc := nc) (yp := nI p) (yl := yl) (yr := yr) (ac := ac) (en := en) (eu := eu) (ea := ea) (eb := eb) (gr := gr) (po := po) (ou := ou) (tc := tc) (ss := ss) (av := av) (cs := cs) (cb := cb) (cn := cn) (kx := kx) (ky := ky) (kd := kd) (pl := pl) (rl := rl) (cm := cm) (hv := hv) (ba := ba) (ex := ex) W H hp hup hk c_stop c_jump c_end
  · refine ex_call (sc := sc) (oc := oc) (ne := ne) (ca := ca) (on := on) (st := nI (st + 1)) (xn := nI p) (xe := -1) (xd := xd) (nc := nc) (yp := nI p) (yl := yl) (yr := yr) (ac := ac) (en := en) (eu := eu) (ea := ea) (eb := eb) (gr := gr) (po := po) (ou := ou) (tc := tc) (ss := ss) (av := av) (cs := cs) (cb := cb) (cn := cn) (kx := kx) (ky := ky) (kd := kd) (pl := pl) (rl := rl) (cm := cm) (hv := hv) (ba := ba) (ex := ex) W H hp hup hk (hr_act R) c_stop ?_ ?_
    · intro ec' bi' S' hx hy
      refine ⟨3, _, _, hE 3 (nI u) (nI p) (-1) xd (nI p) (nI u) 3 on cx cy tc ss ou ec' bi' av cs o (st + 1) (by decide) S' H.2.2.1 ho hoo, fun post h => ⟨0 + 1 + 1, rx_exec (by omega) hn hp hm b3 (hx _ (nm_r (nI_1 turn) (rx_stop (by omega) (by decide) h)))⟩, fun post h => ⟨0 + 1, ry_exec (by omega) hn hp hm b3 (hy _ (br_f (by decide) h))⟩⟩
    · intro v ec' bi' v4 v0 va S' Bv K hx hy
      have nq := fb_nx_in sU (nI v) n 0
      refine hr_Gm (ih cx cy tc ss ou ec' bi' (upd av v 1) (upd cs v (nI p)) on xd v (fb_nx sU (nI v) n 0) (turn + 1) (it + 1) (st + 1) o (u :: l) (hr_call R hp hn hup v4 v0 va S' Bv K) ho hoo (by omega) (fun z => nq.2.2 (by omega)) ?_ ?_ (by omega) ?_) ?_ ?_
      · rw [List.length_cons]; omega
      · rw [List.length_cons]; omega
      · rw [List.length_cons]; omega
      · rintro post ⟨k, h⟩
        exact ⟨k + 1, rx_exec (by omega) hn hp hm b3 (hx _ (nm_r (nI_1 turn) h))⟩
      · rintro post ⟨k, h⟩
        exact ⟨k + 1, ry_exec (by omega) hn hp hm b3 (hy _ (br_t rfl (nm_r (nI_1 it) h)))⟩
  · exact ex_print (sc := sc) (oc := oc) (ne := ne) (ca := ca) (on := on) (st := nI (st + 1)) (xn := nI p) (xe := -1) (xd := xd) (nc := nc) (yp := nI p) (yl := yl) (yr := yr) (ac := ac) (en := en) (eu := eu) (ea := ea) (eb := eb) (gr := gr) (po := po) (ou := ou) (tc := tc) (ss := ss) (av := av) (cs := cs) (cb := cb) (cn := cn) (kx := kx) (ky := ky) (kd := kd) (pl := pl) (rl := rl) (cm := cm) (hv := hv) (ba := ba) (ex := ex) W H hp hup hk ho hoc h32 hoo c_stop c_end
  · exact ex_cont (sc := sc) (oc := oc) (ne := ne) (ca := ca) (on := on) (st := nI (st + 1)) (xn := nI p) (xe := -1) (xd := xd) (nc := nc) (yp := nI p) (yl := yl) (yr := yr) (ac := ac) (en := en) (eu := eu) (ea := ea) (eb := eb) (gr := gr) (po := po) (ou := ou) (tc := tc) (ss := ss) (av := av) (cs := cs) (cb := cb) (cn := cn) (kx := kx) (ky := ky) (kd := kd) (pl := pl) (rl := rl) (cm := cm) (hv := hv) (ba := ba) (ex := ex) W H hp hup hk c_end
  · refine ex_ret (sc := sc) (oc := oc) (ne := ne) (ca := ca) (on := on) (st := nI (st + 1)) (xn := nI p) (xe := -1) (xd := xd) (nc := nc) (yp := nI p) (yl := yl) (yr := yr) (ac := ac) (en := en) (eu := eu) (ea := ea) (eb := eb) (gr := gr) (po := po) (ou := ou) (tc := tc) (ss := ss) (av := av) (cs := cs) (cb := cb) (cn := cn) (kx := kx) (ky := ky) (kd := kd) (pl := pl) (rl := rl) (cm := cm) (hv := hv) (ba := ba) (ex := ex) W H hp hup hk c_stop ?_
    intro u0 hx hy
    obtain ⟨w, l', c, rfl, hc, e1, e2, R'⟩ := hr_leave W R u0
    rw [List.length_cons] at b1 b2 b4
    refine hm_end (tc := tc) (ss := ss) (ou := ou) (u := w) (t := c) (q := c) (turn := turn + 1) (it := it + 2) (st := st + 1) (xn := nI p) (yp := -1) W D hm hE ih R' ho hoo hc (by omega) e2 (by omega) (by omega) (by omega) (by omega) ?_ ?_ ?_
    · rintro post ⟨k, h⟩
      exact ⟨k + 1, rx_exec (by omega) hn hp hm b3 (hx _ (rx_lv u0 u4 (by omega) e1 e2 (nm_r (nI_1 turn) h)))⟩
    · intro cy2 tc2 g post h
      exact ⟨0 + 1 + 1, ry_exec (by omega) hn hp hm b3 (hy _ (br_t rfl (nm_r (nI_1 it) (ry_leave (by omega) u0 u4 (by omega) e1 e2 (g _ (br_f (by decide) h))))))⟩
    · rintro p2 cy2 tc2 g post ⟨k, h⟩
      exact ⟨k + 1 + 1, ry_exec (by omega) hn hp hm b3 (hy _ (br_t rfl (nm_r (nI_1 it) (ry_leave (by omega) u0 u4 (by omega) e1 e2 (g _ (br_t rfl (nm_r (nI_1 (it + 1)) h)))))))⟩
  · exact ex_stop (sc := sc) (oc := oc) (ne := ne) (ca := ca) (on := on) (st := nI (st + 1)) (xn := nI p) (xe := -1) (xd := xd) (nc := nc) (yp := nI p) (yl := yl) (yr := yr) (ac := ac) (en := en) (eu := eu) (ea := ea) (eb := eb) (gr := gr) (po := po) (ou := ou) (tc := tc) (ss := ss) (av := av) (cs := cs) (cb := cb) (cn := cn) (kx := kx) (ky := ky) (kd := kd) (pl := pl) (rl := rl) (cm := cm) (hv := hv) (ba := ba) (ex := ex) W H hp hup hk c_stop
theorem hm_main (W : hr_W n al ap sU sL sK sE sG sO) (D : hr_D al ap) (hm : mx ≤ 5000) (hoc : oc = nI oo) (h32 : oo ≤ 32) (hE : ∀ (r xu xn xe xd yp yu ye on : Int32) (cx cy tc ss ou ec bi av cs : Nat → Int32) (o st : Nat), r ≠ 0 → fm_Sto RC (fa_N al) (fa_N ap) ec ad → fm_Mem RC cx cy → on = nI o → o ≤ oo → ER r (sc, oc, ne, nI n, ca, on, nI st, r, xu, xn, xe, xd, al, ap, ac, en, eu, ea, eb, sU, sL, sK, sE, sG, sO, gr, po, ec, cx, ou, tc, ss, av, cs) (sc, oc, ne, nI n, ca, nc, on, yp, yu, ye, nI st, yl, yr, al, ap, cb, cn, ac, eu, ea, eb, sU, sL, sK, sE, sG, sO, kx, ky, kd, pl, rl, cm, hv, ba, ad, ex, cy, tc, ss, av, cs, bi, ou)) : ∀ M : Nat, ∀ (cx cy tc ss ou ec bi av cs : Nat → Int32) (on xd : Int32) (u p turn it st o : Nat) (l : List Nat), hr_R RC n al ap sU ec ad bi cx cy av cs u l → on = nI o → o ≤ oo → p ≤ n → (p < n → sU p = nI u) → turn + 2 * l.length ≤ 4 * st → it + l.length ≤ 2 * st → st ≤ mx → 4 * (mx - st) + 2 * l.length < M → hr_G ER (fun post => ∃ k, wX_run_25 post (nI mx) k (nI turn) sc oc ne (nI n) ca on (nI st) 0 (nI u) (nI p) (-1) xd al ap ac en eu ea eb sU sL sK sE sG sO gr po ec cx ou tc ss av cs) (fun post => ∃ k, wY_loop_2 post (nI mx) k (nI it) sc oc ne (nI n) ca nc on (fb_pc n p) (nI u) 0 (nI st) yl yr al ap cb cn ac eu ea eb sU sL sK sE sG sO kx ky kd pl rl cm hv ba ad ex cy tc ss av cs bi ou) := by
  intro M
  induction M with
  | zero =>
    intro cx cy tc ss ou ec bi av cs on xd u p turn it st o l R ho hoo hp hup b1 b2 b3 b4
    exact absurd b4 (Nat.not_lt_zero _)
  | succ M ih =>
    intro cx cy tc ss ou ec bi av cs on xd u p turn it st o l R ho hoo hp hup b1 b2 b3 b4
    have hn := W.1
    have H := hr_st D R
    have u4 := hr_u4 R
    have tb : turn + 2 < 1000000 := by omega
    have ib : it + 2 < 20000 := by omega
    by_cases pn : p < n
    · rw [ex_pc pn]
      by_cases sm : st < mx
      · exact hm_step W D hm hoc h32 hE ih R ho hoo pn (hup pn) b1 b2 sm b4
      · have e : st = mx := by omega
        subst e
        exact ⟨2, _, _, hE 2 (nI u) (nI p) (-1) xd (nI p) (nI u) 0 on cx cy tc ss ou ec bi av cs o st (by decide) H.2.1 H.2.2.1 ho hoo, fun post h => ⟨0 + 1 + 1, rx_steps (by omega) hn pn hm h⟩, fun post h => ⟨0 + 1, ry_steps (by omega) hn pn h⟩⟩
    · have ep : p = n := by omega
      subst ep
      have epc : fb_pc p p = -1 := if_neg pn
      rw [epc]
      by_cases u0 : u = 0
      · exact ⟨1, _, _, hE 1 (nI u) (nI p) (-1) xd (-1) (nI u) 0 on cx cy tc ss ou ec bi av cs o st (by decide) H.2.1 H.2.2.1 ho hoo, fun post h => ⟨0 + 1 + 1, rx_leave (by omega) hn (rx_lv0 u0 (nm_r (nI_1 turn) (rx_stop (by omega) (by decide) h)))⟩, fun post h => ⟨0 + 1, ry_done (by omega) u0 h⟩⟩
      · obtain ⟨w, l', c, rfl, hc, e1, e2, R'⟩ := hr_leave W R u0
        rw [List.length_cons] at b1 b2 b4
        refine hm_end (tc := tc) (ss := ss) (ou := ou) (u := w) (t := c) (q := c) (turn := turn + 1) (it := it + 1) (st := st) (xn := nI p) (yp := -1) W D hm hE ih R' ho hoo hc (by omega) e2 (by omega) (by omega) (by omega) (by omega) ?_ ?_ ?_
        · rintro post ⟨k, h⟩
          exact ⟨k + 1, rx_leave (by omega) hn (rx_lv u0 u4 (by omega) e1 e2 (nm_r (nI_1 turn) h))⟩
        · intro cy2 tc2 g post h
          exact ⟨0 + 1, ry_leave (by omega) u0 u4 (by omega) e1 e2 (g _ (br_f (by decide) h))⟩
        · rintro p2 cy2 tc2 g post ⟨k, h⟩
          exact ⟨k + 1, ry_leave (by omega) u0 u4 (by omega) e1 e2 (g _ (br_t rfl (nm_r (nI_1 it) h)))⟩
end HRM
