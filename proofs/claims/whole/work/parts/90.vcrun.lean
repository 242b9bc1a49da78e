/-! the owed statement of run -/
theorem i_vc_run {k : Nat} {u : SX} {v : SY} (I : i_Rel k u v) (hk : k + 5 ≤ 2562) (v1 : Int32) : wpX_run (fun r u' => wpY_run (fun r' v' => r' = r ∧ i_Rel (k + 5) u' v') v v1) u v1 := by
  refine i_el (Q := fun u v => wpX_run (fun r u' => wpY_run (fun r' v' => r' = r ∧ i_Rel (k + 5) u' v') v v1) u v1) I ?_
  intro sc oc ne ns ca on st ra xu xn xe xd nc yp yu ye yl yr al ap ac en eu ea eb sU sL sK sE sG sO gr po ec cx ou tc ss av cs cb cn kx ky kd pl rl cm hv ba ad ex cy bi hsc hoc hD hS hca hyl hra hC
  by_cases c1 : ca = 1
  · subst c1
    obtain ⟨n, hn, rfl, S, C⟩ := hS
    obtain ⟨oo, o, oo4, oo32, hoc1, hoo, hon⟩ := hoc
    obtain ⟨nq, hnq, D⟩ := hD
    obtain ⟨hex, RC, B, St, Mm⟩ := hC rfl
    have C' := C rfl
    have S' : fs_S n sU sL sK sE sG sO True := fun s hs => by
      obtain ⟨u, l, k, e, g, a1, a2, a3, a4, a5, a6, a7, a8, a9, a10, a11, a12, a13⟩ := S s hs
      exact ⟨u, l, k, e, g, a1, a2, a3, a4, a5, a6, a7, a8, a9, a10, a11, fun _ => a12 (Or.inr rfl), a13⟩
    have W : hr_W n al ap sU sL sK sE sG sO := ⟨hn, S', C'⟩
    have Dd : hr_D al ap := ⟨D.1, D.2.2.1, C'.1⟩
    obtain ⟨mx, m1, m5, mX, mY⟩ := sc_mx v1
    have R : hr_R RC n al ap sU ec ad bi (hz cx 512) (hz cy 512) (upd (hz av 4) 0 1) cs 0 [] := by
      refine ⟨B, St, ?_, ?_, List.nodup_cons.mpr ⟨List.not_mem_nil, List.nodup_nil⟩, ?_, rfl, ?_⟩
      · intro a b r
        rw [hz_in (B.1 a b r).1, hz_in (B.1 a b r).2]
      · intro w hw
        have e : w = 0 := by simpa using hw
        subst e
        intro m hm
        have : fa_N ap 0 = 0 := fa_Re (j := 0) D.2.1 (by decide)
        omega
      · intro w hw
        by_cases e : w = 0
        · subst e
          rw [pk_us]
          exact ⟨fun _ => List.mem_cons_self, fun _ => by decide⟩
        · rw [pk_un e, hz_in hw]
          exact ⟨fun z => absurd rfl z, fun z => absurd (by simpa using z) e⟩
      · intro w hw h0
        exact absurd (by simpa using hw) h0
    have qn := fb_nx_in sU 0 n 0
    obtain ⟨r, X', Y', ⟨sc0, oc0, ne0, ns0, ca0, on0, st0, ra0, xu0, xn0, xe0, xd0, nc0, yp0, yu0, ye0, yl0, yr0, al0, ap0, ac0, en0, eu0, ea0, eb0, sU0, sL0, sK0, sE0, sG0, sO0, gr0, po0, ec0, cx0, ou0, tc0, ss0, av0, cs0, cb0, cn0, kx0, ky0, kd0, pl0, rl0, cm0, hv0, ba0, ad0, ex0, cy0, bi0, rfl, rfl, hI⟩, gx, gy⟩ := hm_main (n := n) (oo := oo) (mx := mx) (RC := RC) (sc := sc) (oc := oc) (ne := ne) (ca := 1) (nc := nc) (yl := yl) (yr := 1) (ac := ac) (en := en) (eu := eu) (ea := ea) (eb := eb) (gr := gr) (po := po) (cb := cb) (cn := cn) (kx := kx) (ky := ky) (kd := kd) (pl := pl) (rl := rl) (cm := cm) (hv := hv) (ba := ba) (ex := ex) (ER := fun r X' Y' => ∃ (sc0 oc0 ne0 ns0 ca0 on0 st0 ra0 xu0 xn0 xe0 xd0 nc0 yp0 yu0 ye0 yl0 yr0 : Int32) (al0 ap0 ac0 en0 eu0 ea0 eb0 sU0 sL0 sK0 sE0 sG0 sO0 gr0 po0 ec0 cx0 ou0 tc0 ss0 av0 cs0 cb0 cn0 kx0 ky0 kd0 pl0 rl0 cm0 hv0 ba0 ad0 ex0 cy0 bi0 : Nat → Int32), X' = (sc0, oc0, ne0, ns0, ca0, on0, st0, ra0, xu0, xn0, xe0, xd0, al0, ap0, ac0, en0, eu0, ea0, eb0, sU0, sL0, sK0, sE0, sG0, sO0, gr0, po0, ec0, cx0, ou0, tc0, ss0, av0, cs0) ∧ Y' = (sc0, oc0, ne0, ns0, ca0, nc0, on0, yp0, yu0, ye0, st0, yl0, yr0, al0, ap0, cb0, cn0, ac0, eu0, ea0, eb0, sU0, sL0, sK0, sE0, sG0, sO0, kx0, ky0, kd0, pl0, rl0, cm0, hv0, ba0, ad0, ex0, cy0, tc0, ss0, av0, cs0, bi0, ou0) ∧ i_Rel (k + 5) (sc0, oc0, ne0, ns0, ca0, on0, st0, ra0, xu0, xn0, xe0, xd0, al0, ap0, ac0, en0, eu0, ea0, eb0, sU0, sL0, sK0, sE0, sG0, sO0, gr0, po0, ec0, cx0, ou0, tc0, ss0, av0, cs0) (sc0, oc0, ne0, ns0, ca0, nc0, on0, yp0, yu0, ye0, st0, r, yr0, al0, ap0, cb0, cn0, ac0, eu0, ea0, eb0, sU0, sL0, sK0, sE0, sG0, sO0, kx0, ky0, kd0, pl0, rl0, cm0, hv0, ba0, ad0, ex0, cy0, tc0, ss0, av0, cs0, bi0, ou0) ∧ ra0 = r) W Dd m5 hoc1 oo32
      (fun r xu xn xe xd yp yu ye on cx cy tc ss ou ec bi av cs o st hr hS' hM' ho hoo' => ⟨sc, oc, ne, nI n, 1, on, nI st, r, xu, xn, xe, xd, nc, yp, yu, ye, yl, 1, al, ap, ac, en, eu, ea, eb, sU, sL, sK, sE, sG, sO, gr, po, ec, cx, ou, tc, ss, av, cs, cb, cn, kx, ky, kd, pl, rl, cm, hv, ba, ad, ex, cy, bi, rfl, rfl, i_mk hsc ⟨oo, o, oo4, oo32, hoc1, hoo', ho⟩ ⟨nq, hnq, D⟩ ⟨n, hn, rfl, S, C⟩ hca rfl (Or.inr ⟨hr, rfl, rfl⟩) (fun _ => ⟨hex, RC, B, hS', fun _ => hM'⟩), rfl⟩)
      (4 * mx + 1) (hz cx 512) (hz cy 512) (hz tc 64) (hz ss 64) ou ec bi (upd (hz av 4) 0 1) cs 0 xd 0 (fb_nx sU 0 n 0) 0 0 0 0 [] R rfl (Nat.zero_le _) (by omega) (fun z => qn.2.2 (by omega)) (by simp) (by simp) (by omega) (by simp)
    obtain ⟨hI, rfl⟩ := hI
    have key : ∃ m, wY_run_36 (fun r' v' => r' = ra0 ∧ i_Rel (k + 5) (sc0, oc0, ne0, ns0, ca0, on0, st0, ra0, xu0, xn0, xe0, xd0, al0, ap0, ac0, en0, eu0, ea0, eb0, sU0, sL0, sK0, sE0, sG0, sO0, gr0, po0, ec0, cx0, ou0, tc0, ss0, av0, cs0) v') (nI mx) sc oc ne (nI n) 1 nc on yp yu ye st yl yr m 0 al ap cb cn ac eu ea eb sU sL sK sE sG sO kx ky kd pl rl cm hv ba ad ex cy tc ss av cs bi ou := sy_start hn (gy _ ⟨rfl, hI⟩)
    have keyX := gx (fun r u' => wpY_run (fun r' v' => r' = r ∧ i_Rel (k + 5) u' v') (sc, oc, ne, nI n, 1, nc, on, yp, yu, ye, st, yl, yr, al, ap, cb, cn, ac, eu, ea, eb, sU, sL, sK, sE, sG, sO, kx, ky, kd, pl, rl, cm, hv, ba, ad, ex, cy, tc, ss, av, cs, bi, ou) v1) (br_t rfl (mY (fun x2 => ∃ m, wY_run_36 (fun r' v' => r' = ra0 ∧ i_Rel (k + 5) (sc0, oc0, ne0, ns0, ca0, on0, st0, ra0, xu0, xn0, xe0, xd0, al0, ap0, ac0, en0, eu0, ea0, eb0, sU0, sL0, sK0, sE0, sG0, sO0, gr0, po0, ec0, cx0, ou0, tc0, ss0, av0, cs0) v') x2 sc oc ne (nI n) 1 nc on yp yu ye st yl yr m 0 al ap cb cn ac eu ea eb sU sL sK sE sG sO kx ky kd pl rl cm hv ba ad ex cy tc ss av cs bi ou) key))
    exact br_t rfl (mX _ (sx_start hn keyX))
  · exact br_f c1 (br_f c1 ⟨rfl, i_mk hsc hoc hD hS hca hyl hra hC⟩)
