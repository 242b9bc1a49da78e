section PCL
/-! the calls of the law, each against a plain fact -/
variable {sc oc ne ns ca on st ra xu xn xe xd : Int32} {al ap ac en eu ea eb sU sL sK sE sG sO gr po ec cx ou tc ss av cs cb cn : Nat → Int32}
variable {post : Int32 → Prop} {n u v m i e b c d : Nat}
theorem pq_cell {xs : Nat → Int32} {N p : Nat} (hN : N ≤ 260) (hp : p < 100000) (h : ∀ r, post r) : wpL_cell post N xs () (nI p) :=
  pk_le N p (fun _ => h _) (fun z => ⟨vp_in_nI z (by omega), h _⟩)
theorem pq_code {n i : Nat} (h : post (nI (10000 + 100 * n + i))) : wpL_code post () (nI n) (nI i) := by
  show post (nI 10000 + nI 100 * nI n + nI i)
  rw [pk_mul, nI_add, nI_add]
  exact h
theorem pq_len (D : fs_D al ap ac en cb cn eu ea eb n) (hu : u < 4) (hm : m < 8) (h : post (nI (fa_N al (u * 8 + m)))) : wpX_query post (sc, oc, ne, ns, ca, on, st, ra, xu, xn, xe, xd, al, ap, ac, en, eu, ea, eb, sU, sL, sK, sE, sG, sO, gr, po, ec, cx, ou, tc, ss, av, cs) 1 (nI u) (nI m) := by
  have l1 := (cn_A D (k := u * 8 + m) (by omega)).1
  refine br_f (by decide) (br_f (by decide) (br_t rfl ?_))
  refine hx_isUnit (fun _ => br_f (by decide) ?_) (fun z => absurd ⟨u, hu, rfl⟩ z)
  refine hx_isName (fun _ => br_f (by decide) ?_) (fun z => absurd ⟨m, hm, rfl⟩ z)
  rw [ha_us, nI_clamp (n := u * 8 + m) (by omega), l1]
  exact ⟨vp_in_nI (by omega) (by decide), h⟩
theorem pq_com (D : fs_D al ap ac en cb cn eu ea eb n) (hu : u < 4) (hi : i < fa_N ac u) (h : post (nI (fa_N cb (u * 8 + i) * 8 + fa_N cn (u * 8 + i)))) : wpX_query post (sc, oc, ne, ns, ca, on, st, ra, xu, xn, xe, xd, al, ap, ac, en, eu, ea, eb, sU, sL, sK, sE, sG, sO, gr, po, ec, cx, ou, tc, ss, av, cs) 3 (nI u) (nI i) := by
  obtain ⟨c1, c2⟩ := cn_C D hu
  have l1 := (cn_I D (i := u * 8 + i) (by omega)).2.2
  refine br_f (by decide) (br_f (by decide) (br_f (by decide) (br_f (by decide) (br_t rfl ?_))))
  unfold wpX_entryAt
  dsimp only
  refine hx_isUnit (fun _ => br_f (by decide) ?_) (fun z => absurd ⟨u, hu, rfl⟩ z)
  refine br_f (nI_pos (by omega)) ⟨vp_in_nI hu (by decide), ?_⟩
  rw [nI_clamp (n := u) (by omega), c1, ha_us, nI_clamp (n := u * 8 + i) (by omega), l1]
  exact br_t (nI_lt hi (by omega)) ⟨vp_in_nI (by omega) (by decide), h⟩
theorem pq_com0 (D : fs_D al ap ac en cb cn eu ea eb n) (hu : u < 4) (hi : i = fa_N ac u) (h : post (-1)) : wpX_query post (sc, oc, ne, ns, ca, on, st, ra, xu, xn, xe, xd, al, ap, ac, en, eu, ea, eb, sU, sL, sK, sE, sG, sO, gr, po, ec, cx, ou, tc, ss, av, cs) 3 (nI u) (nI i) := by
  obtain ⟨c1, c2⟩ := cn_C D hu
  refine br_f (by decide) (br_f (by decide) (br_f (by decide) (br_f (by decide) (br_t rfl ?_))))
  unfold wpX_entryAt
  dsimp only
  refine hx_isUnit (fun _ => br_f (by decide) ?_) (fun z => absurd ⟨u, hu, rfl⟩ z)
  refine br_f (nI_pos (by omega)) ⟨vp_in_nI hu (by decide), ?_⟩
  rw [nI_clamp (n := u) (by omega), c1]
  exact br_f (nI_nlt (by omega) (by omega)) h
theorem pq_eq0 (hn : n ≤ 16) (he : e < n) (h : post (eu e)) : wpX_query post (sc, oc, nI n, ns, ca, on, st, ra, xu, xn, xe, xd, al, ap, ac, en, eu, ea, eb, sU, sL, sK, sE, sG, sO, gr, po, ec, cx, ou, tc, ss, av, cs) 4 (nI e) 0 := by
  refine br_f (by decide) (br_f (by decide) (br_f (by decide) (br_f (by decide) (br_f (by decide) (br_t rfl ?_)))))
  refine br_f (nI_pos (by omega)) (br_t (nI_lt he (by omega)) (br_f (by decide) (br_f (by decide) (br_t rfl ⟨vp_in_nI (by omega) (by decide), ?_⟩))))
  rw [nI_clamp (n := e) (by omega)]
  exact h
theorem pq_eq1 (hn : n ≤ 16) (he : e < n) (h : post (ea e)) : wpX_query post (sc, oc, nI n, ns, ca, on, st, ra, xu, xn, xe, xd, al, ap, ac, en, eu, ea, eb, sU, sL, sK, sE, sG, sO, gr, po, ec, cx, ou, tc, ss, av, cs) 4 (nI e) 1 := by
  refine br_f (by decide) (br_f (by decide) (br_f (by decide) (br_f (by decide) (br_f (by decide) (br_t rfl ?_)))))
  refine br_f (nI_pos (by omega)) (br_t (nI_lt he (by omega)) (br_f (by decide) (br_f (by decide) (br_f (by decide) (br_t rfl ⟨vp_in_nI (by omega) (by decide), ?_⟩)))))
  rw [nI_clamp (n := e) (by omega)]
  exact h
theorem pq_eq2 (hn : n ≤ 16) (he : e < n) (h : post (eb e)) : wpX_query post (sc, oc, nI n, ns, ca, on, st, ra, xu, xn, xe, xd, al, ap, ac, en, eu, ea, eb, sU, sL, sK, sE, sG, sO, gr, po, ec, cx, ou, tc, ss, av, cs) 4 (nI e) 2 := by
  refine br_f (by decide) (br_f (by decide) (br_f (by decide) (br_f (by decide) (br_f (by decide) (br_t rfl ?_)))))
  refine br_f (nI_pos (by omega)) (br_t (nI_lt he (by omega)) (br_f (by decide) (br_f (by decide) (br_f (by decide) (br_f (by decide) (br_t rfl ⟨vp_in_nI (by omega) (by decide), ?_⟩))))))
  rw [nI_clamp (n := e) (by omega)]
  exact h
theorem pq_eqN (hn : n ≤ 16) (h : post (-1)) : wpX_query post (sc, oc, nI n, ns, ca, on, st, ra, xu, xn, xe, xd, al, ap, ac, en, eu, ea, eb, sU, sL, sK, sE, sG, sO, gr, po, ec, cx, ou, tc, ss, av, cs) 4 (nI n) 0 :=
  br_f (by decide) (br_f (by decide) (br_f (by decide) (br_f (by decide) (br_f (by decide) (br_t rfl (br_f (nI_pos (by omega)) (br_f (nI_nlt (Nat.le_refl n) (by omega)) h)))))))
theorem pq_ext (hb : b < 4) (h : post (fs_ext gr po al b 32)) : wpX_query post (sc, oc, ne, ns, 1, on, st, ra, xu, xn, xe, xd, al, ap, ac, en, eu, ea, eb, sU, sL, sK, sE, sG, sO, gr, po, ec, cx, ou, tc, ss, av, cs) 8 (nI b) 0 := by
  refine br_f (by decide) (br_f (by decide) (br_f (by decide) (br_f (by decide) (br_f (by decide) (br_f (by decide) (br_f (by decide) (br_f (by decide) (br_f (by decide) (br_t rfl ?_)))))))))
  refine hx_isBlock (fun _ => br_f (by decide) (br_t rfl ?_)) (fun z => absurd ⟨b, hb, rfl⟩ z)
  exact ca_ext hb h
theorem pq_ext0 (hc : ¬ ca = 1) (h : post (-1)) : wpX_query post (sc, oc, ne, ns, ca, on, st, ra, xu, xn, xe, xd, al, ap, ac, en, eu, ea, eb, sU, sL, sK, sE, sG, sO, gr, po, ec, cx, ou, tc, ss, av, cs) 8 0 0 := by
  refine br_f (by decide) (br_f (by decide) (br_f (by decide) (br_f (by decide) (br_f (by decide) (br_f (by decide) (br_f (by decide) (br_f (by decide) (br_f (by decide) (br_t rfl ?_)))))))))
  exact hx_isBlock (fun _ => br_f (by decide) (br_f hc h)) (fun _ => br_t rfl h)
theorem pq_al0 {p0 p1 p2 p3 : Int32} (hc : ¬ ca = 1) (h : post 0) : wpX_aliased post (sc, oc, ne, ns, ca, on, st, ra, xu, xn, xe, xd, al, ap, ac, en, eu, ea, eb, sU, sL, sK, sE, sG, sO, gr, po, ec, cx, ou, tc, ss, av, cs) p0 p1 p2 p3 := br_f hc h
/-- what stands after compile has answered C_OK -/
def pc_K (al ap ac en cb cn eu ea eb gr po ec : Nat → Int32) (n : Nat) : Prop :=
  fs_D al ap ac en cb cn eu ea eb n ∧ (∀ u, u < 4 → ap u = 0) ∧ (∀ i, i < 32 → fa_N cb i < 2) ∧
  ga_IX (gd_CS (fa_N al) (fa_N ac) (fa_N cb) (fa_N cn) n (fa_N eu) (fa_N ea) (fa_N eb)) (gd_SE (fa_N al) (fa_N ac) (fa_N cb) (fa_N cn) (fa_N eu) (fa_N ea) (fa_N eb) n) gr po ∧ ¬ gd_JB gr ∧
  (∀ k i, k < 32 → 1 ≤ i → i ≤ fa_N al k → ∃ e, gb_Fst gr po (fa_N al) k i e ∧ ec (k * 16 + i - 1) = nI e)
theorem pq_al1 (K : pc_K al ap ac en cb cn eu ea eb gr po ec n) {c c' : Nat} (hu : u < 4) (hv : v < 4) (hc : fb_FX c) (hc' : fb_FX c') (hi : fb_ix c ≤ fa_N al (u * 8 + fb_nm c)) (hi' : fb_ix c' ≤ fa_N al (v * 8 + fb_nm c'))
    (e1 : gr (u * 8 + fb_nm c) = gr (v * 8 + fb_nm c')) (e2 : po (u * 8 + fb_nm c) + nI (fb_ix c) = po (v * 8 + fb_nm c') + nI (fb_ix c')) (h : post 1) : wpX_aliased post (sc, oc, ne, ns, 1, on, st, ra, xu, xn, xe, xd, al, ap, ac, en, eu, ea, eb, sU, sL, sK, sE, sG, sO, gr, po, ec, cx, ou, tc, ss, av, cs) (nI u) (nI c) (nI v) (nI c') := by
  obtain ⟨D, hp, _, _, _, hk⟩ := K
  have s : ∀ w, w < 4 → ∀ m, ¬ m < fa_N ap w := fun w hw m z => by
    have : fa_N ap w = 0 := fa_Re (hp w hw) (by decide)
    omega
  have n1 := fb_nm8 (Or.inl hc)
  have n2 := fb_nm8 (Or.inl hc')
  obtain ⟨f, f1, f2⟩ := hk (u * 8 + fb_nm c) (fb_ix c) (by omega) (fb_ix1 c) hi
  obtain ⟨f', f1', f2'⟩ := hk (v * 8 + fb_nm c') (fb_ix c') (by omega) (fb_ix1 c') hi'
  have ef : f = f' := (gb_fst_iff f1 f1').mpr ⟨e1, e2⟩
  have lf := gb_fst_lt f1
  refine br_t rfl ?_
  refine rd_x1 D hu hc (s u hu _) hi ?_
  refine rd_x1 D hv hc' (s v hv _) hi' ?_
  rw [f2, f2', ef]
  exact br_f (fa_m1 (by omega)) (br_t rfl h)
theorem pc_fx {n i : Nat} (hn : n < 8) (i1 : 1 ≤ i) (hi : i ≤ 16) : fb_FX (10000 + 100 * n + i) ∧ fb_nm (10000 + 100 * n + i) = n ∧ fb_ix (10000 + 100 * n + i) = i := by
  refine ⟨?_, ?_, ?_⟩
  · unfold fb_FX
    omega
  · unfold fb_nm
    omega
  · unfold fb_ix
    rw [if_neg (by omega)]
    omega
/-- one pair of elements by name and index -/
theorem pq_al (K : pc_K al ap ac en cb cn eu ea eb gr po ec n) {m m' i j : Nat} (hu : u < 4) (hv : v < 4) (hm : m < 8) (hm' : m' < 8) (i1 : 1 ≤ i) (il : i ≤ fa_N al (u * 8 + m)) (j1 : 1 ≤ j) (jl : j ≤ fa_N al (v * 8 + m'))
    (e1 : gr (u * 8 + m) = gr (v * 8 + m')) (e2 : po (u * 8 + m) + nI i = po (v * 8 + m') + nI j) (h : post 1) : wpX_aliased post (sc, oc, ne, ns, 1, on, st, ra, xu, xn, xe, xd, al, ap, ac, en, eu, ea, eb, sU, sL, sK, sE, sG, sO, gr, po, ec, cx, ou, tc, ss, av, cs) (nI u) (nI (10000 + 100 * m + i)) (nI v) (nI (10000 + 100 * m' + j)) := by
  have l1 := (cn_A K.1 (k := u * 8 + m) (by omega)).2.2
  have l2 := (cn_A K.1 (k := v * 8 + m') (by omega)).2.2
  obtain ⟨a1, a2, a3⟩ := pc_fx hm i1 (by omega)
  obtain ⟨b1, b2, b3⟩ := pc_fx hm' j1 (by omega)
  refine pq_al1 K hu hv a1 b1 ?_ ?_ ?_ ?_ h
  · rw [a2, a3]; exact il
  · rw [b2, b3]; exact jl
  · rw [a2, b2]; exact e1
  · rw [a2, b2, a3, b3]; exact e2
theorem pq_comp {P : Int32 → St2 → Prop} (D : fs_D al ap ac en cb cn eu ea eb n) (hp : ∀ u, u < 4 → ap u = 0) (h2 : ∀ i, i < 32 → fa_N cb i < 2) (h0 : ∀ (r : Int32) (gr po : Nat → Int32), ¬ r = 1 → P r (sc, oc, nI n, nI 0, r, on, st, ra, xu, xn, xe, xd, al, ap, ac, en, eu, ea, eb, sU, sL, sK, sE, sG, sO, gr, po, ec, cx, ou, tc, ss, av, cs))
    (h1 : ∀ gr po ec : Nat → Int32, pc_K al ap ac en cb cn eu ea eb gr po ec n → P 1 (sc, oc, nI n, nI 0, 1, on, st, ra, xu, xn, xe, xd, al, ap, ac, en, eu, ea, eb, sU, sL, sK, sE, sG, sO, gr, po, ec, cx, ou, tc, ss, av, cs)) : wpX_compile P (sc, oc, nI n, nI 0, 0, on, st, ra, xu, xn, xe, xd, al, ap, ac, en, eu, ea, eb, sU, sL, sK, sE, sG, sO, gr, po, ec, cx, ou, tc, ss, av, cs) := by
  refine br_t rfl ?_
  refine ck_x (n := 0) (f := True) (Nat.zero_le 64) (fun s hs => absurd hs (Nat.not_lt_zero s)) D (fun _ => br_f (by decide) (h0 2 gr po (by decide))) (fun _ _ => br_f (by decide) (h0 3 gr po (by decide))) (fun _ _ _ => br_f (by decide) (h0 4 gr po (by decide))) (fun _ _ _ _ gr' po' => br_f (by decide) (h0 5 gr' po' (by decide)))
    (fun _ _ _ gr' po' H => ⟨fun _ => br_f (by decide) (h0 5 gr' po' (by decide)), fun _ _ => br_f (by decide) (h0 6 gr' po' (by decide)), fun _ _ _ => br_f (by decide) (h0 7 gr' po' (by decide)), fun _ _ _ _ => br_f (by decide) (h0 8 gr' po' (by decide)), fun j _ _ _ => br_t rfl ?_⟩)
  exact ca_cells D.1 (fun ec' hec => h1 gr' po' ec' ⟨D, hp, h2, H, j, hec⟩)
end PCL
