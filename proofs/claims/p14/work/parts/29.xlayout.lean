section HXL
/-! the class's layout -/
variable {sc oc ne ns ca on st ra xu xn xe xd nc yp yu ye yl yr : Int32} {al ap ac en eu ea eb sU sL sK sE sG sO gr po ec cx ou tc ss av cs cb cn kx ky kd pl rl cm hv ba ad ex cy bi : Nat → Int32}
variable {n : Nat} {C S : ga_T}
theorem cl_g0 (g : Nat → Int32) (o w : Int32) : ga_g g o w 0 = g := by
  funext j
  exact if_neg (fun z => Nat.not_lt_zero j z.1)
theorem cl_q0 (g q : Nat → Int32) (o w : Int32) : ga_q g q o w 0 = q := by
  funext j
  exact if_neg (fun z => Nat.not_lt_zero j z.1)
theorem cl_gi (g : Nat → Int32) (o w : Int32) (i : Nat) : ga_g g o w i i = g i := if_neg (fun z => Nat.lt_irrefl i z.1)
theorem cl_qi (g q : Nat → Int32) (o w : Int32) (i : Nat) : ga_q g q o w i i = q i := if_neg (fun z => Nat.lt_irrefl i z.1)
theorem cl_gu {g : Nat → Int32} {o w : Int32} {i : Nat} (h : g i = o) : upd (ga_g g o w i) i w = ga_g g o w (i + 1) := by
  funext j
  by_cases e : j = i
  · subst e
    rw [pk_us]
    exact (if_pos ⟨Nat.lt_succ_self j, h⟩).symm
  · rw [pk_un e]
    unfold ga_g
    by_cases z : j < i ∧ g j = o
    · rw [if_pos z, if_pos ⟨by omega, z.2⟩]
    · rw [if_neg z, if_neg (fun y => z ⟨by omega, y.2⟩)]
theorem cl_gk {g : Nat → Int32} {o w : Int32} {i : Nat} (h : ¬ g i = o) : ga_g g o w i = ga_g g o w (i + 1) := by
  funext j
  unfold ga_g
  by_cases z : j < i ∧ g j = o
  · rw [if_pos z, if_pos ⟨by omega, z.2⟩]
  · rw [if_neg z, if_neg]
    rintro ⟨y1, y2⟩
    by_cases e : j = i
    · subst e; exact h y2
    · exact z ⟨by omega, y2⟩
theorem cl_qu {g q : Nat → Int32} {o w : Int32} {i : Nat} (h : g i = o) : upd (ga_q g q o w i) i (ga_q g q o w i i + w) = ga_q g q o w (i + 1) := by
  rw [cl_qi]
  funext j
  by_cases e : j = i
  · subst e
    rw [pk_us]
    exact (if_pos ⟨Nat.lt_succ_self j, h⟩).symm
  · rw [pk_un e]
    unfold ga_q
    by_cases z : j < i ∧ g j = o
    · rw [if_pos z, if_pos ⟨by omega, z.2⟩]
    · rw [if_neg z, if_neg (fun y => z ⟨by omega, y.2⟩)]
theorem cl_qk {g q : Nat → Int32} {o w : Int32} {i : Nat} (h : ¬ g i = o) : ga_q g q o w i = ga_q g q o w (i + 1) := by
  funext j
  unfold ga_q
  by_cases z : j < i ∧ g j = o
  · rw [if_pos z, if_pos ⟨by omega, z.2⟩]
  · rw [if_neg z, if_neg]
    rintro ⟨y1, y2⟩
    by_cases e : j = i
    · subst e; exact h y2
    · exact z ⟨by omega, y2⟩
theorem cl_54 {P : Int32 → St2 → Prop} {o w sh : Int32} (h : P 1 (sc, oc, ne, ns, ca, on, st, ra, xu, xn, xe, xd, al, ap, ac, en, eu, ea, eb, sU, sL, sK, sE, sG, sO, ga_g gr o w 36, ga_q gr po o sh 36, ec, cx, ou, tc, ss, av, cs)) : ∀ d i, i + d = 36 → wX_constrain_54 P sh o w sc oc ne ns ca on st ra xu xn xe xd (d + 1) (nI i) al ap ac en eu ea eb sU sL sK sE sG sO (ga_g gr o w i) (ga_q gr po o sh i) ec cx ou tc ss av cs := by
  intro d
  induction d with
  | zero =>
    intro i hi
    have e : i = 36 := by omega
    subst e
    exact br_t (by decide) h
  | succ d ih =>
    intro i hi
    have vi : vp_in (nI i) 36 := vp_in_nI (by omega) (by decide)
    refine br_f (nI_ge (b := 36) (by omega) (by decide)) ⟨vi, ?_⟩
    rw [nI_clamp (n := i) (by omega), cl_gi]
    have key := ih (i + 1) (by omega)
    refine br_c (fun z => ⟨vi, nm_r (cl_gu z) ⟨vi, vi, nm_r (cl_qu z) (nm_r (nI_1 i) key)⟩⟩) (fun z => nm_r (nI_1 i) ?_)
    rw [cl_gk z, cl_qk z]
    exact key
theorem cl_con {P : Int32 → St2 → Prop} {a b : Nat} {d : Int32} (H : ga_IX C S gr po) (hC : C a b d) (ha : a < 36) (hb : b < 36)
    (h1 : ∀ gr' po', ga_IX C (fun x y e => S x y e ∨ (x = a ∧ y = b ∧ e = d)) gr' po' → P 1 (sc, oc, ne, ns, ca, on, st, ra, xu, xn, xe, xd, al, ap, ac, en, eu, ea, eb, sU, sL, sK, sE, sG, sO, gr', po', ec, cx, ou, tc, ss, av, cs)) (h0 : (¬ ∃ p, ga_Sol C p) → P 0 (sc, oc, ne, ns, ca, on, st, ra, xu, xn, xe, xd, al, ap, ac, en, eu, ea, eb, sU, sL, sK, sE, sG, sO, gr, po, ec, cx, ou, tc, ss, av, cs)) : wpX_constrain P (sc, oc, ne, ns, ca, on, st, ra, xu, xn, xe, xd, al, ap, ac, en, eu, ea, eb, sU, sL, sK, sE, sG, sO, gr, po, ec, cx, ou, tc, ss, av, cs) (nI a) (nI b) d := by
  have va : vp_in (nI a) 36 := vp_in_nI ha (by decide)
  have vb : vp_in (nI b) 36 := vp_in_nI hb (by decide)
  unfold wpX_constrain
  dsimp only
  rw [nI_clamp (n := a) (by omega), nI_clamp (n := b) (by omega)]
  refine ⟨vb, va, nm_e ⟨va, nm_e ⟨vb, nm_e (br_c (fun z => br_c (fun w => h1 gr po (ga_ixSame H ha hb z w)) (fun w => h0 (ga_ixBad H hC ha hb z w))) (fun z => ?_))⟩⟩⟩
  have key := cl_54 (gr := gr) (po := po) (o := gr a) (w := gr b) (sh := po b + d - po a) (sc := sc) (oc := oc) (ne := ne) (ns := ns) (ca := ca) (on := on) (st := st) (ra := ra) (xu := xu) (xn := xn) (xe := xe) (xd := xd) (al := al) (ap := ap) (ac := ac) (en := en) (eu := eu) (ea := ea) (eb := eb) (sU := sU) (sL := sL) (sK := sK) (sE := sE) (sG := sG) (sO := sO) (ec := ec) (cx := cx) (ou := ou) (tc := tc) (ss := ss) (av := av) (cs := cs) (h1 _ _ (ga_ixJoin H hC ha hb z)) 36 0 rfl
  rw [cl_g0, cl_q0] at key
  exact ⟨36 + 1, key⟩
theorem cl_12 {post : Int32 → St2 → Prop} {J : Int32 → Int32 → Int32 → Int32 → Int32 → Int32 → Int32 → Int32 → Int32 → Int32 → Int32 → Int32 → Int32 → (Nat → Int32) → (Nat → Int32) → (Nat → Int32) → (Nat → Int32) → (Nat → Int32) → (Nat → Int32) → (Nat → Int32) → (Nat → Int32) → (Nat → Int32) → (Nat → Int32) → (Nat → Int32) → (Nat → Int32) → (Nat → Int32) → (Nat → Int32) → (Nat → Int32) → (Nat → Int32) → (Nat → Int32) → (Nat → Int32) → (Nat → Int32) → (Nat → Int32) → (Nat → Int32) → (Nat → Int32) → Prop} {u b : Nat}
    (D : fs_D al ap ac en cb cn eu ea eb n) (hu : u < 4) (hb : b < 4) (hC : C = gd_CS (fa_N al) (fa_N ac) (fa_N cb) (fa_N cn) n (fa_N eu) (fa_N ea) (fa_N eb))
    (h0 : (¬ ∃ p, ga_Sol C p) → ∀ gr po : Nat → Int32, post 0 (sc, oc, ne, ns, ca, on, st, ra, xu, xn, xe, xd, al, ap, ac, en, eu, ea, eb, sU, sL, sK, sE, sG, sO, gr, po, ec, cx, ou, tc, ss, av, cs))
    (hJ : ∀ gr po : Nat → Int32, ga_IX C (gd_SX (fa_N al) (fa_N ac) (fa_N cb) (fa_N cn) u b (fa_N ac u)) gr po → J (nI (b + 1)) sc oc ne ns ca on st ra xu xn xe xd al ap ac en eu ea eb sU sL sK sE sG sO gr po ec cx ou tc ss av cs) :
    ∀ d i, i + d = fa_N ac u → ∀ gr po : Nat → Int32, ga_IX C (gd_SX (fa_N al) (fa_N ac) (fa_N cb) (fa_N cn) u b i) gr po → wX_placeEntries_12 post J (nI u) (nI b) (d + 1) (nI (gd_off (fa_N al) (fa_N cb) (fa_N cn) u b i)) (nI i) sc oc ne ns ca on st ra xu xn xe xd al ap ac en eu ea eb sU sL sK sE sG sO gr po ec cx ou tc ss av cs := by
  obtain ⟨c1, c2⟩ := cn_C D hu
  have vu : vp_in (nI u) 4 := vp_in_nI hu (by decide)
  have W := fs_wd D
  intro d
  induction d with
  | zero =>
    intro i hi gr po H
    have e : i = fa_N ac u := by omega
    refine ⟨vu, ?_⟩
    rw [nI_clamp (n := u) (by omega), c1]
    refine br_t (nI_le (by omega) (by omega)) (nm_r (nI_1 b) (hJ gr po ?_))
    rw [← e]
    exact H
  | succ d ih =>
    intro i hi gr po H
    obtain ⟨⟨i1, i2⟩, ⟨i3, i4⟩, i5⟩ := cn_I D (i := u * 8 + i) (by omega)
    have l16 := cn_A D (k := u * 8 + fa_N cn (u * 8 + i)) (by omega)
    have off := gd_off_le (L := fa_N al) (CB := fa_N cb) (CN := fa_N cn) (b := b) (fun k hk => (W.1 k hk).2) (fun i hi => (W.2.2.2.1 i hi).2) hu i (by omega)
    refine ⟨vu, ?_⟩
    rw [nI_clamp (n := u) (by omega), c1]
    refine br_f (nI_ge (by omega) (by omega)) ?_
    rw [ha_us (u := u) (n := i), nI_clamp (n := u * 8 + i) (by omega), i5]
    refine ⟨vp_in_nI (by omega) (by decide), nm_e ⟨by decide, ?_⟩⟩
    rw [ha_d8 (by omega), show (fa_N cb (u * 8 + i) * 8 + fa_N cn (u * 8 + i)) / 8 = fa_N cb (u * 8 + i) by omega]
    have offS : gd_off (fa_N al) (fa_N cb) (fa_N cn) u b (i + 1) = gd_off (fa_N al) (fa_N cb) (fa_N cn) u b i + (if fa_N cb (u * 8 + i) = b then fa_N al (u * 8 + fa_N cn (u * 8 + i)) else 0) := rfl
    refine pk_eq (fa_N cb (u * 8 + i)) b (fun z => ⟨by decide, nm_r (e' := nI (u * 8 + fa_N cn (u * 8 + i))) ?_ ?_⟩) (fun z => nm_r (nI_1 i) ?_)
    · rw [show nI (fa_N cb (u * 8 + i)) * 8 = nI (fa_N cb (u * 8 + i) * 8) from pk_mul _ 8, pk_sub (by omega), ha_us]
      congr 1
      omega
    · rw [ha_32]
      refine cl_con H ?_ (by omega) (by omega) (fun gr' po' H' => br_f (by decide) ⟨vp_in_nI (by omega) (by decide), ?_⟩) (fun ns => br_t rfl (h0 ns gr po))
      · rw [hC]
        exact Or.inl ⟨u, i, hu, by omega, rfl, by rw [z], by rw [z]⟩
      · rw [nI_clamp (n := u * 8 + fa_N cn (u * 8 + i)) (by omega), l16.1, nI_add]
        rw [if_pos z] at offS
        rw [← offS]
        exact nm_e (nm_r (nI_1 i) (ih (i + 1) (by omega) gr' po' (gd_ixMono H' (fun x y e he => gd_sxi z he))))
    · rw [if_neg z] at offS
      have e2 : gd_off (fa_N al) (fa_N cb) (fa_N cn) u b (i + 1) = gd_off (fa_N al) (fa_N cb) (fa_N cn) u b i := by rw [offS]; rfl
      rw [← e2]
      exact ih (i + 1) (by omega) gr po (gd_ixMono H (fun x y e he => gd_sxk z he))
theorem cl_pe {post : Int32 → St2 → Prop} {u : Nat} (D : fs_D al ap ac en cb cn eu ea eb n) (hu : u < 4) (hC : C = gd_CS (fa_N al) (fa_N ac) (fa_N cb) (fa_N cn) n (fa_N eu) (fa_N ea) (fa_N eb))
    (h0 : (¬ ∃ p, ga_Sol C p) → ∀ gr po : Nat → Int32, post 0 (sc, oc, ne, ns, ca, on, st, ra, xu, xn, xe, xd, al, ap, ac, en, eu, ea, eb, sU, sL, sK, sE, sG, sO, gr, po, ec, cx, ou, tc, ss, av, cs)) (h1 : ∀ gr po : Nat → Int32, ga_IX C (gd_SX (fa_N al) (fa_N ac) (fa_N cb) (fa_N cn) u 4 0) gr po → post 1 (sc, oc, ne, ns, ca, on, st, ra, xu, xn, xe, xd, al, ap, ac, en, eu, ea, eb, sU, sL, sK, sE, sG, sO, gr, po, ec, cx, ou, tc, ss, av, cs)) :
    ∀ d b, b + d = 4 → ∀ gr po : Nat → Int32, ga_IX C (gd_SX (fa_N al) (fa_N ac) (fa_N cb) (fa_N cn) u b 0) gr po → wX_placeEntries_2 post (nI u) (d + 1) (nI b) sc oc ne ns ca on st ra xu xn xe xd al ap ac en eu ea eb sU sL sK sE sG sO gr po ec cx ou tc ss av cs := by
  intro d
  induction d with
  | zero =>
    intro b hb gr po H
    have e : b = 4 := by omega
    subst e
    exact br_t (by decide) (h1 gr po H)
  | succ d ih =>
    intro b hb gr po H
    exact br_f (nI_ge (b := 4) (by omega) (by decide)) ⟨fa_N ac u + 1, cl_12 D hu (by omega) hC h0 (fun gr' po' H' => ih (b + 1) (by omega) gr' po' (gd_ixMono H' (fun x y e he => gd_sxb he))) (fa_N ac u) 0 (by omega) gr po H⟩
theorem cl_53 {post : Int32 → St2 → Prop} (D : fs_D al ap ac en cb cn eu ea eb n) (hC : C = gd_CS (fa_N al) (fa_N ac) (fa_N cb) (fa_N cn) n (fa_N eu) (fa_N ea) (fa_N eb))
    (h0 : (¬ ∃ p, ga_Sol C p) → ∀ gr po : Nat → Int32, post 0 (sc, oc, nI n, ns, ca, on, st, ra, xu, xn, xe, xd, al, ap, ac, en, eu, ea, eb, sU, sL, sK, sE, sG, sO, gr, po, ec, cx, ou, tc, ss, av, cs)) (h1 : ∀ gr po : Nat → Int32, ga_IX C (gd_SE (fa_N al) (fa_N ac) (fa_N cb) (fa_N cn) (fa_N eu) (fa_N ea) (fa_N eb) n) gr po → post 1 (sc, oc, nI n, ns, ca, on, st, ra, xu, xn, xe, xd, al, ap, ac, en, eu, ea, eb, sU, sL, sK, sE, sG, sO, gr, po, ec, cx, ou, tc, ss, av, cs)) :
    ∀ d e, e + d = n → ∀ gr po : Nat → Int32, ga_IX C (gd_SE (fa_N al) (fa_N ac) (fa_N cb) (fa_N cn) (fa_N eu) (fa_N ea) (fa_N eb) e) gr po → wX_solveLayout_53 post (d + 1) (nI e) sc oc (nI n) ns ca on st ra xu xn xe xd al ap ac en eu ea eb sU sL sK sE sG sO gr po ec cx ou tc ss av cs := by
  have n16 := D.2.2.2.2.2.1
  intro d
  induction d with
  | zero =>
    intro e he gr po H
    have e' : e = n := by omega
    subst e'
    exact br_t (nI_le (Nat.le_refl e) (by omega)) (h1 gr po H)
  | succ d ih =>
    intro e he gr po H
    obtain ⟨⟨q1, q2⟩, ⟨q3, q4, q5⟩, q6, q7, q8⟩ := cn_E D (e := e) (by omega)
    have ve : vp_in (nI e) 16 := vp_in_nI (by omega) (by decide)
    have m1 := fb_nm8 (Or.inl q4)
    have m2 := fb_nm8 (Or.inl q7)
    refine br_f (nI_ge (by omega) (by omega)) ⟨ve, ve, ?_⟩
    rw [nI_clamp (n := e) (by omega), q1, q3, q6]
    refine hx_slotOf (by omega) ⟨ve, ve, ?_⟩
    refine hx_slotOf (by omega) ⟨ve, ?_⟩
    refine hx_elementOf (by omega) ⟨ve, ?_⟩
    refine hx_elementOf (by omega) (nm_e ?_)
    refine cl_con H ?_ (by omega) (by omega) (fun gr' po' H' => br_f (by decide) (nm_r (nI_1 e) (ih (e + 1) (by omega) gr' po' (gd_ixMono H' (fun x y e he => gd_see he))))) (fun ns => br_t rfl (h0 ns gr po))
    rw [hC]
    exact Or.inr ⟨e, by omega, rfl, rfl, rfl⟩
theorem cl_30 {post : Int32 → St2 → Prop} (D : fs_D al ap ac en cb cn eu ea eb n) (hC : C = gd_CS (fa_N al) (fa_N ac) (fa_N cb) (fa_N cn) n (fa_N eu) (fa_N ea) (fa_N eb))
    (h0 : (¬ ∃ p, ga_Sol C p) → ∀ gr po : Nat → Int32, post 0 (sc, oc, nI n, ns, ca, on, st, ra, xu, xn, xe, xd, al, ap, ac, en, eu, ea, eb, sU, sL, sK, sE, sG, sO, gr, po, ec, cx, ou, tc, ss, av, cs)) (h1 : ∀ gr po : Nat → Int32, ga_IX C (gd_SE (fa_N al) (fa_N ac) (fa_N cb) (fa_N cn) (fa_N eu) (fa_N ea) (fa_N eb) n) gr po → post 1 (sc, oc, nI n, ns, ca, on, st, ra, xu, xn, xe, xd, al, ap, ac, en, eu, ea, eb, sU, sL, sK, sE, sG, sO, gr, po, ec, cx, ou, tc, ss, av, cs)) :
    ∀ d u, u + d = 4 → ∀ gr po : Nat → Int32, ga_IX C (gd_SX (fa_N al) (fa_N ac) (fa_N cb) (fa_N cn) u 0 0) gr po → wX_solveLayout_30 post (d + 1) (nI u) sc oc (nI n) ns ca on st ra xu xn xe xd al ap ac en eu ea eb sU sL sK sE sG sO gr po ec cx ou tc ss av cs := by
  have W := fs_wd D
  intro d
  induction d with
  | zero =>
    intro u hu gr po H
    have e : u = 4 := by omega
    subst e
    exact br_t (by decide) ⟨n + 1, cl_53 D hC h0 h1 n 0 (by omega) gr po (gd_ixMono H (fun x y e he => gd_se0 he))⟩
  | succ d ih =>
    intro u hu gr po H
    refine br_f (nI_ge (b := 4) (by omega) (by decide)) ?_
    refine ⟨4 + 1, cl_pe D (by omega) hC (fun ns gr' po' => br_t rfl (h0 ns gr' po')) (fun gr' po' H' => br_f (by decide) (nm_r (nI_1 u) (ih (u + 1) (by omega) gr' po' (gd_ixMono H' (fun x y e he => gd_sxu (fun i hi => (W.2.2.2.1 i hi).1) (by omega) (W.2.2.1 u (by omega)) he))))) 4 0 rfl gr po H⟩
theorem cl_2 {post : Int32 → St2 → Prop} (h : ∀ gr po : Nat → Int32, (∀ x, x < 36 → gr x = nI x) → (∀ x, x < 36 → po x = 0) → ∃ m, wX_solveLayout_30 post m 0 sc oc ne ns ca on st ra xu xn xe xd al ap ac en eu ea eb sU sL sK sE sG sO gr po ec cx ou tc ss av cs) : ∀ d i, i + d = 36 → ∀ gr po : Nat → Int32, (∀ x, x < i → gr x = nI x) → (∀ x, x < i → po x = 0) → wX_solveLayout_2 post sc oc ne ns ca on st ra xu xn xe xd (d + 1) (nI i) al ap ac en eu ea eb sU sL sK sE sG sO gr po ec cx ou tc ss av cs := by
  intro d
  induction d with
  | zero =>
    intro i hi gr po hg hp
    have e : i = 36 := by omega
    subst e
    exact br_t (by decide) (h gr po hg hp)
  | succ d ih =>
    intro i hi gr po hg hp
    have vi : vp_in (nI i) 36 := vp_in_nI (by omega) (by decide)
    refine br_f (nI_ge (b := 36) (by omega) (by decide)) ⟨vi, ?_⟩
    rw [nI_clamp (n := i) (by omega)]
    refine nm_e ⟨vi, nm_e (nm_r (nI_1 i) (ih (i + 1) (by omega) _ _ ?_ ?_))⟩
    · intro x hx
      by_cases e : x = i
      · subst e; exact pk_us
      · rw [pk_un e]; exact hg x (by omega)
    · intro x hx
      by_cases e : x = i
      · subst e; exact pk_us
      · rw [pk_un e]; exact hp x (by omega)
theorem cl_layout {post : Int32 → St2 → Prop} (D : fs_D al ap ac en cb cn eu ea eb n)
    (h0 : (¬ ∃ p, ga_Sol (gd_CS (fa_N al) (fa_N ac) (fa_N cb) (fa_N cn) n (fa_N eu) (fa_N ea) (fa_N eb)) p) → ∀ gr po : Nat → Int32, post 0 (sc, oc, nI n, ns, ca, on, st, ra, xu, xn, xe, xd, al, ap, ac, en, eu, ea, eb, sU, sL, sK, sE, sG, sO, gr, po, ec, cx, ou, tc, ss, av, cs))
    (h1 : ∀ gr po : Nat → Int32, ga_IX (gd_CS (fa_N al) (fa_N ac) (fa_N cb) (fa_N cn) n (fa_N eu) (fa_N ea) (fa_N eb)) (gd_SE (fa_N al) (fa_N ac) (fa_N cb) (fa_N cn) (fa_N eu) (fa_N ea) (fa_N eb) n) gr po → post 1 (sc, oc, nI n, ns, ca, on, st, ra, xu, xn, xe, xd, al, ap, ac, en, eu, ea, eb, sU, sL, sK, sE, sG, sO, gr, po, ec, cx, ou, tc, ss, av, cs)) : wpX_solveLayout post (sc, oc, nI n, ns, ca, on, st, ra, xu, xn, xe, xd, al, ap, ac, en, eu, ea, eb, sU, sL, sK, sE, sG, sO, gr, po, ec, cx, ou, tc, ss, av, cs) :=
  ⟨36 + 1, cl_2 (fun gr po hg hp => ⟨4 + 1, cl_30 D rfl h0 h1 4 0 rfl gr po (gd_ixMono (ga_ix0 hg hp) (fun x y d he => absurd he gd_sx0))⟩) 36 0 rfl gr po (fun x hx => absurd hx (Nat.not_lt_zero x)) (fun x hx => absurd hx (Nat.not_lt_zero x))⟩
end HXL
