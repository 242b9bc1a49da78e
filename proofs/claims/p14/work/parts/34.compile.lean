section HCO
/-! compile -/
variable {sc oc ne ns ca on st ra xu xn xe xd nc yp yu ye yl yr : Int32} {al ap ac en eu ea eb sU sL sK sE sG sO gr po ec cx ou tc ss av cs cb cn kx ky kd pl rl cm hv ba ad ex cy bi : Nat → Int32}
variable {n q : Nat} {f : Prop}
theorem ck_x {P : Int32 → St2 → Prop} (hn : n ≤ 64) (S : fs_S n sU sL sK sE sG sO f) (D : fs_D al ap ac en cb cn eu ea eb q)
    (h2 : fb_pend n sK sE sG ≠ 0 → P 2 (sc, oc, nI q, nI n, ca, on, st, ra, xu, xn, xe, xd, al, ap, ac, en, eu, ea, eb, sU, sL, sK, sE, sG, sO, gr, po, ec, cx, ou, tc, ss, av, cs)) (h3 : fb_pend n sK sE sG = 0 → gd_DB (fa_N al) (fa_N ap) (fa_N ac) (fa_N cn) q (fa_N eu) (fa_N ea) (fa_N eb) → P 3 (sc, oc, nI q, nI n, ca, on, st, ra, xu, xn, xe, xd, al, ap, ac, en, eu, ea, eb, sU, sL, sK, sE, sG, sO, gr, po, ec, cx, ou, tc, ss, av, cs)) (h4 : fb_pend n sK sE sG = 0 → ¬ gd_DB (fa_N al) (fa_N ap) (fa_N ac) (fa_N cn) q (fa_N eu) (fa_N ea) (fa_N eb) → (gd_XE (fa_N al) q (fa_N eu) (fa_N ea) (fa_N eb) ∨ gd_XS n al sU sG sO) → P 4 (sc, oc, nI q, nI n, ca, on, st, ra, xu, xn, xe, xd, al, ap, ac, en, eu, ea, eb, sU, sL, sK, sE, sG, sO, gr, po, ec, cx, ou, tc, ss, av, cs))
    (h5n : fb_pend n sK sE sG = 0 → ¬ gd_DB (fa_N al) (fa_N ap) (fa_N ac) (fa_N cn) q (fa_N eu) (fa_N ea) (fa_N eb) → ¬ (gd_XE (fa_N al) q (fa_N eu) (fa_N ea) (fa_N eb) ∨ gd_XS n al sU sG sO) → (¬ ∃ p, ga_Sol (gd_CS (fa_N al) (fa_N ac) (fa_N cb) (fa_N cn) q (fa_N eu) (fa_N ea) (fa_N eb)) p) → ∀ gr po : Nat → Int32, P 5 (sc, oc, nI q, nI n, ca, on, st, ra, xu, xn, xe, xd, al, ap, ac, en, eu, ea, eb, sU, sL, sK, sE, sG, sO, gr, po, ec, cx, ou, tc, ss, av, cs))
    (hk : fb_pend n sK sE sG = 0 → ¬ gd_DB (fa_N al) (fa_N ap) (fa_N ac) (fa_N cn) q (fa_N eu) (fa_N ea) (fa_N eb) → ¬ (gd_XE (fa_N al) q (fa_N eu) (fa_N ea) (fa_N eb) ∨ gd_XS n al sU sG sO) → ∀ gr po : Nat → Int32, ga_IX (gd_CS (fa_N al) (fa_N ac) (fa_N cb) (fa_N cn) q (fa_N eu) (fa_N ea) (fa_N eb)) (gd_SE (fa_N al) (fa_N ac) (fa_N cb) (fa_N cn) (fa_N eu) (fa_N ea) (fa_N eb) q) gr po → (gd_JB gr → P 5 (sc, oc, nI q, nI n, ca, on, st, ra, xu, xn, xe, xd, al, ap, ac, en, eu, ea, eb, sU, sL, sK, sE, sG, sO, gr, po, ec, cx, ou, tc, ss, av, cs)) ∧ (¬ gd_JB gr → gd_BB gr po → P 6 (sc, oc, nI q, nI n, ca, on, st, ra, xu, xn, xe, xd, al, ap, ac, en, eu, ea, eb, sU, sL, sK, sE, sG, sO, gr, po, ec, cx, ou, tc, ss, av, cs)) ∧ (¬ gd_JB gr → ¬ gd_BB gr po → (gd_LD n sU sL ∨ gd_LT n sU sL sK sG sO ∨ gd_LE n sU sL sK sG sO) → P 7 (sc, oc, nI q, nI n, ca, on, st, ra, xu, xn, xe, xd, al, ap, ac, en, eu, ea, eb, sU, sL, sK, sE, sG, sO, gr, po, ec, cx, ou, tc, ss, av, cs)) ∧ (¬ gd_JB gr → ¬ gd_BB gr po → ¬ (gd_LD n sU sL ∨ gd_LT n sU sL sK sG sO ∨ gd_LE n sU sL sK sG sO) → gd_WC n ap sK sE → P 8 (sc, oc, nI q, nI n, ca, on, st, ra, xu, xn, xe, xd, al, ap, ac, en, eu, ea, eb, sU, sL, sK, sE, sG, sO, gr, po, ec, cx, ou, tc, ss, av, cs)) ∧ (¬ gd_JB gr → ¬ gd_BB gr po → ¬ (gd_LD n sU sL ∨ gd_LT n sU sL sK sG sO ∨ gd_LE n sU sL sK sG sO) → ¬ gd_WC n ap sK sE → P 1 (sc, oc, nI q, nI n, ca, on, st, ra, xu, xn, xe, xd, al, ap, ac, en, eu, ea, eb, sU, sL, sK, sE, sG, sO, gr, po, ec, cx, ou, tc, ss, av, cs))) :
    wpX_judgeProgram P (sc, oc, nI q, nI n, ca, on, st, ra, xu, xn, xe, xd, al, ap, ac, en, eu, ea, eb, sU, sL, sK, sE, sG, sO, gr, po, ec, cx, ou, tc, ss, av, cs) := by
  have p5 := vs_pend5 S
  unfold wpX_judgeProgram
  dsimp only
  refine hx_await hn S ?_
  refine pk_le (fb_pend n sK sE sG) 0 (fun z => ?_) (fun z => h2 (by omega))
  have hp : fb_pend n sK sE sG = 0 := by omega
  refine cx_dummy D (fun d => br_f (by decide) (h3 hp d)) (fun d => br_t rfl ?_)
  refine cx_index D hn S (fun x => br_f (by decide) (h4 hp d x)) (fun x => br_t rfl ?_)
  refine cl_layout D (fun ns gr' po' => br_t rfl (h5n hp d x ns gr' po')) (fun gr' po' H => br_f (by decide) ?_)
  obtain ⟨k5, k6, k7, k8, k1⟩ := hk hp d x gr' po' H
  refine cx_joins (fun j => br_f (by decide) (k5 j)) (fun j => br_t rfl ?_)
  refine cx_back (fun b => br_f (by decide) (k6 j b)) (fun b => br_t rfl ?_)
  refine cx_rep hn (fun l => br_f (by decide) (k7 j b (Or.inl l))) (fun l => br_t rfl ?_)
  refine cx_tgt hn S (fun t => br_f (by decide) (k7 j b (Or.inr t))) (fun t => br_t rfl ?_)
  have nl : ¬ (gd_LD n sU sL ∨ gd_LT n sU sL sK sG sO ∨ gd_LE n sU sL sK sG sO) := fun z => z.elim l t
  exact cx_wc hn S D.2.2.1 (fun w => br_f (by decide) (k8 j b nl w)) (fun w => br_t rfl (k1 j b nl w))
theorem ck_al1 (D : fs_D al ap ac en cb cn eu ea eb q) (d : ¬ gd_DB (fa_N al) (fa_N ap) (fa_N ac) (fa_N cn) q (fa_N eu) (fa_N ea) (fa_N eb)) : ∀ k, k < 32 → ¬ gd_St (fa_N ap) k → al k = 1 := by
  intro k hk s
  obtain ⟨l1, l2, l3⟩ := cn_A D hk
  have e : fa_N al k = 1 := by
    by_cases z : 1 < fa_N al k
    · unfold gd_St at s
      exact absurd (Or.inl ⟨k, hk, Classical.byContradiction s, z⟩) d
    · omega
  rw [l1, e]
  rfl
theorem ck_S {g : Prop} (S : fs_S n sU sL sK sE sG sO f) (h : g → f) : fs_S n sU sL sK sE sG sO g := fun s hs => by
  obtain ⟨u, l, k, e, g, a1, a2, a3, a4, a5, a6, a7, a8, a9, a10, a11, a12, a13⟩ := S s hs
  exact ⟨u, l, k, e, g, a1, a2, a3, a4, a5, a6, a7, a8, a9, a10, a11, fun z => a12 (z.imp id h), a13⟩
theorem ck_C (S : fs_S n sU sL sK sE sG sO f) (D : fs_D al ap ac en cb cn eu ea eb q) (d : ¬ gd_DB (fa_N al) (fa_N ap) (fa_N ac) (fa_N cn) q (fa_N eu) (fa_N ea) (fa_N eb)) (x : ¬ (gd_XE (fa_N al) q (fa_N eu) (fa_N ea) (fa_N eb) ∨ gd_XS n al sU sG sO)) (l : ¬ (gd_LD n sU sL ∨ gd_LT n sU sL sK sG sO ∨ gd_LE n sU sL sK sG sO)) (w : ¬ gd_WC n ap sK sE) : fs_C n al ap sU sL sK sE sG sO := by
  refine ⟨ck_al1 D d, fun s p c hs hp e hc => ?_, fun s p hs hp hk e => l (Or.inr (Or.inl ⟨s, p, hs, hp, hk, e⟩)), fun s hs hk => Classical.byContradiction fun z => w ⟨s, hs, hk, z⟩⟩
  exact Nat.le_of_not_lt fun z => x (Or.inr ⟨s, p, c, hs, hp, e, hc, z⟩)
end HCO
