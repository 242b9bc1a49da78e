section HRV
/-! run: the fresh start, and the owed statement -/
variable {sc oc ne ns ca on st ra xu xn xe xd nc yp yu ye yl yr : Int32} {al ap ac en eu ea eb sU sL sK sE sG sO gr po ec cx ou tc ss av cs cb cn kx ky kd pl rl cm hv ba ad ex cy bi : Nat → Int32}
def hz (a : Nat → Int32) (i : Nat) : Nat → Int32 := fun j => if j < i then 0 else a j
theorem hz_0 (a : Nat → Int32) : hz a 0 = a := by
  funext j
  exact if_neg (Nat.not_lt_zero j)
theorem hz_u (a : Nat → Int32) (i : Nat) : upd (hz a i) i 0 = hz a (i + 1) := by
  funext j
  by_cases e : j = i
  · subst e
    rw [pk_us]
    exact (if_pos (Nat.lt_succ_self j)).symm
  · rw [pk_un e]
    unfold hz
    by_cases l : j < i
    · rw [if_pos l, if_pos (by omega)]
    · rw [if_neg l, if_neg (by omega)]
theorem hz_in {a : Nat → Int32} {i j : Nat} (h : j < i) : hz a i j = 0 := if_pos h
theorem hz_nb0 : vp_nar .boolean 0 = 0 := by decide
theorem hz_nb1 : vp_nar .boolean 1 = 1 := by decide
theorem sx_2 {post : SX → Prop} (h : ∃ m, wX_startAfresh_24 post sc oc ne ns ca on st ra xu xn xe xd m 0 al ap ac en eu ea eb sU sL sK sE sG sO gr po ec (hz cx 512) ou tc ss av cs) : ∀ d i, i + d = 512 → wX_startAfresh_2 post sc oc ne ns ca on st ra xu xn xe xd (d + 1) (nI i) al ap ac en eu ea eb sU sL sK sE sG sO gr po ec (hz cx i) ou tc ss av cs := by
  intro d
  induction d with
  | zero =>
    intro i hi
    have e : i = 512 := by omega
    subst e
    exact br_t (by decide) h
  | succ d ih =>
    intro i hi
    refine br_f (nI_ge (b := 512) (by omega) (by decide)) ⟨vp_in_nI (by omega) (by decide), ?_⟩
    rw [nI_clamp (by omega)]
    exact nm_r (hz_u cx i) (nm_r (nI_1 i) (ih (i + 1) (by omega)))
theorem sx_24 {post : SX → Prop} (h : ∃ m, wX_startAfresh_52 post sc oc ne ns ca on st ra xu xn xe xd m 0 al ap ac en eu ea eb sU sL sK sE sG sO gr po ec cx ou (hz tc 64) (hz ss 64) av cs) : ∀ d i, i + d = 64 → wX_startAfresh_24 post sc oc ne ns ca on st ra xu xn xe xd (d + 1) (nI i) al ap ac en eu ea eb sU sL sK sE sG sO gr po ec cx ou (hz tc i) (hz ss i) av cs := by
  intro d
  induction d with
  | zero =>
    intro i hi
    have e : i = 64 := by omega
    subst e
    exact br_t (by decide) h
  | succ d ih =>
    intro i hi
    refine br_f (nI_ge (b := 64) (by omega) (by decide)) ⟨vp_in_nI (by omega) (by decide), ?_⟩
    rw [nI_clamp (by omega)]
    exact nm_r (hz_u tc i) ⟨vp_in_nI (by omega) (by decide), nm_r (hz_u ss i) (nm_r (nI_1 i) (ih (i + 1) (by omega)))⟩
theorem sx_52 {post : SX → Prop} {n : Nat} (hn : n ≤ 64) (h : post (sc, oc, ne, nI n, ca, 0, 0, 0, 0, nI (fb_nx sU 0 n 0), -1, xd, al, ap, ac, en, eu, ea, eb, sU, sL, sK, sE, sG, sO, gr, po, ec, cx, ou, tc, ss, upd (hz av 4) 0 1, cs)) : ∀ d i, i + d = 4 → wX_startAfresh_52 post sc oc ne (nI n) ca on st ra xu xn xe xd (d + 1) (nI i) al ap ac en eu ea eb sU sL sK sE sG sO gr po ec cx ou tc ss (hz av i) cs := by
  intro d
  induction d with
  | zero =>
    intro i hi
    have e : i = 4 := by omega
    subst e
    refine br_t (by decide) ?_
    unfold wpX_enterUnit
    refine ⟨vp_in_nI (n := 0) (by decide) (by decide), nm_r (e' := upd (hz av 4) 0 1) (by rw [hz_nb1]; rfl) ?_⟩
    exact hx_next (f := 0) hn (by omega) h
  | succ d ih =>
    intro i hi
    refine br_f (nI_ge (b := 4) (by omega) (by decide)) ⟨vp_in_nI (by omega) (by decide), ?_⟩
    rw [nI_clamp (by omega), hz_nb0]
    exact nm_r (hz_u av i) (nm_r (nI_1 i) (ih (i + 1) (by omega)))
theorem sx_start {post : SX → Prop} {n : Nat} (hn : n ≤ 64) (h : post (sc, oc, ne, nI n, ca, 0, 0, 0, 0, nI (fb_nx sU 0 n 0), -1, xd, al, ap, ac, en, eu, ea, eb, sU, sL, sK, sE, sG, sO, gr, po, ec, hz cx 512, ou, hz tc 64, hz ss 64, upd (hz av 4) 0 1, cs)) : wpX_startAfresh post (sc, oc, ne, nI n, ca, on, st, ra, xu, xn, xe, xd, al, ap, ac, en, eu, ea, eb, sU, sL, sK, sE, sG, sO, gr, po, ec, cx, ou, tc, ss, av, cs) := by
  have a := sx_52 (av := av) (on := on) (st := st) (ra := ra) (xu := xu) (xn := xn) (xe := xe) hn h 4 0 rfl
  rw [hz_0] at a
  have b := sx_24 ⟨4 + 1, a⟩ 64 0 rfl
  rw [hz_0, hz_0] at b
  have c := sx_2 ⟨64 + 1, b⟩ 512 0 rfl
  rw [hz_0] at c
  exact ⟨512 + 1, c⟩
theorem sy_36 {post : Int32 → SY → Prop} {x2 : Int32} (h : ∃ m, wY_run_58 post x2 sc oc ne ns ca nc on yp yu ye st yl yr m 0 al ap cb cn ac eu ea eb sU sL sK sE sG sO kx ky kd pl rl cm hv ba ad ex (hz cy 512) tc ss av cs bi ou) : ∀ d i, i + d = 512 → wY_run_36 post x2 sc oc ne ns ca nc on yp yu ye st yl yr (d + 1) (nI i) al ap cb cn ac eu ea eb sU sL sK sE sG sO kx ky kd pl rl cm hv ba ad ex (hz cy i) tc ss av cs bi ou := by
  intro d
  induction d with
  | zero =>
    intro i hi
    have e : i = 512 := by omega
    subst e
    exact br_t (by decide) h
  | succ d ih =>
    intro i hi
    refine br_f (nI_ge (b := 512) (by omega) (by decide)) ⟨vp_in_nI (by omega) (by decide), ?_⟩
    rw [nI_clamp (by omega)]
    exact nm_r (hz_u cy i) (nm_r (nI_1 i) (ih (i + 1) (by omega)))
theorem sy_58 {post : Int32 → SY → Prop} {x2 : Int32} (h : ∃ m, wY_run_86 post x2 sc oc ne ns ca nc on yp yu ye st yl yr m 0 al ap cb cn ac eu ea eb sU sL sK sE sG sO kx ky kd pl rl cm hv ba ad ex cy (hz tc 64) (hz ss 64) av cs bi ou) : ∀ d i, i + d = 64 → wY_run_58 post x2 sc oc ne ns ca nc on yp yu ye st yl yr (d + 1) (nI i) al ap cb cn ac eu ea eb sU sL sK sE sG sO kx ky kd pl rl cm hv ba ad ex cy (hz tc i) (hz ss i) av cs bi ou := by
  intro d
  induction d with
  | zero =>
    intro i hi
    have e : i = 64 := by omega
    subst e
    exact br_t (by decide) h
  | succ d ih =>
    intro i hi
    refine br_f (nI_ge (b := 64) (by omega) (by decide)) ⟨vp_in_nI (by omega) (by decide), ?_⟩
    rw [nI_clamp (by omega)]
    exact nm_r (hz_u tc i) ⟨vp_in_nI (by omega) (by decide), nm_r (hz_u ss i) (nm_r (nI_1 i) (ih (i + 1) (by omega)))⟩
theorem sy_86 {post : Int32 → SY → Prop} {x2 : Int32} {n : Nat} (hn : n ≤ 64) (h : wpY_loop (fun r v => match v with | (sc0, oc0, ne0, ns0, ca0, nc0, on0, yp0, yu0, ye0, st0, yl0, yr0, al0, ap0, cb0, cn0, ac0, eu0, ea0, eb0, sU0, sL0, sK0, sE0, sG0, sO0, kx0, ky0, kd0, pl0, rl0, cm0, hv0, ba0, ad0, ex0, cy0, tc0, ss0, av0, cs0, bi0, ou0) => post r (sc0, oc0, ne0, ns0, ca0, nc0, on0, yp0, yu0, ye0, st0, r, yr0, al0, ap0, cb0, cn0, ac0, eu0, ea0, eb0, sU0, sL0, sK0, sE0, sG0, sO0, kx0, ky0, kd0, pl0, rl0, cm0, hv0, ba0, ad0, ex0, cy0, tc0, ss0, av0, cs0, bi0, ou0)) (sc, oc, ne, nI n, ca, nc, 0, fb_pc n (fb_nx sU 0 n 0), 0, 0, 0, yl, 1, al, ap, cb, cn, ac, eu, ea, eb, sU, sL, sK, sE, sG, sO, kx, ky, kd, pl, rl, cm, hv, ba, ad, ex, cy, tc, ss, upd (hz av 4) 0 1, cs, bi, ou) x2) :
    ∀ d i, i + d = 4 → wY_run_86 post x2 sc oc ne (nI n) ca nc on yp yu ye st yl yr (d + 1) (nI i) al ap cb cn ac eu ea eb sU sL sK sE sG sO kx ky kd pl rl cm hv ba ad ex cy tc ss (hz av i) cs bi ou := by
  intro d
  induction d with
  | zero =>
    intro i hi
    have e : i = 4 := by omega
    subst e
    refine br_t (by decide) (nm_r (e' := upd (hz av 4) 0 1) (by rw [hz_nb1]) ?_)
    exact hy_first hn h
  | succ d ih =>
    intro i hi
    refine br_f (nI_ge (b := 4) (by omega) (by decide)) ⟨vp_in_nI (by omega) (by decide), ?_⟩
    rw [nI_clamp (by omega), hz_nb0]
    exact nm_r (hz_u av i) (nm_r (nI_1 i) (ih (i + 1) (by omega)))
theorem sy_start {post : Int32 → SY → Prop} {x2 : Int32} {n : Nat} (hn : n ≤ 64) (h : wpY_loop (fun r v => match v with | (sc0, oc0, ne0, ns0, ca0, nc0, on0, yp0, yu0, ye0, st0, yl0, yr0, al0, ap0, cb0, cn0, ac0, eu0, ea0, eb0, sU0, sL0, sK0, sE0, sG0, sO0, kx0, ky0, kd0, pl0, rl0, cm0, hv0, ba0, ad0, ex0, cy0, tc0, ss0, av0, cs0, bi0, ou0) => post r (sc0, oc0, ne0, ns0, ca0, nc0, on0, yp0, yu0, ye0, st0, r, yr0, al0, ap0, cb0, cn0, ac0, eu0, ea0, eb0, sU0, sL0, sK0, sE0, sG0, sO0, kx0, ky0, kd0, pl0, rl0, cm0, hv0, ba0, ad0, ex0, cy0, tc0, ss0, av0, cs0, bi0, ou0)) (sc, oc, ne, nI n, ca, nc, 0, fb_pc n (fb_nx sU 0 n 0), 0, 0, 0, yl, 1, al, ap, cb, cn, ac, eu, ea, eb, sU, sL, sK, sE, sG, sO, kx, ky, kd, pl, rl, cm, hv, ba, ad, ex, hz cy 512, hz tc 64, hz ss 64, upd (hz av 4) 0 1, cs, bi, ou) x2) :
    ∃ m, wY_run_36 post x2 sc oc ne (nI n) ca nc on yp yu ye st yl yr m 0 al ap cb cn ac eu ea eb sU sL sK sE sG sO kx ky kd pl rl cm hv ba ad ex cy tc ss av cs bi ou := by
  have a := sy_86 (av := av) (on := on) (st := st) (yp := yp) (yu := yu) (ye := ye) (yr := yr) hn h 4 0 rfl
  rw [hz_0] at a
  have b := sy_58 ⟨4 + 1, a⟩ 64 0 rfl
  rw [hz_0, hz_0] at b
  have c := sy_36 ⟨64 + 1, b⟩ 512 0 rfl
  rw [hz_0] at c
  exact ⟨512 + 1, c⟩
/-- the step limit -/
theorem sc_mx (x : Int32) : ∃ m, 1 ≤ m ∧ m ≤ 5000 ∧ (∀ post : Int32 → Prop, post (nI m) → wpX_clamp post x 1 5000) ∧ (∀ P : Int32 → Prop, P (nI m) → ((1 ≤ x → ((x ≤ 5000 → P x) ∧ (¬ x ≤ 5000 → P 5000))) ∧ (¬ 1 ≤ x → P 1))) := by
  by_cases a : 1 ≤ x
  · by_cases b : x ≤ 5000
    · have x0 : ¬ x < 0 := fun z => absurd (Int32.lt_of_le_of_lt a z) (by decide)
      obtain ⟨j, hj, rfl⟩ := nI_of x0
      refine ⟨j, ?_, ?_, fun post h => br_t a (br_t b h), fun P h => br_t a (br_t b h)⟩
      · exact (nI_leI (a := 1) (by decide) hj).mp a
      · exact (nI_leI (b := 5000) hj (by decide)).mp b
    · exact ⟨5000, by decide, by decide, fun post h => br_t a (br_f b h), fun P h => br_t a (br_f b h)⟩
  · exact ⟨1, by decide, by decide, fun post h => br_f a h, fun P h => br_f a h⟩
end HRV
