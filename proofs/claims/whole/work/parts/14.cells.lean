section HCE
/-! a variable's cell and an operand's value, on both sides at once -/
variable {sc oc ne ns ca on st ra xu xn xe xd nc yp yu ye yl yr : Int32} {al ap ac en eu ea eb sU sL sK sE sG sO gr po ec cx ou tc ss av cs cb cn kx ky kd pl rl cm hv ba ad ex cy bi : Nat → Int32}
theorem hc_v {v : Int32} {l : Nat} (h2 : l ≤ 16) : v < 1 ∨ (¬ v < 1 ∧ ¬ v ≤ nI l) ∨ ∃ i, 1 ≤ i ∧ i ≤ l ∧ v = nI i := by
  by_cases a : v < 1
  · exact Or.inl a
  · right
    by_cases b : v ≤ nI l
    · right
      have a0 : ¬ v < 0 := fun z => a (Int32.lt_trans z (by decide))
      obtain ⟨i, hi, rfl⟩ := nI_of a0
      refine ⟨i, Nat.le_of_not_lt fun z => a (nI_lt (b := 1) z (by decide)), ?_, rfl⟩
      rw [nI_leI hi (by omega)] at b
      exact b
    · exact Or.inl ⟨a, b⟩
theorem hc_x54 {post : Int32 → SX → Prop} {k i l : Nat} {r : Int32} (hk : k < 32) (hl : al k = nI l) (l16 : l ≤ 16) (h1 : 1 ≤ i) (hi : i ≤ l) (e : ec (k * 16 + i - 1) = r) (h : post r (sc, oc, ne, ns, ca, on, st, ra, xu, xn, xe, xd, al, ap, ac, en, eu, ea, eb, sU, sL, sK, sE, sG, sO, gr, po, ec, cx, ou, tc, ss, av, cs)) : wX_findCell_54 post (nI k) (nI i) sc oc ne ns ca on st ra xu xn xe xd al ap ac en eu ea eb sU sL sK sE sG sO gr po ec cx ou tc ss av cs := by
  refine br_f (nI_nlt (b := 1) h1 (by omega)) ⟨vp_in_nI hk (by decide), ?_⟩
  rw [nI_clamp (by omega), hl]
  refine br_t (nI_le hi (by omega)) ?_
  rw [ha_el h1, nI_clamp (by omega), e]
  exact ⟨vp_in_nI (by omega) (by decide), h⟩
theorem hc_x54b {post : Int32 → SX → Prop} {k l : Nat} {v : Int32} (hk : k < 32) (hl : al k = nI l) (hv : v < 1 ∨ (¬ v < 1 ∧ ¬ v ≤ nI l)) (h : post (-1) (sc, oc, ne, ns, ca, on, st, 3, xu, xn, xe, xd, al, ap, ac, en, eu, ea, eb, sU, sL, sK, sE, sG, sO, gr, po, ec, cx, ou, tc, ss, av, cs)) : wX_findCell_54 post (nI k) v sc oc ne ns ca on st ra xu xn xe xd al ap ac en eu ea eb sU sL sK sE sG sO gr po ec cx ou tc ss av cs := by
  rcases hv with a | ⟨a, b⟩
  · exact br_t a h
  · refine br_f a ⟨vp_in_nI hk (by decide), ?_⟩
    rw [nI_clamp (by omega), hl]
    exact br_f b h
theorem hc_yad {post : Int32 → Prop} {u n i b : Nat} (hu : u < 4) (hn : n < 8) (h1 : 1 ≤ i) (h16 : i ≤ 16) (hp : fa_R 4 (ap u))
    (e : (n < fa_N ap u ∧ bi (u * 4 + n) = nI b) ∨ (¬ n < fa_N ap u ∧ ∃ d, ad (u * 8 + n) = nI d ∧ b = d + i - 1 ∧ d < 512)) (h : post (nI b)) : wpY_addrOf post (sc, oc, ne, ns, ca, nc, on, yp, yu, ye, st, yl, yr, al, ap, cb, cn, ac, eu, ea, eb, sU, sL, sK, sE, sG, sO, kx, ky, kd, pl, rl, cm, hv, ba, ad, ex, cy, tc, ss, av, cs, bi, ou) (nI u) (nI n) (nI i) := by
  obtain ⟨e1, l⟩ := fa_Rn hp (by decide)
  refine ⟨vp_in_nI hu (by decide), ?_⟩
  rw [nI_clamp (by omega), e1]
  rcases e with ⟨c, e⟩ | ⟨c, d, e, eb, ld⟩
  · refine br_f (nI_ge c (by omega)) ?_
    rw [ha_4, nI_clamp (by omega), e]
    exact ⟨vp_in_nI (by omega) (by decide), h⟩
  · refine br_t (nI_le (by omega) (by omega)) ?_
    rw [ha_us, nI_clamp (by omega), e]
    refine ⟨vp_in_nI (by omega) (by decide), ?_⟩
    rw [nI_add, show nI (d + i) - 1 = nI (d + i) - nI 1 from rfl, pk_sub (by omega), ← eb]
    exact h
theorem hc_get {post : Int32 → Prop} {b : Nat} (hb : b < 512) (h : post (cy b)) : wpY_get post (sc, oc, ne, ns, ca, nc, on, yp, yu, ye, st, yl, yr, al, ap, cb, cn, ac, eu, ea, eb, sU, sL, sK, sE, sG, sO, kx, ky, kd, pl, rl, cm, hv, ba, ad, ex, cy, tc, ss, av, cs, bi, ou) (nI b) := by
  refine br_f (nI_pos (by omega)) (br_f (nI_ge (b := 512) hb (by decide)) ⟨vp_in_nI hb (by decide), ?_⟩)
  rw [nI_clamp (by omega)]
  exact h
theorem hc_put {post : SY → Prop} {b : Nat} {v : Int32} (hb : b < 512) (h : post (sc, oc, ne, ns, ca, nc, on, yp, yu, ye, st, yl, yr, al, ap, cb, cn, ac, eu, ea, eb, sU, sL, sK, sE, sG, sO, kx, ky, kd, pl, rl, cm, hv, ba, ad, ex, upd cy b v, tc, ss, av, cs, bi, ou)) : wpY_put post (sc, oc, ne, ns, ca, nc, on, yp, yu, ye, st, yl, yr, al, ap, cb, cn, ac, eu, ea, eb, sU, sL, sK, sE, sG, sO, kx, ky, kd, pl, rl, cm, hv, ba, ad, ex, cy, tc, ss, av, cs, bi, ou) (nI b) v := by
  refine br_f (nI_pos (by omega)) (br_f (nI_ge (b := 512) hb (by decide)) ⟨vp_in_nI hb (by decide), ?_⟩)
  rw [nI_clamp (by omega)]
  exact nm_e h
/-- what stays through a run: lengths, dummies, the store -/
def hc_St (RC : Nat → Nat → Prop) (al ap ec ad bi cx cy : Nat → Int32) (u : Nat) : Prop :=
  fm_Bi RC ∧ fm_Sto RC (fa_N al) (fa_N ap) ec ad ∧ fm_Mem RC cx cy ∧ fm_Bnd RC (fa_N ap) ec bi u ∧ u < 4 ∧ (∀ k, k < 32 → ∃ l, 1 ≤ l ∧ l ≤ 16 ∧ al k = nI l) ∧ (∀ u, u < 4 → fa_R 4 (ap u)) ∧ (∀ k, k < 32 → ¬ gd_St (fa_N ap) k → al k = 1)
variable {RC : Nat → Nat → Prop} {u c s p : Nat}
theorem hc_dum (hd : ∀ k, k < 32 → ¬ gd_St (fa_N ap) k → al k = 1) (hu : u < 4) {n : Nat} (hn : n < 8) (h : n < fa_N ap u) : al (u * 8 + n) = 1 := by
  refine hd _ (by omega) ?_
  unfold gd_St
  rw [show (u * 8 + n) % 8 = n by omega, show (u * 8 + n) / 8 = u by omega]
  exact fun z => z h
theorem hc_cell (H : hc_St RC al ap ec ad bi cx cy u) (hc : (fb_FX c ∧ fb_ix c ≤ fa_N al (u * 8 + fb_nm c)) ∨ fb_IX c) :
    ((∀ post : Int32 → SX → Prop, post (-1) (sc, oc, ne, ns, ca, on, st, 3, nI u, xn, xe, xd, al, ap, ac, en, eu, ea, eb, sU, sL, sK, sE, sG, sO, gr, po, ec, cx, ou, tc, ss, av, cs) → wpX_findCell post (sc, oc, ne, ns, ca, on, st, ra, nI u, xn, xe, xd, al, ap, ac, en, eu, ea, eb, sU, sL, sK, sE, sG, sO, gr, po, ec, cx, ou, tc, ss, av, cs) (nI c)) ∧ (∀ post : Int32 → SY → Prop, post (-1) (sc, oc, ne, ns, ca, nc, on, yp, yu, 3, st, yl, yr, al, ap, cb, cn, ac, eu, ea, eb, sU, sL, sK, sE, sG, sO, kx, ky, kd, pl, rl, cm, hv, ba, ad, ex, cy, tc, ss, av, cs, bi, ou) → wpY_cellOf post (sc, oc, ne, ns, ca, nc, on, yp, yu, ye, st, yl, yr, al, ap, cb, cn, ac, eu, ea, eb, sU, sL, sK, sE, sG, sO, kx, ky, kd, pl, rl, cm, hv, ba, ad, ex, cy, tc, ss, av, cs, bi, ou) (nI u) (nI c))) ∨
    ∃ a b, RC a b ∧ (∀ post : Int32 → SX → Prop, post (nI a) (sc, oc, ne, ns, ca, on, st, ra, nI u, xn, xe, xd, al, ap, ac, en, eu, ea, eb, sU, sL, sK, sE, sG, sO, gr, po, ec, cx, ou, tc, ss, av, cs) → wpX_findCell post (sc, oc, ne, ns, ca, on, st, ra, nI u, xn, xe, xd, al, ap, ac, en, eu, ea, eb, sU, sL, sK, sE, sG, sO, gr, po, ec, cx, ou, tc, ss, av, cs) (nI c)) ∧ (∀ post : Int32 → SY → Prop, post (nI b) (sc, oc, ne, ns, ca, nc, on, yp, yu, ye, st, yl, yr, al, ap, cb, cn, ac, eu, ea, eb, sU, sL, sK, sE, sG, sO, kx, ky, kd, pl, rl, cm, hv, ba, ad, ex, cy, tc, ss, av, cs, bi, ou) → wpY_cellOf post (sc, oc, ne, ns, ca, nc, on, yp, yu, ye, st, yl, yr, al, ap, cb, cn, ac, eu, ea, eb, sU, sL, sK, sE, sG, sO, kx, ky, kd, pl, rl, cm, hv, ba, ad, ex, cy, tc, ss, av, cs, bi, ou) (nI u) (nI c)) := by
  obtain ⟨B, S, M, Bd, hu, hD, hP, hd⟩ := H
  have hcl : c < 30000 := by
    rcases hc with ⟨h, _⟩ | h
    · unfold fb_FX at h; omega
    · unfold fb_IX at h; omega
  have n8 : fb_nm c < 8 := fb_nm8 (hc.imp (fun h => h.1) id)
  have hd1 : ∀ n, n < 8 → n < fa_N ap u → fa_N al (u * 8 + n) = 1 := fun n hn z => fa_Re (hc_dum hd hu hn z) (by decide)
  obtain ⟨l, l1, l16, el⟩ := hD (u * 8 + fb_nm c) (by omega)
  have eL : fa_N al (u * 8 + fb_nm c) = l := fa_Re el (by omega)
  rcases hc with ⟨hF, hi⟩ | hI
  · right
    have i16 := fb_ix16 hF
    obtain ⟨a, b, r, e1, e2⟩ := fm_loc S Bd hu n8 (fb_ix1 c) hi (hd1 _ n8)
    refine ⟨a, b, r, fun post h => ?_, fun post h => ?_⟩
    · unfold wpX_findCell
      dsimp only
      refine hx_slotOf (by omega) ?_
      refine br_t (nI_lt (b := 20000) (by unfold fb_FX at hF; omega) (by decide)) ?_
      refine hx_elementOf (by omega) ?_
      exact hc_x54 (by omega) el l16 (fb_ix1 c) (by omega) e1 h
    · unfold wpY_cellOf
      dsimp only
      refine hy_nameOf (by omega) ?_
      refine hy_isIndexed (fun z => ?_) (fun _ => br_t rfl ?_)
      rotate_left
      · refine hy_idxOf (by omega) ?_
        exact hc_yad hu n8 (fb_ix1 c) i16 (hP u hu) e2 h
      exfalso
      obtain ⟨c', hc', e⟩ := z
      have := fa_inj (by omega) (by unfold fb_IX at hc'; omega) e
      unfold fb_FX at hF
      unfold fb_IX at hc'
      omega
  · have k8 : c % 100 < 8 := hI.2.2
    have c20 : 20000 ≤ c := hI.1
    obtain ⟨lk, lk1, lk16, elk⟩ := hD (u * 8 + c % 100) (by omega)
    obtain ⟨a0, b0, r0, e1, e2⟩ := fm_loc (i := 1) S Bd hu k8 (Nat.le_refl 1) (by rw [fa_Re elk (by omega)]; exact lk1) (hd1 _ k8)
    have e1' : ec ((u * 8 + c % 100) * 16) = nI a0 := e1
    have b512 := B.1 a0 b0 r0
    have ev := M a0 b0 r0
    have hX : ∀ (post : Int32 → SX → Prop), wX_findCell_54 post (nI (u * 8 + fb_nm c)) (cx a0) sc oc ne ns ca on st ra (nI u) xn xe xd al ap ac en eu ea eb sU sL sK sE sG sO gr po ec cx ou tc ss av cs → wpX_findCell post (sc, oc, ne, ns, ca, on, st, ra, nI u, xn, xe, xd, al, ap, ac, en, eu, ea, eb, sU, sL, sK, sE, sG, sO, gr, po, ec, cx, ou, tc, ss, av, cs) (nI c) := by
      intro post h
      unfold wpX_findCell
      dsimp only
      refine hx_slotOf (by omega) ?_
      refine br_f (nI_nlt (b := 20000) c20 (by omega)) ⟨by decide, nm_r (e' := nI (u * 8 + c % 100)) (by rw [ha_r100 (by omega), ha_us]) ?_⟩
      rw [ha_16, nI_clamp (by omega), e1', nI_clamp (by omega)]
      exact ⟨vp_in_nI (by omega) (by decide), vp_in_nI (by omega) (by decide), nm_e h⟩
    have hY : ∀ (post : Int32 → SY → Prop), ((cy b0 < 1 → post (-1) (sc, oc, ne, ns, ca, nc, on, yp, yu, 3, st, yl, yr, al, ap, cb, cn, ac, eu, ea, eb, sU, sL, sK, sE, sG, sO, kx, ky, kd, pl, rl, cm, hv, ba, ad, ex, cy, tc, ss, av, cs, bi, ou)) ∧ (¬ cy b0 < 1 → ((cy b0 ≤ al (u * 8 + fb_nm c) → wpY_addrOf (fun r => post r (sc, oc, ne, ns, ca, nc, on, yp, yu, ye, st, yl, yr, al, ap, cb, cn, ac, eu, ea, eb, sU, sL, sK, sE, sG, sO, kx, ky, kd, pl, rl, cm, hv, ba, ad, ex, cy, tc, ss, av, cs, bi, ou)) (sc, oc, ne, ns, ca, nc, on, yp, yu, ye, st, yl, yr, al, ap, cb, cn, ac, eu, ea, eb, sU, sL, sK, sE, sG, sO, kx, ky, kd, pl, rl, cm, hv, ba, ad, ex, cy, tc, ss, av, cs, bi, ou) (nI u) (nI (fb_nm c)) (cy b0)) ∧ (¬ cy b0 ≤ al (u * 8 + fb_nm c) → post (-1) (sc, oc, ne, ns, ca, nc, on, yp, yu, 3, st, yl, yr, al, ap, cb, cn, ac, eu, ea, eb, sU, sL, sK, sE, sG, sO, kx, ky, kd, pl, rl, cm, hv, ba, ad, ex, cy, tc, ss, av, cs, bi, ou))))) → wpY_cellOf post (sc, oc, ne, ns, ca, nc, on, yp, yu, ye, st, yl, yr, al, ap, cb, cn, ac, eu, ea, eb, sU, sL, sK, sE, sG, sO, kx, ky, kd, pl, rl, cm, hv, ba, ad, ex, cy, tc, ss, av, cs, bi, ou) (nI u) (nI c) := by
      intro post h
      unfold wpY_cellOf
      dsimp only
      refine hy_nameOf (by omega) ?_
      refine hy_isIndexed (fun _ => br_f (by decide) ⟨by decide, ?_⟩) (fun z => absurd ⟨c, hI, rfl⟩ z)
      rw [ha_r100 (by omega)]
      refine hc_yad (i := 1) hu k8 (Nat.le_refl 1) (by omega) (hP u hu) e2 ?_
      refine hc_get b512.2 ?_
      refine hy_effLen hu n8 (hP u hu) ?_
      have eq : (if fb_nm c < fa_N ap u then (1 : Int32) else al (u * 8 + fb_nm c)) = al (u * 8 + fb_nm c) := by
        split
        · exact (hc_dum hd hu n8 (by assumption)).symm
        · rfl
      rw [eq]
      exact h
    rw [el] at hY
    rcases hc_v (v := cx a0) l16 with hv | hv | ⟨i, i1, i2, hv⟩
    · left
      refine ⟨fun post h => hX post (hc_x54b (by omega) el (Or.inl hv) h), fun post h => hY post ?_⟩
      rw [← ev]
      exact br_t hv h
    · left
      refine ⟨fun post h => hX post (hc_x54b (by omega) el (Or.inr hv) h), fun post h => hY post ?_⟩
      rw [← ev]
      exact br_f hv.1 (br_f hv.2 h)
    · right
      obtain ⟨a, b, r, f1, f2⟩ := fm_loc S Bd hu n8 i1 (by omega) (hd1 _ n8)
      refine ⟨a, b, r, fun post h => hX post ?_, fun post h => hY post ?_⟩
      · rw [hv]
        exact hc_x54 (by omega) el l16 i1 i2 f1 h
      · rw [← ev, hv]
        exact br_f (nI_nlt (b := 1) i1 (by omega)) (br_t (nI_le i2 (by omega)) (hc_yad hu n8 i1 (by omega) (hP u hu) f2 h))
theorem hc_read (H : hc_St RC al ap ec ad bi cx cy u) (hs : s < 64) (hp : p < 5) (e : sO (s * 5 + p) = nI c) (hc : c < 10000 ∨ (fb_FX c ∧ fb_ix c ≤ fa_N al (u * 8 + fb_nm c)) ∨ fb_IX c) :
    ((∀ post : Int32 → SX → Prop, post 0 (sc, oc, ne, ns, ca, on, st, 3, nI u, xn, xe, xd, al, ap, ac, en, eu, ea, eb, sU, sL, sK, sE, sG, sO, gr, po, ec, cx, ou, tc, ss, av, cs) → wpX_readOperand post (sc, oc, ne, ns, ca, on, st, ra, nI u, xn, xe, xd, al, ap, ac, en, eu, ea, eb, sU, sL, sK, sE, sG, sO, gr, po, ec, cx, ou, tc, ss, av, cs) (nI s) (nI p)) ∧ (∀ post : Int32 → SY → Prop, post 0 (sc, oc, ne, ns, ca, nc, on, yp, yu, 3, st, yl, yr, al, ap, cb, cn, ac, eu, ea, eb, sU, sL, sK, sE, sG, sO, kx, ky, kd, pl, rl, cm, hv, ba, ad, ex, cy, tc, ss, av, cs, bi, ou) → wpY_val post (sc, oc, ne, ns, ca, nc, on, yp, yu, 0, st, yl, yr, al, ap, cb, cn, ac, eu, ea, eb, sU, sL, sK, sE, sG, sO, kx, ky, kd, pl, rl, cm, hv, ba, ad, ex, cy, tc, ss, av, cs, bi, ou) (nI u) (nI c))) ∨
    ∃ v, (∀ post : Int32 → SX → Prop, post v (sc, oc, ne, ns, ca, on, st, ra, nI u, xn, xe, xd, al, ap, ac, en, eu, ea, eb, sU, sL, sK, sE, sG, sO, gr, po, ec, cx, ou, tc, ss, av, cs) → wpX_readOperand post (sc, oc, ne, ns, ca, on, st, ra, nI u, xn, xe, xd, al, ap, ac, en, eu, ea, eb, sU, sL, sK, sE, sG, sO, gr, po, ec, cx, ou, tc, ss, av, cs) (nI s) (nI p)) ∧ (∀ post : Int32 → SY → Prop, post v (sc, oc, ne, ns, ca, nc, on, yp, yu, 0, st, yl, yr, al, ap, cb, cn, ac, eu, ea, eb, sU, sL, sK, sE, sG, sO, kx, ky, kd, pl, rl, cm, hv, ba, ad, ex, cy, tc, ss, av, cs, bi, ou) → wpY_val post (sc, oc, ne, ns, ca, nc, on, yp, yu, 0, st, yl, yr, al, ap, cb, cn, ac, eu, ea, eb, sU, sL, sK, sE, sG, sO, kx, ky, kd, pl, rl, cm, hv, ba, ad, ex, cy, tc, ss, av, cs, bi, ou) (nI u) (nI c)) := by
  by_cases h1 : c < 10000
  · right
    refine ⟨nI c, fun post h => ?_, fun post h => ?_⟩
    · unfold wpX_readOperand
      dsimp only
      rw [ha_5, nI_clamp (by omega), e]
      exact ⟨vp_in_nI (by omega) (by decide), nm_e (br_f (nI_ge (b := 10000) h1 (by decide)) h)⟩
    · unfold wpY_val
      dsimp only
      exact br_f (nI_pos (by omega)) (br_f (nI_nlt (a := 9999) (by omega) (by decide)) h)
  · have hc' : (fb_FX c ∧ fb_ix c ≤ fa_N al (u * 8 + fb_nm c)) ∨ fb_IX c := by
      rcases hc with h | h
      · exact absurd h h1
      · exact h
    have hcl : c < 30000 := by
      rcases hc' with ⟨h, _⟩ | h
      · unfold fb_FX at h; omega
      · unfold fb_IX at h; omega
    rcases hc_cell (c := c) (sc := sc) (oc := oc) (ne := ne) (ns := ns) (ca := ca) (on := on) (st := st) (ra := ra) (xn := xn) (xe := xe) (xd := xd) (nc := nc) (yp := yp) (yl := yl) (yr := yr) (en := en) (eu := eu) (ea := ea) (eb := eb) (ac := ac) (sU := sU) (sL := sL) (sK := sK) (sE := sE) (sG := sG) (sO := sO) (gr := gr) (po := po) (ou := ou) (tc := tc) (ss := ss) (av := av) (cs := cs) (cb := cb) (cn := cn) (kx := kx) (ky := ky) (kd := kd) (pl := pl) (rl := rl) (cm := cm) (hv := hv) (ba := ba) (ex := ex) (ye := 0) (yu := yu) H hc' with ⟨fx, fy⟩ | ⟨a, b, r, fx, fy⟩
    · left
      refine ⟨fun post h => ?_, fun post h => ?_⟩
      · unfold wpX_readOperand
        dsimp only
        rw [ha_5, nI_clamp (by omega), e]
        exact ⟨vp_in_nI (by omega) (by decide), nm_e (br_t (nI_le (a := 10000) (by omega) (by omega)) (fx _ (br_t rfl h)))⟩
      · unfold wpY_val
        dsimp only
        refine br_f (nI_pos (by omega)) (br_t (nI_lt (a := 9999) (by omega) (by omega)) ?_)
        unfold wY_val_13
        exact fy _ (br_f (by decide) h)
    · right
      have b512 := H.1.1 a b r
      refine ⟨cx a, fun post h => ?_, fun post h => ?_⟩
      · unfold wpX_readOperand
        dsimp only
        rw [ha_5, nI_clamp (by omega), e]
        refine ⟨vp_in_nI (by omega) (by decide), nm_e (br_t (nI_le (a := 10000) (by omega) (by omega)) (fx _ (br_f (fa_m1 (by omega)) ⟨vp_in_nI (by omega) (by decide), ?_⟩)))⟩
        rw [nI_clamp (by omega)]
        exact h
      · unfold wpY_val
        dsimp only
        refine br_f (nI_pos (by omega)) (br_t (nI_lt (a := 9999) (by omega) (by omega)) ?_)
        unfold wY_val_13
        refine fy _ (br_t rfl ?_)
        refine hc_get b512.2 ?_
        rw [← H.2.2.1 a b r]
        exact h
end HCE
