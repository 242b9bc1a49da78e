section HXD
variable {sc oc ne ns ca on st ra xu xn xe xd nc yp yu ye yl yr : Int32} {al ap ac en eu ea eb sU sL sK sE sG sO gr po ec cx ou tc ss av cs cb cn kx ky kd pl rl cm hv ba ad ex cy bi : Nat → Int32}
variable {post : Int32 → Prop} {n : Nat} {f : Prop}
def gd_JB (gr : Nat → Int32) : Prop := ∃ b c, c < b ∧ b < 4 ∧ gr (32 + b) = gr (32 + c)
theorem cx_joins (h1 : gd_JB gr → post 1) (h0 : ¬ gd_JB gr → post 0) : wpX_joinsBlocks post (sc, oc, ne, ns, ca, on, st, ra, xu, xn, xe, xd, al, ap, ac, en, eu, ea, eb, sU, sL, sK, sE, sG, sO, gr, po, ec, cx, ou, tc, ss, av, cs) := by
  refine lb_from (W := fun m z => wX_joinsBlocks_2 post sc oc ne ns ca on st ra xu xn xe xd al ap ac en eu ea eb sU sL sK sE sG sO gr po ec cx ou tc ss av cs m z) (B := fun b => ∃ c, c < b ∧ gr (32 + b) = gr (32 + c)) 1 4 (by decide) ?_ ?_
  · intro m nb
    refine br_t (by decide) (h0 ?_)
    rintro ⟨b, c, hc, hb, e⟩
    exact nb b (by omega) hb ⟨c, hc, e⟩
  · intro m b b1 hb go
    refine br_f (nI_ge (b := 4) hb (by decide)) ?_
    refine lb_from (W := fun m' z => wX_joinsBlocks_9 post (wX_joinsBlocks_2 post sc oc ne ns ca on st ra xu xn xe xd al ap ac en eu ea eb sU sL sK sE sG sO gr po ec cx ou tc ss av cs m) (nI b) sc oc ne ns ca on st ra xu xn xe xd al ap ac en eu ea eb sU sL sK sE sG sO gr po ec cx ou tc ss av cs m' z) (B := fun c => gr (32 + b) = gr (32 + c)) 0 b (by omega) ?_ ?_
    · intro m' nb
      exact br_t (nI_le (Nat.le_refl b) (by omega)) (nm_r (nI_1 b) (go (by rintro ⟨c, hc, e⟩; exact nb c (by omega) hc e)))
    · intro m' c _ hc go'
      refine br_f (nI_ge hc (by omega)) ?_
      rw [ha_32, ha_32, nI_clamp (n := 32 + b) (by omega), nI_clamp (n := 32 + c) (by omega)]
      exact ⟨vp_in_nI (by omega) (by decide), vp_in_nI (by omega) (by decide), br_c (fun z => h1 ⟨b, c, hc, hb, z⟩) (fun z => nm_r (nI_1 c) (go' z))⟩
def gd_BB (gr po : Nat → Int32) : Prop := ∃ b k, b < 4 ∧ k < 32 ∧ gr k = gr (32 + b) ∧ po k < po (32 + b)
theorem cx_back (h1 : gd_BB gr po → post 1) (h0 : ¬ gd_BB gr po → post 0) : wpX_reachesBackward post (sc, oc, ne, ns, ca, on, st, ra, xu, xn, xe, xd, al, ap, ac, en, eu, ea, eb, sU, sL, sK, sE, sG, sO, gr, po, ec, cx, ou, tc, ss, av, cs) := by
  refine lb_from (W := fun m z => wX_reachesBackward_2 post sc oc ne ns ca on st ra xu xn xe xd al ap ac en eu ea eb sU sL sK sE sG sO gr po ec cx ou tc ss av cs m z) (B := fun b => ∃ k, k < 32 ∧ gr k = gr (32 + b) ∧ po k < po (32 + b)) 0 4 (by decide) ?_ ?_
  · intro m nb
    refine br_t (by decide) (h0 ?_)
    rintro ⟨b, k, hb, e⟩
    exact nb b (by omega) hb ⟨k, e⟩
  · intro m b _ hb go
    refine br_f (nI_ge (b := 4) hb (by decide)) ?_
    refine lb_from (W := fun m' z => wX_reachesBackward_9 post (wX_reachesBackward_2 post sc oc ne ns ca on st ra xu xn xe xd al ap ac en eu ea eb sU sL sK sE sG sO gr po ec cx ou tc ss av cs m) (nI b) sc oc ne ns ca on st ra xu xn xe xd al ap ac en eu ea eb sU sL sK sE sG sO gr po ec cx ou tc ss av cs m' z) (B := fun k => gr k = gr (32 + b) ∧ po k < po (32 + b)) 0 32 (by decide) ?_ ?_
    · intro m' nb
      exact br_t (by decide) (nm_r (nI_1 b) (go (by rintro ⟨k, hk, e⟩; exact nb k (by omega) hk e)))
    · intro m' k _ hk go'
      have vk : vp_in (nI k) 36 := vp_in_nI (by omega) (by decide)
      have vb : vp_in (nI (32 + b)) 36 := vp_in_nI (by omega) (by decide)
      refine br_f (nI_ge (b := 32) hk (by decide)) ?_
      rw [ha_32, nI_clamp (n := k) (by omega), nI_clamp (n := 32 + b) (by omega)]
      refine ⟨vk, vb, br_c (fun z => ?_) (fun z => br_t rfl (nm_r (nI_1 k) (go' fun q => z q.1)))⟩
      unfold wX_reachesBackward_38
      rw [ha_32, nI_clamp (n := k) (by omega), nI_clamp (n := 32 + b) (by omega)]
      exact br_f (by decide) ⟨vk, vb, br_c (fun w => nm_r (nI_1 k) (go' fun q => absurd q.2 (Int32.not_lt.mpr w))) (fun w => h1 ⟨b, k, hb, hk, z, Int32.not_le.mp w⟩)⟩
def gd_LD (n : Nat) (sU sL : Nat → Int32) : Prop := ∃ i j, j < i ∧ i < n ∧ sL i = sL j ∧ ¬ sL i = 0 ∧ sU i = sU j
theorem cx_rep (hn : n ≤ 64) (h1 : gd_LD n sU sL → post 1) (h0 : ¬ gd_LD n sU sL → post 0) : wpX_hasRepeatedLabel post (sc, oc, ne, nI n, ca, on, st, ra, xu, xn, xe, xd, al, ap, ac, en, eu, ea, eb, sU, sL, sK, sE, sG, sO, gr, po, ec, cx, ou, tc, ss, av, cs) := by
  by_cases n0 : n = 0
  · subst n0
    refine ⟨0 + 1, br_t (by decide) (h0 ?_)⟩
    rintro ⟨i, j, a, b, _⟩
    omega
  · refine lb_from (W := fun m z => wX_hasRepeatedLabel_2 post sc oc ne (nI n) ca on st ra xu xn xe xd al ap ac en eu ea eb sU sL sK sE sG sO gr po ec cx ou tc ss av cs m z) (B := fun i => ∃ j, j < i ∧ sL i = sL j ∧ ¬ sL i = 0 ∧ sU i = sU j) 1 n (by omega) ?_ ?_
    · intro m nb
      refine br_t (nI_le (Nat.le_refl n) (by omega)) (h0 ?_)
      rintro ⟨i, j, hj, hi, e⟩
      exact nb i (by omega) hi ⟨j, hj, e⟩
    · intro m i _ hi go
      have vi : vp_in (nI i) 64 := vp_in_nI (by omega) (by decide)
      refine br_f (nI_ge hi (by omega)) ?_
      refine lb_from (W := fun m' z => wX_hasRepeatedLabel_12 post (wX_hasRepeatedLabel_2 post sc oc ne (nI n) ca on st ra xu xn xe xd al ap ac en eu ea eb sU sL sK sE sG sO gr po ec cx ou tc ss av cs m) (nI i) sc oc ne (nI n) ca on st ra xu xn xe xd al ap ac en eu ea eb sU sL sK sE sG sO gr po ec cx ou tc ss av cs m' z) (B := fun j => sL i = sL j ∧ ¬ sL i = 0 ∧ sU i = sU j) 0 i (by omega) ?_ ?_
      · intro m' nb
        exact br_t (nI_le (Nat.le_refl i) (by omega)) (nm_r (nI_1 i) (go (by rintro ⟨j, hj, e⟩; exact nb j (by omega) hj e)))
      · intro m' j _ hj go'
        have vj : vp_in (nI j) 64 := vp_in_nI (by omega) (by decide)
        refine br_f (nI_ge hj (by omega)) ⟨vi, vj, ?_⟩
        rw [nI_clamp (n := i) (by omega), nI_clamp (n := j) (by omega)]
        refine br_c (fun z => ⟨vi, br_c (fun z' => br_t rfl (nm_r (nI_1 j) (go' fun q => q.2.1 z'))) (fun z' => br_f (by decide) ⟨vi, vj, ?_⟩)⟩) (fun z => br_t rfl (nm_r (nI_1 j) (go' fun q => z q.1)))
        rw [nI_clamp (n := i) (by omega), nI_clamp (n := j) (by omega)]
        exact br_c (fun w => h1 ⟨i, j, hj, hi, z, z', w⟩) (fun w => nm_r (nI_1 j) (go' fun q => w q.2.2))
def gd_Bad (sK : Nat → Int32) (s t : Nat) : Prop := t ≤ s ∨ ¬ (sK t = 1 ∨ sK t = 5 ∨ sK t = 6 ∨ sK t = 7)
def gd_LT (n : Nat) (sU sL sK sG sO : Nat → Int32) : Prop := ∃ s p, s < n ∧ p < fa_N sG s ∧ fb_pl (fa_N sK s) p = 2 ∧ fb_FL sU sL n (sU s) (sO (s * 5 + p)) = -1
def gd_LE (n : Nat) (sU sL sK sG sO : Nat → Int32) : Prop := ∃ s t, s < n ∧ sK s = 4 ∧ 0 < fa_N sG s ∧ fb_FL sU sL n (sU s) (sO (s * 5)) = nI t ∧ t < n ∧ gd_Bad sK s t
theorem cx_can {s t : Nat} (hs : s < 64) (ht : t < 64) (h1 : ¬ gd_Bad sK s t → post 1) (h0 : gd_Bad sK s t → post 0) : wpX_canEndLoop post (sc, oc, ne, ns, ca, on, st, ra, xu, xn, xe, xd, al, ap, ac, en, eu, ea, eb, sU, sL, sK, sE, sG, sO, gr, po, ec, cx, ou, tc, ss, av, cs) (nI t) (nI s) := by
  have fin : (sK t = 1 ∨ sK t = 5 ∨ sK t = 6 ∨ sK t = 7) → wX_canEndLoop_29 post (nI t) (nI s) sc oc ne ns ca on st ra xu xn xe xd al ap ac en eu ea eb sU sL sK sE sG sO gr po ec cx ou tc ss av cs := fun k =>
    br_f (by decide) (pk_le t s (fun z => h0 (Or.inl z)) (fun z => h1 (fun q => by rcases q with q | q; omega; exact q k)))
  refine ⟨vp_in_nI ht (by decide), ?_⟩
  rw [nI_clamp (by omega)]
  refine nm_e (br_c (fun a => fin (Or.inl a)) (fun a => br_c (fun b => fin (Or.inr (Or.inl b))) (fun b => br_c (fun c => fin (Or.inr (Or.inr (Or.inl c)))) (fun c => br_c (fun d => fin (Or.inr (Or.inr (Or.inr d)))) (fun d => br_t rfl (h0 (Or.inr ?_)))))))
  rintro (z | z | z | z)
  · exact a z
  · exact b z
  · exact c z
  · exact d z
theorem cx_tgt (hn : n ≤ 64) (S : fs_S n sU sL sK sE sG sO f) (h1 : (gd_LT n sU sL sK sG sO ∨ gd_LE n sU sL sK sG sO) → post 1) (h0 : ¬ (gd_LT n sU sL sK sG sO ∨ gd_LE n sU sL sK sG sO) → post 0) : wpX_hasWrongTarget post (sc, oc, ne, nI n, ca, on, st, ra, xu, xn, xe, xd, al, ap, ac, en, eu, ea, eb, sU, sL, sK, sE, sG, sO, gr, po, ec, cx, ou, tc, ss, av, cs) := by
  refine lb_from (W := fun m z => wX_hasWrongTarget_2 post sc oc ne (nI n) ca on st ra xu xn xe xd al ap ac en eu ea eb sU sL sK sE sG sO gr po ec cx ou tc ss av cs m z) (B := fun s => ∃ p, p < fa_N sG s ∧ fb_pl (fa_N sK s) p = 2 ∧ (fb_FL sU sL n (sU s) (sO (s * 5 + p)) = -1 ∨ (sK s = 4 ∧ ∃ t, fb_FL sU sL n (sU s) (sO (s * 5 + p)) = nI t ∧ t < n ∧ gd_Bad sK s t))) 0 n (by omega) ?_ ?_
  · intro m nb
    refine br_t (nI_le (Nat.le_refl n) (by omega)) (h0 ?_)
    rintro (⟨s, p, hs, hp, a, b⟩ | ⟨s, t, hs, k4, g0, a, b⟩)
    · exact nb s (by omega) hs ⟨p, hp, a, Or.inl b⟩
    · exact nb s (by omega) hs ⟨0, g0, by rw [fa_Re k4 (by decide)]; rfl, Or.inr ⟨k4, t, a, b⟩⟩
  · intro m s _ hs go
    obtain ⟨⟨k1, k2, k3⟩, _, ⟨g1, g2, g5⟩, _, _, _, ops⟩ := ha_V (S s hs)
    have vs : vp_in (nI s) 64 := vp_in_nI (by omega) (by decide)
    refine br_f (nI_ge hs (by omega)) ?_
    refine lb_from (W := fun m' z => wX_hasWrongTarget_12 post (wX_hasWrongTarget_2 post sc oc ne (nI n) ca on st ra xu xn xe xd al ap ac en eu ea eb sU sL sK sE sG sO gr po ec cx ou tc ss av cs m) (nI s) sc oc ne (nI n) ca on st ra xu xn xe xd al ap ac en eu ea eb sU sL sK sE sG sO gr po ec cx ou tc ss av cs m' z) (B := fun p => fb_pl (fa_N sK s) p = 2 ∧ (fb_FL sU sL n (sU s) (sO (s * 5 + p)) = -1 ∨ (sK s = 4 ∧ ∃ t, fb_FL sU sL n (sU s) (sO (s * 5 + p)) = nI t ∧ t < n ∧ gd_Bad sK s t))) 0 (fa_N sG s) (by omega) ?_ ?_
    · intro m' nb
      refine ⟨vs, ?_⟩
      rw [nI_clamp (n := s) (by omega), g1]
      exact br_t (nI_le (Nat.le_refl _) (by omega)) (nm_r (nI_1 s) (go (by rintro ⟨p, hp, e⟩; exact nb p (by omega) hp e)))
    · intro m' p _ hp go'
      refine ⟨vs, ?_⟩
      rw [nI_clamp (n := s) (by omega), g1]
      refine br_f (nI_ge hp (by omega)) ⟨vs, ?_⟩
      rw [k1]
      refine hx_placeKind k2 k3 (by omega) ?_
      refine pk_eq (fb_pl (fa_N sK s) p) 2 (fun z => ⟨vs, ?_⟩) (fun z => nm_r (nI_1 p) (go' fun q => z q.1)) rfl rfl (by have := vs_pl (k := fa_N sK s) (p := p); omega)
      rw [ha_5, nI_clamp (n := s * 5 + p) (by omega)]
      refine ⟨vp_in_nI (by omega) (by decide), ?_⟩
      refine hx_findLabel hn ?_
      rcases hs_FLr (sU := sU) (sL := sL) (n := n) (u := sU s) (l := sO (s * 5 + p)) with e | ⟨t, ht, e, _⟩
      · exact br_t e (h1 (Or.inl ⟨s, p, hs, hp, z, e⟩))
      · rw [e]
        refine br_f (fa_m1 (by omega)) ⟨vs, ?_⟩
        rw [← k1]
        refine br_c (fun w => ?_) (fun w => nm_r (nI_1 p) (go' ?_))
        · refine cx_can (by omega) (by omega) (fun q => br_f (by decide) (nm_r (nI_1 p) (go' ?_))) (fun q => br_t rfl (h1 (Or.inr ⟨s, t, hs, w, by omega, ?_, ht, q⟩)))
          · rintro ⟨_, y | ⟨_, t', e', ht', b'⟩⟩
            · rw [e] at y
              exact fa_m1 (by omega) y
            · have := fa_inj (by omega) (by omega) (e.symm.trans e')
              subst this
              exact q b'
          · have p0 : p = 0 := by
              rw [fa_Re w (by decide)] at z
              have z' : (if p = 0 then 2 else if p = 1 then 1 else 0) = 2 := z
              by_cases y : p = 0
              · exact y
              · rw [if_neg y] at z'
                split at z' <;> omega
            subst p0
            exact e
        · rintro ⟨_, y | ⟨y, _⟩⟩
          · rw [e] at y
            exact fa_m1 (by omega) y
          · exact w y
def gd_WC (n : Nat) (ap sK sE : Nat → Int32) : Prop := ∃ s, s < n ∧ sK s = 5 ∧ ¬ fa_N sE s / 4 = fa_N ap (fa_N sE s % 4)
theorem cx_wc (hn : n ≤ 64) (S : fs_S n sU sL sK sE sG sO f) (hP : ∀ u, u < 4 → fa_R 4 (ap u)) (h1 : gd_WC n ap sK sE → post 1) (h0 : ¬ gd_WC n ap sK sE → post 0) : wpX_hasWrongCall post (sc, oc, ne, nI n, ca, on, st, ra, xu, xn, xe, xd, al, ap, ac, en, eu, ea, eb, sU, sL, sK, sE, sG, sO, gr, po, ec, cx, ou, tc, ss, av, cs) := by
  refine lb_from (W := fun m z => wX_hasWrongCall_2 post sc oc ne (nI n) ca on st ra xu xn xe xd al ap ac en eu ea eb sU sL sK sE sG sO gr po ec cx ou tc ss av cs m z) (B := fun s => sK s = 5 ∧ ¬ fa_N sE s / 4 = fa_N ap (fa_N sE s % 4)) 0 n (by omega) ?_ ?_
  · intro m nb
    refine br_t (nI_le (Nat.le_refl n) (by omega)) (h0 ?_)
    rintro ⟨s, hs, a⟩
    exact nb s (by omega) hs a
  · intro m s _ hs go
    obtain ⟨_, ⟨e1, e2, e3⟩, _⟩ := ha_V (S s hs)
    obtain ⟨q1, q2⟩ := fa_Rn (hP (fa_N sE s % 4) (by omega)) (by decide)
    have vs : vp_in (nI s) 64 := vp_in_nI (by omega) (by decide)
    refine br_f (nI_ge hs (by omega)) ⟨vs, ?_⟩
    rw [nI_clamp (n := s) (by omega)]
    refine br_c (fun z => ?_) (fun z => br_t rfl (nm_r (nI_1 s) (go fun q => z q.1)))
    unfold wX_hasWrongCall_25
    rw [nI_clamp (n := s) (by omega), e1, ha_r4 (by omega), ha_d4 (by omega), nI_clamp (n := fa_N sE s % 4) (by omega), q1]
    exact br_f (by decide) ⟨vs, by decide, vs, by decide, vp_in_nI (by omega) (by decide), pk_eq (fa_N sE s / 4) (fa_N ap (fa_N sE s % 4)) (fun w => nm_r (nI_1 s) (go fun q => q.2 w)) (fun w => h1 ⟨s, hs, z, w⟩)⟩
end HXD
