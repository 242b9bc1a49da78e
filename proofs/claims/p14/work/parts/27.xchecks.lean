section HXC
/-! the class's checks, each against a plain fact -/
variable {sc oc ne ns ca on st ra xu xn xe xd nc yp yu ye yl yr : Int32} {al ap ac en eu ea eb sU sL sK sE sG sO gr po ec cx ou tc ss av cs cb cn kx ky kd pl rl cm hv ba ad ex cy bi : Nat → Int32}
variable {post : Int32 → Prop} {n : Nat}
theorem lb_go {W : Nat → Int32 → Prop} {B : Nat → Prop} {i0 N : Nat} (hx : ∀ m, (∀ i, i0 ≤ i → i < N → ¬ B i) → W (m + 1) (nI N)) (hs : ∀ m i, i0 ≤ i → i < N → (¬ B i → W m (nI (i + 1))) → W (m + 1) (nI i)) :
    ∀ d i, i + d = N → i0 ≤ i → (∀ j, i0 ≤ j → j < i → ¬ B j) → W (d + 1) (nI i) := by
  intro d
  induction d with
  | zero =>
    intro i hi h0 nb
    have e : i = N := by omega
    subst e
    exact hx 0 nb
  | succ d ih =>
    intro i hi h0 nb
    refine hs (d + 1) i h0 (by omega) (fun nbi => ih (i + 1) (by omega) (by omega) ?_)
    intro j hj hj2
    by_cases e : j = i
    · subst e; exact nbi
    · exact nb j hj (by omega)
theorem lb_from {W : Nat → Int32 → Prop} {B : Nat → Prop} (i0 N : Nat) (h : i0 ≤ N) (hx : ∀ m, (∀ i, i0 ≤ i → i < N → ¬ B i) → W (m + 1) (nI N)) (hs : ∀ m i, i0 ≤ i → i < N → (¬ B i → W m (nI (i + 1))) → W (m + 1) (nI i)) : ∃ f, W f (nI i0) :=
  ⟨N - i0 + 1, lb_go hx hs (N - i0) i0 (by omega) (Nat.le_refl i0) (fun j a b => by omega)⟩
theorem cn_E (D : fs_D al ap ac en cb cn eu ea eb n) {e : Nat} (he : e < n) : (eu e = nI (fa_N eu e) ∧ fa_N eu e < 4) ∧ (ea e = nI (fa_N ea e) ∧ fb_FX (fa_N ea e) ∧ fa_N ea e < 20000) ∧ (eb e = nI (fa_N eb e) ∧ fb_FX (fa_N eb e) ∧ fa_N eb e < 20000) := by
  obtain ⟨a, ⟨c, c1, c2⟩, d, d1, d2⟩ := D.2.2.2.2.2.2 e he
  have c3 := fb_FXlt c1
  have d3 := fb_FXlt d1
  rw [fa_Re c2 (by omega), fa_Re d2 (by omega)]
  exact ⟨fa_Rn a (by omega), ⟨c2, c1, c3⟩, d2, d1, d3⟩
theorem cn_A (D : fs_D al ap ac en cb cn eu ea eb n) {k : Nat} (hk : k < 32) : al k = nI (fa_N al k) ∧ 1 ≤ fa_N al k ∧ fa_N al k ≤ 16 := by
  obtain ⟨l, l1, l2, e⟩ := D.1 k hk
  rw [fa_Re e (by omega)]
  exact ⟨e, l1, l2⟩
theorem cn_P (D : fs_D al ap ac en cb cn eu ea eb n) {u : Nat} (hu : u < 4) : ap u = nI (fa_N ap u) ∧ fa_N ap u < 4 := fa_Rn (D.2.2.1 u hu) (by decide)
theorem cn_C (D : fs_D al ap ac en cb cn eu ea eb n) {u : Nat} (hu : u < 4) : ac u = nI (fa_N ac u) ∧ fa_N ac u < 9 := fa_Rn (D.2.2.2.1 u hu) (by decide)
theorem cn_I (D : fs_D al ap ac en cb cn eu ea eb n) {i : Nat} (hi : i < 32) : (cb i = nI (fa_N cb i) ∧ fa_N cb i < 4) ∧ (cn i = nI (fa_N cn i) ∧ fa_N cn i < 8) ∧ en i = nI (fa_N cb i * 8 + fa_N cn i) := by
  obtain ⟨a, b, c⟩ := D.2.2.2.2.1 i hi
  have a' := fa_Rn a (by decide)
  have b' := fa_Rn b (by decide)
  refine ⟨a', b', ?_⟩
  rw [c, a'.1, b'.1, ha_us]
theorem cn_St {P : Nat → Nat} {u m : Nat} (hm : m < 8) : gd_St P (u * 8 + m) ↔ ¬ m < P u := by
  unfold gd_St
  rw [show (u * 8 + m) % 8 = m by omega, show (u * 8 + m) / 8 = u by omega]
theorem cx_dummy (D : fs_D al ap ac en cb cn eu ea eb n) (h1 : gd_DB (fa_N al) (fa_N ap) (fa_N ac) (fa_N cn) n (fa_N eu) (fa_N ea) (fa_N eb) → post 1) (h0 : ¬ gd_DB (fa_N al) (fa_N ap) (fa_N ac) (fa_N cn) n (fa_N eu) (fa_N ea) (fa_N eb) → post 0) : wpX_declaresDummy post (sc, oc, nI n, ns, ca, on, st, ra, xu, xn, xe, xd, al, ap, ac, en, eu, ea, eb, sU, sL, sK, sE, sG, sO, gr, po, ec, cx, ou, tc, ss, av, cs) := by
  have n16 := D.2.2.2.2.2.1
  refine lb_from (W := fun m z => wX_declaresDummy_2 post sc oc (nI n) ns ca on st ra xu xn xe xd al ap ac en eu ea eb sU sL sK sE sG sO gr po ec cx ou tc ss av cs m z) (B := fun k => k % 8 < fa_N ap (k / 8) ∧ 1 < fa_N al k) 0 32 (by decide) ?_ ?_
  · intro m nb1
    refine br_t (by decide) ?_
    refine lb_from (W := fun m z => wX_declaresDummy_36 post sc oc (nI n) ns ca on st ra xu xn xe xd al ap ac en eu ea eb sU sL sK sE sG sO gr po ec cx ou tc ss av cs m z) (B := fun u => ∃ i, i < fa_N ac u ∧ fa_N cn (u * 8 + i) < fa_N ap u) 0 4 (by decide) ?_ ?_
    · intro m nb2
      refine br_t (by decide) ?_
      refine lb_from (W := fun m z => wX_declaresDummy_97 post sc oc (nI n) ns ca on st ra xu xn xe xd al ap ac en eu ea eb sU sL sK sE sG sO gr po ec cx ou tc ss av cs m z) (B := fun e => fb_nm (fa_N ea e) < fa_N ap (fa_N eu e) ∨ fb_nm (fa_N eb e) < fa_N ap (fa_N eu e)) 0 n (by omega) ?_ ?_
      · intro m nb3
        refine br_t (nI_le (Nat.le_refl n) (by omega)) (h0 ?_)
        rintro (⟨k, hk, a⟩ | ⟨u, i, hu, hi, a⟩ | ⟨e, he, a⟩)
        · exact nb1 k (by omega) hk a
        · exact nb2 u (by omega) hu ⟨i, hi, a⟩
        · exact nb3 e (by omega) he a
      · intro m e _ he go
        obtain ⟨⟨q1, q2⟩, ⟨q3, q4, q5⟩, q6, q7, q8⟩ := cn_E D he
        have ve : vp_in (nI e) 16 := vp_in_nI (by omega) (by decide)
        have m1 := fb_nm8 (Or.inl q4)
        have m2 := fb_nm8 (Or.inl q7)
        have p4 := D.2.2.1 _ q2
        refine br_f (nI_ge he (by omega)) ⟨ve, ve, ?_⟩
        rw [nI_clamp (n := e) (by omega), q1, q3, q6]
        refine hx_slotOf (by omega) ⟨ve, ve, ?_⟩
        refine hx_slotOf (by omega) ?_
        refine hx_isDummy (by omega) (by rw [show (fa_N eu e * 8 + fb_nm (fa_N ea e)) / 8 = fa_N eu e by omega]; exact p4) (fun s1 => br_t rfl ?_) (fun s1 => br_f (by decide) (h1 (Or.inr (Or.inr ⟨e, he, Or.inl ?_⟩))))
        · refine hx_isDummy (by omega) (by rw [show (fa_N eu e * 8 + fb_nm (fa_N eb e)) / 8 = fa_N eu e by omega]; exact p4) (fun s2 => br_t rfl (nm_r (nI_1 e) (go ?_))) (fun s2 => br_f (by decide) (h1 (Or.inr (Or.inr ⟨e, he, Or.inr ?_⟩))))
          · rw [cn_St m1] at s1
            rw [cn_St m2] at s2
            omega
          · rw [cn_St m2] at s2
            omega
        · rw [cn_St m1] at s1
          omega
    · intro m u _ hu go
      obtain ⟨c1, c2⟩ := cn_C D hu
      have vu : vp_in (nI u) 4 := vp_in_nI hu (by decide)
      refine br_f (nI_ge (b := 4) hu (by decide)) ?_
      refine lb_from (W := fun m' z => wX_declaresDummy_43 post (wX_declaresDummy_36 post sc oc (nI n) ns ca on st ra xu xn xe xd al ap ac en eu ea eb sU sL sK sE sG sO gr po ec cx ou tc ss av cs m) (nI u) sc oc (nI n) ns ca on st ra xu xn xe xd al ap ac en eu ea eb sU sL sK sE sG sO gr po ec cx ou tc ss av cs m' z) (B := fun i => fa_N cn (u * 8 + i) < fa_N ap u) 0 (fa_N ac u) (by omega) ?_ ?_
      · intro m' nb
        refine ⟨vu, ?_⟩
        rw [nI_clamp (n := u) (by omega), c1]
        exact br_t (nI_le (Nat.le_refl _) (by omega)) (nm_r (nI_1 u) (go (by rintro ⟨i, hi, a⟩; exact nb i (by omega) hi a)))
      · intro m' i _ hi go'
        obtain ⟨⟨i1, i2⟩, ⟨i3, i4⟩, i5⟩ := cn_I D (i := u * 8 + i) (by omega)
        refine ⟨vu, ?_⟩
        rw [nI_clamp (n := u) (by omega), c1]
        refine br_f (nI_ge hi (by omega)) ?_
        rw [ha_us, nI_clamp (n := u * 8 + i) (by omega), i5]
        refine ⟨vp_in_nI (by omega) (by decide), by decide, nm_r (e' := nI (fa_N cn (u * 8 + i))) (by rw [ha_r8 (by omega)]; congr 1; omega) ?_⟩
        rw [ha_us]
        refine hx_isDummy (by omega) (by rw [show (u * 8 + fa_N cn (u * 8 + i)) / 8 = u by omega]; exact D.2.2.1 u hu) (fun s1 => br_t rfl (nm_r (nI_1 i) (go' ?_))) (fun s1 => br_f (by decide) (h1 (Or.inr (Or.inl ⟨u, i, hu, hi, ?_⟩))))
        · rw [cn_St i4] at s1
          exact s1
        · rw [cn_St i4] at s1
          omega
  · intro m k _ hk go
    obtain ⟨l1, l2, l3⟩ := cn_A D hk
    refine br_f (nI_ge (b := 32) hk (by decide)) ?_
    refine hx_isDummy hk (D.2.2.1 _ (by omega)) (fun s => br_t rfl (nm_r (nI_1 k) (go fun z => s z.1))) (fun s => br_f (by decide) ⟨vp_in_nI hk (by decide), ?_⟩)
    rw [nI_clamp (n := k) (by omega), l1]
    unfold gd_St at s
    exact pk_le (fa_N al k) 1 (fun z => nm_r (nI_1 k) (go fun q => by omega)) (fun z => h1 (Or.inl ⟨k, hk, by omega, z⟩))
def gd_XS (n : Nat) (al sU sG sO : Nat → Int32) : Prop := ∃ s p c, s < n ∧ p < fa_N sG s ∧ sO (s * 5 + p) = nI c ∧ fb_FX c ∧ fa_N al (fa_N sU s * 8 + fb_nm c) < fb_ix c
theorem cx_far {u c : Nat} (D : fs_D al ap ac en cb cn eu ea eb n) (hu : u < 4) (hc : fb_FX c) (h1 : fa_N al (u * 8 + fb_nm c) < fb_ix c → post 1) (h0 : ¬ fa_N al (u * 8 + fb_nm c) < fb_ix c → post 0) : wpX_isTooFar post (sc, oc, ne, ns, ca, on, st, ra, xu, xn, xe, xd, al, ap, ac, en, eu, ea, eb, sU, sL, sK, sE, sG, sO, gr, po, ec, cx, ou, tc, ss, av, cs) (nI u) (nI c) := by
  have m8 := fb_nm8 (Or.inl hc)
  have c2 := fb_FXlt hc
  obtain ⟨l1, l2, l3⟩ := cn_A D (k := u * 8 + fb_nm c) (by omega)
  have i16 := fb_ix16 hc
  unfold wpX_isTooFar
  dsimp only
  refine hx_elementOf (by omega) ?_
  refine hx_slotOf (by omega) ⟨vp_in_nI (by omega) (by decide), ?_⟩
  rw [nI_clamp (n := u * 8 + fb_nm c) (by omega), l1]
  exact pk_le (fb_ix c) (fa_N al (u * 8 + fb_nm c)) (fun z => h0 (by omega)) (fun z => h1 z)
theorem cx_index {ns' : Nat} {f : Prop} (D : fs_D al ap ac en cb cn eu ea eb n) (hn : ns' ≤ 64) (S : fs_S ns' sU sL sK sE sG sO f) (h1 : (gd_XE (fa_N al) n (fa_N eu) (fa_N ea) (fa_N eb) ∨ gd_XS ns' al sU sG sO) → post 1) (h0 : ¬ (gd_XE (fa_N al) n (fa_N eu) (fa_N ea) (fa_N eb) ∨ gd_XS ns' al sU sG sO) → post 0) : wpX_exceedsLength post (sc, oc, nI n, nI ns', ca, on, st, ra, xu, xn, xe, xd, al, ap, ac, en, eu, ea, eb, sU, sL, sK, sE, sG, sO, gr, po, ec, cx, ou, tc, ss, av, cs) := by
  have n16 := D.2.2.2.2.2.1
  refine lb_from (W := fun m z => wX_exceedsLength_2 post sc oc (nI n) (nI ns') ca on st ra xu xn xe xd al ap ac en eu ea eb sU sL sK sE sG sO gr po ec cx ou tc ss av cs m z) (B := fun e => fa_N al (fa_N eu e * 8 + fb_nm (fa_N ea e)) < fb_ix (fa_N ea e) ∨ fa_N al (fa_N eu e * 8 + fb_nm (fa_N eb e)) < fb_ix (fa_N eb e)) 0 n (by omega) ?_ ?_
  · intro m nb1
    refine br_t (nI_le (Nat.le_refl n) (by omega)) ?_
    refine lb_from (W := fun m z => wX_exceedsLength_55 post sc oc (nI n) (nI ns') ca on st ra xu xn xe xd al ap ac en eu ea eb sU sL sK sE sG sO gr po ec cx ou tc ss av cs m z) (B := fun s => ∃ p c, p < fa_N sG s ∧ sO (s * 5 + p) = nI c ∧ fb_FX c ∧ fa_N al (fa_N sU s * 8 + fb_nm c) < fb_ix c) 0 ns' (by omega) ?_ ?_
    · intro m nb2
      refine br_t (nI_le (Nat.le_refl _) (by omega)) (h0 ?_)
      rintro (⟨e, he, a⟩ | ⟨s, p, c, hs, a⟩)
      · exact nb1 e (by omega) he a
      · exact nb2 s (by omega) hs ⟨p, c, a⟩
    · intro m s _ hs go
      obtain ⟨_, _, ⟨g1, g2, g5⟩, ⟨u1, u2⟩, _, _, ops⟩ := ha_V (S s hs)
      have vs : vp_in (nI s) 64 := vp_in_nI (by omega) (by decide)
      refine br_f (nI_ge hs (by omega)) ?_
      refine lb_from (W := fun m' z => wX_exceedsLength_65 post (wX_exceedsLength_55 post sc oc (nI n) (nI ns') ca on st ra xu xn xe xd al ap ac en eu ea eb sU sL sK sE sG sO gr po ec cx ou tc ss av cs m) (nI s) sc oc (nI n) (nI ns') ca on st ra xu xn xe xd al ap ac en eu ea eb sU sL sK sE sG sO gr po ec cx ou tc ss av cs m' z) (B := fun p => ∃ c, sO (s * 5 + p) = nI c ∧ fb_FX c ∧ fa_N al (fa_N sU s * 8 + fb_nm c) < fb_ix c) 0 (fa_N sG s) (by omega) ?_ ?_
      · intro m' nb
        refine ⟨vs, ?_⟩
        rw [nI_clamp (n := s) (by omega), g1]
        exact br_t (nI_le (Nat.le_refl _) (by omega)) (nm_r (nI_1 s) (go (by rintro ⟨p, c, hp, a⟩; exact nb p (by omega) hp ⟨c, a⟩)))
      · intro m' p _ hp go'
        obtain ⟨c, ec1, hal⟩ := ops p hp
        have c3 : c < 30000 := by
          unfold fb_al fb_FX fb_IX at hal
          omega
        refine ⟨vs, ?_⟩
        rw [nI_clamp (n := s) (by omega), g1]
        refine br_f (nI_ge hp (by omega)) ?_
        rw [ha_5, nI_clamp (n := s * 5 + p) (by omega), ec1]
        refine ⟨vp_in_nI (by omega) (by decide), nm_e ?_⟩
        refine hx_isFixed (fun z => br_f (by decide) ⟨vs, ?_⟩) (fun z => br_t rfl (nm_r (nI_1 p) (go' ?_)))
        · obtain ⟨c', hc', e⟩ := z
          have c2 := fb_FXlt hc'
          have := fa_inj (by omega) (by omega) e
          subst this
          rw [u1]
          exact cx_far D u2 hc' (fun q => br_f (by decide) (h1 (Or.inr ⟨s, p, c, hs, hp, ec1, hc', q⟩))) (fun q => br_t rfl (nm_r (nI_1 p) (go' (by
            rintro ⟨c'', e1, e2, e3⟩
            have := fa_inj (by omega) (by have := fb_FXlt e2; omega) (ec1.symm.trans e1)
            subst this
            exact q e3))))
        · rintro ⟨c'', e1, e2, e3⟩
          exact z ⟨c'', e2, ec1.symm.trans e1⟩
  · intro m e _ he go
    obtain ⟨⟨q1, q2⟩, ⟨q3, q4, q5⟩, q6, q7, q8⟩ := cn_E D he
    have ve : vp_in (nI e) 16 := vp_in_nI (by omega) (by decide)
    refine br_f (nI_ge he (by omega)) ⟨ve, ?_⟩
    rw [nI_clamp (n := e) (by omega), q1, q3, q6]
    refine nm_e ⟨ve, ?_⟩
    refine cx_far D q2 q4 (fun z => br_f (by decide) (h1 (Or.inl ⟨e, he, Or.inl z⟩))) (fun z => br_t rfl ⟨ve, ?_⟩)
    exact cx_far D q2 q7 (fun z' => br_f (by decide) (h1 (Or.inl ⟨e, he, Or.inr z'⟩))) (fun z' => br_t rfl (nm_r (nI_1 e) (go (by omega))))
end HXC
