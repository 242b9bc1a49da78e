section HXA
/-! the class's cells and extents -/
variable {sc oc ne ns ca on st ra xu xn xe xd nc yp yu ye yl yr : Int32} {al ap ac en eu ea eb sU sL sK sE sG sO gr po ec cx ou tc ss av cs cb cn kx ky kd pl rl cm hv ba ad ex cy bi : Nat → Int32}
variable {n : Nat}
theorem ca_12 {post : Int32 → Prop} {k i : Nat} (hA : ∀ k, k < 32 → ∃ l, 1 ≤ l ∧ l ≤ 16 ∧ al k = nI l) (hk : k < 32) (i1 : 1 ≤ i) (i2 : i ≤ fa_N al k) (h : ∀ e, e < 512 → gb_Fst gr po (fa_N al) k i e → post (nI e)) :
    ∀ d o, o + d = k → (∀ o', o' < o → ∀ j', 1 ≤ j' → j' ≤ fa_N al o' → gr o' = gr k → po k + nI i ≠ po o' + nI j') → wX_firstSameElement_12 post (nI k) (nI i) sc oc ne ns ca on st ra xu xn xe xd al ap ac en eu ea eb sU sL sK sE sG sO gr po ec cx ou tc ss av cs (d + 1) (nI o) := by
  have N : ∀ k, k < 32 → al k = nI (fa_N al k) ∧ 1 ≤ fa_N al k ∧ fa_N al k ≤ 16 := by
    intro k hk
    obtain ⟨l, l1, l2, e⟩ := hA k hk
    rw [fa_Re e (by omega)]
    exact ⟨e, l1, l2⟩
  have lk := N k hk
  intro d
  induction d with
  | zero =>
    intro o ho nb
    have e : o = k := by omega
    subst e
    refine br_t (nI_le (Nat.le_refl o) (by omega)) ?_
    unfold wX_firstSameElement_94
    rw [ha_el i1]
    exact h _ (by omega) ⟨o, i, hk, rfl, i1, i2, by omega, rfl, rfl, nb⟩
  | succ d ih =>
    intro o ho nb
    have lo := N o (by omega)
    have vo : vp_in (nI o) 36 := vp_in_nI (by omega) (by decide)
    have vk : vp_in (nI k) 36 := vp_in_nI (by omega) (by decide)
    refine br_f (nI_ge (by omega) (by omega)) ⟨vk, vo, ?_⟩
    rw [nI_clamp (n := k) (by omega), nI_clamp (n := o) (by omega), lo.1]
    have next : (∀ j', 1 ≤ j' → j' ≤ fa_N al o → gr o = gr k → po k + nI i ≠ po o + nI j') → wX_firstSameElement_12 post (nI k) (nI i) sc oc ne ns ca on st ra xu xn xe xd al ap ac en eu ea eb sU sL sK sE sG sO gr po ec cx ou tc ss av cs (d + 1) (nI (o + 1)) := by
      intro nb'
      refine ih (o + 1) (by omega) (fun o' ho' => ?_)
      by_cases e : o' = o
      · subst e; exact nb'
      · exact nb o' (by omega)
    have no : ∀ x4 : Int32, x4 = po k + nI i - po o → (x4 < 1 ∨ (¬ x4 < 1 ∧ ¬ x4 ≤ nI (fa_N al o))) → ∀ j', 1 ≤ j' → j' ≤ fa_N al o → gr o = gr k → po k + nI i ≠ po o + nI j' := by
      intro x4 e4 hx j' j1 j2 _ e
      have e5 : x4 = nI j' := by rw [e4, e]; grind
      rw [e5] at hx
      rcases hx with hx | ⟨_, hx⟩
      · exact nI_nlt (b := 1) j1 (by omega) hx
      · exact hx (nI_le j2 (by omega))
    have miss : ∀ x4 : Int32, (∀ j', 1 ≤ j' → j' ≤ fa_N al o → gr o = gr k → po k + nI i ≠ po o + nI j') → wX_firstSameElement_55 post (wX_firstSameElement_12 post (nI k) (nI i) sc oc ne ns ca on st ra xu xn xe xd al ap ac en eu ea eb sU sL sK sE sG sO gr po ec cx ou tc ss av cs (d + 1)) (nI k) (nI i) (nI o) x4 sc oc ne ns ca on st ra xu xn xe xd al ap ac en eu ea eb sU sL sK sE sG sO gr po ec cx ou tc ss av cs := by
      intro x4 nb'
      unfold wX_firstSameElement_55 wX_firstSameElement_56
      exact ⟨vo, vk, br_c (fun _ => br_t rfl (nm_r (nI_1 o) (next nb'))) (fun _ => nm_r (nI_1 o) (next nb'))⟩
    refine nm_e ?_
    rcases hc_v (v := po k + nI i - po o) (l := fa_N al o) lo.2.2 with z | ⟨z, z'⟩ | ⟨j, j1, j2, ej⟩
    · exact br_t z (miss _ (no _ rfl (Or.inl z)))
    · exact br_f z ⟨vp_in_nI (by omega) (by decide), br_t (Int32.not_le.mp z') (miss _ (no _ rfl (Or.inr ⟨z, z'⟩)))⟩
    · rw [ej]
      refine br_f (nI_nlt (b := 1) j1 (by omega)) ⟨vp_in_nI (by omega) (by decide), br_f (nI_nlt j2 (by omega)) ?_⟩
      unfold wX_firstSameElement_56
      rw [nI_clamp (n := k) (by omega), nI_clamp (n := o) (by omega)]
      refine ⟨vo, vk, br_c (fun g => br_f (by decide) ?_) (fun g => nm_r (nI_1 o) (next (fun j' _ _ gg => absurd gg g)))⟩
      rw [ha_el j1]
      refine h _ (by omega) ⟨o, j, by omega, rfl, j1, j2, by omega, g, by grind, ?_⟩
      exact nb
theorem ca_fst {post : Int32 → Prop} {k i : Nat} (hA : ∀ k, k < 32 → ∃ l, 1 ≤ l ∧ l ≤ 16 ∧ al k = nI l) (hk : k < 32) (i1 : 1 ≤ i) (i16 : i ≤ 16) (h : ∀ e, e < 512 → (i ≤ fa_N al k → gb_Fst gr po (fa_N al) k i e) → post (nI e)) : wpX_firstSameElement post (sc, oc, ne, ns, ca, on, st, ra, xu, xn, xe, xd, al, ap, ac, en, eu, ea, eb, sU, sL, sK, sE, sG, sO, gr, po, ec, cx, ou, tc, ss, av, cs) (nI k) (nI i) := by
  obtain ⟨l, l1, l2, el⟩ := hA k hk
  have eL : fa_N al k = l := fa_Re el (by omega)
  refine ⟨vp_in_nI hk (by decide), ?_⟩
  rw [nI_clamp (n := k) (by omega), el]
  refine pk_lt l i (fun z => ?_) (fun z => ⟨k + 1, ca_12 hA hk i1 (by omega) (fun e he hf => h e he (fun _ => hf)) k 0 (by omega) (fun o' ho' => absurd ho' (Nat.not_lt_zero o'))⟩)
  unfold wX_firstSameElement_94
  rw [ha_el i1]
  exact h _ (by omega) (fun q => by omega)
def ca_Ok (gr po al ec : Nat → Int32) (m : Nat) : Prop := ∃ e, (m % 16 + 1 ≤ fa_N al (m / 16) → gb_Fst gr po (fa_N al) (m / 16) (m % 16 + 1) e) ∧ ec m = nI e
theorem ca_up {m e : Nat} {ec : Nat → Int32} (h : ∀ j, j < m → ca_Ok gr po al ec j) (he : m % 16 + 1 ≤ fa_N al (m / 16) → gb_Fst gr po (fa_N al) (m / 16) (m % 16 + 1) e) : ∀ j, j < m + 1 → ca_Ok gr po al (upd ec m (nI e)) j := by
  intro j hj
  by_cases z : j = m
  · subst z
    exact ⟨e, he, pk_us⟩
  · obtain ⟨e', h1, h2⟩ := h j (by omega)
    exact ⟨e', h1, by rw [pk_un z]; exact h2⟩
theorem ca_10 {post : St2 → Prop} {J : Int32 → (Nat → Int32) → (Nat → Int32) → (Nat → Int32) → (Nat → Int32) → (Nat → Int32) → (Nat → Int32) → (Nat → Int32) → (Nat → Int32) → (Nat → Int32) → (Nat → Int32) → (Nat → Int32) → (Nat → Int32) → (Nat → Int32) → (Nat → Int32) → (Nat → Int32) → (Nat → Int32) → (Nat → Int32) → (Nat → Int32) → (Nat → Int32) → (Nat → Int32) → (Nat → Int32) → (Nat → Int32) → Prop} {k : Nat}
    (hA : ∀ k, k < 32 → ∃ l, 1 ≤ l ∧ l ≤ 16 ∧ al k = nI l) (hk : k < 32) (hJ : ∀ ec : Nat → Int32, (∀ j, j < (k + 1) * 16 → ca_Ok gr po al ec j) → J (nI (k + 1)) al ap ac en eu ea eb sU sL sK sE sG sO gr po ec cx ou tc ss av cs) :
    ∀ d i, i + d = 16 → ∀ ec : Nat → Int32, (∀ j, j < k * 16 + i → ca_Ok gr po al ec j) → wX_assignCells_10 post J (nI k) sc oc ne ns ca on st ra xu xn xe xd (d + 1) (nI (i + 1)) al ap ac en eu ea eb sU sL sK sE sG sO gr po ec cx ou tc ss av cs := by
  intro d
  induction d with
  | zero =>
    intro i hi ec hec
    have e : i = 16 := by omega
    subst e
    exact br_t (by decide) (nm_r (nI_1 k) (hJ ec (fun j hj => hec j (by omega))))
  | succ d ih =>
    intro i hi ec hec
    refine br_f (nI_nlt (a := 16) (by omega) (by decide)) ?_
    refine ca_fst hA hk (by omega) (by omega) (fun e he hf => ?_)
    rw [ha_el (by omega), show k * 16 + (i + 1) - 1 = k * 16 + i by omega, nI_clamp (n := k * 16 + i) (by omega)]
    refine ⟨vp_in_nI (by omega) (by decide), nm_e (nm_r (nI_1 (i + 1)) (ih (i + 1) (by omega) _ ?_))⟩
    have q1 : (k * 16 + i) % 16 = i := by omega
    have q2 : (k * 16 + i) / 16 = k := by omega
    exact ca_up (m := k * 16 + i) hec (by rw [q1, q2]; exact hf)
theorem ca_2 {post : St2 → Prop} (hA : ∀ k, k < 32 → ∃ l, 1 ≤ l ∧ l ≤ 16 ∧ al k = nI l) (h : ∀ ec : Nat → Int32, (∀ j, j < 512 → ca_Ok gr po al ec j) → post (sc, oc, ne, ns, ca, on, st, ra, xu, xn, xe, xd, al, ap, ac, en, eu, ea, eb, sU, sL, sK, sE, sG, sO, gr, po, ec, cx, ou, tc, ss, av, cs)) : ∀ d k, k + d = 32 → ∀ ec : Nat → Int32, (∀ j, j < k * 16 → ca_Ok gr po al ec j) → wX_assignCells_2 post sc oc ne ns ca on st ra xu xn xe xd (d + 1) (nI k) al ap ac en eu ea eb sU sL sK sE sG sO gr po ec cx ou tc ss av cs := by
  intro d
  induction d with
  | zero =>
    intro k hk ec hec
    have e : k = 32 := by omega
    subst e
    exact br_t (by decide) (h ec hec)
  | succ d ih =>
    intro k hk ec hec
    exact br_f (nI_ge (b := 32) (by omega) (by decide)) ⟨16 + 1, ca_10 hA (by omega) (fun ec' he' => ih (k + 1) (by omega) ec' he') 16 0 rfl ec hec⟩
theorem ca_cells {post : St2 → Prop} (hA : ∀ k, k < 32 → ∃ l, 1 ≤ l ∧ l ≤ 16 ∧ al k = nI l) (h : ∀ ec : Nat → Int32, (∀ k i, k < 32 → 1 ≤ i → i ≤ fa_N al k → ∃ e, gb_Fst gr po (fa_N al) k i e ∧ ec (k * 16 + i - 1) = nI e) → post (sc, oc, ne, ns, ca, on, st, ra, xu, xn, xe, xd, al, ap, ac, en, eu, ea, eb, sU, sL, sK, sE, sG, sO, gr, po, ec, cx, ou, tc, ss, av, cs)) : wpX_assignCells post (sc, oc, ne, ns, ca, on, st, ra, xu, xn, xe, xd, al, ap, ac, en, eu, ea, eb, sU, sL, sK, sE, sG, sO, gr, po, ec, cx, ou, tc, ss, av, cs) := by
  refine ⟨32 + 1, ca_2 hA (fun ec hec => h ec (fun k i hk i1 i2 => ?_)) 32 0 rfl ec (fun j hj => absurd hj (Nat.not_lt_zero j))⟩
  obtain ⟨l, l1, l2, el⟩ := hA k hk
  have eL : fa_N al k = l := fa_Re el (by omega)
  obtain ⟨e, h1, h2⟩ := hec (k * 16 + i - 1) (by omega)
  have q1 : (k * 16 + i - 1) % 16 + 1 = i := by omega
  have q2 : (k * 16 + i - 1) / 16 = k := by omega
  rw [q1, q2] at h1
  exact ⟨e, h1 i2, h2⟩
theorem ca_ext {post : Int32 → Prop} {b : Nat} (hb : b < 4) (h : post (fs_ext gr po al b 32)) : wpX_extentOf post (sc, oc, ne, ns, ca, on, st, ra, xu, xn, xe, xd, al, ap, ac, en, eu, ea, eb, sU, sL, sK, sE, sG, sO, gr, po, ec, cx, ou, tc, ss, av, cs) (nI b) := by
  have key : ∀ d k, k + d = 32 → wX_extentOf_4 post (nI b) sc oc ne ns ca on st ra xu xn xe xd al ap ac en eu ea eb sU sL sK sE sG sO gr po ec cx ou tc ss av cs (d + 1) (fs_ext gr po al b k) (nI k) := by
    intro d
    induction d with
    | zero =>
      intro k hk
      have e : k = 32 := by omega
      subst e
      exact br_t (by decide) h
    | succ d ih =>
      intro k hk
      have vk : vp_in (nI k) 36 := vp_in_nI (by omega) (by decide)
      have vb : vp_in (nI (32 + b)) 36 := vp_in_nI (by omega) (by decide)
      have ex1 : fs_ext gr po al b (k + 1) = if gr k = gr (32 + b) ∧ fs_ext gr po al b k < po k + al k - po (32 + b) then po k + al k - po (32 + b) else fs_ext gr po al b k := rfl
      have go := ih (k + 1) (by omega)
      refine br_f (nI_ge (b := 32) (by omega) (by decide)) ?_
      rw [ha_32, nI_clamp (n := k) (by omega), nI_clamp (n := 32 + b) (by omega)]
      refine ⟨vk, vp_in_nI (by omega) (by decide), vb, nm_e ⟨vk, vb, br_c (fun z => br_c (fun w => nm_r (nI_1 k) ?_) (fun w => nm_r (nI_1 k) ?_)) (fun z => nm_r (nI_1 k) ?_)⟩⟩
      · rw [if_neg (fun q => absurd q.2 (Int32.not_lt.mpr w))] at ex1
        rw [ex1] at go
        exact go
      · rw [if_pos ⟨z, Int32.not_le.mp w⟩] at ex1
        rw [ex1] at go
        exact go
      · rw [if_neg (fun q => z q.1)] at ex1
        rw [ex1] at go
        exact go
  exact ⟨32 + 1, key 32 0 rfl⟩
end HXA
