section HRD
/-! value, aliased: a stored element, on each side -/
variable {sc oc ne ns ca on st ra xu xn xe xd nc yp yu ye yl yr : Int32} {al ap ac en eu ea eb sU sL sK sE sG sO gr po ec cx ou tc ss av cs cb cn kx ky kd pl rl cm hv ba ad ex cy bi : Nat → Int32}
variable {n : Nat} {post : Int32 → Prop} {p0 p1 : Int32} {u c : Nat}
def fa_V (al ap : Nat → Int32) (x y : Int32) : Prop := ∃ u c, u < 4 ∧ x = nI u ∧ fb_FX c ∧ y = nI c ∧ ¬ fb_nm c < fa_N ap u ∧ fb_ix c ≤ fa_N al (u * 8 + fb_nm c)
theorem rd_x1 (D : fs_D al ap ac en cb cn eu ea eb n) (hu : u < 4) (hc : fb_FX c) (hs : ¬ fb_nm c < fa_N ap u) (hi : fb_ix c ≤ fa_N al (u * 8 + fb_nm c)) (h : post (ec ((u * 8 + fb_nm c) * 16 + fb_ix c - 1))) : wpX_storedCell post (sc, oc, ne, ns, ca, on, st, ra, xu, xn, xe, xd, al, ap, ac, en, eu, ea, eb, sU, sL, sK, sE, sG, sO, gr, po, ec, cx, ou, tc, ss, av, cs) (nI u) (nI c) := by
  have m8 := fb_nm8 (Or.inl hc)
  have c2 := fb_FXlt hc
  have i1 := fb_ix1 c
  obtain ⟨l1, l2, l3⟩ := cn_A D (k := u * 8 + fb_nm c) (by omega)
  unfold wpX_storedCell
  dsimp only
  refine hx_isUnit (fun _ => br_f (by decide) ?_) (fun z => absurd ⟨u, hu, rfl⟩ z)
  refine hx_isFixed (fun _ => br_f (by decide) ?_) (fun z => absurd ⟨c, hc, rfl⟩ z)
  refine hx_slotOf (by omega) ?_
  refine hx_elementOf (by omega) ?_
  refine hx_isDummy (by omega) (by rw [show (u * 8 + fb_nm c) / 8 = u by omega]; exact D.2.2.1 u hu) (fun _ => br_t rfl ⟨vp_in_nI (by omega) (by decide), ?_⟩) (fun s => absurd ((cn_St m8).mpr hs) s)
  rw [nI_clamp (n := u * 8 + fb_nm c) (by omega), l1]
  refine br_t (nI_le hi (by omega)) ?_
  rw [ha_el i1, nI_clamp (n := (u * 8 + fb_nm c) * 16 + fb_ix c - 1) (by omega)]
  exact ⟨vp_in_nI (by omega) (by decide), h⟩
theorem rd_x0 (D : fs_D al ap ac en cb cn eu ea eb n) (nv : ¬ fa_V al ap p0 p1) (h : post (-1)) : wpX_storedCell post (sc, oc, ne, ns, ca, on, st, ra, xu, xn, xe, xd, al, ap, ac, en, eu, ea, eb, sU, sL, sK, sE, sG, sO, gr, po, ec, cx, ou, tc, ss, av, cs) p0 p1 := by
  unfold wpX_storedCell
  dsimp only
  refine hx_isUnit (fun hu => br_f (by decide) ?_) (fun _ => br_t rfl h)
  refine hx_isFixed (fun hf => br_f (by decide) ?_) (fun _ => br_t rfl h)
  obtain ⟨u, hu, rfl⟩ := hu
  obtain ⟨c, hc, rfl⟩ := hf
  have m8 := fb_nm8 (Or.inl hc)
  have c2 := fb_FXlt hc
  have i16 := fb_ix16 hc
  obtain ⟨l1, l2, l3⟩ := cn_A D (k := u * 8 + fb_nm c) (by omega)
  refine hx_slotOf (by omega) ?_
  refine hx_elementOf (by omega) ?_
  refine hx_isDummy (by omega) (by rw [show (u * 8 + fb_nm c) / 8 = u by omega]; exact D.2.2.1 u hu) (fun s => br_t rfl ⟨vp_in_nI (by omega) (by decide), ?_⟩) (fun _ => br_f (by decide) h)
  rw [nI_clamp (n := u * 8 + fb_nm c) (by omega), l1]
  exact pk_le (fb_ix c) (fa_N al (u * 8 + fb_nm c)) (fun z => absurd ⟨u, c, hu, rfl, hc, rfl, (cn_St m8).mp s, z⟩ nv) (fun _ => h)
end HRD