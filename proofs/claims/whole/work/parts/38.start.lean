section HIN
variable {sc oc ne ns ca on st ra xu xn xe xd nc yp yu ye yl yr : Int32} {al ap ac en eu ea eb sU sL sK sE sG sO gr po ec cx ou tc ss av cs cb cn kx ky kd pl rl cm hv ba ad ex cy bi : Nat → Int32}
def iz (i : Nat) : Nat → Int32 := fun j => if j < i then 1 else 0
theorem iz_u (i : Nat) : upd (iz i) i 1 = iz (i + 1) := by
  funext j
  by_cases e : j = i
  · subst e
    rw [pk_us]
    exact (if_pos (Nat.lt_succ_self j)).symm
  · rw [pk_un e]
    unfold iz
    by_cases l : j < i
    · rw [if_pos l, if_pos (by omega)]
    · rw [if_neg l, if_neg (by omega)]
theorem iz_0 : iz 0 = fun _ => 0 := by
  funext j
  exact if_neg (Nat.not_lt_zero j)
theorem in_x {post : SX → Prop} (h : post (sc, oc, ne, ns, ca, on, st, ra, xu, xn, xe, xd, iz 32, ap, ac, en, eu, ea, eb, sU, sL, sK, sE, sG, sO, gr, po, ec, cx, ou, tc, ss, av, cs)) : ∀ d i, i + d = 32 → wX_init_254 post sc oc ne ns ca on st ra xu xn xe xd (d + 1) (nI i) (iz i) ap ac en eu ea eb sU sL sK sE sG sO gr po ec cx ou tc ss av cs := by
  intro d
  induction d with
  | zero =>
    intro i hi
    have e : i = 32 := by omega
    subst e
    exact br_t (by decide) h
  | succ d ih =>
    intro i hi
    refine br_f (nI_ge (b := 32) (by omega) (by decide)) ⟨vp_in_nI (by omega) (by decide), ?_⟩
    rw [nI_clamp (by omega)]
    exact nm_r (iz_u i) (nm_r (nI_1 i) (ih (i + 1) (by omega)))
theorem in_y {post : SY → Prop} (h : post (sc, oc, ne, ns, ca, nc, on, yp, yu, ye, st, yl, yr, iz 32, ap, cb, cn, ac, eu, ea, eb, sU, sL, sK, sE, sG, sO, kx, ky, kd, pl, rl, cm, hv, ba, ad, ex, cy, tc, ss, av, cs, bi, ou)) : ∀ d i, i + d = 32 → wY_init_303 post sc oc ne ns ca nc on yp yu ye st yl yr (d + 1) (nI i) (iz i) ap cb cn ac eu ea eb sU sL sK sE sG sO kx ky kd pl rl cm hv ba ad ex cy tc ss av cs bi ou := by
  intro d
  induction d with
  | zero =>
    intro i hi
    have e : i = 32 := by omega
    subst e
    exact br_t (by decide) h
  | succ d ih =>
    intro i hi
    refine br_f (nI_ge (b := 32) (by omega) (by decide)) ⟨vp_in_nI (by omega) (by decide), ?_⟩
    rw [nI_clamp (by omega)]
    exact nm_r (iz_u i) (nm_r (nI_1 i) (ih (i + 1) (by omega)))
theorem in_cl (x : Int32) (lo hi : Nat) (h1 : lo ≤ hi) (h2 : hi < 1000) : ∃ m, lo ≤ m ∧ m ≤ hi ∧ (∀ post : Int32 → Prop, post (nI m) → wpX_clamp post x (nI lo) (nI hi)) ∧ (∀ P : Int32 → Prop, P (nI m) → ((nI lo ≤ x → ((x ≤ nI hi → P x) ∧ (¬ x ≤ nI hi → P (nI hi)))) ∧ (¬ nI lo ≤ x → P (nI lo)))) := by
  by_cases a : nI lo ≤ x
  · by_cases b : x ≤ nI hi
    · have x0 : ¬ x < 0 := fun z => absurd (Int32.lt_of_le_of_lt a z) (nI_pos (by omega))
      obtain ⟨j, hj, rfl⟩ := nI_of x0
      exact ⟨j, (nI_leI (by omega) hj).mp a, (nI_leI hj (by omega)).mp b, fun post h => br_t a (br_t b h), fun P h => br_t a (br_t b h)⟩
    · exact ⟨hi, h1, Nat.le_refl hi, fun post h => br_t a (br_f b h), fun P h => br_t a (br_f b h)⟩
  · exact ⟨lo, Nat.le_refl lo, h1, fun post h => br_f a h, fun P h => br_f a h⟩
end HIN
theorem i_vc0 (k0 : Int32) (k1 : Int32) : wpX_init (fun u => wpY_init (fun v => i_Rel 2 u v) k0 k1) k0 k1 := by
  obtain ⟨m, m1, m2, mX, mY⟩ := in_cl k0 8 64 (by decide) (by decide)
  obtain ⟨o, o1, o2, oX, oY⟩ := in_cl k1 4 32 (by decide) (by decide)
  have rel : i_Rel 2 (nI m, nI o, 0, 0, 0, 0, 0, 0, 0, 0, -1, 0, iz 32, fun _ => 0, fun _ => 0, fun _ => 0, fun _ => 0, fun _ => 0, fun _ => 0, fun _ => 0, fun _ => 0, fun _ => 0, fun _ => 0, fun _ => 0, fun _ => 0, fun _ => 0, fun _ => 0, fun _ => 0, fun _ => 0, fun _ => 0, fun _ => 0, fun _ => 0, fun _ => 0, fun _ => 0)
      (nI m, nI o, 0, 0, 0, 0, 0, 0, 0, 0, 0, 0, 0, iz 32, fun _ => 0, fun _ => 0, fun _ => 0, fun _ => 0, fun _ => 0, fun _ => 0, fun _ => 0, fun _ => 0, fun _ => 0, fun _ => 0, fun _ => 0, fun _ => 0, fun _ => 0, fun _ => 0, fun _ => 0, fun _ => 0, fun _ => 0, fun _ => 0, fun _ => 0, fun _ => 0, fun _ => 0, fun _ => 0, fun _ => 0, fun _ => 0, fun _ => 0, fun _ => 0, fun _ => 0, fun _ => 0, fun _ => 0, fun _ => 0) := by
    refine i_mk ⟨m, m1, m2, rfl⟩ ⟨o, 0, o1, o2, rfl, Nat.zero_le _, rfl⟩ ⟨0, rfl, ?_, rfl, fun u _ => ⟨0, by decide, rfl⟩, fun u _ => ⟨0, by decide, rfl⟩, fun i _ => ⟨⟨0, by decide, rfl⟩, ⟨0, by decide, rfl⟩, (by show (0 : Int32) = 0 * 8 + 0; decide)⟩, Nat.zero_le _, fun e he => absurd he (Nat.not_lt_zero e)⟩ ⟨0, Nat.zero_le _, rfl, fun s hs => absurd hs (Nat.not_lt_zero s), fun z => absurd z (by decide)⟩ ⟨0, by decide, rfl⟩ rfl (Or.inl ⟨rfl, rfl⟩) (fun z => absurd z (by decide))
    intro k hk
    exact ⟨1, Nat.le_refl 1, by decide, if_pos hk⟩
  have hY : ∀ z : Int32, z = nI m → wY_init_273 (fun v => i_Rel 2 (nI m, nI o, 0, 0, 0, 0, 0, 0, 0, 0, -1, 0, iz 32, fun _ => 0, fun _ => 0, fun _ => 0, fun _ => 0, fun _ => 0, fun _ => 0, fun _ => 0, fun _ => 0, fun _ => 0, fun _ => 0, fun _ => 0, fun _ => 0, fun _ => 0, fun _ => 0, fun _ => 0, fun _ => 0, fun _ => 0, fun _ => 0, fun _ => 0, fun _ => 0, fun _ => 0) v) k1 z 0 0 0 0 0 0 0 0 0 0 0 0 0 (fun _ => 0) (fun _ => 0) (fun _ => 0) (fun _ => 0) (fun _ => 0) (fun _ => 0) (fun _ => 0) (fun _ => 0) (fun _ => 0) (fun _ => 0) (fun _ => 0) (fun _ => 0) (fun _ => 0) (fun _ => 0) (fun _ => 0) (fun _ => 0) (fun _ => 0) (fun _ => 0) (fun _ => 0) (fun _ => 0) (fun _ => 0) (fun _ => 0) (fun _ => 0) (fun _ => 0) (fun _ => 0) (fun _ => 0) (fun _ => 0) (fun _ => 0) (fun _ => 0) (fun _ => 0) (fun _ => 0) := by
    intro z ez
    subst ez
    have a := in_y rel 32 0 rfl
    rw [iz_0] at a
    exact oY (fun w => ∃ f, wY_init_303 (fun v => i_Rel 2 (nI m, nI o, 0, 0, 0, 0, 0, 0, 0, 0, -1, 0, iz 32, fun _ => 0, fun _ => 0, fun _ => 0, fun _ => 0, fun _ => 0, fun _ => 0, fun _ => 0, fun _ => 0, fun _ => 0, fun _ => 0, fun _ => 0, fun _ => 0, fun _ => 0, fun _ => 0, fun _ => 0, fun _ => 0, fun _ => 0, fun _ => 0, fun _ => 0, fun _ => 0, fun _ => 0) v) (nI m) w 0 0 0 0 0 0 0 0 0 0 0 f 0 (fun _ => 0) (fun _ => 0) (fun _ => 0) (fun _ => 0) (fun _ => 0) (fun _ => 0) (fun _ => 0) (fun _ => 0) (fun _ => 0) (fun _ => 0) (fun _ => 0) (fun _ => 0) (fun _ => 0) (fun _ => 0) (fun _ => 0) (fun _ => 0) (fun _ => 0) (fun _ => 0) (fun _ => 0) (fun _ => 0) (fun _ => 0) (fun _ => 0) (fun _ => 0) (fun _ => 0) (fun _ => 0) (fun _ => 0) (fun _ => 0) (fun _ => 0) (fun _ => 0) (fun _ => 0) (fun _ => 0)) ⟨32 + 1, a⟩
  unfold wpX_init
  refine mX _ (oX _ ?_)
  have b := in_x (post := fun u => wpY_init (fun v => i_Rel 2 u v) k0 k1) (sc := nI m) (oc := nI o) (ne := 0) (ns := 0) (ca := 0) (on := 0) (st := 0) (ra := 0) (xu := 0) (xn := 0) (xe := -1) (xd := 0) (ap := fun _ => 0) (ac := fun _ => 0) (en := fun _ => 0) (eu := fun _ => 0) (ea := fun _ => 0) (eb := fun _ => 0) (sU := fun _ => 0) (sL := fun _ => 0) (sK := fun _ => 0) (sE := fun _ => 0) (sG := fun _ => 0) (sO := fun _ => 0) (gr := fun _ => 0) (po := fun _ => 0) (ec := fun _ => 0) (cx := fun _ => 0) (ou := fun _ => 0) (tc := fun _ => 0) (ss := fun _ => 0) (av := fun _ => 0) (cs := fun _ => 0) (mY (fun z => wY_init_273 (fun v => i_Rel 2 (nI m, nI o, 0, 0, 0, 0, 0, 0, 0, 0, -1, 0, iz 32, fun _ => 0, fun _ => 0, fun _ => 0, fun _ => 0, fun _ => 0, fun _ => 0, fun _ => 0, fun _ => 0, fun _ => 0, fun _ => 0, fun _ => 0, fun _ => 0, fun _ => 0, fun _ => 0, fun _ => 0, fun _ => 0, fun _ => 0, fun _ => 0, fun _ => 0, fun _ => 0, fun _ => 0) v) k1 z 0 0 0 0 0 0 0 0 0 0 0 0 0 (fun _ => 0) (fun _ => 0) (fun _ => 0) (fun _ => 0) (fun _ => 0) (fun _ => 0) (fun _ => 0) (fun _ => 0) (fun _ => 0) (fun _ => 0) (fun _ => 0) (fun _ => 0) (fun _ => 0) (fun _ => 0) (fun _ => 0) (fun _ => 0) (fun _ => 0) (fun _ => 0) (fun _ => 0) (fun _ => 0) (fun _ => 0) (fun _ => 0) (fun _ => 0) (fun _ => 0) (fun _ => 0) (fun _ => 0) (fun _ => 0) (fun _ => 0) (fun _ => 0) (fun _ => 0) (fun _ => 0)) (hY _ rfl)) 32 0 rfl
  rw [iz_0] at b
  exact ⟨32 + 1, b⟩
