section PCO
/-! the law's loops over pairs of COMMON entries -/
variable {sc oc ne ns ca on st ra xu xn xe xd : Int32} {al ap ac en eu ea eb sU sL sK sE sG sO gr po ec cx ou tc ss av cs cb cn : Nat → Int32}
variable {post : Int32 → Prop} {xs : Nat → Int32} {N kc ks n u v x y b : Nat} {x6 : Int32} {J526 J535 J646 J655 : Int32 → Prop}
/-- two entries of one block -/
def pc_P (al ac cb cn : Nat → Int32) (u x v y b : Nat) : Prop := u < 4 ∧ x < fa_N ac u ∧ v < 4 ∧ y < fa_N ac v ∧ fa_N cb (u * 8 + x) = b ∧ fa_N cb (v * 8 + y) = b
theorem pw_772 (K : pc_K al ap ac en cb cn eu ea eb gr po ec n) (hP : pc_P al ac cb cn u x v y b) (h : J655 (nI (y + 1))) : ∀ d q, q + d = 48 →
    wL_law_772 post N xs J526 J535 J646 J655 x6 (nI u) (nI x) (nI b) (nI (fa_N cn (u * 8 + x))) (nI (fa_N al (u * 8 + fa_N cn (u * 8 + x)))) (nI (gd_off (fa_N al) (fa_N cb) (fa_N cn) u b x)) (nI v) (nI y) (nI (fa_N cn (v * 8 + y))) (nI (fa_N al (v * 8 + fa_N cn (v * 8 + y)))) (nI (gd_off (fa_N al) (fa_N cb) (fa_N cn) v b y)) kc ks sc oc (nI n) ns 1 on st ra xu xn xe xd al ap ac en eu ea eb sU sL sK sE sG sO gr po ec cx ou tc ss av cs (d + 1) (nI q) := by
  obtain ⟨hu, hx, hv, hy, eb1, eb2⟩ := hP
  have D := K.1
  have W := fs_wd D
  have H := K.2.2.2.1
  have c1 := (cn_C D hu).2
  have c2 := (cn_C D hv).2
  obtain ⟨_, ⟨_, n1⟩, _⟩ := cn_I D (i := u * 8 + x) (by omega)
  obtain ⟨_, ⟨_, n2⟩, _⟩ := cn_I D (i := v * 8 + y) (by omega)
  obtain ⟨_, p1, q1⟩ := cn_A D (k := u * 8 + fa_N cn (u * 8 + x)) (by omega)
  obtain ⟨_, p2, q2⟩ := cn_A D (k := v * 8 + fa_N cn (v * 8 + y)) (by omega)
  have o1 := po_128 (b := b) W hu (i := x) (by omega)
  have o2 := po_128 (b := b) W hv (i := y) (by omega)
  have key : ∀ (P : Int32 → Prop) (i j : Nat), 1 ≤ i → i ≤ fa_N al (u * 8 + fa_N cn (u * 8 + x)) → 1 ≤ j → j ≤ fa_N al (v * 8 + fa_N cn (v * 8 + y)) → gd_off (fa_N al) (fa_N cb) (fa_N cn) u b x + i = gd_off (fa_N al) (fa_N cb) (fa_N cn) v b y + j → P 1 →
      wpX_aliased P (sc, oc, nI n, ns, 1, on, st, ra, xu, xn, xe, xd, al, ap, ac, en, eu, ea, eb, sU, sL, sK, sE, sG, sO, gr, po, ec, cx, ou, tc, ss, av, cs) (nI u) (nI (10000 + 100 * fa_N cn (u * 8 + x) + i)) (nI v) (nI (10000 + 100 * fa_N cn (v * 8 + y) + j)) := by
    intro P i j i1 il j1 jl e hP
    obtain ⟨g1, g2⟩ := pp_ent H hu hx
    obtain ⟨g3, g4⟩ := pp_ent H hv hy
    rw [eb1] at g1 g2
    rw [eb2] at g3 g4
    refine pq_al K hu hv n1 n2 i1 il j1 jl (g1.trans g3.symm) ?_ hP
    rw [g2, g4, Int32.add_assoc, Int32.add_assoc, nI_add, nI_add, e]
  clear W H
  generalize fa_N cn (u * 8 + x) = m1 at *
  generalize fa_N cn (v * 8 + y) = m2 at *
  generalize fa_N al (u * 8 + m1) = l1 at *
  generalize fa_N al (v * 8 + m2) = l2 at *
  generalize gd_off (fa_N al) (fa_N cb) (fa_N cn) u b x = f1 at *
  generalize gd_off (fa_N al) (fa_N cb) (fa_N cn) v b y = f2 at *
  intro d
  induction d with
  | zero =>
    intro q hq
    have e : q = 48 := by omega
    subst e
    exact br_t (by decide) (nm_r (nI_1 y) h)
  | succ d ih =>
    intro q hq
    have go := ih (q + 1) (by omega)
    refine br_f (nI_ge (b := 48) (by omega) (by decide)) ?_
    by_cases a : q < f1
    · exact nm_e (nm_e (br_t (pn_neg a (by omega)) (nm_r (nI_1 q) go)))
    · refine nm_r (pn_sub (by omega)) ?_
      by_cases c : q < f2
      · exact nm_e (br_f (nI_nlt (b := 1) (by omega) (by omega)) (pk_lt l1 (q - f1 + 1) (fun _ => nm_r (nI_1 q) go) (fun _ => br_t (pn_neg c (by omega)) (nm_r (nI_1 q) go))))
      · refine nm_r (pn_sub (by omega)) (br_f (nI_nlt (b := 1) (by omega) (by omega)) (pk_lt l1 (q - f1 + 1) (fun _ => nm_r (nI_1 q) go) (fun z1 => br_f (nI_nlt (b := 1) (by omega) (by omega)) (pk_lt l2 (q - f2 + 1) (fun _ => nm_r (nI_1 q) go) (fun z2 => pq_code (pq_code ?_))))))
        exact key _ _ _ (by omega) z1 (by omega) z2 (by omega) (br_f (by decide) (nm_r (nI_1 q) go))
theorem pw_718 {x8 x11 x12 x13 x17 x18 : Int32} (K : pc_K al ap ac en cb cn eu ea eb gr po ec n) (hv : v < 4) (hy : y ≤ fa_N ac v) (hb : b < 4) (h : ∃ f, wL_law_772 post N xs J526 J535 J646 J655 x6 (nI u) x8 (nI b) x11 x12 x13 (nI v) (nI y) x17 x18 (nI (gd_off (fa_N al) (fa_N cb) (fa_N cn) v b y)) kc ks sc oc (nI n) ns 1 on st ra xu xn xe xd al ap ac en eu ea eb sU sL sK sE sG sO gr po ec cx ou tc ss av cs f 0) : ∀ d i, i + d = y →
    wL_law_718 post N xs J526 J535 J646 J655 x6 (nI u) x8 (nI b) x11 x12 x13 (nI v) (nI y) x17 x18 kc ks sc oc (nI n) ns 1 on st ra xu xn xe xd al ap ac en eu ea eb sU sL sK sE sG sO gr po ec cx ou tc ss av cs (d + 1) (nI (gd_off (fa_N al) (fa_N cb) (fa_N cn) v b i)) (nI i) := by
  have D := K.1
  have c8 := (cn_C D hv).2
  intro d
  induction d with
  | zero =>
    intro i hi
    have e : i = y := by omega
    subst e
    exact br_t (nI_le (Nat.le_refl i) (by omega)) h
  | succ d ih =>
    intro i hi
    have go := ih (i + 1) (by omega)
    obtain ⟨⟨_, b4⟩, ⟨_, n8⟩, _⟩ := cn_I D (i := v * 8 + i) (by omega)
    refine br_f (nI_ge (by omega) (by omega)) (pq_com D hv (by omega) ⟨by decide, ?_⟩)
    rw [ha_r8 (by omega), ha_d8 (by omega), show (fa_N cb (v * 8 + i) * 8 + fa_N cn (v * 8 + i)) / 8 = fa_N cb (v * 8 + i) by omega, show (fa_N cb (v * 8 + i) * 8 + fa_N cn (v * 8 + i)) % 8 = fa_N cn (v * 8 + i) by omega]
    refine pk_eq (fa_N cb (v * 8 + i)) b (fun z => ⟨by decide, ?_⟩) (fun z => nm_r (nI_1 i) ?_)
    · have ot := po_t (L := fa_N al) (CN := fa_N cn) z
      exact pq_len D hv n8 (nm_r (show _ = nI (gd_off (fa_N al) (fa_N cb) (fa_N cn) v b (i + 1)) by rw [nI_add, ot]) (nm_r (nI_1 i) go))
    · rw [po_f z] at go
      exact go
theorem pw_592 {x11 x12 : Int32} (K : pc_K al ap ac en cb cn eu ea eb gr po ec n) (hu : u < 4) (hx : x ≤ fa_N ac u) (hb : b < 4) (h : ∃ f, wL_law_646 post N xs J526 J535 x6 (nI u) (nI x) (nI b) x11 x12 (nI (gd_off (fa_N al) (fa_N cb) (fa_N cn) u b x)) kc ks sc oc (nI n) ns 1 on st ra xu xn xe xd al ap ac en eu ea eb sU sL sK sE sG sO gr po ec cx ou tc ss av cs f 0) : ∀ d i, i + d = x →
    wL_law_592 post N xs J526 J535 x6 (nI u) (nI x) (nI b) x11 x12 kc ks sc oc (nI n) ns 1 on st ra xu xn xe xd al ap ac en eu ea eb sU sL sK sE sG sO gr po ec cx ou tc ss av cs (d + 1) (nI (gd_off (fa_N al) (fa_N cb) (fa_N cn) u b i)) (nI i) := by
  have D := K.1
  have c8 := (cn_C D hu).2
  intro d
  induction d with
  | zero =>
    intro i hi
    have e : i = x := by omega
    subst e
    exact br_t (nI_le (Nat.le_refl i) (by omega)) h
  | succ d ih =>
    intro i hi
    have go := ih (i + 1) (by omega)
    obtain ⟨⟨_, b4⟩, ⟨_, n8⟩, _⟩ := cn_I D (i := u * 8 + i) (by omega)
    refine br_f (nI_ge (by omega) (by omega)) (pq_com D hu (by omega) ⟨by decide, ?_⟩)
    rw [ha_r8 (by omega), ha_d8 (by omega), show (fa_N cb (u * 8 + i) * 8 + fa_N cn (u * 8 + i)) / 8 = fa_N cb (u * 8 + i) by omega, show (fa_N cb (u * 8 + i) * 8 + fa_N cn (u * 8 + i)) % 8 = fa_N cn (u * 8 + i) by omega]
    refine pk_eq (fa_N cb (u * 8 + i)) b (fun z => ⟨by decide, ?_⟩) (fun z => nm_r (nI_1 i) ?_)
    · have ot := po_t (L := fa_N al) (CN := fa_N cn) z
      exact pq_len D hu n8 (nm_r (show _ = nI (gd_off (fa_N al) (fa_N cb) (fa_N cn) u b (i + 1)) by rw [nI_add, ot]) (nm_r (nI_1 i) go))
    · rw [po_f z] at go
      exact go
theorem pw_655 (K : pc_K al ap ac en cb cn eu ea eb gr po ec n) (hu : u < 4) (hx : x < fa_N ac u) (hb : fa_N cb (u * 8 + x) = b) (hv : v < 4) (h : J646 (nI (v + 1))) : ∀ d y, y + d = fa_N ac v →
    wL_law_655 post N xs J526 J535 J646 x6 (nI u) (nI x) (nI b) (nI (fa_N cn (u * 8 + x))) (nI (fa_N al (u * 8 + fa_N cn (u * 8 + x)))) (nI (gd_off (fa_N al) (fa_N cb) (fa_N cn) u b x)) (nI v) kc ks sc oc (nI n) ns 1 on st ra xu xn xe xd al ap ac en eu ea eb sU sL sK sE sG sO gr po ec cx ou tc ss av cs (d + 1) (nI y) := by
  have D := K.1
  have c8 := (cn_C D hv).2
  have d8 := (cn_C D hu).2
  have b4 : b < 4 := by
    rw [← hb]
    exact (cn_I D (i := u * 8 + x) (by omega)).1.2
  intro d
  induction d with
  | zero =>
    intro y hy
    have e : y = fa_N ac v := by omega
    exact pk_le 8 y (fun _ => nm_r (nI_1 v) h) (fun _ => pq_com0 D hv e (br_f (by decide) (nm_r (nI_1 v) h)))
  | succ d ih =>
    intro y hy
    have go := ih (y + 1) (by omega)
    obtain ⟨⟨_, c4⟩, ⟨_, n8⟩, _⟩ := cn_I D (i := v * 8 + y) (by omega)
    refine br_f (nI_ge (b := 8) (by omega) (by decide)) (pq_com D hv (by omega) (br_t (nI_pos' (by omega)) ⟨by decide, ?_⟩))
    rw [ha_r8 (by omega), ha_d8 (by omega), show (fa_N cb (v * 8 + y) * 8 + fa_N cn (v * 8 + y)) / 8 = fa_N cb (v * 8 + y) by omega, show (fa_N cb (v * 8 + y) * 8 + fa_N cn (v * 8 + y)) % 8 = fa_N cn (v * 8 + y) by omega]
    refine pk_eq (fa_N cb (v * 8 + y)) b (fun z => ⟨by decide, ?_⟩) (fun z => nm_r (nI_1 y) go)
    refine nm_e (pq_len D hv n8 ⟨y + 1, ?_⟩)
    exact pw_718 K hv (by omega) b4 ⟨48 + 1, pw_772 K ⟨hu, hx, hv, by omega, hb, z⟩ go 48 0 rfl⟩ y 0 (by omega)
theorem pw_646 (K : pc_K al ap ac en cb cn eu ea eb gr po ec n) (hu : u < 4) (hx : x < fa_N ac u) (hb : fa_N cb (u * 8 + x) = b) (h : J535 (nI (x + 1))) : ∀ d v, v + d = 4 →
    wL_law_646 post N xs J526 J535 x6 (nI u) (nI x) (nI b) (nI (fa_N cn (u * 8 + x))) (nI (fa_N al (u * 8 + fa_N cn (u * 8 + x)))) (nI (gd_off (fa_N al) (fa_N cb) (fa_N cn) u b x)) kc ks sc oc (nI n) ns 1 on st ra xu xn xe xd al ap ac en eu ea eb sU sL sK sE sG sO gr po ec cx ou tc ss av cs (d + 1) (nI v) := by
  intro d
  induction d with
  | zero =>
    intro v hv
    have e : v = 4 := by omega
    subst e
    exact br_t (by decide) (nm_r (nI_1 x) h)
  | succ d ih =>
    intro v hv
    exact br_f (nI_ge (b := 4) (by omega) (by decide)) ⟨fa_N ac v + 1, pw_655 K hu hx hb (by omega) (ih (v + 1) (by omega)) (fa_N ac v) 0 (by omega)⟩
theorem pw_535 (K : pc_K al ap ac en cb cn eu ea eb gr po ec n) (hu : u < 4) (h : J526 (nI (u + 1))) : ∀ d x, x + d = fa_N ac u → wL_law_535 post N xs J526 x6 (nI u) kc ks sc oc (nI n) ns 1 on st ra xu xn xe xd al ap ac en eu ea eb sU sL sK sE sG sO gr po ec cx ou tc ss av cs (d + 1) (nI x) := by
  have D := K.1
  have c8 := (cn_C D hu).2
  intro d
  induction d with
  | zero =>
    intro x hx
    have e : x = fa_N ac u := by omega
    exact pk_le 8 x (fun _ => nm_r (nI_1 u) h) (fun _ => pq_com0 D hu e (br_f (by decide) (nm_r (nI_1 u) h)))
  | succ d ih =>
    intro x hx
    have go := ih (x + 1) (by omega)
    obtain ⟨⟨_, b4⟩, ⟨_, n8⟩, _⟩ := cn_I D (i := u * 8 + x) (by omega)
    refine br_f (nI_ge (b := 8) (by omega) (by decide)) (pq_com D hu (by omega) (br_t (nI_pos' (by omega)) ⟨by decide, ?_⟩))
    rw [ha_r8 (by omega), ha_d8 (by omega), show (fa_N cb (u * 8 + x) * 8 + fa_N cn (u * 8 + x)) / 8 = fa_N cb (u * 8 + x) by omega, show (fa_N cb (u * 8 + x) * 8 + fa_N cn (u * 8 + x)) % 8 = fa_N cn (u * 8 + x) by omega]
    refine nm_e ⟨by decide, nm_e (pq_len D hu n8 ⟨x + 1, ?_⟩)⟩
    exact pw_592 K hu (by omega) b4 ⟨4 + 1, pw_646 K hu (by omega) rfl go 4 0 rfl⟩ x 0 (by omega)
theorem pw_526 (K : pc_K al ap ac en cb cn eu ea eb gr po ec n) (h : ∃ f, wL_law_883 post N xs x6 kc ks sc oc (nI n) ns 1 on st ra xu xn xe xd al ap ac en eu ea eb sU sL sK sE sG sO gr po ec cx ou tc ss av cs f 0) : ∀ d u, u + d = 4 → wL_law_526 post N xs x6 kc ks sc oc (nI n) ns 1 on st ra xu xn xe xd al ap ac en eu ea eb sU sL sK sE sG sO gr po ec cx ou tc ss av cs (d + 1) (nI u) := by
  intro d
  induction d with
  | zero =>
    intro u hu
    have e : u = 4 := by omega
    subst e
    exact br_t (by decide) h
  | succ d ih =>
    intro u hu
    exact br_f (nI_ge (b := 4) (by omega) (by decide)) ⟨fa_N ac u + 1, pw_535 K (by omega) (ih (u + 1) (by omega)) (fa_N ac u) 0 (by omega)⟩
end PCO
