section PEX
/-! the law's last loops: the extents -/
variable {sc oc ne ns ca on st ra xu xn xe xd : Int32} {al ap ac en eu ea eb sU sL sK sE sG sO gr po ec cx ou tc ss av cs cb cn : Nat → Int32}
variable {post : Int32 → Prop} {xs : Nat → Int32} {N kc ks n u b m : Nat}
theorem pw_907 {J883 : Int32 → Prop} {J895 : Int32 → Int32 → Prop} {x6 : Int32} (K : pc_K al ap ac en cb cn eu ea eb gr po ec n) (hu : u < 4) (hb : b < 4) (hm : m ≤ 1000) (h : J895 (nI (max m (gd_off (fa_N al) (fa_N cb) (fa_N cn) u b (fa_N ac u)))) (nI (u + 1))) :
    ∀ d i, i + d = fa_N ac u → wL_law_907 post N xs J883 J895 x6 (nI b) (nI u) kc ks sc oc (nI n) ns 1 on st ra xu xn xe xd al ap ac en eu ea eb sU sL sK sE sG sO gr po ec cx ou tc ss av cs (d + 1) (nI (max m (gd_off (fa_N al) (fa_N cb) (fa_N cn) u b i))) (nI (gd_off (fa_N al) (fa_N cb) (fa_N cn) u b i)) (nI i) := by
  have D := K.1
  have W := fs_wd D
  have c8 := (cn_C D hu).2
  intro d
  induction d with
  | zero =>
    intro i hi
    have e : i = fa_N ac u := by omega
    refine pk_le 8 i (fun _ => nm_r (nI_1 u) ?_) (fun z => pq_com0 D hu e (br_f (by decide) (nm_r (nI_1 u) ?_)))
    · rw [e]; exact h
    · rw [e]; exact h
  | succ d ih =>
    intro i hi
    have go := ih (i + 1) (by omega)
    obtain ⟨⟨_, b4⟩, ⟨_, n8⟩, _⟩ := cn_I D (i := u * 8 + i) (by omega)
    have o1 := po_128 (b := b) W hu (i := i) (by omega)
    have o2 := po_128 (b := b) W hu (i := i + 1) (by omega)
    refine br_f (nI_ge (b := 8) (by omega) (by decide)) (pq_com D hu (by omega) (br_t (nI_pos' (by omega)) ⟨by decide, ?_⟩))
    rw [ha_r8 (by omega), ha_d8 (by omega), show (fa_N cb (u * 8 + i) * 8 + fa_N cn (u * 8 + i)) / 8 = fa_N cb (u * 8 + i) by omega, show (fa_N cb (u * 8 + i) * 8 + fa_N cn (u * 8 + i)) % 8 = fa_N cn (u * 8 + i) by omega]
    refine pk_eq (fa_N cb (u * 8 + i)) b (fun z => ⟨by decide, ?_⟩) (fun z => nm_r (nI_1 i) ?_)
    · have ot := po_t (L := fa_N al) (CN := fa_N cn) z
      refine pq_len D hu n8 (nm_r (show _ = nI (gd_off (fa_N al) (fa_N cb) (fa_N cn) u b (i + 1)) by rw [nI_add, ot]) (pk_le (gd_off (fa_N al) (fa_N cb) (fa_N cn) u b (i + 1)) (max m (gd_off (fa_N al) (fa_N cb) (fa_N cn) u b i)) (fun y => nm_r (nI_1 i) ?_) (fun y => nm_r (nI_1 i) ?_)))
      · rw [show max m (gd_off (fa_N al) (fa_N cb) (fa_N cn) u b (i + 1)) = max m (gd_off (fa_N al) (fa_N cb) (fa_N cn) u b i) by omega] at go
        exact go
      · rw [show max m (gd_off (fa_N al) (fa_N cb) (fa_N cn) u b (i + 1)) = gd_off (fa_N al) (fa_N cb) (fa_N cn) u b (i + 1) by omega] at go
        exact go
    · rw [po_f z] at go
      exact go
theorem pw_895 {J883 : Int32 → Prop} (K : pc_K al ap ac en cb cn eu ea eb gr po ec n) (hb : b < 4) (h : J883 (nI (b + 1))) : ∀ d u, u + d = 4 → wL_law_895 post N xs J883 (nI n) (nI b) kc ks sc oc (nI n) ns 1 on st ra xu xn xe xd al ap ac en eu ea eb sU sL sK sE sG sO gr po ec cx ou tc ss av cs (d + 1) (nI (pm_mx (fa_N al) (fa_N ac) (fa_N cb) (fa_N cn) b u)) (nI u) := by
  obtain ⟨D, hp, h2, H, nj, hk⟩ := K
  have W := fs_wd D
  have n16 := D.2.2.2.2.2.1
  intro d
  induction d with
  | zero =>
    intro u hu
    have e : u = 4 := by omega
    subst e
    refine br_t (by decide) (pq_ext hb (pk_eq n 0 (fun z => ?_) (fun z => br_t (pp_ge H (fun k hk => (cn_A D hk).1) W 4 (Nat.le_refl 4)) (pk_lt b 2 (fun _ => nm_r (nI_1 b) h) (fun y => br_t (pp_none H W h2 y hb) (nm_r (nI_1 b) h))))))
    subst z
    exact br_t (pp_eq H (fun k hk => (cn_A D hk).1) W nj hb) (nm_r (nI_1 b) h)
  | succ d ih =>
    intro u hu
    have go := ih (u + 1) (by omega)
    have m1 := pm_128 (b := b) W u (by omega)
    have a := pw_907 (post := post) (xs := xs) (N := N) (kc := kc) (ks := ks) (J883 := J883) (J895 := wL_law_895 post N xs J883 (nI n) (nI b) kc ks sc oc (nI n) ns 1 on st ra xu xn xe xd al ap ac en eu ea eb sU sL sK sE sG sO gr po ec cx ou tc ss av cs (d + 1)) (x6 := nI n) (sc := sc) (oc := oc) (ns := ns) (on := on) (st := st) (ra := ra) (xu := xu) (xn := xn) (xe := xe) (xd := xd) (al := al) (ap := ap) (ac := ac) (en := en) (eu := eu) (ea := ea) (eb := eb) (sU := sU) (sL := sL) (sK := sK) (sE := sE) (sG := sG) (sO := sO) (gr := gr) (po := po) (ec := ec) (cx := cx) (ou := ou) (tc := tc) (ss := ss) (av := av) (cs := cs) (m := pm_mx (fa_N al) (fa_N ac) (fa_N cb) (fa_N cn) b u) ⟨D, hp, h2, H, nj, hk⟩ (u := u) (b := b) (by omega) hb (by omega) go (fa_N ac u) 0 (by omega)
    rw [show max (pm_mx (fa_N al) (fa_N ac) (fa_N cb) (fa_N cn) b u) (gd_off (fa_N al) (fa_N cb) (fa_N cn) u b 0) = pm_mx (fa_N al) (fa_N ac) (fa_N cb) (fa_N cn) b u from Nat.max_eq_left (Nat.zero_le _)] at a
    exact br_f (nI_ge (b := 4) (by omega) (by decide)) ⟨_, a⟩
theorem pw_883 (K : pc_K al ap ac en cb cn eu ea eb gr po ec n) (h : post 1) : ∀ d b, b + d = 4 → wL_law_883 post N xs (nI n) kc ks sc oc (nI n) ns 1 on st ra xu xn xe xd al ap ac en eu ea eb sU sL sK sE sG sO gr po ec cx ou tc ss av cs (d + 1) (nI b) := by
  intro d
  induction d with
  | zero =>
    intro b hb
    have e : b = 4 := by omega
    subst e
    exact br_t (by decide) h
  | succ d ih =>
    intro b hb
    exact br_f (nI_ge (b := 4) (by omega) (by decide)) ⟨4 + 1, pw_895 K (by omega) (ih (b + 1) (by omega)) 4 0 rfl⟩
end PEX
