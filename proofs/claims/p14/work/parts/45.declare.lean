section PDC
/-! the law's first loops: what is declared -/
variable {sc oc ne ns ca on st ra xu xn xe xd : Int32} {al ap ac en eu ea eb sU sL sK sE sG sO gr po ec cx ou tc ss av cs cb cn : Nat → Int32}
variable {post : Int32 → Prop} {xs : Nat → Int32} {N kc ks m u : Nat}
theorem pd_en {i b m : Nat} (hb : b < 4) (hm : m < 8) (h : ∀ j, j < 32 → fa_R 4 (cb j) ∧ fa_R 8 (cn j) ∧ en j = cb j * 8 + cn j) : ∀ j, j < 32 → fa_R 4 (upd cb i (nI b) j) ∧ fa_R 8 (upd cn i (nI m) j) ∧ upd en i (nI (b * 8 + m)) j = upd cb i (nI b) j * 8 + upd cn i (nI m) j := by
  intro j hj
  by_cases e : j = i
  · subst e
    rw [pk_us, pk_us, pk_us, ha_us]
    exact ⟨⟨b, hb, rfl⟩, ⟨m, hm, rfl⟩, rfl⟩
  · rw [pk_un e, pk_un e, pk_un e]
    exact h j hj
theorem pd_com {l b w q : Nat} (D : fs_D al ap ac en cb cn eu ea eb q) (hu : u < 4) (hb : b < 4) (hw : w < 8) (hl : l < 8) : fs_D al ap (upd ac u (nI (l + 1))) (upd en (u * 8 + l) (nI (b * 8 + w))) (upd cb (u * 8 + l) (nI b)) (upd cn (u * 8 + l) (nI w)) eu ea eb q := by
  obtain ⟨d1, d2, d3, d4, d5, d6⟩ := D
  refine ⟨d1, d2, d3, fun j hj => ?_, pd_en hb hw d5, d6⟩
  by_cases e : j = u
  · subst e
    rw [pk_us]
    exact ⟨l + 1, by omega, rfl⟩
  · rw [pk_un e]
    exact d4 j hj
theorem pd_2 {l b : Nat} (h2 : ∀ i, i < 32 → fa_N cb i < 2) (hb : b < 2) : ∀ i, i < 32 → fa_N (upd cb l (nI b)) i < 2 := by
  intro i hi
  rw [fa_Nu (by omega)]
  by_cases e : i = l
  · rw [if_pos e]; exact hb
  · rw [if_neg e]; exact h2 i hi
theorem pd_eqv {k : Nat} {p0 p1 p2 : Int32} (D : fs_D al ap ac en cb cn eu ea eb k) (hk : k < 16) (hu : fa_R 4 p0) (f1 : fa_F p1) (f2 : fa_F p2) : fs_D al ap ac en cb cn (upd eu k p0) (upd ea k p1) (upd eb k p2) (k + 1) := by
  obtain ⟨d1, d2, d3, d4, d5, d6, d7⟩ := D
  refine ⟨d1, d2, d3, d4, d5, by omega, fun e he => ?_⟩
  by_cases z : e = k
  · subst z
    rw [pk_us, pk_us, pk_us]
    exact ⟨hu, f1, f2⟩
  · rw [pk_un z, pk_un z, pk_un z]
    exact d7 e (by omega)
theorem pd_dim {k l q : Nat} (D : fs_D al ap ac en cb cn eu ea eb q) (l1 : 1 ≤ l) (l16 : l ≤ 16) : fs_D (upd al k (nI l)) ap ac en cb cn eu ea eb q := by
  refine ⟨fun j hj => ?_, D.2⟩
  by_cases e : j = k
  · subst e
    exact ⟨l, l1, l16, pk_us⟩
  · rw [pk_un e]
    exact D.1 j hj
theorem pd_F {a i : Nat} (ha : a < 4) (hi : i ≤ 16) : fa_F (nI (10000 + 100 * a + i)) := by
  refine ⟨10000 + 100 * a + i, ?_, rfl⟩
  unfold fb_FX
  omega
theorem pw_134 (hN : N ≤ 260) (ok : post 1) (hm : m ≤ 3) (hp : ∀ u, u < 4 → ap u = 0) (h2 : ∀ i, i < 32 → fa_N cb i < 2) : ∀ d k, k + d = m → ∀ p, p + d ≤ 1000 → ∀ eu ea eb : Nat → Int32, fs_D al ap ac en cb cn eu ea eb k →
    wL_law_134 post N xs (nI m) kc ks (d + 1) (nI p) (nI k) sc oc (nI k) (nI 0) 0 on st ra xu xn xe xd al ap ac en eu ea eb sU sL sK sE sG sO gr po ec cx ou tc ss av cs := by
  intro d
  induction d with
  | zero =>
    intro k hk p hpp eu ea eb D
    have e : k = m := by omega
    subst e
    refine br_t (nI_le (Nat.le_refl k) (by omega)) (pq_comp D hp h2 (fun r gr po hr => ?_) (fun gr po ec K => ?_))
    · exact br_f hr (pq_ext0 hr (br_t rfl (pq_code (n := 0) (i := 1) (pq_code (n := 0) (i := 1) (pq_al0 hr (br_t rfl ok))))))
    · exact br_t rfl ⟨k + 1, pw_307 K ⟨4 + 1, pw_526 K ⟨4 + 1, pw_883 K ok 4 0 rfl⟩ 4 0 rfl⟩ k 0 (by omega)⟩
  | succ d ih =>
    intro k hk p hpp eu ea eb D
    refine br_f (nI_ge (by omega) (by omega)) (nm_r (nI_1 p) (pq_cell hN (by omega) (fun r => ?_)))
    obtain ⟨w, hw, ew⟩ := pk_andE r (m := 3) 2 (by decide)
    obtain ⟨a, ha, ea'⟩ := pk_andE (r >>> ((2 : Int32) &&& 31)) (m := 3) 2 (by decide)
    obtain ⟨b, hb, eb'⟩ := pk_andE (r >>> ((4 : Int32) &&& 31)) (m := 3) 2 (by decide)
    obtain ⟨i, hi, ei⟩ := pk_andE (r >>> ((6 : Int32) &&& 31)) (m := 15) 4 (by decide)
    obtain ⟨j, hj, ej⟩ := pk_andE (r >>> ((10 : Int32) &&& 31)) (m := 15) 4 (by decide)
    have w4 : w < 4 := hw
    have a4 : a < 4 := ha
    have b4 : b < 4 := hb
    have i16 : i < 16 := hi
    have j16 : j < 16 := hj
    have la := (cn_A D (k := w * 8 + a) (by omega)).2.2
    have lb := (cn_A D (k := w * 8 + b) (by omega)).2.2
    refine nm_r ew (nm_r ea' (nm_r eb' (pq_len D w4 (by omega) (pq_len D w4 (by omega) ?_))))
    rw [ei, ej, nI_1 (fa_N al (w * 8 + a)), nI_1 (fa_N al (w * 8 + b))]
    refine ⟨fa_ne (b := 0) (by omega) (by omega) (by omega), nm_r (pk_rem (by omega) (by omega) (by omega)) ⟨fa_ne (b := 0) (by omega) (by omega) (by omega), nm_r (pk_rem (by omega) (by omega) (by omega)) (pq_code (pq_code ?_))⟩⟩
    have m1 := Nat.mod_lt i (show 0 < fa_N al (w * 8 + a) + 1 by omega)
    have m2 := Nat.mod_lt j (show 0 < fa_N al (w * 8 + b) + 1 by omega)
    have f1 := pd_F a4 (show i % (fa_N al (w * 8 + a) + 1) ≤ 16 by omega)
    have f2 := pd_F b4 (show j % (fa_N al (w * 8 + b) + 1) ≤ 16 by omega)
    exact vx_eqv1 ⟨w, w4, rfl⟩ f1 f2 (by omega) (nm_r (nI_1 k) (ih (k + 1) (by omega) (p + 1) (by omega) _ _ _ (pd_eqv D (by omega) ⟨w, w4, rfl⟩ f1 f2)))
theorem pw_76 (hN : N ≤ 260) (ok : post 1) (hm : m ≤ 7) (hp : ∀ u, u < 4 → ap u = 0) : ∀ d k, k + d = m → ∀ p, p + d ≤ 900 → ∀ ac en cb cn : Nat → Int32, (∀ i, i < 32 → fa_N cb i < 2) → fs_D al ap ac en cb cn eu ea eb 0 →
    wL_law_76 post N xs (nI m) kc ks (d + 1) (nI p) (nI k) sc oc (nI 0) (nI 0) 0 on st ra xu xn xe xd al ap ac en eu ea eb sU sL sK sE sG sO gr po ec cx ou tc ss av cs := by
  intro d
  induction d with
  | zero =>
    intro k hk p hpp ac en cb cn h2 D
    refine br_t (nI_le (by omega) (by omega)) (nm_r (nI_1 p) (pq_cell hN (by omega) (fun r => ?_)))
    obtain ⟨w, hw, ew⟩ := pk_andE r (m := 3) 2 (by decide)
    have w4 : w < 4 := hw
    exact nm_r ew ⟨w + 1, pw_134 hN ok (by omega) hp h2 w 0 (by omega) (p + 1) (by omega) eu ea eb D⟩
  | succ d ih =>
    intro k hk p hpp ac en cb cn h2 D
    refine br_f (nI_ge (by omega) (by omega)) (nm_r (nI_1 p) (pq_cell hN (by omega) (fun r => ?_)))
    obtain ⟨w, hw, ew⟩ := pk_andE r (m := 3) 2 (by decide)
    obtain ⟨b, hb, eb'⟩ := pk_andE (r >>> ((2 : Int32) &&& 31)) (m := 1) 1 (by decide)
    obtain ⟨a, ha, ea'⟩ := pk_andE (r >>> ((3 : Int32) &&& 31)) (m := 3) 2 (by decide)
    have w4 : w < 4 := hw
    have b2 : b < 2 := hb
    have a4 : a < 4 := ha
    rw [ew, eb', ea']
    obtain ⟨c1, c2⟩ := cn_C D w4
    by_cases l8 : fa_N ac w < 8
    · exact vx_com1 w4 (by omega) (by omega) l8 c1 (nm_r (nI_1 k) (ih (k + 1) (by omega) (p + 1) (by omega) _ _ _ _ (pd_2 h2 b2) (pd_com D w4 (by omega) (by omega) l8)))
    · refine vx_com0 (fun z => l8 ?_) (nm_r (nI_1 k) (ih (k + 1) (by omega) (p + 1) (by omega) _ _ _ _ h2 D))
      have z' := z.2.2.2.2
      rw [nI_clamp (by omega), c1] at z'
      exact (nI_ltI (b := 8) (by omega) (by decide)).mp z'
theorem pw_23 {J15 : Int32 → Int32 → Int32 → Int32 → Int32 → Int32 → Int32 → Int32 → Int32 → Int32 → Int32 → Int32 → Int32 → Int32 → (Nat → Int32) → (Nat → Int32) → (Nat → Int32) → (Nat → Int32) → (Nat → Int32) → (Nat → Int32) → (Nat → Int32) → (Nat → Int32) → (Nat → Int32) → (Nat → Int32) → (Nat → Int32) → (Nat → Int32) → (Nat → Int32) → (Nat → Int32) → (Nat → Int32) → (Nat → Int32) → (Nat → Int32) → (Nat → Int32) → (Nat → Int32) → (Nat → Int32) → (Nat → Int32) → (Nat → Int32) → Prop} {q : Nat}
    (hN : N ≤ 260) (hu : u < 4) (hq : q ≤ 500) (hJ : ∀ al : Nat → Int32, fs_D al ap ac en cb cn eu ea eb 0 → J15 (nI q) (nI (u + 1)) sc oc (nI 0) (nI 0) 0 on st ra xu xn xe xd al ap ac en eu ea eb sU sL sK sE sG sO gr po ec cx ou tc ss av cs) : ∀ d k, k + d = 4 → ∀ p, p + d = q → ∀ al : Nat → Int32, fs_D al ap ac en cb cn eu ea eb 0 →
    wL_law_23 post N xs J15 (nI u) kc ks (d + 1) (nI p) (nI k) sc oc (nI 0) (nI 0) 0 on st ra xu xn xe xd al ap ac en eu ea eb sU sL sK sE sG sO gr po ec cx ou tc ss av cs := by
  intro d
  induction d with
  | zero =>
    intro k hk p hpp al D
    have e : k = 4 := by omega
    have e2 : p = q := by omega
    subst e
    subst e2
    exact br_t (by decide) (nm_r (nI_1 u) (hJ al D))
  | succ d ih =>
    intro k hk p hpp al D
    refine br_f (nI_ge (b := 4) (by omega) (by decide)) (nm_r (nI_1 p) (pq_cell hN (by omega) (fun r => ?_)))
    obtain ⟨w, hw, ew⟩ := pk_andE r (m := 3) 2 (by decide)
    have w4 : w < 4 := hw
    rw [ew, show 1 + nI w = nI (1 + w) from nI_add 1 w]
    exact vx_dim1 hu (by omega) (by omega) (by omega) (nm_r (nI_1 k) (ih (k + 1) (by omega) (p + 1) (by omega) _ (pd_dim D (by omega) (by omega))))
theorem pw_15 (hN : N ≤ 260) (ok : post 1) (hp : ∀ u, u < 4 → ap u = 0) (h2 : ∀ i, i < 32 → fa_N cb i < 2) : ∀ d u, u + d = 4 → ∀ al : Nat → Int32, fs_D al ap ac en cb cn eu ea eb 0 →
    wL_law_15 post N xs kc ks (d + 1) (nI (4 * u)) (nI u) sc oc (nI 0) (nI 0) 0 on st ra xu xn xe xd al ap ac en eu ea eb sU sL sK sE sG sO gr po ec cx ou tc ss av cs := by
  intro d
  induction d with
  | zero =>
    intro u hu al D
    have e : u = 4 := by omega
    subst e
    refine br_t (by decide) (nm_r (nI_1 (4 * 4)) (pq_cell hN (by omega) (fun r => ?_)))
    obtain ⟨w, hw, ew⟩ := pk_andE r (m := 7) 3 (by decide)
    have w8 : w < 8 := hw
    exact nm_r ew ⟨w + 1, pw_76 hN ok (by omega) hp w 0 (by omega) (4 * 4 + 1) (by omega) ac en cb cn h2 D⟩
  | succ d ih =>
    intro u hu al D
    refine br_f (nI_ge (b := 4) (by omega) (by decide)) ⟨4 + 1, ?_⟩
    exact pw_23 (q := 4 * (u + 1)) hN (by omega) (by omega) (fun al' D' => ih (u + 1) (by omega) al' D') 4 0 rfl (4 * u) (by omega) al D
end PDC
