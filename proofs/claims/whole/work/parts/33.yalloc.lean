section HYA
/-! the reference's allocation -/
variable {sc oc ne ns ca on st ra xu xn xe xd nc yp yu ye yl yr : Int32} {al ap ac en eu ea eb sU sL sK sE sG sO gr po ec cx ou tc ss av cs cb cn kx ky kd pl rl cm hv ba ad ex cy bi : Nat → Int32}
variable {n : Nat} {C : ga_T}
/-- the least start and the greatest end, over the slots below j -/
def al_M (al ap cm rl : Nat → Int32) (r j : Nat) (mn mx : Int32) : Prop :=
  (∀ k, k < j → gd_St (fa_N ap) k → cm k = nI r → mn.toInt ≤ (rl k).toInt ∧ (rl k).toInt + fa_N al k ≤ mx.toInt) ∧
  (∃ k, k < 32 ∧ gd_St (fa_N ap) k ∧ cm k = nI r ∧ (rl k).toInt = mn.toInt) ∧ (∃ k, k < 32 ∧ gd_St (fa_N ap) k ∧ cm k = nI r ∧ (rl k).toInt + fa_N al k = mx.toInt)
theorem al_sum {k : Nat} (D : fs_D al ap ac en cb cn eu ea eb n) (hk : k < 32) (hb : -4608 ≤ (rl k).toInt ∧ (rl k).toInt ≤ 4608) : (rl k + al k).toInt = (rl k).toInt + fa_N al k := by
  obtain ⟨l1, l2, l3⟩ := cn_A D hk
  have e : (al k).toInt = (fa_N al k : Int) := (congrArg Int32.toInt l1).trans (nI_toInt (by omega))
  rw [ga_addT (by omega) (by omega), e]
theorem al_81 {post : SY → Prop} {J : Int32 → Int32 → (Nat → Int32) → (Nat → Int32) → (Nat → Int32) → (Nat → Int32) → (Nat → Int32) → (Nat → Int32) → (Nat → Int32) → (Nat → Int32) → (Nat → Int32) → (Nat → Int32) → (Nat → Int32) → (Nat → Int32) → (Nat → Int32) → (Nat → Int32) → (Nat → Int32) → (Nat → Int32) → (Nat → Int32) → (Nat → Int32) → (Nat → Int32) → (Nat → Int32) → (Nat → Int32) → (Nat → Int32) → (Nat → Int32) → (Nat → Int32) → (Nat → Int32) → (Nat → Int32) → (Nat → Int32) → (Nat → Int32) → (Nat → Int32) → (Nat → Int32) → (Nat → Int32) → Prop} {k r N : Nat} (D : fs_D al ap ac en cb cn eu ea eb n) (hb : ∀ x, x < 36 → -4608 ≤ (rl x).toInt ∧ (rl x).toInt ≤ 4608) (hr : r < 36) (hk : k < 32)
    (h : ∀ mn mx : Int32, gb_MM (fa_N al) (gd_St (fa_N ap)) cm rl r mn.toInt mx.toInt → J (nI N + mx - mn) (nI (k + 1)) al ap cb cn ac eu ea eb sU sL sK sE sG sO kx ky kd pl rl cm (upd hv r 1) (upd ba r (nI N - mn)) (upd ad k (nI N - mn + rl k)) ex cy tc ss av cs bi ou) :
    ∀ d j, j + d = 32 → ∀ mn mx : Int32, al_M al ap cm rl r j mn mx → wY_allocate_81 post J (nI N) (nI k) (nI r) sc oc ne ns ca nc on yp yu ye st yl yr al ap cb cn ac eu ea eb sU sL sK sE sG sO kx ky kd pl rl cm hv ba ad ex cy tc ss av cs bi ou (d + 1) mn mx (nI j) := by
  have nb1 : vp_nar .boolean 1 = 1 := by decide
  have vr : vp_in (nI r) 36 := vp_in_nI hr (by decide)
  intro d
  induction d with
  | zero =>
    intro j hj mn mx M
    have e : j = 32 := by omega
    subst e
    refine br_t (by decide) ⟨vr, ?_⟩
    rw [nI_clamp (n := r) (by omega), nb1]
    refine nm_e ⟨vr, nm_e (nm_e ?_)⟩
    unfold wY_allocate_197
    rw [nI_clamp (n := r) (by omega), nI_clamp (n := k) (by omega), pk_us]
    exact ⟨vr, vp_in_nI (by omega) (by decide), vp_in_nI (by omega) (by decide), nm_e (nm_r (nI_1 k) (h mn mx M))⟩
  | succ d ih =>
    intro j hj mn mx M
    have vj : vp_in (nI j) 36 := vp_in_nI (by omega) (by decide)
    have vj' : vp_in (nI j) 32 := vp_in_nI (by omega) (by decide)
    have bj := hb j (by omega)
    have sj := al_sum (rl := rl) D (k := j) (by omega) bj
    refine br_f (nI_ge (b := 32) (by omega) (by decide)) ?_
    refine hy_stored (by omega) (D.2.2.1 _ (by omega)) (fun s => br_t rfl (nm_r (nI_1 j) (ih (j + 1) (by omega) mn mx ⟨fun q hq sq cq => ?_, M.2⟩))) (fun s => br_f (by decide) ⟨vj, ?_⟩)
    · by_cases e : q = j
      · subst e; exact absurd sq s
      · exact M.1 q (by omega) sq cq
    · rw [nI_clamp (n := j) (by omega)]
      refine br_c (fun z => ⟨vj, ?_⟩) (fun z => nm_r (nI_1 j) (ih (j + 1) (by omega) mn mx ⟨fun q hq sq cq => ?_, M.2⟩))
      · have t129 : ∀ mn' : Int32, al_M al ap cm rl r j mn' mx → mn'.toInt ≤ (rl j).toInt → wY_allocate_129 post J (wY_allocate_81 post J (nI N) (nI k) (nI r) sc oc ne ns ca nc on yp yu ye st yl yr al ap cb cn ac eu ea eb sU sL sK sE sG sO kx ky kd pl rl cm hv ba ad ex cy tc ss av cs bi ou (d + 1)) (nI N) (nI k) (nI r) mn' mx (nI j) sc oc ne ns ca nc on yp yu ye st yl yr al ap cb cn ac eu ea eb sU sL sK sE sG sO kx ky kd pl rl cm hv ba ad ex cy tc ss av cs bi ou := by
          intro mn' M' lm
          unfold wY_allocate_129
          rw [nI_clamp (n := j) (by omega)]
          refine ⟨vj, vj', br_c (fun w => nm_r (nI_1 j) (ih (j + 1) (by omega) mn' mx ⟨fun q hq sq cq => ?_, M'.2⟩)) (fun w => ⟨vj, vj', nm_e (nm_r (nI_1 j) (ih (j + 1) (by omega) mn' (rl j + al j) ⟨fun q hq sq cq => ?_, M'.2.1, ⟨j, by omega, s, z, sj.symm⟩⟩))⟩)⟩
          · rw [Int32.le_iff_toInt_le, sj] at w
            by_cases e : q = j
            · subst e; exact ⟨lm, w⟩
            · exact M'.1 q (by omega) sq cq
          · rw [Int32.le_iff_toInt_le, sj] at w
            rw [sj]
            by_cases e : q = j
            · subst e; exact ⟨lm, Int.le_refl _⟩
            · have := M'.1 q (by omega) sq cq
              exact ⟨this.1, by omega⟩
        refine br_c (fun w => t129 mn M (Int32.le_iff_toInt_le.mp w)) (fun w => ⟨vj, nm_e (t129 (rl j) ⟨fun q hq sq cq => ?_, ⟨j, by omega, s, z, rfl⟩, M.2.2⟩ (Int.le_refl _))⟩)
        rw [Int32.le_iff_toInt_le] at w
        have := M.1 q hq sq cq
        exact ⟨by omega, this.2⟩
      · by_cases e : q = j
        · subst e; exact absurd cq z
        · exact M.1 q (by omega) sq cq
theorem al_234 {post : SY → Prop} {J : Int32 → (Nat → Int32) → (Nat → Int32) → (Nat → Int32) → (Nat → Int32) → (Nat → Int32) → (Nat → Int32) → (Nat → Int32) → (Nat → Int32) → (Nat → Int32) → (Nat → Int32) → (Nat → Int32) → (Nat → Int32) → (Nat → Int32) → (Nat → Int32) → (Nat → Int32) → (Nat → Int32) → (Nat → Int32) → (Nat → Int32) → (Nat → Int32) → (Nat → Int32) → (Nat → Int32) → (Nat → Int32) → (Nat → Int32) → (Nat → Int32) → (Nat → Int32) → (Nat → Int32) → (Nat → Int32) → (Nat → Int32) → (Nat → Int32) → (Nat → Int32) → (Nat → Int32) → Prop} {b : Nat} (D : fs_D al ap ac en cb cn eu ea eb n) (hb : b < 4) (HL : gb_Lay C gr po cm rl) (hd : ∀ k b, k < 32 → b < 4 → ¬ gd_St (fa_N ap) k → ¬ gr k = gr (32 + b))
    (h : J (nI (b + 1)) al ap cb cn ac eu ea eb sU sL sK sE sG sO kx ky kd pl rl cm hv ba ad (upd ex b (fs_ext gr po al b 32)) cy tc ss av cs bi ou) : ∀ d k, k + d = 32 → wY_allocate_234 post J (nI b) sc oc ne ns ca nc on yp yu ye st yl yr al ap cb cn ac eu ea eb sU sL sK sE sG sO kx ky kd pl rl cm hv ba ad ex cy tc ss av cs bi ou (d + 1) (fs_ext gr po al b k) (nI k) := by
  intro d
  induction d with
  | zero =>
    intro k hk
    have e : k = 32 := by omega
    subst e
    refine br_t (by decide) ⟨vp_in_nI hb (by decide), ?_⟩
    rw [nI_clamp (n := b) (by omega)]
    exact nm_e (nm_r (nI_1 b) h)
  | succ d ih =>
    intro k hk
    have vk : vp_in (nI k) 36 := vp_in_nI (by omega) (by decide)
    have vb : vp_in (nI (32 + b)) 36 := vp_in_nI (by omega) (by decide)
    have ex1 : fs_ext gr po al b (k + 1) = if gr k = gr (32 + b) ∧ fs_ext gr po al b k < po k + al k - po (32 + b) then po k + al k - po (32 + b) else fs_ext gr po al b k := rfl
    have go := ih (k + 1) (by omega)
    refine br_f (nI_ge (b := 32) (by omega) (by decide)) ?_
    refine hy_stored (by omega) (D.2.2.1 _ (by omega)) (fun s => br_t rfl (nm_r (nI_1 k) ?_)) (fun s => br_f (by decide) ⟨vk, ?_⟩)
    · rw [if_neg (fun q => hd k b (by omega) hb s q.1)] at ex1
      rw [ex1] at go
      exact go
    · rw [ha_32, nI_clamp (n := k) (by omega), nI_clamp (n := 32 + b) (by omega)]
      have gc := HL.1 k (32 + b) (by omega) (by omega)
      refine ⟨vb, br_c (fun z => ⟨vk, vp_in_nI (by omega) (by decide), vb, ?_⟩) (fun z => nm_r (nI_1 k) ?_)⟩
      · have gz := gc.mpr z
        have pr := HL.2.1 k (32 + b) (by omega) (by omega) gz
        have e5 : rl k + al k - rl (32 + b) = po k + al k - po (32 + b) := by grind
        refine nm_r e5 (br_c (fun w => nm_r (nI_1 k) ?_) (fun w => nm_r (nI_1 k) ?_))
        · rw [if_neg (fun q => absurd q.2 (Int32.not_lt.mpr w))] at ex1
          rw [ex1] at go
          exact go
        · rw [if_pos ⟨gz, Int32.not_le.mp w⟩] at ex1
          rw [ex1] at go
          exact go
      · rw [if_neg (fun q => z (gc.mp q.1))] at ex1
        rw [ex1] at go
        exact go
theorem al_224 {post : SY → Prop} (D : fs_D al ap ac en cb cn eu ea eb n) (HL : gb_Lay C gr po cm rl) (hd : ∀ k b, k < 32 → b < 4 → ¬ gd_St (fa_N ap) k → ¬ gr k = gr (32 + b))
    (h : ∀ ex : Nat → Int32, (∀ b, b < 4 → ex b = fs_ext gr po al b 32) → post (sc, oc, ne, ns, ca, nc, on, yp, yu, ye, st, yl, yr, al, ap, cb, cn, ac, eu, ea, eb, sU, sL, sK, sE, sG, sO, kx, ky, kd, pl, rl, cm, hv, ba, ad, ex, cy, tc, ss, av, cs, bi, ou)) : ∀ d b, b + d = 4 → ∀ ex : Nat → Int32, (∀ c, c < b → ex c = fs_ext gr po al c 32) → wY_allocate_224 post sc oc ne ns ca nc on yp yu ye st yl yr (d + 1) (nI b) al ap cb cn ac eu ea eb sU sL sK sE sG sO kx ky kd pl rl cm hv ba ad ex cy tc ss av cs bi ou := by
  intro d
  induction d with
  | zero =>
    intro b hb ex he
    have e : b = 4 := by omega
    subst e
    exact br_t (by decide) (h ex he)
  | succ d ih =>
    intro b hb ex he
    refine br_f (nI_ge (b := 4) (by omega) (by decide)) ⟨32 + 1, al_234 D (by omega) HL hd (ih (b + 1) (by omega) _ (fun c hc => ?_)) 32 0 rfl⟩
    by_cases e : c = b
    · subst e; exact pk_us
    · rw [pk_un e]; exact he c (by omega)
theorem al_25 {post : SY → Prop} (D : fs_D al ap ac en cb cn eu ea eb n) (HL : gb_Lay C gr po cm rl) (h : ∀ (N : Nat) (hv ba ad : Nat → Int32), gb_AL (fa_N al) (gd_St (fa_N ap)) cm rl 32 N hv ba ad → ∃ q, wY_allocate_224 post sc oc ne ns ca nc on yp yu ye st yl yr q 0 al ap cb cn ac eu ea eb sU sL sK sE sG sO kx ky kd pl rl cm hv ba ad ex cy tc ss av cs bi ou) :
    ∀ d k, k + d = 32 → ∀ (N : Nat) (hv ba ad : Nat → Int32), gb_AL (fa_N al) (gd_St (fa_N ap)) cm rl k N hv ba ad → wY_allocate_25 post sc oc ne ns ca nc on yp yu ye st yl yr (d + 1) (nI N) (nI k) al ap cb cn ac eu ea eb sU sL sK sE sG sO kx ky kd pl rl cm hv ba ad ex cy tc ss av cs bi ou := by
  have hb := HL.2.2.1
  have hL : ∀ k, k < 32 → 1 ≤ fa_N al k ∧ fa_N al k ≤ 16 := fun k hk => (cn_A D hk).2
  intro d
  induction d with
  | zero =>
    intro k hk N hv ba ad H
    have e : k = 32 := by omega
    subst e
    exact br_t (by decide) (h N hv ba ad H)
  | succ d ih =>
    intro k hk N hv ba ad H
    have vk : vp_in (nI k) 36 := vp_in_nI (by omega) (by decide)
    have vk' : vp_in (nI k) 32 := vp_in_nI (by omega) (by decide)
    obtain ⟨r, hr, er⟩ := HL.2.2.2.2.1 k (by omega)
    have vr : vp_in (nI r) 36 := vp_in_nI hr (by decide)
    refine br_f (nI_ge (b := 32) (by omega) (by decide)) ?_
    refine hy_stored (by omega) (D.2.2.1 _ (by omega)) (fun s => br_t rfl (nm_r (nI_1 k) (ih (k + 1) (by omega) N hv ba ad (gb_alSkip H s)))) (fun s => br_f (by decide) ⟨vk, ?_⟩)
    rw [nI_clamp (n := k) (by omega)]
    refine nm_r er ⟨vr, ?_⟩
    rw [nI_clamp (n := r) (by omega)]
    refine br_c (fun z => ⟨vk, nm_e ⟨vk, vk', nm_e ?_⟩⟩) (fun z => ?_)
    · refine ⟨32 + 1, al_81 D hb hr (by omega) (fun mn mx MM => ?_) 32 0 rfl (rl k) (rl k + al k) ⟨fun q hq => absurd hq (Nat.not_lt_zero q), ⟨k, by omega, s, er, rfl⟩, ⟨k, by omega, s, er, (al_sum (rl := rl) D (by omega) (hb k (by omega))).symm⟩⟩⟩
      obtain ⟨N', e1, H'⟩ := gc_alNew H (by omega) hr er z MM hb hL
      rw [e1]
      exact ih (k + 1) (by omega) N' _ _ _ H'
    · unfold wY_allocate_197
      rw [nI_clamp (n := r) (by omega), nI_clamp (n := k) (by omega)]
      exact ⟨vr, vk, vk', nm_e (nm_r (nI_1 k) (ih (k + 1) (by omega) N _ _ _ (gb_alOld H hr er z)))⟩
theorem al_2 {post : SY → Prop} (h : ∀ hv : Nat → Int32, (∀ r, r < 36 → hv r = 0) → ∃ q, wY_allocate_25 post sc oc ne ns ca nc on yp yu ye st yl yr q 0 0 al ap cb cn ac eu ea eb sU sL sK sE sG sO kx ky kd pl rl cm hv ba ad ex cy tc ss av cs bi ou) : ∀ d i, i + d = 36 → ∀ hv : Nat → Int32, (∀ r, r < i → hv r = 0) → wY_allocate_2 post sc oc ne ns ca nc on yp yu ye st yl yr (d + 1) (nI i) al ap cb cn ac eu ea eb sU sL sK sE sG sO kx ky kd pl rl cm hv ba ad ex cy tc ss av cs bi ou := by
  have nb0 : vp_nar .boolean 0 = 0 := by decide
  intro d
  induction d with
  | zero =>
    intro i hi hv hp
    have e : i = 36 := by omega
    subst e
    exact br_t (by decide) (h hv hp)
  | succ d ih =>
    intro i hi hv hp
    refine br_f (nI_ge (b := 36) (by omega) (by decide)) ⟨vp_in_nI (by omega) (by decide), ?_⟩
    rw [nI_clamp (n := i) (by omega), nb0]
    refine nm_e (nm_r (nI_1 i) (ih (i + 1) (by omega) _ (fun x hx => ?_)))
    by_cases e : x = i
    · subst e; exact pk_us
    · rw [pk_un e]; exact hp x (by omega)
theorem al_main {post : SY → Prop} (D : fs_D al ap ac en cb cn eu ea eb n) (HL : gb_Lay C gr po cm rl) (hd : ∀ k b, k < 32 → b < 4 → ¬ gd_St (fa_N ap) k → ¬ gr k = gr (32 + b))
    (h : ∀ (N : Nat) (hv ba ad ex : Nat → Int32), gb_AL (fa_N al) (gd_St (fa_N ap)) cm rl 32 N hv ba ad → (∀ b, b < 4 → ex b = fs_ext gr po al b 32) → post (sc, oc, ne, ns, ca, nc, on, yp, yu, ye, st, yl, yr, al, ap, cb, cn, ac, eu, ea, eb, sU, sL, sK, sE, sG, sO, kx, ky, kd, pl, rl, cm, hv, ba, ad, ex, cy, tc, ss, av, cs, bi, ou)) : wpY_allocate post (sc, oc, ne, ns, ca, nc, on, yp, yu, ye, st, yl, yr, al, ap, cb, cn, ac, eu, ea, eb, sU, sL, sK, sE, sG, sO, kx, ky, kd, pl, rl, cm, hv, ba, ad, ex, cy, tc, ss, av, cs, bi, ou) :=
  ⟨36 + 1, al_2 (fun hv hp => ⟨32 + 1, al_25 D HL (fun N hv ba ad H => ⟨4 + 1, al_224 D HL hd (fun ex he => h N hv ba ad ex H he) 4 0 rfl ex (fun c hc => absurd hc (Nat.not_lt_zero c))⟩) 32 0 rfl 0 hv ba ad (gb_al0 hp)⟩) 36 0 rfl hv (fun r hr => absurd hr (Nat.not_lt_zero r))⟩
end HYA
