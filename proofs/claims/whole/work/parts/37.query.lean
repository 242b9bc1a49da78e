/-! query and the start -/
section HQY
variable {sc oc ne ns ca on st ra xu xn xe xd nc yp yu ye yl yr : Int32} {al ap ac en eu ea eb sU sL sK sE sG sO gr po ec cx ou tc ss av cs cb cn kx ky kd pl rl cm hv ba ad ex cy bi : Nat → Int32}
variable {x y : Int32} {A B : Prop}
theorem rq_3 (h1 : fa_R 4 x → A) (h0 : ¬ fa_R 4 x → B) : (x < 0 → B) ∧ (¬ x < 0 → ((3 < x → B) ∧ (¬ 3 < x → A))) :=
  br_c (fun a => h0 (ha_lo (by decide) a)) (fun a => br_c (fun b => h0 (ha_hi' (m := 3) (by decide) b)) (fun b => h1 (ha_mid' (m := 3) (by decide) a b)))
theorem rq_7 (h1 : fa_R 8 x → A) (h0 : ¬ fa_R 8 x → B) : (x < 0 → B) ∧ (¬ x < 0 → ((7 < x → B) ∧ (¬ 7 < x → A))) :=
  br_c (fun a => h0 (ha_lo (by decide) a)) (fun a => br_c (fun b => h0 (ha_hi' (m := 7) (by decide) b)) (fun b => h1 (ha_mid' (m := 7) (by decide) a b)))
theorem rq_3' (h1 : fa_R 4 x → A) (h0 : ¬ fa_R 4 x → B) : (x < 0 → B) ∧ (¬ x < 0 → ((x ≤ 3 → A) ∧ (¬ x ≤ 3 → B))) :=
  br_c (fun a => h0 (ha_lo (by decide) a)) (fun a => br_c (fun b => h1 (ha_le (m := 3) (by decide) a b)) (fun b => h0 (ha_nle (m := 3) (by decide) b)))
theorem rq_no {post : Int32 → Prop} {p1 p2 : Int32} (h : ∀ j, 1 ≤ j → j ≤ 11 → x ≠ nI j) (hp : post (-1)) : wpY_query post (sc, oc, ne, ns, ca, nc, on, yp, yu, ye, st, yl, yr, al, ap, cb, cn, ac, eu, ea, eb, sU, sL, sK, sE, sG, sO, kx, ky, kd, pl, rl, cm, hv, ba, ad, ex, cy, tc, ss, av, cs, bi, ou) x p1 p2 :=
  br_f (h 1 (by decide) (by decide)) (br_f (h 2 (by decide) (by decide)) (br_f (h 3 (by decide) (by decide)) (br_f (h 4 (by decide) (by decide)) (br_f (h 5 (by decide) (by decide)) (br_f (h 6 (by decide) (by decide)) (br_f (h 7 (by decide) (by decide)) (br_f (h 8 (by decide) (by decide)) (br_f (h 9 (by decide) (by decide)) (br_f (h 10 (by decide) (by decide)) (br_f (h 11 (by decide) (by decide)) (hp)))))))))))
/-- within 0 .. n-1, below, or beyond -/
theorem rq_ix {n : Nat} (hn : n < 2 ^ 31) (a : x < 0 → A) (b : ¬ x < 0 → nI n ≤ x → A) (c : ∀ j, j < n → x = nI j → A) : A := by
  rcases pk_ix x hn with h | h | ⟨j, hj, e⟩
  · exact a h
  · exact b (fun z => absurd (Int32.lt_of_le_of_lt h z) (nI_pos hn)) h
  · exact c j hj e
end HQY
theorem i_vc_query {k : Nat} {u : SX} {v : SY} (I : i_Rel k u v) (hk : k + 5 ≤ 2562) (v1 : Int32) (v2 : Int32) (v3 : Int32) : wpX_query (fun r => wpY_query (fun r' => r' = r ∧ i_Rel (k + 5) u v) v v1 v2 v3) u v1 v2 v3 := by
  refine i_el (Q := fun u v => wpX_query (fun r => wpY_query (fun r' => r' = r ∧ i_Rel (k + 5) u v) v v1 v2 v3) u v1 v2 v3) I ?_
  intro sc oc ne ns ca on st ra xu xn xe xd nc yp yu ye yl yr al ap ac en eu ea eb sU sL sK sE sG sO gr po ec cx ou tc ss av cs cb cn kx ky kd pl rl cm hv ba ad ex cy bi hsc hoc hD hS hca hyl hra hC
  have I' : i_Rel (k + 5) (sc, oc, ne, ns, ca, on, st, ra, xu, xn, xe, xd, al, ap, ac, en, eu, ea, eb, sU, sL, sK, sE, sG, sO, gr, po, ec, cx, ou, tc, ss, av, cs) (sc, oc, ne, ns, ca, nc, on, yp, yu, ye, st, yl, yr, al, ap, cb, cn, ac, eu, ea, eb, sU, sL, sK, sE, sG, sO, kx, ky, kd, pl, rl, cm, hv, ba, ad, ex, cy, tc, ss, av, cs, bi, ou) := i_mk hsc hoc hD hS hca hyl hra hC
  generalize i_Rel (k + 5) (sc, oc, ne, ns, ca, on, st, ra, xu, xn, xe, xd, al, ap, ac, en, eu, ea, eb, sU, sL, sK, sE, sG, sO, gr, po, ec, cx, ou, tc, ss, av, cs) (sc, oc, ne, ns, ca, nc, on, yp, yu, ye, st, yl, yr, al, ap, cb, cn, ac, eu, ea, eb, sU, sL, sK, sE, sG, sO, kx, ky, kd, pl, rl, cm, hv, ba, ad, ex, cy, tc, ss, av, cs, bi, ou) = T at I' ⊢
  obtain ⟨q, rfl, D⟩ := hD
  obtain ⟨n, hn, rfl, S, C⟩ := hS
  have q16 := D.2.2.2.2.2.1
  refine rq_ix (x := v1) (n := 12) (by decide) (fun a => ?_) (fun a b => ?_) (fun j hj e => ?_)
  · refine br_t (Int32.lt_trans a (by decide)) (rq_no (fun j j1 j2 e => ?_) ⟨rfl, I'⟩)
    rw [e] at a
    exact nI_pos (by omega) a
  · have b1 : ¬ v1 < 1 := fun z => absurd (Int32.lt_of_le_of_lt b z) (by decide)
    refine br_f b1 (br_t (Int32.lt_of_lt_of_le (by decide) b) (rq_no (fun j j1 j2 e => ?_) ⟨rfl, I'⟩))
    rw [e] at b
    exact nI_ge (b := 12) (by omega) (by decide) b
  · subst e
    have cj : j = 0 ∨ j = 1 ∨ j = 2 ∨ j = 3 ∨ j = 4 ∨ j = 5 ∨ j = 6 ∨ j = 7 ∨ j = 8 ∨ j = 9 ∨ j = 10 ∨ j = 11 := by omega
    rcases cj with rfl | rfl | rfl | rfl | rfl | rfl | rfl | rfl | rfl | rfl | rfl | rfl
    · exact br_t (by decide) (rq_no (fun j j1 j2 e => by have := fa_inj (by omega) (by omega) e; omega) ⟨rfl, I'⟩)
    · refine br_f (by decide) (br_f (by decide) (br_t (by decide) (?_)))
      by_cases hu : fa_R 4 v2
      · refine hx_isUnit (fun _ => br_f (by decide) ?_) (fun z => absurd hu z)
        by_cases hm : fa_R 8 v3
        · refine hx_isName (fun _ => br_f (by decide) ?_) (fun z => absurd hm z)
          have vv : vp_in (v2 * 8 + v3) 32 := by
            obtain ⟨u, hu4, rfl⟩ := hu
            obtain ⟨m, hm8, rfl⟩ := hm
            rw [ha_us]
            exact vp_in_nI (by omega) (by decide)
          refine ⟨vv, br_t (by decide) (rq_3 (fun _ => rq_7 (fun _ => ⟨vv, rfl, I'⟩) (fun z => absurd hm z)) (fun z => absurd hu z))⟩
        · exact hx_isName (fun z => absurd z hm) (fun _ => br_t rfl (br_t (by decide) (rq_3 (fun _ => rq_7 (fun z => absurd z hm) (fun _ => ⟨rfl, I'⟩)) (fun z => absurd hu z))))
      · exact hx_isUnit (fun z => absurd z hu) (fun _ => br_t rfl (br_t (by decide) (rq_3 (fun z => absurd z hu) (fun _ => ⟨rfl, I'⟩))))
    · refine br_f (by decide) (br_f (by decide) (br_f (by decide) (br_t (by decide) (?_))))
      by_cases hu : fa_R 4 v2
      · refine hx_isUnit (fun _ => br_f (by decide) ?_) (fun z => absurd hu z)
        have vv : vp_in v2 4 := by
          obtain ⟨u, hu4, rfl⟩ := hu
          exact vp_in_nI hu4 (by decide)
        exact ⟨vv, br_f (by decide) (br_t (by decide) (rq_3 (fun _ => ⟨vv, rfl, I'⟩) (fun z => absurd hu z)))⟩
      · exact hx_isUnit (fun z => absurd z hu) (fun _ => br_t rfl (br_f (by decide) (br_t (by decide) (rq_3 (fun z => absurd z hu) (fun _ => ⟨rfl, I'⟩)))))
    · refine br_f (by decide) (br_f (by decide) (br_f (by decide) (br_f (by decide) (br_t (by decide) (?_)))))
      unfold wpX_entryAt
      by_cases hu : fa_R 4 v2
      · refine hx_isUnit (fun _ => br_f (by decide) ?_) (fun z => absurd hu z)
        have hu0 := hu
        obtain ⟨u, hu4, rfl⟩ := hu
        obtain ⟨c1, c2⟩ := cn_C D hu4
        have vv : vp_in (nI u) 4 := vp_in_nI hu4 (by decide)
        refine rq_ix (x := v3) (n := fa_N ac u) (by omega) (fun a => ?_) (fun a b => ?_) (fun i hi e => ?_)
        · exact br_t a (br_f (by decide) (br_f (by decide) (br_t (by decide) (rq_3 (fun _ => br_t a ⟨rfl, I'⟩) (fun z => absurd hu0 z)))))
        · refine br_f a ⟨vv, ?_⟩
          rw [nI_clamp (n := u) (by omega), c1]
          refine br_f (Int32.not_lt.mpr b) (br_f (by decide) (br_f (by decide) (br_t (by decide) (rq_3 (fun _ => br_f a ⟨vv, ?_⟩) (fun z => absurd hu0 z)))))
          rw [nI_clamp (n := u) (by omega), c1]
          exact br_f (Int32.not_lt.mpr b) ⟨rfl, I'⟩
        · subst e
          obtain ⟨_, _, ie⟩ := D.2.2.2.2.1 (u * 8 + i) (by omega)
          have vi : vp_in (nI (u * 8 + i)) 32 := vp_in_nI (by omega) (by decide)
          refine br_f (nI_pos (by omega)) ⟨vv, ?_⟩
          rw [nI_clamp (n := u) (by omega), c1]
          refine br_t (nI_lt hi (by omega)) ?_
          rw [ha_us, nI_clamp (n := u * 8 + i) (by omega)]
          refine ⟨vi, br_f (by decide) (br_f (by decide) (br_t (by decide) (rq_3 (fun _ => br_f (nI_pos (by omega)) ⟨vv, ?_⟩) (fun z => absurd hu0 z))))⟩
          rw [nI_clamp (n := u) (by omega), c1]
          refine br_t (nI_lt hi (by omega)) ?_
          rw [ha_us, nI_clamp (n := u * 8 + i) (by omega)]
          refine ⟨vi, vi, ?_, I'⟩
          rw [ie, Int32.mul_comm]
      · exact hx_isUnit (fun z => absurd z hu) (fun _ => br_t rfl (br_f (by decide) (br_f (by decide) (br_t (by decide) (rq_3 (fun z => absurd z hu) (fun _ => ⟨rfl, I'⟩))))))
    · refine br_f (by decide) (br_f (by decide) (br_f (by decide) (br_f (by decide) (br_f (by decide) (br_t (by decide) (?_))))))
      unfold wpX_equivalenceField
      refine rq_ix (x := v2) (n := q) (by omega) (fun a => ?_) (fun a b => ?_) (fun i hi e => ?_)
      · exact br_t a (br_f (by decide) (br_f (by decide) (br_f (by decide) (br_t (by decide) (br_t a ⟨rfl, I'⟩)))))
      · exact br_f a (br_f (Int32.not_lt.mpr b) (br_f (by decide) (br_f (by decide) (br_f (by decide) (br_t (by decide) (br_f a (br_t b ⟨rfl, I'⟩)))))))
      · subst e
        have vi : vp_in (nI i) 16 := vp_in_nI (by omega) (by decide)
        have i0 : ¬ nI i < 0 := nI_pos (by omega)
        have iq : nI i < nI q := nI_lt hi (by omega)
        have nq : ¬ nI q ≤ nI i := nI_ge hi (by omega)
        refine rq_ix (x := v3) (n := 3) (by decide) (fun a => ?_) (fun a b => ?_) (fun f hf e => ?_)
        · exact br_f i0 (br_t iq (br_t a (br_f (by decide) (br_f (by decide) (br_f (by decide) (br_t (by decide) (br_f i0 (br_f nq (br_t a ⟨rfl, I'⟩)))))))))
        · have g2 : 2 < v3 := Int32.lt_of_lt_of_le (by decide) b
          exact br_f i0 (br_t iq (br_f a (br_t g2 (br_f (by decide) (br_f (by decide) (br_f (by decide) (br_t (by decide) (br_f i0 (br_f nq (br_f a (br_f (Int32.not_le.mpr g2) ⟨rfl, I'⟩)))))))))))
        · subst e
          have cf : f = 0 ∨ f = 1 ∨ f = 2 := by omega
          rcases cf with rfl | rfl | rfl
          · exact br_f i0 (br_t iq (br_f (by decide) (br_f (by decide) (br_t rfl ⟨vi, br_f (by decide) (br_f (by decide) (br_f (by decide) (br_t (by decide) (br_f i0 (br_f nq (br_f (by decide) (br_t (by decide) (br_t rfl ⟨vi, rfl, I'⟩))))))))⟩))))
          · exact br_f i0 (br_t iq (br_f (by decide) (br_f (by decide) (br_f (by decide) (br_t rfl ⟨vi, br_f (by decide) (br_f (by decide) (br_f (by decide) (br_t (by decide) (br_f i0 (br_f nq (br_f (by decide) (br_t (by decide) (br_f (by decide) (br_t rfl ⟨vi, rfl, I'⟩)))))))))⟩)))))
          · exact br_f i0 (br_t iq (br_f (by decide) (br_f (by decide) (br_f (by decide) (br_f (by decide) (br_t rfl ⟨vi, br_f (by decide) (br_f (by decide) (br_f (by decide) (br_t (by decide) (br_f i0 (br_f nq (br_f (by decide) (br_t (by decide) (br_f (by decide) (br_f (by decide) ⟨vi, rfl, I'⟩)))))))))⟩))))))
    · refine br_f (by decide) (br_f (by decide) (br_f (by decide) (br_f (by decide) (br_f (by decide) (br_f (by decide) (br_t (by decide) (?_)))))))
      unfold wpX_statementField
      refine rq_ix (x := v2) (n := n) (by omega) (fun a => ?_) (fun a b => ?_) (fun i hi e => ?_)
      · exact br_t a (br_f (by decide) (br_f (by decide) (br_f (by decide) (br_f (by decide) (br_t (by decide) (br_t a ⟨rfl, I'⟩))))))
      · exact br_f a (br_f (Int32.not_lt.mpr b) (br_f (by decide) (br_f (by decide) (br_f (by decide) (br_f (by decide) (br_t (by decide) (br_f a (br_t b ⟨rfl, I'⟩))))))))
      · subst e
        obtain ⟨_, _, ⟨g1, g2, g5⟩, _⟩ := ha_V (S i hi)
        have vi : vp_in (nI i) 64 := vp_in_nI (by omega) (by decide)
        have i0 : ¬ nI i < 0 := nI_pos (by omega)
        have iq : nI i < nI n := nI_lt hi (by omega)
        have nq : ¬ nI n ≤ nI i := nI_ge hi (by omega)
        refine rq_ix (x := v3) (n := 9) (by decide) (fun a => ?_) (fun a b => ?_) (fun f hf e => ?_)
        · have a4 : v3 < 4 := Int32.lt_trans a (by decide)
          exact br_f i0 (br_t iq (br_t a (br_t a4 (br_f (by decide) (br_f (by decide) (br_f (by decide) (br_f (by decide) (br_t (by decide) (br_f i0 (br_f nq (br_t a ⟨rfl, I'⟩)))))))))))
        · have g3 : 3 < v3 := Int32.lt_of_lt_of_le (by decide) b
          have n4 : ¬ v3 < 4 := fun z => absurd (Int32.lt_of_le_of_lt b z) (by decide)
          have n8 : ¬ v3 ≤ 8 := fun z => absurd (Int32.le_trans b z) (by decide)
          exact br_f i0 (br_t iq (br_f a (br_t g3 (br_f n4 (br_t b (br_f (by decide) (br_f (by decide) (br_f (by decide) (br_f (by decide) (br_t (by decide) (br_f i0 (br_f nq (br_f a (br_f n8 ⟨rfl, I'⟩))))))))))))))
        · subst e
          have cf : f = 0 ∨ f = 1 ∨ f = 2 ∨ f = 3 ∨ 4 ≤ f := by omega
          rcases cf with rfl | rfl | rfl | rfl | f4
          · exact br_f i0 (br_t iq (br_f (by decide) (br_f (by decide) (br_t rfl ⟨vi, br_f (by decide) (br_f (by decide) (br_f (by decide) (br_f (by decide) (br_t (by decide) (br_f i0 (br_f nq (br_f (by decide) (br_t (by decide) (br_t rfl ⟨vi, rfl, I'⟩)))))))))⟩))))
          · exact br_f i0 (br_t iq (br_f (by decide) (br_f (by decide) (br_f (by decide) (br_t rfl ⟨vi, br_f (by decide) (br_f (by decide) (br_f (by decide) (br_f (by decide) (br_t (by decide) (br_f i0 (br_f nq (br_f (by decide) (br_t (by decide) (br_f (by decide) (br_t rfl ⟨vi, rfl, I'⟩))))))))))⟩)))))
          · exact br_f i0 (br_t iq (br_f (by decide) (br_f (by decide) (br_f (by decide) (br_f (by decide) (br_t rfl ⟨vi, br_f (by decide) (br_f (by decide) (br_f (by decide) (br_f (by decide) (br_t (by decide) (br_f i0 (br_f nq (br_f (by decide) (br_t (by decide) (br_f (by decide) (br_f (by decide) (br_t rfl ⟨vi, rfl, I'⟩)))))))))))⟩))))))
          · exact br_f i0 (br_t iq (br_f (by decide) (br_f (by decide) (br_f (by decide) (br_f (by decide) (br_f (by decide) (br_t rfl ⟨vi, br_f (by decide) (br_f (by decide) (br_f (by decide) (br_f (by decide) (br_t (by decide) (br_f i0 (br_f nq (br_f (by decide) (br_t (by decide) (br_f (by decide) (br_f (by decide) (br_f (by decide) (br_t rfl ⟨vi, rfl, I'⟩))))))))))))⟩)))))))
          · have nf : ∀ b, b < 4 → ¬ nI f = nI b := fun b hb => fa_ne (by omega) (by omega) (by omega)
            have e4 : nI f - 4 = nI (f - 4) := pk_sub (b := 4) f4
            refine br_f i0 (br_t iq (br_f (nI_pos (by omega)) (br_t (nI_lt (a := 3) (by omega) (by omega)) (br_f (nI_nlt (b := 4) f4 (by omega)) (br_f (nI_ge (b := 9) hf (by decide)) ⟨vi, ?_⟩)))))
            have fin : ∀ r : Int32, ((nI (fa_N sG i) ≤ nI (f - 4) → r = -1) ∧ (¬ nI (fa_N sG i) ≤ nI (f - 4) → r = sO (i * 5 + f - 4))) → wpY_query (fun r' => r' = r ∧ T) (sc, oc, nI q, nI n, ca, nc, on, yp, yu, ye, st, yl, yr, al, ap, cb, cn, ac, eu, ea, eb, sU, sL, sK, sE, sG, sO, kx, ky, kd, pl, rl, cm, hv, ba, ad, ex, cy, tc, ss, av, cs, bi, ou) (nI 5) (nI i) (nI f) := by
              intro r hr
              refine br_f (by decide) (br_f (by decide) (br_f (by decide) (br_f (by decide) (br_t (by decide) (br_f i0 (br_f nq (br_f (nI_pos (by omega)) (br_t (nI_le (b := 8) (by omega) (by decide)) (br_f (nf 0 (by decide)) (br_f (nf 1 (by decide)) (br_f (nf 2 (by decide)) (br_f (nf 3 (by decide)) ⟨vi, ?_⟩))))))))))))
              rw [nI_clamp (n := i) (by omega), g1, e4, ha_5, show nI (i * 5 + f) - 4 = nI (i * 5 + f - 4) from pk_sub (b := 4) (by omega), nI_clamp (n := i * 5 + f - 4) (by omega)]
              exact br_c (fun z => ⟨(hr.1 z).symm, I'⟩) (fun z => ⟨vp_in_nI (by omega) (by decide), (hr.2 z).symm, I'⟩)
            rw [nI_clamp (n := i) (by omega), g1, e4, ha_5, show nI (i * 5 + f) - 4 = nI (i * 5 + f - 4) from pk_sub (b := 4) (by omega), nI_clamp (n := i * 5 + f - 4) (by omega)]
            exact br_c (fun z => ⟨vp_in_nI (by omega) (by decide), fin _ (br_f (Int32.not_le.mpr z) rfl)⟩) (fun z => fin _ (br_t (Int32.not_lt.mp z) rfl))
    · refine br_f (by decide) (br_f (by decide) (br_f (by decide) (br_f (by decide) (br_f (by decide) (br_f (by decide) (br_f (by decide) (br_t (by decide) (?_))))))))
      refine hx_await hn S ?_
      refine br_f (by decide) (br_f (by decide) (br_f (by decide) (br_f (by decide) (br_f (by decide) (br_t (by decide) (?_))))))
      exact hy_pending hn S ⟨rfl, I'⟩
    · exact br_f (by decide) (br_f (by decide) (br_f (by decide) (br_f (by decide) (br_f (by decide) (br_f (by decide) (br_f (by decide) (br_f (by decide) (br_t (by decide) (br_f (by decide) (br_f (by decide) (br_f (by decide) (br_f (by decide) (br_f (by decide) (br_f (by decide) (br_t (by decide) (⟨rfl, I'⟩))))))))))))))))
    · refine br_f (by decide) (br_f (by decide) (br_f (by decide) (br_f (by decide) (br_f (by decide) (br_f (by decide) (br_f (by decide) (br_f (by decide) (br_f (by decide) (br_t (by decide) (?_))))))))))
      by_cases hu : fa_R 4 v2
      · refine hx_isBlock (fun _ => br_f (by decide) ?_) (fun z => absurd hu z)
        by_cases c1 : ca = 1
        · refine br_t c1 ?_
          obtain ⟨u, hu4, rfl⟩ := hu
          refine ca_ext hu4 ?_
          refine br_f (by decide) (br_f (by decide) (br_f (by decide) (br_f (by decide) (br_f (by decide) (br_f (by decide) (br_f (by decide) (br_t (by decide) (rq_3' (fun _ => br_t c1 ⟨vp_in_nI hu4 (by decide), ?_, I'⟩) (fun z => absurd ⟨u, hu4, rfl⟩ z)))))))))
          rw [nI_clamp (n := u) (by omega), (hC c1).1 u hu4]
        · exact br_f c1 (br_f (by decide) (br_f (by decide) (br_f (by decide) (br_f (by decide) (br_f (by decide) (br_f (by decide) (br_f (by decide) (br_t (by decide) (rq_3' (fun _ => br_f c1 ⟨rfl, I'⟩) (fun z => absurd hu z))))))))))
      · exact hx_isBlock (fun z => absurd z hu) (fun _ => br_t rfl (br_f (by decide) (br_f (by decide) (br_f (by decide) (br_f (by decide) (br_f (by decide) (br_f (by decide) (br_f (by decide) (br_t (by decide) (rq_3' (fun z => absurd z hu) (fun _ => ⟨rfl, I'⟩)))))))))))
    · exact br_f (by decide) (br_f (by decide) (br_f (by decide) (br_f (by decide) (br_f (by decide) (br_f (by decide) (br_f (by decide) (br_f (by decide) (br_f (by decide) (br_f (by decide) (br_t (by decide) (br_f (by decide) (br_f (by decide) (br_f (by decide) (br_f (by decide) (br_f (by decide) (br_f (by decide) (br_f (by decide) (br_f (by decide) (br_t (by decide) (⟨hyl, I'⟩))))))))))))))))))))
    · exact br_f (by decide) (br_f (by decide) (br_f (by decide) (br_f (by decide) (br_f (by decide) (br_f (by decide) (br_f (by decide) (br_f (by decide) (br_f (by decide) (br_f (by decide) (br_f (by decide) (br_t (by decide) (br_f (by decide) (br_f (by decide) (br_f (by decide) (br_f (by decide) (br_f (by decide) (br_f (by decide) (br_f (by decide) (br_f (by decide) (br_f (by decide) (br_t (by decide) (⟨rfl, I'⟩))))))))))))))))))))))
    · exact br_f (by decide) (br_f (by decide) (br_f (by decide) (br_f (by decide) (br_f (by decide) (br_f (by decide) (br_f (by decide) (br_f (by decide) (br_f (by decide) (br_f (by decide) (br_f (by decide) (br_f (by decide) (br_t (by decide) (br_f (by decide) (br_f (by decide) (br_f (by decide) (br_f (by decide) (br_f (by decide) (br_f (by decide) (br_f (by decide) (br_f (by decide) (br_f (by decide) (br_f (by decide) (br_t (by decide) (⟨rfl, I'⟩))))))))))))))))))))))))
