section PEQ
/-! the law's loops over the recorded equivalences -/
variable {sc oc ne ns ca on st ra xu xn xe xd : Int32} {al ap ac en eu ea eb sU sL sK sE sG sO gr po ec cx ou tc ss av cs cb cn : Nat → Int32}
variable {post : Int32 → Prop} {xs : Nat → Int32} {N kc ks n u m1 m2 i1 i2 l1 l2 e : Nat} {x6 : Int32} {J307 : Int32 → Int32 → Prop}
theorem pw_433 (b1 : i1 ≤ 16) (b2 : i2 ≤ 16) (c1 : l1 ≤ 16) (c2 : l2 ≤ 16)
    (key : ∀ (P : Int32 → Prop) (i j : Nat), 1 ≤ i → i ≤ l1 → 1 ≤ j → j ≤ l2 → i + i2 = j + i1 → P 1 → wpX_aliased P (sc, oc, nI n, ns, 1, on, st, ra, xu, xn, xe, xd, al, ap, ac, en, eu, ea, eb, sU, sL, sK, sE, sG, sO, gr, po, ec, cx, ou, tc, ss, av, cs) (nI u) (nI (10000 + 100 * m1 + i)) (nI u) (nI (10000 + 100 * m2 + j)))
    (h : J307 x6 (nI (e + 1))) : ∀ d k, k + d = 33 → ∀ z : Int32, z = nI k - 16 → wL_law_433 post N xs J307 x6 (nI e) (nI u) (nI m1) (nI i1) (nI m2) (nI i2) (nI l1) (nI l2) kc ks sc oc (nI n) ns 1 on st ra xu xn xe xd al ap ac en eu ea eb sU sL sK sE sG sO gr po ec cx ou tc ss av cs (d + 1) z := by
  intro d
  induction d with
  | zero =>
    intro k hk z ez
    have e3 : k = 33 := by omega
    subst e3
    subst ez
    exact br_t (by decide) (nm_r (nI_1 e) h)
  | succ d ih =>
    intro k hk z ez
    subst ez
    have go := ih (k + 1) (by omega) _ rfl
    refine br_f (pn_16 (by omega)) ?_
    rw [pn_c i1 k, pn_c i2 k]
    by_cases a : i1 + k < 17
    · exact br_t (pn_lt a) (nm_r (pn_k k) go)
    · rw [pk_sub (a := i1 + k) (b := 16) (by omega)]
      refine br_f (nI_nlt (b := 1) (by omega) (by omega)) (pk_lt l1 (i1 + k - 16) (fun _ => nm_r (pn_k k) go) (fun z1 => ?_))
      by_cases c : i2 + k < 17
      · exact br_t (pn_lt c) (nm_r (pn_k k) go)
      · rw [pk_sub (a := i2 + k) (b := 16) (by omega)]
        refine br_f (nI_nlt (b := 1) (by omega) (by omega)) (pk_lt l2 (i2 + k - 16) (fun _ => nm_r (pn_k k) go) (fun z2 => pq_code (pq_code ?_)))
        exact key _ _ _ (by omega) z1 (by omega) z2 (by omega) (br_f (by decide) (nm_r (pn_k k) go))
theorem pw_399 {k : Nat} (hk : k < 1000) (h : wL_law_407 post N xs J307 x6 (nI e) (nI u) (nI m1) (nI i1) (nI m2) (nI (if k = 0 then 1 else k)) kc ks sc oc ne ns ca on st ra xu xn xe xd al ap ac en eu ea eb sU sL sK sE sG sO gr po ec cx ou tc ss av cs) : wL_law_399 post N xs J307 x6 (nI e) (nI u) (nI m1) (nI i1) (nI m2) (nI k) kc ks sc oc ne ns ca on st ra xu xn xe xd al ap ac en eu ea eb sU sL sK sE sG sO gr po ec cx ou tc ss av cs := by
  refine pk_eq k 0 (fun z => ?_) (fun z => ?_)
  · rw [if_pos z] at h
    exact h
  · rw [if_neg z] at h
    exact h
theorem pw_307 (K : pc_K al ap ac en cb cn eu ea eb gr po ec n) (h : ∃ f, wL_law_526 post N xs (nI n) kc ks sc oc (nI n) ns 1 on st ra xu xn xe xd al ap ac en eu ea eb sU sL sK sE sG sO gr po ec cx ou tc ss av cs f 0) : ∀ d e, e + d = n → wL_law_307 post N xs kc ks sc oc (nI n) ns 1 on st ra xu xn xe xd al ap ac en eu ea eb sU sL sK sE sG sO gr po ec cx ou tc ss av cs (d + 1) (nI e) (nI e) := by
  have D := K.1
  have H := K.2.2.2.1
  have n16 := D.2.2.2.2.2.1
  intro d
  induction d with
  | zero =>
    intro e he
    have z : e = n := by omega
    subst z
    exact pk_le 16 e (fun _ => h) (fun _ => pq_eqN n16 (br_f (by decide) h))
  | succ d ih =>
    intro e he
    have go := ih (e + 1) (by omega)
    have he' : e < n := by omega
    obtain ⟨⟨u1, u2⟩, ⟨a1, a2, a3⟩, ⟨b1, b2, b3⟩⟩ := cn_E D he'
    have m1 := fb_nm8 (Or.inl a2)
    have m2 := fb_nm8 (Or.inl b2)
    have x1 := fb_ix16 a2
    have x2 := fb_ix16 b2
    obtain ⟨_, p1, q1⟩ := cn_A D (k := fa_N eu e * 8 + fb_nm (fa_N ea e)) (by omega)
    obtain ⟨_, p2, q2⟩ := cn_A D (k := fa_N eu e * 8 + fb_nm (fa_N eb e)) (by omega)
    obtain ⟨g1, g2⟩ := pp_eqv H he'
    have fin : wL_law_407 post N xs (wL_law_307 post N xs kc ks sc oc (nI n) ns 1 on st ra xu xn xe xd al ap ac en eu ea eb sU sL sK sE sG sO gr po ec cx ou tc ss av cs (d + 1)) (nI (e + 1)) (nI e) (nI (fa_N eu e)) (nI (fb_nm (fa_N ea e))) (nI (fb_ix (fa_N ea e))) (nI (fb_nm (fa_N eb e))) (nI (fb_ix (fa_N eb e))) kc ks sc oc (nI n) ns 1 on st ra xu xn xe xd al ap ac en eu ea eb sU sL sK sE sG sO gr po ec cx ou tc ss av cs := by
      unfold wL_law_407
      refine pq_len D u2 m1 (pq_len D u2 m2 ⟨33 + 1, ?_⟩)
      refine pw_433 x1 x2 q1 q2 (fun P i j i1 il j1 jl ee hP => ?_) go 33 0 rfl _ (by decide)
      refine pq_al K u2 u2 m1 m2 i1 il j1 jl g1 ?_ hP
      rw [g2]
      have e3 : nI i + nI (fb_ix (fa_N eb e)) = nI j + nI (fb_ix (fa_N ea e)) := by rw [nI_add, nI_add, ee]
      grind
    have ha : ∀ c, fb_FX c → (c - 10000) / 100 = fb_nm c ∧ (if (c - 10000) % 100 = 0 then 1 else (c - 10000) % 100) = fb_ix c := by
      intro c hc
      unfold fb_FX at hc
      have e1 : (c - 10000) % 100 = c % 100 := by omega
      have e2 : (c - 10000) / 100 = c % 10000 / 100 := by omega
      rw [e1, e2]
      exact ⟨rfl, rfl⟩
    obtain ⟨ha1, ha2⟩ := ha _ a2
    obtain ⟨hb1, hb2⟩ := ha _ b2
    rw [← ha1, ← ha2, ← hb1, ← hb2] at fin
    have ga : 10000 ≤ fa_N ea e := by unfold fb_FX at a2; omega
    have gb : 10000 ≤ fa_N eb e := by unfold fb_FX at b2; omega
    refine br_f (nI_ge (b := 16) (by omega) (by decide)) (pq_eq0 n16 he' ?_)
    rw [u1]
    refine br_t (nI_pos' (by omega)) (nm_r (nI_1 e) (pq_eq1 n16 he' ?_))
    rw [a1]
    refine nm_r (show nI (fa_N ea e) - nI 10000 = nI (fa_N ea e - 10000) from pk_sub ga) (pq_eq2 n16 he' ?_)
    rw [b1]
    refine nm_r (show nI (fa_N eb e) - nI 10000 = nI (fa_N eb e - 10000) from pk_sub gb) ⟨by decide, nm_r (ha_d100 (by omega)) ⟨by decide, nm_r (ha_r100 (by omega)) ⟨by decide, nm_r (ha_d100 (by omega)) ⟨by decide, nm_r (ha_r100 (by omega)) ?_⟩⟩⟩⟩
    refine pk_eq ((fa_N ea e - 10000) % 100) 0 (fun z => ?_) (fun z => ?_)
    · rw [if_pos z] at fin
      exact pw_399 (by omega) fin
    · rw [if_neg z] at fin
      exact pw_399 (by omega) fin
end PEQ
