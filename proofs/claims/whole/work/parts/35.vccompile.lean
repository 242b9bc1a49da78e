/-! the owed statement of compile -/
theorem i_vc_compile {k : Nat} {u : SX} {v : SY} (I : i_Rel k u v) (hk : k + 5 ≤ 2562) : wpX_compile (fun r u' => wpY_compile (fun r' v' => r' = r ∧ i_Rel (k + 5) u' v') v) u := by
  refine i_el (Q := fun u v => wpX_compile (fun r u' => wpY_compile (fun r' v' => r' = r ∧ i_Rel (k + 5) u' v') v) u) I ?_
  intro sc oc ne ns ca on st ra xu xn xe xd nc yp yu ye yl yr al ap ac en eu ea eb sU sL sK sE sG sO gr po ec cx ou tc ss av cs cb cn kx ky kd pl rl cm hv ba ad ex cy bi hsc hoc hD hS hca hyl hra hC
  by_cases c0 : ca = 0
  · subst c0
    obtain ⟨n, hn, rfl, S, _⟩ := hS
    obtain ⟨q, rfl, D⟩ := hD
    have hr0 : ra = 0 ∧ yr = 0 := by
      rcases hra with h | ⟨_, _, h⟩
      · exact h
      · exact absurd h (by decide)
    have fin : ∀ (r : Int32), r ≠ 1 → fa_R 9 r → ∀ (gr po : Nat → Int32) (nc : Int32) (kx ky kd pl cm rl : Nat → Int32), i_Rel (k + 5) (sc, oc, nI q, nI n, r, on, st, ra, xu, xn, xe, xd, al, ap, ac, en, eu, ea, eb, sU, sL, sK, sE, sG, sO, gr, po, ec, cx, ou, tc, ss, av, cs) (sc, oc, nI q, nI n, r, nc, on, yp, yu, ye, st, yl, yr, al, ap, cb, cn, ac, eu, ea, eb, sU, sL, sK, sE, sG, sO, kx, ky, kd, pl, rl, cm, hv, ba, ad, ex, cy, tc, ss, av, cs, bi, ou) := fun r n1 hr gr po nc kx ky kd pl cm rl =>
      i_mk hsc hoc ⟨q, rfl, D⟩ ⟨n, hn, rfl, ck_S S (fun z => absurd z n1), fun z => absurd z n1⟩ hr hyl (Or.inl hr0) (fun z => absurd z n1)
    refine br_t rfl ?_
    refine ck_x hn S D (fun hp => br_f (by decide) ?_) (fun hp d => br_f (by decide) ?_) (fun hp d x => br_f (by decide) ?_) (fun hp d x ns gr' po' => br_f (by decide) ?_) (fun hp d x gr' po' H => ⟨fun j => br_f (by decide) ?_, fun j b => br_f (by decide) ?_, fun j b l => br_f (by decide) ?_, fun j b l w => br_f (by decide) ?_, fun j b l w => br_t rfl ?_⟩)
    · exact br_t rfl (ck_y2 hn S hp ⟨rfl, fin 2 (by decide) ⟨2, by decide, rfl⟩ gr po nc kx ky kd pl cm rl⟩)
    · exact br_t rfl (ck_y3 hn S D hp d ⟨rfl, fin 3 (by decide) ⟨3, by decide, rfl⟩ gr po nc kx ky kd pl cm rl⟩)
    · exact br_t rfl (ck_y4 hn S D hp d x ⟨rfl, fin 4 (by decide) ⟨4, by decide, rfl⟩ gr po nc kx ky kd pl cm rl⟩)
    · exact br_t rfl (ck_y5 hn S D hp d x ns (fun nc kx ky kd pl cm rl => ⟨rfl, fin 5 (by decide) ⟨5, by decide, rfl⟩ gr' po' nc kx ky kd pl cm rl⟩))
    · exact br_t rfl (ck_y hn S D hp d x H (fun _ nc kx ky kd pl cm rl => ⟨rfl, fin 5 (by decide) ⟨5, by decide, rfl⟩ gr' po' nc kx ky kd pl cm rl⟩) (fun z => absurd j z) (fun z => absurd j z) (fun z => absurd j z) (fun z => absurd j z))
    · exact br_t rfl (ck_y hn S D hp d x H (fun z => absurd z j) (fun _ _ nc kx ky kd pl cm rl => ⟨rfl, fin 6 (by decide) ⟨6, by decide, rfl⟩ gr' po' nc kx ky kd pl cm rl⟩) (fun _ z => absurd b z) (fun _ z => absurd b z) (fun _ z => absurd b z))
    · exact br_t rfl (ck_y hn S D hp d x H (fun z => absurd z j) (fun _ z => absurd z b) (fun _ _ _ nc kx ky kd pl cm rl => ⟨rfl, fin 7 (by decide) ⟨7, by decide, rfl⟩ gr' po' nc kx ky kd pl cm rl⟩) (fun _ _ z => absurd l z) (fun _ _ z => absurd l z))
    · exact br_t rfl (ck_y hn S D hp d x H (fun z => absurd z j) (fun _ z => absurd z b) (fun _ _ z => absurd z l) (fun _ _ _ _ nc kx ky kd pl cm rl => ⟨rfl, fin 8 (by decide) ⟨8, by decide, rfl⟩ gr' po' nc kx ky kd pl cm rl⟩) (fun _ _ _ z => absurd w z))
    · refine ca_cells D.1 (fun ec' hec => ?_)
      refine br_t rfl (ck_y hn S D hp d x H (fun z => absurd z j) (fun _ z => absurd z b) (fun _ _ z => absurd z l) (fun _ _ _ z => absurd z w) (fun _ _ _ _ nc kx ky kd pl cm rl hv ba ad ex N HL HA he => ⟨rfl, ?_⟩))
      have hL : ∀ k, k < 32 → 1 ≤ fa_N al k ∧ fa_N al k ≤ 16 := fun k hk => (cn_A D hk).2
      have Str := gd_str (fs_wd D) d (fun z => x (Or.inl z))
      have gf := gc_fin HA HL Str hL
      have mk := fm_make HL hL hec gf.1 gf.2
      exact i_mk hsc hoc ⟨q, rfl, D⟩ ⟨n, hn, rfl, fun s hs => by
        obtain ⟨u, l, k, e, g, a1, a2, a3, a4, a5, a6, a7, a8, a9, a10, a11, a12, a13⟩ := vs_full S hp s hs
        exact ⟨u, l, k, e, g, a1, a2, a3, a4, a5, a6, a7, a8, a9, a10, a11, fun _ => a12 trivial, a13⟩, fun _ => ck_C S D d x l w⟩ ⟨1, by decide, rfl⟩ hyl (Or.inl hr0) (fun _ => ⟨he, _, mk.1, mk.2, fun z => absurd hr0.1 z⟩)
  · exact br_f c0 (br_f c0 ⟨rfl, i_mk hsc hoc hD hS hca hyl hra hC⟩)
