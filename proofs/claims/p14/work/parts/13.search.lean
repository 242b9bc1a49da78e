section HSE
/-! searches over the statements, on both sides -/
variable {sc oc ne ns ca on st ra xu xn xe xd nc yp yu ye yl yr : Int32} {al ap ac en eu ea eb sU sL sK sE sG sO gr po ec cx ou tc ss av cs cb cn kx ky kd pl rl cm hv ba ad ex cy bi : Nat → Int32}
variable {post : Int32 → Prop} {u l : Int32} {n : Nat}
def fb_pc (n p : Nat) : Int32 := if p < n then nI p else -1
theorem hs_xfl0 (hn : n ≤ 64) : ∀ d j, j + d = n → post (-1) → wX_findLabel_2 post u 0 sc oc ne (nI n) ca on st ra xu xn xe xd al ap ac en eu ea eb sU sL sK sE sG sO gr po ec cx ou tc ss av cs (d + 1) (nI j) := by
  intro d
  induction d with
  | zero =>
    intro j hj h
    have e : j = n := by omega
    subst e
    exact br_t (nI_le (Nat.le_refl j) (by omega)) h
  | succ d ih =>
    intro j hj h
    exact br_f (nI_ge (by omega) (by omega)) (br_t rfl (nm_r (nI_1 j) (ih (j + 1) (by omega) h)))
theorem hs_xfl (hn : n ≤ 64) (hl : ¬ l = 0) : ∀ d j, j + d = n → post (fb_pc n (fb_fl sU sL u l d j)) → wX_findLabel_2 post u l sc oc ne (nI n) ca on st ra xu xn xe xd al ap ac en eu ea eb sU sL sK sE sG sO gr po ec cx ou tc ss av cs (d + 1) (nI j) := by
  intro d
  induction d with
  | zero =>
    intro j hj h
    have e : j = n := by omega
    subst e
    have h' : post (if j < j then nI j else -1) := h
    rw [if_neg (Nat.lt_irrefl j)] at h'
    exact br_t (nI_le (Nat.le_refl j) (by omega)) h'
  | succ d ih =>
    intro j hj h
    refine br_f (nI_ge (by omega) (by omega)) (br_f hl ⟨vp_in_nI (by omega) (by decide), ?_⟩)
    rw [nI_clamp (by omega)]
    have h' : post (fb_pc n (if sU j = u ∧ sL j = l then j else fb_fl sU sL u l d (j + 1))) := h
    refine br_c (fun z => ⟨vp_in_nI (by omega) (by decide), br_c (fun z' => ?_) (fun z' => ?_)⟩) (fun z => ?_)
    · rw [if_pos ⟨z', z⟩] at h'
      unfold fb_pc at h'
      rw [if_pos (by omega)] at h'
      exact h'
    · rw [if_neg (fun q => z' q.1)] at h'
      exact nm_r (nI_1 j) (ih (j + 1) (by omega) h')
    · rw [if_neg (fun q => z q.2)] at h'
      exact nm_r (nI_1 j) (ih (j + 1) (by omega) h')
theorem hx_findLabel (hn : n ≤ 64) (h : post (fb_FL sU sL n u l)) : wpX_findLabel post (sc, oc, ne, nI n, ca, on, st, ra, xu, xn, xe, xd, al, ap, ac, en, eu, ea, eb, sU, sL, sK, sE, sG, sO, gr, po, ec, cx, ou, tc, ss, av, cs) u l := by
  refine ⟨n + 1, ?_⟩
  unfold fb_FL at h
  by_cases z : l = 0
  · rw [if_pos z] at h
    subst z
    exact hs_xfl0 hn n 0 (by omega) h
  · rw [if_neg z] at h
    exact hs_xfl hn z n 0 (by omega) h
theorem hs_FL (h : fb_FL sU sL n u l ≠ -1) : ∃ t, t < n ∧ fb_FL sU sL n u l = nI t ∧ sU t = u ∧ sL t = l ∧ l ≠ 0 := by
  unfold fb_FL at h ⊢
  by_cases z : l = 0
  · rw [if_pos z] at h
    exact absurd rfl h
  · rw [if_neg z] at h ⊢
    by_cases z' : fb_fl sU sL u l n 0 < n
    · rw [if_pos z'] at h ⊢
      have a := (fb_fl_in sU sL u l n 0).2.2 (by omega)
      exact ⟨_, z', rfl, a.1, a.2, z⟩
    · rw [if_neg z'] at h
      exact absurd rfl h
theorem hs_FLr : fb_FL sU sL n u l = -1 ∨ ∃ t, t < n ∧ fb_FL sU sL n u l = nI t ∧ sU t = u ∧ sL t = l ∧ l ≠ 0 := by
  by_cases h : fb_FL sU sL n u l = -1
  · exact Or.inl h
  · exact Or.inr (hs_FL h)
end HSE
