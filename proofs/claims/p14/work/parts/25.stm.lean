section HS2
/-! statement and operand -/
variable {sc oc ne ns ca on st ra xu xn xe xd nc yp yu ye yl yr : Int32} {al ap ac en eu ea eb sU sL sK sE sG sO gr po ec cx ou tc ss av cs cb cn kx ky kd pl rl cm hv ba ad ex cy bi : Nat → Int32}
variable {p0 p1 p2 p3 : Int32} {u m l b n : Nat} {f : Prop}
theorem vs_pend5 (S : fs_S n sU sL sK sE sG sO f) : fb_pend n sK sE sG ≤ 5 := by
  unfold fb_pend
  split
  · omega
  · obtain ⟨_, ⟨_, c2, _⟩, _⟩ := ha_V (S (n - 1) (by omega))
    have := fb_need5 c2
    omega
theorem vs_full (S : fs_S n sU sL sK sE sG sO f) (hp : fb_pend n sK sE sG = 0) : ∀ s, s < n → fs_V sU sL sK sE sG sO s True := by
  intro s hs
  have V := S s hs
  have key : fa_N sG s = fb_need (fa_N sK s) (fa_N sE s) := by
    obtain ⟨_, _, ⟨_, g2, _⟩, _, _, gf, _⟩ := ha_V V
    by_cases e : s + 1 < n
    · exact gf (Or.inl e)
    · have e2 : s = n - 1 := by omega
      unfold fb_pend at hp
      rw [if_neg (by omega), ← e2] at hp
      omega
  obtain ⟨u, l, k, e, g, a1, a2, a3, a4, a5, a6, a7, a8, a9, a10, a11, a12, a13⟩ := V
  have n5 := fb_need5 a9
  rw [fa_Re a10 (by omega), fa_Re a5 (by omega), fa_Re a8 (by unfold fb_xok at a9; omega)] at key
  exact ⟨u, l, k, e, g, a1, a2, a3, a4, a5, a6, a7, a8, a9, a10, a11, fun _ => key, a13⟩
theorem vs_new (S : fs_S n sU sL sK sE sG sO f) (hp : fb_pend n sK sE sG = 0) (nf : ¬ f) (hu : fa_R 4 p0) (hl : fa_R 100 p1) (hx : fa_X p2 p3) :
    fs_S (n + 1) (upd sU n p0) (upd sL n p1) (upd sK n p2) (upd sE n p3) (upd sG n 0) sO f := by
  intro s hs
  by_cases e : s = n
  · subst e
    obtain ⟨u, hu4, rfl⟩ := hu
    obtain ⟨l, hl1, rfl⟩ := hl
    obtain ⟨k, e, k1, k9, rfl, rfl, e16, xo⟩ := hx
    refine ⟨u, l, k, e, 0, pk_us, hu4, pk_us, hl1, pk_us, k1, k9, pk_us, xo, pk_us, Nat.zero_le _, fun z => ?_, fun p hp => absurd hp (Nat.not_lt_zero p)⟩
    rcases z with z | z
    · omega
    · exact absurd z nf
  · obtain ⟨u, l, k, e', g, a1, a2, a3, a4, a5, a6, a7, a8, a9, a10, a11, a12, a13⟩ := vs_full S hp s (by omega)
    exact ⟨u, l, k, e', g, by rw [pk_un e]; exact a1, a2, by rw [pk_un e]; exact a3, a4, by rw [pk_un e]; exact a5, a6, a7, by rw [pk_un e]; exact a8, a9, by rw [pk_un e]; exact a10, a11, fun _ => a12 trivial, a13⟩
theorem vs_more (S : fs_S n sU sL sK sE sG sO f) (nf : ¬ f) (hp : fb_pend n sK sE sG ≠ 0) (ha : fa_A (fb_pl (fa_N sK (n - 1)) (fa_N sG (n - 1))) p0) :
    fs_S n sU sL sK sE (upd sG (n - 1) (nI (fa_N sG (n - 1) + 1))) (upd sO ((n - 1) * 5 + fa_N sG (n - 1)) p0) f := by
  have n0 : n ≠ 0 := by
    intro z
    unfold fb_pend at hp
    rw [if_pos z] at hp
    exact hp rfl
  intro s hs
  have g5 := (ha_V (S (n - 1) (by omega))).2.2.1.2.2
  obtain ⟨u, l, k, e', g, a1, a2, a3, a4, a5, a6, a7, a8, a9, a10, a11, a12, a13⟩ := S s hs
  have n5 := fb_need5 a9
  by_cases e : s = n - 1
  · subst e
    have eg : fa_N sG (n - 1) = g := fa_Re a10 (by omega)
    have ek : fa_N sK (n - 1) = k := fa_Re a5 (by omega)
    have ee : fa_N sE (n - 1) = e' := fa_Re a8 (by unfold fb_xok at a9; omega)
    unfold fb_pend at hp
    rw [if_neg n0, eg, ek, ee] at hp
    rw [eg, ek] at ha
    rw [eg]
    refine ⟨u, l, k, e', g + 1, a1, a2, a3, a4, a5, a6, a7, a8, a9, pk_us, by omega, fun z => ?_, ?_⟩
    · rcases z with z | z
      · omega
      · exact absurd z nf
    · intro p hpg
      by_cases ep : p = g
      · subst ep
        obtain ⟨c, ec1, hc⟩ := ha
        exact ⟨c, by rw [pk_us]; exact ec1, hc⟩
      · obtain ⟨c, ec1, hc⟩ := a13 p (by omega)
        exact ⟨c, by rw [pk_un (by omega)]; exact ec1, hc⟩
  · refine ⟨u, l, k, e', g, a1, a2, a3, a4, a5, a6, a7, a8, a9, by rw [pk_un e]; exact a10, a11, a12, ?_⟩
    intro p hpg
    obtain ⟨c, ec1, hc⟩ := a13 p hpg
    exact ⟨c, by rw [pk_un (by omega)]; exact ec1, hc⟩
theorem vs_n0 (hp : fb_pend n sK sE sG ≠ 0) : n ≠ 0 := by
  intro z
  unfold fb_pend at hp
  rw [if_pos z] at hp
  exact hp rfl
theorem vs_g4 (S : fs_S n sU sL sK sE sG sO f) (hp : fb_pend n sK sE sG ≠ 0) : fa_N sG (n - 1) ≤ 4 := by
  have n0 := vs_n0 hp
  obtain ⟨_, ⟨_, c2, _⟩, _⟩ := ha_V (S (n - 1) (by omega))
  have := fb_need5 c2
  unfold fb_pend at hp
  rw [if_neg n0] at hp
  omega
theorem vs_pl {k p : Nat} : fb_pl k p < 3 := by
  unfold fb_pl
  repeat' split
  all_goals omega
end HS2
