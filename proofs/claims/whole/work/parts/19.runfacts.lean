section HRF
/-! the run's invariant -/
def hr_D (al ap : Nat → Int32) : Prop := (∀ k, k < 32 → ∃ l, 1 ≤ l ∧ l ≤ 16 ∧ al k = nI l) ∧ (∀ u, u < 4 → fa_R 4 (ap u)) ∧ (∀ k, k < 32 → ¬ gd_St (fa_N ap) k → al k = 1)
def hr_R (RC : Nat → Nat → Prop) (n : Nat) (al ap sU ec ad bi cx cy av cs : Nat → Int32) (u : Nat) (l : List Nat) : Prop :=
  fm_Bi RC ∧ fm_Sto RC (fa_N al) (fa_N ap) ec ad ∧ fm_Mem RC cx cy ∧ (∀ w, w ∈ u :: l → fm_Bnd RC (fa_N ap) ec bi w) ∧ (u :: l).Nodup ∧ (∀ w, w < 4 → (av w ≠ 0 ↔ w ∈ u :: l)) ∧ fm_Ch (fun w => fa_N sU (fa_N cs w)) (u :: l) ∧ (∀ w, w ∈ u :: l → w ≠ 0 → fa_R n (cs w))
variable {RC : Nat → Nat → Prop} {n u s : Nat} {l : List Nat} {al ap sU sL sK sE sG sO ec ad bi cx cy av cs : Nat → Int32}
theorem hr_u4 (R : hr_R RC n al ap sU ec ad bi cx cy av cs u l) : u < 4 := fm_ch4 R.2.2.2.2.2.2.1
theorem hr_st (D : hr_D al ap) (R : hr_R RC n al ap sU ec ad bi cx cy av cs u l) : hc_St RC al ap ec ad bi cx cy u :=
  ⟨R.1, R.2.1, R.2.2.1, R.2.2.2.1 u List.mem_cons_self, hr_u4 R, D.1, D.2.1, D.2.2⟩
theorem hr_mem {cx' cy' : Nat → Int32} (R : hr_R RC n al ap sU ec ad bi cx cy av cs u l) (H : hc_St RC al ap ec ad bi cx' cy' u) : hr_R RC n al ap sU ec ad bi cx' cy' av cs u l :=
  ⟨R.1, R.2.1, H.2.2.1, R.2.2.2⟩
theorem hr_act (R : hr_R RC n al ap sU ec ad bi cx cy av cs u l) : av u ≠ 0 := (R.2.2.2.2.2.1 u (hr_u4 R)).mpr List.mem_cons_self
theorem fm_chAll {par : Nat → Nat} : ∀ {l : List Nat}, fm_Ch par l → ∀ x, x ∈ l → x < 4 := by
  intro l
  induction l with
  | nil => intro h; exact absurd h id
  | cons u l ih =>
    intro h x hx
    rcases List.mem_cons.mp hx with e | e
    · rw [e]; exact fm_ch4 h
    · cases l with
      | nil => exact absurd e List.not_mem_nil
      | cons w l' => exact ih h.2.2.2 x e
theorem fm_chC {par par' : Nat → Nat} : ∀ {l : List Nat}, (∀ x, x ∈ l → par x = par' x) → fm_Ch par l → fm_Ch par' l := by
  intro l
  induction l with
  | nil => intro _ h; exact h
  | cons u l ih =>
    intro he h
    cases l with
    | nil => exact h
    | cons w l' => exact ⟨h.1, h.2.1, (he u List.mem_cons_self).symm.trans h.2.2.1, ih (fun x hx => he x (List.mem_cons_of_mem _ hx)) h.2.2.2⟩
theorem hr_leave (W : hr_W n al ap sU sL sK sE sG sO) (R : hr_R RC n al ap sU ec ad bi cx cy av cs u l) (hu : u ≠ 0) :
    ∃ w l' c, l = w :: l' ∧ c < n ∧ cs u = nI c ∧ sU c = nI w ∧ hr_R RC n al ap sU ec ad bi cx cy (upd av u 0) cs w l' := by
  have hn := W.1
  obtain ⟨r1, r2, r3, r4, r5, r6, r7, r8⟩ := R
  obtain ⟨w, l', rfl, u4, pw, ch⟩ := fm_chNe r7 hu
  obtain ⟨c, hc, ec1⟩ := r8 u List.mem_cons_self hu
  have e2 : fa_N cs u = c := fa_Re ec1 (by omega)
  obtain ⟨_, _, _, ⟨hs1, hs2⟩, _⟩ := ha_V (W.2.1 c hc)
  have pw' : fa_N sU (fa_N cs u) = w := pw
  rw [e2] at pw'
  have nd := List.nodup_cons.mp r5
  refine ⟨w, l', c, rfl, hc, ec1, by rw [← pw']; exact hs1, r1, r2, r3, fun x hx => r4 x (List.mem_cons_of_mem _ hx), nd.2, ?_, ch, fun x hx => r8 x (List.mem_cons_of_mem _ hx)⟩
  intro x hx
  by_cases e : x = u
  · subst e
    rw [pk_us]
    exact ⟨fun z => absurd rfl z, fun z => absurd z nd.1⟩
  · rw [pk_un e, r6 x hx]
    constructor
    · intro z
      rcases List.mem_cons.mp z with z | z
      · exact absurd z e
      · exact z
    · exact fun z => List.mem_cons_of_mem _ z
theorem hr_call {v : Nat} {ec' bi' : Nat → Int32} (R : hr_R RC n al ap sU ec ad bi cx cy av cs u l) (hs : s < n) (hn : n ≤ 64) (hus : sU s = nI u) (hv4 : v < 4) (hv0 : v ≠ 0) (hav : av v = 0)
    (S' : fm_Sto RC (fa_N al) (fa_N ap) ec' ad) (Bv : fm_Bnd RC (fa_N ap) ec' bi' v) (K : ∀ w, w < 4 → w ≠ v → fm_Bnd RC (fa_N ap) ec bi w → fm_Bnd RC (fa_N ap) ec' bi' w) :
    hr_R RC n al ap sU ec' ad bi' cx cy (upd av v 1) (upd cs v (nI s)) v (u :: l) := by
  have u4 := hr_u4 R
  obtain ⟨r1, r2, r3, r4, r5, r6, r7, r8⟩ := R
  have nv : v ∉ u :: l := fun z => (r6 v hv4).mpr z hav
  have ne : ∀ x, x ∈ u :: l → x ≠ v := fun x hx e => nv (e ▸ hx)
  refine ⟨r1, S', r3, ?_, List.nodup_cons.mpr ⟨nv, r5⟩, ?_, ⟨hv0, hv4, ?_, fm_chC ?_ r7⟩, ?_⟩
  · intro x hx
    rcases List.mem_cons.mp hx with e | e
    · rw [e]; exact Bv
    · exact K x (fm_chAll r7 x e) (ne x e) (r4 x e)
  · intro x hx
    by_cases e : x = v
    · subst e
      rw [pk_us]
      exact ⟨fun _ => List.mem_cons_self, fun _ => by decide⟩
    · rw [pk_un e, r6 x hx]
      constructor
      · exact fun z => List.mem_cons_of_mem _ z
      · intro z
        rcases List.mem_cons.mp z with z | z
        · exact absurd z e
        · exact z
  · show fa_N sU (fa_N (upd cs v (nI s)) v) = u
    rw [fa_Nu (by omega), if_pos rfl, fa_Re hus (by omega)]
  · intro x hx
    show fa_N sU (fa_N cs x) = fa_N sU (fa_N (upd cs v (nI s)) x)
    rw [fa_Nu (by omega), if_neg (ne x hx)]
  · intro x hx h0
    rcases List.mem_cons.mp hx with e | e
    · rw [e, pk_us]; exact ⟨s, hs, rfl⟩
    · rw [pk_un (ne x e)]; exact r8 x e h0
/-- both sides end, with one answer, in states that ER takes -/
def hr_G (ER : Int32 → SX → SY → Prop) (WX : (Int32 → SX → Prop) → Prop) (WY : (Int32 → SY → Prop) → Prop) : Prop :=
  ∃ r X' Y', ER r X' Y' ∧ (∀ post, post r X' → WX post) ∧ (∀ post, post r Y' → WY post)
theorem hr_Gm {ER : Int32 → SX → SY → Prop} {WX WX' : (Int32 → SX → Prop) → Prop} {WY WY' : (Int32 → SY → Prop) → Prop} (h : hr_G ER WX WY) (hx : ∀ post, WX post → WX' post) (hy : ∀ post, WY post → WY' post) : hr_G ER WX' WY' := by
  obtain ⟨r, X', Y', e, a, b⟩ := h
  exact ⟨r, X', Y', e, fun post z => hx post (a post z), fun post z => hy post (b post z)⟩
end HRF
