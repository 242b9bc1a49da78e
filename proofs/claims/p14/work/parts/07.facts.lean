section GFAC
/-! statements -/
def fb_need (k e : Nat) : Nat := if k = 1 then 3 else if k = 2 then 5 else if k = 4 then 5 else if k = 3 then 1 + e else if k = 5 then e / 4 else if k = 6 then 1 else 0
def fb_pl (k p : Nat) : Nat := if k = 1 then (if p = 0 then 1 else 0) else if k = 2 then (if p < 2 then 0 else 2) else if k = 3 then (if p = 0 then 0 else 2) else if k = 4 then (if p = 0 then 2 else if p = 1 then 1 else 0) else if k = 5 then 1 else 0
def fb_xok (k e : Nat) : Prop := (k = 1 ∧ e ≤ 3) ∨ (k = 3 ∧ 1 ≤ e ∧ e ≤ 4) ∨ (k = 5 ∧ e < 16 ∧ e % 4 ≠ 0) ∨ (k ≠ 1 ∧ k ≠ 3 ∧ k ≠ 5 ∧ e = 0)
def fb_al (w c : Nat) : Prop := (w = 2 ∧ c < 10000) ∨ (w = 1 ∧ (fb_FX c ∨ fb_IX c)) ∨ (w = 0 ∧ (c < 10000 ∨ fb_FX c ∨ fb_IX c))
theorem fb_need5 {k e : Nat} (h : fb_xok k e) : fb_need k e ≤ 5 := by
  unfold fb_xok at h
  unfold fb_need
  repeat' split
  all_goals omega
def fs_V (sU sL sK sE sG sO : Nat → Int32) (s : Nat) (full : Prop) : Prop := ∃ u l k e g : Nat, sU s = nI u ∧ u < 4 ∧ sL s = nI l ∧ l < 100 ∧ sK s = nI k ∧ 1 ≤ k ∧ k ≤ 9 ∧ sE s = nI e ∧ fb_xok k e ∧ sG s = nI g ∧
  g ≤ fb_need k e ∧ (full → g = fb_need k e) ∧ ∀ p, p < g → ∃ c, sO (s * 5 + p) = nI c ∧ fb_al (fb_pl k p) c
def fs_S (n : Nat) (sU sL sK sE sG sO : Nat → Int32) (all : Prop) : Prop := ∀ s, s < n → fs_V sU sL sK sE sG sO s (s + 1 < n ∨ all)
def fs_D (al ap ac en cb cn eu ea eb : Nat → Int32) (n : Nat) : Prop :=
  (∀ k, k < 32 → ∃ l, 1 ≤ l ∧ l ≤ 16 ∧ al k = nI l) ∧ ap 0 = 0 ∧ (∀ u, u < 4 → fa_R 4 (ap u)) ∧ (∀ u, u < 4 → fa_R 9 (ac u)) ∧
  (∀ i, i < 32 → fa_R 4 (cb i) ∧ fa_R 8 (cn i) ∧ en i = cb i * 8 + cn i) ∧ n ≤ 16 ∧
  (∀ e, e < n → fa_R 4 (eu e) ∧ (∃ c, fb_FX c ∧ ea e = nI c) ∧ ∃ c, fb_FX c ∧ eb e = nI c)
theorem fb_FXlt {c : Nat} (h : fb_FX c) : c < 20000 := by unfold fb_FX at h; omega
theorem fs_wd {al ap ac en cb cn eu ea eb : Nat → Int32} {n : Nat} (h : fs_D al ap ac en cb cn eu ea eb n) : gd_WD (fa_N al) (fa_N ap) (fa_N ac) (fa_N cb) (fa_N cn) n (fa_N eu) (fa_N ea) (fa_N eb) := by
  obtain ⟨h1, h2, h3, h4, h5, h6, h7⟩ := h
  refine ⟨?_, ?_, ?_, ?_, h6, ?_⟩
  · intro k hk
    obtain ⟨l, a, b, e⟩ := h1 k hk
    rw [fa_Re e (by omega)]
    exact ⟨a, b⟩
  · intro u hu
    have := (fa_Rn (h3 u hu) (by omega)).2
    omega
  · intro u hu
    have := (fa_Rn (h4 u hu) (by omega)).2
    omega
  · intro i hi
    obtain ⟨a, b, _⟩ := h5 i hi
    exact ⟨(fa_Rn a (by omega)).2, (fa_Rn b (by omega)).2⟩
  · intro e he
    obtain ⟨a, ⟨c, c1, c2⟩, d, d1, d2⟩ := h7 e he
    have c3 := fb_FXlt c1
    have d3 := fb_FXlt d1
    rw [fa_Re c2 (by omega), fa_Re d2 (by omega)]
    exact ⟨(fa_Rn a (by omega)).2, c1, d1⟩
def fs_ext (g q al : Nat → Int32) (b : Nat) : Nat → Int32
  | 0 => 0
  | k + 1 => if g k = g (32 + b) ∧ fs_ext g q al b k < q k + al k - q (32 + b) then q k + al k - q (32 + b) else fs_ext g q al b k
def fs_C (n : Nat) (al ap sU sL sK sE sG sO : Nat → Int32) : Prop :=
  (∀ k, k < 32 → ¬ gd_St (fa_N ap) k → al k = 1) ∧
  (∀ s p c, s < n → p < fa_N sG s → sO (s * 5 + p) = nI c → fb_FX c → fb_ix c ≤ fa_N al (fa_N sU s * 8 + fb_nm c)) ∧
  (∀ s p, s < n → p < fa_N sG s → fb_pl (fa_N sK s) p = 2 → fb_FL sU sL n (sU s) (sO (s * 5 + p)) ≠ -1) ∧
  (∀ s, s < n → sK s = 5 → fa_N sE s / 4 = fa_N ap (fa_N sE s % 4))
end GFAC
