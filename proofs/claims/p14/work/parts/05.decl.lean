section GDEC
/-! codes -/
def fb_nm (c : Nat) : Nat := c % 10000 / 100
def fb_ix (c : Nat) : Nat := if c % 100 = 0 then 1 else c % 100
def fb_FX (c : Nat) : Prop := 10000 ≤ c ∧ c < 10800 ∧ c % 100 ≤ 16
def fb_IX (c : Nat) : Prop := 20000 ≤ c ∧ c < 20800 ∧ c % 100 < 8
theorem fb_nm8 {c : Nat} (h : fb_FX c ∨ fb_IX c) : fb_nm c < 8 := by
  unfold fb_FX fb_IX at h
  unfold fb_nm
  omega
theorem fb_ix1 (c : Nat) : 1 ≤ fb_ix c := by
  unfold fb_ix
  split <;> omega
theorem fb_ix16 {c : Nat} (h : fb_FX c) : fb_ix c ≤ 16 := by
  unfold fb_FX at h
  unfold fb_ix
  split <;> omega
/-! offsets within a block of one unit -/
def gd_off (L CB CN : Nat → Nat) (u b : Nat) : Nat → Nat
  | 0 => 0
  | f + 1 => gd_off L CB CN u b f + (if CB (u * 8 + f) = b then L (u * 8 + CN (u * 8 + f)) else 0)
def gd_CS (L CC CB CN : Nat → Nat) (ne : Nat) (EU EA EB : Nat → Nat) : ga_T := fun x y d =>
  (∃ u i, u < 4 ∧ i < CC u ∧ x = u * 8 + CN (u * 8 + i) ∧ y = 32 + CB (u * 8 + i) ∧ d = nI (gd_off L CB CN u (CB (u * 8 + i)) i)) ∨
  (∃ e, e < ne ∧ x = EU e * 8 + fb_nm (EA e) ∧ y = EU e * 8 + fb_nm (EB e) ∧ d = nI (fb_ix (EB e)) - nI (fb_ix (EA e)))
variable {L P CC CB CN EU EA EB : Nat → Nat} {ne : Nat}
theorem gd_off_le {u b : Nat} (h : ∀ k, k < 32 → L k ≤ 16) (hn : ∀ i, i < 32 → CN i < 8) (hu : u < 4) : ∀ i, i ≤ 8 → gd_off L CB CN u b i ≤ i * 16 := by
  intro i
  induction i with
  | zero => intro _; exact Nat.le_refl 0
  | succ i ih =>
    intro hi
    have a := ih (by omega)
    have n := hn (u * 8 + i) (by omega)
    have l := h (u * 8 + CN (u * 8 + i)) (by omega)
    show gd_off L CB CN u b i + (if CB (u * 8 + i) = b then L (u * 8 + CN (u * 8 + i)) else 0) ≤ _
    split <;> omega
theorem gd_off_fill {u b : Nat} : ∀ i s, s < gd_off L CB CN u b i → ∃ f, f < i ∧ CB (u * 8 + f) = b ∧ gd_off L CB CN u b f ≤ s ∧ s < gd_off L CB CN u b f + L (u * 8 + CN (u * 8 + f)) := by
  intro i
  induction i with
  | zero => intro s h; exact absurd h (Nat.not_lt_zero s)
  | succ i ih =>
    intro s h
    by_cases a : s < gd_off L CB CN u b i
    · obtain ⟨f, h1, h2, h3, h4⟩ := ih s a
      exact ⟨f, by omega, h2, h3, h4⟩
    · have h' : s < gd_off L CB CN u b i + (if CB (u * 8 + i) = b then L (u * 8 + CN (u * 8 + i)) else 0) := h
      by_cases c : CB (u * 8 + i) = b
      · rw [if_pos c] at h'
        exact ⟨i, by omega, c, by omega, h'⟩
      · rw [if_neg c] at h'
        omega
def gd_DB (L P CC CN : Nat → Nat) (ne : Nat) (EU EA EB : Nat → Nat) : Prop :=
  (∃ k, k < 32 ∧ k % 8 < P (k / 8) ∧ 1 < L k) ∨ (∃ u i, u < 4 ∧ i < CC u ∧ CN (u * 8 + i) < P u) ∨
  (∃ e, e < ne ∧ (fb_nm (EA e) < P (EU e) ∨ fb_nm (EB e) < P (EU e)))
def gd_XE (L : Nat → Nat) (ne : Nat) (EU EA EB : Nat → Nat) : Prop :=
  ∃ e, e < ne ∧ (L (EU e * 8 + fb_nm (EA e)) < fb_ix (EA e) ∨ L (EU e * 8 + fb_nm (EB e)) < fb_ix (EB e))
def gd_St (P : Nat → Nat) (k : Nat) : Prop := ¬ k % 8 < P (k / 8)
def gd_WD (L P CC CB CN : Nat → Nat) (ne : Nat) (EU EA EB : Nat → Nat) : Prop :=
  (∀ k, k < 32 → 1 ≤ L k ∧ L k ≤ 16) ∧ (∀ u, u < 4 → P u ≤ 3) ∧ (∀ u, u < 4 → CC u ≤ 8) ∧ (∀ i, i < 32 → CB i < 4 ∧ CN i < 8) ∧ ne ≤ 16 ∧
  (∀ e, e < ne → EU e < 4 ∧ fb_FX (EA e) ∧ fb_FX (EB e))
theorem gd_cs36 (W : gd_WD L P CC CB CN ne EU EA EB) {x y : Nat} {d : Int32} (h : gd_CS L CC CB CN ne EU EA EB x y d) : x < 36 ∧ y < 36 ∧ -128 ≤ d.toInt ∧ d.toInt ≤ 128 := by
  obtain ⟨w1, w2, w3, w4, w5, w6⟩ := W
  rcases h with ⟨u, i, hu, hi, rfl, rfl, rfl⟩ | ⟨e, he, rfl, rfl, rfl⟩
  · have c := w3 u hu
    have n := w4 (u * 8 + i) (by omega)
    have o := gd_off_le (L := L) (CB := CB) (CN := CN) (b := CB (u * 8 + i)) (fun k hk => (w1 k hk).2) (fun i hi => (w4 i hi).2) hu i (by omega)
    rw [nI_toInt (by omega)]
    omega
  · obtain ⟨a, b, c⟩ := w6 e he
    have n1 := fb_nm8 (Or.inl b)
    have n2 := fb_nm8 (Or.inl c)
    have i1 := fb_ix16 b
    have i2 := fb_ix16 c
    have j1 := fb_ix1 (EA e)
    have j2 := fb_ix1 (EB e)
    rw [pk_sub_toInt (by omega) (by omega)]
    omega
theorem gd_str (W : gd_WD L P CC CB CN ne EU EA EB) (nd : ¬ gd_DB L P CC CN ne EU EA EB) (nx : ¬ gd_XE L ne EU EA EB) : gb_Str L (gd_St P) (gd_CS L CC CB CN ne EU EA EB) := by
  obtain ⟨w1, w2, w3, w4, w5, w6⟩ := W
  have sc : ∀ u i, u < 4 → i < CC u → gd_St P (u * 8 + CN (u * 8 + i)) := by
    intro u i hu hi z
    have c := w3 u hu
    have n := w4 (u * 8 + i) (by omega)
    have e1 : (u * 8 + CN (u * 8 + i)) % 8 = CN (u * 8 + i) := by omega
    have e2 : (u * 8 + CN (u * 8 + i)) / 8 = u := by omega
    rw [e1, e2] at z
    exact nd (Or.inr (Or.inl ⟨u, i, hu, hi, z⟩))
  intro x y d h
  rcases h with ⟨u, i, hu, hi, rfl, rfl, rfl⟩ | ⟨e, he, rfl, rfl, rfl⟩
  · right
    have c := w3 u hu
    have n := w4 (u * 8 + i) (by omega)
    have o := gd_off_le (L := L) (CB := CB) (CN := CN) (b := CB (u * 8 + i)) (fun k hk => (w1 k hk).2) (fun i hi => (w4 i hi).2) hu i (by omega)
    refine ⟨by omega, sc u i hu hi, by omega, by omega, _, by omega, rfl, ?_⟩
    intro s hs
    obtain ⟨f, f1, f2, f3, f4⟩ := gd_off_fill i s hs
    have n' := w4 (u * 8 + f) (by omega)
    exact ⟨u * 8 + CN (u * 8 + f), _, Or.inl ⟨u, f, hu, by omega, rfl, by rw [f2], by rw [f2]⟩, by omega, sc u f hu (by omega), f3, f4⟩
  · left
    obtain ⟨a, b, c⟩ := w6 e he
    have n1 := fb_nm8 (Or.inl b)
    have n2 := fb_nm8 (Or.inl c)
    have d1 : ∀ n, n < 8 → (EU e * 8 + n) % 8 = n ∧ (EU e * 8 + n) / 8 = EU e := by intro n hn; omega
    refine ⟨by omega, by omega, ?_, ?_, fb_ix (EA e), fb_ix (EB e), fb_ix1 _, ?_, fb_ix1 _, ?_, rfl⟩
    · intro z
      rw [(d1 _ n1).1, (d1 _ n1).2] at z
      exact nd (Or.inr (Or.inr ⟨e, he, Or.inl z⟩))
    · intro z
      rw [(d1 _ n2).1, (d1 _ n2).2] at z
      exact nd (Or.inr (Or.inr ⟨e, he, Or.inr z⟩))
    · exact Nat.le_of_not_lt fun z => nx ⟨e, he, Or.inl z⟩
    · exact Nat.le_of_not_lt fun z => nx ⟨e, he, Or.inr z⟩
theorem gd_alone (hs : gb_Str L (gd_St P) (gd_CS L CC CB CN ne EU EA EB)) {k : Nat} (hk : k < 32) (d : ¬ gd_St P k) (z : Nat) (v : Int32) :
    ¬ gd_CS L CC CB CN ne EU EA EB k z v ∧ ¬ gd_CS L CC CB CN ne EU EA EB z k v := by
  constructor
  · intro h
    rcases hs k z v h with ⟨_, _, s, _⟩ | ⟨_, s, _⟩
    · exact d s
    · exact d s
  · intro h
    rcases hs z k v h with ⟨_, _, _, s, _⟩ | ⟨_, _, y1, _⟩
    · exact d s
    · omega
def gd_SX (L CC CB CN : Nat → Nat) (u b i : Nat) : ga_T := fun x y d =>
  ∃ u' i', u' < 4 ∧ i' < CC u' ∧ (u' < u ∨ (u' = u ∧ (CB (u' * 8 + i') < b ∨ (CB (u' * 8 + i') = b ∧ i' < i)))) ∧
    x = u' * 8 + CN (u' * 8 + i') ∧ y = 32 + CB (u' * 8 + i') ∧ d = nI (gd_off L CB CN u' (CB (u' * 8 + i')) i')
def gd_SE (L CC CB CN : Nat → Nat) (EU EA EB : Nat → Nat) (e : Nat) : ga_T := fun x y d =>
  gd_SX L CC CB CN 4 0 0 x y d ∨ (∃ f, f < e ∧ x = EU f * 8 + fb_nm (EA f) ∧ y = EU f * 8 + fb_nm (EB f) ∧ d = nI (fb_ix (EB f)) - nI (fb_ix (EA f)))
theorem gd_ixMono {C S S' : ga_T} {g q : Nat → Int32} (H : ga_IX C S g q) (h : ∀ x y d, S' x y d → S x y d) : ga_IX C S' g q :=
  ⟨fun x y d z => H.1 x y d (h x y d z), H.2⟩
theorem gd_sx0 {x y : Nat} {d : Int32} : ¬ gd_SX L CC CB CN 0 0 0 x y d := by
  rintro ⟨u', i', h1, h2, h3, _⟩
  omega
theorem gd_sxi {u b i : Nat} (hb : CB (u * 8 + i) = b) {x y : Nat} {d : Int32} (h : gd_SX L CC CB CN u b (i + 1) x y d) :
    gd_SX L CC CB CN u b i x y d ∨ (x = u * 8 + CN (u * 8 + i) ∧ y = 32 + b ∧ d = nI (gd_off L CB CN u b i)) := by
  obtain ⟨u', i', h1, h2, h3, h4, h5, h6⟩ := h
  by_cases e : u' = u ∧ i' = i
  · obtain ⟨rfl, rfl⟩ := e
    right
    exact ⟨h4, by rw [h5, hb], by rw [h6, hb]⟩
  · left
    refine ⟨u', i', h1, h2, ?_, h4, h5, h6⟩
    omega
theorem gd_sxk {u b i : Nat} (hb : CB (u * 8 + i) ≠ b) {x y : Nat} {d : Int32} (h : gd_SX L CC CB CN u b (i + 1) x y d) : gd_SX L CC CB CN u b i x y d := by
  obtain ⟨u', i', h1, h2, h3, h4, h5, h6⟩ := h
  refine ⟨u', i', h1, h2, ?_, h4, h5, h6⟩
  by_cases e : u' = u ∧ i' = i
  · obtain ⟨rfl, rfl⟩ := e
    omega
  · omega
theorem gd_sxb {u b : Nat} {x y : Nat} {d : Int32} (h : gd_SX L CC CB CN u (b + 1) 0 x y d) : gd_SX L CC CB CN u b (CC u) x y d := by
  obtain ⟨u', i', h1, h2, h3, h4, h5, h6⟩ := h
  refine ⟨u', i', h1, h2, ?_, h4, h5, h6⟩
  by_cases e : u' = u
  · subst e; omega
  · omega
theorem gd_sxu {u : Nat} (hc : ∀ i, i < 32 → CB i < 4) (hu : u < 4) (hcc : CC u ≤ 8) {x y : Nat} {d : Int32} (h : gd_SX L CC CB CN (u + 1) 0 0 x y d) : gd_SX L CC CB CN u 4 0 x y d := by
  obtain ⟨u', i', h1, h2, h3, h4, h5, h6⟩ := h
  refine ⟨u', i', h1, h2, ?_, h4, h5, h6⟩
  by_cases e : u' = u
  · subst e
    have := hc (u' * 8 + i') (by omega)
    omega
  · omega
theorem gd_see {e : Nat} {x y : Nat} {d : Int32} (h : gd_SE L CC CB CN EU EA EB (e + 1) x y d) :
    gd_SE L CC CB CN EU EA EB e x y d ∨ (x = EU e * 8 + fb_nm (EA e) ∧ y = EU e * 8 + fb_nm (EB e) ∧ d = nI (fb_ix (EB e)) - nI (fb_ix (EA e))) := by
  rcases h with h | ⟨f, hf, h1, h2, h3⟩
  · exact Or.inl (Or.inl h)
  · by_cases z : f = e
    · subst z
      exact Or.inr ⟨h1, h2, h3⟩
    · exact Or.inl (Or.inr ⟨f, by omega, h1, h2, h3⟩)
theorem gd_se0 {x y : Nat} {d : Int32} (h : gd_SE L CC CB CN EU EA EB 0 x y d) : gd_SX L CC CB CN 4 0 0 x y d := by
  rcases h with h | ⟨f, hf, _⟩
  · exact h
  · omega
theorem gd_cse {x y : Nat} {d : Int32} (h : gd_CS L CC CB CN ne EU EA EB x y d) : gd_SE L CC CB CN EU EA EB ne x y d := by
  rcases h with ⟨u, i, hu, hi, h1, h2, h3⟩ | h
  · exact Or.inl ⟨u, i, hu, hi, Or.inl hu, h1, h2, h3⟩
  · exact Or.inr h
/-! searches over the statements -/
def fb_nx (U : Nat → Int32) (u : Int32) : Nat → Nat → Nat
  | 0, j => j
  | d + 1, j => if U j = u then j else fb_nx U u d (j + 1)
def fb_fl (U B : Nat → Int32) (u l : Int32) : Nat → Nat → Nat
  | 0, j => j
  | d + 1, j => if U j = u ∧ B j = l then j else fb_fl U B u l d (j + 1)
theorem fb_nx_in (U : Nat → Int32) (u : Int32) : ∀ d j, j ≤ fb_nx U u d j ∧ fb_nx U u d j ≤ j + d ∧ (fb_nx U u d j < j + d → U (fb_nx U u d j) = u) := by
  intro d
  induction d with
  | zero => intro j; exact ⟨Nat.le_refl j, Nat.le_refl j, fun h => absurd h (Nat.lt_irrefl j)⟩
  | succ d ih =>
    intro j
    show j ≤ (if U j = u then j else fb_nx U u d (j + 1)) ∧ (if U j = u then j else fb_nx U u d (j + 1)) ≤ j + (d + 1) ∧ ((if U j = u then j else fb_nx U u d (j + 1)) < j + (d + 1) → U (if U j = u then j else fb_nx U u d (j + 1)) = u)
    by_cases e : U j = u
    · rw [if_pos e]
      exact ⟨Nat.le_refl j, by omega, fun _ => e⟩
    · rw [if_neg e]
      obtain ⟨a, b, c⟩ := ih (j + 1)
      exact ⟨by omega, by omega, fun h => c (by omega)⟩
theorem fb_fl_in (U B : Nat → Int32) (u l : Int32) : ∀ d j, j ≤ fb_fl U B u l d j ∧ fb_fl U B u l d j ≤ j + d ∧ (fb_fl U B u l d j < j + d → U (fb_fl U B u l d j) = u ∧ B (fb_fl U B u l d j) = l) := by
  intro d
  induction d with
  | zero => intro j; exact ⟨Nat.le_refl j, Nat.le_refl j, fun h => absurd h (Nat.lt_irrefl j)⟩
  | succ d ih =>
    intro j
    show j ≤ (if U j = u ∧ B j = l then j else fb_fl U B u l d (j + 1)) ∧ (if U j = u ∧ B j = l then j else fb_fl U B u l d (j + 1)) ≤ j + (d + 1) ∧ ((if U j = u ∧ B j = l then j else fb_fl U B u l d (j + 1)) < j + (d + 1) → U (if U j = u ∧ B j = l then j else fb_fl U B u l d (j + 1)) = u ∧ B (if U j = u ∧ B j = l then j else fb_fl U B u l d (j + 1)) = l)
    by_cases e : U j = u ∧ B j = l
    · rw [if_pos e]
      exact ⟨Nat.le_refl j, by omega, fun _ => e⟩
    · rw [if_neg e]
      obtain ⟨a, b, c⟩ := ih (j + 1)
      exact ⟨by omega, by omega, fun h => c (by omega)⟩
def fb_FL (U B : Nat → Int32) (n : Nat) (u l : Int32) : Int32 := if l = 0 then -1 else if fb_fl U B u l n 0 < n then nI (fb_fl U B u l n 0) else -1
end GDEC
