section PPU
/-! the extent and the pairs, in mathematics -/
theorem pn_neg {a b : Nat} (h : a < b) (hb : b < 1000000) : nI a - nI b + 1 < 1 := by
  have e : nI a - nI b + 1 = nI (a + 1) - nI b := by rw [← nI_1]; grind
  rw [e, Int32.lt_iff_toInt_lt, pk_sub_toInt (by omega) (by omega), show (1 : Int32).toInt = 1 from by decide]
  omega
theorem pn_sub {a b : Nat} (h : b ≤ a) : nI a - nI b + 1 = nI (a - b + 1) := by rw [pk_sub h, nI_1]
theorem pn_c (a k : Nat) : nI a + (nI k - 16) = nI (a + k) - nI 16 := by
  rw [← nI_add]
  show nI a + (nI k - nI 16) = nI a + nI k - nI 16
  grind
theorem pn_lt {a : Nat} (h : a < 17) : nI a - nI 16 < 1 := by
  rw [Int32.lt_iff_toInt_lt, pk_sub_toInt (by omega) (by omega), show (1 : Int32).toInt = 1 from by decide]
  omega
theorem pn_16 {k : Nat} (h : k ≤ 32) : ¬ (16 : Int32) < nI k - 16 := by
  show ¬ (16 : Int32) < nI k - nI 16
  rw [Int32.lt_iff_toInt_lt, pk_sub_toInt (by omega) (by omega), show (16 : Int32).toInt = 16 from by decide]
  omega
theorem pn_k (k : Nat) : nI k - 16 + 1 = nI (k + 1) - 16 := by rw [← nI_1]; grind
variable {g q al : Nat → Int32} {b : Nat}
theorem pe_s (k : Nat) : fs_ext g q al b (k + 1) = if g k = g (32 + b) ∧ fs_ext g q al b k < q k + al k - q (32 + b) then q k + al k - q (32 + b) else fs_ext g q al b k := rfl
theorem pe_up (k : Nat) : fs_ext g q al b k ≤ fs_ext g q al b (k + 1) := by
  rw [pe_s]
  by_cases z : g k = g (32 + b) ∧ fs_ext g q al b k < q k + al k - q (32 + b)
  · rw [if_pos z]
    exact Int32.le_of_lt z.2
  · rw [if_neg z]
    exact Int32.le_refl _
theorem pe_0 : ∀ k, (0 : Int32) ≤ fs_ext g q al b k := by
  intro k
  induction k with
  | zero => exact Int32.le_refl _
  | succ k ih => exact Int32.le_trans ih (pe_up k)
theorem pe_ge {k : Nat} (e : g k = g (32 + b)) : ∀ m, k < m → q k + al k - q (32 + b) ≤ fs_ext g q al b m := by
  intro m
  induction m with
  | zero => intro h; exact absurd h (Nat.not_lt_zero k)
  | succ m ih =>
    intro h
    by_cases c : k = m
    · subst c
      rw [pe_s]
      by_cases z : g k = g (32 + b) ∧ fs_ext g q al b k < q k + al k - q (32 + b)
      · rw [if_pos z]
        exact Int32.le_refl _
      · rw [if_neg z]
        exact Int32.not_lt.mp (fun w => z ⟨e, w⟩)
    · exact Int32.le_trans (ih (by omega)) (pe_up m)
theorem pe_le {M : Nat} (h : ∀ k, k < 32 → g k = g (32 + b) → ∃ e, e ≤ M ∧ q k + al k - q (32 + b) = nI e) : ∀ m, m ≤ 32 → ∃ e, e ≤ M ∧ fs_ext g q al b m = nI e := by
  intro m
  induction m with
  | zero => intro _; exact ⟨0, Nat.zero_le M, rfl⟩
  | succ m ih =>
    intro hm
    rw [pe_s]
    by_cases z : g m = g (32 + b) ∧ fs_ext g q al b m < q m + al m - q (32 + b)
    · rw [if_pos z]
      exact h m (by omega) z.1
    · rw [if_neg z]
      exact ih (by omega)
theorem pe_no (h : ∀ k, k < 32 → ¬ g k = g (32 + b)) : ∀ m, m ≤ 32 → fs_ext g q al b m = 0 := by
  intro m
  induction m with
  | zero => intro _; rfl
  | succ m ih =>
    intro hm
    rw [pe_s, if_neg (fun z => h m (by omega) z.1)]
    exact ih (by omega)
variable {L P CC CB CN EU EA EB : Nat → Nat} {n : Nat}
def pm_mx (L CC CB CN : Nat → Nat) (b : Nat) : Nat → Nat
  | 0 => 0
  | u + 1 => max (pm_mx L CC CB CN b u) (gd_off L CB CN u b (CC u))
theorem po_s (u b i : Nat) : gd_off L CB CN u b (i + 1) = gd_off L CB CN u b i + (if CB (u * 8 + i) = b then L (u * 8 + CN (u * 8 + i)) else 0) := rfl
theorem po_t {u b i : Nat} (h : CB (u * 8 + i) = b) : gd_off L CB CN u b (i + 1) = gd_off L CB CN u b i + L (u * 8 + CN (u * 8 + i)) := by rw [po_s, if_pos h]
theorem po_f {u b i : Nat} (h : ¬ CB (u * 8 + i) = b) : gd_off L CB CN u b (i + 1) = gd_off L CB CN u b i := by rw [po_s, if_neg h]; rfl
theorem po_mono {u b i : Nat} : ∀ j, i ≤ j → gd_off L CB CN u b i ≤ gd_off L CB CN u b j := by
  intro j
  induction j with
  | zero => intro h; rw [show i = 0 by omega]; exact Nat.le_refl _
  | succ j ih =>
    intro h
    by_cases c : i = j + 1
    · subst c; exact Nat.le_refl _
    · rw [po_s]
      have := ih (by omega)
      omega
theorem po_last {u b : Nat} : ∀ f, gd_off L CB CN u b f = 0 ∨ ∃ i, i < f ∧ CB (u * 8 + i) = b ∧ gd_off L CB CN u b f = gd_off L CB CN u b i + L (u * 8 + CN (u * 8 + i)) := by
  intro f
  induction f with
  | zero => exact Or.inl rfl
  | succ f ih =>
    by_cases c : CB (u * 8 + f) = b
    · exact Or.inr ⟨f, Nat.lt_succ_self f, c, po_t c⟩
    · rw [po_f c]
      rcases ih with z | ⟨i, hi, a, e⟩
      · exact Or.inl z
      · exact Or.inr ⟨i, by omega, a, e⟩
theorem po_128 (W : gd_WD L P CC CB CN n EU EA EB) {u b i : Nat} (hu : u < 4) (hi : i ≤ 8) : gd_off L CB CN u b i ≤ 128 := by
  have := gd_off_le (L := L) (CB := CB) (CN := CN) (b := b) (fun k hk => (W.1 k hk).2) (fun i hi => (W.2.2.2.1 i hi).2) hu i hi
  omega
theorem pm_128 (W : gd_WD L P CC CB CN n EU EA EB) {b : Nat} : ∀ u, u ≤ 4 → pm_mx L CC CB CN b u ≤ 128 := by
  intro u
  induction u with
  | zero => intro _; exact Nat.zero_le _
  | succ u ih =>
    intro hu
    have a := ih (by omega)
    have c := po_128 (b := b) W (u := u) (i := CC u) (by omega) (W.2.2.1 u (by omega))
    show max (pm_mx L CC CB CN b u) (gd_off L CB CN u b (CC u)) ≤ 128
    omega
theorem pm_ge {b u : Nat} : ∀ v, u < v → gd_off L CB CN u b (CC u) ≤ pm_mx L CC CB CN b v := by
  intro v
  induction v with
  | zero => intro h; exact absurd h (Nat.not_lt_zero u)
  | succ v ih =>
    intro h
    show _ ≤ max (pm_mx L CC CB CN b v) (gd_off L CB CN v b (CC v))
    by_cases c : u = v
    · subst c; omega
    · have := ih (by omega); omega
/-- an entry of COMMON: its slot lies at its offset in its block -/
theorem pp_ent (H : ga_IX (gd_CS L CC CB CN n EU EA EB) (gd_SE L CC CB CN EU EA EB n) g q) {u i : Nat} (hu : u < 4) (hi : i < CC u) :
    g (u * 8 + CN (u * 8 + i)) = g (32 + CB (u * 8 + i)) ∧ q (u * 8 + CN (u * 8 + i)) = q (32 + CB (u * 8 + i)) + nI (gd_off L CB CN u (CB (u * 8 + i)) i) :=
  (H.1 _ _ _ (Or.inl ⟨u, i, hu, hi, Or.inl hu, rfl, rfl, rfl⟩)).2.2
theorem pp_eqv (H : ga_IX (gd_CS L CC CB CN n EU EA EB) (gd_SE L CC CB CN EU EA EB n) g q) {e : Nat} (he : e < n) :
    g (EU e * 8 + fb_nm (EA e)) = g (EU e * 8 + fb_nm (EB e)) ∧ q (EU e * 8 + fb_nm (EA e)) = q (EU e * 8 + fb_nm (EB e)) + (nI (fb_ix (EB e)) - nI (fb_ix (EA e))) :=
  (H.1 _ _ _ (Or.inr ⟨e, he, rfl, rfl, rfl⟩)).2.2
theorem pp_end (H : ga_IX (gd_CS L CC CB CN n EU EA EB) (gd_SE L CC CB CN EU EA EB n) g q) (ha : ∀ k, k < 32 → al k = nI (L k)) (W : gd_WD L P CC CB CN n EU EA EB) {u i : Nat} (hu : u < 4) (hi : i < CC u) (e : CB (u * 8 + i) = b) :
    g (u * 8 + CN (u * 8 + i)) = g (32 + b) ∧ q (u * 8 + CN (u * 8 + i)) + al (u * 8 + CN (u * 8 + i)) - q (32 + b) = nI (gd_off L CB CN u b (i + 1)) := by
  obtain ⟨h1, h2⟩ := pp_ent H hu hi
  have c8 := W.2.2.1 u hu
  have n8 := (W.2.2.2.1 (u * 8 + i) (by omega)).2
  rw [e] at h1 h2
  refine ⟨h1, ?_⟩
  rw [po_t e, h2, ha _ (by omega), ← nI_add]
  grind
theorem pp_ge (H : ga_IX (gd_CS L CC CB CN n EU EA EB) (gd_SE L CC CB CN EU EA EB n) g q) (ha : ∀ k, k < 32 → al k = nI (L k)) (W : gd_WD L P CC CB CN n EU EA EB) : ∀ u, u ≤ 4 → nI (pm_mx L CC CB CN b u) ≤ fs_ext g q al b 32 := by
  intro u
  induction u with
  | zero => intro _; exact pe_0 32
  | succ u ih =>
    intro hu
    have c8 := W.2.2.1 u (by omega)
    show nI (max (pm_mx L CC CB CN b u) (gd_off L CB CN u b (CC u))) ≤ _
    by_cases c : gd_off L CB CN u b (CC u) ≤ pm_mx L CC CB CN b u
    · rw [Nat.max_eq_left c]
      exact ih (by omega)
    · rw [Nat.max_eq_right (by omega)]
      rcases po_last (L := L) (CB := CB) (CN := CN) (u := u) (b := b) (CC u) with z | ⟨i, hi, a, e⟩
      · omega
      · have n8 := (W.2.2.2.1 (u * 8 + i) (by omega)).2
        obtain ⟨h1, h2⟩ := pp_end H ha W (by omega) hi a
        have h3 := pe_ge (g := g) (q := q) (al := al) (b := b) h1 32 (by omega)
        rw [h2, po_t a, ← e] at h3
        exact h3
theorem pp_in (H : ga_IX (gd_CS L CC CB CN 0 EU EA EB) (gd_SE L CC CB CN EU EA EB 0) g q) (W : gd_WD L P CC CB CN 0 EU EA EB) (nj : ¬ gd_JB g) (hb : b < 4) {k : Nat} (hk : k < 32) (e : g k = g (32 + b)) :
    ∃ u i, u < 4 ∧ i < CC u ∧ CB (u * 8 + i) = b ∧ k = u * 8 + CN (u * 8 + i) := by
  have key := H.2.2.1 (fun z => z = 32 + b ∨ ∃ u i, u < 4 ∧ i < CC u ∧ CB (u * 8 + i) = b ∧ z = u * 8 + CN (u * 8 + i)) ?_ k (32 + b) (by omega) (by omega) e
  · rcases key.mpr (Or.inl rfl) with z | z
    · omega
    · exact z
  · intro x y d h
    rcases h with ⟨u, i, hu, hi, rfl, rfl, rfl⟩ | ⟨f, hf, _⟩
    · have c8 := W.2.2.1 u hu
      obtain ⟨b4, n8⟩ := W.2.2.2.1 (u * 8 + i) (by omega)
      by_cases c : CB (u * 8 + i) = b
      · exact ⟨fun _ => Or.inl (by rw [c]), fun _ => Or.inr ⟨u, i, hu, hi, c, rfl⟩⟩
      · constructor
        · rintro (z | ⟨u', i', hu', hi', c', z⟩)
          · omega
          · exfalso
            have h1 := (pp_ent H hu hi).1
            have h2 := (pp_ent H hu' hi').1
            rw [z, h2, c'] at h1
            rcases Nat.lt_or_gt_of_ne c with l | l
            · exact nj ⟨b, CB (u * 8 + i), l, hb, h1⟩
            · exact nj ⟨CB (u * 8 + i), b, l, b4, h1.symm⟩
        · rintro (z | ⟨u', i', hu', hi', c', z⟩)
          · omega
          · have c8' := W.2.2.1 u' hu'
            have n8' := (W.2.2.2.1 (u' * 8 + i') (by omega)).2
            omega
    · exact absurd hf (Nat.not_lt_zero f)
theorem pp_eq (H : ga_IX (gd_CS L CC CB CN 0 EU EA EB) (gd_SE L CC CB CN EU EA EB 0) g q) (ha : ∀ k, k < 32 → al k = nI (L k)) (W : gd_WD L P CC CB CN 0 EU EA EB) (nj : ¬ gd_JB g) (hb : b < 4) : fs_ext g q al b 32 = nI (pm_mx L CC CB CN b 4) := by
  have m1 := pm_128 (b := b) W 4 (Nat.le_refl 4)
  obtain ⟨e, e1, e2⟩ := pe_le (g := g) (q := q) (al := al) (b := b) (M := pm_mx L CC CB CN b 4) (fun k hk h => by
    obtain ⟨u, i, hu, hi, c, rfl⟩ := pp_in H W nj hb hk h
    refine ⟨_, ?_, (pp_end H ha W hu hi c).2⟩
    exact Nat.le_trans (po_mono (CC u) (by omega)) (pm_ge 4 hu)) 32 (Nat.le_refl 32)
  have h := pp_ge (b := b) H ha W 4 (Nat.le_refl 4)
  rw [e2] at h ⊢
  rw [nI_leI (by omega) (by omega)] at h
  rw [show e = pm_mx L CC CB CN b 4 by omega]
theorem pp_none (H : ga_IX (gd_CS L CC CB CN n EU EA EB) (gd_SE L CC CB CN EU EA EB n) g q) (W : gd_WD L P CC CB CN n EU EA EB) (h2 : ∀ i, i < 32 → CB i < 2) (b2 : 2 ≤ b) (hb : b < 4) : fs_ext g q al b 32 = 0 := by
  refine pe_no (fun k hk e => ?_) 32 (Nat.le_refl 32)
  have key := H.2.2.1 (fun z => z = 32 + b) ?_ k (32 + b) (by omega) (by omega) e
  · have := key.mpr rfl
    omega
  · intro x y d h
    rcases h with ⟨u, i, hu, hi, rfl, rfl, rfl⟩ | ⟨f, hf, rfl, rfl, rfl⟩
    · have c8 := W.2.2.1 u hu
      have n8 := (W.2.2.2.1 (u * 8 + i) (by omega)).2
      have := h2 (u * 8 + i) (by omega)
      constructor <;> intro z <;> omega
    · obtain ⟨a1, a2, a3⟩ := W.2.2.2.2.2 f hf
      have n1 := fb_nm8 (Or.inl a2)
      have n2 := fb_nm8 (Or.inl a3)
      constructor <;> intro z <;> omega
end PPU
