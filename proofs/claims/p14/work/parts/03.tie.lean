section GTIE
/-! both layouts of one set of constraints; cells; addresses -/
def gb_Lay (C : ga_T) (g q cm rl : Nat → Int32) : Prop :=
  (∀ x y, x < 36 → y < 36 → (g x = g y ↔ cm x = cm y)) ∧
  (∀ x y, x < 36 → y < 36 → g x = g y → q x - q y = rl x - rl y) ∧
  (∀ x, x < 36 → -4608 ≤ (rl x).toInt ∧ (rl x).toInt ≤ 4608) ∧
  (∀ x, x < 36 → -9216 ≤ (q x).toInt ∧ (q x).toInt ≤ 9216) ∧
  (∀ x, x < 36 → ∃ j, j < 36 ∧ cm x = nI j) ∧
  (∀ x y d, C x y d → x < 36 ∧ y < 36 ∧ cm x = cm y ∧ rl x = rl y + d) ∧
  (∀ Q, ga_Cl C Q → ∀ x y, x < 36 → y < 36 → cm x = cm y → (Q x ↔ Q y))
theorem gb_sol {C S : ga_T} {g q : Nat → Int32} (HX : ga_IX C S g q) (hS : ∀ x y d, C x y d → S x y d) : ∃ p, ga_Sol C p :=
  ⟨q, fun x y d h => (HX.1 x y d (hS x y d h)).2.2.2⟩
theorem gb_tie {fx fy : Nat → Nat} {D : Nat → Int32} {m : Nat} {S : ga_T} {g q pl cm rl : Nat → Int32} (HX : ga_IX (ga_C fx fy D m) S g q) (hS : ∀ x y d, ga_C fx fy D m x y d → S x y d)
    (HY : ga_IY fx fy D m 36 (fun z => pl z ≠ 0) pl cm rl) (hp : ∀ z, z < 36 → pl z ≠ 0) (hm : ∀ c, c < m → fx c < 36 ∧ fy c < 36) : gb_Lay (ga_C fx fy D m) g q cm rl := by
  obtain ⟨x1, x2, x3, x4⟩ := HX
  obtain ⟨y1, y2, y3, y4, y5, y6, y7⟩ := HY
  have ys : ∀ x y d, ga_C fx fy D m x y d → x < 36 ∧ y < 36 ∧ cm x = cm y ∧ rl x = rl y + d := by
    rintro x y d ⟨c, hc, rfl, rfl, rfl⟩
    exact ⟨(hm c hc).1, (hm c hc).2, y3 c hc (hp _ (hm c hc).1)⟩
  have sq : ga_Sol (ga_C fx fy D m) q := fun x y d h => (x1 x y d (hS x y d h)).2.2.2
  have gi : ∀ x y, x < 36 → y < 36 → (g x = g y ↔ cm x = cm y) := by
    intro x y hx hy
    constructor
    · intro e
      have := x3 (fun z => cm z = cm x) (fun a b d h => by show (cm a = cm x) ↔ (cm b = cm x); rw [(ys a b d h).2.2.1]) x y hx hy e
      exact (this.mp rfl).symm
    · intro e
      have := y6 (fun z => g z = g x) (fun a b d h => by show (g a = g x) ↔ (g b = g x); rw [(x1 a b d (hS a b d h)).2.2.1]) x y hx hy (hp x hx) (hp y hy) e
      exact (this.mp rfl).symm
  have gp : ∀ x y, x < 36 → y < 36 → g x = g y → q x - q y = rl x - rl y :=
    fun x y hx hy e => y5 q sq x y hx hy (hp x hx) (hp y hy) ((gi x y hx hy).mp e)
  have br : ∀ x, x < 36 → -4608 ≤ (rl x).toInt ∧ (rl x).toInt ≤ 4608 := by
    intro x hx
    have b := y7 x hx (hp x hx)
    have c := ga_cnt_le pl 36
    omega
  refine ⟨gi, gp, br, ?_, ?_, ys, ?_⟩
  · intro x hx
    obtain ⟨j, hj, e1, e2, e3⟩ := x4 x hx
    have e4 := gp x j hx hj (e1.trans e2.symm)
    have e5 : q x = rl x - rl j := by rw [e3] at e4; grind
    have b1 := br x hx
    have b2 := br j hj
    rw [e5, ga_subT (by omega) (by omega)]
    omega
  · intro x hx
    obtain ⟨_, j, hj, e⟩ := y2 x hx (hp x hx)
    exact ⟨j, hj, e⟩
  · intro Q hQ x y hx hy e
    exact y6 Q hQ x y hx hy (hp x hx) (hp y hy) e
variable {C : ga_T} {g q cm rl : Nat → Int32}
theorem gb_lt (H : gb_Lay C g q cm rl) {x y : Nat} (hx : x < 36) (hy : y < 36) (e : g x = g y) : q x < q y ↔ rl x < rl y := by
  obtain ⟨_, h2, h3, h4, _⟩ := H
  have e1 := congrArg Int32.toInt (h2 x y hx hy e)
  have a1 := h3 x hx
  have a2 := h3 y hy
  have a3 := h4 x hx
  have a4 := h4 y hy
  rw [ga_subT (by omega) (by omega), ga_subT (by omega) (by omega)] at e1
  rw [Int32.lt_iff_toInt_lt, Int32.lt_iff_toInt_lt]
  omega
theorem gb_alone (H : gb_Lay C g q cm rl) {k y : Nat} (hk : k < 36) (hy : y < 36) (n : ∀ z d, ¬ C k z d ∧ ¬ C z k d) (e : cm k = cm y) : y = k := by
  have := H.2.2.2.2.2.2 (fun z => z = k) (fun a b d h => ⟨fun z => absurd (z ▸ h) (n b d).1, fun z => absurd (z ▸ h) (n a d).2⟩) k y hk hy e
  exact this.mp rfl
def gb_Str (L : Nat → Nat) (St : Nat → Prop) (C : ga_T) : Prop := ∀ x y d, C x y d →
  (x < 32 ∧ y < 32 ∧ St x ∧ St y ∧ ∃ ia ib : Nat, 1 ≤ ia ∧ ia ≤ L x ∧ 1 ≤ ib ∧ ib ≤ L y ∧ d = nI ib - nI ia) ∨
  (x < 32 ∧ St x ∧ 32 ≤ y ∧ y < 36 ∧ ∃ o : Nat, o ≤ 128 ∧ d = nI o ∧ ∀ s, s < o → ∃ x' o', C x' y (nI o') ∧ x' < 32 ∧ St x' ∧ o' ≤ s ∧ s < o' + L x')
theorem gb_nIT {n : Nat} (h : n ≤ 1000) : (nI n).toInt = (n : Int) := nI_toInt (by omega)
theorem gb_cover {L : Nat → Nat} {St : Nat → Prop} (H : gb_Lay C g q cm rl) (hs : gb_Str L St C) (hL : ∀ k, k < 32 → 1 ≤ L k ∧ L k ≤ 16) {k1 k2 : Nat} {t : Int} (h1 : k1 < 32) (h2 : k2 < 32) (s1 : St k1) (ec : cm k1 = cm k2)
    (l1 : (rl k1).toInt ≤ t) (l2 : t < (rl k2).toInt + L k2) : ∃ k, k < 32 ∧ St k ∧ cm k = cm k1 ∧ (rl k).toInt ≤ t ∧ t < (rl k).toInt + L k := by
  apply Classical.byContradiction
  intro hn
  have nc : ∀ k, k < 32 → St k → cm k = cm k1 → t < (rl k).toInt ∨ (rl k).toInt + L k ≤ t := by
    intro k hk sk ek
    by_cases a : t < (rl k).toInt
    · exact Or.inl a
    · by_cases b : (rl k).toInt + L k ≤ t
      · exact Or.inr b
      · exact absurd ⟨k, hk, sk, ek, by omega, by omega⟩ hn
  obtain ⟨_, _, hb, _, _, hy, hQ⟩ := H
  have key := hQ (fun z => cm z = cm k1 ∧ (if z < 32 then (rl z).toInt + L z ≤ t else (rl z).toInt ≤ t)) ?_ k1 k2 (by omega) (by omega) ec
  · simp only [if_pos h1, if_pos h2] at key
    have a := nc k1 h1 s1 rfl
    have b := key.mp ⟨by trivial, by omega⟩
    omega
  · intro x y d hc
    obtain ⟨hx, hyy, e1, e2⟩ := hy x y d hc
    have bx := hb x hx
    have by' := hb y hyy
    rcases hs x y d hc with ⟨x3, y3, sx, sy, ia, ib, a1, a2, b1, b2, ed⟩ | ⟨x3, sx, y1, y2, o, ho, ed, hf⟩
    · have lx := hL x x3
      have ly := hL y y3
      have e3 : (rl x).toInt = (rl y).toInt + (ib - ia) := by
        rw [e2, ed, ga_addT (by omega) (by rw [pk_sub_toInt (by omega) (by omega)]; omega), pk_sub_toInt (by omega) (by omega)]
      simp only [if_pos x3, if_pos y3]
      constructor
      · rintro ⟨c1, c2⟩
        have := nc y y3 sy (e1.symm.trans c1)
        exact ⟨e1.symm.trans c1, by omega⟩
      · rintro ⟨c1, c2⟩
        have := nc x x3 sx (e1.trans c1)
        exact ⟨e1.trans c1, by omega⟩
    · have lx := hL x x3
      have e3 : (rl x).toInt = (rl y).toInt + o := by
        rw [e2, ed, ga_addT (by omega) (by rw [gb_nIT (by omega)]; omega), gb_nIT (by omega)]
      simp only [if_pos x3, if_neg (show ¬ y < 32 by omega)]
      constructor
      · rintro ⟨c1, c2⟩
        exact ⟨e1.symm.trans c1, by omega⟩
      · rintro ⟨c1, c2⟩
        refine ⟨e1.trans c1, ?_⟩
        rcases nc x x3 sx (e1.trans c1) with z | z
        · exfalso
          obtain ⟨x', o', hc', x3', sx', l3, l4⟩ := hf (t - (rl y).toInt).toNat (by omega)
          obtain ⟨_, _, f1, f2⟩ := hy x' y _ hc'
          have lx' := hL x' x3'
          have f3 : (rl x').toInt = (rl y).toInt + o' := by
            rw [f2, ga_addT (by omega) (by rw [gb_nIT (by omega)]; omega), gb_nIT (by omega)]
          have := nc x' x3' sx' (f1.trans c1)
          omega
        · exact z
def gb_Fst (g q : Nat → Int32) (L : Nat → Nat) (k i e : Nat) : Prop := ∃ o j, o < 32 ∧ e = o * 16 + j - 1 ∧ 1 ≤ j ∧ j ≤ L o ∧ j ≤ 16 ∧ g o = g k ∧ q k + nI i = q o + nI j ∧
  ∀ o', o' < o → ∀ j', 1 ≤ j' → j' ≤ L o' → g o' = g k → q k + nI i ≠ q o' + nI j'
theorem gb_fst_lt {L : Nat → Nat} {k i e : Nat} (h : gb_Fst g q L k i e) : e < 512 := by
  obtain ⟨o, j, ho, he, h1, _, h3, _⟩ := h
  omega
theorem gb_fst_iff {L : Nat → Nat} {k i e k' i' e' : Nat} (h : gb_Fst g q L k i e) (h' : gb_Fst g q L k' i' e') : e = e' ↔ (g k = g k' ∧ q k + nI i = q k' + nI i') := by
  obtain ⟨o, j, ho, he, h1, h2, h3, h4, h5, h6⟩ := h
  obtain ⟨o', j', ho', he', h1', h2', h3', h4', h5', h6'⟩ := h'
  constructor
  · intro e0
    have eo : o = o' := by omega
    have ej : j = j' := by omega
    subst eo
    subst ej
    exact ⟨h4.symm.trans h4', h5.trans h5'.symm⟩
  · rintro ⟨e1, e2⟩
    have eo : o = o' := by
      rcases Nat.lt_trichotomy o o' with l | l | l
      · exact absurd (e2.symm.trans h5) (h6' o l j h1 h2 (h4.trans e1))
      · exact l
      · exact absurd (e2.trans h5') (h6 o' l j' h1' h2' (h4'.trans e1.symm))
    subst eo
    have ej : nI j = nI j' := by
      have : q o + nI j = q o + nI j' := h5.symm.trans (e2.trans h5')
      grind
    rw [nI_eq (by omega) (by omega)] at ej
    omega
theorem gb_ph : ∀ (m n : Nat) (R : Nat → Nat → Prop), (∀ a, a < n → ∃ e, e < m ∧ R a e) → (∀ a a' e, a < n → a' < n → R a e → R a' e → a = a') → n ≤ m := by
  intro m
  induction m with
  | zero =>
    intro n R h1 _
    rcases Nat.eq_zero_or_pos n with z | z
    · omega
    · obtain ⟨e, he, _⟩ := h1 0 z
      omega
  | succ m ih =>
    intro n R h1 h2
    by_cases hx : ∃ a0, a0 < n ∧ R a0 m
    · obtain ⟨a0, ha0, r0⟩ := hx
      have hs : ∀ a, a < n - 1 → (if a = a0 then n - 1 else a) < n ∧ (if a = a0 then n - 1 else a) ≠ a0 := by
        intro a ha
        split <;> constructor <;> omega
      have := ih (n - 1) (fun a e => R (if a = a0 then n - 1 else a) e) ?_ ?_
      · omega
      · intro a ha
        obtain ⟨s1, s2⟩ := hs a ha
        obtain ⟨e, he, hr⟩ := h1 _ s1
        have : e ≠ m := by
          intro z
          cases z
          exact s2 (h2 _ _ _ s1 ha0 hr r0)
        exact ⟨e, by omega, hr⟩
      · intro a a' e ha ha' r1 r2
        have z := h2 _ _ _ (hs a ha).1 (hs a' ha').1 r1 r2
        split at z <;> split at z <;> omega
    · have := ih n R ?_ h2
      · omega
      · intro a ha
        obtain ⟨e, he, hr⟩ := h1 a ha
        have : e ≠ m := by
          intro z
          cases z
          exact hx ⟨a, ha, hr⟩
        exact ⟨e, by omega, hr⟩
def gb_MM (L : Nat → Nat) (St : Nat → Prop) (cm rl : Nat → Int32) (r : Nat) (mn mx : Int) : Prop :=
  (∀ k, k < 32 → St k → cm k = nI r → mn ≤ (rl k).toInt ∧ (rl k).toInt + L k ≤ mx) ∧
  (∃ k, k < 32 ∧ St k ∧ cm k = nI r ∧ (rl k).toInt = mn) ∧ (∃ k, k < 32 ∧ St k ∧ cm k = nI r ∧ (rl k).toInt + L k = mx)
def gb_AL (L : Nat → Nat) (St : Nat → Prop) (cm rl : Nat → Int32) (k N : Nat) (hv ba ad : Nat → Int32) : Prop := ∃ mn mx s : Nat → Int,
  N ≤ k * 10000 ∧
  (∀ k', k' < k → St k' → ∃ r, r < 36 ∧ cm k' = nI r ∧ hv r ≠ 0 ∧ ad k' = ba r + rl k') ∧
  (∀ r, r < 36 → hv r ≠ 0 → gb_MM L St cm rl r (mn r) (mx r) ∧ 0 ≤ s r ∧ s r + (mx r - mn r) ≤ N ∧ (ba r).toInt = s r - mn r) ∧
  (∀ r r', r < 36 → r' < 36 → hv r ≠ 0 → hv r' ≠ 0 → r ≠ r' → s r + (mx r - mn r) ≤ s r' ∨ s r' + (mx r' - mn r') ≤ s r) ∧
  (∀ a : Int, 0 ≤ a → a < N → ∃ r, r < 36 ∧ hv r ≠ 0 ∧ s r ≤ a ∧ a < s r + (mx r - mn r))
variable {L : Nat → Nat} {St : Nat → Prop} {k N r : Nat} {hv ba ad : Nat → Int32}
theorem gb_al0 (h : ∀ r, r < 36 → hv r = 0) : gb_AL L St cm rl 0 0 hv ba ad :=
  ⟨fun _ => 0, fun _ => 0, fun _ => 0, by omega, fun k' h' => absurd h' (Nat.not_lt_zero k'), fun r hr e => absurd (h r hr) e, fun r _ hr _ e => absurd (h r hr) e, fun a h1 h2 => by omega⟩
theorem gb_alSkip (H : gb_AL L St cm rl k N hv ba ad) (n : ¬ St k) : gb_AL L St cm rl (k + 1) N hv ba ad := by
  obtain ⟨mn, mx, s, h0, h1, h2, h3, h4⟩ := H
  refine ⟨mn, mx, s, by omega, ?_, h2, h3, h4⟩
  intro k' hk' sk
  by_cases e : k' = k
  · exact absurd (e ▸ sk) n
  · exact h1 k' (by omega) sk
theorem gb_alOld (H : gb_AL L St cm rl k N hv ba ad) (hr : r < 36) (ec : cm k = nI r) (hh : hv r ≠ 0) : gb_AL L St cm rl (k + 1) N hv ba (upd ad k (ba r + rl k)) := by
  obtain ⟨mn, mx, s, h0, h1, h2, h3, h4⟩ := H
  refine ⟨mn, mx, s, by omega, ?_, h2, h3, h4⟩
  intro k' hk' sk
  by_cases e : k' = k
  · subst e
    exact ⟨r, hr, ec, hh, pk_us⟩
  · obtain ⟨r', a, b, c, d⟩ := h1 k' (by omega) sk
    exact ⟨r', a, b, c, by rw [pk_un e]; exact d⟩
end GTIE
