section
/-! numbers: rows pasted from the kit (pk_, lp, ek_, co_, sb_), then my own (fa_) -/
theorem pk_us {f : Nat → Int32} {k : Nat} {x : Int32} : upd f k x k = x := if_pos rfl
theorem pk_un {f : Nat → Int32} {k j : Nat} {x : Int32} (h : j ≠ k) : upd f k x j = f j := if_neg h
theorem pk_sub {a b : Nat} (h : b ≤ a) : nI a - nI b = nI (a - b) := by
  obtain ⟨c, rfl⟩ : ∃ c, a = c + b := ⟨a - b, by omega⟩
  rw [← nI_add, Int32.add_sub_cancel, Nat.add_sub_cancel]
theorem pk_m1 (n : Nat) : nI (n + 1) + (-1) = nI n := by
  rw [← nI_1, Int32.add_assoc, show (1 : Int32) + (-1) = 0 from rfl, Int32.add_zero]
theorem pk_mul (a b : Nat) : nI a * nI b = nI (a * b) := (Int32.ofNat_mul a b).symm
theorem pk_div {a d : Nat} (ha : a < 2 ^ 31) (h0 : 0 < d) (hd : d < 2 ^ 31) : nI a / nI d = nI (a / d) := by
  apply Int32.toInt_inj.mp
  rw [lg_idiv_nonneg (by rw [nI_toInt ha]; omega) (by rw [nI_toInt hd]; omega), nI_toInt ha, nI_toInt hd, nI_toInt (Nat.lt_of_le_of_lt (Nat.div_le_self a d) ha)]
  first | rfl | exact (Int.natCast_ediv _ _).symm
theorem pk_rem {a d : Nat} (ha : a < 2 ^ 31) (h0 : 0 < d) (hd : d < 2 ^ 31) : nI a - nI a / nI d * nI d = nI (a % d) := by
  rw [pk_div ha h0 hd, pk_mul, pk_sub (Nat.div_mul_le_self a d)]
  exact congrArg nI (by have := Nat.div_add_mod' a d; omega)
theorem pk_sub_toInt {a b : Nat} (ha : a < 2 ^ 30) (hb : b < 2 ^ 30) : (nI a - nI b).toInt = (a : Int) - b := by
  rw [Int32.toInt_sub, nI_toInt (by omega), nI_toInt (by omega)]
  exact Int.bmod_eq_of_le (by omega) (by omega)
theorem pk_sneg {a b : Nat} (hb : b < 2 ^ 30) (h : a < b) : nI a - nI b < 0 := by
  rw [Int32.lt_iff_toInt_lt, pk_sub_toInt (by omega) hb, show (0 : Int32).toInt = 0 from by decide]
  omega
theorem pk_ix (x : Int32) {n : Nat} (hn : n < 2 ^ 31) : x < 0 ∨ nI n ≤ x ∨ ∃ j : Nat, j < n ∧ x = nI j := by
  by_cases h : x < 0
  · exact Or.inl h
  · obtain ⟨j, hj, rfl⟩ := nI_of h
    by_cases h2 : j < n
    · exact Or.inr (Or.inr ⟨j, h2, rfl⟩)
    · exact Or.inr (Or.inl (nI_le (by omega) hj))
theorem pk_le {x y : Int32} {A B : Prop} (a b : Nat) (f : a ≤ b → A) (g : b < a → B) (hx : x = nI a := by rfl) (hy : y = nI b := by rfl) (ha : a < 2 ^ 31 := by omega) (hb : b < 2 ^ 31 := by omega) : (x ≤ y → A) ∧ (¬ x ≤ y → B) := by
  subst hx hy
  rw [nI_leI ha hb]
  exact ⟨f, fun z => g (by omega)⟩
theorem pk_lt {x y : Int32} {A B : Prop} (a b : Nat) (f : a < b → A) (g : b ≤ a → B) (hx : x = nI a := by rfl) (hy : y = nI b := by rfl) (ha : a < 2 ^ 31 := by omega) (hb : b < 2 ^ 31 := by omega) : (x < y → A) ∧ (¬ x < y → B) := by
  subst hx hy
  rw [nI_ltI ha hb]
  exact ⟨f, fun z => g (by omega)⟩
theorem pk_eq {x y : Int32} {A B : Prop} (a b : Nat) (f : a = b → A) (g : a ≠ b → B) (hx : x = nI a := by rfl) (hy : y = nI b := by rfl) (ha : a < 2 ^ 31 := by omega) (hb : b < 2 ^ 31 := by omega) : (x = y → A) ∧ (¬ x = y → B) := by
  subst hx hy
  rw [nI_eq ha hb]
  exact ⟨f, g⟩
theorem pk_in {x : Int32} (n N : Nat) (h : n < N) (hx : x = nI n := by rfl) (hN : N < 2 ^ 31 := by omega) : vp_in x N := by
  subst hx
  exact vp_in_nI h hN
theorem pk_cl {x : Int32} (n : Nat) (hx : x = nI n := by rfl) (h : n < 2 ^ 31 := by omega) : x.toNatClampNeg = n := by
  subst hx
  exact nI_clamp h
theorem pk_loop {σ : Type} (W : Nat → Nat → σ → Prop) (I : Nat → σ → Prop) (e i0 : Nat) (s : σ) (hi : i0 ≤ e) (h0 : I i0 s) (hx : ∀ n s, I e s → W (n + 1) e s)
    (hs : ∀ n i s, i < e → I i s → (∀ s', I (i + 1) s' → W n (i + 1) s') → W (n + 1) i s) : ∃ n, W n i0 s :=
  ⟨e + 1, loop_i W I e hx hs (e + 1) i0 s hi (by omega) h0⟩
theorem pk_loopD {σ : Type} (W : Nat → Nat → σ → Prop) (I : Nat → σ → Prop) (hx : ∀ n s, I 0 s → W (n + 1) 0 s)
    (hs : ∀ n i s, I (i + 1) s → (∀ s', I i s' → W n i s') → W (n + 1) (i + 1) s) : ∀ (e : Nat) (s : σ), I e s → W (e + 1) e s := by
  intro e
  induction e with
  | zero => exact fun s h => hx 0 s h
  | succ e ih => exact fun s h => hs (e + 1) e s h (fun s' h' => ih s' h')
theorem pk_least (P : Nat → Prop) (h : ∃ k, P k) : ∃ k, P k ∧ ∀ j, j < k → ¬ P j := by
  obtain ⟨k, hk⟩ := h
  induction k using Nat.strongRecOn with
  | ind k ih =>
    by_cases e : ∃ j, j < k ∧ P j
    · obtain ⟨j, hj, pj⟩ := e
      exact ih j hj pj
    · exact ⟨k, hk, fun j hj pj => e ⟨j, hj, pj⟩⟩
theorem ek_if {c d A B : Prop} (e : c ↔ d) (f : d → A) (g : ¬ d → B) : (c → A) ∧ (¬ c → B) :=
  ⟨fun z => f (e.mp z), fun z => g (fun y => z (e.mpr y))⟩
theorem ek_v {α : Sort _} {P : α → Prop} {a b : α} (e : a = b) (h : P b) : P a := e ▸ h
theorem co_4 {P : Nat → Prop} (h0 : P 0) (h1 : P 1) (h2 : P 2) (h3 : P 3) {i : Nat} (hi : i < 4) : P i :=
  match i, hi with
  | 0, _ => h0
  | 1, _ => h1
  | 2, _ => h2
  | 3, _ => h3
theorem pk_mu {x : Int32} {L : Nat} (h0 : ¬ x < 0) (h : ¬ nI L ≤ x) (hL : L < 2 ^ 31) : ∃ j : Nat, j < L ∧ x = nI j ∧ x + 1 = nI (j + 1) ∧ x.toNatClampNeg = j ∧ L - (x + 1).toNatClampNeg < L - x.toNatClampNeg := by
  obtain ⟨j, hj, rfl⟩ := nI_of h0
  have hl : j < L := Nat.not_le.mp fun q => h (nI_le q hj)
  refine ⟨j, hl, rfl, nI_1 j, nI_clamp hj, ?_⟩
  rw [nI_1, nI_clamp (by omega), nI_clamp hj]
  omega
theorem lp1 {A1 : Type} (W : Nat → A1 → Prop) (I : A1 → Prop) (μ : A1 → Nat) (hs : ∀ (n : Nat) (a1 : A1), I a1 → (∀ (b1 : A1), I b1 → μ b1 < μ a1 → W n b1) → W (n + 1) a1) (a1 : A1) (h : I a1) : ∃ n, W n a1 :=
  loop_m (σ := A1) (fun n s => W n s) (fun s => I s) (fun s => μ s) (fun n s hI hk => hs n s hI (fun b1 h9 hm => hk b1 h9 hm)) a1 h
theorem lp2 {A1 A2 : Type} (W : Nat → A1 → A2 → Prop) (I : A1 → A2 → Prop) (μ : A1 → A2 → Nat) (hs : ∀ (n : Nat) (a1 : A1) (a2 : A2), I a1 a2 → (∀ (b1 : A1) (b2 : A2), I b1 b2 → μ b1 b2 < μ a1 a2 → W n b1 b2) → W (n + 1) a1 a2) (a1 : A1) (a2 : A2) (h : I a1 a2) : ∃ n, W n a1 a2 :=
  loop_m (σ := A1 × A2) (fun n s => W n s.1 s.2) (fun s => I s.1 s.2) (fun s => μ s.1 s.2) (fun n s hI hk => hs n s.1 s.2 hI (fun b1 b2 h9 hm => hk (b1, b2) h9 hm)) (a1, a2) h
theorem lp3 {A1 A2 A3 : Type} (W : Nat → A1 → A2 → A3 → Prop) (I : A1 → A2 → A3 → Prop) (μ : A1 → A2 → A3 → Nat) (hs : ∀ (n : Nat) (a1 : A1) (a2 : A2) (a3 : A3), I a1 a2 a3 → (∀ (b1 : A1) (b2 : A2) (b3 : A3), I b1 b2 b3 → μ b1 b2 b3 < μ a1 a2 a3 → W n b1 b2 b3) → W (n + 1) a1 a2 a3) (a1 : A1) (a2 : A2) (a3 : A3) (h : I a1 a2 a3) : ∃ n, W n a1 a2 a3 :=
  loop_m (σ := A1 × A2 × A3) (fun n s => W n s.1 s.2.1 s.2.2) (fun s => I s.1 s.2.1 s.2.2) (fun s => μ s.1 s.2.1 s.2.2) (fun n s hI hk => hs n s.1 s.2.1 s.2.2 hI (fun b1 b2 b3 h9 hm => hk (b1, b2, b3) h9 hm)) (a1, a2, a3) h
theorem lp4 {A1 A2 A3 A4 : Type} (W : Nat → A1 → A2 → A3 → A4 → Prop) (I : A1 → A2 → A3 → A4 → Prop) (μ : A1 → A2 → A3 → A4 → Nat) (hs : ∀ (n : Nat) (a1 : A1) (a2 : A2) (a3 : A3) (a4 : A4), I a1 a2 a3 a4 → (∀ (b1 : A1) (b2 : A2) (b3 : A3) (b4 : A4), I b1 b2 b3 b4 → μ b1 b2 b3 b4 < μ a1 a2 a3 a4 → W n b1 b2 b3 b4) → W (n + 1) a1 a2 a3 a4) (a1 : A1) (a2 : A2) (a3 : A3) (a4 : A4) (h : I a1 a2 a3 a4) : ∃ n, W n a1 a2 a3 a4 :=
  loop_m (σ := A1 × A2 × A3 × A4) (fun n s => W n s.1 s.2.1 s.2.2.1 s.2.2.2) (fun s => I s.1 s.2.1 s.2.2.1 s.2.2.2) (fun s => μ s.1 s.2.1 s.2.2.1 s.2.2.2) (fun n s hI hk => hs n s.1 s.2.1 s.2.2.1 s.2.2.2 hI (fun b1 b2 b3 b4 h9 hm => hk (b1, b2, b3, b4) h9 hm)) (a1, a2, a3, a4) h
theorem lp5 {A1 A2 A3 A4 A5 : Type} (W : Nat → A1 → A2 → A3 → A4 → A5 → Prop) (I : A1 → A2 → A3 → A4 → A5 → Prop) (μ : A1 → A2 → A3 → A4 → A5 → Nat) (hs : ∀ (n : Nat) (a1 : A1) (a2 : A2) (a3 : A3) (a4 : A4) (a5 : A5), I a1 a2 a3 a4 a5 → (∀ (b1 : A1) (b2 : A2) (b3 : A3) (b4 : A4) (b5 : A5), I b1 b2 b3 b4 b5 → μ b1 b2 b3 b4 b5 < μ a1 a2 a3 a4 a5 → W n b1 b2 b3 b4 b5) → W (n + 1) a1 a2 a3 a4 a5) (a1 : A1) (a2 : A2) (a3 : A3) (a4 : A4) (a5 : A5) (h : I a1 a2 a3 a4 a5) : ∃ n, W n a1 a2 a3 a4 a5 :=
  loop_m (σ := A1 × A2 × A3 × A4 × A5) (fun n s => W n s.1 s.2.1 s.2.2.1 s.2.2.2.1 s.2.2.2.2) (fun s => I s.1 s.2.1 s.2.2.1 s.2.2.2.1 s.2.2.2.2) (fun s => μ s.1 s.2.1 s.2.2.1 s.2.2.2.1 s.2.2.2.2) (fun n s hI hk => hs n s.1 s.2.1 s.2.2.1 s.2.2.2.1 s.2.2.2.2 hI (fun b1 b2 b3 b4 b5 h9 hm => hk (b1, b2, b3, b4, b5) h9 hm)) (a1, a2, a3, a4, a5) h
theorem lp6 {A1 A2 A3 A4 A5 A6 : Type} (W : Nat → A1 → A2 → A3 → A4 → A5 → A6 → Prop) (I : A1 → A2 → A3 → A4 → A5 → A6 → Prop) (μ : A1 → A2 → A3 → A4 → A5 → A6 → Nat) (hs : ∀ (n : Nat) (a1 : A1) (a2 : A2) (a3 : A3) (a4 : A4) (a5 : A5) (a6 : A6), I a1 a2 a3 a4 a5 a6 → (∀ (b1 : A1) (b2 : A2) (b3 : A3) (b4 : A4) (b5 : A5) (b6 : A6), I b1 b2 b3 b4 b5 b6 → μ b1 b2 b3 b4 b5 b6 < μ a1 a2 a3 a4 a5 a6 → W n b1 b2 b3 b4 b5 b6) → W (n + 1) a1 a2 a3 a4 a5 a6) (a1 : A1) (a2 : A2) (a3 : A3) (a4 : A4) (a5 : A5) (a6 : A6) (h : I a1 a2 a3 a4 a5 a6) : ∃ n, W n a1 a2 a3 a4 a5 a6 :=
  loop_m (σ := A1 × A2 × A3 × A4 × A5 × A6) (fun n s => W n s.1 s.2.1 s.2.2.1 s.2.2.2.1 s.2.2.2.2.1 s.2.2.2.2.2) (fun s => I s.1 s.2.1 s.2.2.1 s.2.2.2.1 s.2.2.2.2.1 s.2.2.2.2.2) (fun s => μ s.1 s.2.1 s.2.2.1 s.2.2.2.1 s.2.2.2.2.1 s.2.2.2.2.2) (fun n s hI hk => hs n s.1 s.2.1 s.2.2.1 s.2.2.2.1 s.2.2.2.2.1 s.2.2.2.2.2 hI (fun b1 b2 b3 b4 b5 b6 h9 hm => hk (b1, b2, b3, b4, b5, b6) h9 hm)) (a1, a2, a3, a4, a5, a6) h
theorem lp7 {A1 A2 A3 A4 A5 A6 A7 : Type} (W : Nat → A1 → A2 → A3 → A4 → A5 → A6 → A7 → Prop) (I : A1 → A2 → A3 → A4 → A5 → A6 → A7 → Prop) (μ : A1 → A2 → A3 → A4 → A5 → A6 → A7 → Nat) (hs : ∀ (n : Nat) (a1 : A1) (a2 : A2) (a3 : A3) (a4 : A4) (a5 : A5) (a6 : A6) (a7 : A7), I a1 a2 a3 a4 a5 a6 a7 → (∀ (b1 : A1) (b2 : A2) (b3 : A3) (b4 : A4) (b5 : A5) (b6 : A6) (b7 : A7), I b1 b2 b3 b4 b5 b6 b7 → μ b1 b2 b3 b4 b5 b6 b7 < μ a1 a2 a3 a4 a5 a6 a7 → W n b1 b2 b3 b4 b5 b6 b7) → W (n + 1) a1 a2 a3 a4 a5 a6 a7) (a1 : A1) (a2 : A2) (a3 : A3) (a4 : A4) (a5 : A5) (a6 : A6) (a7 : A7) (h : I a1 a2 a3 a4 a5 a6 a7) : ∃ n, W n a1 a2 a3 a4 a5 a6 a7 :=
  loop_m (σ := A1 × A2 × A3 × A4 × A5 × A6 × A7) (fun n s => W n s.1 s.2.1 s.2.2.1 s.2.2.2.1 s.2.2.2.2.1 s.2.2.2.2.2.1 s.2.2.2.2.2.2) (fun s => I s.1 s.2.1 s.2.2.1 s.2.2.2.1 s.2.2.2.2.1 s.2.2.2.2.2.1 s.2.2.2.2.2.2) (fun s => μ s.1 s.2.1 s.2.2.1 s.2.2.2.1 s.2.2.2.2.1 s.2.2.2.2.2.1 s.2.2.2.2.2.2) (fun n s hI hk => hs n s.1 s.2.1 s.2.2.1 s.2.2.2.1 s.2.2.2.2.1 s.2.2.2.2.2.1 s.2.2.2.2.2.2 hI (fun b1 b2 b3 b4 b5 b6 b7 h9 hm => hk (b1, b2, b3, b4, b5, b6, b7) h9 hm)) (a1, a2, a3, a4, a5, a6, a7) h
theorem lp8 {A1 A2 A3 A4 A5 A6 A7 A8 : Type} (W : Nat → A1 → A2 → A3 → A4 → A5 → A6 → A7 → A8 → Prop) (I : A1 → A2 → A3 → A4 → A5 → A6 → A7 → A8 → Prop) (μ : A1 → A2 → A3 → A4 → A5 → A6 → A7 → A8 → Nat) (hs : ∀ (n : Nat) (a1 : A1) (a2 : A2) (a3 : A3) (a4 : A4) (a5 : A5) (a6 : A6) (a7 : A7) (a8 : A8), I a1 a2 a3 a4 a5 a6 a7 a8 → (∀ (b1 : A1) (b2 : A2) (b3 : A3) (b4 : A4) (b5 : A5) (b6 : A6) (b7 : A7) (b8 : A8), I b1 b2 b3 b4 b5 b6 b7 b8 → μ b1 b2 b3 b4 b5 b6 b7 b8 < μ a1 a2 a3 a4 a5 a6 a7 a8 → W n b1 b2 b3 b4 b5 b6 b7 b8) → W (n + 1) a1 a2 a3 a4 a5 a6 a7 a8) (a1 : A1) (a2 : A2) (a3 : A3) (a4 : A4) (a5 : A5) (a6 : A6) (a7 : A7) (a8 : A8) (h : I a1 a2 a3 a4 a5 a6 a7 a8) : ∃ n, W n a1 a2 a3 a4 a5 a6 a7 a8 :=
  loop_m (σ := A1 × A2 × A3 × A4 × A5 × A6 × A7 × A8) (fun n s => W n s.1 s.2.1 s.2.2.1 s.2.2.2.1 s.2.2.2.2.1 s.2.2.2.2.2.1 s.2.2.2.2.2.2.1 s.2.2.2.2.2.2.2) (fun s => I s.1 s.2.1 s.2.2.1 s.2.2.2.1 s.2.2.2.2.1 s.2.2.2.2.2.1 s.2.2.2.2.2.2.1 s.2.2.2.2.2.2.2) (fun s => μ s.1 s.2.1 s.2.2.1 s.2.2.2.1 s.2.2.2.2.1 s.2.2.2.2.2.1 s.2.2.2.2.2.2.1 s.2.2.2.2.2.2.2) (fun n s hI hk => hs n s.1 s.2.1 s.2.2.1 s.2.2.2.1 s.2.2.2.2.1 s.2.2.2.2.2.1 s.2.2.2.2.2.2.1 s.2.2.2.2.2.2.2 hI (fun b1 b2 b3 b4 b5 b6 b7 b8 h9 hm => hk (b1, b2, b3, b4, b5, b6, b7, b8) h9 hm)) (a1, a2, a3, a4, a5, a6, a7, a8) h
theorem sb_m1 {p : Nat} (h : 0 < p) : nI p + (-1) = nI (p - 1) := by
  obtain ⟨q, rfl⟩ : ∃ q, p = q + 1 := ⟨p - 1, by omega⟩
  exact pk_m1 q
/-! my own: an array read as naturals; ranges; literals -/
def fa_N (a : Nat → Int32) : Nat → Nat := fun i => (a i).toNatClampNeg
/-- x is a number below n -/
def fa_R (n : Nat) (x : Int32) : Prop := ∃ j, j < n ∧ x = nI j
theorem fa_Rn {n : Nat} {a : Nat → Int32} {i : Nat} (h : fa_R n (a i)) (hn : n < 2 ^ 31) : a i = nI (fa_N a i) ∧ fa_N a i < n := by
  obtain ⟨j, hj, e⟩ := h
  have e2 : fa_N a i = j := by show (a i).toNatClampNeg = j; rw [e, nI_clamp (by omega)]
  rw [e2]
  exact ⟨e, hj⟩
theorem fa_Re {a : Nat → Int32} {i j : Nat} (h : a i = nI j) (hj : j < 2 ^ 31) : fa_N a i = j := by
  show (a i).toNatClampNeg = j
  rw [h, nI_clamp hj]
theorem fa_Nu {a : Nat → Int32} {k j v : Nat} (hv : v < 2 ^ 31) : fa_N (upd a k (nI v)) j = if j = k then v else fa_N a j := by
  show (upd a k (nI v) j).toNatClampNeg = _
  by_cases e : j = k
  · rw [if_pos e, e, pk_us, nI_clamp hv]
  · rw [if_neg e, pk_un e]; rfl
theorem fa_inj {a b : Nat} (ha : a < 2 ^ 31) (hb : b < 2 ^ 31) (h : nI a = nI b) : a = b := (nI_eq ha hb).mp h
theorem fa_ne {a b : Nat} (ha : a < 2 ^ 31) (hb : b < 2 ^ 31) (h : a ≠ b) : ¬ nI a = nI b := fun e => h (fa_inj ha hb e)
theorem fa_m1 {a : Nat} (h : a < 2 ^ 31) : ¬ nI a = -1 := by
  intro e
  have := nI_pos (n := a) h
  rw [e] at this
  exact this (by decide)
theorem fa_m1' {a : Nat} (h : a < 2 ^ 31) : ¬ (-1 : Int32) = nI a := fun e => fa_m1 h e.symm
end
section
section GLAY
/-! the layout's mathematics: constraints p x = p y + d over 36 unknowns, each side against 'solution' and 'closed set' -/
abbrev ga_T : Type := Nat → Nat → Int32 → Prop
def ga_Sol (C : ga_T) (p : Nat → Int32) : Prop := ∀ x y d, C x y d → p x = p y + d
def ga_Cl (C : ga_T) (Q : Nat → Prop) : Prop := ∀ x y d, C x y d → (Q x ↔ Q y)
/-- what the class's groups and positions say, once the constraints S of C are taken in -/
def ga_IX (C S : ga_T) (g q : Nat → Int32) : Prop :=
  (∀ x y d, S x y d → x < 36 ∧ y < 36 ∧ g x = g y ∧ q x = q y + d) ∧
  (∀ p, ga_Sol C p → ∀ x y, x < 36 → y < 36 → g x = g y → p x - p y = q x - q y) ∧
  (∀ Q, ga_Cl C Q → ∀ x y, x < 36 → y < 36 → g x = g y → (Q x ↔ Q y)) ∧
  (∀ x, x < 36 → ∃ j, j < 36 ∧ g x = nI j ∧ g j = nI j ∧ q j = 0)
def ga_g (g : Nat → Int32) (o n : Int32) (i : Nat) : Nat → Int32 := fun j => if j < i ∧ g j = o then n else g j
def ga_q (g q : Nat → Int32) (o s : Int32) (i : Nat) : Nat → Int32 := fun j => if j < i ∧ g j = o then q j + s else q j
theorem ga_ix0 {C : ga_T} {g q : Nat → Int32} (hg : ∀ x, x < 36 → g x = nI x) (hq : ∀ x, x < 36 → q x = 0) : ga_IX C (fun _ _ _ => False) g q := by
  have inj : ∀ x y, x < 36 → y < 36 → g x = g y → x = y := by
    intro x y hx hy e
    rw [hg x hx, hg y hy] at e
    exact (nI_eq (by omega) (by omega)).mp e
  refine ⟨fun _ _ _ h => h.elim, ?_, ?_, ?_⟩
  · intro p _ x y hx hy e
    cases inj x y hx hy e
    rw [Int32.sub_self, Int32.sub_self]
  · intro Q _ x y hx hy e
    cases inj x y hx hy e
    exact Iff.rfl
  · intro x hx
    exact ⟨x, hx, hg x hx, hg x hx, hq x hx⟩
theorem ga_ixSame {C S : ga_T} {g q : Nat → Int32} {x y : Nat} {d : Int32} (H : ga_IX C S g q) (hx : x < 36) (hy : y < 36) (e : g x = g y) (e2 : q y + d - q x = 0) :
    ga_IX C (fun a b e => S a b e ∨ (a = x ∧ b = y ∧ e = d)) g q := by
  obtain ⟨h1, h2, h3, h4⟩ := H
  refine ⟨?_, h2, h3, h4⟩
  intro a b f hab
  rcases hab with hab | ⟨rfl, rfl, rfl⟩
  · exact h1 a b f hab
  · exact ⟨hx, hy, e, by grind⟩
theorem ga_ixBad {C S : ga_T} {g q : Nat → Int32} {x y : Nat} {d : Int32} (H : ga_IX C S g q) (hC : C x y d) (hx : x < 36) (hy : y < 36) (e : g x = g y) (e2 : ¬ q y + d - q x = 0) :
    ¬ ∃ p, ga_Sol C p := by
  rintro ⟨p, hp⟩
  have a := H.2.1 p hp x y hx hy e
  have b := hp x y d hC
  exact e2 (by grind)
theorem ga_ixJoin {C S : ga_T} {g q : Nat → Int32} {x y : Nat} {d : Int32} (H : ga_IX C S g q) (hC : C x y d) (hx : x < 36) (hy : y < 36) (ne : g x ≠ g y) :
    ga_IX C (fun a b e => S a b e ∨ (a = x ∧ b = y ∧ e = d)) (ga_g g (g x) (g y) 36) (ga_q g q (g x) (q y + d - q x) 36) := by
  obtain ⟨h1, h2, h3, h4⟩ := H
  have rx : ∀ a, a < 36 → g a = g x → ga_g g (g x) (g y) 36 a = g y := fun a ha e => if_pos ⟨ha, e⟩
  have rn : ∀ a, g a ≠ g x → ga_g g (g x) (g y) 36 a = g a := fun a e => if_neg (fun z => e z.2)
  have px : ∀ a, a < 36 → g a = g x → ga_q g q (g x) (q y + d - q x) 36 a = q a + (q y + d - q x) := fun a ha e => if_pos ⟨ha, e⟩
  have pn : ∀ a, g a ≠ g x → ga_q g q (g x) (q y + d - q x) 36 a = q a := fun a e => if_neg (fun z => e z.2)
  refine ⟨?_, ?_, ?_, ?_⟩
  · intro a b f hab
    rcases hab with hab | ⟨rfl, rfl, rfl⟩
    · obtain ⟨ha, hb, e1, e2⟩ := h1 a b f hab
      refine ⟨ha, hb, ?_⟩
      by_cases z : g a = g x
      · have z' : g b = g x := by rw [← e1, z]
        rw [rx a ha z, rx b hb z', px a ha z, px b hb z']
        exact ⟨rfl, by grind⟩
      · have z' : g b ≠ g x := by rw [← e1]; exact z
        rw [rn a z, rn b z', pn a z, pn b z']
        exact ⟨e1, e2⟩
    · refine ⟨hx, hy, ?_⟩
      rw [rx a hx rfl, rn b (fun z => ne z.symm), px a hx rfl, pn b (fun z => ne z.symm)]
      exact ⟨rfl, by grind⟩
  · intro p hp a b ha hb e
    have hxy := hp x y d hC
    by_cases za : g a = g x
    · have e1 := h2 p hp a x ha hx za
      by_cases zb : g b = g x
      · have e2 := h2 p hp b x hb hx zb
        rw [px a ha za, px b hb zb]
        grind
      · rw [rx a ha za, rn b zb] at e
        have e2 := h2 p hp y b hy hb e
        rw [px a ha za, pn b zb]
        grind
    · by_cases zb : g b = g x
      · have e2 := h2 p hp b x hb hx zb
        rw [rn a za, rx b hb zb] at e
        have e1 := h2 p hp a y ha hy e
        rw [pn a za, px b hb zb]
        grind
      · rw [rn a za, rn b zb] at e
        rw [pn a za, pn b zb]
        exact h2 p hp a b ha hb e
  · intro Q hQ a b ha hb e
    have hxy := hQ x y d hC
    by_cases za : g a = g x
    · have e1 := h3 Q hQ a x ha hx za
      by_cases zb : g b = g x
      · exact e1.trans (h3 Q hQ b x hb hx zb).symm
      · rw [rx a ha za, rn b zb] at e
        exact e1.trans (hxy.trans (h3 Q hQ y b hy hb e))
    · by_cases zb : g b = g x
      · rw [rn a za, rx b hb zb] at e
        exact (h3 Q hQ a y ha hy e).trans (hxy.symm.trans (h3 Q hQ b x hb hx zb).symm)
      · rw [rn a za, rn b zb] at e
        exact h3 Q hQ a b ha hb e
  · intro a ha
    by_cases za : g a = g x
    · obtain ⟨j, hj, e1, e2, e3⟩ := h4 y hy
      have nj : g j ≠ g x := by rw [e2, ← e1]; exact fun z => ne z.symm
      exact ⟨j, hj, by rw [rx a ha za, e1], by rw [rn j nj, e2], by rw [pn j nj, e3]⟩
    · obtain ⟨j, hj, e1, e2, e3⟩ := h4 a ha
      have nj : g j ≠ g x := by rw [e2, ← e1]; exact za
      exact ⟨j, hj, by rw [rn a za, e1], by rw [rn j nj, e2], by rw [pn j nj, e3]⟩

/-! the reference: spread from a root -/
def ga_C (fx fy : Nat → Nat) (D : Nat → Int32) (m : Nat) : ga_T := fun x y d => ∃ c, c < m ∧ fx c = x ∧ fy c = y ∧ D c = d
def ga_cnt (pl : Nat → Int32) : Nat → Nat
  | 0 => 0
  | n + 1 => ga_cnt pl n + (if pl n = 0 then 0 else 1)
theorem ga_cnt_le (pl : Nat → Int32) : ∀ n, ga_cnt pl n ≤ n := by
  intro n
  induction n with
  | zero => exact Nat.le_refl 0
  | succ n ih =>
    show ga_cnt pl n + (if pl n = 0 then 0 else 1) ≤ n + 1
    split <;> omega
theorem ga_cnt_up {pl : Nat → Int32} {w : Nat} (h : pl w = 0) : ∀ n, ga_cnt (upd pl w 1) n = ga_cnt pl n + (if w < n then 1 else 0) := by
  intro n
  induction n with
  | zero => rw [if_neg (Nat.not_lt_zero w)]; rfl
  | succ n ih =>
    show ga_cnt (upd pl w 1) n + (if upd pl w 1 n = 0 then 0 else 1) = ga_cnt pl n + (if pl n = 0 then 0 else 1) + _
    rw [ih]
    by_cases e : n = w
    · subst e
      have a1 : ¬ (upd pl n 1 n = 0) := by rw [pk_us]; decide
      rw [if_neg (Nat.lt_irrefl n), if_neg a1, if_pos h, if_pos (Nat.lt_succ_self n)]
    · rw [pk_un e]
      have q : (if w < n + 1 then 1 else 0 : Nat) = if w < n then 1 else 0 := by
        by_cases l : w < n
        · rw [if_pos l, if_pos (by omega)]
        · rw [if_neg l, if_neg (by omega)]
      rw [q]
      omega
def ga_Bd (pl rl : Nat → Int32) : Prop := ∀ z, z < 36 → pl z ≠ 0 → -(128 * (ga_cnt pl 36 : Int)) ≤ (rl z).toInt ∧ (rl z).toInt ≤ 128 * (ga_cnt pl 36 : Int)
def ga_IY (fx fy : Nat → Nat) (D : Nat → Int32) (m : Nat) (r : Nat) (E : Nat → Prop) (pl cm rl : Nat → Int32) : Prop :=
  (∀ c, c < m → (E (fx c) ↔ E (fy c))) ∧
  (∀ z, z < 36 → E z → pl z ≠ 0 ∧ ∃ j, j < r ∧ cm z = nI j) ∧
  (∀ c, c < m → E (fx c) → cm (fx c) = cm (fy c) ∧ rl (fx c) = rl (fy c) + D c) ∧
  (∀ z, z < 36 → pl z ≠ 0 → ¬ E z → cm z = nI r) ∧
  (∀ p, ga_Sol (ga_C fx fy D m) p → ∀ x y, x < 36 → y < 36 → pl x ≠ 0 → pl y ≠ 0 → cm x = cm y → p x - p y = rl x - rl y) ∧
  (∀ Q, ga_Cl (ga_C fx fy D m) Q → ∀ x y, x < 36 → y < 36 → pl x ≠ 0 → pl y ≠ 0 → cm x = cm y → (Q x ↔ Q y)) ∧
  ga_Bd pl rl
def ga_Ok (fx fy : Nat → Nat) (D : Nat → Int32) (pl cm rl : Nat → Int32) (c : Nat) : Prop :=
  (pl (fx c) ≠ 0 ∧ pl (fy c) ≠ 0 ∧ cm (fx c) = cm (fy c) ∧ rl (fx c) = rl (fy c) + D c) ∨ (pl (fx c) = 0 ∧ pl (fy c) = 0)
variable {fx fy : Nat → Nat} {D : Nat → Int32} {m r : Nat} {E : Nat → Prop} {pl cm rl : Nat → Int32}
theorem ga_addT {a b : Int32} (ha : -1000000 ≤ a.toInt ∧ a.toInt ≤ 1000000) (hb : -1000000 ≤ b.toInt ∧ b.toInt ≤ 1000000) : (a + b).toInt = a.toInt + b.toInt := by
  rw [Int32.toInt_add]
  exact Int.bmod_eq_of_le (by omega) (by omega)
theorem ga_subT {a b : Int32} (ha : -1000000 ≤ a.toInt ∧ a.toInt ≤ 1000000) (hb : -1000000 ≤ b.toInt ∧ b.toInt ≤ 1000000) : (a - b).toInt = a.toInt - b.toInt := by
  rw [Int32.toInt_sub]
  exact Int.bmod_eq_of_le (by omega) (by omega)
theorem ga_iyPut {v w : Nat} {δ t : Int32} (H : ga_IY fx fy D m r E pl cm rl) (hm : ∀ c, c < m → fx c < 36 ∧ fy c < 36) (hv : v < 36) (hw : w < 36) (pv : pl v ≠ 0) (pw : pl w = 0) (nE : ¬ E v)
    (hp : ∀ p, ga_Sol (ga_C fx fy D m) p → p w - p v = δ) (hQ : ∀ Q, ga_Cl (ga_C fx fy D m) Q → (Q w ↔ Q v)) (hd : -128 ≤ δ.toInt ∧ δ.toInt ≤ 128) (ht : t = rl v + δ) :
    ga_IY fx fy D m r E (upd pl w 1) (upd cm w (cm v)) (upd rl w t) := by
  obtain ⟨h1, h2, h3, h4, h5, h6, h7⟩ := H
  have vw : v ≠ w := fun e => pv (e ▸ pw)
  have Ew : ∀ z, z < 36 → E z → z ≠ w := fun z hz e ez => (h2 z hz e).1 (ez ▸ pw)
  have c4 : cm v = nI r := h4 v hv pv nE
  have one : (1 : Int32) ≠ 0 := by decide
  have hc := ga_cnt_up pw 36
  rw [if_pos hw] at hc
  refine ⟨h1, ?_, ?_, ?_, ?_, ?_, ?_⟩
  · intro z hz e
    rw [pk_un (Ew z hz e), pk_un (Ew z hz e)]
    exact h2 z hz e
  · intro c hcm e
    have n1 := Ew _ (hm c hcm).1 e
    have n2 := Ew _ (hm c hcm).2 ((h1 c hcm).mp e)
    rw [pk_un n1, pk_un n2, pk_un n1, pk_un n2]
    exact h3 c hcm e
  · intro z hz pz ne
    by_cases e : z = w
    · subst e
      rw [pk_us, c4]
    · rw [pk_un e] at pz ⊢
      exact h4 z hz pz ne
  · intro p sp x y hx hy px py e
    have k := hp p sp
    by_cases ex : x = w
    · subst ex
      by_cases ey : y = x
      · subst ey
        rw [Int32.sub_self, Int32.sub_self]
      · rw [pk_us, pk_un ey] at e
        rw [pk_un ey] at py
        rw [pk_us, pk_un ey, ht]
        have := h5 p sp v y hv hy pv py e
        grind
    · rw [pk_un ex] at px
      by_cases ey : y = w
      · subst ey
        rw [pk_us, pk_un ex] at e
        rw [pk_us, pk_un ex, ht]
        have := h5 p sp x v hx hv px pv e
        grind
      · rw [pk_un ey] at py
        rw [pk_un ex, pk_un ey] at e
        rw [pk_un ex, pk_un ey]
        exact h5 p sp x y hx hy px py e
  · intro Q sQ x y hx hy px py e
    have k := hQ Q sQ
    by_cases ex : x = w
    · subst ex
      by_cases ey : y = x
      · subst ey
        exact Iff.rfl
      · rw [pk_us, pk_un ey] at e
        rw [pk_un ey] at py
        exact k.trans (h6 Q sQ v y hv hy pv py e)
    · rw [pk_un ex] at px
      by_cases ey : y = w
      · subst ey
        rw [pk_us, pk_un ex] at e
        exact (h6 Q sQ x v hx hv px pv e).trans k.symm
      · rw [pk_un ey] at py
        rw [pk_un ex, pk_un ey] at e
        exact h6 Q sQ x y hx hy px py e
  · intro z hz pz
    have le := ga_cnt_le pl 36
    rw [hc]
    by_cases e : z = w
    · subst e
      have b := h7 v hv pv
      rw [pk_us, ht, ga_addT (by omega) (by omega)]
      omega
    · rw [pk_un e] at pz ⊢
      have b := h7 z hz pz
      omega
theorem ga_iyRoot (H : ga_IY fx fy D m r (fun z => pl z ≠ 0) pl cm rl) (hm : ∀ c, c < m → fx c < 36 ∧ fy c < 36) (hr : r < 36) (pr : pl r = 0) :
    ga_IY fx fy D m r (fun z => pl z ≠ 0) (upd pl r 1) (upd cm r (nI r)) (upd rl r 0) := by
  obtain ⟨h1, h2, h3, h4, h5, h6, h7⟩ := H
  have Er : ∀ z, pl z ≠ 0 → z ≠ r := fun z e ez => e (ez ▸ pr)
  have nr : ∀ z, z < 36 → pl z ≠ 0 → cm z ≠ nI r := by
    intro z hz pz e
    obtain ⟨_, j, hj, ej⟩ := h2 z hz pz
    rw [ej] at e
    have := (nI_eq (by omega) (by omega)).mp e
    omega
  have hc := ga_cnt_up pr 36
  rw [if_pos hr] at hc
  have nn : ∀ z, z ≠ r → upd pl r 1 z ≠ 0 → pl z ≠ 0 := fun z e h => by rw [pk_un e] at h; exact h
  refine ⟨h1, ?_, ?_, ?_, ?_, ?_, ?_⟩
  · intro z hz e
    rw [pk_un (Er z e), pk_un (Er z e)]
    exact h2 z hz e
  · intro c hcm e
    have n1 := Er _ e
    have n2 := Er _ ((h1 c hcm).mp e)
    rw [pk_un n1, pk_un n2, pk_un n1, pk_un n2]
    exact h3 c hcm e
  · intro z hz pz ne
    by_cases e : z = r
    · subst e
      rw [pk_us]
    · exact absurd (nn z e pz) ne
  · intro p sp x y hx hy px py e
    by_cases ex : x = r
    · subst ex
      by_cases ey : y = x
      · subst ey
        rw [Int32.sub_self, Int32.sub_self]
      · rw [pk_us, pk_un ey] at e
        exact absurd e.symm (nr y hy (nn y ey py))
    · by_cases ey : y = r
      · subst ey
        rw [pk_us, pk_un ex] at e
        exact absurd e (nr x hx (nn x ex px))
      · rw [pk_un ex, pk_un ey] at e
        rw [pk_un ex, pk_un ey]
        exact h5 p sp x y hx hy (nn x ex px) (nn y ey py) e
  · intro Q sQ x y hx hy px py e
    by_cases ex : x = r
    · subst ex
      by_cases ey : y = x
      · subst ey
        exact Iff.rfl
      · rw [pk_us, pk_un ey] at e
        exact absurd e.symm (nr y hy (nn y ey py))
    · by_cases ey : y = r
      · subst ey
        rw [pk_us, pk_un ex] at e
        exact absurd e (nr x hx (nn x ex px))
      · rw [pk_un ex, pk_un ey] at e
        exact h6 Q sQ x y hx hy (nn x ex px) (nn y ey py) e
  · intro z hz pz
    rw [hc]
    by_cases e : z = r
    · subst e
      rw [pk_us, show (0 : Int32).toInt = 0 from by decide]
      omega
    · have b := h7 z hz (nn z e pz)
      rw [pk_un e]
      omega
theorem ga_iyDone (H : ga_IY fx fy D m r E pl cm rl) (ok : ∀ c, c < m → ga_Ok fx fy D pl cm rl c) : ga_IY fx fy D m (r + 1) (fun z => pl z ≠ 0) pl cm rl := by
  obtain ⟨h1, h2, h3, h4, h5, h6, h7⟩ := H
  refine ⟨?_, ?_, ?_, fun z _ pz ne => absurd pz ne, h5, h6, h7⟩
  · intro c hc
    rcases ok c hc with ⟨a, b, _⟩ | ⟨a, b⟩
    · exact ⟨fun _ => b, fun _ => a⟩
    · exact ⟨fun z => absurd a z, fun z => absurd b z⟩
  · intro z hz pz
    refine ⟨pz, ?_⟩
    by_cases e : E z
    · obtain ⟨_, j, hj, ej⟩ := h2 z hz e
      exact ⟨j, by omega, ej⟩
    · exact ⟨r, by omega, h4 z hz pz e⟩
  · intro c hc e
    rcases ok c hc with ⟨_, _, a, b⟩ | ⟨a, _⟩
    · exact ⟨a, b⟩
    · exact absurd a e
theorem ga_iy0 (hm : ∀ c, c < m → fx c < 36 ∧ fy c < 36) (h0 : ∀ z, z < 36 → pl z = 0) : ga_IY fx fy D m 0 (fun z => pl z ≠ 0) pl cm rl := by
  refine ⟨?_, fun z hz e => absurd (h0 z hz) e, fun c hc e => absurd (h0 _ (hm c hc).1) e, fun z hz e => absurd (h0 z hz) e, fun _ _ x _ hx _ px => absurd (h0 x hx) px, fun _ _ x _ hx _ px => absurd (h0 x hx) px, fun z hz e => absurd (h0 z hz) e⟩
  intro c hc
  exact ⟨fun z => absurd (h0 _ (hm c hc).1) z, fun z => absurd (h0 _ (hm c hc).2) z⟩
/-- both ends placed: one component -/
theorem ga_iyOne (H : ga_IY fx fy D m r E pl cm rl) (hm : ∀ c, c < m → fx c < 36 ∧ fy c < 36) {c : Nat} (hc : c < m) (px : pl (fx c) ≠ 0) (py : pl (fy c) ≠ 0) : cm (fx c) = cm (fy c) := by
  obtain ⟨h1, h2, h3, h4, _⟩ := H
  by_cases e : E (fx c)
  · exact (h3 c hc e).1
  · rw [h4 _ (hm c hc).1 px e, h4 _ (hm c hc).2 py (fun z => e ((h1 c hc).mpr z))]
theorem ga_iyBad (H : ga_IY fx fy D m r E pl cm rl) (hm : ∀ c, c < m → fx c < 36 ∧ fy c < 36) {c : Nat} (hc : c < m) (px : pl (fx c) ≠ 0) (py : pl (fy c) ≠ 0) (ne : ¬ rl (fx c) = rl (fy c) + D c) : ¬ ∃ p, ga_Sol (ga_C fx fy D m) p := by
  rintro ⟨p, sp⟩
  have e1 := H.2.2.2.2.1 p sp _ _ (hm c hc).1 (hm c hc).2 px py (ga_iyOne H hm hc px py)
  have e2 := sp _ _ _ ⟨c, hc, rfl, rfl, rfl⟩
  exact ne (by grind)
/-- x placed, y not: y is placed from x -/
theorem ga_iyXY (H : ga_IY fx fy D m r E pl cm rl) (hm : ∀ c, c < m → fx c < 36 ∧ fy c < 36) {c : Nat} (hc : c < m) (hd : -128 ≤ (D c).toInt ∧ (D c).toInt ≤ 128) (px : pl (fx c) ≠ 0) (py : pl (fy c) = 0) :
    ga_IY fx fy D m r E (upd pl (fy c) 1) (upd cm (fy c) (cm (fx c))) (upd rl (fy c) (rl (fx c) - D c)) := by
  have nE : ¬ E (fx c) := fun e => (H.2.1 _ (hm c hc).2 ((H.1 c hc).mp e)).1 py
  refine ga_iyPut (δ := 0 - D c) H hm (hm c hc).1 (hm c hc).2 px py nE ?_ ?_ ?_ (by grind)
  · intro p sp
    have e2 := sp _ _ _ ⟨c, hc, rfl, rfl, rfl⟩
    grind
  · intro Q sQ
    exact (sQ _ _ _ ⟨c, hc, rfl, rfl, rfl⟩).symm
  · have z : (0 : Int32).toInt = 0 := by decide
    rw [ga_subT (by rw [z]; omega) (by omega), z]
    omega
theorem ga_iyYX (H : ga_IY fx fy D m r E pl cm rl) (hm : ∀ c, c < m → fx c < 36 ∧ fy c < 36) {c : Nat} (hc : c < m) (hd : -128 ≤ (D c).toInt ∧ (D c).toInt ≤ 128) (px : pl (fx c) = 0) (py : pl (fy c) ≠ 0) :
    ga_IY fx fy D m r E (upd pl (fx c) 1) (upd cm (fx c) (cm (fy c))) (upd rl (fx c) (rl (fy c) + D c)) := by
  have nE : ¬ E (fy c) := fun e => (H.2.1 _ (hm c hc).1 ((H.1 c hc).mpr e)).1 px
  refine ga_iyPut (δ := D c) H hm (hm c hc).2 (hm c hc).1 py px nE ?_ ?_ hd rfl
  · intro p sp
    have e2 := sp _ _ _ ⟨c, hc, rfl, rfl, rfl⟩
    grind
  · intro Q sQ
    exact sQ _ _ _ ⟨c, hc, rfl, rfl, rfl⟩
end GLAY
end
section
section GTIE
/-! both layouts of one set of constraints; cells; addresses -/
def gb_Lay (C : ga_T) (g q cm rl : Nat → Int32) : Prop :=
  (∀ x y, x < 36 → y < 36 → (g x = g y ↔ cm x = cm y)) ∧
  (∀ x y, x < 36 → y < 36 → g x = g y → q x - q y = rl x - rl y) ∧
  (∀ x, x < 36 → -4608 ≤ (rl x).toInt ∧ (rl x).toInt ≤ 4608) ∧
  (∀ x, x < 36 → -9216 ≤ (q x).toInt ∧ (q x).toInt ≤ 9216) ∧
  (∀ x, x < 36 → ∃ j, j < 36 ∧ cm x = nI j) ∧
  (∀ x y d, C x y d → x < 36 ∧ y < 36 ∧ cm x = cm y ∧ rl x = rl y + d) ∧
  (∀ Q, ga_Cl C Q → ∀ x y, x < 36 → y < 36 → cm x = cm y → (Q x ↔ Q y))
theorem gb_sol {C S : ga_T} {g q : Nat → Int32} (HX : ga_IX C S g q) (hS : ∀ x y d, C x y d → S x y d) : ∃ p, ga_Sol C p :=
  ⟨q, fun x y d h => (HX.1 x y d (hS x y d h)).2.2.2⟩
theorem gb_tie {fx fy : Nat → Nat} {D : Nat → Int32} {m : Nat} {S : ga_T} {g q pl cm rl : Nat → Int32} (HX : ga_IX (ga_C fx fy D m) S g q) (hS : ∀ x y d, ga_C fx fy D m x y d → S x y d)
    (HY : ga_IY fx fy D m 36 (fun z => pl z ≠ 0) pl cm rl) (hp : ∀ z, z < 36 → pl z ≠ 0) (hm : ∀ c, c < m → fx c < 36 ∧ fy c < 36) : gb_Lay (ga_C fx fy D m) g q cm rl := by
  obtain ⟨x1, x2, x3, x4⟩ := HX
  obtain ⟨y1, y2, y3, y4, y5, y6, y7⟩ := HY
  have ys : ∀ x y d, ga_C fx fy D m x y d → x < 36 ∧ y < 36 ∧ cm x = cm y ∧ rl x = rl y + d := by
    rintro x y d ⟨c, hc, rfl, rfl, rfl⟩
    exact ⟨(hm c hc).1, (hm c hc).2, y3 c hc (hp _ (hm c hc).1)⟩
  have sq : ga_Sol (ga_C fx fy D m) q := fun x y d h => (x1 x y d (hS x y d h)).2.2.2
  have gi : ∀ x y, x < 36 → y < 36 → (g x = g y ↔ cm x = cm y) := by
    intro x y hx hy
    constructor
    · intro e
      have := x3 (fun z => cm z = cm x) (fun a b d h => by show (cm a = cm x) ↔ (cm b = cm x); rw [(ys a b d h).2.2.1]) x y hx hy e
      exact (this.mp rfl).symm
    · intro e
      have := y6 (fun z => g z = g x) (fun a b d h => by show (g a = g x) ↔ (g b = g x); rw [(x1 a b d (hS a b d h)).2.2.1]) x y hx hy (hp x hx) (hp y hy) e
      exact (this.mp rfl).symm
  have gp : ∀ x y, x < 36 → y < 36 → g x = g y → q x - q y = rl x - rl y :=
    fun x y hx hy e => y5 q sq x y hx hy (hp x hx) (hp y hy) ((gi x y hx hy).mp e)
  have br : ∀ x, x < 36 → -4608 ≤ (rl x).toInt ∧ (rl x).toInt ≤ 4608 := by
    intro x hx
    have b := y7 x hx (hp x hx)
    have c := ga_cnt_le pl 36
    omega
  refine ⟨gi, gp, br, ?_, ?_, ys, ?_⟩
  · intro x hx
    obtain ⟨j, hj, e1, e2, e3⟩ := x4 x hx
    have e4 := gp x j hx hj (e1.trans e2.symm)
    have e5 : q x = rl x - rl j := by rw [e3] at e4; grind
    have b1 := br x hx
    have b2 := br j hj
    rw [e5, ga_subT (by omega) (by omega)]
    omega
  · intro x hx
    obtain ⟨_, j, hj, e⟩ := y2 x hx (hp x hx)
    exact ⟨j, hj, e⟩
  · intro Q hQ x y hx hy e
    exact y6 Q hQ x y hx hy (hp x hx) (hp y hy) e
variable {C : ga_T} {g q cm rl : Nat → Int32}
theorem gb_lt (H : gb_Lay C g q cm rl) {x y : Nat} (hx : x < 36) (hy : y < 36) (e : g x = g y) : q x < q y ↔ rl x < rl y := by
  obtain ⟨_, h2, h3, h4, _⟩ := H
  have e1 := congrArg Int32.toInt (h2 x y hx hy e)
  have a1 := h3 x hx
  have a2 := h3 y hy
  have a3 := h4 x hx
  have a4 := h4 y hy
  rw [ga_subT (by omega) (by omega), ga_subT (by omega) (by omega)] at e1
  rw [Int32.lt_iff_toInt_lt, Int32.lt_iff_toInt_lt]
  omega
theorem gb_alone (H : gb_Lay C g q cm rl) {k y : Nat} (hk : k < 36) (hy : y < 36) (n : ∀ z d, ¬ C k z d ∧ ¬ C z k d) (e : cm k = cm y) : y = k := by
  have := H.2.2.2.2.2.2 (fun z => z = k) (fun a b d h => ⟨fun z => absurd (z ▸ h) (n b d).1, fun z => absurd (z ▸ h) (n a d).2⟩) k y hk hy e
  exact this.mp rfl
/-- the constraints' shape: an EQUIVALENCE within the lengths, or a COMMON entry whose offset is filled by the entries before it -/
def gb_Str (L : Nat → Nat) (St : Nat → Prop) (C : ga_T) : Prop := ∀ x y d, C x y d →
  (x < 32 ∧ y < 32 ∧ St x ∧ St y ∧ ∃ ia ib : Nat, 1 ≤ ia ∧ ia ≤ L x ∧ 1 ≤ ib ∧ ib ≤ L y ∧ d = nI ib - nI ia) ∨
  (x < 32 ∧ St x ∧ 32 ≤ y ∧ y < 36 ∧ ∃ o : Nat, o ≤ 128 ∧ d = nI o ∧ ∀ s, s < o → ∃ x' o', C x' y (nI o') ∧ x' < 32 ∧ St x' ∧ o' ≤ s ∧ s < o' + L x')
theorem gb_nIT {n : Nat} (h : n ≤ 1000) : (nI n).toInt = (n : Int) := nI_toInt (by omega)
theorem gb_cover {L : Nat → Nat} {St : Nat → Prop} (H : gb_Lay C g q cm rl) (hs : gb_Str L St C) (hL : ∀ k, k < 32 → 1 ≤ L k ∧ L k ≤ 16) {k1 k2 : Nat} {t : Int} (h1 : k1 < 32) (h2 : k2 < 32) (s1 : St k1) (ec : cm k1 = cm k2)
    (l1 : (rl k1).toInt ≤ t) (l2 : t < (rl k2).toInt + L k2) : ∃ k, k < 32 ∧ St k ∧ cm k = cm k1 ∧ (rl k).toInt ≤ t ∧ t < (rl k).toInt + L k := by
  apply Classical.byContradiction
  intro hn
  have nc : ∀ k, k < 32 → St k → cm k = cm k1 → t < (rl k).toInt ∨ (rl k).toInt + L k ≤ t := by
    intro k hk sk ek
    by_cases a : t < (rl k).toInt
    · exact Or.inl a
    · by_cases b : (rl k).toInt + L k ≤ t
      · exact Or.inr b
      · exact absurd ⟨k, hk, sk, ek, by omega, by omega⟩ hn
  obtain ⟨_, _, hb, _, _, hy, hQ⟩ := H
  have key := hQ (fun z => cm z = cm k1 ∧ (if z < 32 then (rl z).toInt + L z ≤ t else (rl z).toInt ≤ t)) ?_ k1 k2 (by omega) (by omega) ec
  · simp only [if_pos h1, if_pos h2] at key
    have a := nc k1 h1 s1 rfl
    have b := key.mp ⟨by trivial, by omega⟩
    omega
  · intro x y d hc
    obtain ⟨hx, hyy, e1, e2⟩ := hy x y d hc
    have bx := hb x hx
    have by' := hb y hyy
    rcases hs x y d hc with ⟨x3, y3, sx, sy, ia, ib, a1, a2, b1, b2, ed⟩ | ⟨x3, sx, y1, y2, o, ho, ed, hf⟩
    · have lx := hL x x3
      have ly := hL y y3
      have e3 : (rl x).toInt = (rl y).toInt + (ib - ia) := by
        rw [e2, ed, ga_addT (by omega) (by rw [pk_sub_toInt (by omega) (by omega)]; omega), pk_sub_toInt (by omega) (by omega)]
      simp only [if_pos x3, if_pos y3]
      constructor
      · rintro ⟨c1, c2⟩
        have := nc y y3 sy (e1.symm.trans c1)
        exact ⟨e1.symm.trans c1, by omega⟩
      · rintro ⟨c1, c2⟩
        have := nc x x3 sx (e1.trans c1)
        exact ⟨e1.trans c1, by omega⟩
    · have lx := hL x x3
      have e3 : (rl x).toInt = (rl y).toInt + o := by
        rw [e2, ed, ga_addT (by omega) (by rw [gb_nIT (by omega)]; omega), gb_nIT (by omega)]
      simp only [if_pos x3, if_neg (show ¬ y < 32 by omega)]
      constructor
      · rintro ⟨c1, c2⟩
        exact ⟨e1.symm.trans c1, by omega⟩
      · rintro ⟨c1, c2⟩
        refine ⟨e1.trans c1, ?_⟩
        rcases nc x x3 sx (e1.trans c1) with z | z
        · exfalso
          obtain ⟨x', o', hc', x3', sx', l3, l4⟩ := hf (t - (rl y).toInt).toNat (by omega)
          obtain ⟨_, _, f1, f2⟩ := hy x' y _ hc'
          have lx' := hL x' x3'
          have f3 : (rl x').toInt = (rl y).toInt + o' := by
            rw [f2, ga_addT (by omega) (by rw [gb_nIT (by omega)]; omega), gb_nIT (by omega)]
          have := nc x' x3' sx' (f1.trans c1)
          omega
        · exact z
/-- the class's cell of element i of slot k: the first slot that holds it -/
def gb_Fst (g q : Nat → Int32) (L : Nat → Nat) (k i e : Nat) : Prop := ∃ o j, o < 32 ∧ e = o * 16 + j - 1 ∧ 1 ≤ j ∧ j ≤ L o ∧ j ≤ 16 ∧ g o = g k ∧ q k + nI i = q o + nI j ∧
  ∀ o', o' < o → ∀ j', 1 ≤ j' → j' ≤ L o' → g o' = g k → q k + nI i ≠ q o' + nI j'
theorem gb_fst_lt {L : Nat → Nat} {k i e : Nat} (h : gb_Fst g q L k i e) : e < 512 := by
  obtain ⟨o, j, ho, he, h1, _, h3, _⟩ := h
  omega
theorem gb_fst_iff {L : Nat → Nat} {k i e k' i' e' : Nat} (h : gb_Fst g q L k i e) (h' : gb_Fst g q L k' i' e') : e = e' ↔ (g k = g k' ∧ q k + nI i = q k' + nI i') := by
  obtain ⟨o, j, ho, he, h1, h2, h3, h4, h5, h6⟩ := h
  obtain ⟨o', j', ho', he', h1', h2', h3', h4', h5', h6'⟩ := h'
  constructor
  · intro e0
    have eo : o = o' := by omega
    have ej : j = j' := by omega
    subst eo
    subst ej
    exact ⟨h4.symm.trans h4', h5.trans h5'.symm⟩
  · rintro ⟨e1, e2⟩
    have eo : o = o' := by
      rcases Nat.lt_trichotomy o o' with l | l | l
      · exact absurd (e2.symm.trans h5) (h6' o l j h1 h2 (h4.trans e1))
      · exact l
      · exact absurd (e2.trans h5') (h6 o' l j' h1' h2' (h4'.trans e1.symm))
    subst eo
    have ej : nI j = nI j' := by
      have : q o + nI j = q o + nI j' := h5.symm.trans (e2.trans h5')
      grind
    rw [nI_eq (by omega) (by omega)] at ej
    omega
theorem gb_ph : ∀ (m n : Nat) (R : Nat → Nat → Prop), (∀ a, a < n → ∃ e, e < m ∧ R a e) → (∀ a a' e, a < n → a' < n → R a e → R a' e → a = a') → n ≤ m := by
  intro m
  induction m with
  | zero =>
    intro n R h1 _
    rcases Nat.eq_zero_or_pos n with z | z
    · omega
    · obtain ⟨e, he, _⟩ := h1 0 z
      omega
  | succ m ih =>
    intro n R h1 h2
    by_cases hx : ∃ a0, a0 < n ∧ R a0 m
    · obtain ⟨a0, ha0, r0⟩ := hx
      have hs : ∀ a, a < n - 1 → (if a = a0 then n - 1 else a) < n ∧ (if a = a0 then n - 1 else a) ≠ a0 := by
        intro a ha
        split <;> constructor <;> omega
      have := ih (n - 1) (fun a e => R (if a = a0 then n - 1 else a) e) ?_ ?_
      · omega
      · intro a ha
        obtain ⟨s1, s2⟩ := hs a ha
        obtain ⟨e, he, hr⟩ := h1 _ s1
        have : e ≠ m := by
          intro z
          cases z
          exact s2 (h2 _ _ _ s1 ha0 hr r0)
        exact ⟨e, by omega, hr⟩
      · intro a a' e ha ha' r1 r2
        have z := h2 _ _ _ (hs a ha).1 (hs a' ha').1 r1 r2
        split at z <;> split at z <;> omega
    · have := ih n R ?_ h2
      · omega
      · intro a ha
        obtain ⟨e, he, hr⟩ := h1 a ha
        have : e ≠ m := by
          intro z
          cases z
          exact hx ⟨a, ha, hr⟩
        exact ⟨e, by omega, hr⟩
/-- the least start and the greatest end within component r -/
def gb_MM (L : Nat → Nat) (St : Nat → Prop) (cm rl : Nat → Int32) (r : Nat) (mn mx : Int) : Prop :=
  (∀ k, k < 32 → St k → cm k = nI r → mn ≤ (rl k).toInt ∧ (rl k).toInt + L k ≤ mx) ∧
  (∃ k, k < 32 ∧ St k ∧ cm k = nI r ∧ (rl k).toInt = mn) ∧ (∃ k, k < 32 ∧ St k ∧ cm k = nI r ∧ (rl k).toInt + L k = mx)
def gb_AL (L : Nat → Nat) (St : Nat → Prop) (cm rl : Nat → Int32) (k N : Nat) (hv ba ad : Nat → Int32) : Prop := ∃ mn mx s : Nat → Int,
  N ≤ k * 10000 ∧
  (∀ k', k' < k → St k' → ∃ r, r < 36 ∧ cm k' = nI r ∧ hv r ≠ 0 ∧ ad k' = ba r + rl k') ∧
  (∀ r, r < 36 → hv r ≠ 0 → gb_MM L St cm rl r (mn r) (mx r) ∧ 0 ≤ s r ∧ s r + (mx r - mn r) ≤ N ∧ (ba r).toInt = s r - mn r) ∧
  (∀ r r', r < 36 → r' < 36 → hv r ≠ 0 → hv r' ≠ 0 → r ≠ r' → s r + (mx r - mn r) ≤ s r' ∨ s r' + (mx r' - mn r') ≤ s r) ∧
  (∀ a : Int, 0 ≤ a → a < N → ∃ r, r < 36 ∧ hv r ≠ 0 ∧ s r ≤ a ∧ a < s r + (mx r - mn r))
variable {L : Nat → Nat} {St : Nat → Prop} {k N r : Nat} {hv ba ad : Nat → Int32}
theorem gb_al0 (h : ∀ r, r < 36 → hv r = 0) : gb_AL L St cm rl 0 0 hv ba ad :=
  ⟨fun _ => 0, fun _ => 0, fun _ => 0, by omega, fun k' h' => absurd h' (Nat.not_lt_zero k'), fun r hr e => absurd (h r hr) e, fun r _ hr _ e => absurd (h r hr) e, fun a h1 h2 => by omega⟩
theorem gb_alSkip (H : gb_AL L St cm rl k N hv ba ad) (n : ¬ St k) : gb_AL L St cm rl (k + 1) N hv ba ad := by
  obtain ⟨mn, mx, s, h0, h1, h2, h3, h4⟩ := H
  refine ⟨mn, mx, s, by omega, ?_, h2, h3, h4⟩
  intro k' hk' sk
  by_cases e : k' = k
  · exact absurd (e ▸ sk) n
  · exact h1 k' (by omega) sk
theorem gb_alOld (H : gb_AL L St cm rl k N hv ba ad) (hr : r < 36) (ec : cm k = nI r) (hh : hv r ≠ 0) : gb_AL L St cm rl (k + 1) N hv ba (upd ad k (ba r + rl k)) := by
  obtain ⟨mn, mx, s, h0, h1, h2, h3, h4⟩ := H
  refine ⟨mn, mx, s, by omega, ?_, h2, h3, h4⟩
  intro k' hk' sk
  by_cases e : k' = k
  · subst e
    exact ⟨r, hr, ec, hh, pk_us⟩
  · obtain ⟨r', a, b, c, d⟩ := h1 k' (by omega) sk
    exact ⟨r', a, b, c, by rw [pk_un e]; exact d⟩
end GTIE
end
section
section GADR
variable {C : ga_T} {g q cm rl : Nat → Int32} {L : Nat → Nat} {St : Nat → Prop} {k N r : Nat} {hv ba ad : Nat → Int32}
theorem gc_alNew {mnv mxv : Int32} (H : gb_AL L St cm rl k N hv ba ad) (hk : k < 32) (hr : r < 36) (ec : cm k = nI r) (hh : hv r = 0) (MM : gb_MM L St cm rl r mnv.toInt mxv.toInt)
    (hb : ∀ x, x < 36 → -4608 ≤ (rl x).toInt ∧ (rl x).toInt ≤ 4608) (hL : ∀ k, k < 32 → 1 ≤ L k ∧ L k ≤ 16) :
    ∃ N', nI N + mxv - mnv = nI N' ∧ gb_AL L St cm rl (k + 1) N' (upd hv r 1) (upd ba r (nI N - mnv)) (upd ad k (nI N - mnv + rl k)) := by
  obtain ⟨mn, mx, s, h0, h1, h2, h3, h4⟩ := H
  have M := MM
  obtain ⟨m1, ⟨k1, a1, a2, a3, a4⟩, ⟨k2, b1, b2, b3, b4⟩⟩ := MM
  have c1 := hb k1 (by omega)
  have c2 := hb k2 (by omega)
  have c3 := hL k1 a1
  have c4 := hL k2 b1
  have c5 := m1 k1 a1 a2 a3
  have hN : (nI N).toInt = (N : Int) := nI_toInt (by omega)
  have hba : (nI N - mnv).toInt = (N : Int) - mnv.toInt := by
    rw [ga_subT (by omega) (by omega), hN]
  refine ⟨N + (mxv.toInt - mnv.toInt).toNat, ?_, fun x => if x = r then mnv.toInt else mn x, fun x => if x = r then mxv.toInt else mx x, fun x => if x = r then (N : Int) else s x, ?_, ?_, ?_, ?_, ?_⟩
  · apply Int32.toInt_inj.mp
    have e1 : (nI N + mxv).toInt = N + mxv.toInt := by rw [ga_addT (by omega) (by omega), hN]
    rw [ga_subT (by omega) (by omega), e1, nI_toInt (by omega)]
    omega
  · omega
  · intro k' hk' sk
    by_cases e : k' = k
    · subst e
      exact ⟨r, hr, ec, by rw [pk_us]; decide, by rw [pk_us, pk_us]⟩
    · obtain ⟨r', d1, d2, d3, d4⟩ := h1 k' (by omega) sk
      have ne : r' ≠ r := fun z => d3 (z ▸ hh)
      exact ⟨r', d1, d2, by rw [pk_un ne]; exact d3, by rw [pk_un e, pk_un ne]; exact d4⟩
  · intro x hx hx2
    by_cases e : x = r
    · subst e
      simp only [if_true, pk_us]
      exact ⟨M, by omega, by omega, hba⟩
    · rw [pk_un e] at hx2
      obtain ⟨d1, d2, d3, d4⟩ := h2 x hx hx2
      simp only [if_neg e, pk_un e]
      exact ⟨d1, d2, by omega, d4⟩
  · intro x y hx hy hx2 hy2 ne
    by_cases e : x = r
    · subst e
      have e' : y ≠ x := fun z => ne z.symm
      rw [pk_un e'] at hy2
      obtain ⟨d1, d2, d3, d4⟩ := h2 y hy hy2
      simp only [if_true, if_neg e']
      exact Or.inr d3
    · rw [pk_un e] at hx2
      by_cases e' : y = r
      · subst e'
        obtain ⟨d1, d2, d3, d4⟩ := h2 x hx hx2
        simp only [if_true, if_neg e]
        exact Or.inl d3
      · rw [pk_un e'] at hy2
        simp only [if_neg e, if_neg e']
        exact h3 x y hx hy hx2 hy2 ne
  · intro a l1 l2
    by_cases c : a < N
    · obtain ⟨x, d1, d2, d3, d4⟩ := h4 a l1 c
      have e : x ≠ r := fun z => d2 (z ▸ hh)
      refine ⟨x, d1, by rw [pk_un e]; exact d2, ?_⟩
      simp only [if_neg e]
      exact ⟨d3, d4⟩
    · refine ⟨r, hr, by rw [pk_us]; decide, ?_⟩
      simp only [if_true]
      omega
/-- what the two allocations have in common: the cell E of an element and its address -/
theorem gc_fin (H : gb_AL L St cm rl 32 N hv ba ad) (HL : gb_Lay C g q cm rl) (hs : gb_Str L St C) (hL : ∀ k, k < 32 → 1 ≤ L k ∧ L k ≤ 16) :
    (∀ k, k < 32 → St k → ∃ A, ad k = nI A ∧ A + L k ≤ 512) ∧
    (∀ k k' i i' A A', k < 32 → k' < 32 → St k → St k' → 1 ≤ i → i ≤ L k → 1 ≤ i' → i' ≤ L k' → A < 512 → A' < 512 → ad k = nI A → ad k' = nI A' → (A + i = A' + i' ↔ (cm k = cm k' ∧ rl k + nI i = rl k' + nI i'))) := by
  obtain ⟨mn, mx, s, h0, h1, h2, h3, h4⟩ := H
  have hb := HL.2.2.1
  have rr : ∀ {a b : Nat}, a < 36 → b < 36 → nI a = nI b → a = b := fun ha hb e => (nI_eq (by omega) (by omega)).mp e
  have ad1 : ∀ k r, k < 32 → St k → r < 36 → cm k = nI r → hv r ≠ 0 ∧ (ad k).toInt = s r - mn r + (rl k).toInt ∧ s r ≤ (ad k).toInt ∧ (ad k).toInt + L k ≤ s r + (mx r - mn r) ∧ 0 ≤ s r ∧ s r + (mx r - mn r) ≤ N := by
    intro k r hk sk hr ec
    obtain ⟨r', d1, d2, d3, d4⟩ := h1 k hk sk
    have er := rr hr d1 (ec.symm.trans d2)
    subst er
    obtain ⟨⟨m1, ⟨k1, a1, a2, a3, a4⟩, _⟩, e2, e3, e4⟩ := h2 r hr d3
    have c := m1 k hk sk ec
    have b := hb k (by omega)
    have b1 := hb k1 (by omega)
    have e5 : (ad k).toInt = s r - mn r + (rl k).toInt := by
      rw [d4, ga_addT (by omega) (by omega), e4]
    exact ⟨d3, e5, by omega, by omega, e2, e3⟩
  have hN : N ≤ 512 := by
    refine gb_ph 512 N (fun a e => ∃ k i, k < 32 ∧ St k ∧ 1 ≤ i ∧ i ≤ L k ∧ e = k * 16 + i - 1 ∧ (a : Int) = (ad k).toInt + i - 1) ?_ ?_
    · intro a ha
      obtain ⟨r, hr, d2, d3, d4⟩ := h4 (a : Int) (by omega) (by omega)
      obtain ⟨⟨m1, ⟨k1, a1, a2, a3, a4⟩, ⟨k2, b1, b2, b3, b4⟩⟩, e2, e3, e4⟩ := h2 r hr d2
      obtain ⟨k, f1, f2, f3, f4, f5⟩ := gb_cover (t := (a : Int) - s r + mn r) HL hs hL a1 b1 a2 (a3.trans b3.symm) (by omega) (by omega)
      obtain ⟨_, g2, _⟩ := ad1 k r f1 f2 hr (f3.trans a3)
      have l := hL k f1
      refine ⟨k * 16 + ((a : Int) - s r + mn r - (rl k).toInt + 1).toNat - 1, by omega, k, ((a : Int) - s r + mn r - (rl k).toInt + 1).toNat, f1, f2, by omega, by omega, rfl, by omega⟩
    · rintro a a' e _ _ ⟨k, i, c1, c2, c3, c4, c5, c6⟩ ⟨k', i', c1', c2', c3', c4', c5', c6'⟩
      have l := hL k c1
      have l' := hL k' c1'
      have ek : k = k' := by omega
      have ei : i = i' := by omega
      subst ek
      subst ei
      omega
  constructor
  · intro k hk sk
    obtain ⟨r, d1, d2, d3, d4⟩ := h1 k hk sk
    obtain ⟨_, g2, g3, g4, g5, g6⟩ := ad1 k r hk sk d1 d2
    have l := hL k hk
    refine ⟨(ad k).toInt.toNat, ?_, by omega⟩
    apply Int32.toInt_inj.mp
    rw [nI_toInt (by omega)]
    omega
  · intro k k' i i' A A' hk hk' sk sk' i1 i2 i1' i2' lA lA' eA eA'
    obtain ⟨r, d1, d2, d3, d4⟩ := h1 k hk sk
    obtain ⟨r', d1', d2', d3', d4'⟩ := h1 k' hk' sk'
    obtain ⟨_, g2, g3, g4, g5, g6⟩ := ad1 k r hk sk d1 d2
    obtain ⟨_, g2', g3', g4', g5', g6'⟩ := ad1 k' r' hk' sk' d1' d2'
    have l := hL k hk
    have l' := hL k' hk'
    have b := hb k (by omega)
    have b' := hb k' (by omega)
    have tA : (ad k).toInt = (A : Int) := by rw [eA, nI_toInt (by omega)]
    have tA' : (ad k').toInt = (A' : Int) := by rw [eA', nI_toInt (by omega)]
    have ti : (rl k + nI i).toInt = (rl k).toInt + i := by rw [ga_addT (by omega) (by rw [nI_toInt (by omega)]; omega), nI_toInt (by omega)]
    have ti' : (rl k' + nI i').toInt = (rl k').toInt + i' := by rw [ga_addT (by omega) (by rw [nI_toInt (by omega)]; omega), nI_toInt (by omega)]
    constructor
    · intro e
      have er : r = r' := by
        apply Classical.byContradiction
        intro ne
        have := h3 r r' d1 d1' d3 d3' ne
        omega
      subst er
      refine ⟨d2.trans d2'.symm, ?_⟩
      apply Int32.toInt_inj.mp
      rw [ti, ti']
      omega
    · rintro ⟨e1, e2⟩
      have er : r = r' := rr d1 d1' (d2.symm.trans (e1.trans d2'))
      subst er
      have e3 := congrArg Int32.toInt e2
      rw [ti, ti'] at e3
      omega
end GADR
end
section
section GDEC
/-! codes -/
def fb_nm (c : Nat) : Nat := c % 10000 / 100
def fb_ix (c : Nat) : Nat := if c % 100 = 0 then 1 else c % 100
def fb_FX (c : Nat) : Prop := 10000 ≤ c ∧ c < 10800 ∧ c % 100 ≤ 16
def fb_IX (c : Nat) : Prop := 20000 ≤ c ∧ c < 20800 ∧ c % 100 < 8
theorem fb_nm8 {c : Nat} (h : fb_FX c ∨ fb_IX c) : fb_nm c < 8 := by
  unfold fb_FX fb_IX at h
  unfold fb_nm
  omega
theorem fb_ix1 (c : Nat) : 1 ≤ fb_ix c := by
  unfold fb_ix
  split <;> omega
theorem fb_ix16 {c : Nat} (h : fb_FX c) : fb_ix c ≤ 16 := by
  unfold fb_FX at h
  unfold fb_ix
  split <;> omega
/-! offsets within a block of one unit -/
def gd_off (L CB CN : Nat → Nat) (u b : Nat) : Nat → Nat
  | 0 => 0
  | f + 1 => gd_off L CB CN u b f + (if CB (u * 8 + f) = b then L (u * 8 + CN (u * 8 + f)) else 0)
/-- the constraints of a program -/
def gd_CS (L CC CB CN : Nat → Nat) (ne : Nat) (EU EA EB : Nat → Nat) : ga_T := fun x y d =>
  (∃ u i, u < 4 ∧ i < CC u ∧ x = u * 8 + CN (u * 8 + i) ∧ y = 32 + CB (u * 8 + i) ∧ d = nI (gd_off L CB CN u (CB (u * 8 + i)) i)) ∨
  (∃ e, e < ne ∧ x = EU e * 8 + fb_nm (EA e) ∧ y = EU e * 8 + fb_nm (EB e) ∧ d = nI (fb_ix (EB e)) - nI (fb_ix (EA e)))
variable {L P CC CB CN EU EA EB : Nat → Nat} {ne : Nat}
theorem gd_off_le {u b : Nat} (h : ∀ k, k < 32 → L k ≤ 16) (hn : ∀ i, i < 32 → CN i < 8) (hu : u < 4) : ∀ i, i ≤ 8 → gd_off L CB CN u b i ≤ i * 16 := by
  intro i
  induction i with
  | zero => intro _; exact Nat.le_refl 0
  | succ i ih =>
    intro hi
    have a := ih (by omega)
    have n := hn (u * 8 + i) (by omega)
    have l := h (u * 8 + CN (u * 8 + i)) (by omega)
    show gd_off L CB CN u b i + (if CB (u * 8 + i) = b then L (u * 8 + CN (u * 8 + i)) else 0) ≤ _
    split <;> omega
theorem gd_off_fill {u b : Nat} : ∀ i s, s < gd_off L CB CN u b i → ∃ f, f < i ∧ CB (u * 8 + f) = b ∧ gd_off L CB CN u b f ≤ s ∧ s < gd_off L CB CN u b f + L (u * 8 + CN (u * 8 + f)) := by
  intro i
  induction i with
  | zero => intro s h; exact absurd h (Nat.not_lt_zero s)
  | succ i ih =>
    intro s h
    by_cases a : s < gd_off L CB CN u b i
    · obtain ⟨f, h1, h2, h3, h4⟩ := ih s a
      exact ⟨f, by omega, h2, h3, h4⟩
    · have h' : s < gd_off L CB CN u b i + (if CB (u * 8 + i) = b then L (u * 8 + CN (u * 8 + i)) else 0) := h
      by_cases c : CB (u * 8 + i) = b
      · rw [if_pos c] at h'
        exact ⟨i, by omega, c, by omega, h'⟩
      · rw [if_neg c] at h'
        omega
/-- a dummy is declared: too long, in COMMON, or in an EQUIVALENCE -/
def gd_DB (L P CC CN : Nat → Nat) (ne : Nat) (EU EA EB : Nat → Nat) : Prop :=
  (∃ k, k < 32 ∧ k % 8 < P (k / 8) ∧ 1 < L k) ∨ (∃ u i, u < 4 ∧ i < CC u ∧ CN (u * 8 + i) < P u) ∨
  (∃ e, e < ne ∧ (fb_nm (EA e) < P (EU e) ∨ fb_nm (EB e) < P (EU e)))
/-- an EQUIVALENCE names an element beyond its length -/
def gd_XE (L : Nat → Nat) (ne : Nat) (EU EA EB : Nat → Nat) : Prop :=
  ∃ e, e < ne ∧ (L (EU e * 8 + fb_nm (EA e)) < fb_ix (EA e) ∨ L (EU e * 8 + fb_nm (EB e)) < fb_ix (EB e))
/-- slot k isn't a dummy -/
def gd_St (P : Nat → Nat) (k : Nat) : Prop := ¬ k % 8 < P (k / 8)
/-- what every recorded declaration keeps to -/
def gd_WD (L P CC CB CN : Nat → Nat) (ne : Nat) (EU EA EB : Nat → Nat) : Prop :=
  (∀ k, k < 32 → 1 ≤ L k ∧ L k ≤ 16) ∧ (∀ u, u < 4 → P u ≤ 3) ∧ (∀ u, u < 4 → CC u ≤ 8) ∧ (∀ i, i < 32 → CB i < 4 ∧ CN i < 8) ∧ ne ≤ 16 ∧
  (∀ e, e < ne → EU e < 4 ∧ fb_FX (EA e) ∧ fb_FX (EB e))
theorem gd_cs36 (W : gd_WD L P CC CB CN ne EU EA EB) {x y : Nat} {d : Int32} (h : gd_CS L CC CB CN ne EU EA EB x y d) : x < 36 ∧ y < 36 ∧ -128 ≤ d.toInt ∧ d.toInt ≤ 128 := by
  obtain ⟨w1, w2, w3, w4, w5, w6⟩ := W
  rcases h with ⟨u, i, hu, hi, rfl, rfl, rfl⟩ | ⟨e, he, rfl, rfl, rfl⟩
  · have c := w3 u hu
    have n := w4 (u * 8 + i) (by omega)
    have o := gd_off_le (L := L) (CB := CB) (CN := CN) (b := CB (u * 8 + i)) (fun k hk => (w1 k hk).2) (fun i hi => (w4 i hi).2) hu i (by omega)
    rw [nI_toInt (by omega)]
    omega
  · obtain ⟨a, b, c⟩ := w6 e he
    have n1 := fb_nm8 (Or.inl b)
    have n2 := fb_nm8 (Or.inl c)
    have i1 := fb_ix16 b
    have i2 := fb_ix16 c
    have j1 := fb_ix1 (EA e)
    have j2 := fb_ix1 (EB e)
    rw [pk_sub_toInt (by omega) (by omega)]
    omega
theorem gd_str (W : gd_WD L P CC CB CN ne EU EA EB) (nd : ¬ gd_DB L P CC CN ne EU EA EB) (nx : ¬ gd_XE L ne EU EA EB) : gb_Str L (gd_St P) (gd_CS L CC CB CN ne EU EA EB) := by
  obtain ⟨w1, w2, w3, w4, w5, w6⟩ := W
  have sc : ∀ u i, u < 4 → i < CC u → gd_St P (u * 8 + CN (u * 8 + i)) := by
    intro u i hu hi z
    have c := w3 u hu
    have n := w4 (u * 8 + i) (by omega)
    have e1 : (u * 8 + CN (u * 8 + i)) % 8 = CN (u * 8 + i) := by omega
    have e2 : (u * 8 + CN (u * 8 + i)) / 8 = u := by omega
    rw [e1, e2] at z
    exact nd (Or.inr (Or.inl ⟨u, i, hu, hi, z⟩))
  intro x y d h
  rcases h with ⟨u, i, hu, hi, rfl, rfl, rfl⟩ | ⟨e, he, rfl, rfl, rfl⟩
  · right
    have c := w3 u hu
    have n := w4 (u * 8 + i) (by omega)
    have o := gd_off_le (L := L) (CB := CB) (CN := CN) (b := CB (u * 8 + i)) (fun k hk => (w1 k hk).2) (fun i hi => (w4 i hi).2) hu i (by omega)
    refine ⟨by omega, sc u i hu hi, by omega, by omega, _, by omega, rfl, ?_⟩
    intro s hs
    obtain ⟨f, f1, f2, f3, f4⟩ := gd_off_fill i s hs
    have n' := w4 (u * 8 + f) (by omega)
    exact ⟨u * 8 + CN (u * 8 + f), _, Or.inl ⟨u, f, hu, by omega, rfl, by rw [f2], by rw [f2]⟩, by omega, sc u f hu (by omega), f3, f4⟩
  · left
    obtain ⟨a, b, c⟩ := w6 e he
    have n1 := fb_nm8 (Or.inl b)
    have n2 := fb_nm8 (Or.inl c)
    have d1 : ∀ n, n < 8 → (EU e * 8 + n) % 8 = n ∧ (EU e * 8 + n) / 8 = EU e := by intro n hn; omega
    refine ⟨by omega, by omega, ?_, ?_, fb_ix (EA e), fb_ix (EB e), fb_ix1 _, ?_, fb_ix1 _, ?_, rfl⟩
    · intro z
      rw [(d1 _ n1).1, (d1 _ n1).2] at z
      exact nd (Or.inr (Or.inr ⟨e, he, Or.inl z⟩))
    · intro z
      rw [(d1 _ n2).1, (d1 _ n2).2] at z
      exact nd (Or.inr (Or.inr ⟨e, he, Or.inr z⟩))
    · exact Nat.le_of_not_lt fun z => nx ⟨e, he, Or.inl z⟩
    · exact Nat.le_of_not_lt fun z => nx ⟨e, he, Or.inr z⟩
/-- no constraint touches a dummy -/
theorem gd_alone (hs : gb_Str L (gd_St P) (gd_CS L CC CB CN ne EU EA EB)) {k : Nat} (hk : k < 32) (d : ¬ gd_St P k) (z : Nat) (v : Int32) :
    ¬ gd_CS L CC CB CN ne EU EA EB k z v ∧ ¬ gd_CS L CC CB CN ne EU EA EB z k v := by
  constructor
  · intro h
    rcases hs k z v h with ⟨_, _, s, _⟩ | ⟨_, s, _⟩
    · exact d s
    · exact d s
  · intro h
    rcases hs z k v h with ⟨_, _, _, s, _⟩ | ⟨_, _, y1, _⟩
    · exact d s
    · omega
/-- the constraints that the class has taken in when it stands at unit u, block b, entry i -/
def gd_SX (L CC CB CN : Nat → Nat) (u b i : Nat) : ga_T := fun x y d =>
  ∃ u' i', u' < 4 ∧ i' < CC u' ∧ (u' < u ∨ (u' = u ∧ (CB (u' * 8 + i') < b ∨ (CB (u' * 8 + i') = b ∧ i' < i)))) ∧
    x = u' * 8 + CN (u' * 8 + i') ∧ y = 32 + CB (u' * 8 + i') ∧ d = nI (gd_off L CB CN u' (CB (u' * 8 + i')) i')
/-- .. and at EQUIVALENCE e -/
def gd_SE (L CC CB CN : Nat → Nat) (EU EA EB : Nat → Nat) (e : Nat) : ga_T := fun x y d =>
  gd_SX L CC CB CN 4 0 0 x y d ∨ (∃ f, f < e ∧ x = EU f * 8 + fb_nm (EA f) ∧ y = EU f * 8 + fb_nm (EB f) ∧ d = nI (fb_ix (EB f)) - nI (fb_ix (EA f)))
theorem gd_ixMono {C S S' : ga_T} {g q : Nat → Int32} (H : ga_IX C S g q) (h : ∀ x y d, S' x y d → S x y d) : ga_IX C S' g q :=
  ⟨fun x y d z => H.1 x y d (h x y d z), H.2⟩
theorem gd_sx0 {x y : Nat} {d : Int32} : ¬ gd_SX L CC CB CN 0 0 0 x y d := by
  rintro ⟨u', i', h1, h2, h3, _⟩
  omega
theorem gd_sxi {u b i : Nat} (hb : CB (u * 8 + i) = b) {x y : Nat} {d : Int32} (h : gd_SX L CC CB CN u b (i + 1) x y d) :
    gd_SX L CC CB CN u b i x y d ∨ (x = u * 8 + CN (u * 8 + i) ∧ y = 32 + b ∧ d = nI (gd_off L CB CN u b i)) := by
  obtain ⟨u', i', h1, h2, h3, h4, h5, h6⟩ := h
  by_cases e : u' = u ∧ i' = i
  · obtain ⟨rfl, rfl⟩ := e
    right
    exact ⟨h4, by rw [h5, hb], by rw [h6, hb]⟩
  · left
    refine ⟨u', i', h1, h2, ?_, h4, h5, h6⟩
    omega
theorem gd_sxk {u b i : Nat} (hb : CB (u * 8 + i) ≠ b) {x y : Nat} {d : Int32} (h : gd_SX L CC CB CN u b (i + 1) x y d) : gd_SX L CC CB CN u b i x y d := by
  obtain ⟨u', i', h1, h2, h3, h4, h5, h6⟩ := h
  refine ⟨u', i', h1, h2, ?_, h4, h5, h6⟩
  by_cases e : u' = u ∧ i' = i
  · obtain ⟨rfl, rfl⟩ := e
    omega
  · omega
theorem gd_sxb {u b : Nat} {x y : Nat} {d : Int32} (h : gd_SX L CC CB CN u (b + 1) 0 x y d) : gd_SX L CC CB CN u b (CC u) x y d := by
  obtain ⟨u', i', h1, h2, h3, h4, h5, h6⟩ := h
  refine ⟨u', i', h1, h2, ?_, h4, h5, h6⟩
  by_cases e : u' = u
  · subst e; omega
  · omega
theorem gd_sxu {u : Nat} (hc : ∀ i, i < 32 → CB i < 4) (hu : u < 4) (hcc : CC u ≤ 8) {x y : Nat} {d : Int32} (h : gd_SX L CC CB CN (u + 1) 0 0 x y d) : gd_SX L CC CB CN u 4 0 x y d := by
  obtain ⟨u', i', h1, h2, h3, h4, h5, h6⟩ := h
  refine ⟨u', i', h1, h2, ?_, h4, h5, h6⟩
  by_cases e : u' = u
  · subst e
    have := hc (u' * 8 + i') (by omega)
    omega
  · omega
theorem gd_see {e : Nat} {x y : Nat} {d : Int32} (h : gd_SE L CC CB CN EU EA EB (e + 1) x y d) :
    gd_SE L CC CB CN EU EA EB e x y d ∨ (x = EU e * 8 + fb_nm (EA e) ∧ y = EU e * 8 + fb_nm (EB e) ∧ d = nI (fb_ix (EB e)) - nI (fb_ix (EA e))) := by
  rcases h with h | ⟨f, hf, h1, h2, h3⟩
  · exact Or.inl (Or.inl h)
  · by_cases z : f = e
    · subst z
      exact Or.inr ⟨h1, h2, h3⟩
    · exact Or.inl (Or.inr ⟨f, by omega, h1, h2, h3⟩)
theorem gd_se0 {x y : Nat} {d : Int32} (h : gd_SE L CC CB CN EU EA EB 0 x y d) : gd_SX L CC CB CN 4 0 0 x y d := by
  rcases h with h | ⟨f, hf, _⟩
  · exact h
  · omega
theorem gd_cse {x y : Nat} {d : Int32} (h : gd_CS L CC CB CN ne EU EA EB x y d) : gd_SE L CC CB CN EU EA EB ne x y d := by
  rcases h with ⟨u, i, hu, hi, h1, h2, h3⟩ | h
  · exact Or.inl ⟨u, i, hu, hi, Or.inl hu, h1, h2, h3⟩
  · exact Or.inr h
/-! searches over the statements -/
def fb_nx (U : Nat → Int32) (u : Int32) : Nat → Nat → Nat
  | 0, j => j
  | d + 1, j => if U j = u then j else fb_nx U u d (j + 1)
def fb_fl (U B : Nat → Int32) (u l : Int32) : Nat → Nat → Nat
  | 0, j => j
  | d + 1, j => if U j = u ∧ B j = l then j else fb_fl U B u l d (j + 1)
theorem fb_nx_in (U : Nat → Int32) (u : Int32) : ∀ d j, j ≤ fb_nx U u d j ∧ fb_nx U u d j ≤ j + d ∧ (fb_nx U u d j < j + d → U (fb_nx U u d j) = u) := by
  intro d
  induction d with
  | zero => intro j; exact ⟨Nat.le_refl j, Nat.le_refl j, fun h => absurd h (Nat.lt_irrefl j)⟩
  | succ d ih =>
    intro j
    show j ≤ (if U j = u then j else fb_nx U u d (j + 1)) ∧ (if U j = u then j else fb_nx U u d (j + 1)) ≤ j + (d + 1) ∧ ((if U j = u then j else fb_nx U u d (j + 1)) < j + (d + 1) → U (if U j = u then j else fb_nx U u d (j + 1)) = u)
    by_cases e : U j = u
    · rw [if_pos e]
      exact ⟨Nat.le_refl j, by omega, fun _ => e⟩
    · rw [if_neg e]
      obtain ⟨a, b, c⟩ := ih (j + 1)
      exact ⟨by omega, by omega, fun h => c (by omega)⟩
theorem fb_fl_in (U B : Nat → Int32) (u l : Int32) : ∀ d j, j ≤ fb_fl U B u l d j ∧ fb_fl U B u l d j ≤ j + d ∧ (fb_fl U B u l d j < j + d → U (fb_fl U B u l d j) = u ∧ B (fb_fl U B u l d j) = l) := by
  intro d
  induction d with
  | zero => intro j; exact ⟨Nat.le_refl j, Nat.le_refl j, fun h => absurd h (Nat.lt_irrefl j)⟩
  | succ d ih =>
    intro j
    show j ≤ (if U j = u ∧ B j = l then j else fb_fl U B u l d (j + 1)) ∧ (if U j = u ∧ B j = l then j else fb_fl U B u l d (j + 1)) ≤ j + (d + 1) ∧ ((if U j = u ∧ B j = l then j else fb_fl U B u l d (j + 1)) < j + (d + 1) → U (if U j = u ∧ B j = l then j else fb_fl U B u l d (j + 1)) = u ∧ B (if U j = u ∧ B j = l then j else fb_fl U B u l d (j + 1)) = l)
    by_cases e : U j = u ∧ B j = l
    · rw [if_pos e]
      exact ⟨Nat.le_refl j, by omega, fun _ => e⟩
    · rw [if_neg e]
      obtain ⟨a, b, c⟩ := ih (j + 1)
      exact ⟨by omega, by omega, fun h => c (by omega)⟩
/-- findLabel's answer -/
def fb_FL (U B : Nat → Int32) (n : Nat) (u l : Int32) : Int32 := if l = 0 then -1 else if fb_fl U B u l n 0 < n then nI (fb_fl U B u l n 0) else -1
end GDEC
end
section
section GMEM
/-! the two stores: RC a b says that the class's cell a and the reference's address b are one cell -/
def fm_Bi (RC : Nat → Nat → Prop) : Prop := (∀ a b, RC a b → a < 512 ∧ b < 512) ∧ (∀ a b a' b', RC a b → RC a' b' → (a = a' ↔ b = b'))
def fm_Mem (RC : Nat → Nat → Prop) (cx cy : Nat → Int32) : Prop := ∀ a b, RC a b → cx a = cy b
theorem fm_put {RC : Nat → Nat → Prop} {cx cy : Nat → Int32} {a b : Nat} {v : Int32} (B : fm_Bi RC) (M : fm_Mem RC cx cy) (h : RC a b) : fm_Mem RC (upd cx a v) (upd cy b v) := by
  intro a' b' h'
  by_cases e : a' = a
  · have e' : b' = b := (B.2 a' b' a b h' h).mp e
    rw [e, e', pk_us, pk_us]
  · have e' : b' ≠ b := fun z => e ((B.2 a' b' a b h' h).mpr z)
    rw [pk_un e, pk_un e']
    exact M a' b' h'
/-- every element of a stored name: its cell and its address -/
def fm_Sto (RC : Nat → Nat → Prop) (L P : Nat → Nat) (ec ad : Nat → Int32) : Prop :=
  ∀ k i, k < 32 → gd_St P k → 1 ≤ i → i ≤ L k → ∃ a b, RC a b ∧ ec (k * 16 + i - 1) = nI a ∧ ∃ d, ad k = nI d ∧ b = d + i - 1 ∧ d < 512
/-- .. and of the dummies of unit u, once it is called -/
def fm_Bnd (RC : Nat → Nat → Prop) (P : Nat → Nat) (ec bi : Nat → Int32) (u : Nat) : Prop :=
  ∀ n, n < P u → ∃ a b, RC a b ∧ ec ((u * 8 + n) * 16) = nI a ∧ bi (u * 4 + n) = nI b
/-- the relation that the two layouts give -/
def fm_RC (L P : Nat → Nat) (ec ad : Nat → Int32) (a b : Nat) : Prop := ∃ k i, k < 32 ∧ gd_St P k ∧ 1 ≤ i ∧ i ≤ L k ∧ ec (k * 16 + i - 1) = nI a ∧ a < 512 ∧ ∃ d, ad k = nI d ∧ d < 512 ∧ b = d + i - 1
theorem fm_make {L P : Nat → Nat} {C : ga_T} {g q cm rl ec ad : Nat → Int32} (HL : gb_Lay C g q cm rl) (hL : ∀ k, k < 32 → 1 ≤ L k ∧ L k ≤ 16)
    (hx : ∀ k i, k < 32 → 1 ≤ i → i ≤ L k → ∃ e, gb_Fst g q L k i e ∧ ec (k * 16 + i - 1) = nI e)
    (h1 : ∀ k, k < 32 → gd_St P k → ∃ A, ad k = nI A ∧ A + L k ≤ 512)
    (h2 : ∀ k k' i i' A A', k < 32 → k' < 32 → gd_St P k → gd_St P k' → 1 ≤ i → i ≤ L k → 1 ≤ i' → i' ≤ L k' → A < 512 → A' < 512 → ad k = nI A → ad k' = nI A' → (A + i = A' + i' ↔ (cm k = cm k' ∧ rl k + nI i = rl k' + nI i'))) :
    fm_Bi (fm_RC L P ec ad) ∧ fm_Sto (fm_RC L P ec ad) L P ec ad := by
  have q2 : ∀ k k' i i', k < 32 → k' < 32 → ((g k = g k' ∧ q k + nI i = q k' + nI i') ↔ (cm k = cm k' ∧ rl k + nI i = rl k' + nI i')) := by
    intro k k' i i' hk hk'
    have a := HL.1 k k' (by omega) (by omega)
    constructor
    · rintro ⟨e1, e2⟩
      have b := HL.2.1 k k' (by omega) (by omega) e1
      exact ⟨a.mp e1, by grind⟩
    · rintro ⟨e1, e2⟩
      have b := HL.2.1 k k' (by omega) (by omega) (a.mpr e1)
      exact ⟨a.mpr e1, by grind⟩
  refine ⟨⟨?_, ?_⟩, ?_⟩
  · rintro a b ⟨k, i, hk, sk, i1, i2, e1, la, d, e2, ld, rfl⟩
    obtain ⟨A, eA, lA⟩ := h1 k hk sk
    have : d = A := fa_inj (by omega) (by omega) (e2.symm.trans eA)
    exact ⟨la, by omega⟩
  · rintro a b a' b' ⟨k, i, hk, sk, i1, i2, e1, la, d, e2, ld, rfl⟩ ⟨k', i', hk', sk', i1', i2', e1', la', d', e2', ld', rfl⟩
    obtain ⟨e, fe, ee⟩ := hx k i hk i1 i2
    obtain ⟨e', fe', ee'⟩ := hx k' i' hk' i1' i2'
    have l1 := gb_fst_lt fe
    have l2 := gb_fst_lt fe'
    have ea : a = e := fa_inj (by omega) (by omega) (e1.symm.trans ee)
    have ea' : a' = e' := fa_inj (by omega) (by omega) (e1'.symm.trans ee')
    have t1 := gb_fst_iff fe fe'
    have t2 := h2 k k' i i' d d' hk hk' sk sk' i1 i2 i1' i2' ld ld' e2 e2'
    rw [ea, ea', t1, q2 k k' i i' hk hk', ← t2]
    omega
  · intro k i hk sk i1 i2
    obtain ⟨e, fe, ee⟩ := hx k i hk i1 i2
    obtain ⟨A, eA, lA⟩ := h1 k hk sk
    have l1 := gb_fst_lt fe
    exact ⟨e, A + i - 1, ⟨k, i, hk, sk, i1, i2, ee, l1, A, eA, by omega, rfl⟩, ee, A, eA, rfl, by omega⟩
/-- the cell of element i of name n in unit u, on both sides -/
theorem fm_loc {RC : Nat → Nat → Prop} {L P : Nat → Nat} {ec ad bi : Nat → Int32} {u n i : Nat} (S : fm_Sto RC L P ec ad) (B : fm_Bnd RC P ec bi u) (hu : u < 4) (hn : n < 8) (h1 : 1 ≤ i) (hi : i ≤ L (u * 8 + n)) (hd : n < P u → L (u * 8 + n) = 1) :
    ∃ a b, RC a b ∧ ec ((u * 8 + n) * 16 + i - 1) = nI a ∧ ((n < P u ∧ bi (u * 4 + n) = nI b) ∨ (¬ n < P u ∧ ∃ d, ad (u * 8 + n) = nI d ∧ b = d + i - 1 ∧ d < 512)) := by
  by_cases c : n < P u
  · obtain ⟨a, b, r, e1, e2⟩ := B n c
    have e : i = 1 := by have := hd c; omega
    subst e
    exact ⟨a, b, r, e1, Or.inl ⟨c, e2⟩⟩
  · obtain ⟨a, b, r, e1, d, e2, e3, e4⟩ := S (u * 8 + n) i (by omega) (by unfold gd_St; rw [show (u * 8 + n) % 8 = n by omega, show (u * 8 + n) / 8 = u by omega]; exact c) h1 hi
    exact ⟨a, b, r, e1, Or.inr ⟨c, d, e2, e3, e4⟩⟩
/-- a dummy's entry rewritten: stored names keep theirs -/
theorem fm_stoU {RC : Nat → Nat → Prop} {L P : Nat → Nat} {ec ad : Nat → Int32} {u n : Nat} {v : Int32} (S : fm_Sto RC L P ec ad) (hL : ∀ k, k < 32 → 1 ≤ L k ∧ L k ≤ 16) (hu : u < 4) (hn : n < 8) (hd : n < P u) : fm_Sto RC L P (upd ec ((u * 8 + n) * 16) v) ad := by
  intro k i hk sk i1 i2
  have l := hL k hk
  have ne : k * 16 + i - 1 ≠ (u * 8 + n) * 16 := by
    intro z
    have : k = u * 8 + n := by omega
    subst this
    unfold gd_St at sk
    rw [show (u * 8 + n) % 8 = n by omega, show (u * 8 + n) / 8 = u by omega] at sk
    exact sk hd
  rw [pk_un ne]
  exact S k i hk sk i1 i2
/-- the chain of active units, the current one first -/
def fm_Ch (par : Nat → Nat) : List Nat → Prop
  | [] => False
  | [u] => u = 0
  | u :: w :: l => u ≠ 0 ∧ u < 4 ∧ par u = w ∧ fm_Ch par (w :: l)
theorem fm_chNe {par : Nat → Nat} {u : Nat} {l : List Nat} (h : fm_Ch par (u :: l)) (n : u ≠ 0) : ∃ w l', l = w :: l' ∧ u < 4 ∧ par u = w ∧ fm_Ch par (w :: l') := by
  cases l with
  | nil => exact absurd h n
  | cons w l' => exact ⟨w, l', rfl, h.2.1, h.2.2.1, h.2.2.2⟩
theorem fm_ch4 {par : Nat → Nat} : ∀ {l : List Nat} {u : Nat}, fm_Ch par (u :: l) → u < 4 := by
  intro l u h
  cases l with
  | nil => have : u = 0 := h; omega
  | cons w l' => exact h.2.1
theorem fm_chUp {par : Nat → Nat} {c w : Nat} : ∀ {l : List Nat}, c ∉ l → fm_Ch par l → fm_Ch (fun x => if x = c then w else par x) l := by
  intro l
  induction l with
  | nil => intro _ h; exact h
  | cons u l ih =>
    intro nc h
    cases l with
    | nil => exact h
    | cons v l' =>
      have ne : u ≠ c := fun z => nc (z ▸ List.mem_cons_self)
      refine ⟨h.1, h.2.1, ?_, ih (fun z => nc (List.mem_cons_of_mem _ z)) h.2.2.2⟩
      show (if u = c then w else par u) = v
      rw [if_neg ne]
      exact h.2.2.1
end GMEM
end
section
section GFAC
/-! statements -/
def fb_need (k e : Nat) : Nat := if k = 1 then 3 else if k = 2 then 5 else if k = 4 then 5 else if k = 3 then 1 + e else if k = 5 then e / 4 else if k = 6 then 1 else 0
def fb_pl (k p : Nat) : Nat := if k = 1 then (if p = 0 then 1 else 0) else if k = 2 then (if p < 2 then 0 else 2) else if k = 3 then (if p = 0 then 0 else 2) else if k = 4 then (if p = 0 then 2 else if p = 1 then 1 else 0) else if k = 5 then 1 else 0
def fb_xok (k e : Nat) : Prop := (k = 1 ∧ e ≤ 3) ∨ (k = 3 ∧ 1 ≤ e ∧ e ≤ 4) ∨ (k = 5 ∧ e < 16 ∧ e % 4 ≠ 0) ∨ (k ≠ 1 ∧ k ≠ 3 ∧ k ≠ 5 ∧ e = 0)
def fb_al (w c : Nat) : Prop := (w = 2 ∧ c < 10000) ∨ (w = 1 ∧ (fb_FX c ∨ fb_IX c)) ∨ (w = 0 ∧ (c < 10000 ∨ fb_FX c ∨ fb_IX c))
theorem fb_need5 {k e : Nat} (h : fb_xok k e) : fb_need k e ≤ 5 := by
  unfold fb_xok at h
  unfold fb_need
  repeat' split
  all_goals omega
/-- a recorded statement: unit, label, kind, extra, the operands given so far -/
def fs_V (sU sL sK sE sG sO : Nat → Int32) (s : Nat) (full : Prop) : Prop := ∃ u l k e g : Nat, sU s = nI u ∧ u < 4 ∧ sL s = nI l ∧ l < 100 ∧ sK s = nI k ∧ 1 ≤ k ∧ k ≤ 9 ∧ sE s = nI e ∧ fb_xok k e ∧ sG s = nI g ∧
  g ≤ fb_need k e ∧ (full → g = fb_need k e) ∧ ∀ p, p < g → ∃ c, sO (s * 5 + p) = nI c ∧ fb_al (fb_pl k p) c
def fs_S (n : Nat) (sU sL sK sE sG sO : Nat → Int32) (all : Prop) : Prop := ∀ s, s < n → fs_V sU sL sK sE sG sO s (s + 1 < n ∨ all)
/-- the declarations -/
def fs_D (al ap ac en cb cn eu ea eb : Nat → Int32) (n : Nat) : Prop :=
  (∀ k, k < 32 → ∃ l, 1 ≤ l ∧ l ≤ 16 ∧ al k = nI l) ∧ ap 0 = 0 ∧ (∀ u, u < 4 → fa_R 4 (ap u)) ∧ (∀ u, u < 4 → fa_R 9 (ac u)) ∧
  (∀ i, i < 32 → fa_R 4 (cb i) ∧ fa_R 8 (cn i) ∧ en i = cb i * 8 + cn i) ∧ n ≤ 16 ∧
  (∀ e, e < n → fa_R 4 (eu e) ∧ (∃ c, fb_FX c ∧ ea e = nI c) ∧ ∃ c, fb_FX c ∧ eb e = nI c)
theorem fb_FXlt {c : Nat} (h : fb_FX c) : c < 20000 := by unfold fb_FX at h; omega
theorem fs_wd {al ap ac en cb cn eu ea eb : Nat → Int32} {n : Nat} (h : fs_D al ap ac en cb cn eu ea eb n) : gd_WD (fa_N al) (fa_N ap) (fa_N ac) (fa_N cb) (fa_N cn) n (fa_N eu) (fa_N ea) (fa_N eb) := by
  obtain ⟨h1, h2, h3, h4, h5, h6, h7⟩ := h
  refine ⟨?_, ?_, ?_, ?_, h6, ?_⟩
  · intro k hk
    obtain ⟨l, a, b, e⟩ := h1 k hk
    rw [fa_Re e (by omega)]
    exact ⟨a, b⟩
  · intro u hu
    have := (fa_Rn (h3 u hu) (by omega)).2
    omega
  · intro u hu
    have := (fa_Rn (h4 u hu) (by omega)).2
    omega
  · intro i hi
    obtain ⟨a, b, _⟩ := h5 i hi
    exact ⟨(fa_Rn a (by omega)).2, (fa_Rn b (by omega)).2⟩
  · intro e he
    obtain ⟨a, ⟨c, c1, c2⟩, d, d1, d2⟩ := h7 e he
    have c3 := fb_FXlt c1
    have d3 := fb_FXlt d1
    rw [fa_Re c2 (by omega), fa_Re d2 (by omega)]
    exact ⟨(fa_Rn a (by omega)).2, c1, d1⟩
/-- an extent: over the slots below k -/
def fs_ext (g q al : Nat → Int32) (b : Nat) : Nat → Int32
  | 0 => 0
  | k + 1 => if g k = g (32 + b) ∧ fs_ext g q al b k < q k + al k - q (32 + b) then q k + al k - q (32 + b) else fs_ext g q al b k
/-- what compile's C_OK has found -/
def fs_C (n : Nat) (al ap sU sL sK sE sG sO : Nat → Int32) : Prop :=
  (∀ k, k < 32 → ¬ gd_St (fa_N ap) k → al k = 1) ∧
  (∀ s p c, s < n → p < fa_N sG s → sO (s * 5 + p) = nI c → fb_FX c → fb_ix c ≤ fa_N al (fa_N sU s * 8 + fb_nm c)) ∧
  (∀ s p, s < n → p < fa_N sG s → fb_pl (fa_N sK s) p = 2 → fb_FL sU sL n (sU s) (sO (s * 5 + p)) ≠ -1) ∧
  (∀ s, s < n → sK s = 5 → fa_N sE s / 4 = fa_N ap (fa_N sE s % 4))
end GFAC
end
section
section GLIS
/-! the reference's list of constraints, entry by entry -/
variable {L P CC CB CN EU EA EB : Nat → Nat} {ne : Nat}
theorem ge_snoc {kx ky kd : Nat → Int32} {m x0 y0 : Nat} {d0 : Int32} (hx0 : x0 < 36) (hy0 : y0 < 36) (x y : Nat) (d : Int32) :
    ga_C (fa_N (upd kx m (nI x0))) (fa_N (upd ky m (nI y0))) (upd kd m d0) (m + 1) x y d ↔ (ga_C (fa_N kx) (fa_N ky) kd m x y d ∨ (x = x0 ∧ y = y0 ∧ d = d0)) := by
  have nx : ∀ (a : Nat → Int32) (v c : Nat), v < 36 → fa_N (upd a m (nI v)) c = if c = m then v else fa_N a c := fun a v c hv => fa_Nu (by omega)
  constructor
  · rintro ⟨c, hc, e1, e2, e3⟩
    rw [nx _ _ _ hx0] at e1
    rw [nx _ _ _ hy0] at e2
    by_cases z : c = m
    · subst z
      rw [if_pos rfl] at e1 e2
      rw [pk_us] at e3
      exact Or.inr ⟨e1.symm, e2.symm, e3.symm⟩
    · rw [if_neg z] at e1 e2
      rw [pk_un z] at e3
      exact Or.inl ⟨c, by omega, e1, e2, e3⟩
  · rintro (⟨c, hc, e1, e2, e3⟩ | ⟨rfl, rfl, rfl⟩)
    · have z : c ≠ m := by omega
      refine ⟨c, by omega, ?_, ?_, ?_⟩
      · rw [nx _ _ _ hx0, if_neg z]; exact e1
      · rw [nx _ _ _ hy0, if_neg z]; exact e2
      · rw [pk_un z]; exact e3
    · refine ⟨m, by omega, ?_, ?_, pk_us⟩
      · rw [nx _ _ _ hx0, if_pos rfl]
      · rw [nx _ _ _ hy0, if_pos rfl]
def ge_SY (L CC CB CN : Nat → Nat) (k : Nat) : ga_T := fun x y d =>
  ∃ u i, u < 4 ∧ i < CC u ∧ u * 8 + i < k ∧ x = u * 8 + CN (u * 8 + i) ∧ y = 32 + CB (u * 8 + i) ∧ d = nI (gd_off L CB CN u (CB (u * 8 + i)) i)
def ge_SF (L CC CB CN : Nat → Nat) (EU EA EB : Nat → Nat) (e : Nat) : ga_T := fun x y d =>
  ge_SY L CC CB CN 32 x y d ∨ (∃ f, f < e ∧ x = EU f * 8 + fb_nm (EA f) ∧ y = EU f * 8 + fb_nm (EB f) ∧ d = nI (fb_ix (EB f)) - nI (fb_ix (EA f)))
theorem ge_sy0 {x y : Nat} {d : Int32} : ¬ ge_SY L CC CB CN 0 x y d := by
  rintro ⟨u, i, _, _, h, _⟩
  omega
theorem ge_syNo {k : Nat} (hc : ∀ u, u < 4 → CC u ≤ 8) (h : ¬ k % 8 < CC (k / 8)) {x y : Nat} {d : Int32} : ge_SY L CC CB CN (k + 1) x y d ↔ ge_SY L CC CB CN k x y d := by
  constructor
  · rintro ⟨u, i, h1, h2, h3, h4⟩
    refine ⟨u, i, h1, h2, ?_, h4⟩
    have := hc u h1
    by_cases z : u * 8 + i = k
    · exfalso
      have e1 : k % 8 = i := by omega
      have e2 : k / 8 = u := by omega
      rw [e1, e2] at h
      exact h h2
    · omega
  · rintro ⟨u, i, h1, h2, h3, h4⟩
    exact ⟨u, i, h1, h2, by omega, h4⟩
theorem ge_syYes {k : Nat} (hc : ∀ u, u < 4 → CC u ≤ 8) (hk : k < 32) (h : k % 8 < CC (k / 8)) {x y : Nat} {d : Int32} : ge_SY L CC CB CN (k + 1) x y d ↔
    (ge_SY L CC CB CN k x y d ∨ (x = k / 8 * 8 + CN k ∧ y = 32 + CB k ∧ d = nI (gd_off L CB CN (k / 8) (CB k) (k % 8)))) := by
  have ek : k / 8 * 8 + k % 8 = k := by omega
  constructor
  · rintro ⟨u, i, h1, h2, h3, h4, h5, h6⟩
    by_cases z : u * 8 + i = k ∧ u = k / 8
    · obtain ⟨z1, z2⟩ := z
      have z3 : i = k % 8 := by omega
      right
      rw [z1] at h4 h5 h6
      rw [z2] at h4 h6
      rw [z3] at h6
      exact ⟨h4, h5, h6⟩
    · left
      by_cases z1 : u * 8 + i = k
      · exfalso
        have := hc u h1
        exact z ⟨z1, by omega⟩
      · exact ⟨u, i, h1, h2, by omega, h4, h5, h6⟩
  · rintro (⟨u, i, h1, h2, h3, h4⟩ | ⟨h4, h5, h6⟩)
    · exact ⟨u, i, h1, h2, by omega, h4⟩
    · refine ⟨k / 8, k % 8, by omega, h, by omega, ?_, ?_, ?_⟩
      · rw [ek]; exact h4
      · rw [ek]; exact h5
      · rw [ek]; exact h6
theorem ge_sfe {e : Nat} {x y : Nat} {d : Int32} : ge_SF L CC CB CN EU EA EB (e + 1) x y d ↔
    (ge_SF L CC CB CN EU EA EB e x y d ∨ (x = EU e * 8 + fb_nm (EA e) ∧ y = EU e * 8 + fb_nm (EB e) ∧ d = nI (fb_ix (EB e)) - nI (fb_ix (EA e)))) := by
  constructor
  · rintro (h | ⟨f, hf, h⟩)
    · exact Or.inl (Or.inl h)
    · by_cases z : f = e
      · subst z
        exact Or.inr h
      · exact Or.inl (Or.inr ⟨f, by omega, h⟩)
  · rintro ((h | ⟨f, hf, h⟩) | h)
    · exact Or.inl h
    · exact Or.inr ⟨f, by omega, h⟩
    · exact Or.inr ⟨e, by omega, h⟩
theorem ge_sf0 {x y : Nat} {d : Int32} : ge_SF L CC CB CN EU EA EB 0 x y d ↔ ge_SY L CC CB CN 32 x y d := by
  constructor
  · rintro (h | ⟨f, hf, _⟩)
    · exact h
    · omega
  · exact Or.inl
theorem ge_cs (hc : ∀ u, u < 4 → CC u ≤ 8) {x y : Nat} {d : Int32} : ge_SF L CC CB CN EU EA EB ne x y d ↔ gd_CS L CC CB CN ne EU EA EB x y d := by
  constructor
  · rintro (⟨u, i, h1, h2, h3, h4⟩ | h)
    · exact Or.inl ⟨u, i, h1, h2, h4⟩
    · exact Or.inr h
  · rintro (⟨u, i, h1, h2, h4⟩ | h)
    · have := hc u h1
      exact Or.inl ⟨u, i, h1, h2, by omega, h4⟩
    · exact Or.inr h
end GLIS
end
section
section GPAS
/-! the reference's passes: one spread from a root -/
variable {fx fy : Nat → Nat} {D : Nat → Int32} {m r j c : Nat} {E : Nat → Prop} {p0 c0 r0 pl cm rl : Nat → Int32}
/-- within a pass that began at (p0, c0, r0), before constraint c -/
def gf_In (fx fy : Nat → Nat) (D : Nat → Int32) (m r : Nat) (E : Nat → Prop) (c : Nat) (p0 c0 r0 pl cm rl : Nat → Int32) : Prop :=
  ga_IY fx fy D m r E pl cm rl ∧ (∀ z, p0 z ≠ 0 → pl z ≠ 0) ∧
  ((p0 = pl ∧ c0 = cm ∧ r0 = rl ∧ ∀ c', c' < c → ga_Ok fx fy D pl cm rl c') ∨ (ga_cnt p0 36 < ga_cnt pl 36 ∧ ¬ ∀ c', c' < m → ga_Ok fx fy D p0 c0 r0 c'))
theorem gf_in0 (H : ga_IY fx fy D m r E pl cm rl) : gf_In fx fy D m r E 0 pl cm rl pl cm rl :=
  ⟨H, fun _ h => h, Or.inl ⟨rfl, rfl, rfl, fun c' h => absurd h (Nat.not_lt_zero c')⟩⟩
theorem gf_stay (H : gf_In fx fy D m r E c p0 c0 r0 pl cm rl) (ok : ga_Ok fx fy D pl cm rl c) : gf_In fx fy D m r E (c + 1) p0 c0 r0 pl cm rl := by
  obtain ⟨h1, h2, h3⟩ := H
  refine ⟨h1, h2, ?_⟩
  rcases h3 with ⟨e1, e2, e3, h⟩ | h
  · refine Or.inl ⟨e1, e2, e3, ?_⟩
    intro c' hc'
    by_cases z : c' = c
    · subst z; exact ok
    · exact h c' (by omega)
  · exact Or.inr h
theorem gf_both (H : gf_In fx fy D m r E c p0 c0 r0 pl cm rl) (hm : ∀ c, c < m → fx c < 36 ∧ fy c < 36) (hc : c < m) (px : pl (fx c) ≠ 0) (py : pl (fy c) ≠ 0) (e : rl (fx c) = rl (fy c) + D c) :
    gf_In fx fy D m r E (c + 1) p0 c0 r0 pl cm rl := gf_stay H (Or.inl ⟨px, py, ga_iyOne H.1 hm hc px py, e⟩)
theorem gf_none (H : gf_In fx fy D m r E c p0 c0 r0 pl cm rl) (px : pl (fx c) = 0) (py : pl (fy c) = 0) :
    gf_In fx fy D m r E (c + 1) p0 c0 r0 pl cm rl := gf_stay H (Or.inr ⟨px, py⟩)
theorem gf_grow {w : Nat} {a b : Int32} (H : gf_In fx fy D m r E c p0 c0 r0 pl cm rl) (hc : c < m) (hw : w < 36) (pw : pl w = 0) (no : ¬ ga_Ok fx fy D pl cm rl c)
    (H' : ga_IY fx fy D m r E (upd pl w 1) (upd cm w a) (upd rl w b)) : gf_In fx fy D m r E (c + 1) p0 c0 r0 (upd pl w 1) (upd cm w a) (upd rl w b) := by
  obtain ⟨h1, h2, h3⟩ := H
  have hcn := ga_cnt_up pw 36
  rw [if_pos hw] at hcn
  refine ⟨H', ?_, Or.inr ?_⟩
  · intro z hz
    by_cases e : z = w
    · rw [e, pk_us]; decide
    · rw [pk_un e]; exact h2 z hz
  · rcases h3 with ⟨e1, e2, e3, h⟩ | ⟨h, h'⟩
    · subst e1 e2 e3
      exact ⟨by omega, fun z => no (z c hc)⟩
    · exact ⟨by omega, h'⟩
theorem gf_xy (H : gf_In fx fy D m r E c p0 c0 r0 pl cm rl) (hm : ∀ c, c < m → fx c < 36 ∧ fy c < 36) (hc : c < m) (hd : -128 ≤ (D c).toInt ∧ (D c).toInt ≤ 128) (px : pl (fx c) ≠ 0) (py : pl (fy c) = 0) :
    gf_In fx fy D m r E (c + 1) p0 c0 r0 (upd pl (fy c) 1) (upd cm (fy c) (cm (fx c))) (upd rl (fy c) (rl (fx c) - D c)) :=
  gf_grow H hc (hm c hc).2 py (fun z => z.elim (fun z => z.2.1 py) (fun z => px z.1)) (ga_iyXY H.1 hm hc hd px py)
theorem gf_yx (H : gf_In fx fy D m r E c p0 c0 r0 pl cm rl) (hm : ∀ c, c < m → fx c < 36 ∧ fy c < 36) (hc : c < m) (hd : -128 ≤ (D c).toInt ∧ (D c).toInt ≤ 128) (px : pl (fx c) = 0) (py : pl (fy c) ≠ 0) :
    gf_In fx fy D m r E (c + 1) p0 c0 r0 (upd pl (fx c) 1) (upd cm (fx c) (cm (fy c))) (upd rl (fx c) (rl (fy c) + D c)) :=
  gf_grow H hc (hm c hc).1 px (fun z => z.elim (fun z => z.1 px) (fun z => py z.2)) (ga_iyYX H.1 hm hc hd px py)
/-- before pass j -/
def gf_Ps (fx fy : Nat → Nat) (D : Nat → Int32) (m r : Nat) (E : Nat → Prop) (j : Nat) (q0 pl cm rl : Nat → Int32) : Prop :=
  ga_IY fx fy D m r E pl cm rl ∧ (∀ z, q0 z ≠ 0 → pl z ≠ 0) ∧ ((∀ c, c < m → ga_Ok fx fy D pl cm rl c) ∨ j ≤ ga_cnt pl 36)
theorem gf_pass {q0 : Nat → Int32} (H : gf_Ps fx fy D m r E j q0 p0 c0 r0) (H' : gf_In fx fy D m r E m p0 c0 r0 pl cm rl) : gf_Ps fx fy D m r E (j + 1) q0 pl cm rl := by
  obtain ⟨_, k2, h⟩ := H
  obtain ⟨h1, h2, h3⟩ := H'
  refine ⟨h1, fun z hz => h2 z (k2 z hz), ?_⟩
  rcases h3 with ⟨e1, e2, e3, h3⟩ | ⟨h3, h4⟩
  · exact Or.inl h3
  · rcases h with h | h
    · exact absurd h h4
    · exact Or.inr (by omega)
theorem gf_end {q0 : Nat → Int32} (H : gf_Ps fx fy D m r E 40 q0 pl cm rl) : ∀ c, c < m → ga_Ok fx fy D pl cm rl c := by
  rcases H.2.2 with h | h
  · exact h
  · have := ga_cnt_le pl 36
    omega
end GPAS
end
section
/-! the relation -/
def i_Rel (_ : Nat) (u : SX) (v : SY) : Prop := ∃ (sc oc ne ns ca on st ra xu xn xe xd nc yp yu ye yl yr : Int32) (al ap ac en eu ea eb sU sL sK sE sG sO gr po ec cx ou tc ss av cs cb cn kx ky kd pl rl cm hv ba ad ex cy bi : Nat → Int32), u = (sc, oc, ne, ns, ca, on, st, ra, xu, xn, xe, xd, al, ap, ac, en, eu, ea, eb, sU, sL, sK, sE, sG, sO, gr, po, ec, cx, ou, tc, ss, av, cs) ∧ v = (sc, oc, ne, ns, ca, nc, on, yp, yu, ye, st, yl, yr, al, ap, cb, cn, ac, eu, ea, eb, sU, sL, sK, sE, sG, sO, kx, ky, kd, pl, rl, cm, hv, ba, ad, ex, cy, tc, ss, av, cs, bi, ou) ∧
  (∃ c, 8 ≤ c ∧ c ≤ 64 ∧ sc = nI c) ∧ (∃ c o, 4 ≤ c ∧ c ≤ 32 ∧ oc = nI c ∧ o ≤ c ∧ on = nI o) ∧
  (∃ n, ne = nI n ∧ fs_D al ap ac en cb cn eu ea eb n) ∧
  (∃ n, n ≤ 64 ∧ ns = nI n ∧ fs_S n sU sL sK sE sG sO (ca = 1) ∧ (ca = 1 → fs_C n al ap sU sL sK sE sG sO)) ∧
  fa_R 9 ca ∧ yl = ra ∧ ((ra = 0 ∧ yr = 0) ∨ (ra ≠ 0 ∧ yr = 1 ∧ ca = 1)) ∧
  (ca = 1 → (∀ b, b < 4 → ex b = fs_ext gr po al b 32) ∧ ∃ RC, fm_Bi RC ∧ fm_Sto RC (fa_N al) (fa_N ap) ec ad ∧ (ra ≠ 0 → fm_Mem RC cx cy))
theorem i_up {k : Nat} {u : SX} {v : SY} (h : i_Rel k u v) : i_Rel (k + 5) u v := h
theorem i_mk {k : Nat} {sc oc ne ns ca on st ra xu xn xe xd nc yp yu ye yl yr : Int32} {al ap ac en eu ea eb sU sL sK sE sG sO gr po ec cx ou tc ss av cs cb cn kx ky kd pl rl cm hv ba ad ex cy bi : Nat → Int32} (h1 : ∃ c, 8 ≤ c ∧ c ≤ 64 ∧ sc = nI c) (h2 : ∃ c o, 4 ≤ c ∧ c ≤ 32 ∧ oc = nI c ∧ o ≤ c ∧ on = nI o) (h3 : ∃ n, ne = nI n ∧ fs_D al ap ac en cb cn eu ea eb n)
    (h4 : ∃ n, n ≤ 64 ∧ ns = nI n ∧ fs_S n sU sL sK sE sG sO (ca = 1) ∧ (ca = 1 → fs_C n al ap sU sL sK sE sG sO)) (h5 : fa_R 9 ca) (h6 : yl = ra) (h7 : (ra = 0 ∧ yr = 0) ∨ (ra ≠ 0 ∧ yr = 1 ∧ ca = 1))
    (h8 : ca = 1 → (∀ b, b < 4 → ex b = fs_ext gr po al b 32) ∧ ∃ RC, fm_Bi RC ∧ fm_Sto RC (fa_N al) (fa_N ap) ec ad ∧ (ra ≠ 0 → fm_Mem RC cx cy)) : i_Rel k (sc, oc, ne, ns, ca, on, st, ra, xu, xn, xe, xd, al, ap, ac, en, eu, ea, eb, sU, sL, sK, sE, sG, sO, gr, po, ec, cx, ou, tc, ss, av, cs) (sc, oc, ne, ns, ca, nc, on, yp, yu, ye, st, yl, yr, al, ap, cb, cn, ac, eu, ea, eb, sU, sL, sK, sE, sG, sO, kx, ky, kd, pl, rl, cm, hv, ba, ad, ex, cy, tc, ss, av, cs, bi, ou) :=
  ⟨sc, oc, ne, ns, ca, on, st, ra, xu, xn, xe, xd, nc, yp, yu, ye, yl, yr, al, ap, ac, en, eu, ea, eb, sU, sL, sK, sE, sG, sO, gr, po, ec, cx, ou, tc, ss, av, cs, cb, cn, kx, ky, kd, pl, rl, cm, hv, ba, ad, ex, cy, bi, rfl, rfl, h1, h2, h3, h4, h5, h6, h7, h8⟩
theorem i_el {k : Nat} {u : SX} {v : SY} {Q : SX → SY → Prop} (I : i_Rel k u v) (h : ∀ (sc oc ne ns ca on st ra xu xn xe xd nc yp yu ye yl yr : Int32) (al ap ac en eu ea eb sU sL sK sE sG sO gr po ec cx ou tc ss av cs cb cn kx ky kd pl rl cm hv ba ad ex cy bi : Nat → Int32), (∃ c, 8 ≤ c ∧ c ≤ 64 ∧ sc = nI c) → (∃ c o, 4 ≤ c ∧ c ≤ 32 ∧ oc = nI c ∧ o ≤ c ∧ on = nI o) → (∃ n, ne = nI n ∧ fs_D al ap ac en cb cn eu ea eb n) →
    (∃ n, n ≤ 64 ∧ ns = nI n ∧ fs_S n sU sL sK sE sG sO (ca = 1) ∧ (ca = 1 → fs_C n al ap sU sL sK sE sG sO)) → fa_R 9 ca → yl = ra → ((ra = 0 ∧ yr = 0) ∨ (ra ≠ 0 ∧ yr = 1 ∧ ca = 1)) →
    (ca = 1 → (∀ b, b < 4 → ex b = fs_ext gr po al b 32) ∧ ∃ RC, fm_Bi RC ∧ fm_Sto RC (fa_N al) (fa_N ap) ec ad ∧ (ra ≠ 0 → fm_Mem RC cx cy)) → Q (sc, oc, ne, ns, ca, on, st, ra, xu, xn, xe, xd, al, ap, ac, en, eu, ea, eb, sU, sL, sK, sE, sG, sO, gr, po, ec, cx, ou, tc, ss, av, cs) (sc, oc, ne, ns, ca, nc, on, yp, yu, ye, st, yl, yr, al, ap, cb, cn, ac, eu, ea, eb, sU, sL, sK, sE, sG, sO, kx, ky, kd, pl, rl, cm, hv, ba, ad, ex, cy, tc, ss, av, cs, bi, ou)) : Q u v := by
  obtain ⟨sc, oc, ne, ns, ca, on, st, ra, xu, xn, xe, xd, nc, yp, yu, ye, yl, yr, al, ap, ac, en, eu, ea, eb, sU, sL, sK, sE, sG, sO, gr, po, ec, cx, ou, tc, ss, av, cs, cb, cn, kx, ky, kd, pl, rl, cm, hv, ba, ad, ex, cy, bi, e1, e2, h1, h2, h3, h4, h5, h6, h7, h8⟩ := I
  rw [e1, e2]
  exact h sc oc ne ns ca on st ra xu xn xe xd nc yp yu ye yl yr al ap ac en eu ea eb sU sL sK sE sG sO gr po ec cx ou tc ss av cs cb cn kx ky kd pl rl cm hv ba ad ex cy bi h1 h2 h3 h4 h5 h6 h7 h8
end
section
section HLP
/-! the small methods, each against a plain fact -/
variable {sc oc ne ns ca on st ra xu xn xe xd nc yp yu ye yl yr : Int32} {al ap ac en eu ea eb sU sL sK sE sG sO gr po ec cx ou tc ss av cs cb cn kx ky kd pl rl cm hv ba ad ex cy bi : Nat → Int32}
variable {post : Int32 → Prop} {x : Int32}
theorem ha_lo {n : Nat} (hn : n < 2 ^ 31) (h : x < 0) : ¬ fa_R n x := by
  rintro ⟨j, hj, rfl⟩
  exact nI_pos (by omega) h
theorem ha_hi {n : Nat} (hn : n < 2 ^ 31) (h : nI n ≤ x) : ¬ fa_R n x := by
  rintro ⟨j, hj, rfl⟩
  exact nI_ge hj hn h
theorem ha_mid {n : Nat} (hn : n < 2 ^ 31) (h0 : ¬ x < 0) (h : ¬ nI n ≤ x) : fa_R n x := by
  rcases pk_ix x hn with a | a | a
  · exact absurd a h0
  · exact absurd a h
  · exact a
theorem ha_hi' {m : Nat} (hn : m < 2 ^ 30) (h : nI m < x) : ¬ fa_R (m + 1) x := by
  rintro ⟨j, hj, rfl⟩
  exact nI_nlt (by omega) (by omega) h
theorem ha_mid' {m : Nat} (hn : m < 2 ^ 30) (h0 : ¬ x < 0) (h : ¬ nI m < x) : fa_R (m + 1) x := by
  obtain ⟨j, hj, rfl⟩ := nI_of h0
  rw [nI_ltI (by omega) hj] at h
  exact ⟨j, by omega, rfl⟩
theorem ha_le {m : Nat} (hn : m < 2 ^ 30) (h0 : ¬ x < 0) (h : x ≤ nI m) : fa_R (m + 1) x := by
  obtain ⟨j, hj, rfl⟩ := nI_of h0
  rw [nI_leI hj (by omega)] at h
  exact ⟨j, by omega, rfl⟩
theorem ha_nle {m : Nat} (hn : m < 2 ^ 30) (h : ¬ x ≤ nI m) : ¬ fa_R (m + 1) x := by
  rintro ⟨j, hj, rfl⟩
  exact h (nI_le (by omega) (by omega))
theorem hx_isUnit (h1 : fa_R 4 x → post 1) (h0 : ¬ fa_R 4 x → post 0) : wpX_isUnit post x :=
  br_c (fun a => h0 (ha_lo (by decide) a)) (fun a => br_c (fun b => h0 (ha_hi (n := 4) (by decide) b)) (fun b => h1 (ha_mid (n := 4) (by decide) a b)))
theorem hx_isName (h1 : fa_R 8 x → post 1) (h0 : ¬ fa_R 8 x → post 0) : wpX_isName post x :=
  br_c (fun a => h0 (ha_lo (by decide) a)) (fun a => br_c (fun b => h0 (ha_hi (n := 8) (by decide) b)) (fun b => h1 (ha_mid (n := 8) (by decide) a b)))
theorem hx_isBlock (h1 : fa_R 4 x → post 1) (h0 : ¬ fa_R 4 x → post 0) : wpX_isBlock post x :=
  br_c (fun a => h0 (ha_lo (by decide) a)) (fun a => br_c (fun b => h0 (ha_hi (n := 4) (by decide) b)) (fun b => h1 (ha_mid (n := 4) (by decide) a b)))
theorem hx_isConstant (h1 : fa_R 10000 x → post 1) (h0 : ¬ fa_R 10000 x → post 0) : wpX_isConstant post x :=
  br_c (fun a => h0 (ha_lo (by decide) a)) (fun a => br_c (fun b => h0 (ha_hi (n := 10000) (by decide) b)) (fun b => h1 (ha_mid (n := 10000) (by decide) a b)))
theorem hx_isFrozen (h1 : ca ≠ 0 → post 1) (h0 : ca = 0 → post 0) : wpX_isFrozen post (sc, oc, ne, ns, ca, on, st, ra, xu, xn, xe, xd, al, ap, ac, en, eu, ea, eb, sU, sL, sK, sE, sG, sO, gr, po, ec, cx, ou, tc, ss, av, cs) := br_c h0 h1
def fa_F (x : Int32) : Prop := ∃ c, fb_FX c ∧ x = nI c
def fa_I (x : Int32) : Prop := ∃ c, fb_IX c ∧ x = nI c
theorem ha_r100 {c : Nat} (h : c < 2 ^ 31) : nI c - nI c / 100 * 100 = nI (c % 100) := pk_rem (d := 100) h (by decide) (by decide)
theorem ha_r10000 {c : Nat} (h : c < 2 ^ 31) : nI c - nI c / 10000 * 10000 = nI (c % 10000) := pk_rem (d := 10000) h (by decide) (by decide)
theorem ha_r8 {c : Nat} (h : c < 2 ^ 31) : nI c - nI c / 8 * 8 = nI (c % 8) := pk_rem (d := 8) h (by decide) (by decide)
theorem ha_r4 {c : Nat} (h : c < 2 ^ 31) : nI c - nI c / 4 * 4 = nI (c % 4) := pk_rem (d := 4) h (by decide) (by decide)
theorem ha_d8 {c : Nat} (h : c < 2 ^ 31) : nI c / 8 = nI (c / 8) := pk_div (d := 8) h (by decide) (by decide)
theorem ha_d4 {c : Nat} (h : c < 2 ^ 31) : nI c / 4 = nI (c / 4) := pk_div (d := 4) h (by decide) (by decide)
theorem ha_d100 {c : Nat} (h : c < 2 ^ 31) : nI c / 100 = nI (c / 100) := pk_div (d := 100) h (by decide) (by decide)
theorem ha_nF (h : ∀ c, fb_FX c → x ≠ nI c) : ¬ fa_F x := fun ⟨c, a, b⟩ => h c a b
theorem hx_isFixed (h1 : fa_F x → post 1) (h0 : ¬ fa_F x → post 0) : wpX_isFixed post x := by
  refine br_c (fun a => ?_) (fun a => br_c (fun b => ?_) (fun b => ?_))
  · refine br_t rfl (h0 ?_)
    rintro ⟨c, hc, rfl⟩
    unfold fb_FX at hc
    exact nI_nlt (b := 10000) hc.1 (by omega) a
  · refine br_t rfl (h0 ?_)
    rintro ⟨c, hc, rfl⟩
    unfold fb_FX at hc
    exact nI_ge (b := 10800) hc.2.1 (by decide) b
  · have h0' : ¬ x < 0 := fun z => a (Int32.lt_trans z (by decide))
    obtain ⟨c, hc, rfl⟩ := nI_of h0'
    have c1 : 10000 ≤ c := Nat.le_of_not_lt fun z => a (nI_lt (b := 10000) z (by decide))
    have c2 : c < 10800 := Nat.lt_of_not_le fun z => b (nI_le (a := 10800) z hc)
    refine br_f (by decide) ⟨by decide, ?_⟩
    rw [ha_r100 hc]
    refine pk_lt 16 (c % 100) (fun z => h0 ?_) (fun z => h1 ⟨c, ⟨c1, c2, z⟩, rfl⟩)
    rintro ⟨c', hc', e⟩
    have := fa_inj hc (by unfold fb_FX at hc'; omega) e
    subst this
    unfold fb_FX at hc'
    omega
theorem hx_isIndexed (h1 : fa_I x → post 1) (h0 : ¬ fa_I x → post 0) : wpX_isIndexed post x := by
  refine br_c (fun a => ?_) (fun a => br_c (fun b => ?_) (fun b => ?_))
  · refine br_t rfl (h0 ?_)
    rintro ⟨c, hc, rfl⟩
    unfold fb_IX at hc
    exact nI_nlt (b := 20000) hc.1 (by omega) a
  · refine br_t rfl (h0 ?_)
    rintro ⟨c, hc, rfl⟩
    unfold fb_IX at hc
    exact nI_ge (b := 20800) hc.2.1 (by decide) b
  · have h0' : ¬ x < 0 := fun z => a (Int32.lt_trans z (by decide))
    obtain ⟨c, hc, rfl⟩ := nI_of h0'
    have c1 : 20000 ≤ c := Nat.le_of_not_lt fun z => a (nI_lt (b := 20000) z (by decide))
    have c2 : c < 20800 := Nat.lt_of_not_le fun z => b (nI_le (a := 20800) z hc)
    refine br_f (by decide) ⟨by decide, ?_⟩
    rw [ha_r100 hc]
    refine pk_le 8 (c % 100) (fun z => h0 ?_) (fun z => h1 ⟨c, ⟨c1, c2, z⟩, rfl⟩)
    rintro ⟨c', hc', e⟩
    have := fa_inj hc (by unfold fb_IX at hc'; omega) e
    subst this
    unfold fb_IX at hc'
    omega
theorem hy_isFixed (h1 : fa_F x → post 1) (h0 : ¬ fa_F x → post 0) : wpY_isFixed post (sc, oc, ne, ns, ca, nc, on, yp, yu, ye, st, yl, yr, al, ap, cb, cn, ac, eu, ea, eb, sU, sL, sK, sE, sG, sO, kx, ky, kd, pl, rl, cm, hv, ba, ad, ex, cy, tc, ss, av, cs, bi, ou) x := by
  refine br_c (fun a => ?_) (fun a => br_c (fun b => ?_) (fun b => ?_))
  · refine h0 ?_
    rintro ⟨c, hc, rfl⟩
    unfold fb_FX at hc
    exact nI_nlt (b := 10000) hc.1 (by omega) a
  · refine h0 ?_
    rintro ⟨c, hc, rfl⟩
    unfold fb_FX at hc
    exact nI_nlt (a := 10716) (b := c) (by omega) (by decide) b
  · have h0' : ¬ x < 0 := fun z => a (Int32.lt_trans z (by decide))
    obtain ⟨c, hc, rfl⟩ := nI_of h0'
    have c1 : 10000 ≤ c := Nat.le_of_not_lt fun z => a (nI_lt (b := 10000) z (by decide))
    have c2 : c ≤ 10716 := Nat.le_of_not_lt fun z => b (nI_lt (a := 10716) z hc)
    refine ⟨by decide, ?_⟩
    have e1 : nI c - 10000 = nI (c - 10000) := pk_sub (b := 10000) c1
    rw [e1, ha_r100 (by omega)]
    refine pk_lt 16 ((c - 10000) % 100) (fun z => h0 ?_) (fun z => h1 ⟨c, ⟨c1, by omega, by omega⟩, rfl⟩)
    rintro ⟨c', hc', e⟩
    have := fa_inj hc (by unfold fb_FX at hc'; omega) e
    subst this
    unfold fb_FX at hc'
    omega
theorem hy_isIndexed (h1 : fa_I x → post 1) (h0 : ¬ fa_I x → post 0) : wpY_isIndexed post (sc, oc, ne, ns, ca, nc, on, yp, yu, ye, st, yl, yr, al, ap, cb, cn, ac, eu, ea, eb, sU, sL, sK, sE, sG, sO, kx, ky, kd, pl, rl, cm, hv, ba, ad, ex, cy, tc, ss, av, cs, bi, ou) x := by
  refine br_c (fun a => ?_) (fun a => br_c (fun b => ?_) (fun b => ?_))
  · refine h0 ?_
    rintro ⟨c, hc, rfl⟩
    unfold fb_IX at hc
    exact nI_nlt (b := 20000) hc.1 (by omega) a
  · refine h0 ?_
    rintro ⟨c, hc, rfl⟩
    unfold fb_IX at hc
    exact nI_nlt (a := 20707) (b := c) (by omega) (by decide) b
  · have h0' : ¬ x < 0 := fun z => a (Int32.lt_trans z (by decide))
    obtain ⟨c, hc, rfl⟩ := nI_of h0'
    have c1 : 20000 ≤ c := Nat.le_of_not_lt fun z => a (nI_lt (b := 20000) z (by decide))
    have c2 : c ≤ 20707 := Nat.le_of_not_lt fun z => b (nI_lt (a := 20707) z hc)
    refine ⟨by decide, ?_⟩
    have e1 : nI c - 20000 = nI (c - 20000) := pk_sub (b := 20000) c1
    rw [e1, ha_r100 (by omega)]
    refine pk_lt 7 ((c - 20000) % 100) (fun z => h0 ?_) (fun z => h1 ⟨c, ⟨c1, by omega, by omega⟩, rfl⟩)
    rintro ⟨c', hc', e⟩
    have := fa_inj hc (by unfold fb_IX at hc'; omega) e
    subst this
    unfold fb_IX at hc'
    omega
theorem ha_nm {c : Nat} (hc : c < 2 ^ 31) : (nI c - nI c / 10000 * 10000) / 100 = nI (fb_nm c) := by
  rw [ha_r10000 hc, ha_d100 (by omega)]; rfl
theorem hx_slotOf {u c : Nat} (hc : c < 2 ^ 31) (h : post (nI (u * 8 + fb_nm c))) : wpX_slotOf post (nI u) (nI c) := by
  refine ⟨by decide, by decide, ?_⟩
  rw [ha_nm hc, show nI u * 8 = nI (u * 8) from pk_mul u 8, nI_add]
  exact h
theorem hy_nameOf {c : Nat} (hc : c < 2 ^ 31) (h : post (nI (fb_nm c))) : wpY_nameOf post (sc, oc, ne, ns, ca, nc, on, yp, yu, ye, st, yl, yr, al, ap, cb, cn, ac, eu, ea, eb, sU, sL, sK, sE, sG, sO, kx, ky, kd, pl, rl, cm, hv, ba, ad, ex, cy, tc, ss, av, cs, bi, ou) (nI c) := by
  refine ⟨by decide, by decide, ?_⟩
  rw [ha_nm hc]
  exact h
theorem hx_elementOf {c : Nat} (hc : c < 2 ^ 31) (h : post (nI (fb_ix c))) : wpX_elementOf post (nI c) := by
  refine ⟨by decide, nm_r (ha_r100 hc) (pk_eq (c % 100) 0 (fun z => ?_) (fun z => ?_))⟩
  · unfold fb_ix at h
    rw [if_pos z] at h
    exact h
  · unfold fb_ix at h
    rw [if_neg z] at h
    exact h
theorem hy_idxOf {c : Nat} (hc : c < 2 ^ 31) (h : post (nI (fb_ix c))) : wpY_idxOf post (sc, oc, ne, ns, ca, nc, on, yp, yu, ye, st, yl, yr, al, ap, cb, cn, ac, eu, ea, eb, sU, sL, sK, sE, sG, sO, kx, ky, kd, pl, rl, cm, hv, ba, ad, ex, cy, tc, ss, av, cs, bi, ou) (nI c) := by
  refine ⟨by decide, nm_r (ha_r100 hc) (pk_eq (c % 100) 0 (fun z => ?_) (fun z => ?_))⟩
  · unfold fb_ix at h
    rw [if_pos z] at h
    exact h
  · unfold fb_ix at h
    rw [if_neg z] at h
    exact h
theorem hx_isDummy {k : Nat} (hk : k < 32) (hp : fa_R 4 (ap (k / 8))) (h0 : gd_St (fa_N ap) k → post 0) (h1 : ¬ gd_St (fa_N ap) k → post 1) : wpX_isDummy post (sc, oc, ne, ns, ca, on, st, ra, xu, xn, xe, xd, al, ap, ac, en, eu, ea, eb, sU, sL, sK, sE, sG, sO, gr, po, ec, cx, ou, tc, ss, av, cs) (nI k) := by
  obtain ⟨e, l⟩ := fa_Rn hp (by decide)
  refine ⟨by decide, by decide, ?_⟩
  rw [ha_d8 (by omega), show nI k - nI (k / 8) * 8 = nI (k % 8) from by rw [← ha_d8 (by omega)]; exact ha_r8 (by omega), nI_clamp (by omega), e]
  refine ⟨vp_in_nI (by omega) (by decide), pk_le (fa_N ap (k / 8)) (k % 8) (fun z => h0 (by unfold gd_St; omega)) (fun z => h1 (by unfold gd_St; omega))⟩
theorem hy_stored {k : Nat} (hk : k < 32) (hp : fa_R 4 (ap (k / 8))) (h0 : ¬ gd_St (fa_N ap) k → post 0) (h1 : gd_St (fa_N ap) k → post 1) : wpY_stored post (sc, oc, ne, ns, ca, nc, on, yp, yu, ye, st, yl, yr, al, ap, cb, cn, ac, eu, ea, eb, sU, sL, sK, sE, sG, sO, kx, ky, kd, pl, rl, cm, hv, ba, ad, ex, cy, tc, ss, av, cs, bi, ou) (nI k) := by
  obtain ⟨e, l⟩ := fa_Rn hp (by decide)
  refine ⟨by decide, by decide, ?_⟩
  rw [ha_d8 (by omega), show nI k - nI (k / 8) * 8 = nI (k % 8) from by rw [← ha_d8 (by omega)]; exact ha_r8 (by omega), nI_clamp (by omega), e]
  refine ⟨vp_in_nI (by omega) (by decide), pk_lt (k % 8) (fa_N ap (k / 8)) (fun z => h0 (by unfold gd_St; omega)) (fun z => h1 (by unfold gd_St; omega))⟩
theorem hy_effLen {u n : Nat} (hu : u < 4) (hn : n < 8) (hp : fa_R 4 (ap u)) (h : post (if n < fa_N ap u then 1 else al (u * 8 + n))) : wpY_effLen post (sc, oc, ne, ns, ca, nc, on, yp, yu, ye, st, yl, yr, al, ap, cb, cn, ac, eu, ea, eb, sU, sL, sK, sE, sG, sO, kx, ky, kd, pl, rl, cm, hv, ba, ad, ex, cy, tc, ss, av, cs, bi, ou) (nI u) (nI n) := by
  obtain ⟨e, l⟩ := fa_Rn hp (by decide)
  refine ⟨vp_in_nI hu (by decide), ?_⟩
  rw [nI_clamp (by omega), e]
  refine pk_le (fa_N ap u) n (fun z => ?_) (fun z => ?_)
  · rw [if_neg (by omega)] at h
    have e2 : nI u * 8 + nI n = nI (u * 8 + n) := by rw [show nI u * 8 = nI (u * 8) from pk_mul u 8, nI_add]
    rw [e2, nI_clamp (by omega)]
    exact ⟨vp_in_nI (by omega) (by decide), h⟩
  · rw [if_pos z] at h
    exact h
theorem ha_us {u n : Nat} : nI u * 8 + nI n = nI (u * 8 + n) := by rw [show nI u * 8 = nI (u * 8) from pk_mul u 8, nI_add]
theorem ha_5 {u n : Nat} : nI u * 5 + nI n = nI (u * 5 + n) := by rw [show nI u * 5 = nI (u * 5) from pk_mul u 5, nI_add]
theorem ha_50 {u : Nat} : nI u * 5 = nI (u * 5) := pk_mul u 5
theorem ha_16 {u : Nat} : nI u * 16 = nI (u * 16) := pk_mul u 16
theorem ha_4 {u n : Nat} : nI u * 4 + nI n = nI (u * 4 + n) := by rw [show nI u * 4 = nI (u * 4) from pk_mul u 4, nI_add]
theorem ha_32 {n : Nat} : 32 + nI n = nI (32 + n) := nI_add 32 n
theorem ha_el {k i : Nat} (h : 1 ≤ i) : nI k * 16 + nI i - 1 = nI (k * 16 + i - 1) := by
  rw [ha_16, nI_add, show nI (k * 16 + i) - 1 = nI (k * 16 + i) - nI 1 from rfl, pk_sub (by omega)]
end HLP
end
section
section HST
/-! statements: places, extras, what is pending -/
variable {sc oc ne ns ca on st ra xu xn xe xd nc yp yu ye yl yr : Int32} {al ap ac en eu ea eb sU sL sK sE sG sO gr po ec cx ou tc ss av cs cb cn kx ky kd pl rl cm hv ba ad ex cy bi : Nat → Int32}
variable {post : Int32 → Prop} {x y : Int32}
theorem hx_placeCount {k e : Nat} (k1 : 1 ≤ k) (k9 : k ≤ 9) (he : e < 1000) (h : post (nI (fb_need k e))) : wpX_placeCount post (nI k) (nI e) := by
  have c : k = 1 ∨ k = 2 ∨ k = 3 ∨ k = 4 ∨ k = 5 ∨ k = 6 ∨ k = 7 ∨ k = 8 ∨ k = 9 := by omega
  rcases c with rfl | rfl | rfl | rfl | rfl | rfl | rfl | rfl | rfl
  · exact br_f (by decide) (br_f (by decide) (br_t (by decide) (h)))
  · exact br_f (by decide) (br_f (by decide) (br_f (by decide) (br_t (by decide) (h))))
  · exact br_f (by decide) (br_f (by decide) (br_f (by decide) (br_f (by decide) (br_t (by decide) (by rw [show (1 : Int32) + nI e = nI (1 + e) from nI_add 1 e]; exact h)))))
  · exact br_f (by decide) (br_f (by decide) (br_f (by decide) (br_f (by decide) (br_f (by decide) (br_t (by decide) (h))))))
  · exact br_f (by decide) (br_f (by decide) (br_f (by decide) (br_f (by decide) (br_f (by decide) (br_f (by decide) (br_t (by decide) (⟨by decide, by rw [ha_d4 (by omega)]; exact h⟩)))))))
  · exact br_f (by decide) (br_f (by decide) (br_f (by decide) (br_f (by decide) (br_f (by decide) (br_f (by decide) (br_f (by decide) (br_t (by decide) (h))))))))
  · exact br_f (by decide) (br_t (by decide) (h))
  · exact br_f (by decide) (br_t (by decide) (h))
  · exact br_f (by decide) (br_t (by decide) (h))
theorem hy_need {k e : Nat} (k1 : 1 ≤ k) (k9 : k ≤ 9) (he : e < 1000) (h : post (nI (fb_need k e))) : wpY_need post (sc, oc, ne, ns, ca, nc, on, yp, yu, ye, st, yl, yr, al, ap, cb, cn, ac, eu, ea, eb, sU, sL, sK, sE, sG, sO, kx, ky, kd, pl, rl, cm, hv, ba, ad, ex, cy, tc, ss, av, cs, bi, ou) (nI k) (nI e) := by
  have c : k = 1 ∨ k = 2 ∨ k = 3 ∨ k = 4 ∨ k = 5 ∨ k = 6 ∨ k = 7 ∨ k = 8 ∨ k = 9 := by omega
  rcases c with rfl | rfl | rfl | rfl | rfl | rfl | rfl | rfl | rfl
  · exact br_t (by decide) (h)
  · exact br_f (by decide) (br_t (by decide) (h))
  · exact br_f (by decide) (br_f (by decide) (br_f (by decide) (br_t (by decide) (by rw [show (1 : Int32) + nI e = nI (1 + e) from nI_add 1 e]; exact h))))
  · exact br_f (by decide) (br_f (by decide) (br_t (by decide) (h)))
  · exact br_f (by decide) (br_f (by decide) (br_f (by decide) (br_f (by decide) (br_t (by decide) (⟨by decide, by rw [ha_d4 (by omega)]; exact h⟩)))))
  · exact br_f (by decide) (br_f (by decide) (br_f (by decide) (br_f (by decide) (br_f (by decide) (br_t (by decide) (h))))))
  · exact br_f (by decide) (br_f (by decide) (br_f (by decide) (br_f (by decide) (br_f (by decide) (br_f (by decide) (h))))))
  · exact br_f (by decide) (br_f (by decide) (br_f (by decide) (br_f (by decide) (br_f (by decide) (br_f (by decide) (h))))))
  · exact br_f (by decide) (br_f (by decide) (br_f (by decide) (br_f (by decide) (br_f (by decide) (br_f (by decide) (h))))))
theorem hx_placeKind {k p : Nat} (k1 : 1 ≤ k) (k9 : k ≤ 9) (hp : p < 1000) (h : post (nI (fb_pl k p))) : wpX_placeKind post (nI k) (nI p) := by
  have c : k = 1 ∨ k = 2 ∨ k = 3 ∨ k = 4 ∨ k = 5 ∨ k = 6 ∨ k = 7 ∨ k = 8 ∨ k = 9 := by omega
  rcases c with rfl | rfl | rfl | rfl | rfl | rfl | rfl | rfl | rfl
  · exact br_f (by decide) (br_f (by decide) (br_t (by decide) (pk_eq p 0 (fun z => by subst z; exact h) (fun z => by rw [show fb_pl 1 p = 0 from if_neg z] at h; exact h))))
  · exact br_f (by decide) (br_f (by decide) (br_f (by decide) (br_t (by decide) (pk_le 2 p (fun z => by rw [show fb_pl 2 p = 2 from if_neg (show ¬ p < 2 by omega)] at h; exact h) (fun z => by rw [show fb_pl 2 p = 0 from if_pos z] at h; exact h)))))
  · exact br_f (by decide) (br_f (by decide) (br_f (by decide) (br_f (by decide) (br_t (by decide) (pk_eq p 0 (fun z => by subst z; exact h) (fun z => by rw [show fb_pl 3 p = 2 from if_neg z] at h; exact h))))))
  · exact br_f (by decide) (br_f (by decide) (br_f (by decide) (br_f (by decide) (br_f (by decide) (br_t (by decide) (pk_eq p 0 (fun z => by subst z; exact h) (fun z => pk_eq p 1 (fun z => by subst z; exact h) (fun z' => by rw [show fb_pl 4 p = 0 from (if_neg z).trans (if_neg z')] at h; exact h))))))))
  · exact br_f (by decide) (br_f (by decide) (br_f (by decide) (br_f (by decide) (br_f (by decide) (br_f (by decide) (br_t (by decide) (h)))))))
  · exact br_f (by decide) (br_t (by decide) (h))
  · exact br_f (by decide) (br_t (by decide) (h))
  · exact br_f (by decide) (br_t (by decide) (h))
  · exact br_f (by decide) (br_t (by decide) (h))
theorem hy_place {k p : Nat} (k1 : 1 ≤ k) (k9 : k ≤ 9) (hp : p < 1000) (h : post (nI (fb_pl k p))) : wpY_place post (sc, oc, ne, ns, ca, nc, on, yp, yu, ye, st, yl, yr, al, ap, cb, cn, ac, eu, ea, eb, sU, sL, sK, sE, sG, sO, kx, ky, kd, pl, rl, cm, hv, ba, ad, ex, cy, tc, ss, av, cs, bi, ou) (nI k) (nI p) := by
  have c : k = 1 ∨ k = 2 ∨ k = 3 ∨ k = 4 ∨ k = 5 ∨ k = 6 ∨ k = 7 ∨ k = 8 ∨ k = 9 := by omega
  rcases c with rfl | rfl | rfl | rfl | rfl | rfl | rfl | rfl | rfl
  · exact br_f (by decide) (br_f (by decide) (br_f (by decide) (br_f (by decide) (br_t (by decide) (pk_eq p 0 (fun z => by subst z; exact h) (fun z => by rw [show fb_pl 1 p = 0 from if_neg z] at h; exact h))))))
  · exact br_t (by decide) (pk_lt p 2 (fun z => by rw [show fb_pl 2 p = 0 from if_pos z] at h; exact h) (fun z => by rw [show fb_pl 2 p = 2 from if_neg (show ¬ p < 2 by omega)] at h; exact h))
  · exact br_f (by decide) (br_t (by decide) (pk_lt p 1 (fun z => by rw [show fb_pl 3 p = 0 from if_pos (show p = 0 by omega)] at h; exact h) (fun z => by rw [show fb_pl 3 p = 2 from if_neg (show ¬ p = 0 by omega)] at h; exact h)))
  · exact br_f (by decide) (br_f (by decide) (br_t (by decide) (pk_eq p 0 (fun z => by subst z; exact h) (fun z => pk_eq p 1 (fun z => by subst z; exact h) (fun z' => by rw [show fb_pl 4 p = 0 from (if_neg z).trans (if_neg z')] at h; exact h)))))
  · exact br_f (by decide) (br_f (by decide) (br_f (by decide) (br_t (by decide) (h))))
  · exact br_f (by decide) (br_f (by decide) (br_f (by decide) (br_f (by decide) (br_f (by decide) (h)))))
  · exact br_f (by decide) (br_f (by decide) (br_f (by decide) (br_f (by decide) (br_f (by decide) (h)))))
  · exact br_f (by decide) (br_f (by decide) (br_f (by decide) (br_f (by decide) (br_f (by decide) (h)))))
  · exact br_f (by decide) (br_f (by decide) (br_f (by decide) (br_f (by decide) (br_f (by decide) (h)))))
/-- kind and extra of a statement that is taken -/
def fa_X (x y : Int32) : Prop := ∃ k e, 1 ≤ k ∧ k ≤ 9 ∧ x = nI k ∧ y = nI e ∧ e < 16 ∧ fb_xok k e
theorem ha_xk {k : Nat} (k1 : 1 ≤ k) (k9 : k ≤ 9) : fa_X (nI k) y ↔ ∃ e, y = nI e ∧ e < 16 ∧ fb_xok k e := by
  constructor
  · rintro ⟨k', e, a1, a2, a3, a4, a5, a6⟩
    have := fa_inj (by omega) (by omega) a3
    subst this
    exact ⟨e, a4, a5, a6⟩
  · rintro ⟨e, a4, a5, a6⟩
    exact ⟨k, e, k1, k9, rfl, a4, a5, a6⟩
theorem ha_xn (h : ¬ fa_R 10 x ∨ x = nI 0) : ¬ fa_X x y := by
  rintro ⟨k, e, a1, a2, rfl, _⟩
  rcases h with h | h
  · exact h ⟨k, by omega, rfl⟩
  · have := fa_inj (by omega) (by omega) h
    omega
/-- the extras of kind k, by the value of y -/
theorem ha_xv {A : Prop} {k : Nat} (k1 : 1 ≤ k) (k9 : k ≤ 9) (hn : y < 0 → A) (hb : (16 : Int32) ≤ y → A) (hv : ∀ e, e < 16 → y = nI e → A) : A := by
  rcases pk_ix y (n := 16) (by decide) with a | a | ⟨e, he, rfl⟩
  · exact hn a
  · exact hb a
  · exact hv e he rfl
theorem ha_x0 {k : Nat} (k1 : 1 ≤ k) (k9 : k ≤ 9) (h : y < 0) : ¬ fa_X (nI k) y := by
  rw [ha_xk k1 k9]
  rintro ⟨e, rfl, he, _⟩
  exact nI_pos (by omega) h
theorem ha_x16 {k : Nat} (k1 : 1 ≤ k) (k9 : k ≤ 9) (h : (16 : Int32) ≤ y) : ¬ fa_X (nI k) y := by
  rw [ha_xk k1 k9]
  rintro ⟨e, rfl, he, _⟩
  exact nI_ge (b := 16) he (by decide) h
theorem ha_xe {k e : Nat} (k1 : 1 ≤ k) (k9 : k ≤ 9) (he : e < 16) : fa_X (nI k) (nI e) ↔ fb_xok k e := by
  rw [ha_xk k1 k9]
  constructor
  · rintro ⟨e', a, b, c⟩
    have := fa_inj (by omega) (by omega) a
    subst this
    exact c
  · intro c
    exact ⟨e, rfl, he, c⟩
theorem ha_ge1 (h : (16 : Int32) ≤ y) : ¬ y < 0 ∧ ¬ y < 1 ∧ 3 < y ∧ 4 < y ∧ 15 < y ∧ ¬ y = 0 := by
  rw [Int32.le_iff_toInt_le] at h
  simp only [Int32.lt_iff_toInt_lt, ← Int32.toInt_inj]
  have e16 : (16 : Int32).toInt = 16 := by decide
  have e0 : (0 : Int32).toInt = 0 := by decide
  have e1 : (1 : Int32).toInt = 1 := by decide
  have e3 : (3 : Int32).toInt = 3 := by decide
  have e4 : (4 : Int32).toInt = 4 := by decide
  have e15 : (15 : Int32).toInt = 15 := by decide
  rw [e16] at h
  rw [e0, e1, e3, e4, e15]
  omega
theorem ha_lt1 (h : y < 0) : y < 1 ∧ ¬ y = 0 := by
  refine ⟨Int32.lt_trans h (by decide), ?_⟩
  rintro rfl
  exact absurd h (by decide)

theorem ha_xz {k : Nat} (k1 : 1 ≤ k) (k9 : k ≤ 9) (n1 : k ≠ 1) (n3 : k ≠ 3) (n5 : k ≠ 5) (z : ¬ y = 0) : ¬ fa_X (nI k) y := by
  rw [ha_xk k1 k9]
  rintro ⟨e, rfl, he, c⟩
  unfold fb_xok at c
  have : e = 0 := by omega
  subst this
  exact z rfl
theorem hk_1 (h1 : fa_X (nI 1) y → post 1) (h0 : ¬ fa_X (nI 1) y → post 0) : (y < 0 → post 0) ∧ (¬ y < 0 → ((3 < y → post 0) ∧ (¬ 3 < y → post 1))) := by
  rcases pk_ix y (n := 16) (by decide) with a | a | ⟨e, he, rfl⟩
  · exact br_t a (h0 (ha_x0 (by decide) (by decide) a))
  · obtain ⟨c0, c1, c3, c4, c5, c6⟩ := ha_ge1 a
    exact br_f c0 (br_t c3 (h0 (ha_x16 (by decide) (by decide) a)))
  · have key := ha_xe (k := 1) (e := e) (by decide) (by decide) he
    unfold fb_xok at key
    exact br_f (nI_pos (by omega)) (pk_lt 3 e (fun z => h0 (by rw [key]; omega)) (fun z => h1 (by rw [key]; omega)))
theorem hk_3 (h1 : fa_X (nI 3) y → post 1) (h0 : ¬ fa_X (nI 3) y → post 0) : (y < 1 → post 0) ∧ (¬ y < 1 → ((4 < y → post 0) ∧ (¬ 4 < y → post 1))) := by
  rcases pk_ix y (n := 16) (by decide) with a | a | ⟨e, he, rfl⟩
  · exact br_t (ha_lt1 a).1 (h0 (ha_x0 (by decide) (by decide) a))
  · obtain ⟨c0, c1, c3, c4, c5, c6⟩ := ha_ge1 a
    exact br_f c1 (br_t c4 (h0 (ha_x16 (by decide) (by decide) a)))
  · have key := ha_xe (k := 3) (e := e) (by decide) (by decide) he
    unfold fb_xok at key
    exact pk_lt e 1 (fun z => h0 (by rw [key]; omega)) (fun z' => pk_lt 4 e (fun z => h0 (by rw [key]; omega)) (fun z => h1 (by rw [key]; omega)))
theorem hk_5x (h1 : fa_X (nI 5) y → post 1) (h0 : ¬ fa_X (nI 5) y → post 0) : (y < 0 → post 0) ∧ (¬ y < 0 → ((16 ≤ y → post 0) ∧ (¬ 16 ≤ y → (¬ (4 : Int32) = 0 ∧ (((y - y / 4 * 4) = 0 → post 0) ∧ (¬ (y - y / 4 * 4) = 0 → post 1)))))) := by
  rcases pk_ix y (n := 16) (by decide) with a | a | ⟨e, he, rfl⟩
  · exact br_t a (h0 (ha_x0 (by decide) (by decide) a))
  · obtain ⟨c0, c1, c3, c4, c5, c6⟩ := ha_ge1 a
    exact br_f c0 (br_t a (h0 (ha_x16 (by decide) (by decide) a)))
  · have key := ha_xe (k := 5) (e := e) (by decide) (by decide) he
    unfold fb_xok at key
    refine br_f (nI_pos (by omega)) (br_f (nI_ge (b := 16) he (by decide)) ⟨by decide, ?_⟩)
    rw [ha_r4 (by omega)]
    exact pk_eq (e % 4) 0 (fun z => h0 (by rw [key]; omega)) (fun z => h1 (by rw [key]; omega))
theorem hk_5y (h1 : fa_X (nI 5) y → post 1) (h0 : ¬ fa_X (nI 5) y → post 0) : (y < 1 → post 0) ∧ (¬ y < 1 → ((15 < y → post 0) ∧ (¬ 15 < y → (¬ (4 : Int32) = 0 ∧ (((y - y / 4 * 4) = 0 → post 0) ∧ (¬ (y - y / 4 * 4) = 0 → post 1)))))) := by
  rcases pk_ix y (n := 16) (by decide) with a | a | ⟨e, he, rfl⟩
  · exact br_t (ha_lt1 a).1 (h0 (ha_x0 (by decide) (by decide) a))
  · obtain ⟨c0, c1, c3, c4, c5, c6⟩ := ha_ge1 a
    exact br_f c1 (br_t c5 (h0 (ha_x16 (by decide) (by decide) a)))
  · have key := ha_xe (k := 5) (e := e) (by decide) (by decide) he
    unfold fb_xok at key
    refine pk_lt e 1 (fun z => h0 (by rw [key]; omega)) (fun z' => br_f (nI_nlt (a := 15) (by omega) (by decide)) ⟨by decide, ?_⟩)
    rw [ha_r4 (by omega)]
    exact pk_eq (e % 4) 0 (fun z => h0 (by rw [key]; omega)) (fun z => h1 (by rw [key]; omega))
theorem hx_isExtra (h1 : fa_X x y → post 1) (h0 : ¬ fa_X x y → post 0) : wpX_isExtra post x y := by
  rcases pk_ix x (n := 10) (by decide) with a | a | ⟨k, hk, rfl⟩
  · have a1 : x < 1 := Int32.lt_trans a (by decide)
    exact br_t a1 (br_t a1 (h0 (ha_xn (Or.inl (ha_lo (by decide) a)))))
  · have b1 : ¬ x < 1 := by
      intro z
      exact absurd (Int32.lt_of_le_of_lt a z) (by decide)
    have b5 : 5 < x := Int32.lt_of_lt_of_le (by decide) a
    have b9 : 9 < x := Int32.lt_of_lt_of_le (by decide) a
    exact br_f b1 (br_t b5 (br_f b1 (br_t b9 (h0 (ha_xn (Or.inl (ha_hi (n := 10) (by decide) a)))))))
  · have c : k = 0 ∨ k = 1 ∨ k = 2 ∨ k = 3 ∨ k = 4 ∨ k = 5 ∨ k = 6 ∨ k = 7 ∨ k = 8 ∨ k = 9 := by omega
    rcases c with rfl | rfl | rfl | rfl | rfl | rfl | rfl | rfl | rfl | rfl
    · exact br_t (by decide) (br_t (by decide) (h0 (ha_xn (Or.inr rfl))))
    · exact br_f (by decide) (br_f (by decide) (br_t (by decide) (hk_1 h1 h0)))
    · exact br_f (by decide) (br_f (by decide) (br_f (by decide) (br_t (by decide) (br_f (by decide) (br_f (by decide) (br_c (fun z => h1 (by subst z; exact (ha_xe (e := 0) (by decide) (by decide) (by decide)).mpr (by unfold fb_xok; omega))) (fun z => h0 (ha_xz (by decide) (by decide) (by decide) (by decide) (by decide) z))))))))
    · exact br_f (by decide) (br_f (by decide) (br_f (by decide) (br_f (by decide) (br_t (by decide) (hk_3 h1 h0)))))
    · exact br_f (by decide) (br_f (by decide) (br_f (by decide) (br_f (by decide) (br_f (by decide) (br_t (by decide) (br_f (by decide) (br_f (by decide) (br_c (fun z => h1 (by subst z; exact (ha_xe (e := 0) (by decide) (by decide) (by decide)).mpr (by unfold fb_xok; omega))) (fun z => h0 (ha_xz (by decide) (by decide) (by decide) (by decide) (by decide) z))))))))))
    · exact br_f (by decide) (br_f (by decide) (br_f (by decide) (br_f (by decide) (br_f (by decide) (br_f (by decide) (br_t (by decide) (hk_5x h1 h0)))))))
    · exact br_f (by decide) (br_t (by decide) (br_f (by decide) (br_f (by decide) (br_c (fun z => h1 (by subst z; exact (ha_xe (e := 0) (by decide) (by decide) (by decide)).mpr (by unfold fb_xok; omega))) (fun z => h0 (ha_xz (by decide) (by decide) (by decide) (by decide) (by decide) z))))))
    · exact br_f (by decide) (br_t (by decide) (br_f (by decide) (br_f (by decide) (br_c (fun z => h1 (by subst z; exact (ha_xe (e := 0) (by decide) (by decide) (by decide)).mpr (by unfold fb_xok; omega))) (fun z => h0 (ha_xz (by decide) (by decide) (by decide) (by decide) (by decide) z))))))
    · exact br_f (by decide) (br_t (by decide) (br_f (by decide) (br_f (by decide) (br_c (fun z => h1 (by subst z; exact (ha_xe (e := 0) (by decide) (by decide) (by decide)).mpr (by unfold fb_xok; omega))) (fun z => h0 (ha_xz (by decide) (by decide) (by decide) (by decide) (by decide) z))))))
    · exact br_f (by decide) (br_t (by decide) (br_f (by decide) (br_f (by decide) (br_c (fun z => h1 (by subst z; exact (ha_xe (e := 0) (by decide) (by decide) (by decide)).mpr (by unfold fb_xok; omega))) (fun z => h0 (ha_xz (by decide) (by decide) (by decide) (by decide) (by decide) z))))))
theorem hy_extraOk {k : Nat} (k1 : 1 ≤ k) (k9 : k ≤ 9) (h1 : fa_X (nI k) y → post 1) (h0 : ¬ fa_X (nI k) y → post 0) : wpY_extraOk post (sc, oc, ne, ns, ca, nc, on, yp, yu, ye, st, yl, yr, al, ap, cb, cn, ac, eu, ea, eb, sU, sL, sK, sE, sG, sO, kx, ky, kd, pl, rl, cm, hv, ba, ad, ex, cy, tc, ss, av, cs, bi, ou) (nI k) y := by
  have c : k = 1 ∨ k = 2 ∨ k = 3 ∨ k = 4 ∨ k = 5 ∨ k = 6 ∨ k = 7 ∨ k = 8 ∨ k = 9 := by omega
  rcases c with rfl | rfl | rfl | rfl | rfl | rfl | rfl | rfl | rfl
  · exact br_t (by decide) (hk_1 h1 h0)
  · exact br_f (by decide) (br_f (by decide) (br_f (by decide) (br_c (fun z => h1 (by subst z; exact (ha_xe (e := 0) (by decide) (by decide) (by decide)).mpr (by unfold fb_xok; omega))) (fun z => h0 (ha_xz (by decide) (by decide) (by decide) (by decide) (by decide) z)))))
  · exact br_f (by decide) (br_t (by decide) (hk_3 h1 h0))
  · exact br_f (by decide) (br_f (by decide) (br_f (by decide) (br_c (fun z => h1 (by subst z; exact (ha_xe (e := 0) (by decide) (by decide) (by decide)).mpr (by unfold fb_xok; omega))) (fun z => h0 (ha_xz (by decide) (by decide) (by decide) (by decide) (by decide) z)))))
  · exact br_f (by decide) (br_f (by decide) (br_t (by decide) (hk_5y h1 h0)))
  · exact br_f (by decide) (br_f (by decide) (br_f (by decide) (br_c (fun z => h1 (by subst z; exact (ha_xe (e := 0) (by decide) (by decide) (by decide)).mpr (by unfold fb_xok; omega))) (fun z => h0 (ha_xz (by decide) (by decide) (by decide) (by decide) (by decide) z)))))
  · exact br_f (by decide) (br_f (by decide) (br_f (by decide) (br_c (fun z => h1 (by subst z; exact (ha_xe (e := 0) (by decide) (by decide) (by decide)).mpr (by unfold fb_xok; omega))) (fun z => h0 (ha_xz (by decide) (by decide) (by decide) (by decide) (by decide) z)))))
  · exact br_f (by decide) (br_f (by decide) (br_f (by decide) (br_c (fun z => h1 (by subst z; exact (ha_xe (e := 0) (by decide) (by decide) (by decide)).mpr (by unfold fb_xok; omega))) (fun z => h0 (ha_xz (by decide) (by decide) (by decide) (by decide) (by decide) z)))))
  · exact br_f (by decide) (br_f (by decide) (br_f (by decide) (br_c (fun z => h1 (by subst z; exact (ha_xe (e := 0) (by decide) (by decide) (by decide)).mpr (by unfold fb_xok; omega))) (fun z => h0 (ha_xz (by decide) (by decide) (by decide) (by decide) (by decide) z)))))
/-- the operands that the newest statement still wants -/
def fb_pend (n : Nat) (sK sE sG : Nat → Int32) : Nat := if n = 0 then 0 else fb_need (fa_N sK (n - 1)) (fa_N sE (n - 1)) - fa_N sG (n - 1)
theorem ha_V {s : Nat} {f : Prop} (V : fs_V sU sL sK sE sG sO s f) : (sK s = nI (fa_N sK s) ∧ 1 ≤ fa_N sK s ∧ fa_N sK s ≤ 9) ∧ (sE s = nI (fa_N sE s) ∧ fb_xok (fa_N sK s) (fa_N sE s) ∧ fa_N sE s < 16) ∧ (sG s = nI (fa_N sG s) ∧ fa_N sG s ≤ fb_need (fa_N sK s) (fa_N sE s) ∧ fa_N sG s ≤ 5) ∧ (sU s = nI (fa_N sU s) ∧ fa_N sU s < 4) ∧ (sL s = nI (fa_N sL s) ∧ fa_N sL s < 100) ∧ (f → fa_N sG s = fb_need (fa_N sK s) (fa_N sE s)) ∧
    (∀ p, p < fa_N sG s → ∃ c, sO (s * 5 + p) = nI c ∧ fb_al (fb_pl (fa_N sK s) p) c) := by
  obtain ⟨u, l, k, e, g, a1, a2, a3, a4, a5, a6, a7, a8, a9, a10, a11, a12, a13⟩ := V
  have e16 : e < 16 := by unfold fb_xok at a9; omega
  have n5 := fb_need5 a9
  rw [fa_Re a1 (by omega), fa_Re a3 (by omega), fa_Re a5 (by omega), fa_Re a8 (by omega), fa_Re a10 (by omega)]
  exact ⟨⟨a5, a6, a7⟩, ⟨a8, a9, e16⟩, ⟨a10, a11, by omega⟩, ⟨a1, a2⟩, ⟨a3, a4⟩, a12, a13⟩
theorem hx_await {n : Nat} {f : Prop} (hn : n ≤ 64) (S : fs_S n sU sL sK sE sG sO f) (h : post (nI (fb_pend n sK sE sG))) : wpX_awaitedOperands post (sc, oc, ne, nI n, ca, on, st, ra, xu, xn, xe, xd, al, ap, ac, en, eu, ea, eb, sU, sL, sK, sE, sG, sO, gr, po, ec, cx, ou, tc, ss, av, cs) := by
  refine pk_eq n 0 (fun z => by subst z; exact h) (fun z => ?_)
  have e1 : nI n - 1 = nI (n - 1) := pk_sub (b := 1) (by omega)
  refine nm_r e1 ?_
  obtain ⟨⟨b1, b2, b3⟩, ⟨c1, c2, c3⟩, ⟨d1, d2, d3⟩, _⟩ := ha_V (S (n - 1) (by omega))
  have v : vp_in (nI (n - 1)) 64 := vp_in_nI (by omega) (by decide)
  refine ⟨v, v, ?_⟩
  rw [nI_clamp (by omega), b1, c1]
  refine hx_placeCount b2 b3 (by omega) ⟨v, ?_⟩
  rw [d1, pk_sub d2]
  unfold fb_pend at h
  rw [if_neg z] at h
  exact h
theorem hy_pending {n : Nat} {f : Prop} (hn : n ≤ 64) (S : fs_S n sU sL sK sE sG sO f) (h : post (nI (fb_pend n sK sE sG))) : wpY_pending post (sc, oc, ne, nI n, ca, nc, on, yp, yu, ye, st, yl, yr, al, ap, cb, cn, ac, eu, ea, eb, sU, sL, sK, sE, sG, sO, kx, ky, kd, pl, rl, cm, hv, ba, ad, ex, cy, tc, ss, av, cs, bi, ou) := by
  refine pk_eq n 0 (fun z => by subst z; exact h) (fun z => ?_)
  have e1 : nI n - 1 = nI (n - 1) := pk_sub (b := 1) (by omega)
  refine nm_r e1 ?_
  obtain ⟨⟨b1, b2, b3⟩, ⟨c1, c2, c3⟩, ⟨d1, d2, d3⟩, _⟩ := ha_V (S (n - 1) (by omega))
  have v : vp_in (nI (n - 1)) 64 := vp_in_nI (by omega) (by decide)
  refine ⟨v, v, ?_⟩
  rw [nI_clamp (by omega), b1, c1]
  refine hy_need b2 b3 (by omega) ⟨v, ?_⟩
  rw [d1, pk_sub d2]
  unfold fb_pend at h
  rw [if_neg z] at h
  exact h
/-- an operand that place kind w takes -/
def fa_A (w : Nat) (x : Int32) : Prop := ∃ c, x = nI c ∧ fb_al w c
theorem ha_A0 : fa_A 0 x ↔ (fa_R 10000 x ∨ fa_F x ∨ fa_I x) := by
  constructor
  · rintro ⟨c, rfl, h⟩
    unfold fb_al at h
    rcases h with h | h | ⟨_, h | h | h⟩
    · omega
    · omega
    · exact Or.inl ⟨c, h, rfl⟩
    · exact Or.inr (Or.inl ⟨c, h, rfl⟩)
    · exact Or.inr (Or.inr ⟨c, h, rfl⟩)
  · rintro (⟨c, h, rfl⟩ | ⟨c, h, rfl⟩ | ⟨c, h, rfl⟩)
    · exact ⟨c, rfl, Or.inr (Or.inr ⟨rfl, Or.inl h⟩)⟩
    · exact ⟨c, rfl, Or.inr (Or.inr ⟨rfl, Or.inr (Or.inl h)⟩)⟩
    · exact ⟨c, rfl, Or.inr (Or.inr ⟨rfl, Or.inr (Or.inr h)⟩)⟩
theorem ha_A1 : fa_A 1 x ↔ (fa_F x ∨ fa_I x) := by
  constructor
  · rintro ⟨c, rfl, h⟩
    unfold fb_al at h
    rcases h with h | ⟨_, h | h⟩ | h
    · omega
    · exact Or.inl ⟨c, h, rfl⟩
    · exact Or.inr ⟨c, h, rfl⟩
    · omega
  · rintro (⟨c, h, rfl⟩ | ⟨c, h, rfl⟩)
    · exact ⟨c, rfl, Or.inr (Or.inl ⟨rfl, Or.inl h⟩)⟩
    · exact ⟨c, rfl, Or.inr (Or.inl ⟨rfl, Or.inr h⟩)⟩
theorem ha_A2 : fa_A 2 x ↔ fa_R 10000 x := by
  constructor
  · rintro ⟨c, rfl, h⟩
    unfold fb_al at h
    exact ⟨c, by omega, rfl⟩
  · rintro ⟨c, h, rfl⟩
    exact ⟨c, rfl, Or.inl ⟨rfl, h⟩⟩
theorem ha_nb (z : Int32) (h : z = 0 ∨ z = 1) : narrow .boolean (.int z) = .int z := by
  rcases h with rfl | rfl <;> rfl
theorem hx_isAllowed {w : Nat} (hw : w < 3) (h1 : fa_A w x → post 1) (h0 : ¬ fa_A w x → post 0) : wpX_isAllowed post x (nI w) := by
  have c : w = 0 ∨ w = 1 ∨ w = 2 := by omega
  rcases c with rfl | rfl | rfl
  · rw [ha_A0] at h1 h0
    refine br_f (by decide) (br_f (by decide) (hx_isConstant (fun a => br_f (by decide) (h1 (Or.inl a))) (fun a => br_t rfl (hx_isFixed (fun b => br_f (by decide) (h1 (Or.inr (Or.inl b)))) (fun b => br_t rfl (hx_isIndexed (fun c => br_f (by decide) (h1 (Or.inr (Or.inr c)))) (fun c => br_t rfl (h0 ?_))))))))
    rintro (z | z | z)
    · exact a z
    · exact b z
    · exact c z
  · rw [ha_A1] at h1 h0
    refine br_f (by decide) (br_t rfl (hx_isFixed (fun b => br_f (by decide) (h1 (Or.inl b))) (fun b => br_t rfl (hx_isIndexed (fun c => br_f (by decide) (h1 (Or.inr c))) (fun c => br_t rfl (h0 ?_))))))
    rintro (z | z)
    · exact b z
    · exact c z
  · rw [ha_A2] at h1 h0
    exact br_t rfl (hx_isConstant (fun a => ⟨ha_nb _ (Or.inr rfl), h1 a⟩) (fun a => ⟨ha_nb _ (Or.inl rfl), h0 a⟩))
end HST
end
section
section HSE
/-! searches over the statements, on both sides -/
variable {sc oc ne ns ca on st ra xu xn xe xd nc yp yu ye yl yr : Int32} {al ap ac en eu ea eb sU sL sK sE sG sO gr po ec cx ou tc ss av cs cb cn kx ky kd pl rl cm hv ba ad ex cy bi : Nat → Int32}
variable {post : Int32 → Prop} {u l : Int32} {n : Nat}
/-- the reference's way to say 'none' -/
def fb_pc (n p : Nat) : Int32 := if p < n then nI p else -1
theorem hs_xnx (hn : n ≤ 64) : ∀ d j, j + d = n → post (nI (fb_nx sU u d j)) → wX_nextOfUnit_2 post u sc oc ne (nI n) ca on st ra xu xn xe xd al ap ac en eu ea eb sU sL sK sE sG sO gr po ec cx ou tc ss av cs (d + 1) (nI j) := by
  intro d
  induction d with
  | zero =>
    intro j hj h
    have e : j = n := by omega
    subst e
    exact br_t (nI_le (Nat.le_refl j) (by omega)) h
  | succ d ih =>
    intro j hj h
    refine br_f (nI_ge (by omega) (by omega)) ⟨vp_in_nI (by omega) (by decide), ?_⟩
    rw [nI_clamp (by omega)]
    have h' : post (nI (if sU j = u then j else fb_nx sU u d (j + 1))) := h
    refine br_c (fun z => ?_) (fun z => ?_)
    · rw [if_pos z] at h'; exact h'
    · rw [if_neg z] at h'
      exact nm_r (nI_1 j) (ih (j + 1) (by omega) h')
theorem hx_next {f : Nat} (hn : n ≤ 64) (hf : f ≤ n) (h : post (nI (fb_nx sU u (n - f) f))) : wpX_nextOfUnit post (sc, oc, ne, nI n, ca, on, st, ra, xu, xn, xe, xd, al, ap, ac, en, eu, ea, eb, sU, sL, sK, sE, sG, sO, gr, po, ec, cx, ou, tc, ss, av, cs) u (nI f) :=
  ⟨n - f + 1, hs_xnx hn (n - f) f (by omega) h⟩
theorem hs_ynx {i : Nat} (hn : n ≤ 64) (hi : i < 64) : ∀ d j, j + d = n → post (fb_pc n (fb_nx sU (sU i) d j)) → wY_next_4 post (nI i) sc oc ne (nI n) ca nc on yp yu ye st yl yr al ap cb cn ac eu ea eb sU sL sK sE sG sO kx ky kd pl rl cm hv ba ad ex cy tc ss av cs bi ou (d + 1) (nI j) := by
  intro d
  induction d with
  | zero =>
    intro j hj h
    have e : j = n := by omega
    subst e
    have h' : post (if j < j then nI j else -1) := h
    rw [if_neg (Nat.lt_irrefl j)] at h'
    exact br_t (nI_le (Nat.le_refl j) (by omega)) h'
  | succ d ih =>
    intro j hj h
    refine br_f (nI_ge (by omega) (by omega)) ⟨vp_in_nI (by omega) (by decide), vp_in_nI hi (by decide), ?_⟩
    rw [nI_clamp (by omega), nI_clamp (by omega)]
    have h' : post (fb_pc n (if sU j = sU i then j else fb_nx sU (sU i) d (j + 1))) := h
    refine br_c (fun z => ?_) (fun z => ?_)
    · rw [if_pos z] at h'
      unfold fb_pc at h'
      rw [if_pos (by omega)] at h'
      exact h'
    · rw [if_neg z] at h'
      exact nm_r (nI_1 j) (ih (j + 1) (by omega) h')
theorem hy_next {i : Nat} (hn : n ≤ 64) (hi : i < n) (h : post (fb_pc n (fb_nx sU (sU i) (n - (i + 1)) (i + 1)))) : wpY_next post (sc, oc, ne, nI n, ca, nc, on, yp, yu, ye, st, yl, yr, al, ap, cb, cn, ac, eu, ea, eb, sU, sL, sK, sE, sG, sO, kx, ky, kd, pl, rl, cm, hv, ba, ad, ex, cy, tc, ss, av, cs, bi, ou) (nI i) :=
  nm_r (nI_1 i) ⟨n - (i + 1) + 1, hs_ynx hn (by omega) (n - (i + 1)) (i + 1) (by omega) h⟩
theorem hs_yfi (hn : n ≤ 64) : ∀ d j, j + d = n → post (fb_pc n (fb_nx sU u d j)) → wY_first_2 post u sc oc ne (nI n) ca nc on yp yu ye st yl yr al ap cb cn ac eu ea eb sU sL sK sE sG sO kx ky kd pl rl cm hv ba ad ex cy tc ss av cs bi ou (d + 1) (nI j) := by
  intro d
  induction d with
  | zero =>
    intro j hj h
    have e : j = n := by omega
    subst e
    have h' : post (if j < j then nI j else -1) := h
    rw [if_neg (Nat.lt_irrefl j)] at h'
    exact br_t (nI_le (Nat.le_refl j) (by omega)) h'
  | succ d ih =>
    intro j hj h
    refine br_f (nI_ge (by omega) (by omega)) ⟨vp_in_nI (by omega) (by decide), ?_⟩
    rw [nI_clamp (by omega)]
    have h' : post (fb_pc n (if sU j = u then j else fb_nx sU u d (j + 1))) := h
    refine br_c (fun z => ?_) (fun z => ?_)
    · rw [if_pos z] at h'
      unfold fb_pc at h'
      rw [if_pos (by omega)] at h'
      exact h'
    · rw [if_neg z] at h'
      exact nm_r (nI_1 j) (ih (j + 1) (by omega) h')
theorem hy_first (hn : n ≤ 64) (h : post (fb_pc n (fb_nx sU u n 0))) : wpY_first post (sc, oc, ne, nI n, ca, nc, on, yp, yu, ye, st, yl, yr, al, ap, cb, cn, ac, eu, ea, eb, sU, sL, sK, sE, sG, sO, kx, ky, kd, pl, rl, cm, hv, ba, ad, ex, cy, tc, ss, av, cs, bi, ou) u :=
  ⟨n + 1, hs_yfi hn n 0 (by omega) h⟩
theorem hs_xfl0 (hn : n ≤ 64) : ∀ d j, j + d = n → post (-1) → wX_findLabel_2 post u 0 sc oc ne (nI n) ca on st ra xu xn xe xd al ap ac en eu ea eb sU sL sK sE sG sO gr po ec cx ou tc ss av cs (d + 1) (nI j) := by
  intro d
  induction d with
  | zero =>
    intro j hj h
    have e : j = n := by omega
    subst e
    exact br_t (nI_le (Nat.le_refl j) (by omega)) h
  | succ d ih =>
    intro j hj h
    exact br_f (nI_ge (by omega) (by omega)) (br_t rfl (nm_r (nI_1 j) (ih (j + 1) (by omega) h)))
theorem hs_xfl (hn : n ≤ 64) (hl : ¬ l = 0) : ∀ d j, j + d = n → post (fb_pc n (fb_fl sU sL u l d j)) → wX_findLabel_2 post u l sc oc ne (nI n) ca on st ra xu xn xe xd al ap ac en eu ea eb sU sL sK sE sG sO gr po ec cx ou tc ss av cs (d + 1) (nI j) := by
  intro d
  induction d with
  | zero =>
    intro j hj h
    have e : j = n := by omega
    subst e
    have h' : post (if j < j then nI j else -1) := h
    rw [if_neg (Nat.lt_irrefl j)] at h'
    exact br_t (nI_le (Nat.le_refl j) (by omega)) h'
  | succ d ih =>
    intro j hj h
    refine br_f (nI_ge (by omega) (by omega)) (br_f hl ⟨vp_in_nI (by omega) (by decide), ?_⟩)
    rw [nI_clamp (by omega)]
    have h' : post (fb_pc n (if sU j = u ∧ sL j = l then j else fb_fl sU sL u l d (j + 1))) := h
    refine br_c (fun z => ⟨vp_in_nI (by omega) (by decide), br_c (fun z' => ?_) (fun z' => ?_)⟩) (fun z => ?_)
    · rw [if_pos ⟨z', z⟩] at h'
      unfold fb_pc at h'
      rw [if_pos (by omega)] at h'
      exact h'
    · rw [if_neg (fun q => z' q.1)] at h'
      exact nm_r (nI_1 j) (ih (j + 1) (by omega) h')
    · rw [if_neg (fun q => z q.2)] at h'
      exact nm_r (nI_1 j) (ih (j + 1) (by omega) h')
theorem hx_findLabel (hn : n ≤ 64) (h : post (fb_FL sU sL n u l)) : wpX_findLabel post (sc, oc, ne, nI n, ca, on, st, ra, xu, xn, xe, xd, al, ap, ac, en, eu, ea, eb, sU, sL, sK, sE, sG, sO, gr, po, ec, cx, ou, tc, ss, av, cs) u l := by
  refine ⟨n + 1, ?_⟩
  unfold fb_FL at h
  by_cases z : l = 0
  · rw [if_pos z] at h
    subst z
    exact hs_xfl0 hn n 0 (by omega) h
  · rw [if_neg z] at h
    exact hs_xfl hn z n 0 (by omega) h
theorem hs_yfl (hn : n ≤ 64) : ∀ d j, j + d = n → post (fb_pc n (fb_fl sU sL u l d j)) → wY_findLabel_9 post u l sc oc ne (nI n) ca nc on yp yu ye st yl yr al ap cb cn ac eu ea eb sU sL sK sE sG sO kx ky kd pl rl cm hv ba ad ex cy tc ss av cs bi ou (d + 1) (nI j) := by
  intro d
  induction d with
  | zero =>
    intro j hj h
    have e : j = n := by omega
    subst e
    have h' : post (if j < j then nI j else -1) := h
    rw [if_neg (Nat.lt_irrefl j)] at h'
    exact br_t (nI_le (Nat.le_refl j) (by omega)) h'
  | succ d ih =>
    intro j hj h
    refine br_f (nI_ge (by omega) (by omega)) ⟨vp_in_nI (by omega) (by decide), ?_⟩
    rw [nI_clamp (by omega)]
    have h' : post (fb_pc n (if sU j = u ∧ sL j = l then j else fb_fl sU sL u l d (j + 1))) := h
    refine br_c (fun z => ⟨vp_in_nI (by omega) (by decide), br_c (fun z' => ?_) (fun z' => ?_)⟩) (fun z => ?_)
    · rw [if_pos ⟨z, z'⟩] at h'
      unfold fb_pc at h'
      rw [if_pos (by omega)] at h'
      exact h'
    · rw [if_neg (fun q => z' q.2)] at h'
      exact nm_r (nI_1 j) (ih (j + 1) (by omega) h')
    · rw [if_neg (fun q => z q.1)] at h'
      exact nm_r (nI_1 j) (ih (j + 1) (by omega) h')
theorem hy_findLabel {c : Nat} (hn : n ≤ 64) (hc : c < 2 ^ 31) (h : post (fb_FL sU sL n u (nI c))) : wpY_findLabel post (sc, oc, ne, nI n, ca, nc, on, yp, yu, ye, st, yl, yr, al, ap, cb, cn, ac, eu, ea, eb, sU, sL, sK, sE, sG, sO, kx, ky, kd, pl, rl, cm, hv, ba, ad, ex, cy, tc, ss, av, cs, bi, ou) u (nI c) := by
  unfold fb_FL at h
  refine pk_le 1 c (fun z => ?_) (fun z => ?_)
  · rw [if_neg (fun e => by have := fa_inj (b := 0) hc (by decide) e; omega)] at h
    exact ⟨n + 1, hs_yfl hn n 0 (by omega) h⟩
  · have e : c = 0 := by omega
    subst e
    rw [if_pos nI_0] at h
    exact h
/-- a found label's place -/
theorem hs_FL (h : fb_FL sU sL n u l ≠ -1) : ∃ t, t < n ∧ fb_FL sU sL n u l = nI t ∧ sU t = u ∧ sL t = l ∧ l ≠ 0 := by
  unfold fb_FL at h ⊢
  by_cases z : l = 0
  · rw [if_pos z] at h
    exact absurd rfl h
  · rw [if_neg z] at h ⊢
    by_cases z' : fb_fl sU sL u l n 0 < n
    · rw [if_pos z'] at h ⊢
      have a := (fb_fl_in sU sL u l n 0).2.2 (by omega)
      exact ⟨_, z', rfl, a.1, a.2, z⟩
    · rw [if_neg z'] at h
      exact absurd rfl h
theorem hs_FLr : fb_FL sU sL n u l = -1 ∨ ∃ t, t < n ∧ fb_FL sU sL n u l = nI t ∧ sU t = u ∧ sL t = l ∧ l ≠ 0 := by
  by_cases h : fb_FL sU sL n u l = -1
  · exact Or.inl h
  · exact Or.inr (hs_FL h)
end HSE
end
section
section HCE
/-! a variable's cell and an operand's value, on both sides at once -/
variable {sc oc ne ns ca on st ra xu xn xe xd nc yp yu ye yl yr : Int32} {al ap ac en eu ea eb sU sL sK sE sG sO gr po ec cx ou tc ss av cs cb cn kx ky kd pl rl cm hv ba ad ex cy bi : Nat → Int32}
theorem hc_v {v : Int32} {l : Nat} (h2 : l ≤ 16) : v < 1 ∨ (¬ v < 1 ∧ ¬ v ≤ nI l) ∨ ∃ i, 1 ≤ i ∧ i ≤ l ∧ v = nI i := by
  by_cases a : v < 1
  · exact Or.inl a
  · right
    by_cases b : v ≤ nI l
    · right
      have a0 : ¬ v < 0 := fun z => a (Int32.lt_trans z (by decide))
      obtain ⟨i, hi, rfl⟩ := nI_of a0
      refine ⟨i, Nat.le_of_not_lt fun z => a (nI_lt (b := 1) z (by decide)), ?_, rfl⟩
      rw [nI_leI hi (by omega)] at b
      exact b
    · exact Or.inl ⟨a, b⟩
theorem hc_x54 {post : Int32 → SX → Prop} {k i l : Nat} {r : Int32} (hk : k < 32) (hl : al k = nI l) (l16 : l ≤ 16) (h1 : 1 ≤ i) (hi : i ≤ l) (e : ec (k * 16 + i - 1) = r) (h : post r (sc, oc, ne, ns, ca, on, st, ra, xu, xn, xe, xd, al, ap, ac, en, eu, ea, eb, sU, sL, sK, sE, sG, sO, gr, po, ec, cx, ou, tc, ss, av, cs)) : wX_findCell_54 post (nI k) (nI i) sc oc ne ns ca on st ra xu xn xe xd al ap ac en eu ea eb sU sL sK sE sG sO gr po ec cx ou tc ss av cs := by
  refine br_f (nI_nlt (b := 1) h1 (by omega)) ⟨vp_in_nI hk (by decide), ?_⟩
  rw [nI_clamp (by omega), hl]
  refine br_t (nI_le hi (by omega)) ?_
  rw [ha_el h1, nI_clamp (by omega), e]
  exact ⟨vp_in_nI (by omega) (by decide), h⟩
theorem hc_x54b {post : Int32 → SX → Prop} {k l : Nat} {v : Int32} (hk : k < 32) (hl : al k = nI l) (hv : v < 1 ∨ (¬ v < 1 ∧ ¬ v ≤ nI l)) (h : post (-1) (sc, oc, ne, ns, ca, on, st, 3, xu, xn, xe, xd, al, ap, ac, en, eu, ea, eb, sU, sL, sK, sE, sG, sO, gr, po, ec, cx, ou, tc, ss, av, cs)) : wX_findCell_54 post (nI k) v sc oc ne ns ca on st ra xu xn xe xd al ap ac en eu ea eb sU sL sK sE sG sO gr po ec cx ou tc ss av cs := by
  rcases hv with a | ⟨a, b⟩
  · exact br_t a h
  · refine br_f a ⟨vp_in_nI hk (by decide), ?_⟩
    rw [nI_clamp (by omega), hl]
    exact br_f b h
theorem hc_yad {post : Int32 → Prop} {u n i b : Nat} (hu : u < 4) (hn : n < 8) (h1 : 1 ≤ i) (h16 : i ≤ 16) (hp : fa_R 4 (ap u))
    (e : (n < fa_N ap u ∧ bi (u * 4 + n) = nI b) ∨ (¬ n < fa_N ap u ∧ ∃ d, ad (u * 8 + n) = nI d ∧ b = d + i - 1 ∧ d < 512)) (h : post (nI b)) : wpY_addrOf post (sc, oc, ne, ns, ca, nc, on, yp, yu, ye, st, yl, yr, al, ap, cb, cn, ac, eu, ea, eb, sU, sL, sK, sE, sG, sO, kx, ky, kd, pl, rl, cm, hv, ba, ad, ex, cy, tc, ss, av, cs, bi, ou) (nI u) (nI n) (nI i) := by
  obtain ⟨e1, l⟩ := fa_Rn hp (by decide)
  refine ⟨vp_in_nI hu (by decide), ?_⟩
  rw [nI_clamp (by omega), e1]
  rcases e with ⟨c, e⟩ | ⟨c, d, e, eb, ld⟩
  · refine br_f (nI_ge c (by omega)) ?_
    rw [ha_4, nI_clamp (by omega), e]
    exact ⟨vp_in_nI (by omega) (by decide), h⟩
  · refine br_t (nI_le (by omega) (by omega)) ?_
    rw [ha_us, nI_clamp (by omega), e]
    refine ⟨vp_in_nI (by omega) (by decide), ?_⟩
    rw [nI_add, show nI (d + i) - 1 = nI (d + i) - nI 1 from rfl, pk_sub (by omega), ← eb]
    exact h
theorem hc_get {post : Int32 → Prop} {b : Nat} (hb : b < 512) (h : post (cy b)) : wpY_get post (sc, oc, ne, ns, ca, nc, on, yp, yu, ye, st, yl, yr, al, ap, cb, cn, ac, eu, ea, eb, sU, sL, sK, sE, sG, sO, kx, ky, kd, pl, rl, cm, hv, ba, ad, ex, cy, tc, ss, av, cs, bi, ou) (nI b) := by
  refine br_f (nI_pos (by omega)) (br_f (nI_ge (b := 512) hb (by decide)) ⟨vp_in_nI hb (by decide), ?_⟩)
  rw [nI_clamp (by omega)]
  exact h
theorem hc_put {post : SY → Prop} {b : Nat} {v : Int32} (hb : b < 512) (h : post (sc, oc, ne, ns, ca, nc, on, yp, yu, ye, st, yl, yr, al, ap, cb, cn, ac, eu, ea, eb, sU, sL, sK, sE, sG, sO, kx, ky, kd, pl, rl, cm, hv, ba, ad, ex, upd cy b v, tc, ss, av, cs, bi, ou)) : wpY_put post (sc, oc, ne, ns, ca, nc, on, yp, yu, ye, st, yl, yr, al, ap, cb, cn, ac, eu, ea, eb, sU, sL, sK, sE, sG, sO, kx, ky, kd, pl, rl, cm, hv, ba, ad, ex, cy, tc, ss, av, cs, bi, ou) (nI b) v := by
  refine br_f (nI_pos (by omega)) (br_f (nI_ge (b := 512) hb (by decide)) ⟨vp_in_nI hb (by decide), ?_⟩)
  rw [nI_clamp (by omega)]
  exact nm_e h
/-- what stays through a run: lengths, dummies, the store -/
def hc_St (RC : Nat → Nat → Prop) (al ap ec ad bi cx cy : Nat → Int32) (u : Nat) : Prop :=
  fm_Bi RC ∧ fm_Sto RC (fa_N al) (fa_N ap) ec ad ∧ fm_Mem RC cx cy ∧ fm_Bnd RC (fa_N ap) ec bi u ∧ u < 4 ∧ (∀ k, k < 32 → ∃ l, 1 ≤ l ∧ l ≤ 16 ∧ al k = nI l) ∧ (∀ u, u < 4 → fa_R 4 (ap u)) ∧ (∀ k, k < 32 → ¬ gd_St (fa_N ap) k → al k = 1)
variable {RC : Nat → Nat → Prop} {u c s p : Nat}
theorem hc_dum (hd : ∀ k, k < 32 → ¬ gd_St (fa_N ap) k → al k = 1) (hu : u < 4) {n : Nat} (hn : n < 8) (h : n < fa_N ap u) : al (u * 8 + n) = 1 := by
  refine hd _ (by omega) ?_
  unfold gd_St
  rw [show (u * 8 + n) % 8 = n by omega, show (u * 8 + n) / 8 = u by omega]
  exact fun z => z h
theorem hc_cell (H : hc_St RC al ap ec ad bi cx cy u) (hc : (fb_FX c ∧ fb_ix c ≤ fa_N al (u * 8 + fb_nm c)) ∨ fb_IX c) :
    ((∀ post : Int32 → SX → Prop, post (-1) (sc, oc, ne, ns, ca, on, st, 3, nI u, xn, xe, xd, al, ap, ac, en, eu, ea, eb, sU, sL, sK, sE, sG, sO, gr, po, ec, cx, ou, tc, ss, av, cs) → wpX_findCell post (sc, oc, ne, ns, ca, on, st, ra, nI u, xn, xe, xd, al, ap, ac, en, eu, ea, eb, sU, sL, sK, sE, sG, sO, gr, po, ec, cx, ou, tc, ss, av, cs) (nI c)) ∧ (∀ post : Int32 → SY → Prop, post (-1) (sc, oc, ne, ns, ca, nc, on, yp, yu, 3, st, yl, yr, al, ap, cb, cn, ac, eu, ea, eb, sU, sL, sK, sE, sG, sO, kx, ky, kd, pl, rl, cm, hv, ba, ad, ex, cy, tc, ss, av, cs, bi, ou) → wpY_cellOf post (sc, oc, ne, ns, ca, nc, on, yp, yu, ye, st, yl, yr, al, ap, cb, cn, ac, eu, ea, eb, sU, sL, sK, sE, sG, sO, kx, ky, kd, pl, rl, cm, hv, ba, ad, ex, cy, tc, ss, av, cs, bi, ou) (nI u) (nI c))) ∨
    ∃ a b, RC a b ∧ (∀ post : Int32 → SX → Prop, post (nI a) (sc, oc, ne, ns, ca, on, st, ra, nI u, xn, xe, xd, al, ap, ac, en, eu, ea, eb, sU, sL, sK, sE, sG, sO, gr, po, ec, cx, ou, tc, ss, av, cs) → wpX_findCell post (sc, oc, ne, ns, ca, on, st, ra, nI u, xn, xe, xd, al, ap, ac, en, eu, ea, eb, sU, sL, sK, sE, sG, sO, gr, po, ec, cx, ou, tc, ss, av, cs) (nI c)) ∧ (∀ post : Int32 → SY → Prop, post (nI b) (sc, oc, ne, ns, ca, nc, on, yp, yu, ye, st, yl, yr, al, ap, cb, cn, ac, eu, ea, eb, sU, sL, sK, sE, sG, sO, kx, ky, kd, pl, rl, cm, hv, ba, ad, ex, cy, tc, ss, av, cs, bi, ou) → wpY_cellOf post (sc, oc, ne, ns, ca, nc, on, yp, yu, ye, st, yl, yr, al, ap, cb, cn, ac, eu, ea, eb, sU, sL, sK, sE, sG, sO, kx, ky, kd, pl, rl, cm, hv, ba, ad, ex, cy, tc, ss, av, cs, bi, ou) (nI u) (nI c)) := by
  obtain ⟨B, S, M, Bd, hu, hD, hP, hd⟩ := H
  have hcl : c < 30000 := by
    rcases hc with ⟨h, _⟩ | h
    · unfold fb_FX at h; omega
    · unfold fb_IX at h; omega
  have n8 : fb_nm c < 8 := fb_nm8 (hc.imp (fun h => h.1) id)
  have hd1 : ∀ n, n < 8 → n < fa_N ap u → fa_N al (u * 8 + n) = 1 := fun n hn z => fa_Re (hc_dum hd hu hn z) (by decide)
  obtain ⟨l, l1, l16, el⟩ := hD (u * 8 + fb_nm c) (by omega)
  have eL : fa_N al (u * 8 + fb_nm c) = l := fa_Re el (by omega)
  rcases hc with ⟨hF, hi⟩ | hI
  · right
    have i16 := fb_ix16 hF
    obtain ⟨a, b, r, e1, e2⟩ := fm_loc S Bd hu n8 (fb_ix1 c) hi (hd1 _ n8)
    refine ⟨a, b, r, fun post h => ?_, fun post h => ?_⟩
    · unfold wpX_findCell
      dsimp only
      refine hx_slotOf (by omega) ?_
      refine br_t (nI_lt (b := 20000) (by unfold fb_FX at hF; omega) (by decide)) ?_
      refine hx_elementOf (by omega) ?_
      exact hc_x54 (by omega) el l16 (fb_ix1 c) (by omega) e1 h
    · unfold wpY_cellOf
      dsimp only
      refine hy_nameOf (by omega) ?_
      refine hy_isIndexed (fun z => ?_) (fun _ => br_t rfl ?_)
      rotate_left
      · refine hy_idxOf (by omega) ?_
        exact hc_yad hu n8 (fb_ix1 c) i16 (hP u hu) e2 h
      exfalso
      obtain ⟨c', hc', e⟩ := z
      have := fa_inj (by omega) (by unfold fb_IX at hc'; omega) e
      unfold fb_FX at hF
      unfold fb_IX at hc'
      omega
  · have k8 : c % 100 < 8 := hI.2.2
    have c20 : 20000 ≤ c := hI.1
    obtain ⟨lk, lk1, lk16, elk⟩ := hD (u * 8 + c % 100) (by omega)
    obtain ⟨a0, b0, r0, e1, e2⟩ := fm_loc (i := 1) S Bd hu k8 (Nat.le_refl 1) (by rw [fa_Re elk (by omega)]; exact lk1) (hd1 _ k8)
    have e1' : ec ((u * 8 + c % 100) * 16) = nI a0 := e1
    have b512 := B.1 a0 b0 r0
    have ev := M a0 b0 r0
    have hX : ∀ (post : Int32 → SX → Prop), wX_findCell_54 post (nI (u * 8 + fb_nm c)) (cx a0) sc oc ne ns ca on st ra (nI u) xn xe xd al ap ac en eu ea eb sU sL sK sE sG sO gr po ec cx ou tc ss av cs → wpX_findCell post (sc, oc, ne, ns, ca, on, st, ra, nI u, xn, xe, xd, al, ap, ac, en, eu, ea, eb, sU, sL, sK, sE, sG, sO, gr, po, ec, cx, ou, tc, ss, av, cs) (nI c) := by
      intro post h
      unfold wpX_findCell
      dsimp only
      refine hx_slotOf (by omega) ?_
      refine br_f (nI_nlt (b := 20000) c20 (by omega)) ⟨by decide, nm_r (e' := nI (u * 8 + c % 100)) (by rw [ha_r100 (by omega), ha_us]) ?_⟩
      rw [ha_16, nI_clamp (by omega), e1', nI_clamp (by omega)]
      exact ⟨vp_in_nI (by omega) (by decide), vp_in_nI (by omega) (by decide), nm_e h⟩
    have hY : ∀ (post : Int32 → SY → Prop), ((cy b0 < 1 → post (-1) (sc, oc, ne, ns, ca, nc, on, yp, yu, 3, st, yl, yr, al, ap, cb, cn, ac, eu, ea, eb, sU, sL, sK, sE, sG, sO, kx, ky, kd, pl, rl, cm, hv, ba, ad, ex, cy, tc, ss, av, cs, bi, ou)) ∧ (¬ cy b0 < 1 → ((cy b0 ≤ al (u * 8 + fb_nm c) → wpY_addrOf (fun r => post r (sc, oc, ne, ns, ca, nc, on, yp, yu, ye, st, yl, yr, al, ap, cb, cn, ac, eu, ea, eb, sU, sL, sK, sE, sG, sO, kx, ky, kd, pl, rl, cm, hv, ba, ad, ex, cy, tc, ss, av, cs, bi, ou)) (sc, oc, ne, ns, ca, nc, on, yp, yu, ye, st, yl, yr, al, ap, cb, cn, ac, eu, ea, eb, sU, sL, sK, sE, sG, sO, kx, ky, kd, pl, rl, cm, hv, ba, ad, ex, cy, tc, ss, av, cs, bi, ou) (nI u) (nI (fb_nm c)) (cy b0)) ∧ (¬ cy b0 ≤ al (u * 8 + fb_nm c) → post (-1) (sc, oc, ne, ns, ca, nc, on, yp, yu, 3, st, yl, yr, al, ap, cb, cn, ac, eu, ea, eb, sU, sL, sK, sE, sG, sO, kx, ky, kd, pl, rl, cm, hv, ba, ad, ex, cy, tc, ss, av, cs, bi, ou))))) → wpY_cellOf post (sc, oc, ne, ns, ca, nc, on, yp, yu, ye, st, yl, yr, al, ap, cb, cn, ac, eu, ea, eb, sU, sL, sK, sE, sG, sO, kx, ky, kd, pl, rl, cm, hv, ba, ad, ex, cy, tc, ss, av, cs, bi, ou) (nI u) (nI c) := by
      intro post h
      unfold wpY_cellOf
      dsimp only
      refine hy_nameOf (by omega) ?_
      refine hy_isIndexed (fun _ => br_f (by decide) ⟨by decide, ?_⟩) (fun z => absurd ⟨c, hI, rfl⟩ z)
      rw [ha_r100 (by omega)]
      refine hc_yad (i := 1) hu k8 (Nat.le_refl 1) (by omega) (hP u hu) e2 ?_
      refine hc_get b512.2 ?_
      refine hy_effLen hu n8 (hP u hu) ?_
      have eq : (if fb_nm c < fa_N ap u then (1 : Int32) else al (u * 8 + fb_nm c)) = al (u * 8 + fb_nm c) := by
        split
        · exact (hc_dum hd hu n8 (by assumption)).symm
        · rfl
      rw [eq]
      exact h
    rw [el] at hY
    rcases hc_v (v := cx a0) l16 with hv | hv | ⟨i, i1, i2, hv⟩
    · left
      refine ⟨fun post h => hX post (hc_x54b (by omega) el (Or.inl hv) h), fun post h => hY post ?_⟩
      rw [← ev]
      exact br_t hv h
    · left
      refine ⟨fun post h => hX post (hc_x54b (by omega) el (Or.inr hv) h), fun post h => hY post ?_⟩
      rw [← ev]
      exact br_f hv.1 (br_f hv.2 h)
    · right
      obtain ⟨a, b, r, f1, f2⟩ := fm_loc S Bd hu n8 i1 (by omega) (hd1 _ n8)
      refine ⟨a, b, r, fun post h => hX post ?_, fun post h => hY post ?_⟩
      · rw [hv]
        exact hc_x54 (by omega) el l16 i1 i2 f1 h
      · rw [← ev, hv]
        exact br_f (nI_nlt (b := 1) i1 (by omega)) (br_t (nI_le i2 (by omega)) (hc_yad hu n8 i1 (by omega) (hP u hu) f2 h))
theorem hc_read (H : hc_St RC al ap ec ad bi cx cy u) (hs : s < 64) (hp : p < 5) (e : sO (s * 5 + p) = nI c) (hc : c < 10000 ∨ (fb_FX c ∧ fb_ix c ≤ fa_N al (u * 8 + fb_nm c)) ∨ fb_IX c) :
    ((∀ post : Int32 → SX → Prop, post 0 (sc, oc, ne, ns, ca, on, st, 3, nI u, xn, xe, xd, al, ap, ac, en, eu, ea, eb, sU, sL, sK, sE, sG, sO, gr, po, ec, cx, ou, tc, ss, av, cs) → wpX_readOperand post (sc, oc, ne, ns, ca, on, st, ra, nI u, xn, xe, xd, al, ap, ac, en, eu, ea, eb, sU, sL, sK, sE, sG, sO, gr, po, ec, cx, ou, tc, ss, av, cs) (nI s) (nI p)) ∧ (∀ post : Int32 → SY → Prop, post 0 (sc, oc, ne, ns, ca, nc, on, yp, yu, 3, st, yl, yr, al, ap, cb, cn, ac, eu, ea, eb, sU, sL, sK, sE, sG, sO, kx, ky, kd, pl, rl, cm, hv, ba, ad, ex, cy, tc, ss, av, cs, bi, ou) → wpY_val post (sc, oc, ne, ns, ca, nc, on, yp, yu, 0, st, yl, yr, al, ap, cb, cn, ac, eu, ea, eb, sU, sL, sK, sE, sG, sO, kx, ky, kd, pl, rl, cm, hv, ba, ad, ex, cy, tc, ss, av, cs, bi, ou) (nI u) (nI c))) ∨
    ∃ v, (∀ post : Int32 → SX → Prop, post v (sc, oc, ne, ns, ca, on, st, ra, nI u, xn, xe, xd, al, ap, ac, en, eu, ea, eb, sU, sL, sK, sE, sG, sO, gr, po, ec, cx, ou, tc, ss, av, cs) → wpX_readOperand post (sc, oc, ne, ns, ca, on, st, ra, nI u, xn, xe, xd, al, ap, ac, en, eu, ea, eb, sU, sL, sK, sE, sG, sO, gr, po, ec, cx, ou, tc, ss, av, cs) (nI s) (nI p)) ∧ (∀ post : Int32 → SY → Prop, post v (sc, oc, ne, ns, ca, nc, on, yp, yu, 0, st, yl, yr, al, ap, cb, cn, ac, eu, ea, eb, sU, sL, sK, sE, sG, sO, kx, ky, kd, pl, rl, cm, hv, ba, ad, ex, cy, tc, ss, av, cs, bi, ou) → wpY_val post (sc, oc, ne, ns, ca, nc, on, yp, yu, 0, st, yl, yr, al, ap, cb, cn, ac, eu, ea, eb, sU, sL, sK, sE, sG, sO, kx, ky, kd, pl, rl, cm, hv, ba, ad, ex, cy, tc, ss, av, cs, bi, ou) (nI u) (nI c)) := by
  by_cases h1 : c < 10000
  · right
    refine ⟨nI c, fun post h => ?_, fun post h => ?_⟩
    · unfold wpX_readOperand
      dsimp only
      rw [ha_5, nI_clamp (by omega), e]
      exact ⟨vp_in_nI (by omega) (by decide), nm_e (br_f (nI_ge (b := 10000) h1 (by decide)) h)⟩
    · unfold wpY_val
      dsimp only
      exact br_f (nI_pos (by omega)) (br_f (nI_nlt (a := 9999) (by omega) (by decide)) h)
  · have hc' : (fb_FX c ∧ fb_ix c ≤ fa_N al (u * 8 + fb_nm c)) ∨ fb_IX c := by
      rcases hc with h | h
      · exact absurd h h1
      · exact h
    have hcl : c < 30000 := by
      rcases hc' with ⟨h, _⟩ | h
      · unfold fb_FX at h; omega
      · unfold fb_IX at h; omega
    rcases hc_cell (c := c) (sc := sc) (oc := oc) (ne := ne) (ns := ns) (ca := ca) (on := on) (st := st) (ra := ra) (xn := xn) (xe := xe) (xd := xd) (nc := nc) (yp := yp) (yl := yl) (yr := yr) (en := en) (eu := eu) (ea := ea) (eb := eb) (ac := ac) (sU := sU) (sL := sL) (sK := sK) (sE := sE) (sG := sG) (sO := sO) (gr := gr) (po := po) (ou := ou) (tc := tc) (ss := ss) (av := av) (cs := cs) (cb := cb) (cn := cn) (kx := kx) (ky := ky) (kd := kd) (pl := pl) (rl := rl) (cm := cm) (hv := hv) (ba := ba) (ex := ex) (ye := 0) (yu := yu) H hc' with ⟨fx, fy⟩ | ⟨a, b, r, fx, fy⟩
    · left
      refine ⟨fun post h => ?_, fun post h => ?_⟩
      · unfold wpX_readOperand
        dsimp only
        rw [ha_5, nI_clamp (by omega), e]
        exact ⟨vp_in_nI (by omega) (by decide), nm_e (br_t (nI_le (a := 10000) (by omega) (by omega)) (fx _ (br_t rfl h)))⟩
      · unfold wpY_val
        dsimp only
        refine br_f (nI_pos (by omega)) (br_t (nI_lt (a := 9999) (by omega) (by omega)) ?_)
        unfold wY_val_13
        exact fy _ (br_f (by decide) h)
    · right
      have b512 := H.1.1 a b r
      refine ⟨cx a, fun post h => ?_, fun post h => ?_⟩
      · unfold wpX_readOperand
        dsimp only
        rw [ha_5, nI_clamp (by omega), e]
        refine ⟨vp_in_nI (by omega) (by decide), nm_e (br_t (nI_le (a := 10000) (by omega) (by omega)) (fx _ (br_f (fa_m1 (by omega)) ⟨vp_in_nI (by omega) (by decide), ?_⟩)))⟩
        rw [nI_clamp (by omega)]
        exact h
      · unfold wpY_val
        dsimp only
        refine br_f (nI_pos (by omega)) (br_t (nI_lt (a := 9999) (by omega) (by omega)) ?_)
        unfold wY_val_13
        refine fy _ (br_t rfl ?_)
        refine hc_get b512.2 ?_
        rw [← H.2.2.1 a b r]
        exact h
end HCE
end
section
section HEN
/-! end processing, on both sides at once -/
variable {sc oc ne ns ca on st ra xu xn xe xd nc yp yu ye yl yr : Int32} {al ap ac en eu ea eb sU sL sK sE sG sO gr po ec cx ou tc ss av cs cb cn kx ky kd pl rl cm hv ba ad ex cy bi : Nat → Int32}
variable {RC : Nat → Nat → Prop} {u n t s : Nat}
theorem hx_ended {post : Int32 → Prop} (hs : s < 64) (ht : t < 64) (h1 : sK s = 4 → sU s = sU t → sO (s * 5) = sL t → post 1) (h0 : ¬ (sK s = 4 ∧ sU s = sU t ∧ sO (s * 5) = sL t) → post 0) : wpX_isLoopEndedBy post (sc, oc, ne, ns, ca, on, st, ra, xu, xn, xe, xd, al, ap, ac, en, eu, ea, eb, sU, sL, sK, sE, sG, sO, gr, po, ec, cx, ou, tc, ss, av, cs) (nI s) (nI t) := by
  have vs : vp_in (nI s) 64 := vp_in_nI hs (by decide)
  have vt : vp_in (nI t) 64 := vp_in_nI ht (by decide)
  refine ⟨vs, ?_⟩
  rw [nI_clamp (by omega)]
  refine br_c (fun a => ⟨vs, vt, ?_⟩) (fun a => br_t rfl (h0 fun z => a z.1))
  rw [nI_clamp (by omega)]
  refine br_c (fun b => br_f (by decide) ?_) (fun b => br_t rfl (h0 fun z => b z.2.1))
  rw [ha_50, nI_clamp (by omega), nI_clamp (by omega)]
  exact ⟨vp_in_nI (by omega) (by decide), vt, br_c (fun c => h1 a b c) (fun c => h0 fun z => c z.2.2)⟩
/-- the class alone, where no DO is ended -/
theorem he_x0 {post : SX → Prop} (hn : n ≤ 64) (ht : t < n) (no : ∀ s, s < n → ¬ (sK s = 4 ∧ sU s = sU t ∧ sO (s * 5) = sL t))
    (h : post (sc, oc, ne, nI n, ca, on, st, 0, nI u, nI (fb_nx sU (nI u) (n - (t + 1)) (t + 1)), xe, xd, al, ap, ac, en, eu, ea, eb, sU, sL, sK, sE, sG, sO, gr, po, ec, cx, ou, tc, ss, av, cs)) : ∀ d, d ≤ n → wX_processEnd_17 post (nI t) (d + 1) (nI d - 1) sc oc ne (nI n) ca on st 0 (nI u) xn xe xd al ap ac en eu ea eb sU sL sK sE sG sO gr po ec cx ou tc ss av cs := by
  intro d
  induction d with
  | zero =>
    intro _
    refine br_t (by decide) ?_
    rw [nI_1]
    exact hx_next hn (by omega) h
  | succ d ih =>
    intro hd
    rw [nI_pred]
    refine br_f (nI_pos (by omega)) (hx_ended (by omega) (by omega) (fun a b c => absurd ⟨a, b, c⟩ (no d (by omega))) (fun _ => br_t rfl (nm_r (e' := nI d - 1) (by rw [Int32.sub_eq_add_neg]) (ih (by omega)))))
/-- facts of a compiled program that a run leans on -/
def hr_W (n : Nat) (al ap sU sL sK sE sG sO : Nat → Int32) : Prop := n ≤ 64 ∧ fs_S n sU sL sK sE sG sO True ∧ fs_C n al ap sU sL sK sE sG sO
theorem hr_full (W : hr_W n al ap sU sL sK sE sG sO) (hs : s < n) : fa_N sG s = fb_need (fa_N sK s) (fa_N sE s) := (ha_V (W.2.1 s hs)).2.2.2.2.2.1 (Or.inr trivial)
/-- a variable operand of statement s is good in its unit -/
theorem hr_var (W : hr_W n al ap sU sL sK sE sG sO) (hs : s < n) {p : Nat} (hp : p < fa_N sG s) (hk : fb_pl (fa_N sK s) p = 1) (hu : sU s = nI u) (hu4 : u < 4) :
    ∃ c, sO (s * 5 + p) = nI c ∧ ((fb_FX c ∧ fb_ix c ≤ fa_N al (u * 8 + fb_nm c)) ∨ fb_IX c) := by
  obtain ⟨c, e, a⟩ := (ha_V (W.2.1 s hs)).2.2.2.2.2.2 p hp
  refine ⟨c, e, ?_⟩
  rw [hk] at a
  unfold fb_al at a
  rcases a with a | ⟨_, a | a⟩ | a
  · omega
  · have := W.2.2.2.1 s p c hs hp e a
    rw [fa_Re hu (by omega)] at this
    exact Or.inl ⟨a, this⟩
  · exact Or.inr a
  · omega
theorem hr_val (W : hr_W n al ap sU sL sK sE sG sO) (hs : s < n) {p : Nat} (hp : p < fa_N sG s) (hk : fb_pl (fa_N sK s) p = 0) (hu : sU s = nI u) (hu4 : u < 4) :
    ∃ c, sO (s * 5 + p) = nI c ∧ (c < 10000 ∨ (fb_FX c ∧ fb_ix c ≤ fa_N al (u * 8 + fb_nm c)) ∨ fb_IX c) := by
  obtain ⟨c, e, a⟩ := (ha_V (W.2.1 s hs)).2.2.2.2.2.2 p hp
  refine ⟨c, e, ?_⟩
  rw [hk] at a
  unfold fb_al at a
  rcases a with a | a | ⟨_, a | a | a⟩
  · omega
  · omega
  · exact Or.inl a
  · have := W.2.2.2.1 s p c hs hp e a
    rw [fa_Re hu (by omega)] at this
    exact Or.inr (Or.inl ⟨a, this⟩)
  · exact Or.inr (Or.inr a)
theorem hr_lab (W : hr_W n al ap sU sL sK sE sG sO) (hs : s < n) {p : Nat} (hp : p < fa_N sG s) (hk : fb_pl (fa_N sK s) p = 2) :
    (∃ c, sO (s * 5 + p) = nI c ∧ c < 10000) ∧ ∃ t, t < n ∧ fb_FL sU sL n (sU s) (sO (s * 5 + p)) = nI t ∧ sU t = sU s ∧ sL t = sO (s * 5 + p) ∧ sO (s * 5 + p) ≠ 0 := by
  constructor
  · obtain ⟨c, e, a⟩ := (ha_V (W.2.1 s hs)).2.2.2.2.2.2 p hp
    rw [hk] at a
    unfold fb_al at a
    exact ⟨c, e, by omega⟩
  · obtain ⟨t, a, b, c, d, f⟩ := hs_FL (W.2.2.2.2.1 s p hs hp hk)
    exact ⟨t, a, b, c, d, f⟩
theorem hc_putSt {a b : Nat} {v : Int32} (H : hc_St RC al ap ec ad bi cx cy u) (r : RC a b) : hc_St RC al ap ec ad bi (upd cx a v) (upd cy b v) u :=
  ⟨H.1, H.2.1, fm_put H.1 H.2.2.1 r, H.2.2.2⟩
theorem he_loop {lb : Nat} (W : hr_W n al ap sU sL sK sE sG sO) (ht : t < n) (hut : sU t = nI u) (hlt : sL t = nI lb) (hu4 : u < 4) : ∀ d, d ≤ n → ∀ (cx cy tc : Nat → Int32), hc_St RC al ap ec ad bi cx cy u →
    (∃ cx' cy' tc', hc_St RC al ap ec ad bi cx' cy' u ∧ (∀ post : SX → Prop, post (sc, oc, ne, nI n, ca, on, st, 3, nI u, xn, xe, xd, al, ap, ac, en, eu, ea, eb, sU, sL, sK, sE, sG, sO, gr, po, ec, cx', ou, tc', ss, av, cs) → wX_processEnd_17 post (nI t) (d + 1) (nI d - 1) sc oc ne (nI n) ca on st 0 (nI u) xn xe xd al ap ac en eu ea eb sU sL sK sE sG sO gr po ec cx ou tc ss av cs) ∧ (∀ post : Int32 → SY → Prop, post 3 (sc, oc, ne, nI n, ca, nc, on, yp, nI u, 3, st, yl, yr, al, ap, cb, cn, ac, eu, ea, eb, sU, sL, sK, sE, sG, sO, kx, ky, kd, pl, rl, cm, hv, ba, ad, ex, cy', tc', ss, av, cs, bi, ou) → wY_endProc_26 post (nI t) (nI u) (nI lb) (d + 1) (nI d - 1) sc oc ne (nI n) ca nc on yp (nI u) 0 st yl yr al ap cb cn ac eu ea eb sU sL sK sE sG sO kx ky kd pl rl cm hv ba ad ex cy tc ss av cs bi ou)) ∨
    (∃ cx' cy' tc' p, hc_St RC al ap ec ad bi cx' cy' u ∧ p ≤ n ∧ (p < n → sU p = nI u) ∧ (∀ post : SX → Prop, post (sc, oc, ne, nI n, ca, on, st, 0, nI u, nI p, xe, xd, al, ap, ac, en, eu, ea, eb, sU, sL, sK, sE, sG, sO, gr, po, ec, cx', ou, tc', ss, av, cs) → wX_processEnd_17 post (nI t) (d + 1) (nI d - 1) sc oc ne (nI n) ca on st 0 (nI u) xn xe xd al ap ac en eu ea eb sU sL sK sE sG sO gr po ec cx ou tc ss av cs) ∧ (∀ post : Int32 → SY → Prop, post 0 (sc, oc, ne, nI n, ca, nc, on, fb_pc n p, nI u, 0, st, yl, yr, al, ap, cb, cn, ac, eu, ea, eb, sU, sL, sK, sE, sG, sO, kx, ky, kd, pl, rl, cm, hv, ba, ad, ex, cy', tc', ss, av, cs, bi, ou) → wY_endProc_26 post (nI t) (nI u) (nI lb) (d + 1) (nI d - 1) sc oc ne (nI n) ca nc on yp (nI u) 0 st yl yr al ap cb cn ac eu ea eb sU sL sK sE sG sO kx ky kd pl rl cm hv ba ad ex cy tc ss av cs bi ou)) := by
  have hn := W.1
  intro d
  induction d with
  | zero =>
    intro _ cx cy tc H
    right
    have q := fb_nx_in sU (nI u) (n - (t + 1)) (t + 1)
    refine ⟨cx, cy, tc, fb_nx sU (nI u) (n - (t + 1)) (t + 1), H, by omega, fun z => q.2.2 (by omega), fun post h => br_t (by decide) ?_, fun post h => br_t (by decide) (hy_next hn ht ?_)⟩
    · rw [nI_1]
      exact hx_next hn (by omega) h
    · rw [hut]
      exact h
  | succ d ih =>
    intro hd cx cy tc H
    have hdn : d < n := by omega
    have vd : vp_in (nI d) 64 := vp_in_nI (by omega) (by decide)
    rw [nI_pred]
    have back : nI d + (-1) = nI d - 1 := by rw [Int32.sub_eq_add_neg]
    by_cases m : sK d = 4 ∧ sU d = sU t ∧ sO (d * 5) = sL t
    · obtain ⟨m1, m2, m3⟩ := m
      have hud : sU d = nI u := m2.trans hut
      have k4 : fa_N sK d = 4 := fa_Re m1 (by decide)
      have full := hr_full W hdn
      rw [k4] at full
      have g5 : fa_N sG d = 5 := full
      obtain ⟨c, ec1, hc⟩ := hr_var (p := 1) W hdn (by omega) (by rw [k4]; rfl) hud hu4
      have e51 : nI d * 5 + 1 = nI (d * 5 + 1) := ha_5 (n := 1)
      have v51 : vp_in (nI (d * 5 + 1)) 320 := vp_in_nI (by omega) (by decide)
      rcases hc_cell (c := c) (sc := sc) (oc := oc) (ne := ne) (ca := ca) (on := on) (st := st) (xn := xn) (xe := xe) (xd := xd) (nc := nc) (yp := yp) (yl := yl) (yr := yr) (en := en) (eu := eu) (ea := ea) (eb := eb) (ac := ac) (sU := sU) (sL := sL) (sK := sK) (sE := sE) (sG := sG) (sO := sO) (gr := gr) (po := po) (ou := ou) (tc := tc) (ss := ss) (av := av) (cs := cs) (cb := cb) (cn := cn) (kx := kx) (ky := ky) (kd := kd) (pl := pl) (rl := rl) (cm := cm) (hv := hv) (ba := ba) (ex := ex) (ns := nI n) (ra := 0) (ye := 0) (yu := nI u) H hc with ⟨fx, fy⟩ | ⟨a, b, r, fx, fy⟩
      · left
        refine ⟨cx, cy, tc, H, fun post h => ?_, fun post h => ?_⟩
        · refine br_f (nI_pos (by omega)) (hx_ended (by omega) (by omega) (fun _ _ _ => br_f (by decide) ?_) (fun z => absurd ⟨m1, m2, m3⟩ z))
          rw [e51, nI_clamp (n := d * 5 + 1) (by omega), ec1]
          exact ⟨v51, fx _ (br_t rfl h)⟩
        · refine br_f (nI_pos (by omega)) ⟨vd, ?_⟩
          rw [nI_clamp (by omega)]
          refine br_t hud ⟨vd, br_t m1 ?_⟩
          rw [ha_50, nI_clamp (by omega)]
          refine ⟨vp_in_nI (by omega) (by decide), br_t (m3.trans hlt) ?_⟩
          rw [show nI (d * 5) + 1 = nI (d * 5 + 1) from nI_1 _, nI_clamp (by omega), ec1]
          exact ⟨v51, fy _ (br_f (by decide) h)⟩
      · have ab := H.1.1 a b r
        have va : vp_in (nI a) 512 := vp_in_nI ab.1 (by decide)
        have eab := H.2.2.1 a b r
        have H' : hc_St RC al ap ec ad bi (upd cx a (cx a + ss d)) (upd cy b (cy b + ss d)) u := by
          rw [eab]
          exact hc_putSt H r
        have X1 : ∀ post : SX → Prop, ((tc d - 1 ≤ 0 → wX_processEnd_17 post (nI t) (d + 1) (nI d - 1) sc oc ne (nI n) ca on st 0 (nI u) xn xe xd al ap ac en eu ea eb sU sL sK sE sG sO gr po ec (upd cx a (cx a + ss d)) ou (upd tc d (tc d - 1)) ss av cs) ∧ (¬ tc d - 1 ≤ 0 → post (sc, oc, ne, nI n, ca, on, st, 0, nI u, nI (fb_nx sU (nI u) (n - (d + 1)) (d + 1)), xe, xd, al, ap, ac, en, eu, ea, eb, sU, sL, sK, sE, sG, sO, gr, po, ec, upd cx a (cx a + ss d), ou, upd tc d (tc d - 1), ss, av, cs))) → wX_processEnd_17 post (nI t) (d + 1 + 1) (nI d) sc oc ne (nI n) ca on st 0 (nI u) xn xe xd al ap ac en eu ea eb sU sL sK sE sG sO gr po ec cx ou tc ss av cs := by
          intro post h
          refine br_f (nI_pos (by omega)) (hx_ended (by omega) (by omega) (fun _ _ _ => br_f (by decide) ?_) (fun z => absurd ⟨m1, m2, m3⟩ z))
          rw [e51, nI_clamp (n := d * 5 + 1) (by omega), ec1]
          refine ⟨v51, fx _ (br_f (fa_m1 (by omega)) ⟨va, vd, va, ?_⟩)⟩
          rw [nI_clamp (by omega), nI_clamp (by omega)]
          refine nm_e ⟨vd, vd, nm_e ⟨vd, ?_⟩⟩
          rw [pk_us]
          refine br_c (fun z => nm_r back (h.1 z)) (fun z => ?_)
          rw [nI_1]
          exact hx_next hn (by omega) (h.2 z)
        have Y1 : ∀ post : Int32 → SY → Prop, ((tc d - 1 ≤ 0 → wY_endProc_26 post (nI t) (nI u) (nI lb) (d + 1) (nI d - 1) sc oc ne (nI n) ca nc on yp (nI u) 0 st yl yr al ap cb cn ac eu ea eb sU sL sK sE sG sO kx ky kd pl rl cm hv ba ad ex (upd cy b (cy b + ss d)) (upd tc d (tc d - 1)) ss av cs bi ou) ∧ (¬ tc d - 1 ≤ 0 → post 0 (sc, oc, ne, nI n, ca, nc, on, fb_pc n (fb_nx sU (nI u) (n - (d + 1)) (d + 1)), nI u, 0, st, yl, yr, al, ap, cb, cn, ac, eu, ea, eb, sU, sL, sK, sE, sG, sO, kx, ky, kd, pl, rl, cm, hv, ba, ad, ex, upd cy b (cy b + ss d), upd tc d (tc d - 1), ss, av, cs, bi, ou))) → wY_endProc_26 post (nI t) (nI u) (nI lb) (d + 1 + 1) (nI d) sc oc ne (nI n) ca nc on yp (nI u) 0 st yl yr al ap cb cn ac eu ea eb sU sL sK sE sG sO kx ky kd pl rl cm hv ba ad ex cy tc ss av cs bi ou := by
          intro post h
          refine br_f (nI_pos (by omega)) ⟨vd, ?_⟩
          rw [nI_clamp (by omega)]
          refine br_t hud ⟨vd, br_t m1 ?_⟩
          rw [ha_50, nI_clamp (by omega)]
          refine ⟨vp_in_nI (by omega) (by decide), br_t (m3.trans hlt) ?_⟩
          rw [show nI (d * 5) + 1 = nI (d * 5 + 1) from nI_1 _, nI_clamp (by omega), ec1]
          refine ⟨v51, fy _ (br_t rfl (hc_get ab.2 ⟨vd, hc_put ab.2 ⟨vd, vd, ?_⟩⟩))⟩
          refine nm_e ⟨vd, ?_⟩
          rw [pk_us]
          refine br_c (fun z => nm_r back (h.1 z)) (fun z => hy_next hn hdn ?_)
          rw [hud]
          exact h.2 z
        by_cases z : tc d - 1 ≤ 0
        · rcases ih (by omega) _ _ (upd tc d (tc d - 1)) H' with ⟨cx', cy', tc', G, gx, gy⟩ | ⟨cx', cy', tc', p, G, p1, p2, gx, gy⟩
          · exact Or.inl ⟨cx', cy', tc', G, fun post h => X1 post (br_t z (gx post h)), fun post h => Y1 post (br_t z (gy post h))⟩
          · exact Or.inr ⟨cx', cy', tc', p, G, p1, p2, fun post h => X1 post (br_t z (gx post h)), fun post h => Y1 post (br_t z (gy post h))⟩
        · have q := fb_nx_in sU (nI u) (n - (d + 1)) (d + 1)
          exact Or.inr ⟨_, _, upd tc d (tc d - 1), fb_nx sU (nI u) (n - (d + 1)) (d + 1), H', by omega, fun w => q.2.2 (by omega), fun post h => X1 post (br_f z h), fun post h => Y1 post (br_f z h)⟩
    · have X0 : ∀ post : SX → Prop, wX_processEnd_17 post (nI t) (d + 1) (nI d - 1) sc oc ne (nI n) ca on st 0 (nI u) xn xe xd al ap ac en eu ea eb sU sL sK sE sG sO gr po ec cx ou tc ss av cs → wX_processEnd_17 post (nI t) (d + 1 + 1) (nI d) sc oc ne (nI n) ca on st 0 (nI u) xn xe xd al ap ac en eu ea eb sU sL sK sE sG sO gr po ec cx ou tc ss av cs := fun post h =>
        br_f (nI_pos (by omega)) (hx_ended (by omega) (by omega) (fun a b c => absurd ⟨a, b, c⟩ m) (fun _ => br_t rfl (nm_r back h)))
      have Y0 : ∀ post : Int32 → SY → Prop, wY_endProc_26 post (nI t) (nI u) (nI lb) (d + 1) (nI d - 1) sc oc ne (nI n) ca nc on yp (nI u) 0 st yl yr al ap cb cn ac eu ea eb sU sL sK sE sG sO kx ky kd pl rl cm hv ba ad ex cy tc ss av cs bi ou → wY_endProc_26 post (nI t) (nI u) (nI lb) (d + 1 + 1) (nI d) sc oc ne (nI n) ca nc on yp (nI u) 0 st yl yr al ap cb cn ac eu ea eb sU sL sK sE sG sO kx ky kd pl rl cm hv ba ad ex cy tc ss av cs bi ou := by
        intro post h
        refine br_f (nI_pos (by omega)) ⟨vd, ?_⟩
        rw [nI_clamp (by omega)]
        refine br_c (fun a => ⟨vd, br_c (fun b => ?_) (fun b => nm_r back h)⟩) (fun a => nm_r back h)
        rw [ha_50, nI_clamp (by omega)]
        exact ⟨vp_in_nI (by omega) (by decide), br_c (fun c => absurd ⟨b, a.trans hut.symm, c.trans hlt.symm⟩ m) (fun c => nm_r back h)⟩
      rcases ih (by omega) cx cy tc H with ⟨cx', cy', tc', G, gx, gy⟩ | ⟨cx', cy', tc', p, G, p1, p2, gx, gy⟩
      · exact Or.inl ⟨cx', cy', tc', G, fun post h => X0 post (gx post h), fun post h => Y0 post (gy post h)⟩
      · exact Or.inr ⟨cx', cy', tc', p, G, p1, p2, fun post h => X0 post (gx post h), fun post h => Y0 post (gy post h)⟩
/-- end processing of statement t for the DOs before q -/
theorem he_both {q : Nat} (W : hr_W n al ap sU sL sK sE sG sO) (ht : t < n) (hq : q ≤ n) (hut : sU t = nI u) (H : hc_St RC al ap ec ad bi cx cy u) :
    (∃ cx' cy' tc', hc_St RC al ap ec ad bi cx' cy' u ∧ (∀ post : SX → Prop, post (sc, oc, ne, nI n, ca, on, st, 3, nI u, xn, -1, nI q, al, ap, ac, en, eu, ea, eb, sU, sL, sK, sE, sG, sO, gr, po, ec, cx', ou, tc', ss, av, cs) → wpX_processEnd post (sc, oc, ne, nI n, ca, on, st, 0, nI u, xn, nI t, nI q, al, ap, ac, en, eu, ea, eb, sU, sL, sK, sE, sG, sO, gr, po, ec, cx, ou, tc, ss, av, cs)) ∧ (∀ post : Int32 → SY → Prop, post 3 (sc, oc, ne, nI n, ca, nc, on, yp, nI u, 3, st, yl, yr, al, ap, cb, cn, ac, eu, ea, eb, sU, sL, sK, sE, sG, sO, kx, ky, kd, pl, rl, cm, hv, ba, ad, ex, cy', tc', ss, av, cs, bi, ou) → wpY_endProc post (sc, oc, ne, nI n, ca, nc, on, yp, nI u, 0, st, yl, yr, al, ap, cb, cn, ac, eu, ea, eb, sU, sL, sK, sE, sG, sO, kx, ky, kd, pl, rl, cm, hv, ba, ad, ex, cy, tc, ss, av, cs, bi, ou) (nI t) (nI q))) ∨
    (∃ cx' cy' tc' p, hc_St RC al ap ec ad bi cx' cy' u ∧ p ≤ n ∧ (p < n → sU p = nI u) ∧ (∀ post : SX → Prop, post (sc, oc, ne, nI n, ca, on, st, 0, nI u, nI p, -1, nI q, al, ap, ac, en, eu, ea, eb, sU, sL, sK, sE, sG, sO, gr, po, ec, cx', ou, tc', ss, av, cs) → wpX_processEnd post (sc, oc, ne, nI n, ca, on, st, 0, nI u, xn, nI t, nI q, al, ap, ac, en, eu, ea, eb, sU, sL, sK, sE, sG, sO, gr, po, ec, cx, ou, tc, ss, av, cs)) ∧ (∀ post : Int32 → SY → Prop, post 0 (sc, oc, ne, nI n, ca, nc, on, fb_pc n p, nI u, 0, st, yl, yr, al, ap, cb, cn, ac, eu, ea, eb, sU, sL, sK, sE, sG, sO, kx, ky, kd, pl, rl, cm, hv, ba, ad, ex, cy', tc', ss, av, cs, bi, ou) → wpY_endProc post (sc, oc, ne, nI n, ca, nc, on, yp, nI u, 0, st, yl, yr, al, ap, cb, cn, ac, eu, ea, eb, sU, sL, sK, sE, sG, sO, kx, ky, kd, pl, rl, cm, hv, ba, ad, ex, cy, tc, ss, av, cs, bi, ou) (nI t) (nI q))) := by
  have hn := W.1
  have hu4 := H.2.2.2.2.1
  obtain ⟨_, _, _, _, ⟨hl1, hl2⟩, _⟩ := ha_V (W.2.1 t ht)
  have vt : vp_in (nI t) 64 := vp_in_nI (by omega) (by decide)
  have Yh : ∀ post : Int32 → SY → Prop, ((fa_N sL t < 1 → wY_endProc_165 post (nI t) sc oc ne (nI n) ca nc on yp (nI u) 0 st yl yr al ap cb cn ac eu ea eb sU sL sK sE sG sO kx ky kd pl rl cm hv ba ad ex cy tc ss av cs bi ou) ∧ (1 ≤ fa_N sL t → ∃ k, wY_endProc_26 post (nI t) (nI u) (nI (fa_N sL t)) k (nI q - 1) sc oc ne (nI n) ca nc on yp (nI u) 0 st yl yr al ap cb cn ac eu ea eb sU sL sK sE sG sO kx ky kd pl rl cm hv ba ad ex cy tc ss av cs bi ou)) → wpY_endProc post (sc, oc, ne, nI n, ca, nc, on, yp, nI u, 0, st, yl, yr, al, ap, cb, cn, ac, eu, ea, eb, sU, sL, sK, sE, sG, sO, kx, ky, kd, pl, rl, cm, hv, ba, ad, ex, cy, tc, ss, av, cs, bi, ou) (nI t) (nI q) := by
    intro post h
    unfold wpY_endProc
    dsimp only
    rw [nI_clamp (by omega), hut]
    refine ⟨vt, nm_e ⟨vt, nm_r hl1 (pk_lt (fa_N sL t) 1 h.1 (fun z => nm_e (h.2 z)))⟩⟩
  by_cases z : fa_N sL t < 1
  · right
    have qn := fb_nx_in sU (nI u) (n - (t + 1)) (t + 1)
    refine ⟨cx, cy, tc, fb_nx sU (nI u) (n - (t + 1)) (t + 1), H, by omega, fun w => qn.2.2 (by omega), fun post h => ?_, fun post h => Yh post ⟨fun _ => hy_next hn ht (by rw [hut]; exact h), fun w => by omega⟩⟩
    refine nm_e ⟨q + 1, he_x0 hn ht ?_ h q hq⟩
    rintro s hs ⟨m1, m2, m3⟩
    have k4 : fa_N sK s = 4 := fa_Re m1 (by decide)
    have full := hr_full W hs
    rw [k4] at full
    have g5 : fa_N sG s = 5 := full
    obtain ⟨_, t', _, _, _, _, ne0⟩ := hr_lab (p := 0) W hs (by omega) (by rw [k4]; rfl)
    have e0 : fa_N sL t = 0 := by omega
    rw [e0] at hl1
    exact ne0 (m3.trans hl1)
  · rcases he_loop (xe := -1) (xd := nI q) (sc := sc) (oc := oc) (ne := ne) (ca := ca) (on := on) (st := st) (xn := xn) (nc := nc) (yp := yp) (yl := yl) (yr := yr) (en := en) (eu := eu) (ea := ea) (eb := eb) (ac := ac) (gr := gr) (po := po) (ou := ou) (ss := ss) (av := av) (cs := cs) (cb := cb) (cn := cn) (kx := kx) (ky := ky) (kd := kd) (pl := pl) (rl := rl) (cm := cm) (hv := hv) (ba := ba) (ex := ex) W ht hut hl1 hu4 q hq cx cy tc H with ⟨cx', cy', tc', G, gx, gy⟩ | ⟨cx', cy', tc', p, G, p1, p2, gx, gy⟩
    · exact Or.inl ⟨cx', cy', tc', G, fun post h => nm_e ⟨q + 1, gx post h⟩, fun post h => Yh post ⟨fun w => absurd w z, fun _ => ⟨q + 1, gy post h⟩⟩⟩
    · exact Or.inr ⟨cx', cy', tc', p, G, p1, p2, fun post h => nm_e ⟨q + 1, gx post h⟩, fun post h => Yh post ⟨fun w => absurd w z, fun _ => ⟨q + 1, gy post h⟩⟩⟩
end HEN
end
section
section HEX
/-! one statement, on both sides at once; what may come of it is told by continuations into one goal -/
variable {sc oc ne ns ca on st ra xu xn xe xd nc yp yu ye yl yr : Int32} {al ap ac en eu ea eb sU sL sK sE sG sO gr po ec cx ou tc ss av cs cb cn kx ky kd pl rl cm hv ba ad ex cy bi : Nat → Int32}
variable {RC : Nat → Nat → Prop} {u n t s : Nat} {Goal : Prop}
def fb_op (e : Nat) (x y : Int32) : Int32 := if e = 0 then x + y else if e = 1 then x - y else if e = 2 then x * y else x / y
theorem hx_combine {post : Int32 → Prop} {e : Nat} {x y : Int32} (he : e ≤ 3) (hy : e = 3 → ¬ y = 0) (h : post (fb_op e x y)) : wpX_combine post (nI e) x y := by
  have c : e = 0 ∨ e = 1 ∨ e = 2 ∨ e = 3 := by omega
  rcases c with rfl | rfl | rfl | rfl
  · exact br_f (by decide) (br_f (by decide) (br_t (by decide) h))
  · exact br_f (by decide) (br_f (by decide) (br_f (by decide) (br_t (by decide) h)))
  · exact br_f (by decide) (br_f (by decide) (br_f (by decide) (br_f (by decide) (br_t (by decide) h))))
  · exact br_f (by decide) (br_t (by decide) (br_f (hy rfl) ⟨hy rfl, h⟩))
theorem ex_xk {P : SX → Prop} (hs : s < 64) {k : Nat} (k1 : 1 ≤ k) (k9 : k ≤ 9) (ek : sK s = nI k)
    (h : (k = 1 → wpX_executeAssign P (sc, oc, ne, ns, ca, on, st, ra, xu, xn, xe, xd, al, ap, ac, en, eu, ea, eb, sU, sL, sK, sE, sG, sO, gr, po, ec, cx, ou, tc, ss, av, cs) (nI s)) ∧ (k = 2 → wpX_executeIf P (sc, oc, ne, ns, ca, on, st, ra, xu, xn, xe, xd, al, ap, ac, en, eu, ea, eb, sU, sL, sK, sE, sG, sO, gr, po, ec, cx, ou, tc, ss, av, cs) (nI s)) ∧ (k = 3 → wpX_executeGoto P (sc, oc, ne, ns, ca, on, st, ra, xu, xn, xe, xd, al, ap, ac, en, eu, ea, eb, sU, sL, sK, sE, sG, sO, gr, po, ec, cx, ou, tc, ss, av, cs) (nI s)) ∧ (k = 4 → wpX_executeDo P (sc, oc, ne, ns, ca, on, st, ra, xu, xn, xe, xd, al, ap, ac, en, eu, ea, eb, sU, sL, sK, sE, sG, sO, gr, po, ec, cx, ou, tc, ss, av, cs) (nI s)) ∧ (k = 5 → wpX_executeCall P (sc, oc, ne, ns, ca, on, st, ra, xu, xn, xe, xd, al, ap, ac, en, eu, ea, eb, sU, sL, sK, sE, sG, sO, gr, po, ec, cx, ou, tc, ss, av, cs) (nI s)) ∧ (k = 6 → wpX_executePrint P (sc, oc, ne, ns, ca, on, st, ra, xu, xn, xe, xd, al, ap, ac, en, eu, ea, eb, sU, sL, sK, sE, sG, sO, gr, po, ec, cx, ou, tc, ss, av, cs) (nI s)) ∧
      (k = 7 → P (sc, oc, ne, ns, ca, on, st, ra, xu, xn, nI s, nI s, al, ap, ac, en, eu, ea, eb, sU, sL, sK, sE, sG, sO, gr, po, ec, cx, ou, tc, ss, av, cs)) ∧ (k = 8 → wpX_leaveUnit P (sc, oc, ne, ns, ca, on, st, ra, xu, xn, xe, xd, al, ap, ac, en, eu, ea, eb, sU, sL, sK, sE, sG, sO, gr, po, ec, cx, ou, tc, ss, av, cs)) ∧ (k = 9 → P (sc, oc, ne, ns, ca, on, st, 1, xu, xn, xe, xd, al, ap, ac, en, eu, ea, eb, sU, sL, sK, sE, sG, sO, gr, po, ec, cx, ou, tc, ss, av, cs))) : wpX_execute P (sc, oc, ne, ns, ca, on, st, ra, xu, xn, xe, xd, al, ap, ac, en, eu, ea, eb, sU, sL, sK, sE, sG, sO, gr, po, ec, cx, ou, tc, ss, av, cs) (nI s) := by
  obtain ⟨h1, h2, h3, h4, h5, h6, h7, h8, h9⟩ := h
  refine ⟨vp_in_nI hs (by decide), ?_⟩
  rw [nI_clamp (by omega), ek]
  have c : k = 1 ∨ k = 2 ∨ k = 3 ∨ k = 4 ∨ k = 5 ∨ k = 6 ∨ k = 7 ∨ k = 8 ∨ k = 9 := by omega
  rcases c with rfl | rfl | rfl | rfl | rfl | rfl | rfl | rfl | rfl
  · exact nm_e (br_f (by decide) (br_f (by decide) (br_t (by decide) (h1 rfl))))
  · exact nm_e (br_f (by decide) (br_f (by decide) (br_f (by decide) (br_t (by decide) (h2 rfl)))))
  · exact nm_e (br_f (by decide) (br_f (by decide) (br_f (by decide) (br_f (by decide) (br_t (by decide) (h3 rfl))))))
  · exact nm_e (br_f (by decide) (br_f (by decide) (br_f (by decide) (br_f (by decide) (br_f (by decide) (br_t (by decide) (h4 rfl)))))))
  · exact nm_e (br_f (by decide) (br_f (by decide) (br_f (by decide) (br_f (by decide) (br_f (by decide) (br_f (by decide) (br_t (by decide) (h5 rfl))))))))
  · exact nm_e (br_f (by decide) (br_f (by decide) (br_f (by decide) (br_f (by decide) (br_f (by decide) (br_f (by decide) (br_f (by decide) (br_t (by decide) (h6 rfl)))))))))
  · exact nm_e (br_f (by decide) (br_f (by decide) (br_f (by decide) (br_f (by decide) (br_f (by decide) (br_f (by decide) (br_f (by decide) (br_f (by decide) (br_t (by decide) (h7 rfl))))))))))
  · exact nm_e (br_f (by decide) (br_f (by decide) (br_f (by decide) (br_f (by decide) (br_f (by decide) (br_f (by decide) (br_f (by decide) (br_f (by decide) (br_f (by decide) (br_t (by decide) (h8 rfl)))))))))))
  · exact nm_e (br_f (by decide) (br_f (by decide) (br_f (by decide) (br_f (by decide) (br_f (by decide) (br_f (by decide) (br_f (by decide) (br_f (by decide) (br_f (by decide) (br_f (by decide) (br_t (by decide) (h9 rfl))))))))))))
theorem ex_assign (W : hr_W n al ap sU sL sK sE sG sO) (H : hc_St RC al ap ec ad bi cx cy u) (hs : s < n) (hus : sU s = nI u) (hk : fa_N sK s = 1) (c_stop : ∀ (r ye' : Int32), r ≠ 0 → (∀ P : SX → Prop, P (sc, oc, ne, nI n, ca, on, st, r, nI u, xn, xe, xd, al, ap, ac, en, eu, ea, eb, sU, sL, sK, sE, sG, sO, gr, po, ec, cx, ou, tc, ss, av, cs) → wpX_execute P (sc, oc, ne, nI n, ca, on, st, 0, nI u, xn, xe, xd, al, ap, ac, en, eu, ea, eb, sU, sL, sK, sE, sG, sO, gr, po, ec, cx, ou, tc, ss, av, cs) (nI s)) → (∀ P : Int32 → SY → Prop, P r (sc, oc, ne, nI n, ca, nc, on, yp, nI u, ye', st, yl, yr, al, ap, cb, cn, ac, eu, ea, eb, sU, sL, sK, sE, sG, sO, kx, ky, kd, pl, rl, cm, hv, ba, ad, ex, cy, tc, ss, av, cs, bi, ou) → wpY_exec P (sc, oc, ne, nI n, ca, nc, on, yp, nI u, 0, st, yl, yr, al, ap, cb, cn, ac, eu, ea, eb, sU, sL, sK, sE, sG, sO, kx, ky, kd, pl, rl, cm, hv, ba, ad, ex, cy, tc, ss, av, cs, bi, ou) (nI s)) → Goal) (c_end : ∀ (t q : Nat) (on' : Int32) (cx' cy' tc' ss' ou' : Nat → Int32), t < n → q ≤ n → sU t = nI u → hc_St RC al ap ec ad bi cx' cy' u → (on' = on ∨ (on < oc ∧ on' = on + 1)) → (∀ P : SX → Prop, P (sc, oc, ne, nI n, ca, on', st, 0, nI u, xn, nI t, nI q, al, ap, ac, en, eu, ea, eb, sU, sL, sK, sE, sG, sO, gr, po, ec, cx', ou', tc', ss', av, cs) → wpX_execute P (sc, oc, ne, nI n, ca, on, st, 0, nI u, xn, xe, xd, al, ap, ac, en, eu, ea, eb, sU, sL, sK, sE, sG, sO, gr, po, ec, cx, ou, tc, ss, av, cs) (nI s)) → (∀ P : Int32 → SY → Prop, wpY_endProc (fun r w => match w with | (sc0, oc0, ne0, ns0, ca0, nc0, on0, yp0, yu0, ye0, st0, yl0, yr0, al0, ap0, cb0, cn0, ac0, eu0, ea0, eb0, sU0, sL0, sK0, sE0, sG0, sO0, kx0, ky0, kd0, pl0, rl0, cm0, hv0, ba0, ad0, ex0, cy0, tc0, ss0, av0, cs0, bi0, ou0) => P r (sc0, oc0, ne0, ns0, ca0, nc0, on0, yp0, yu0, ye0, st0, yl0, yr0, al0, ap0, cb0, cn0, ac0, eu0, ea0, eb0, sU0, sL0, sK0, sE0, sG0, sO0, kx0, ky0, kd0, pl0, rl0, cm0, hv0, ba0, ad0, ex0, cy0, tc0, ss0, av0, cs0, bi0, ou0)) (sc, oc, ne, nI n, ca, nc, on', yp, nI u, 0, st, yl, yr, al, ap, cb, cn, ac, eu, ea, eb, sU, sL, sK, sE, sG, sO, kx, ky, kd, pl, rl, cm, hv, ba, ad, ex, cy', tc', ss', av, cs, bi, ou') (nI t) (nI q) → wpY_exec P (sc, oc, ne, nI n, ca, nc, on, yp, nI u, 0, st, yl, yr, al, ap, cb, cn, ac, eu, ea, eb, sU, sL, sK, sE, sG, sO, kx, ky, kd, pl, rl, cm, hv, ba, ad, ex, cy, tc, ss, av, cs, bi, ou) (nI s)) → Goal) : Goal := by
  have hn := W.1
  have hu4 := H.2.2.2.2.1
  obtain ⟨⟨k1, k2, k3⟩, ⟨e1, e2, e3⟩, _⟩ := ha_V (W.2.1 s hs)
  rw [hk] at k1 e2
  have g3 : fa_N sG s = 3 := by rw [hr_full W hs, hk]; rfl
  have ee : fa_N sE s ≤ 3 := by unfold fb_xok at e2; omega
  obtain ⟨c1, f1, v1⟩ := hr_val (p := 1) W hs (by omega) (by rw [hk]; rfl) hus hu4
  obtain ⟨c2, f2, v2⟩ := hr_val (p := 2) W hs (by omega) (by rw [hk]; rfl) hus hu4
  obtain ⟨c0, f0, v0⟩ := hr_var (p := 0) W hs (by omega) (by rw [hk]; rfl) hus hu4
  have vs : vp_in (nI s) 64 := vp_in_nI (by omega) (by decide)
  have X0 : ∀ P : SX → Prop, wpX_executeAssign P (sc, oc, ne, nI n, ca, on, st, 0, nI u, xn, xe, xd, al, ap, ac, en, eu, ea, eb, sU, sL, sK, sE, sG, sO, gr, po, ec, cx, ou, tc, ss, av, cs) (nI s) → wpX_execute P (sc, oc, ne, nI n, ca, on, st, 0, nI u, xn, xe, xd, al, ap, ac, en, eu, ea, eb, sU, sL, sK, sE, sG, sO, gr, po, ec, cx, ou, tc, ss, av, cs) (nI s) := fun P h =>
    ex_xk (by omega) (by decide) (by decide) k1 ⟨fun _ => h, fun z => by omega, fun z => by omega, fun z => by omega, fun z => by omega, fun z => by omega, fun z => by omega, fun z => by omega, fun z => by omega⟩
  rcases hc_read (s := s) (p := 1) (sc := sc) (oc := oc) (ne := ne) (ns := nI n) (ca := ca) (on := on) (st := st) (ra := 0) (xn := xn) (xe := xe) (xd := xd) (nc := nc) (yp := yp) (yu := nI u) (yl := yl) (yr := yr) (ac := ac) (en := en) (eu := eu) (ea := ea) (eb := eb) (sU := sU) (sL := sL) (sK := sK) (sE := sE) (sG := sG) (sO := sO) (gr := gr) (po := po) (ou := ou) (tc := tc) (ss := ss) (av := av) (cs := cs) (cb := cb) (cn := cn) (kx := kx) (ky := ky) (kd := kd) (pl := pl) (rl := rl) (cm := cm) (hv := hv) (ba := ba) (ex := ex) H (by omega) (by decide) f1 v1 with ⟨rx, ry⟩ | ⟨x, rx, ry⟩
  · refine c_stop 3 3 (by decide) (fun P h => X0 P (by unfold wpX_executeAssign; exact rx _ (br_f (by decide) h))) (fun P h => ?_)
    refine ⟨vs, nm_r (e' := nI u) (by rw [nI_clamp (by omega)]; exact hus) ⟨vs, nm_r (e' := nI 1) (by rw [nI_clamp (by omega)]; exact k1) ⟨vs, nm_r (e' := nI (fa_N sE s)) (by rw [nI_clamp (by omega)]; exact e1) (nm_r (e' := nI (s * 5)) ha_50 (br_t (by decide) (?_)))⟩⟩⟩
    rw [nI_1 (s * 5), nI_clamp (n := s * 5 + 1) (by omega), f1]
    exact ⟨vp_in_nI (by omega) (by decide), ry _ (br_f (by decide) h)⟩
  rcases hc_read (s := s) (p := 2) (sc := sc) (oc := oc) (ne := ne) (ns := nI n) (ca := ca) (on := on) (st := st) (ra := 0) (xn := xn) (xe := xe) (xd := xd) (nc := nc) (yp := yp) (yu := nI u) (yl := yl) (yr := yr) (ac := ac) (en := en) (eu := eu) (ea := ea) (eb := eb) (sU := sU) (sL := sL) (sK := sK) (sE := sE) (sG := sG) (sO := sO) (gr := gr) (po := po) (ou := ou) (tc := tc) (ss := ss) (av := av) (cs := cs) (cb := cb) (cn := cn) (kx := kx) (ky := ky) (kd := kd) (pl := pl) (rl := rl) (cm := cm) (hv := hv) (ba := ba) (ex := ex) H (by omega) (by decide) f2 v2 with ⟨rx2, ry2⟩ | ⟨y, rx2, ry2⟩
  · refine c_stop 3 3 (by decide) (fun P h => X0 P (by unfold wpX_executeAssign; exact rx _ (br_t rfl (rx2 _ (br_f (by decide) h))))) (fun P h => ?_)
    refine ⟨vs, nm_r (e' := nI u) (by rw [nI_clamp (by omega)]; exact hus) ⟨vs, nm_r (e' := nI 1) (by rw [nI_clamp (by omega)]; exact k1) ⟨vs, nm_r (e' := nI (fa_N sE s)) (by rw [nI_clamp (by omega)]; exact e1) (nm_r (e' := nI (s * 5)) ha_50 (br_t (by decide) (?_)))⟩⟩⟩
    rw [nI_1 (s * 5), nI_clamp (n := s * 5 + 1) (by omega), f1]
    refine ⟨vp_in_nI (by omega) (by decide), ry _ (br_t rfl ?_)⟩
    rw [show nI (s * 5) + 2 = nI (s * 5 + 2) from nI_add (s * 5) 2, nI_clamp (n := s * 5 + 2) (by omega), f2]
    exact ⟨vp_in_nI (by omega) (by decide), ry2 _ (br_f (by decide) h)⟩
  have X2 : ∀ P : SX → Prop, ((fa_N sE s = 3 → y = 0 → P (sc, oc, ne, nI n, ca, on, st, 4, nI u, xn, xe, xd, al, ap, ac, en, eu, ea, eb, sU, sL, sK, sE, sG, sO, gr, po, ec, cx, ou, tc, ss, av, cs)) ∧ (¬ (fa_N sE s = 3 ∧ y = 0) → wX_executeAssign_50 P (nI s) x y sc oc ne (nI n) ca on st 0 (nI u) xn xe xd al ap ac en eu ea eb sU sL sK sE sG sO gr po ec cx ou tc ss av cs)) → wpX_execute P (sc, oc, ne, nI n, ca, on, st, 0, nI u, xn, xe, xd, al, ap, ac, en, eu, ea, eb, sU, sL, sK, sE, sG, sO, gr, po, ec, cx, ou, tc, ss, av, cs) (nI s) := by
    intro P h
    refine X0 P ?_
    unfold wpX_executeAssign
    refine rx _ (br_t rfl (rx2 _ (br_t rfl ⟨vs, ?_⟩)))
    rw [nI_clamp (n := s) (by omega), e1]
    exact pk_eq (fa_N sE s) 3 (fun z => br_c (fun w => h.1 z w) (fun w => h.2 (fun q => w q.2))) (fun z => h.2 (fun q => z q.1))
  have Y2 : ∀ P : Int32 → SY → Prop, ((fa_N sE s = 3 → y = 0 → P 4 (sc, oc, ne, nI n, ca, nc, on, yp, nI u, 0, st, yl, yr, al, ap, cb, cn, ac, eu, ea, eb, sU, sL, sK, sE, sG, sO, kx, ky, kd, pl, rl, cm, hv, ba, ad, ex, cy, tc, ss, av, cs, bi, ou)) ∧ (¬ (fa_N sE s = 3 ∧ y = 0) → wY_exec_149 P (nI s) (nI u) (nI (s * 5)) (fb_op (fa_N sE s) x y) sc oc ne (nI n) ca nc on yp (nI u) 0 st yl yr al ap cb cn ac eu ea eb sU sL sK sE sG sO kx ky kd pl rl cm hv ba ad ex cy tc ss av cs bi ou)) → wpY_exec P (sc, oc, ne, nI n, ca, nc, on, yp, nI u, 0, st, yl, yr, al, ap, cb, cn, ac, eu, ea, eb, sU, sL, sK, sE, sG, sO, kx, ky, kd, pl, rl, cm, hv, ba, ad, ex, cy, tc, ss, av, cs, bi, ou) (nI s) := by
    intro P h
    refine ⟨vs, nm_r (e' := nI u) (by rw [nI_clamp (by omega)]; exact hus) ⟨vs, nm_r (e' := nI 1) (by rw [nI_clamp (by omega)]; exact k1) ⟨vs, nm_r (e' := nI (fa_N sE s)) (by rw [nI_clamp (by omega)]; exact e1) (nm_r (e' := nI (s * 5)) ha_50 (br_t (by decide) (?_)))⟩⟩⟩
    rw [nI_1 (s * 5), nI_clamp (n := s * 5 + 1) (by omega), f1]
    refine ⟨vp_in_nI (by omega) (by decide), ry _ (br_t rfl ?_)⟩
    rw [show nI (s * 5) + 2 = nI (s * 5 + 2) from nI_add (s * 5) 2, nI_clamp (n := s * 5 + 2) (by omega), f2]
    refine ⟨vp_in_nI (by omega) (by decide), ry2 _ (br_t rfl ?_)⟩
    have c : fa_N sE s = 0 ∨ fa_N sE s = 1 ∨ fa_N sE s = 2 ∨ fa_N sE s = 3 := by omega
    rcases c with c | c | c | c
    · rw [c] at h ⊢
      exact br_t rfl (nm_e (h.2 (by omega)))
    · rw [c] at h ⊢
      exact br_f (by decide) (br_t rfl (nm_e (h.2 (by omega))))
    · rw [c] at h ⊢
      exact br_f (by decide) (br_f (by decide) (br_t rfl (nm_e (h.2 (by omega)))))
    · rw [c] at h ⊢
      exact br_f (by decide) (br_f (by decide) (br_f (by decide) (br_c (fun w => h.1 rfl w) (fun w => ⟨w, nm_e (h.2 (fun q => w q.2))⟩))))
  by_cases dz : fa_N sE s = 3 ∧ y = 0
  · exact c_stop 4 0 (by decide) (fun P h => X2 P ⟨fun _ _ => h, fun w => absurd dz w⟩) (fun P h => Y2 P ⟨fun _ _ => h, fun w => absurd dz w⟩)
  have f0' : sO (s * 5) = nI c0 := f0
  rcases hc_cell (c := c0) (sc := sc) (oc := oc) (ne := ne) (ns := nI n) (ca := ca) (on := on) (st := st) (ra := 0) (xn := xn) (xe := xe) (xd := xd) (nc := nc) (yp := yp) (yu := nI u) (ye := 0) (yl := yl) (yr := yr) (ac := ac) (en := en) (eu := eu) (ea := ea) (eb := eb) (sU := sU) (sL := sL) (sK := sK) (sE := sE) (sG := sG) (sO := sO) (gr := gr) (po := po) (ou := ou) (tc := tc) (ss := ss) (av := av) (cs := cs) (cb := cb) (cn := cn) (kx := kx) (ky := ky) (kd := kd) (pl := pl) (rl := rl) (cm := cm) (hv := hv) (ba := ba) (ex := ex) H v0 with ⟨fx, fy⟩ | ⟨a, b, r, fx, fy⟩
  · refine c_stop 3 3 (by decide) (fun P h => X2 P ⟨fun z w => absurd ⟨z, w⟩ dz, fun _ => ?_⟩) (fun P h => Y2 P ⟨fun z w => absurd ⟨z, w⟩ dz, fun _ => ?_⟩)
    · unfold wX_executeAssign_50
      rw [ha_50, nI_clamp (n := s * 5) (by omega), f0']
      exact ⟨vp_in_nI (by omega) (by decide), fx _ (br_t rfl h)⟩
    · unfold wY_exec_149
      rw [nI_clamp (n := s * 5) (by omega), f0']
      exact ⟨vp_in_nI (by omega) (by decide), fy _ (br_f (by decide) h)⟩
  · have ab := H.1.1 a b r
    refine c_end s s on (upd cx a (fb_op (fa_N sE s) x y)) (upd cy b (fb_op (fa_N sE s) x y)) tc ss ou hs (by omega) hus (hc_putSt H r) (Or.inl rfl) (fun P h => X2 P ⟨fun z w => absurd ⟨z, w⟩ dz, fun _ => ?_⟩) (fun P h => Y2 P ⟨fun z w => absurd ⟨z, w⟩ dz, fun _ => ?_⟩)
    · unfold wX_executeAssign_50
      rw [ha_50, nI_clamp (n := s * 5) (by omega), f0']
      refine ⟨vp_in_nI (by omega) (by decide), fx _ (br_f (fa_m1 (by omega)) ⟨vs, ?_⟩)⟩
      rw [nI_clamp (n := s) (by omega), e1]
      refine hx_combine ee (fun z w => dz ⟨z, w⟩) ⟨vp_in_nI (by omega) (by decide), ?_⟩
      rw [nI_clamp (n := a) (by omega)]
      exact nm_e h
    · unfold wY_exec_149
      rw [nI_clamp (n := s * 5) (by omega), f0']
      exact ⟨vp_in_nI (by omega) (by decide), fy _ (br_t rfl (hc_put ab.2 h))⟩
end HEX
end
section
section HEY
/-! the other statements -/
variable {sc oc ne ns ca on st ra xu xn xe xd nc yp yu ye yl yr : Int32} {al ap ac en eu ea eb sU sL sK sE sG sO gr po ec cx ou tc ss av cs cb cn kx ky kd pl rl cm hv ba ad ex cy bi : Nat → Int32}
variable {RC : Nat → Nat → Prop} {u n t s : Nat} {Goal : Prop}
theorem ex_pc {p : Nat} (h : p < n) : fb_pc n p = nI p := if_pos h
theorem ex_xgo {P : SX → Prop} {p : Nat} (W : hr_W n al ap sU sL sK sE sG sO) (hs : s < n) (hus : sU s = nI u) (hp : p < fa_N sG s) (g5 : fa_N sG s ≤ 5) (e : fb_FL sU sL n (sU s) (sO (s * 5 + p)) = nI t) (h : P (sc, oc, ne, nI n, ca, on, st, 0, nI u, nI t, xe, xd, al, ap, ac, en, eu, ea, eb, sU, sL, sK, sE, sG, sO, gr, po, ec, cx, ou, tc, ss, av, cs)) : wpX_goToLabel P (sc, oc, ne, nI n, ca, on, st, 0, nI u, xn, xe, xd, al, ap, ac, en, eu, ea, eb, sU, sL, sK, sE, sG, sO, gr, po, ec, cx, ou, tc, ss, av, cs) (nI s) (nI p) := by
  have hn := W.1
  unfold wpX_goToLabel
  rw [hus] at e
  rw [ha_5, nI_clamp (by omega)]
  refine ⟨vp_in_nI (by omega) (by decide), hx_findLabel hn ?_⟩
  rw [e]
  exact h
theorem ex_ygo {P : Int32 → SY → Prop} {p : Nat} (W : hr_W n al ap sU sL sK sE sG sO) (hs : s < n) (hus : sU s = nI u) (hp : p < fa_N sG s) (g5 : fa_N sG s ≤ 5) (hk : fb_pl (fa_N sK s) p = 2) (ht : t < n) (e : fb_FL sU sL n (sU s) (sO (s * 5 + p)) = nI t) (h : P 0 (sc, oc, ne, nI n, ca, nc, on, fb_pc n t, nI u, 0, st, yl, yr, al, ap, cb, cn, ac, eu, ea, eb, sU, sL, sK, sE, sG, sO, kx, ky, kd, pl, rl, cm, hv, ba, ad, ex, cy, tc, ss, av, cs, bi, ou)) :
    vp_in (nI (s * 5) + nI p) 320 ∧ wpY_findLabel (fun r => P 0 (sc, oc, ne, nI n, ca, nc, on, r, nI u, 0, st, yl, yr, al, ap, cb, cn, ac, eu, ea, eb, sU, sL, sK, sE, sG, sO, kx, ky, kd, pl, rl, cm, hv, ba, ad, ex, cy, tc, ss, av, cs, bi, ou)) (sc, oc, ne, nI n, ca, nc, on, yp, nI u, 0, st, yl, yr, al, ap, cb, cn, ac, eu, ea, eb, sU, sL, sK, sE, sG, sO, kx, ky, kd, pl, rl, cm, hv, ba, ad, ex, cy, tc, ss, av, cs, bi, ou) (nI u) (sO (nI (s * 5) + nI p).toNatClampNeg) := by
  have hn := W.1
  obtain ⟨⟨c, f, hc⟩, _⟩ := hr_lab W hs hp hk
  rw [nI_add (s * 5) p, nI_clamp (n := s * 5 + p) (by omega), f]
  rw [f, hus] at e
  refine ⟨vp_in_nI (by omega) (by decide), hy_findLabel hn (by omega) ?_⟩
  rw [e, ← ex_pc ht]
  exact h
theorem ex_if (W : hr_W n al ap sU sL sK sE sG sO) (H : hc_St RC al ap ec ad bi cx cy u) (hs : s < n) (hus : sU s = nI u) (hk : fa_N sK s = 2) (c_stop : ∀ (r ye' : Int32), r ≠ 0 → (∀ P : SX → Prop, P (sc, oc, ne, nI n, ca, on, st, r, nI u, xn, xe, xd, al, ap, ac, en, eu, ea, eb, sU, sL, sK, sE, sG, sO, gr, po, ec, cx, ou, tc, ss, av, cs) → wpX_execute P (sc, oc, ne, nI n, ca, on, st, 0, nI u, xn, xe, xd, al, ap, ac, en, eu, ea, eb, sU, sL, sK, sE, sG, sO, gr, po, ec, cx, ou, tc, ss, av, cs) (nI s)) → (∀ P : Int32 → SY → Prop, P r (sc, oc, ne, nI n, ca, nc, on, yp, nI u, ye', st, yl, yr, al, ap, cb, cn, ac, eu, ea, eb, sU, sL, sK, sE, sG, sO, kx, ky, kd, pl, rl, cm, hv, ba, ad, ex, cy, tc, ss, av, cs, bi, ou) → wpY_exec P (sc, oc, ne, nI n, ca, nc, on, yp, nI u, 0, st, yl, yr, al, ap, cb, cn, ac, eu, ea, eb, sU, sL, sK, sE, sG, sO, kx, ky, kd, pl, rl, cm, hv, ba, ad, ex, cy, tc, ss, av, cs, bi, ou) (nI s)) → Goal) (c_jump : ∀ (p : Nat) (cx' cy' tc' ss' : Nat → Int32), p ≤ n → (p < n → sU p = nI u) → hc_St RC al ap ec ad bi cx' cy' u → (∀ P : SX → Prop, P (sc, oc, ne, nI n, ca, on, st, 0, nI u, nI p, xe, xd, al, ap, ac, en, eu, ea, eb, sU, sL, sK, sE, sG, sO, gr, po, ec, cx', ou, tc', ss', av, cs) → wpX_execute P (sc, oc, ne, nI n, ca, on, st, 0, nI u, xn, xe, xd, al, ap, ac, en, eu, ea, eb, sU, sL, sK, sE, sG, sO, gr, po, ec, cx, ou, tc, ss, av, cs) (nI s)) → (∀ P : Int32 → SY → Prop, P 0 (sc, oc, ne, nI n, ca, nc, on, fb_pc n p, nI u, 0, st, yl, yr, al, ap, cb, cn, ac, eu, ea, eb, sU, sL, sK, sE, sG, sO, kx, ky, kd, pl, rl, cm, hv, ba, ad, ex, cy', tc', ss', av, cs, bi, ou) → wpY_exec P (sc, oc, ne, nI n, ca, nc, on, yp, nI u, 0, st, yl, yr, al, ap, cb, cn, ac, eu, ea, eb, sU, sL, sK, sE, sG, sO, kx, ky, kd, pl, rl, cm, hv, ba, ad, ex, cy, tc, ss, av, cs, bi, ou) (nI s)) → Goal) : Goal := by
  have hn := W.1
  have hu4 := H.2.2.2.2.1
  obtain ⟨⟨k1, k2, k3⟩, ⟨e1, e2, e3⟩, _⟩ := ha_V (W.2.1 s hs)
  rw [hk] at k1 e2
  have g5 : fa_N sG s = 5 := by rw [hr_full W hs, hk]; rfl
  obtain ⟨c1, f1, v1⟩ := hr_val (p := 0) W hs (by omega) (by rw [hk]; rfl) hus hu4
  obtain ⟨c2, f2, v2⟩ := hr_val (p := 1) W hs (by omega) (by rw [hk]; rfl) hus hu4
  have f1' : sO (s * 5) = nI c1 := f1
  have vs : vp_in (nI s) 64 := vp_in_nI (by omega) (by decide)
  have v5 : vp_in (nI (s * 5)) 320 := vp_in_nI (by omega) (by decide)
  have X0 : ∀ P : SX → Prop, wpX_executeIf P (sc, oc, ne, nI n, ca, on, st, 0, nI u, xn, xe, xd, al, ap, ac, en, eu, ea, eb, sU, sL, sK, sE, sG, sO, gr, po, ec, cx, ou, tc, ss, av, cs) (nI s) → wpX_execute P (sc, oc, ne, nI n, ca, on, st, 0, nI u, xn, xe, xd, al, ap, ac, en, eu, ea, eb, sU, sL, sK, sE, sG, sO, gr, po, ec, cx, ou, tc, ss, av, cs) (nI s) := fun P h =>
    ex_xk (by omega) (by decide) (by decide) k1 ⟨fun z => by omega, fun _ => h, fun z => by omega, fun z => by omega, fun z => by omega, fun z => by omega, fun z => by omega, fun z => by omega, fun z => by omega⟩
  rcases hc_read (s := s) (p := 0) (sc := sc) (oc := oc) (ne := ne) (ns := nI n) (ca := ca) (on := on) (st := st) (ra := 0) (xn := xn) (xe := xe) (xd := xd) (nc := nc) (yp := yp) (yu := nI u) (yl := yl) (yr := yr) (ac := ac) (en := en) (eu := eu) (ea := ea) (eb := eb) (sU := sU) (sL := sL) (sK := sK) (sE := sE) (sG := sG) (sO := sO) (gr := gr) (po := po) (ou := ou) (tc := tc) (ss := ss) (av := av) (cs := cs) (cb := cb) (cn := cn) (kx := kx) (ky := ky) (kd := kd) (pl := pl) (rl := rl) (cm := cm) (hv := hv) (ba := ba) (ex := ex) H (by omega) (by decide) f1 v1 with ⟨rx, ry⟩ | ⟨x, rx, ry⟩
  · refine c_stop 3 3 (by decide) (fun P h => X0 P (by unfold wpX_executeIf; exact rx _ (br_f (by decide) h))) (fun P h => ?_)
    refine ⟨vs, nm_r (e' := nI u) (by rw [nI_clamp (by omega)]; exact hus) ⟨vs, nm_r (e' := nI 2) (by rw [nI_clamp (by omega)]; exact k1) ⟨vs, nm_r (e' := nI (fa_N sE s)) (by rw [nI_clamp (by omega)]; exact e1) (nm_r (e' := nI (s * 5)) ha_50 (br_f (by decide) (br_t (by decide) (?_))))⟩⟩⟩
    rw [nI_clamp (n := s * 5) (by omega), f1']
    exact ⟨v5, ry _ (br_f (by decide) h)⟩
  rcases hc_read (s := s) (p := 1) (sc := sc) (oc := oc) (ne := ne) (ns := nI n) (ca := ca) (on := on) (st := st) (ra := 0) (xn := xn) (xe := xe) (xd := xd) (nc := nc) (yp := yp) (yu := nI u) (yl := yl) (yr := yr) (ac := ac) (en := en) (eu := eu) (ea := ea) (eb := eb) (sU := sU) (sL := sL) (sK := sK) (sE := sE) (sG := sG) (sO := sO) (gr := gr) (po := po) (ou := ou) (tc := tc) (ss := ss) (av := av) (cs := cs) (cb := cb) (cn := cn) (kx := kx) (ky := ky) (kd := kd) (pl := pl) (rl := rl) (cm := cm) (hv := hv) (ba := ba) (ex := ex) H (by omega) (by decide) f2 v2 with ⟨rx2, ry2⟩ | ⟨y, rx2, ry2⟩
  · refine c_stop 3 3 (by decide) (fun P h => X0 P (by unfold wpX_executeIf; exact rx _ (br_t rfl (rx2 _ (br_f (by decide) h))))) (fun P h => ?_)
    refine ⟨vs, nm_r (e' := nI u) (by rw [nI_clamp (by omega)]; exact hus) ⟨vs, nm_r (e' := nI 2) (by rw [nI_clamp (by omega)]; exact k1) ⟨vs, nm_r (e' := nI (fa_N sE s)) (by rw [nI_clamp (by omega)]; exact e1) (nm_r (e' := nI (s * 5)) ha_50 (br_f (by decide) (br_t (by decide) (?_))))⟩⟩⟩
    rw [nI_clamp (n := s * 5) (by omega), f1']
    refine ⟨v5, ry _ (br_t rfl ?_)⟩
    rw [nI_1 (s * 5), nI_clamp (n := s * 5 + 1) (by omega), f2]
    exact ⟨vp_in_nI (by omega) (by decide), ry2 _ (br_f (by decide) h)⟩
  have Y2 : ∀ P : Int32 → SY → Prop, ((0 ≤ x - y → ((x - y = 0 → wY_exec_275 P (nI u) (nI (s * 5)) 3 sc oc ne (nI n) ca nc on yp (nI u) 0 st yl yr al ap cb cn ac eu ea eb sU sL sK sE sG sO kx ky kd pl rl cm hv ba ad ex cy tc ss av cs bi ou) ∧ (¬ x - y = 0 → wY_exec_275 P (nI u) (nI (s * 5)) 4 sc oc ne (nI n) ca nc on yp (nI u) 0 st yl yr al ap cb cn ac eu ea eb sU sL sK sE sG sO kx ky kd pl rl cm hv ba ad ex cy tc ss av cs bi ou))) ∧ (¬ 0 ≤ x - y → wY_exec_275 P (nI u) (nI (s * 5)) 2 sc oc ne (nI n) ca nc on yp (nI u) 0 st yl yr al ap cb cn ac eu ea eb sU sL sK sE sG sO kx ky kd pl rl cm hv ba ad ex cy tc ss av cs bi ou)) → wpY_exec P (sc, oc, ne, nI n, ca, nc, on, yp, nI u, 0, st, yl, yr, al, ap, cb, cn, ac, eu, ea, eb, sU, sL, sK, sE, sG, sO, kx, ky, kd, pl, rl, cm, hv, ba, ad, ex, cy, tc, ss, av, cs, bi, ou) (nI s) := by
    intro P h
    refine ⟨vs, nm_r (e' := nI u) (by rw [nI_clamp (by omega)]; exact hus) ⟨vs, nm_r (e' := nI 2) (by rw [nI_clamp (by omega)]; exact k1) ⟨vs, nm_r (e' := nI (fa_N sE s)) (by rw [nI_clamp (by omega)]; exact e1) (nm_r (e' := nI (s * 5)) ha_50 (br_f (by decide) (br_t (by decide) (?_))))⟩⟩⟩
    rw [nI_clamp (n := s * 5) (by omega), f1']
    refine ⟨v5, ry _ (br_t rfl ?_)⟩
    rw [nI_1 (s * 5), nI_clamp (n := s * 5 + 1) (by omega), f2]
    exact ⟨vp_in_nI (by omega) (by decide), ry2 _ (br_t rfl (nm_e h))⟩
  have go : ∀ j, 2 ≤ j → j ≤ 4 → (∀ P : SX → Prop, wX_executeIf_56 P (nI j) (nI s) sc oc ne (nI n) ca on st 0 (nI u) xn xe xd al ap ac en eu ea eb sU sL sK sE sG sO gr po ec cx ou tc ss av cs → wpX_execute P (sc, oc, ne, nI n, ca, on, st, 0, nI u, xn, xe, xd, al, ap, ac, en, eu, ea, eb, sU, sL, sK, sE, sG, sO, gr, po, ec, cx, ou, tc, ss, av, cs) (nI s)) → (∀ P : Int32 → SY → Prop, wY_exec_275 P (nI u) (nI (s * 5)) (nI j) sc oc ne (nI n) ca nc on yp (nI u) 0 st yl yr al ap cb cn ac eu ea eb sU sL sK sE sG sO kx ky kd pl rl cm hv ba ad ex cy tc ss av cs bi ou → wpY_exec P (sc, oc, ne, nI n, ca, nc, on, yp, nI u, 0, st, yl, yr, al, ap, cb, cn, ac, eu, ea, eb, sU, sL, sK, sE, sG, sO, kx, ky, kd, pl, rl, cm, hv, ba, ad, ex, cy, tc, ss, av, cs, bi, ou) (nI s)) → Goal := by
    intro j j2 j4 hx hy
    have pl2 : fb_pl (fa_N sK s) j = 2 := by rw [hk]; show (if j < 2 then 0 else 2) = 2; exact if_neg (by omega)
    obtain ⟨_, t, ht, e, ut, _⟩ := hr_lab (p := j) W hs (by omega) pl2
    exact c_jump t cx cy tc ss (by omega) (fun _ => ut.trans hus) H (fun P h => hx P (ex_xgo W hs hus (by omega) (by omega) e h)) (fun P h => hy P (ex_ygo W hs hus (by omega) (by omega) pl2 ht e h))
  by_cases z : 0 ≤ x - y
  · by_cases z' : x - y = 0
    · exact go 3 (by decide) (by decide) (fun P h => X0 P (by unfold wpX_executeIf; exact rx _ (br_t rfl (rx2 _ (br_t rfl (nm_e (br_t z (br_t z' h)))))))) (fun P h => Y2 P (br_t z (br_t z' h)))
    · exact go 4 (by decide) (by decide) (fun P h => X0 P (by unfold wpX_executeIf; exact rx _ (br_t rfl (rx2 _ (br_t rfl (nm_e (br_t z (br_f z' h)))))))) (fun P h => Y2 P (br_t z (br_f z' h)))
  · exact go 2 (by decide) (by decide) (fun P h => X0 P (by unfold wpX_executeIf; exact rx _ (br_t rfl (rx2 _ (br_t rfl (nm_e (br_f z h))))))) (fun P h => Y2 P (br_f z h))
theorem ex_goto (W : hr_W n al ap sU sL sK sE sG sO) (H : hc_St RC al ap ec ad bi cx cy u) (hs : s < n) (hus : sU s = nI u) (hk : fa_N sK s = 3) (c_stop : ∀ (r ye' : Int32), r ≠ 0 → (∀ P : SX → Prop, P (sc, oc, ne, nI n, ca, on, st, r, nI u, xn, xe, xd, al, ap, ac, en, eu, ea, eb, sU, sL, sK, sE, sG, sO, gr, po, ec, cx, ou, tc, ss, av, cs) → wpX_execute P (sc, oc, ne, nI n, ca, on, st, 0, nI u, xn, xe, xd, al, ap, ac, en, eu, ea, eb, sU, sL, sK, sE, sG, sO, gr, po, ec, cx, ou, tc, ss, av, cs) (nI s)) → (∀ P : Int32 → SY → Prop, P r (sc, oc, ne, nI n, ca, nc, on, yp, nI u, ye', st, yl, yr, al, ap, cb, cn, ac, eu, ea, eb, sU, sL, sK, sE, sG, sO, kx, ky, kd, pl, rl, cm, hv, ba, ad, ex, cy, tc, ss, av, cs, bi, ou) → wpY_exec P (sc, oc, ne, nI n, ca, nc, on, yp, nI u, 0, st, yl, yr, al, ap, cb, cn, ac, eu, ea, eb, sU, sL, sK, sE, sG, sO, kx, ky, kd, pl, rl, cm, hv, ba, ad, ex, cy, tc, ss, av, cs, bi, ou) (nI s)) → Goal) (c_jump : ∀ (p : Nat) (cx' cy' tc' ss' : Nat → Int32), p ≤ n → (p < n → sU p = nI u) → hc_St RC al ap ec ad bi cx' cy' u → (∀ P : SX → Prop, P (sc, oc, ne, nI n, ca, on, st, 0, nI u, nI p, xe, xd, al, ap, ac, en, eu, ea, eb, sU, sL, sK, sE, sG, sO, gr, po, ec, cx', ou, tc', ss', av, cs) → wpX_execute P (sc, oc, ne, nI n, ca, on, st, 0, nI u, xn, xe, xd, al, ap, ac, en, eu, ea, eb, sU, sL, sK, sE, sG, sO, gr, po, ec, cx, ou, tc, ss, av, cs) (nI s)) → (∀ P : Int32 → SY → Prop, P 0 (sc, oc, ne, nI n, ca, nc, on, fb_pc n p, nI u, 0, st, yl, yr, al, ap, cb, cn, ac, eu, ea, eb, sU, sL, sK, sE, sG, sO, kx, ky, kd, pl, rl, cm, hv, ba, ad, ex, cy', tc', ss', av, cs, bi, ou) → wpY_exec P (sc, oc, ne, nI n, ca, nc, on, yp, nI u, 0, st, yl, yr, al, ap, cb, cn, ac, eu, ea, eb, sU, sL, sK, sE, sG, sO, kx, ky, kd, pl, rl, cm, hv, ba, ad, ex, cy, tc, ss, av, cs, bi, ou) (nI s)) → Goal) : Goal := by
  have hn := W.1
  have hu4 := H.2.2.2.2.1
  obtain ⟨⟨k1, k2, k3⟩, ⟨e1, e2, e3⟩, _⟩ := ha_V (W.2.1 s hs)
  rw [hk] at k1 e2
  have g5 : fa_N sG s = 1 + fa_N sE s := by rw [hr_full W hs, hk]; rfl
  have ee : 1 ≤ fa_N sE s ∧ fa_N sE s ≤ 4 := by unfold fb_xok at e2; omega
  obtain ⟨c1, f1, v1⟩ := hr_val (p := 0) W hs (by omega) (by rw [hk]; rfl) hus hu4
  have f1' : sO (s * 5) = nI c1 := f1
  have vs : vp_in (nI s) 64 := vp_in_nI (by omega) (by decide)
  have v5 : vp_in (nI (s * 5)) 320 := vp_in_nI (by omega) (by decide)
  have X0 : ∀ P : SX → Prop, wpX_executeGoto P (sc, oc, ne, nI n, ca, on, st, 0, nI u, xn, xe, xd, al, ap, ac, en, eu, ea, eb, sU, sL, sK, sE, sG, sO, gr, po, ec, cx, ou, tc, ss, av, cs) (nI s) → wpX_execute P (sc, oc, ne, nI n, ca, on, st, 0, nI u, xn, xe, xd, al, ap, ac, en, eu, ea, eb, sU, sL, sK, sE, sG, sO, gr, po, ec, cx, ou, tc, ss, av, cs) (nI s) := fun P h =>
    ex_xk (by omega) (by decide) (by decide) k1 ⟨fun z => by omega, fun z => by omega, fun _ => h, fun z => by omega, fun z => by omega, fun z => by omega, fun z => by omega, fun z => by omega, fun z => by omega⟩
  rcases hc_read (s := s) (p := 0) (sc := sc) (oc := oc) (ne := ne) (ns := nI n) (ca := ca) (on := on) (st := st) (ra := 0) (xn := xn) (xe := xe) (xd := xd) (nc := nc) (yp := yp) (yu := nI u) (yl := yl) (yr := yr) (ac := ac) (en := en) (eu := eu) (ea := ea) (eb := eb) (sU := sU) (sL := sL) (sK := sK) (sE := sE) (sG := sG) (sO := sO) (gr := gr) (po := po) (ou := ou) (tc := tc) (ss := ss) (av := av) (cs := cs) (cb := cb) (cn := cn) (kx := kx) (ky := ky) (kd := kd) (pl := pl) (rl := rl) (cm := cm) (hv := hv) (ba := ba) (ex := ex) H (by omega) (by decide) f1 v1 with ⟨rx, ry⟩ | ⟨x, rx, ry⟩
  · refine c_stop 3 3 (by decide) (fun P h => X0 P (by unfold wpX_executeGoto; exact rx _ (br_f (by decide) h))) (fun P h => ?_)
    refine ⟨vs, nm_r (e' := nI u) (by rw [nI_clamp (by omega)]; exact hus) ⟨vs, nm_r (e' := nI 3) (by rw [nI_clamp (by omega)]; exact k1) ⟨vs, nm_r (e' := nI (fa_N sE s)) (by rw [nI_clamp (by omega)]; exact e1) (nm_r (e' := nI (s * 5)) ha_50 (br_f (by decide) (br_f (by decide) (br_t (by decide) (?_)))))⟩⟩⟩
    rw [nI_clamp (n := s * 5) (by omega), f1']
    exact ⟨v5, ry _ (br_f (by decide) h)⟩
  have X2 : ∀ P : SX → Prop, ((x < 1 → wX_executeGoto_39 P (nI s) sc oc ne (nI n) ca on st 0 (nI u) xn xe xd al ap ac en eu ea eb sU sL sK sE sG sO gr po ec cx ou tc ss av cs) ∧ (¬ x < 1 → ((nI (fa_N sE s) < x → wX_executeGoto_39 P (nI s) sc oc ne (nI n) ca on st 0 (nI u) xn xe xd al ap ac en eu ea eb sU sL sK sE sG sO gr po ec cx ou tc ss av cs) ∧ (¬ nI (fa_N sE s) < x → wpX_goToLabel P (sc, oc, ne, nI n, ca, on, st, 0, nI u, xn, xe, xd, al, ap, ac, en, eu, ea, eb, sU, sL, sK, sE, sG, sO, gr, po, ec, cx, ou, tc, ss, av, cs) (nI s) x)))) → wpX_execute P (sc, oc, ne, nI n, ca, on, st, 0, nI u, xn, xe, xd, al, ap, ac, en, eu, ea, eb, sU, sL, sK, sE, sG, sO, gr, po, ec, cx, ou, tc, ss, av, cs) (nI s) := by
    intro P h
    refine X0 P ?_
    unfold wpX_executeGoto
    refine rx _ (br_t rfl (br_c h.1 (fun z => ⟨vs, ?_⟩)))
    rw [nI_clamp (n := s) (by omega), e1]
    exact h.2 z
  have Y2 : ∀ P : Int32 → SY → Prop, ((x < 1 → wY_exec_364 P (nI s) sc oc ne (nI n) ca nc on yp (nI u) 0 st yl yr al ap cb cn ac eu ea eb sU sL sK sE sG sO kx ky kd pl rl cm hv ba ad ex cy tc ss av cs bi ou) ∧ (¬ x < 1 → ((nI (fa_N sE s) < x → wY_exec_364 P (nI s) sc oc ne (nI n) ca nc on yp (nI u) 0 st yl yr al ap cb cn ac eu ea eb sU sL sK sE sG sO kx ky kd pl rl cm hv ba ad ex cy tc ss av cs bi ou) ∧ (¬ nI (fa_N sE s) < x → (vp_in (nI (s * 5) + x) 320 ∧ wpY_findLabel (fun r => P 0 (sc, oc, ne, nI n, ca, nc, on, r, nI u, 0, st, yl, yr, al, ap, cb, cn, ac, eu, ea, eb, sU, sL, sK, sE, sG, sO, kx, ky, kd, pl, rl, cm, hv, ba, ad, ex, cy, tc, ss, av, cs, bi, ou)) (sc, oc, ne, nI n, ca, nc, on, yp, nI u, 0, st, yl, yr, al, ap, cb, cn, ac, eu, ea, eb, sU, sL, sK, sE, sG, sO, kx, ky, kd, pl, rl, cm, hv, ba, ad, ex, cy, tc, ss, av, cs, bi, ou) (nI u) (sO (nI (s * 5) + x).toNatClampNeg)))))) → wpY_exec P (sc, oc, ne, nI n, ca, nc, on, yp, nI u, 0, st, yl, yr, al, ap, cb, cn, ac, eu, ea, eb, sU, sL, sK, sE, sG, sO, kx, ky, kd, pl, rl, cm, hv, ba, ad, ex, cy, tc, ss, av, cs, bi, ou) (nI s) := by
    intro P h
    refine ⟨vs, nm_r (e' := nI u) (by rw [nI_clamp (by omega)]; exact hus) ⟨vs, nm_r (e' := nI 3) (by rw [nI_clamp (by omega)]; exact k1) ⟨vs, nm_r (e' := nI (fa_N sE s)) (by rw [nI_clamp (by omega)]; exact e1) (nm_r (e' := nI (s * 5)) ha_50 (br_f (by decide) (br_f (by decide) (br_t (by decide) (?_)))))⟩⟩⟩
    rw [nI_clamp (n := s * 5) (by omega), f1']
    exact ⟨v5, ry _ (br_t rfl h)⟩
  have nx : (∀ P : SX → Prop, wX_executeGoto_39 P (nI s) sc oc ne (nI n) ca on st 0 (nI u) xn xe xd al ap ac en eu ea eb sU sL sK sE sG sO gr po ec cx ou tc ss av cs → wpX_execute P (sc, oc, ne, nI n, ca, on, st, 0, nI u, xn, xe, xd, al, ap, ac, en, eu, ea, eb, sU, sL, sK, sE, sG, sO, gr, po, ec, cx, ou, tc, ss, av, cs) (nI s)) → (∀ P : Int32 → SY → Prop, wY_exec_364 P (nI s) sc oc ne (nI n) ca nc on yp (nI u) 0 st yl yr al ap cb cn ac eu ea eb sU sL sK sE sG sO kx ky kd pl rl cm hv ba ad ex cy tc ss av cs bi ou → wpY_exec P (sc, oc, ne, nI n, ca, nc, on, yp, nI u, 0, st, yl, yr, al, ap, cb, cn, ac, eu, ea, eb, sU, sL, sK, sE, sG, sO, kx, ky, kd, pl, rl, cm, hv, ba, ad, ex, cy, tc, ss, av, cs, bi, ou) (nI s)) → Goal := by
    intro hx hy
    have q := fb_nx_in sU (nI u) (n - (s + 1)) (s + 1)
    refine c_jump (fb_nx sU (nI u) (n - (s + 1)) (s + 1)) cx cy tc ss (by omega) (fun w => q.2.2 (by omega)) H (fun P h => hx P ?_) (fun P h => hy P (hy_next hn hs ?_))
    · unfold wX_executeGoto_39
      rw [nI_1]
      exact hx_next hn (by omega) h
    · rw [hus]
      exact h
  rcases hc_v (v := x) (l := fa_N sE s) (by omega) with z | ⟨z, z'⟩ | ⟨j, j1, j2, ej⟩
  · exact nx (fun P h => X2 P (br_t z h)) (fun P h => Y2 P (br_t z h))
  · have z2 : nI (fa_N sE s) < x := Int32.not_le.mp z'
    exact nx (fun P h => X2 P (br_f z (br_t z2 h))) (fun P h => Y2 P (br_f z (br_t z2 h)))
  · have pl2 : fb_pl (fa_N sK s) j = 2 := by rw [hk]; show (if j = 0 then 0 else 2) = 2; exact if_neg (by omega)
    obtain ⟨_, t, ht, e, ut, _⟩ := hr_lab (p := j) W hs (by omega) pl2
    have z1 : ¬ x < 1 := by rw [ej]; exact nI_nlt (b := 1) j1 (by omega)
    have z2 : ¬ nI (fa_N sE s) < x := by rw [ej]; exact nI_nlt j2 (by omega)
    refine c_jump t cx cy tc ss (by omega) (fun _ => ut.trans hus) H (fun P h => X2 P (br_f z1 (br_f z2 ?_))) (fun P h => Y2 P (br_f z1 (br_f z2 ?_)))
    · rw [ej]
      exact ex_xgo W hs hus (by omega) (by omega) e h
    · rw [ej]
      exact ex_ygo W hs hus (by omega) (by omega) pl2 ht e h
theorem ex_print {o oo : Nat} (W : hr_W n al ap sU sL sK sE sG sO) (H : hc_St RC al ap ec ad bi cx cy u) (hs : s < n) (hus : sU s = nI u) (hk : fa_N sK s = 6) (ho : on = nI o) (hoc : oc = nI oo) (h32 : oo ≤ 32) (hle : o ≤ oo) (c_stop : ∀ (r ye' : Int32), r ≠ 0 → (∀ P : SX → Prop, P (sc, oc, ne, nI n, ca, on, st, r, nI u, xn, xe, xd, al, ap, ac, en, eu, ea, eb, sU, sL, sK, sE, sG, sO, gr, po, ec, cx, ou, tc, ss, av, cs) → wpX_execute P (sc, oc, ne, nI n, ca, on, st, 0, nI u, xn, xe, xd, al, ap, ac, en, eu, ea, eb, sU, sL, sK, sE, sG, sO, gr, po, ec, cx, ou, tc, ss, av, cs) (nI s)) → (∀ P : Int32 → SY → Prop, P r (sc, oc, ne, nI n, ca, nc, on, yp, nI u, ye', st, yl, yr, al, ap, cb, cn, ac, eu, ea, eb, sU, sL, sK, sE, sG, sO, kx, ky, kd, pl, rl, cm, hv, ba, ad, ex, cy, tc, ss, av, cs, bi, ou) → wpY_exec P (sc, oc, ne, nI n, ca, nc, on, yp, nI u, 0, st, yl, yr, al, ap, cb, cn, ac, eu, ea, eb, sU, sL, sK, sE, sG, sO, kx, ky, kd, pl, rl, cm, hv, ba, ad, ex, cy, tc, ss, av, cs, bi, ou) (nI s)) → Goal) (c_end : ∀ (t q : Nat) (on' : Int32) (cx' cy' tc' ss' ou' : Nat → Int32), t < n → q ≤ n → sU t = nI u → hc_St RC al ap ec ad bi cx' cy' u → (on' = on ∨ (on < oc ∧ on' = on + 1)) → (∀ P : SX → Prop, P (sc, oc, ne, nI n, ca, on', st, 0, nI u, xn, nI t, nI q, al, ap, ac, en, eu, ea, eb, sU, sL, sK, sE, sG, sO, gr, po, ec, cx', ou', tc', ss', av, cs) → wpX_execute P (sc, oc, ne, nI n, ca, on, st, 0, nI u, xn, xe, xd, al, ap, ac, en, eu, ea, eb, sU, sL, sK, sE, sG, sO, gr, po, ec, cx, ou, tc, ss, av, cs) (nI s)) → (∀ P : Int32 → SY → Prop, wpY_endProc (fun r w => match w with | (sc0, oc0, ne0, ns0, ca0, nc0, on0, yp0, yu0, ye0, st0, yl0, yr0, al0, ap0, cb0, cn0, ac0, eu0, ea0, eb0, sU0, sL0, sK0, sE0, sG0, sO0, kx0, ky0, kd0, pl0, rl0, cm0, hv0, ba0, ad0, ex0, cy0, tc0, ss0, av0, cs0, bi0, ou0) => P r (sc0, oc0, ne0, ns0, ca0, nc0, on0, yp0, yu0, ye0, st0, yl0, yr0, al0, ap0, cb0, cn0, ac0, eu0, ea0, eb0, sU0, sL0, sK0, sE0, sG0, sO0, kx0, ky0, kd0, pl0, rl0, cm0, hv0, ba0, ad0, ex0, cy0, tc0, ss0, av0, cs0, bi0, ou0)) (sc, oc, ne, nI n, ca, nc, on', yp, nI u, 0, st, yl, yr, al, ap, cb, cn, ac, eu, ea, eb, sU, sL, sK, sE, sG, sO, kx, ky, kd, pl, rl, cm, hv, ba, ad, ex, cy', tc', ss', av, cs, bi, ou') (nI t) (nI q) → wpY_exec P (sc, oc, ne, nI n, ca, nc, on, yp, nI u, 0, st, yl, yr, al, ap, cb, cn, ac, eu, ea, eb, sU, sL, sK, sE, sG, sO, kx, ky, kd, pl, rl, cm, hv, ba, ad, ex, cy, tc, ss, av, cs, bi, ou) (nI s)) → Goal) : Goal := by
  have hn := W.1
  have hu4 := H.2.2.2.2.1
  obtain ⟨⟨k1, k2, k3⟩, ⟨e1, e2, e3⟩, _⟩ := ha_V (W.2.1 s hs)
  rw [hk] at k1 e2
  have g5 : fa_N sG s = 1 := by rw [hr_full W hs, hk]; rfl
  obtain ⟨c1, f1, v1⟩ := hr_val (p := 0) W hs (by omega) (by rw [hk]; rfl) hus hu4
  have f1' : sO (s * 5) = nI c1 := f1
  have vs : vp_in (nI s) 64 := vp_in_nI (by omega) (by decide)
  have v5 : vp_in (nI (s * 5)) 320 := vp_in_nI (by omega) (by decide)
  have X0 : ∀ P : SX → Prop, wpX_executePrint P (sc, oc, ne, nI n, ca, on, st, 0, nI u, xn, xe, xd, al, ap, ac, en, eu, ea, eb, sU, sL, sK, sE, sG, sO, gr, po, ec, cx, ou, tc, ss, av, cs) (nI s) → wpX_execute P (sc, oc, ne, nI n, ca, on, st, 0, nI u, xn, xe, xd, al, ap, ac, en, eu, ea, eb, sU, sL, sK, sE, sG, sO, gr, po, ec, cx, ou, tc, ss, av, cs) (nI s) := fun P h =>
    ex_xk (by omega) (by decide) (by decide) k1 ⟨fun z => by omega, fun z => by omega, fun z => by omega, fun z => by omega, fun z => by omega, fun _ => h, fun z => by omega, fun z => by omega, fun z => by omega⟩
  by_cases full : on < oc
  · rcases hc_read (s := s) (p := 0) (sc := sc) (oc := oc) (ne := ne) (ns := nI n) (ca := ca) (on := on) (st := st) (ra := 0) (xn := xn) (xe := xe) (xd := xd) (nc := nc) (yp := yp) (yu := nI u) (yl := yl) (yr := yr) (ac := ac) (en := en) (eu := eu) (ea := ea) (eb := eb) (sU := sU) (sL := sL) (sK := sK) (sE := sE) (sG := sG) (sO := sO) (gr := gr) (po := po) (ou := ou) (tc := tc) (ss := ss) (av := av) (cs := cs) (cb := cb) (cn := cn) (kx := kx) (ky := ky) (kd := kd) (pl := pl) (rl := rl) (cm := cm) (hv := hv) (ba := ba) (ex := ex) H (by omega) (by decide) f1 v1 with ⟨rx, ry⟩ | ⟨x, rx, ry⟩
    · refine c_stop 3 3 (by decide) (fun P h => X0 P (by unfold wpX_executePrint; exact br_t full (rx _ (br_f (by decide) h)))) (fun P h => ?_)
      refine ⟨vs, nm_r (e' := nI u) (by rw [nI_clamp (by omega)]; exact hus) ⟨vs, nm_r (e' := nI 6) (by rw [nI_clamp (by omega)]; exact k1) ⟨vs, nm_r (e' := nI (fa_N sE s)) (by rw [nI_clamp (by omega)]; exact e1) (nm_r (e' := nI (s * 5)) ha_50 (br_f (by decide) (br_f (by decide) (br_f (by decide) (br_f (by decide) (br_f (by decide) (br_t (by decide) (?_))))))))⟩⟩⟩
      rw [nI_clamp (n := s * 5) (by omega), f1']
      exact br_t full ⟨v5, ry _ (br_f (by decide) h)⟩
    · have o32 : o < 32 := by
        rw [ho, hoc, nI_ltI (by omega) (by omega)] at full
        omega
      have vo : vp_in on 32 := by rw [ho]; exact vp_in_nI o32 (by decide)
      refine c_end s s (on + 1) cx cy tc ss (upd ou on.toNatClampNeg x) hs (by omega) hus H (Or.inr ⟨full, rfl⟩) (fun P h => X0 P (by unfold wpX_executePrint; exact br_t full (rx _ (br_t rfl ⟨vo, nm_e (nm_e h)⟩)))) (fun P h => ?_)
      refine ⟨vs, nm_r (e' := nI u) (by rw [nI_clamp (by omega)]; exact hus) ⟨vs, nm_r (e' := nI 6) (by rw [nI_clamp (by omega)]; exact k1) ⟨vs, nm_r (e' := nI (fa_N sE s)) (by rw [nI_clamp (by omega)]; exact e1) (nm_r (e' := nI (s * 5)) ha_50 (br_f (by decide) (br_f (by decide) (br_f (by decide) (br_f (by decide) (br_f (by decide) (br_t (by decide) (?_))))))))⟩⟩⟩
      rw [nI_clamp (n := s * 5) (by omega), f1']
      exact br_t full ⟨v5, ry _ (br_t rfl ⟨vo, nm_e (nm_e h)⟩)⟩
  · refine c_stop 7 0 (by decide) (fun P h => X0 P (br_f full h)) (fun P h => ?_)
    refine ⟨vs, nm_r (e' := nI u) (by rw [nI_clamp (by omega)]; exact hus) ⟨vs, nm_r (e' := nI 6) (by rw [nI_clamp (by omega)]; exact k1) ⟨vs, nm_r (e' := nI (fa_N sE s)) (by rw [nI_clamp (by omega)]; exact e1) (nm_r (e' := nI (s * 5)) ha_50 (br_f (by decide) (br_f (by decide) (br_f (by decide) (br_f (by decide) (br_f (by decide) (br_t (by decide) (?_))))))))⟩⟩⟩
    exact br_f full h
theorem ex_cont (W : hr_W n al ap sU sL sK sE sG sO) (H : hc_St RC al ap ec ad bi cx cy u) (hs : s < n) (hus : sU s = nI u) (hk : fa_N sK s = 7) (c_end : ∀ (t q : Nat) (on' : Int32) (cx' cy' tc' ss' ou' : Nat → Int32), t < n → q ≤ n → sU t = nI u → hc_St RC al ap ec ad bi cx' cy' u → (on' = on ∨ (on < oc ∧ on' = on + 1)) → (∀ P : SX → Prop, P (sc, oc, ne, nI n, ca, on', st, 0, nI u, xn, nI t, nI q, al, ap, ac, en, eu, ea, eb, sU, sL, sK, sE, sG, sO, gr, po, ec, cx', ou', tc', ss', av, cs) → wpX_execute P (sc, oc, ne, nI n, ca, on, st, 0, nI u, xn, xe, xd, al, ap, ac, en, eu, ea, eb, sU, sL, sK, sE, sG, sO, gr, po, ec, cx, ou, tc, ss, av, cs) (nI s)) → (∀ P : Int32 → SY → Prop, wpY_endProc (fun r w => match w with | (sc0, oc0, ne0, ns0, ca0, nc0, on0, yp0, yu0, ye0, st0, yl0, yr0, al0, ap0, cb0, cn0, ac0, eu0, ea0, eb0, sU0, sL0, sK0, sE0, sG0, sO0, kx0, ky0, kd0, pl0, rl0, cm0, hv0, ba0, ad0, ex0, cy0, tc0, ss0, av0, cs0, bi0, ou0) => P r (sc0, oc0, ne0, ns0, ca0, nc0, on0, yp0, yu0, ye0, st0, yl0, yr0, al0, ap0, cb0, cn0, ac0, eu0, ea0, eb0, sU0, sL0, sK0, sE0, sG0, sO0, kx0, ky0, kd0, pl0, rl0, cm0, hv0, ba0, ad0, ex0, cy0, tc0, ss0, av0, cs0, bi0, ou0)) (sc, oc, ne, nI n, ca, nc, on', yp, nI u, 0, st, yl, yr, al, ap, cb, cn, ac, eu, ea, eb, sU, sL, sK, sE, sG, sO, kx, ky, kd, pl, rl, cm, hv, ba, ad, ex, cy', tc', ss', av, cs, bi, ou') (nI t) (nI q) → wpY_exec P (sc, oc, ne, nI n, ca, nc, on, yp, nI u, 0, st, yl, yr, al, ap, cb, cn, ac, eu, ea, eb, sU, sL, sK, sE, sG, sO, kx, ky, kd, pl, rl, cm, hv, ba, ad, ex, cy, tc, ss, av, cs, bi, ou) (nI s)) → Goal) : Goal := by
  have hn := W.1
  obtain ⟨⟨k1, k2, k3⟩, ⟨e1, e2, e3⟩, _⟩ := ha_V (W.2.1 s hs)
  rw [hk] at k1 e2
  have vs : vp_in (nI s) 64 := vp_in_nI (by omega) (by decide)
  refine c_end s s on cx cy tc ss ou hs (by omega) hus H (Or.inl rfl) (fun P h => ex_xk (by omega) (by decide) (by decide) k1 ⟨fun z => by omega, fun z => by omega, fun z => by omega, fun z => by omega, fun z => by omega, fun z => by omega, fun _ => h, fun z => by omega, fun z => by omega⟩) (fun P h => ?_)
  refine ⟨vs, nm_r (e' := nI u) (by rw [nI_clamp (by omega)]; exact hus) ⟨vs, nm_r (e' := nI 7) (by rw [nI_clamp (by omega)]; exact k1) ⟨vs, nm_r (e' := nI (fa_N sE s)) (by rw [nI_clamp (by omega)]; exact e1) (nm_r (e' := nI (s * 5)) ha_50 (br_f (by decide) (br_f (by decide) (br_f (by decide) (br_f (by decide) (br_f (by decide) (br_f (by decide) (br_t (by decide) (?_)))))))))⟩⟩⟩
  exact h
theorem ex_stop (W : hr_W n al ap sU sL sK sE sG sO) (H : hc_St RC al ap ec ad bi cx cy u) (hs : s < n) (hus : sU s = nI u) (hk : fa_N sK s = 9) (c_stop : ∀ (r ye' : Int32), r ≠ 0 → (∀ P : SX → Prop, P (sc, oc, ne, nI n, ca, on, st, r, nI u, xn, xe, xd, al, ap, ac, en, eu, ea, eb, sU, sL, sK, sE, sG, sO, gr, po, ec, cx, ou, tc, ss, av, cs) → wpX_execute P (sc, oc, ne, nI n, ca, on, st, 0, nI u, xn, xe, xd, al, ap, ac, en, eu, ea, eb, sU, sL, sK, sE, sG, sO, gr, po, ec, cx, ou, tc, ss, av, cs) (nI s)) → (∀ P : Int32 → SY → Prop, P r (sc, oc, ne, nI n, ca, nc, on, yp, nI u, ye', st, yl, yr, al, ap, cb, cn, ac, eu, ea, eb, sU, sL, sK, sE, sG, sO, kx, ky, kd, pl, rl, cm, hv, ba, ad, ex, cy, tc, ss, av, cs, bi, ou) → wpY_exec P (sc, oc, ne, nI n, ca, nc, on, yp, nI u, 0, st, yl, yr, al, ap, cb, cn, ac, eu, ea, eb, sU, sL, sK, sE, sG, sO, kx, ky, kd, pl, rl, cm, hv, ba, ad, ex, cy, tc, ss, av, cs, bi, ou) (nI s)) → Goal) : Goal := by
  have hn := W.1
  obtain ⟨⟨k1, k2, k3⟩, ⟨e1, e2, e3⟩, _⟩ := ha_V (W.2.1 s hs)
  rw [hk] at k1 e2
  have vs : vp_in (nI s) 64 := vp_in_nI (by omega) (by decide)
  refine c_stop 1 0 (by decide) (fun P h => ex_xk (by omega) (by decide) (by decide) k1 ⟨fun z => by omega, fun z => by omega, fun z => by omega, fun z => by omega, fun z => by omega, fun z => by omega, fun z => by omega, fun z => by omega, fun _ => h⟩) (fun P h => ?_)
  refine ⟨vs, nm_r (e' := nI u) (by rw [nI_clamp (by omega)]; exact hus) ⟨vs, nm_r (e' := nI 9) (by rw [nI_clamp (by omega)]; exact k1) ⟨vs, nm_r (e' := nI (fa_N sE s)) (by rw [nI_clamp (by omega)]; exact e1) (nm_r (e' := nI (s * 5)) ha_50 (br_f (by decide) (br_f (by decide) (br_f (by decide) (br_f (by decide) (br_f (by decide) (br_f (by decide) (br_f (by decide) (br_f (by decide) (?_))))))))))⟩⟩⟩
  exact h
theorem ex_ret (W : hr_W n al ap sU sL sK sE sG sO) (H : hc_St RC al ap ec ad bi cx cy u) (hs : s < n) (hus : sU s = nI u) (hk : fa_N sK s = 8) (c_stop : ∀ (r ye' : Int32), r ≠ 0 → (∀ P : SX → Prop, P (sc, oc, ne, nI n, ca, on, st, r, nI u, xn, xe, xd, al, ap, ac, en, eu, ea, eb, sU, sL, sK, sE, sG, sO, gr, po, ec, cx, ou, tc, ss, av, cs) → wpX_execute P (sc, oc, ne, nI n, ca, on, st, 0, nI u, xn, xe, xd, al, ap, ac, en, eu, ea, eb, sU, sL, sK, sE, sG, sO, gr, po, ec, cx, ou, tc, ss, av, cs) (nI s)) → (∀ P : Int32 → SY → Prop, P r (sc, oc, ne, nI n, ca, nc, on, yp, nI u, ye', st, yl, yr, al, ap, cb, cn, ac, eu, ea, eb, sU, sL, sK, sE, sG, sO, kx, ky, kd, pl, rl, cm, hv, ba, ad, ex, cy, tc, ss, av, cs, bi, ou) → wpY_exec P (sc, oc, ne, nI n, ca, nc, on, yp, nI u, 0, st, yl, yr, al, ap, cb, cn, ac, eu, ea, eb, sU, sL, sK, sE, sG, sO, kx, ky, kd, pl, rl, cm, hv, ba, ad, ex, cy, tc, ss, av, cs, bi, ou) (nI s)) → Goal) (c_ret : u ≠ 0 → (∀ P : SX → Prop, wpX_leaveUnit P (sc, oc, ne, nI n, ca, on, st, 0, nI u, xn, xe, xd, al, ap, ac, en, eu, ea, eb, sU, sL, sK, sE, sG, sO, gr, po, ec, cx, ou, tc, ss, av, cs) → wpX_execute P (sc, oc, ne, nI n, ca, on, st, 0, nI u, xn, xe, xd, al, ap, ac, en, eu, ea, eb, sU, sL, sK, sE, sG, sO, gr, po, ec, cx, ou, tc, ss, av, cs) (nI s)) → (∀ P : Int32 → SY → Prop, P 0 (sc, oc, ne, nI n, ca, nc, on, -1, nI u, 0, st, yl, yr, al, ap, cb, cn, ac, eu, ea, eb, sU, sL, sK, sE, sG, sO, kx, ky, kd, pl, rl, cm, hv, ba, ad, ex, cy, tc, ss, av, cs, bi, ou) → wpY_exec P (sc, oc, ne, nI n, ca, nc, on, yp, nI u, 0, st, yl, yr, al, ap, cb, cn, ac, eu, ea, eb, sU, sL, sK, sE, sG, sO, kx, ky, kd, pl, rl, cm, hv, ba, ad, ex, cy, tc, ss, av, cs, bi, ou) (nI s)) → Goal) : Goal := by
  have hn := W.1
  have hu4 := H.2.2.2.2.1
  obtain ⟨⟨k1, k2, k3⟩, ⟨e1, e2, e3⟩, _⟩ := ha_V (W.2.1 s hs)
  rw [hk] at k1 e2
  have vs : vp_in (nI s) 64 := vp_in_nI (by omega) (by decide)
  have X0 : ∀ P : SX → Prop, wpX_leaveUnit P (sc, oc, ne, nI n, ca, on, st, 0, nI u, xn, xe, xd, al, ap, ac, en, eu, ea, eb, sU, sL, sK, sE, sG, sO, gr, po, ec, cx, ou, tc, ss, av, cs) → wpX_execute P (sc, oc, ne, nI n, ca, on, st, 0, nI u, xn, xe, xd, al, ap, ac, en, eu, ea, eb, sU, sL, sK, sE, sG, sO, gr, po, ec, cx, ou, tc, ss, av, cs) (nI s) := fun P h =>
    ex_xk (by omega) (by decide) (by decide) k1 ⟨fun z => by omega, fun z => by omega, fun z => by omega, fun z => by omega, fun z => by omega, fun z => by omega, fun z => by omega, fun _ => h, fun z => by omega⟩
  by_cases z : u = 0
  · have z1 : nI u = 0 := by rw [z]; rfl
    refine c_stop 1 0 (by decide) (fun P h => X0 P (br_t z1 h)) (fun P h => ?_)
    refine ⟨vs, nm_r (e' := nI u) (by rw [nI_clamp (by omega)]; exact hus) ⟨vs, nm_r (e' := nI 8) (by rw [nI_clamp (by omega)]; exact k1) ⟨vs, nm_r (e' := nI (fa_N sE s)) (by rw [nI_clamp (by omega)]; exact e1) (nm_r (e' := nI (s * 5)) ha_50 (br_f (by decide) (br_f (by decide) (br_f (by decide) (br_f (by decide) (br_f (by decide) (br_f (by decide) (br_f (by decide) (br_t (by decide) (?_))))))))))⟩⟩⟩
    exact br_t z1 h
  · have z1 : ¬ nI u = 0 := fun e => z (fa_inj (b := 0) (by omega) (by decide) e)
    refine c_ret z X0 (fun P h => ?_)
    refine ⟨vs, nm_r (e' := nI u) (by rw [nI_clamp (by omega)]; exact hus) ⟨vs, nm_r (e' := nI 8) (by rw [nI_clamp (by omega)]; exact k1) ⟨vs, nm_r (e' := nI (fa_N sE s)) (by rw [nI_clamp (by omega)]; exact e1) (nm_r (e' := nI (s * 5)) ha_50 (br_f (by decide) (br_f (by decide) (br_f (by decide) (br_f (by decide) (br_f (by decide) (br_f (by decide) (br_f (by decide) (br_t (by decide) (?_))))))))))⟩⟩⟩
    exact br_f z1 h
end HEY
end
section
section HEZ
/-! DO and CALL -/
variable {sc oc ne ns ca on st ra xu xn xe xd nc yp yu ye yl yr : Int32} {al ap ac en eu ea eb sU sL sK sE sG sO gr po ec cx ou tc ss av cs cb cn kx ky kd pl rl cm hv ba ad ex cy bi : Nat → Int32}
variable {RC : Nat → Nat → Prop} {u n t s : Nat} {Goal : Prop}
theorem ex_do (W : hr_W n al ap sU sL sK sE sG sO) (H : hc_St RC al ap ec ad bi cx cy u) (hs : s < n) (hus : sU s = nI u) (hk : fa_N sK s = 4) (c_stop : ∀ (r ye' : Int32), r ≠ 0 → (∀ P : SX → Prop, P (sc, oc, ne, nI n, ca, on, st, r, nI u, xn, xe, xd, al, ap, ac, en, eu, ea, eb, sU, sL, sK, sE, sG, sO, gr, po, ec, cx, ou, tc, ss, av, cs) → wpX_execute P (sc, oc, ne, nI n, ca, on, st, 0, nI u, xn, xe, xd, al, ap, ac, en, eu, ea, eb, sU, sL, sK, sE, sG, sO, gr, po, ec, cx, ou, tc, ss, av, cs) (nI s)) → (∀ P : Int32 → SY → Prop, P r (sc, oc, ne, nI n, ca, nc, on, yp, nI u, ye', st, yl, yr, al, ap, cb, cn, ac, eu, ea, eb, sU, sL, sK, sE, sG, sO, kx, ky, kd, pl, rl, cm, hv, ba, ad, ex, cy, tc, ss, av, cs, bi, ou) → wpY_exec P (sc, oc, ne, nI n, ca, nc, on, yp, nI u, 0, st, yl, yr, al, ap, cb, cn, ac, eu, ea, eb, sU, sL, sK, sE, sG, sO, kx, ky, kd, pl, rl, cm, hv, ba, ad, ex, cy, tc, ss, av, cs, bi, ou) (nI s)) → Goal) (c_jump : ∀ (p : Nat) (cx' cy' tc' ss' : Nat → Int32), p ≤ n → (p < n → sU p = nI u) → hc_St RC al ap ec ad bi cx' cy' u → (∀ P : SX → Prop, P (sc, oc, ne, nI n, ca, on, st, 0, nI u, nI p, xe, xd, al, ap, ac, en, eu, ea, eb, sU, sL, sK, sE, sG, sO, gr, po, ec, cx', ou, tc', ss', av, cs) → wpX_execute P (sc, oc, ne, nI n, ca, on, st, 0, nI u, xn, xe, xd, al, ap, ac, en, eu, ea, eb, sU, sL, sK, sE, sG, sO, gr, po, ec, cx, ou, tc, ss, av, cs) (nI s)) → (∀ P : Int32 → SY → Prop, P 0 (sc, oc, ne, nI n, ca, nc, on, fb_pc n p, nI u, 0, st, yl, yr, al, ap, cb, cn, ac, eu, ea, eb, sU, sL, sK, sE, sG, sO, kx, ky, kd, pl, rl, cm, hv, ba, ad, ex, cy', tc', ss', av, cs, bi, ou) → wpY_exec P (sc, oc, ne, nI n, ca, nc, on, yp, nI u, 0, st, yl, yr, al, ap, cb, cn, ac, eu, ea, eb, sU, sL, sK, sE, sG, sO, kx, ky, kd, pl, rl, cm, hv, ba, ad, ex, cy, tc, ss, av, cs, bi, ou) (nI s)) → Goal) (c_end : ∀ (t q : Nat) (on' : Int32) (cx' cy' tc' ss' ou' : Nat → Int32), t < n → q ≤ n → sU t = nI u → hc_St RC al ap ec ad bi cx' cy' u → (on' = on ∨ (on < oc ∧ on' = on + 1)) → (∀ P : SX → Prop, P (sc, oc, ne, nI n, ca, on', st, 0, nI u, xn, nI t, nI q, al, ap, ac, en, eu, ea, eb, sU, sL, sK, sE, sG, sO, gr, po, ec, cx', ou', tc', ss', av, cs) → wpX_execute P (sc, oc, ne, nI n, ca, on, st, 0, nI u, xn, xe, xd, al, ap, ac, en, eu, ea, eb, sU, sL, sK, sE, sG, sO, gr, po, ec, cx, ou, tc, ss, av, cs) (nI s)) → (∀ P : Int32 → SY → Prop, wpY_endProc (fun r w => match w with | (sc0, oc0, ne0, ns0, ca0, nc0, on0, yp0, yu0, ye0, st0, yl0, yr0, al0, ap0, cb0, cn0, ac0, eu0, ea0, eb0, sU0, sL0, sK0, sE0, sG0, sO0, kx0, ky0, kd0, pl0, rl0, cm0, hv0, ba0, ad0, ex0, cy0, tc0, ss0, av0, cs0, bi0, ou0) => P r (sc0, oc0, ne0, ns0, ca0, nc0, on0, yp0, yu0, ye0, st0, yl0, yr0, al0, ap0, cb0, cn0, ac0, eu0, ea0, eb0, sU0, sL0, sK0, sE0, sG0, sO0, kx0, ky0, kd0, pl0, rl0, cm0, hv0, ba0, ad0, ex0, cy0, tc0, ss0, av0, cs0, bi0, ou0)) (sc, oc, ne, nI n, ca, nc, on', yp, nI u, 0, st, yl, yr, al, ap, cb, cn, ac, eu, ea, eb, sU, sL, sK, sE, sG, sO, kx, ky, kd, pl, rl, cm, hv, ba, ad, ex, cy', tc', ss', av, cs, bi, ou') (nI t) (nI q) → wpY_exec P (sc, oc, ne, nI n, ca, nc, on, yp, nI u, 0, st, yl, yr, al, ap, cb, cn, ac, eu, ea, eb, sU, sL, sK, sE, sG, sO, kx, ky, kd, pl, rl, cm, hv, ba, ad, ex, cy, tc, ss, av, cs, bi, ou) (nI s)) → Goal) : Goal := by
  have hn := W.1
  have hu4 := H.2.2.2.2.1
  obtain ⟨⟨k1, k2, k3⟩, ⟨e1, e2, e3⟩, _⟩ := ha_V (W.2.1 s hs)
  rw [hk] at k1 e2
  have g5 : fa_N sG s = 5 := by rw [hr_full W hs, hk]; rfl
  obtain ⟨c1, f1, v1⟩ := hr_val (p := 2) W hs (by omega) (by rw [hk]; rfl) hus hu4
  obtain ⟨c2, f2, v2⟩ := hr_val (p := 3) W hs (by omega) (by rw [hk]; rfl) hus hu4
  obtain ⟨c3, f3, v3⟩ := hr_val (p := 4) W hs (by omega) (by rw [hk]; rfl) hus hu4
  obtain ⟨c0, f0, v0⟩ := hr_var (p := 1) W hs (by omega) (by rw [hk]; rfl) hus hu4
  obtain ⟨⟨cl, fl, lcl⟩, te, hte, el, ute, _⟩ := hr_lab (p := 0) W hs (by omega) (by rw [hk]; rfl)
  have fl' : sO (s * 5) = nI cl := fl
  have el' : fb_FL sU sL n (nI u) (nI cl) = nI te := by rw [← hus, ← fl]; exact el
  have vs : vp_in (nI s) 64 := vp_in_nI (by omega) (by decide)
  have v5 : vp_in (nI (s * 5)) 320 := vp_in_nI (by omega) (by decide)
  have w1 : vp_in (nI (s * 5 + 1)) 320 := vp_in_nI (by omega) (by decide)
  have w2 : vp_in (nI (s * 5 + 2)) 320 := vp_in_nI (by omega) (by decide)
  have w3 : vp_in (nI (s * 5 + 3)) 320 := vp_in_nI (by omega) (by decide)
  have w4 : vp_in (nI (s * 5 + 4)) 320 := vp_in_nI (by omega) (by decide)
  have a1 : nI (s * 5) + 1 = nI (s * 5 + 1) := nI_add (s * 5) 1
  have a2 : nI (s * 5) + 2 = nI (s * 5 + 2) := nI_add (s * 5) 2
  have a3 : nI (s * 5) + 3 = nI (s * 5 + 3) := nI_add (s * 5) 3
  have a4 : nI (s * 5) + 4 = nI (s * 5 + 4) := nI_add (s * 5) 4
  have X0 : ∀ P : SX → Prop, wpX_executeDo P (sc, oc, ne, nI n, ca, on, st, 0, nI u, xn, xe, xd, al, ap, ac, en, eu, ea, eb, sU, sL, sK, sE, sG, sO, gr, po, ec, cx, ou, tc, ss, av, cs) (nI s) → wpX_execute P (sc, oc, ne, nI n, ca, on, st, 0, nI u, xn, xe, xd, al, ap, ac, en, eu, ea, eb, sU, sL, sK, sE, sG, sO, gr, po, ec, cx, ou, tc, ss, av, cs) (nI s) := fun P h =>
    ex_xk (by omega) (by decide) (by decide) k1 ⟨fun z => by omega, fun z => by omega, fun z => by omega, fun _ => h, fun z => by omega, fun z => by omega, fun z => by omega, fun z => by omega, fun z => by omega⟩
  rcases hc_read (s := s) (p := 2) (sc := sc) (oc := oc) (ne := ne) (ns := nI n) (ca := ca) (on := on) (st := st) (ra := 0) (xn := xn) (xe := xe) (xd := xd) (nc := nc) (yp := yp) (yu := nI u) (yl := yl) (yr := yr) (ac := ac) (en := en) (eu := eu) (ea := ea) (eb := eb) (sU := sU) (sL := sL) (sK := sK) (sE := sE) (sG := sG) (sO := sO) (gr := gr) (po := po) (ou := ou) (tc := tc) (ss := ss) (av := av) (cs := cs) (cb := cb) (cn := cn) (kx := kx) (ky := ky) (kd := kd) (pl := pl) (rl := rl) (cm := cm) (hv := hv) (ba := ba) (ex := ex) H (by omega) (by decide) f1 v1 with ⟨rx, ry⟩ | ⟨x, rx, ry⟩
  · refine c_stop 3 3 (by decide) (fun P h => X0 P (by unfold wpX_executeDo; exact rx _ (br_f (by decide) h))) (fun P h => ?_)
    refine ⟨vs, nm_r (e' := nI u) (by rw [nI_clamp (by omega)]; exact hus) ⟨vs, nm_r (e' := nI 4) (by rw [nI_clamp (by omega)]; exact k1) ⟨vs, nm_r (e' := nI (fa_N sE s)) (by rw [nI_clamp (by omega)]; exact e1) (nm_r (e' := nI (s * 5)) ha_50 (br_f (by decide) (br_f (by decide) (br_f (by decide) (br_t (by decide) (?_))))))⟩⟩⟩
    rw [a2, nI_clamp (n := s * 5 + 2) (by omega), f1]
    exact ⟨w2, ry _ (br_f (by decide) h)⟩
  rcases hc_read (s := s) (p := 3) (sc := sc) (oc := oc) (ne := ne) (ns := nI n) (ca := ca) (on := on) (st := st) (ra := 0) (xn := xn) (xe := xe) (xd := xd) (nc := nc) (yp := yp) (yu := nI u) (yl := yl) (yr := yr) (ac := ac) (en := en) (eu := eu) (ea := ea) (eb := eb) (sU := sU) (sL := sL) (sK := sK) (sE := sE) (sG := sG) (sO := sO) (gr := gr) (po := po) (ou := ou) (tc := tc) (ss := ss) (av := av) (cs := cs) (cb := cb) (cn := cn) (kx := kx) (ky := ky) (kd := kd) (pl := pl) (rl := rl) (cm := cm) (hv := hv) (ba := ba) (ex := ex) H (by omega) (by decide) f2 v2 with ⟨rx2, ry2⟩ | ⟨y, rx2, ry2⟩
  · refine c_stop 3 3 (by decide) (fun P h => X0 P (by unfold wpX_executeDo; exact rx _ (br_t rfl (rx2 _ (br_f (by decide) h))))) (fun P h => ?_)
    refine ⟨vs, nm_r (e' := nI u) (by rw [nI_clamp (by omega)]; exact hus) ⟨vs, nm_r (e' := nI 4) (by rw [nI_clamp (by omega)]; exact k1) ⟨vs, nm_r (e' := nI (fa_N sE s)) (by rw [nI_clamp (by omega)]; exact e1) (nm_r (e' := nI (s * 5)) ha_50 (br_f (by decide) (br_f (by decide) (br_f (by decide) (br_t (by decide) (?_))))))⟩⟩⟩
    rw [a2, nI_clamp (n := s * 5 + 2) (by omega), f1]
    refine ⟨w2, ry _ (br_t rfl ?_)⟩
    rw [a3, nI_clamp (n := s * 5 + 3) (by omega), f2]
    exact ⟨w3, ry2 _ (br_f (by decide) h)⟩
  rcases hc_read (s := s) (p := 4) (sc := sc) (oc := oc) (ne := ne) (ns := nI n) (ca := ca) (on := on) (st := st) (ra := 0) (xn := xn) (xe := xe) (xd := xd) (nc := nc) (yp := yp) (yu := nI u) (yl := yl) (yr := yr) (ac := ac) (en := en) (eu := eu) (ea := ea) (eb := eb) (sU := sU) (sL := sL) (sK := sK) (sE := sE) (sG := sG) (sO := sO) (gr := gr) (po := po) (ou := ou) (tc := tc) (ss := ss) (av := av) (cs := cs) (cb := cb) (cn := cn) (kx := kx) (ky := ky) (kd := kd) (pl := pl) (rl := rl) (cm := cm) (hv := hv) (ba := ba) (ex := ex) H (by omega) (by decide) f3 v3 with ⟨rx3, ry3⟩ | ⟨z, rx3, ry3⟩
  · refine c_stop 3 3 (by decide) (fun P h => X0 P (by unfold wpX_executeDo; exact rx _ (br_t rfl (rx2 _ (br_t rfl (rx3 _ (br_f (by decide) h))))))) (fun P h => ?_)
    refine ⟨vs, nm_r (e' := nI u) (by rw [nI_clamp (by omega)]; exact hus) ⟨vs, nm_r (e' := nI 4) (by rw [nI_clamp (by omega)]; exact k1) ⟨vs, nm_r (e' := nI (fa_N sE s)) (by rw [nI_clamp (by omega)]; exact e1) (nm_r (e' := nI (s * 5)) ha_50 (br_f (by decide) (br_f (by decide) (br_f (by decide) (br_t (by decide) (?_))))))⟩⟩⟩
    rw [a2, nI_clamp (n := s * 5 + 2) (by omega), f1]
    refine ⟨w2, ry _ (br_t rfl ?_)⟩
    rw [a3, nI_clamp (n := s * 5 + 3) (by omega), f2]
    refine ⟨w3, ry2 _ (br_t rfl ?_)⟩
    rw [a4, nI_clamp (n := s * 5 + 4) (by omega), f3]
    exact ⟨w4, ry3 _ (br_f (by decide) h)⟩
  by_cases zz : z = 0
  · refine c_stop 5 0 (by decide) (fun P h => X0 P (by unfold wpX_executeDo; exact rx _ (br_t rfl (rx2 _ (br_t rfl (rx3 _ (br_t rfl (br_t zz h)))))))) (fun P h => ?_)
    refine ⟨vs, nm_r (e' := nI u) (by rw [nI_clamp (by omega)]; exact hus) ⟨vs, nm_r (e' := nI 4) (by rw [nI_clamp (by omega)]; exact k1) ⟨vs, nm_r (e' := nI (fa_N sE s)) (by rw [nI_clamp (by omega)]; exact e1) (nm_r (e' := nI (s * 5)) ha_50 (br_f (by decide) (br_f (by decide) (br_f (by decide) (br_t (by decide) (?_))))))⟩⟩⟩
    rw [a2, nI_clamp (n := s * 5 + 2) (by omega), f1]
    refine ⟨w2, ry _ (br_t rfl ?_)⟩
    rw [a3, nI_clamp (n := s * 5 + 3) (by omega), f2]
    refine ⟨w3, ry2 _ (br_t rfl ?_)⟩
    rw [a4, nI_clamp (n := s * 5 + 4) (by omega), f3]
    exact ⟨w4, ry3 _ (br_t rfl (br_t zz h))⟩
  rcases hc_cell (c := c0) (sc := sc) (oc := oc) (ne := ne) (ns := nI n) (ca := ca) (on := on) (st := st) (ra := 0) (xn := xn) (xe := xe) (xd := xd) (nc := nc) (yp := yp) (yu := nI u) (ye := 0) (yl := yl) (yr := yr) (ac := ac) (en := en) (eu := eu) (ea := ea) (eb := eb) (sU := sU) (sL := sL) (sK := sK) (sE := sE) (sG := sG) (sO := sO) (gr := gr) (po := po) (ou := ou) (tc := tc) (ss := ss) (av := av) (cs := cs) (cb := cb) (cn := cn) (kx := kx) (ky := ky) (kd := kd) (pl := pl) (rl := rl) (cm := cm) (hv := hv) (ba := ba) (ex := ex) H v0 with ⟨fx, fy⟩ | ⟨a, b, r, fx, fy⟩
  · refine c_stop 3 3 (by decide) (fun P h => X0 P ?_) (fun P h => ?_)
    · unfold wpX_executeDo
      refine rx _ (br_t rfl (rx2 _ (br_t rfl (rx3 _ (br_t rfl (br_f zz ?_))))))
      rw [show nI s * 5 + 1 = nI (s * 5 + 1) from ha_5 (n := 1), nI_clamp (n := s * 5 + 1) (by omega), f0]
      exact ⟨w1, fx _ (br_t rfl h)⟩
    · refine ⟨vs, nm_r (e' := nI u) (by rw [nI_clamp (by omega)]; exact hus) ⟨vs, nm_r (e' := nI 4) (by rw [nI_clamp (by omega)]; exact k1) ⟨vs, nm_r (e' := nI (fa_N sE s)) (by rw [nI_clamp (by omega)]; exact e1) (nm_r (e' := nI (s * 5)) ha_50 (br_f (by decide) (br_f (by decide) (br_f (by decide) (br_t (by decide) (?_))))))⟩⟩⟩
      rw [a2, nI_clamp (n := s * 5 + 2) (by omega), f1]
      refine ⟨w2, ry _ (br_t rfl ?_)⟩
      rw [a3, nI_clamp (n := s * 5 + 3) (by omega), f2]
      refine ⟨w3, ry2 _ (br_t rfl ?_)⟩
      rw [a4, nI_clamp (n := s * 5 + 4) (by omega), f3]
      refine ⟨w4, ry3 _ (br_t rfl (br_f zz ?_))⟩
      rw [a1, nI_clamp (n := s * 5 + 1) (by omega), f0]
      exact ⟨w1, fy _ (br_f (by decide) h)⟩
  have ab := H.1.1 a b r
  have va : vp_in (nI a) 512 := vp_in_nI ab.1 (by decide)
  have H' : hc_St RC al ap ec ad bi (upd cx a x) (upd cy b x) u := hc_putSt H r
  have X2 : ∀ P : SX → Prop, ((((y - x) + z) / z ≤ 0 → wX_executeDo_115 P (nI s) z (((y - x) + z) / z) 0 (nI s) sc oc ne (nI n) ca on st 0 (nI u) xn xe xd al ap ac en eu ea eb sU sL sK sE sG sO gr po ec (upd cx a x) ou tc ss av cs) ∧ (¬ ((y - x) + z) / z ≤ 0 → wX_executeDo_115 P (nI s) z (((y - x) + z) / z) (((y - x) + z) / z) (nI s) sc oc ne (nI n) ca on st 0 (nI u) xn xe xd al ap ac en eu ea eb sU sL sK sE sG sO gr po ec (upd cx a x) ou tc ss av cs)) → wpX_execute P (sc, oc, ne, nI n, ca, on, st, 0, nI u, xn, xe, xd, al, ap, ac, en, eu, ea, eb, sU, sL, sK, sE, sG, sO, gr, po, ec, cx, ou, tc, ss, av, cs) (nI s) := by
    intro P h
    refine X0 P ?_
    unfold wpX_executeDo
    refine rx _ (br_t rfl (rx2 _ (br_t rfl (rx3 _ (br_t rfl (br_f zz ?_))))))
    rw [show nI s * 5 + 1 = nI (s * 5 + 1) from ha_5 (n := 1), nI_clamp (n := s * 5 + 1) (by omega), f0]
    refine ⟨w1, fx _ (br_f (fa_m1 (by omega)) ⟨va, ?_⟩)⟩
    rw [nI_clamp (n := a) (by omega)]
    exact nm_e ⟨zz, nm_e h⟩
  have Y2 : ∀ P : Int32 → SY → Prop, ((((y - x) + z) / z ≤ 0 → wY_exec_536 P (nI s) (nI u) (nI (s * 5)) z (((y - x) + z) / z) 0 (nI s) sc oc ne (nI n) ca nc on yp (nI u) 0 st yl yr al ap cb cn ac eu ea eb sU sL sK sE sG sO kx ky kd pl rl cm hv ba ad ex (upd cy b x) tc ss av cs bi ou) ∧ (¬ ((y - x) + z) / z ≤ 0 → wY_exec_536 P (nI s) (nI u) (nI (s * 5)) z (((y - x) + z) / z) (((y - x) + z) / z) (nI s) sc oc ne (nI n) ca nc on yp (nI u) 0 st yl yr al ap cb cn ac eu ea eb sU sL sK sE sG sO kx ky kd pl rl cm hv ba ad ex (upd cy b x) tc ss av cs bi ou)) → wpY_exec P (sc, oc, ne, nI n, ca, nc, on, yp, nI u, 0, st, yl, yr, al, ap, cb, cn, ac, eu, ea, eb, sU, sL, sK, sE, sG, sO, kx, ky, kd, pl, rl, cm, hv, ba, ad, ex, cy, tc, ss, av, cs, bi, ou) (nI s) := by
    intro P h
    refine ⟨vs, nm_r (e' := nI u) (by rw [nI_clamp (by omega)]; exact hus) ⟨vs, nm_r (e' := nI 4) (by rw [nI_clamp (by omega)]; exact k1) ⟨vs, nm_r (e' := nI (fa_N sE s)) (by rw [nI_clamp (by omega)]; exact e1) (nm_r (e' := nI (s * 5)) ha_50 (br_f (by decide) (br_f (by decide) (br_f (by decide) (br_t (by decide) (?_))))))⟩⟩⟩
    rw [a2, nI_clamp (n := s * 5 + 2) (by omega), f1]
    refine ⟨w2, ry _ (br_t rfl ?_)⟩
    rw [a3, nI_clamp (n := s * 5 + 3) (by omega), f2]
    refine ⟨w3, ry2 _ (br_t rfl ?_)⟩
    rw [a4, nI_clamp (n := s * 5 + 4) (by omega), f3]
    refine ⟨w4, ry3 _ (br_t rfl (br_f zz ?_))⟩
    rw [a1, nI_clamp (n := s * 5 + 1) (by omega), f0]
    exact ⟨w1, fy _ (br_t rfl (hc_put ab.2 ⟨zz, nm_e h⟩))⟩
  generalize ((y - x) + z) / z = trip at X2 Y2
  by_cases tz : trip ≤ 0
  · refine c_end te s on (upd cx a x) (upd cy b x) (upd tc s 0) (upd ss s z) ou hte (by omega) (ute.trans hus) H' (Or.inl rfl) (fun P h => X2 P (br_t tz ?_)) (fun P h => Y2 P (br_t tz ?_))
    · unfold wX_executeDo_115
      rw [nI_clamp (n := s) (by omega), ha_50, nI_clamp (n := s * 5) (by omega), fl']
      refine ⟨vs, nm_e ⟨vs, nm_e (br_t tz ⟨v5, hx_findLabel hn ?_⟩)⟩⟩
      rw [el']
      exact h
    · unfold wY_exec_536
      rw [nI_clamp (n := s) (by omega), nI_clamp (n := s * 5) (by omega), fl']
      refine ⟨vs, nm_e ⟨vs, nm_e (br_t tz ⟨v5, hy_findLabel hn (by omega) ?_⟩)⟩⟩
      rw [el']
      exact br_t (nI_pos' (by omega)) h
  · have q := fb_nx_in sU (nI u) (n - (s + 1)) (s + 1)
    refine c_jump (fb_nx sU (nI u) (n - (s + 1)) (s + 1)) (upd cx a x) (upd cy b x) (upd tc s trip) (upd ss s z) (by omega) (fun w => q.2.2 (by omega)) H' (fun P h => X2 P (br_f tz ?_)) (fun P h => Y2 P (br_f tz ?_))
    · unfold wX_executeDo_115
      rw [nI_clamp (n := s) (by omega), nI_1 s]
      exact ⟨vs, nm_e ⟨vs, nm_e (br_f tz (hx_next hn (by omega) h))⟩⟩
    · unfold wY_exec_536
      rw [nI_clamp (n := s) (by omega)]
      refine ⟨vs, nm_e ⟨vs, nm_e (br_f tz (hy_next hn hs ?_))⟩⟩
      rw [hus]
      exact h
/-- the arguments of a CALL, from place j on -/
def ex_Bd (RC : Nat → Nat → Prop) (ec bi : Nat → Int32) (v j : Nat) : Prop := ∀ m, m < j → ∃ a b, RC a b ∧ ec ((v * 8 + m) * 16) = nI a ∧ bi (v * 4 + m) = nI b
theorem ex_bd {ec bi : Nat → Int32} {v j a b : Nat} (h : ex_Bd RC ec bi v j) (r : RC a b) : ex_Bd RC (upd ec ((v * 8 + j) * 16) (nI a)) (upd bi (v * 4 + j) (nI b)) v (j + 1) := by
  intro m hm
  by_cases e : m = j
  · subst e
    exact ⟨a, b, r, pk_us, pk_us⟩
  · obtain ⟨a', b', r', e1, e2⟩ := h m (by omega)
    exact ⟨a', b', r', by rw [pk_un (by omega)]; exact e1, by rw [pk_un (by omega)]; exact e2⟩
theorem ex_bdo {ec bi : Nat → Int32} {v w j : Nat} {a b : Int32} (hw : w ≠ v) (hj : j < 8) (hj4 : j < 4) (hp : fa_N ap w ≤ 3) (h : fm_Bnd RC (fa_N ap) ec bi w) : fm_Bnd RC (fa_N ap) (upd ec ((v * 8 + j) * 16) a) (upd bi (v * 4 + j) b) w := by
  intro m hm
  obtain ⟨a', b', r', e1, e2⟩ := h m hm
  exact ⟨a', b', r', by rw [pk_un (by omega)]; exact e1, by rw [pk_un (by omega)]; exact e2⟩
theorem ex_args {v g : Nat} (W : hr_W n al ap sU sL sK sE sG sO) (hs : s < n) (hus : sU s = nI u) (hk : fa_N sK s = 5) (hv4 : v < 4) (hvu : v ≠ u) (hg : fa_N sG s = g) (g3 : g ≤ 3) (hgp : g ≤ fa_N ap v) (x7 : Int32) (hx7 : x7 = nI g) :
    ∀ d j, j + d = g → ∀ (ec bi : Nat → Int32), hc_St RC al ap ec ad bi cx cy u → ex_Bd RC ec bi v j →
    (∃ ec' bi', fm_Sto RC (fa_N al) (fa_N ap) ec' ad ∧ (∀ P : SX → Prop, P (sc, oc, ne, nI n, ca, on, st, 3, nI u, xn, xe, xd, al, ap, ac, en, eu, ea, eb, sU, sL, sK, sE, sG, sO, gr, po, ec', cx, ou, tc, ss, av, cs) → wX_executeCall_27 P (nI s) (nI v) (d + 1) (nI j) sc oc ne (nI n) ca on st 0 (nI u) xn xe xd al ap ac en eu ea eb sU sL sK sE sG sO gr po ec cx ou tc ss av cs) ∧ (∀ P : Int32 → SY → Prop, P 3 (sc, oc, ne, nI n, ca, nc, on, yp, nI u, 3, st, yl, yr, al, ap, cb, cn, ac, eu, ea, eb, sU, sL, sK, sE, sG, sO, kx, ky, kd, pl, rl, cm, hv, ba, ad, ex, cy, tc, ss, av, cs, bi', ou) → wY_exec_632 P (nI s) (nI u) (nI (s * 5)) (nI v) x7 (d + 1) (nI j) sc oc ne (nI n) ca nc on yp (nI u) 0 st yl yr al ap cb cn ac eu ea eb sU sL sK sE sG sO kx ky kd pl rl cm hv ba ad ex cy tc ss av cs bi ou)) ∨
    (∃ ec' bi', fm_Sto RC (fa_N al) (fa_N ap) ec' ad ∧ ex_Bd RC ec' bi' v g ∧ (∀ w, w < 4 → w ≠ v → fm_Bnd RC (fa_N ap) ec bi w → fm_Bnd RC (fa_N ap) ec' bi' w) ∧
      (∀ P : SX → Prop, P (sc, oc, ne, nI n, ca, on, st, 0, nI v, nI (fb_nx sU (nI v) n 0), xe, xd, al, ap, ac, en, eu, ea, eb, sU, sL, sK, sE, sG, sO, gr, po, ec', cx, ou, tc, ss, upd av v 1, upd cs v (nI s)) → wX_executeCall_27 P (nI s) (nI v) (d + 1) (nI j) sc oc ne (nI n) ca on st 0 (nI u) xn xe xd al ap ac en eu ea eb sU sL sK sE sG sO gr po ec cx ou tc ss av cs) ∧
      (∀ P : Int32 → SY → Prop, P 0 (sc, oc, ne, nI n, ca, nc, on, fb_pc n (fb_nx sU (nI v) n 0), nI v, 0, st, yl, yr, al, ap, cb, cn, ac, eu, ea, eb, sU, sL, sK, sE, sG, sO, kx, ky, kd, pl, rl, cm, hv, ba, ad, ex, cy, tc, ss, upd av v 1, upd cs v (nI s), bi', ou) → wY_exec_632 P (nI s) (nI u) (nI (s * 5)) (nI v) x7 (d + 1) (nI j) sc oc ne (nI n) ca nc on yp (nI u) 0 st yl yr al ap cb cn ac eu ea eb sU sL sK sE sG sO kx ky kd pl rl cm hv ba ad ex cy tc ss av cs bi ou)) := by
  have hn := W.1
  obtain ⟨_, _, ⟨g1, g2, g4⟩, _⟩ := ha_V (W.2.1 s hs)
  rw [hg] at g1
  have vs : vp_in (nI s) 64 := vp_in_nI (by omega) (by decide)
  have vv : vp_in (nI v) 4 := vp_in_nI hv4 (by decide)
  have nb1 : vp_nar .boolean 1 = 1 := by decide
  intro d
  induction d with
  | zero =>
    intro j hj ec bi H B
    have ej : j = g := by omega
    subst ej
    right
    refine ⟨ec, bi, H.2.1, B, fun _ _ _ h => h, fun P h => ?_, fun P h => ?_⟩
    · refine ⟨vs, ?_⟩
      rw [nI_clamp (n := s) (by omega), g1]
      refine br_t (nI_le (Nat.le_refl j) (by omega)) ⟨vv, ?_⟩
      rw [nI_clamp (n := v) (by omega)]
      refine nm_e ⟨vv, ?_⟩
      rw [nI_clamp (n := v) (by omega), nb1]
      exact nm_e (hx_next (f := 0) hn (by omega) h)
    · rw [hx7]
      refine br_t (nI_le (Nat.le_refl j) (by omega)) ⟨vv, ?_⟩
      rw [nI_clamp (n := v) (by omega), nb1]
      exact nm_e ⟨vv, nm_e (hy_first hn h)⟩
  | succ d ih =>
    intro j hj ec bi H B
    have hu4 := H.2.2.2.2.1
    obtain ⟨c, f, hc⟩ := hr_var (p := j) W hs (by omega) (by rw [hk]; rfl) hus hu4
    have vc : vp_in (nI (s * 5 + j)) 320 := vp_in_nI (by omega) (by decide)
    rcases hc_cell (c := c) (sc := sc) (oc := oc) (ne := ne) (ns := nI n) (ca := ca) (on := on) (st := st) (ra := 0) (xn := xn) (xe := xe) (xd := xd) (nc := nc) (yp := yp) (yu := nI u) (ye := 0) (yl := yl) (yr := yr) (ac := ac) (en := en) (eu := eu) (ea := ea) (eb := eb) (sU := sU) (sL := sL) (sK := sK) (sE := sE) (sG := sG) (sO := sO) (gr := gr) (po := po) (ou := ou) (tc := tc) (ss := ss) (av := av) (cs := cs) (cb := cb) (cn := cn) (kx := kx) (ky := ky) (kd := kd) (pl := pl) (rl := rl) (cm := cm) (hv := hv) (ba := ba) (ex := ex) H hc with ⟨fx, fy⟩ | ⟨a, b, r, fx, fy⟩
    · left
      refine ⟨ec, bi, H.2.1, fun P h => ?_, fun P h => ?_⟩
      · refine ⟨vs, ?_⟩
        rw [nI_clamp (n := s) (by omega), g1]
        refine br_f (nI_ge (by omega) (by omega)) ?_
        rw [ha_5, nI_clamp (n := s * 5 + j) (by omega), f]
        exact ⟨vc, fx _ (br_t rfl h)⟩
      · rw [hx7]
        refine br_f (nI_ge (by omega) (by omega)) ?_
        rw [nI_add (s * 5) j, nI_clamp (n := s * 5 + j) (by omega), f]
        exact ⟨vc, fy _ (br_f (by decide) h)⟩
    · have ab := H.1.1 a b r
      have hP3 : ∀ w, w < 4 → fa_N ap w ≤ 3 := fun w hw => by have := (fa_Rn (H.2.2.2.2.2.2.1 w hw) (by decide)).2; omega
      have hL : ∀ k, k < 32 → 1 ≤ fa_N al k ∧ fa_N al k ≤ 16 := fun k hk => by
        obtain ⟨l, l1, l2, e⟩ := H.2.2.2.2.2.1 k hk
        rw [fa_Re e (by omega)]
        exact ⟨l1, l2⟩
      have H' : hc_St RC al ap (upd ec ((v * 8 + j) * 16) (nI a)) ad (upd bi (v * 4 + j) (nI b)) cx cy u :=
        ⟨H.1, fm_stoU H.2.1 hL hv4 (by omega) (by omega), H.2.2.1, ex_bdo (fun z => hvu z.symm) (by omega) (by omega) (hP3 u hu4) H.2.2.2.1, H.2.2.2.2⟩
      have X1 : ∀ P : SX → Prop, wX_executeCall_27 P (nI s) (nI v) (d + 1) (nI (j + 1)) sc oc ne (nI n) ca on st 0 (nI u) xn xe xd al ap ac en eu ea eb sU sL sK sE sG sO gr po (upd ec ((v * 8 + j) * 16) (nI a)) cx ou tc ss av cs → wX_executeCall_27 P (nI s) (nI v) (d + 1 + 1) (nI j) sc oc ne (nI n) ca on st 0 (nI u) xn xe xd al ap ac en eu ea eb sU sL sK sE sG sO gr po ec cx ou tc ss av cs := by
        intro P h
        refine ⟨vs, ?_⟩
        rw [nI_clamp (n := s) (by omega), g1]
        refine br_f (nI_ge (by omega) (by omega)) ?_
        rw [ha_5, nI_clamp (n := s * 5 + j) (by omega), f]
        refine ⟨vc, fx _ (br_f (fa_m1 (by omega)) ?_)⟩
        rw [ha_us, ha_16, nI_clamp (n := (v * 8 + j) * 16) (by omega)]
        exact ⟨vp_in_nI (by omega) (by decide), nm_e (nm_r (nI_1 j) h)⟩
      have Y1 : ∀ P : Int32 → SY → Prop, wY_exec_632 P (nI s) (nI u) (nI (s * 5)) (nI v) x7 (d + 1) (nI (j + 1)) sc oc ne (nI n) ca nc on yp (nI u) 0 st yl yr al ap cb cn ac eu ea eb sU sL sK sE sG sO kx ky kd pl rl cm hv ba ad ex cy tc ss av cs (upd bi (v * 4 + j) (nI b)) ou → wY_exec_632 P (nI s) (nI u) (nI (s * 5)) (nI v) x7 (d + 1 + 1) (nI j) sc oc ne (nI n) ca nc on yp (nI u) 0 st yl yr al ap cb cn ac eu ea eb sU sL sK sE sG sO kx ky kd pl rl cm hv ba ad ex cy tc ss av cs bi ou := by
        intro P h
        have e7 : ¬ x7 ≤ nI j := by rw [hx7]; exact nI_ge (by omega) (by omega)
        refine br_f e7 ?_
        rw [nI_add (s * 5) j, nI_clamp (n := s * 5 + j) (by omega), f]
        refine ⟨vc, fy _ (br_t rfl ?_)⟩
        rw [ha_4, nI_clamp (n := v * 4 + j) (by omega)]
        exact ⟨vp_in_nI (by omega) (by decide), nm_e (nm_r (nI_1 j) h)⟩
      rcases ih (j + 1) (by omega) _ _ H' (ex_bd B r) with ⟨ec', bi', S', gx, gy⟩ | ⟨ec', bi', S', B', K', gx, gy⟩
      · exact Or.inl ⟨ec', bi', S', fun P h => X1 P (gx P h), fun P h => Y1 P (gy P h)⟩
      · exact Or.inr ⟨ec', bi', S', B', fun w hw hne hb => K' w hw hne (ex_bdo hne (by omega) (by omega) (hP3 w hw) hb), fun P h => X1 P (gx P h), fun P h => Y1 P (gy P h)⟩
theorem ex_call (W : hr_W n al ap sU sL sK sE sG sO) (H : hc_St RC al ap ec ad bi cx cy u) (hs : s < n) (hus : sU s = nI u) (hk : fa_N sK s = 5) (hav : av u ≠ 0) (c_stop : ∀ (r ye' : Int32), r ≠ 0 → (∀ P : SX → Prop, P (sc, oc, ne, nI n, ca, on, st, r, nI u, xn, xe, xd, al, ap, ac, en, eu, ea, eb, sU, sL, sK, sE, sG, sO, gr, po, ec, cx, ou, tc, ss, av, cs) → wpX_execute P (sc, oc, ne, nI n, ca, on, st, 0, nI u, xn, xe, xd, al, ap, ac, en, eu, ea, eb, sU, sL, sK, sE, sG, sO, gr, po, ec, cx, ou, tc, ss, av, cs) (nI s)) → (∀ P : Int32 → SY → Prop, P r (sc, oc, ne, nI n, ca, nc, on, yp, nI u, ye', st, yl, yr, al, ap, cb, cn, ac, eu, ea, eb, sU, sL, sK, sE, sG, sO, kx, ky, kd, pl, rl, cm, hv, ba, ad, ex, cy, tc, ss, av, cs, bi, ou) → wpY_exec P (sc, oc, ne, nI n, ca, nc, on, yp, nI u, 0, st, yl, yr, al, ap, cb, cn, ac, eu, ea, eb, sU, sL, sK, sE, sG, sO, kx, ky, kd, pl, rl, cm, hv, ba, ad, ex, cy, tc, ss, av, cs, bi, ou) (nI s)) → Goal) (c_stopc : ∀ (ec' bi' : Nat → Int32), fm_Sto RC (fa_N al) (fa_N ap) ec' ad → (∀ P : SX → Prop, P (sc, oc, ne, nI n, ca, on, st, 3, nI u, xn, xe, xd, al, ap, ac, en, eu, ea, eb, sU, sL, sK, sE, sG, sO, gr, po, ec', cx, ou, tc, ss, av, cs) → wpX_execute P (sc, oc, ne, nI n, ca, on, st, 0, nI u, xn, xe, xd, al, ap, ac, en, eu, ea, eb, sU, sL, sK, sE, sG, sO, gr, po, ec, cx, ou, tc, ss, av, cs) (nI s)) → (∀ P : Int32 → SY → Prop, P 3 (sc, oc, ne, nI n, ca, nc, on, yp, nI u, 3, st, yl, yr, al, ap, cb, cn, ac, eu, ea, eb, sU, sL, sK, sE, sG, sO, kx, ky, kd, pl, rl, cm, hv, ba, ad, ex, cy, tc, ss, av, cs, bi', ou) → wpY_exec P (sc, oc, ne, nI n, ca, nc, on, yp, nI u, 0, st, yl, yr, al, ap, cb, cn, ac, eu, ea, eb, sU, sL, sK, sE, sG, sO, kx, ky, kd, pl, rl, cm, hv, ba, ad, ex, cy, tc, ss, av, cs, bi, ou) (nI s)) → Goal) (c_call : ∀ (v : Nat) (ec' bi' : Nat → Int32), v < 4 → v ≠ 0 → av v = 0 → fm_Sto RC (fa_N al) (fa_N ap) ec' ad → fm_Bnd RC (fa_N ap) ec' bi' v → (∀ w, w < 4 → w ≠ v → fm_Bnd RC (fa_N ap) ec bi w → fm_Bnd RC (fa_N ap) ec' bi' w) → (∀ P : SX → Prop, P (sc, oc, ne, nI n, ca, on, st, 0, nI v, nI (fb_nx sU (nI v) n 0), xe, xd, al, ap, ac, en, eu, ea, eb, sU, sL, sK, sE, sG, sO, gr, po, ec', cx, ou, tc, ss, upd av v 1, upd cs v (nI s)) → wpX_execute P (sc, oc, ne, nI n, ca, on, st, 0, nI u, xn, xe, xd, al, ap, ac, en, eu, ea, eb, sU, sL, sK, sE, sG, sO, gr, po, ec, cx, ou, tc, ss, av, cs) (nI s)) → (∀ P : Int32 → SY → Prop, P 0 (sc, oc, ne, nI n, ca, nc, on, fb_pc n (fb_nx sU (nI v) n 0), nI v, 0, st, yl, yr, al, ap, cb, cn, ac, eu, ea, eb, sU, sL, sK, sE, sG, sO, kx, ky, kd, pl, rl, cm, hv, ba, ad, ex, cy, tc, ss, upd av v 1, upd cs v (nI s), bi', ou) → wpY_exec P (sc, oc, ne, nI n, ca, nc, on, yp, nI u, 0, st, yl, yr, al, ap, cb, cn, ac, eu, ea, eb, sU, sL, sK, sE, sG, sO, kx, ky, kd, pl, rl, cm, hv, ba, ad, ex, cy, tc, ss, av, cs, bi, ou) (nI s)) → Goal) : Goal := by
  have hn := W.1
  have hu4 := H.2.2.2.2.1
  obtain ⟨⟨k1, k2, k3⟩, ⟨e1, e2, e3⟩, _⟩ := ha_V (W.2.1 s hs)
  rw [hk] at k1 e2
  have k5 : sK s = 5 := k1
  have gE : fa_N sG s = fa_N sE s / 4 := by rw [hr_full W hs, hk]; rfl
  have pE := W.2.2.2.2.2 s hs k5
  have ee : fa_N sE s % 4 ≠ 0 := by unfold fb_xok at e2; omega
  have vs : vp_in (nI s) 64 := vp_in_nI (by omega) (by decide)
  have vv : vp_in (nI (fa_N sE s % 4)) 4 := vp_in_nI (by omega) (by decide)
  have X0 : ∀ P : SX → Prop, ((av (fa_N sE s % 4) = 0 → ∃ k, wX_executeCall_27 P (nI s) (nI (fa_N sE s % 4)) k 0 sc oc ne (nI n) ca on st 0 (nI u) xn xe xd al ap ac en eu ea eb sU sL sK sE sG sO gr po ec cx ou tc ss av cs) ∧ (¬ av (fa_N sE s % 4) = 0 → P (sc, oc, ne, nI n, ca, on, st, 6, nI u, xn, xe, xd, al, ap, ac, en, eu, ea, eb, sU, sL, sK, sE, sG, sO, gr, po, ec, cx, ou, tc, ss, av, cs))) → wpX_execute P (sc, oc, ne, nI n, ca, on, st, 0, nI u, xn, xe, xd, al, ap, ac, en, eu, ea, eb, sU, sL, sK, sE, sG, sO, gr, po, ec, cx, ou, tc, ss, av, cs) (nI s) := by
    intro P h
    refine ex_xk (by omega) (by decide) (by decide) k1 ⟨fun z => by omega, fun z => by omega, fun z => by omega, fun z => by omega, fun _ => ⟨vs, by decide, nm_r (e' := nI (fa_N sE s % 4)) (by rw [nI_clamp (by omega), e1, ha_r4 (by omega)]) ⟨vv, ?_⟩⟩, fun z => by omega, fun z => by omega, fun z => by omega, fun z => by omega⟩
    rw [nI_clamp (n := fa_N sE s % 4) (by omega)]
    exact h
  have Y0 : ∀ P : Int32 → SY → Prop, ((av (fa_N sE s % 4) = 0 → ∃ k, wY_exec_632 P (nI s) (nI u) (nI (s * 5)) (nI (fa_N sE s % 4)) (nI (fa_N sE s / 4)) k 0 sc oc ne (nI n) ca nc on yp (nI u) 0 st yl yr al ap cb cn ac eu ea eb sU sL sK sE sG sO kx ky kd pl rl cm hv ba ad ex cy tc ss av cs bi ou) ∧ (¬ av (fa_N sE s % 4) = 0 → P 6 (sc, oc, ne, nI n, ca, nc, on, yp, nI u, 0, st, yl, yr, al, ap, cb, cn, ac, eu, ea, eb, sU, sL, sK, sE, sG, sO, kx, ky, kd, pl, rl, cm, hv, ba, ad, ex, cy, tc, ss, av, cs, bi, ou))) → wpY_exec P (sc, oc, ne, nI n, ca, nc, on, yp, nI u, 0, st, yl, yr, al, ap, cb, cn, ac, eu, ea, eb, sU, sL, sK, sE, sG, sO, kx, ky, kd, pl, rl, cm, hv, ba, ad, ex, cy, tc, ss, av, cs, bi, ou) (nI s) := by
    intro P h
    refine ⟨vs, nm_r (e' := nI u) (by rw [nI_clamp (by omega)]; exact hus) ⟨vs, nm_r (e' := nI 5) (by rw [nI_clamp (by omega)]; exact k1) ⟨vs, nm_r (e' := nI (fa_N sE s)) (by rw [nI_clamp (by omega)]; exact e1) (nm_r (e' := nI (s * 5)) ha_50 (br_f (by decide) (br_f (by decide) (br_f (by decide) (br_f (by decide) (br_t (by decide) (?_)))))))⟩⟩⟩
    refine ⟨by decide, nm_r (ha_r4 (by omega)) ⟨by decide, nm_r (ha_d4 (by omega)) ⟨vv, ?_⟩⟩⟩
    rw [nI_clamp (n := fa_N sE s % 4) (by omega)]
    exact h
  by_cases act : av (fa_N sE s % 4) = 0
  · have hvu : fa_N sE s % 4 ≠ u := fun z => hav (z ▸ act)
    rcases ex_args (x7 := nI (fa_N sE s / 4)) (g := fa_N sE s / 4) (sc := sc) (oc := oc) (ne := ne) (ca := ca) (on := on) (st := st) (xn := xn) (xe := xe) (xd := xd) (nc := nc) (yp := yp) (yl := yl) (yr := yr) (ac := ac) (en := en) (eu := eu) (ea := ea) (eb := eb) (gr := gr) (po := po) (ou := ou) (tc := tc) (ss := ss) (av := av) (cs := cs) (cb := cb) (cn := cn) (kx := kx) (ky := ky) (kd := kd) (pl := pl) (rl := rl) (cm := cm) (hv := hv) (ba := ba) (ex := ex) W hs hus hk (by omega) hvu gE (by omega) (by omega) rfl (fa_N sE s / 4) 0 (by omega) ec bi H (fun m hm => absurd hm (Nat.not_lt_zero m)) with ⟨ec', bi', S', gx, gy⟩ | ⟨ec', bi', S', B', K', gx, gy⟩
    · exact c_stopc ec' bi' S' (fun P h => X0 P (br_t act ⟨_, gx P h⟩)) (fun P h => Y0 P (br_t act ⟨_, gy P h⟩))
    · refine c_call (fa_N sE s % 4) ec' bi' (by omega) ee act S' ?_ K' (fun P h => X0 P (br_t act ⟨_, gx P h⟩)) (fun P h => Y0 P (br_t act ⟨_, gy P h⟩))
      intro m hm
      exact B' m (by omega)
  · exact c_stop 6 0 (by decide) (fun P h => X0 P (br_f act h)) (fun P h => Y0 P (br_f act h))
end HEZ
end
section
section HRF
/-! the run's invariant -/
def hr_D (al ap : Nat → Int32) : Prop := (∀ k, k < 32 → ∃ l, 1 ≤ l ∧ l ≤ 16 ∧ al k = nI l) ∧ (∀ u, u < 4 → fa_R 4 (ap u)) ∧ (∀ k, k < 32 → ¬ gd_St (fa_N ap) k → al k = 1)
def hr_R (RC : Nat → Nat → Prop) (n : Nat) (al ap sU ec ad bi cx cy av cs : Nat → Int32) (u : Nat) (l : List Nat) : Prop :=
  fm_Bi RC ∧ fm_Sto RC (fa_N al) (fa_N ap) ec ad ∧ fm_Mem RC cx cy ∧ (∀ w, w ∈ u :: l → fm_Bnd RC (fa_N ap) ec bi w) ∧ (u :: l).Nodup ∧ (∀ w, w < 4 → (av w ≠ 0 ↔ w ∈ u :: l)) ∧ fm_Ch (fun w => fa_N sU (fa_N cs w)) (u :: l) ∧ (∀ w, w ∈ u :: l → w ≠ 0 → fa_R n (cs w))
variable {RC : Nat → Nat → Prop} {n u s : Nat} {l : List Nat} {al ap sU sL sK sE sG sO ec ad bi cx cy av cs : Nat → Int32}
theorem hr_u4 (R : hr_R RC n al ap sU ec ad bi cx cy av cs u l) : u < 4 := fm_ch4 R.2.2.2.2.2.2.1
theorem hr_st (D : hr_D al ap) (R : hr_R RC n al ap sU ec ad bi cx cy av cs u l) : hc_St RC al ap ec ad bi cx cy u :=
  ⟨R.1, R.2.1, R.2.2.1, R.2.2.2.1 u List.mem_cons_self, hr_u4 R, D.1, D.2.1, D.2.2⟩
theorem hr_mem {cx' cy' : Nat → Int32} (R : hr_R RC n al ap sU ec ad bi cx cy av cs u l) (H : hc_St RC al ap ec ad bi cx' cy' u) : hr_R RC n al ap sU ec ad bi cx' cy' av cs u l :=
  ⟨R.1, R.2.1, H.2.2.1, R.2.2.2⟩
theorem hr_act (R : hr_R RC n al ap sU ec ad bi cx cy av cs u l) : av u ≠ 0 := (R.2.2.2.2.2.1 u (hr_u4 R)).mpr List.mem_cons_self
theorem fm_chAll {par : Nat → Nat} : ∀ {l : List Nat}, fm_Ch par l → ∀ x, x ∈ l → x < 4 := by
  intro l
  induction l with
  | nil => intro h; exact absurd h id
  | cons u l ih =>
    intro h x hx
    rcases List.mem_cons.mp hx with e | e
    · rw [e]; exact fm_ch4 h
    · cases l with
      | nil => exact absurd e List.not_mem_nil
      | cons w l' => exact ih h.2.2.2 x e
theorem fm_chC {par par' : Nat → Nat} : ∀ {l : List Nat}, (∀ x, x ∈ l → par x = par' x) → fm_Ch par l → fm_Ch par' l := by
  intro l
  induction l with
  | nil => intro _ h; exact h
  | cons u l ih =>
    intro he h
    cases l with
    | nil => exact h
    | cons w l' => exact ⟨h.1, h.2.1, (he u List.mem_cons_self).symm.trans h.2.2.1, ih (fun x hx => he x (List.mem_cons_of_mem _ hx)) h.2.2.2⟩
theorem hr_leave (W : hr_W n al ap sU sL sK sE sG sO) (R : hr_R RC n al ap sU ec ad bi cx cy av cs u l) (hu : u ≠ 0) :
    ∃ w l' c, l = w :: l' ∧ c < n ∧ cs u = nI c ∧ sU c = nI w ∧ hr_R RC n al ap sU ec ad bi cx cy (upd av u 0) cs w l' := by
  have hn := W.1
  obtain ⟨r1, r2, r3, r4, r5, r6, r7, r8⟩ := R
  obtain ⟨w, l', rfl, u4, pw, ch⟩ := fm_chNe r7 hu
  obtain ⟨c, hc, ec1⟩ := r8 u List.mem_cons_self hu
  have e2 : fa_N cs u = c := fa_Re ec1 (by omega)
  obtain ⟨_, _, _, ⟨hs1, hs2⟩, _⟩ := ha_V (W.2.1 c hc)
  have pw' : fa_N sU (fa_N cs u) = w := pw
  rw [e2] at pw'
  have nd := List.nodup_cons.mp r5
  refine ⟨w, l', c, rfl, hc, ec1, by rw [← pw']; exact hs1, r1, r2, r3, fun x hx => r4 x (List.mem_cons_of_mem _ hx), nd.2, ?_, ch, fun x hx => r8 x (List.mem_cons_of_mem _ hx)⟩
  intro x hx
  by_cases e : x = u
  · subst e
    rw [pk_us]
    exact ⟨fun z => absurd rfl z, fun z => absurd z nd.1⟩
  · rw [pk_un e, r6 x hx]
    constructor
    · intro z
      rcases List.mem_cons.mp z with z | z
      · exact absurd z e
      · exact z
    · exact fun z => List.mem_cons_of_mem _ z
theorem hr_call {v : Nat} {ec' bi' : Nat → Int32} (R : hr_R RC n al ap sU ec ad bi cx cy av cs u l) (hs : s < n) (hn : n ≤ 64) (hus : sU s = nI u) (hv4 : v < 4) (hv0 : v ≠ 0) (hav : av v = 0)
    (S' : fm_Sto RC (fa_N al) (fa_N ap) ec' ad) (Bv : fm_Bnd RC (fa_N ap) ec' bi' v) (K : ∀ w, w < 4 → w ≠ v → fm_Bnd RC (fa_N ap) ec bi w → fm_Bnd RC (fa_N ap) ec' bi' w) :
    hr_R RC n al ap sU ec' ad bi' cx cy (upd av v 1) (upd cs v (nI s)) v (u :: l) := by
  have u4 := hr_u4 R
  obtain ⟨r1, r2, r3, r4, r5, r6, r7, r8⟩ := R
  have nv : v ∉ u :: l := fun z => (r6 v hv4).mpr z hav
  have ne : ∀ x, x ∈ u :: l → x ≠ v := fun x hx e => nv (e ▸ hx)
  refine ⟨r1, S', r3, ?_, List.nodup_cons.mpr ⟨nv, r5⟩, ?_, ⟨hv0, hv4, ?_, fm_chC ?_ r7⟩, ?_⟩
  · intro x hx
    rcases List.mem_cons.mp hx with e | e
    · rw [e]; exact Bv
    · exact K x (fm_chAll r7 x e) (ne x e) (r4 x e)
  · intro x hx
    by_cases e : x = v
    · subst e
      rw [pk_us]
      exact ⟨fun _ => List.mem_cons_self, fun _ => by decide⟩
    · rw [pk_un e, r6 x hx]
      constructor
      · exact fun z => List.mem_cons_of_mem _ z
      · intro z
        rcases List.mem_cons.mp z with z | z
        · exact absurd z e
        · exact z
  · show fa_N sU (fa_N (upd cs v (nI s)) v) = u
    rw [fa_Nu (by omega), if_pos rfl, fa_Re hus (by omega)]
  · intro x hx
    show fa_N sU (fa_N cs x) = fa_N sU (fa_N (upd cs v (nI s)) x)
    rw [fa_Nu (by omega), if_neg (ne x hx)]
  · intro x hx h0
    rcases List.mem_cons.mp hx with e | e
    · rw [e, pk_us]; exact ⟨s, hs, rfl⟩
    · rw [pk_un (ne x e)]; exact r8 x e h0
/-- both sides end, with one answer, in states that ER takes -/
def hr_G (ER : Int32 → SX → SY → Prop) (WX : (Int32 → SX → Prop) → Prop) (WY : (Int32 → SY → Prop) → Prop) : Prop :=
  ∃ r X' Y', ER r X' Y' ∧ (∀ post, post r X' → WX post) ∧ (∀ post, post r Y' → WY post)
theorem hr_Gm {ER : Int32 → SX → SY → Prop} {WX WX' : (Int32 → SX → Prop) → Prop} {WY WY' : (Int32 → SY → Prop) → Prop} (h : hr_G ER WX WY) (hx : ∀ post, WX post → WX' post) (hy : ∀ post, WY post → WY' post) : hr_G ER WX' WY' := by
  obtain ⟨r, X', Y', e, a, b⟩ := h
  exact ⟨r, X', Y', e, fun post z => hx post (a post z), fun post z => hy post (b post z)⟩
end HRF
end
section
section HRL
/-! the two loops, a turn each -/
variable {sc oc ne ns ca on st ra xu xn xe xd nc yp yu ye yl yr : Int32} {al ap ac en eu ea eb sU sL sK sE sG sO gr po ec cx ou tc ss av cs cb cn kx ky kd pl rl cm hv ba ad ex cy bi : Nat → Int32}
variable {n u p t q c w turn it k mx : Nat}
variable {RC : Nat → Nat → Prop}
theorem rx_exec {post : Int32 → SX → Prop} {st : Nat} (tb : turn < 1000000) (hn : n ≤ 64) (hp : p < n) (hm : mx ≤ 5000) (hs : st < mx) (h : wpX_execute (fun v => match v with | (sc0, oc0, ne0, ns0, ca0, on0, st0, ra0, xu0, xn0, xe0, xd0, al0, ap0, ac0, en0, eu0, ea0, eb0, sU0, sL0, sK0, sE0, sG0, sO0, gr0, po0, ec0, cx0, ou0, tc0, ss0, av0, cs0) => ∀ z, z = nI turn + 1 → wX_run_25 post (nI mx) k z sc0 oc0 ne0 ns0 ca0 on0 st0 ra0 xu0 xn0 xe0 xd0 al0 ap0 ac0 en0 eu0 ea0 eb0 sU0 sL0 sK0 sE0 sG0 sO0 gr0 po0 ec0 cx0 ou0 tc0 ss0 av0 cs0) (sc, oc, ne, nI n, ca, on, nI (st + 1), 0, nI u, nI p, -1, xd, al, ap, ac, en, eu, ea, eb, sU, sL, sK, sE, sG, sO, gr, po, ec, cx, ou, tc, ss, av, cs) (nI p)) :
    wX_run_25 post (nI mx) (k + 1) (nI turn) sc oc ne (nI n) ca on (nI st) 0 (nI u) (nI p) (-1) xd al ap ac en eu ea eb sU sL sK sE sG sO gr po ec cx ou tc ss av cs :=
  br_f (nI_ge (b := 1000000) tb (by decide)) (br_t rfl (br_t rfl (br_t (nI_lt hp (by omega)) (br_t (nI_lt hs (by omega)) (nm_r (nI_1 st) h)))))
theorem rx_proc {post : Int32 → SX → Prop} {st : Nat} (tb : turn < 1000000) (ht : t < 64) (h : wpX_processEnd (fun v => match v with | (sc0, oc0, ne0, ns0, ca0, on0, st0, ra0, xu0, xn0, xe0, xd0, al0, ap0, ac0, en0, eu0, ea0, eb0, sU0, sL0, sK0, sE0, sG0, sO0, gr0, po0, ec0, cx0, ou0, tc0, ss0, av0, cs0) => ∀ z, z = nI turn + 1 → wX_run_25 post (nI mx) k z sc0 oc0 ne0 ns0 ca0 on0 st0 ra0 xu0 xn0 xe0 xd0 al0 ap0 ac0 en0 eu0 ea0 eb0 sU0 sL0 sK0 sE0 sG0 sO0 gr0 po0 ec0 cx0 ou0 tc0 ss0 av0 cs0) (sc, oc, ne, nI n, ca, on, nI st, 0, nI u, xn, nI t, xd, al, ap, ac, en, eu, ea, eb, sU, sL, sK, sE, sG, sO, gr, po, ec, cx, ou, tc, ss, av, cs)) : wX_run_25 post (nI mx) (k + 1) (nI turn) sc oc ne (nI n) ca on (nI st) 0 (nI u) xn (nI t) xd al ap ac en eu ea eb sU sL sK sE sG sO gr po ec cx ou tc ss av cs :=
  br_f (nI_ge (b := 1000000) tb (by decide)) (br_t rfl (br_f (fa_m1 (by omega)) h))
theorem rx_leave {post : Int32 → SX → Prop} {st : Nat} (tb : turn < 1000000) (hn : n ≤ 64) (h : wpX_leaveUnit (fun v => match v with | (sc0, oc0, ne0, ns0, ca0, on0, st0, ra0, xu0, xn0, xe0, xd0, al0, ap0, ac0, en0, eu0, ea0, eb0, sU0, sL0, sK0, sE0, sG0, sO0, gr0, po0, ec0, cx0, ou0, tc0, ss0, av0, cs0) => ∀ z, z = nI turn + 1 → wX_run_25 post (nI mx) k z sc0 oc0 ne0 ns0 ca0 on0 st0 ra0 xu0 xn0 xe0 xd0 al0 ap0 ac0 en0 eu0 ea0 eb0 sU0 sL0 sK0 sE0 sG0 sO0 gr0 po0 ec0 cx0 ou0 tc0 ss0 av0 cs0) (sc, oc, ne, nI n, ca, on, nI st, 0, nI u, nI n, -1, xd, al, ap, ac, en, eu, ea, eb, sU, sL, sK, sE, sG, sO, gr, po, ec, cx, ou, tc, ss, av, cs)) : wX_run_25 post (nI mx) (k + 1) (nI turn) sc oc ne (nI n) ca on (nI st) 0 (nI u) (nI n) (-1) xd al ap ac en eu ea eb sU sL sK sE sG sO gr po ec cx ou tc ss av cs :=
  br_f (nI_ge (b := 1000000) tb (by decide)) (br_t rfl (br_t rfl (br_f (nI_nlt (Nat.le_refl n) (by omega)) h)))
theorem rx_stop {post : Int32 → SX → Prop} (tb : turn < 1000000) (hr : ra ≠ 0) (h : post ra (sc, oc, ne, ns, ca, on, st, ra, xu, xn, xe, xd, al, ap, ac, en, eu, ea, eb, sU, sL, sK, sE, sG, sO, gr, po, ec, cx, ou, tc, ss, av, cs)) : wX_run_25 post (nI mx) (k + 1) (nI turn) sc oc ne ns ca on st ra xu xn xe xd al ap ac en eu ea eb sU sL sK sE sG sO gr po ec cx ou tc ss av cs :=
  br_f (nI_ge (b := 1000000) tb (by decide)) (br_f hr h)
theorem rx_steps {post : Int32 → SX → Prop} (tb : turn + 1 < 1000000) (hn : n ≤ 64) (hp : p < n) (hm : mx ≤ 5000) (h : post 2 (sc, oc, ne, nI n, ca, on, nI mx, 2, nI u, nI p, -1, xd, al, ap, ac, en, eu, ea, eb, sU, sL, sK, sE, sG, sO, gr, po, ec, cx, ou, tc, ss, av, cs)) :
    wX_run_25 post (nI mx) (k + 1 + 1) (nI turn) sc oc ne (nI n) ca on (nI mx) 0 (nI u) (nI p) (-1) xd al ap ac en eu ea eb sU sL sK sE sG sO gr po ec cx ou tc ss av cs :=
  br_f (nI_ge (b := 1000000) (by omega) (by decide)) (br_t rfl (br_t rfl (br_t (nI_lt hp (by omega)) (br_f (nI_nlt (Nat.le_refl mx) (by omega)) (nm_r (nI_1 turn) (rx_stop tb (by decide) h))))))
theorem ry_exec {post : Int32 → SY → Prop} {st : Nat} (tb : it < 20000) (hn : n ≤ 64) (hp : p < n) (hm : mx ≤ 5000) (hs : st < mx) (h : wpY_exec (fun r v => match v with | (sc0, oc0, ne0, ns0, ca0, nc0, on0, yp0, yu0, ye0, st0, yl0, yr0, al0, ap0, cb0, cn0, ac0, eu0, ea0, eb0, sU0, sL0, sK0, sE0, sG0, sO0, kx0, ky0, kd0, pl0, rl0, cm0, hv0, ba0, ad0, ex0, cy0, tc0, ss0, av0, cs0, bi0, ou0) => ((r = 0 → ∀ z, z = nI it + 1 → wY_loop_2 post (nI mx) k z sc0 oc0 ne0 ns0 ca0 nc0 on0 yp0 yu0 ye0 st0 yl0 yr0 al0 ap0 cb0 cn0 ac0 eu0 ea0 eb0 sU0 sL0 sK0 sE0 sG0 sO0 kx0 ky0 kd0 pl0 rl0 cm0 hv0 ba0 ad0 ex0 cy0 tc0 ss0 av0 cs0 bi0 ou0) ∧ (¬ r = 0 → post r (sc0, oc0, ne0, ns0, ca0, nc0, on0, yp0, yu0, ye0, st0, yl0, yr0, al0, ap0, cb0, cn0, ac0, eu0, ea0, eb0, sU0, sL0, sK0, sE0, sG0, sO0, kx0, ky0, kd0, pl0, rl0, cm0, hv0, ba0, ad0, ex0, cy0, tc0, ss0, av0, cs0, bi0, ou0)))) (sc, oc, ne, nI n, ca, nc, on, nI p, nI u, 0, nI (st + 1), yl, yr, al, ap, cb, cn, ac, eu, ea, eb, sU, sL, sK, sE, sG, sO, kx, ky, kd, pl, rl, cm, hv, ba, ad, ex, cy, tc, ss, av, cs, bi, ou) (nI p)) : wY_loop_2 post (nI mx) (k + 1) (nI it) sc oc ne (nI n) ca nc on (nI p) (nI u) 0 (nI st) yl yr al ap cb cn ac eu ea eb sU sL sK sE sG sO kx ky kd pl rl cm hv ba ad ex cy tc ss av cs bi ou :=
  br_f (nI_ge (b := 20000) tb (by decide)) (br_t (nI_pos' (by omega)) (br_f (fun e => by have := fa_inj (by omega) (by omega) e; omega) (nm_r (nI_1 st) h)))
theorem ry_steps {post : Int32 → SY → Prop} (tb : it < 20000) (hn : n ≤ 64) (hp : p < n) (h : post 2 (sc, oc, ne, nI n, ca, nc, on, nI p, nI u, 0, nI mx, yl, yr, al, ap, cb, cn, ac, eu, ea, eb, sU, sL, sK, sE, sG, sO, kx, ky, kd, pl, rl, cm, hv, ba, ad, ex, cy, tc, ss, av, cs, bi, ou)) : wY_loop_2 post (nI mx) (k + 1) (nI it) sc oc ne (nI n) ca nc on (nI p) (nI u) 0 (nI mx) yl yr al ap cb cn ac eu ea eb sU sL sK sE sG sO kx ky kd pl rl cm hv ba ad ex cy tc ss av cs bi ou :=
  br_f (nI_ge (b := 20000) tb (by decide)) (br_t (nI_pos' (by omega)) (br_t rfl h))
theorem ry_done {post : Int32 → SY → Prop} {st : Nat} (tb : it < 20000) (hu : u = 0) (h : post 1 (sc, oc, ne, nI n, ca, nc, on, -1, nI u, 0, nI st, yl, yr, al, ap, cb, cn, ac, eu, ea, eb, sU, sL, sK, sE, sG, sO, kx, ky, kd, pl, rl, cm, hv, ba, ad, ex, cy, tc, ss, av, cs, bi, ou)) : wY_loop_2 post (nI mx) (k + 1) (nI it) sc oc ne (nI n) ca nc on (-1) (nI u) 0 (nI st) yl yr al ap cb cn ac eu ea eb sU sL sK sE sG sO kx ky kd pl rl cm hv ba ad ex cy tc ss av cs bi ou :=
  br_f (nI_ge (b := 20000) tb (by decide)) (br_f (by decide) (br_t (by rw [hu]; rfl) h))
theorem ry_leave {post : Int32 → SY → Prop} {st : Nat} (tb : it < 20000) (hu : u ≠ 0) (u4 : u < 4) (hc : c < 64) (e1 : cs u = nI c) (e2 : sU c = nI w) (h : wpY_endProc (fun r v => match v with | (sc0, oc0, ne0, ns0, ca0, nc0, on0, yp0, yu0, ye0, st0, yl0, yr0, al0, ap0, cb0, cn0, ac0, eu0, ea0, eb0, sU0, sL0, sK0, sE0, sG0, sO0, kx0, ky0, kd0, pl0, rl0, cm0, hv0, ba0, ad0, ex0, cy0, tc0, ss0, av0, cs0, bi0, ou0) => ((r = 0 → ∀ z, z = nI it + 1 → wY_loop_2 post (nI mx) k z sc0 oc0 ne0 ns0 ca0 nc0 on0 yp0 yu0 ye0 st0 yl0 yr0 al0 ap0 cb0 cn0 ac0 eu0 ea0 eb0 sU0 sL0 sK0 sE0 sG0 sO0 kx0 ky0 kd0 pl0 rl0 cm0 hv0 ba0 ad0 ex0 cy0 tc0 ss0 av0 cs0 bi0 ou0) ∧ (¬ r = 0 → post r (sc0, oc0, ne0, ns0, ca0, nc0, on0, yp0, yu0, ye0, st0, yl0, yr0, al0, ap0, cb0, cn0, ac0, eu0, ea0, eb0, sU0, sL0, sK0, sE0, sG0, sO0, kx0, ky0, kd0, pl0, rl0, cm0, hv0, ba0, ad0, ex0, cy0, tc0, ss0, av0, cs0, bi0, ou0)))) (sc, oc, ne, nI n, ca, nc, on, -1, nI w, 0, nI st, yl, yr, al, ap, cb, cn, ac, eu, ea, eb, sU, sL, sK, sE, sG, sO, kx, ky, kd, pl, rl, cm, hv, ba, ad, ex, cy, tc, ss, upd av u 0, cs, bi, ou) (nI c) (nI c)) : wY_loop_2 post (nI mx) (k + 1) (nI it) sc oc ne (nI n) ca nc on (-1) (nI u) 0 (nI st) yl yr al ap cb cn ac eu ea eb sU sL sK sE sG sO kx ky kd pl rl cm hv ba ad ex cy tc ss av cs bi ou := by
  have vu : vp_in (nI u) 4 := vp_in_nI u4 (by decide)
  have nb0 : vp_nar .boolean 0 = 0 := by decide
  refine br_f (nI_ge (b := 20000) tb (by decide)) (br_f (by decide) (br_f (fun e => hu (fa_inj (b := 0) (by omega) (by decide) e)) ⟨vu, ?_⟩))
  rw [nI_clamp (n := u) (by omega), nb0]
  refine nm_e ⟨vu, nm_r e1 ⟨vp_in_nI hc (by decide), ?_⟩⟩
  rw [nI_clamp (n := c) (by omega)]
  exact nm_r e2 h
theorem rx_lv {P : SX → Prop} (hu : u ≠ 0) (u4 : u < 4) (hc : c < 64) (e1 : cs u = nI c) (e2 : sU c = nI w) (h : P (sc, oc, ne, ns, ca, on, st, ra, nI w, xn, nI c, nI c, al, ap, ac, en, eu, ea, eb, sU, sL, sK, sE, sG, sO, gr, po, ec, cx, ou, tc, ss, upd av u 0, cs)) : wpX_leaveUnit P (sc, oc, ne, ns, ca, on, st, ra, nI u, xn, xe, xd, al, ap, ac, en, eu, ea, eb, sU, sL, sK, sE, sG, sO, gr, po, ec, cx, ou, tc, ss, av, cs) := by
  have vu : vp_in (nI u) 4 := vp_in_nI u4 (by decide)
  have nb0 : vp_nar .boolean 0 = 0 := by decide
  refine br_f (fun e => hu (fa_inj (b := 0) (by omega) (by decide) e)) ⟨vu, ?_⟩
  rw [nI_clamp (n := u) (by omega), nb0]
  refine nm_r e1 ⟨vu, nm_e ⟨vp_in_nI hc (by decide), ?_⟩⟩
  rw [nI_clamp (n := c) (by omega)]
  refine nm_r e2 ?_
  unfold wpX_finish
  exact h
theorem rx_lv0 {P : SX → Prop} (hu : u = 0) (h : P (sc, oc, ne, ns, ca, on, st, 1, nI u, xn, xe, xd, al, ap, ac, en, eu, ea, eb, sU, sL, sK, sE, sG, sO, gr, po, ec, cx, ou, tc, ss, av, cs)) : wpX_leaveUnit P (sc, oc, ne, ns, ca, on, st, ra, nI u, xn, xe, xd, al, ap, ac, en, eu, ea, eb, sU, sL, sK, sE, sG, sO, gr, po, ec, cx, ou, tc, ss, av, cs) := br_t (by rw [hu]; rfl) h
end HRL
end
section
section HRM
/-! the run: both loops in lockstep -/
variable {sc oc ne ns ca on st ra xu xn xe xd nc yp yu ye yl yr : Int32} {al ap ac en eu ea eb sU sL sK sE sG sO gr po ec cx ou tc ss av cs cb cn kx ky kd pl rl cm hv ba ad ex cy bi : Nat → Int32}
variable {RC : Nat → Nat → Prop} {n mx oo : Nat} {ER : Int32 → SX → SY → Prop}
/-- from a state whose end processing is due -/
theorem hm_end {WX : (Int32 → SX → Prop) → Prop} {WY : (Int32 → SY → Prop) → Prop} {M u t q turn it st o : Nat} {l : List Nat} (W : hr_W n al ap sU sL sK sE sG sO) (D : hr_D al ap) (hm : mx ≤ 5000) (hE : ∀ (r xu xn xe xd yp yu ye on : Int32) (cx cy tc ss ou ec bi av cs : Nat → Int32) (o st : Nat), r ≠ 0 → fm_Sto RC (fa_N al) (fa_N ap) ec ad → fm_Mem RC cx cy → on = nI o → o ≤ oo → ER r (sc, oc, ne, nI n, ca, on, nI st, r, xu, xn, xe, xd, al, ap, ac, en, eu, ea, eb, sU, sL, sK, sE, sG, sO, gr, po, ec, cx, ou, tc, ss, av, cs) (sc, oc, ne, nI n, ca, nc, on, yp, yu, ye, nI st, yl, yr, al, ap, cb, cn, ac, eu, ea, eb, sU, sL, sK, sE, sG, sO, kx, ky, kd, pl, rl, cm, hv, ba, ad, ex, cy, tc, ss, av, cs, bi, ou)) (ih : ∀ (cx cy tc ss ou ec bi av cs : Nat → Int32) (on xd : Int32) (u p turn it st o : Nat) (l : List Nat), hr_R RC n al ap sU ec ad bi cx cy av cs u l → on = nI o → o ≤ oo → p ≤ n → (p < n → sU p = nI u) → turn + 2 * l.length ≤ 4 * st → it + l.length ≤ 2 * st → st ≤ mx → 4 * (mx - st) + 2 * l.length < M → hr_G ER (fun post => ∃ k, wX_run_25 post (nI mx) k (nI turn) sc oc ne (nI n) ca on (nI st) 0 (nI u) (nI p) (-1) xd al ap ac en eu ea eb sU sL sK sE sG sO gr po ec cx ou tc ss av cs) (fun post => ∃ k, wY_loop_2 post (nI mx) k (nI it) sc oc ne (nI n) ca nc on (fb_pc n p) (nI u) 0 (nI st) yl yr al ap cb cn ac eu ea eb sU sL sK sE sG sO kx ky kd pl rl cm hv ba ad ex cy tc ss av cs bi ou))
    (R : hr_R RC n al ap sU ec ad bi cx cy av cs u l) (ho : on = nI o) (hoo : o ≤ oo) (ht : t < n) (hq : q ≤ n) (hut : sU t = nI u) (b1 : turn + 1 + 2 * l.length ≤ 4 * st) (b2 : it + l.length ≤ 2 * st) (b3 : st ≤ mx) (b4 : 4 * (mx - st) + 2 * l.length < M)
    (hX : ∀ post, (∃ k, wX_run_25 post (nI mx) k (nI turn) sc oc ne (nI n) ca on (nI st) 0 (nI u) xn (nI t) (nI q) al ap ac en eu ea eb sU sL sK sE sG sO gr po ec cx ou tc ss av cs) → WX post)
    (hY3 : ∀ (cy' tc' : Nat → Int32), (∀ P : Int32 → SY → Prop, P 3 (sc, oc, ne, nI n, ca, nc, on, yp, nI u, 3, nI st, yl, yr, al, ap, cb, cn, ac, eu, ea, eb, sU, sL, sK, sE, sG, sO, kx, ky, kd, pl, rl, cm, hv, ba, ad, ex, cy', tc', ss, av, cs, bi, ou) → wpY_endProc P (sc, oc, ne, nI n, ca, nc, on, yp, nI u, 0, nI st, yl, yr, al, ap, cb, cn, ac, eu, ea, eb, sU, sL, sK, sE, sG, sO, kx, ky, kd, pl, rl, cm, hv, ba, ad, ex, cy, tc, ss, av, cs, bi, ou) (nI t) (nI q)) → ∀ post, post 3 (sc, oc, ne, nI n, ca, nc, on, yp, nI u, 3, nI st, yl, yr, al, ap, cb, cn, ac, eu, ea, eb, sU, sL, sK, sE, sG, sO, kx, ky, kd, pl, rl, cm, hv, ba, ad, ex, cy', tc', ss, av, cs, bi, ou) → WY post)
    (hY0 : ∀ (p : Nat) (cy' tc' : Nat → Int32), (∀ P : Int32 → SY → Prop, P 0 (sc, oc, ne, nI n, ca, nc, on, fb_pc n p, nI u, 0, nI st, yl, yr, al, ap, cb, cn, ac, eu, ea, eb, sU, sL, sK, sE, sG, sO, kx, ky, kd, pl, rl, cm, hv, ba, ad, ex, cy', tc', ss, av, cs, bi, ou) → wpY_endProc P (sc, oc, ne, nI n, ca, nc, on, yp, nI u, 0, nI st, yl, yr, al, ap, cb, cn, ac, eu, ea, eb, sU, sL, sK, sE, sG, sO, kx, ky, kd, pl, rl, cm, hv, ba, ad, ex, cy, tc, ss, av, cs, bi, ou) (nI t) (nI q)) → ∀ post, (∃ k, wY_loop_2 post (nI mx) k (nI it) sc oc ne (nI n) ca nc on (fb_pc n p) (nI u) 0 (nI st) yl yr al ap cb cn ac eu ea eb sU sL sK sE sG sO kx ky kd pl rl cm hv ba ad ex cy' tc' ss av cs bi ou) → WY post) : hr_G ER WX WY := by
  have hn := W.1
  have tb : turn + 1 < 1000000 := by omega
  rcases he_both (q := q) (sc := sc) (oc := oc) (ne := ne) (ca := ca) (on := on) (st := nI st) (xn := xn) (nc := nc) (yp := yp) (yl := yl) (yr := yr) (ac := ac) (en := en) (eu := eu) (ea := ea) (eb := eb) (gr := gr) (po := po) (ou := ou) (tc := tc) (ss := ss) (av := av) (cs := cs) (cb := cb) (cn := cn) (kx := kx) (ky := ky) (kd := kd) (pl := pl) (rl := rl) (cm := cm) (hv := hv) (ba := ba) (ex := ex) W ht hq hut (hr_st D R) with ⟨cx', cy', tc', H', gx, gy⟩ | ⟨cx', cy', tc', p, H', p1, p2, gx, gy⟩
  · refine ⟨3, _, _, hE 3 (nI u) xn (-1) (nI q) yp (nI u) 3 on cx' cy' tc' ss ou ec bi av cs o st (by decide) H'.2.1 H'.2.2.1 ho hoo, fun post h => hX post ⟨0 + 1 + 1, rx_proc (by omega) (by omega) (gx _ (nm_r (nI_1 turn) (rx_stop tb (by decide) h)))⟩, fun post h => hY3 cy' tc' gy post h⟩
  · have key := ih cx' cy' tc' ss ou ec bi av cs on (nI q) u p (turn + 1) it st o l (hr_mem R H') ho hoo p1 p2 b1 b2 b3 b4
    refine hr_Gm key (fun post h => hX post ?_) (fun post h => hY0 p cy' tc' gy post h)
    obtain ⟨k, h⟩ := h
    exact ⟨k + 1, rx_proc (by omega) (by omega) (gx _ (nm_r (nI_1 turn) h))⟩
theorem hm_step {M u p turn it st o : Nat} {l : List Nat} (W : hr_W n al ap sU sL sK sE sG sO) (D : hr_D al ap) (hm : mx ≤ 5000) (hoc : oc = nI oo) (h32 : oo ≤ 32) (hE : ∀ (r xu xn xe xd yp yu ye on : Int32) (cx cy tc ss ou ec bi av cs : Nat → Int32) (o st : Nat), r ≠ 0 → fm_Sto RC (fa_N al) (fa_N ap) ec ad → fm_Mem RC cx cy → on = nI o → o ≤ oo → ER r (sc, oc, ne, nI n, ca, on, nI st, r, xu, xn, xe, xd, al, ap, ac, en, eu, ea, eb, sU, sL, sK, sE, sG, sO, gr, po, ec, cx, ou, tc, ss, av, cs) (sc, oc, ne, nI n, ca, nc, on, yp, yu, ye, nI st, yl, yr, al, ap, cb, cn, ac, eu, ea, eb, sU, sL, sK, sE, sG, sO, kx, ky, kd, pl, rl, cm, hv, ba, ad, ex, cy, tc, ss, av, cs, bi, ou)) (ih : ∀ (cx cy tc ss ou ec bi av cs : Nat → Int32) (on xd : Int32) (u p turn it st o : Nat) (l : List Nat), hr_R RC n al ap sU ec ad bi cx cy av cs u l → on = nI o → o ≤ oo → p ≤ n → (p < n → sU p = nI u) → turn + 2 * l.length ≤ 4 * st → it + l.length ≤ 2 * st → st ≤ mx → 4 * (mx - st) + 2 * l.length < M → hr_G ER (fun post => ∃ k, wX_run_25 post (nI mx) k (nI turn) sc oc ne (nI n) ca on (nI st) 0 (nI u) (nI p) (-1) xd al ap ac en eu ea eb sU sL sK sE sG sO gr po ec cx ou tc ss av cs) (fun post => ∃ k, wY_loop_2 post (nI mx) k (nI it) sc oc ne (nI n) ca nc on (fb_pc n p) (nI u) 0 (nI st) yl yr al ap cb cn ac eu ea eb sU sL sK sE sG sO kx ky kd pl rl cm hv ba ad ex cy tc ss av cs bi ou))
    (R : hr_R RC n al ap sU ec ad bi cx cy av cs u l) (ho : on = nI o) (hoo : o ≤ oo) (hp : p < n) (hup : sU p = nI u) (b1 : turn + 2 * l.length ≤ 4 * st) (b2 : it + l.length ≤ 2 * st) (b3 : st < mx) (b4 : 4 * (mx - st) + 2 * l.length < M + 1) :
    hr_G ER (fun post => ∃ k, wX_run_25 post (nI mx) k (nI turn) sc oc ne (nI n) ca on (nI st) 0 (nI u) (nI p) (-1) xd al ap ac en eu ea eb sU sL sK sE sG sO gr po ec cx ou tc ss av cs) (fun post => ∃ k, wY_loop_2 post (nI mx) k (nI it) sc oc ne (nI n) ca nc on (nI p) (nI u) 0 (nI st) yl yr al ap cb cn ac eu ea eb sU sL sK sE sG sO kx ky kd pl rl cm hv ba ad ex cy tc ss av cs bi ou) := by
  have hn := W.1
  have H := hr_st D R
  have u4 := hr_u4 R
  have tb : turn + 2 < 1000000 := by omega
  have ib : it + 2 < 20000 := by omega
  have c_stop : ∀ (r ye' : Int32), r ≠ 0 → (∀ P : SX → Prop, P (sc, oc, ne, nI n, ca, on, nI (st + 1), r, nI u, nI p, -1, xd, al, ap, ac, en, eu, ea, eb, sU, sL, sK, sE, sG, sO, gr, po, ec, cx, ou, tc, ss, av, cs) → wpX_execute P (sc, oc, ne, nI n, ca, on, nI (st + 1), 0, nI u, nI p, -1, xd, al, ap, ac, en, eu, ea, eb, sU, sL, sK, sE, sG, sO, gr, po, ec, cx, ou, tc, ss, av, cs) (nI p)) → (∀ P : Int32 → SY → Prop, P r (sc, oc, ne, nI n, ca, nc, on, nI p, nI u, ye', nI (st + 1), yl, yr, al, ap, cb, cn, ac, eu, ea, eb, sU, sL, sK, sE, sG, sO, kx, ky, kd, pl, rl, cm, hv, ba, ad, ex, cy, tc, ss, av, cs, bi, ou) → wpY_exec P (sc, oc, ne, nI n, ca, nc, on, nI p, nI u, 0, nI (st + 1), yl, yr, al, ap, cb, cn, ac, eu, ea, eb, sU, sL, sK, sE, sG, sO, kx, ky, kd, pl, rl, cm, hv, ba, ad, ex, cy, tc, ss, av, cs, bi, ou) (nI p)) →
      hr_G ER (fun post => ∃ k, wX_run_25 post (nI mx) k (nI turn) sc oc ne (nI n) ca on (nI st) 0 (nI u) (nI p) (-1) xd al ap ac en eu ea eb sU sL sK sE sG sO gr po ec cx ou tc ss av cs) (fun post => ∃ k, wY_loop_2 post (nI mx) k (nI it) sc oc ne (nI n) ca nc on (nI p) (nI u) 0 (nI st) yl yr al ap cb cn ac eu ea eb sU sL sK sE sG sO kx ky kd pl rl cm hv ba ad ex cy tc ss av cs bi ou) := by
    intro r ye' hr hx hy
    refine ⟨r, _, _, hE r (nI u) (nI p) (-1) xd (nI p) (nI u) ye' on cx cy tc ss ou ec bi av cs o (st + 1) hr H.2.1 H.2.2.1 ho hoo, fun post h => ⟨0 + 1 + 1, rx_exec (by omega) hn hp hm b3 (hx _ (nm_r (nI_1 turn) (rx_stop (by omega) hr h)))⟩, fun post h => ⟨0 + 1, ry_exec (by omega) hn hp hm b3 (hy _ (br_f hr h))⟩⟩
  have c_jump : ∀ (p' : Nat) (cx' cy' tc' ss' : Nat → Int32), p' ≤ n → (p' < n → sU p' = nI u) → hc_St RC al ap ec ad bi cx' cy' u → (∀ P : SX → Prop, P (sc, oc, ne, nI n, ca, on, nI (st + 1), 0, nI u, nI p', -1, xd, al, ap, ac, en, eu, ea, eb, sU, sL, sK, sE, sG, sO, gr, po, ec, cx', ou, tc', ss', av, cs) → wpX_execute P (sc, oc, ne, nI n, ca, on, nI (st + 1), 0, nI u, nI p, -1, xd, al, ap, ac, en, eu, ea, eb, sU, sL, sK, sE, sG, sO, gr, po, ec, cx, ou, tc, ss, av, cs) (nI p)) → (∀ P : Int32 → SY → Prop, P 0 (sc, oc, ne, nI n, ca, nc, on, fb_pc n p', nI u, 0, nI (st + 1), yl, yr, al, ap, cb, cn, ac, eu, ea, eb, sU, sL, sK, sE, sG, sO, kx, ky, kd, pl, rl, cm, hv, ba, ad, ex, cy', tc', ss', av, cs, bi, ou) → wpY_exec P (sc, oc, ne, nI n, ca, nc, on, nI p, nI u, 0, nI (st + 1), yl, yr, al, ap, cb, cn, ac, eu, ea, eb, sU, sL, sK, sE, sG, sO, kx, ky, kd, pl, rl, cm, hv, ba, ad, ex, cy, tc, ss, av, cs, bi, ou) (nI p)) →
      hr_G ER (fun post => ∃ k, wX_run_25 post (nI mx) k (nI turn) sc oc ne (nI n) ca on (nI st) 0 (nI u) (nI p) (-1) xd al ap ac en eu ea eb sU sL sK sE sG sO gr po ec cx ou tc ss av cs) (fun post => ∃ k, wY_loop_2 post (nI mx) k (nI it) sc oc ne (nI n) ca nc on (nI p) (nI u) 0 (nI st) yl yr al ap cb cn ac eu ea eb sU sL sK sE sG sO kx ky kd pl rl cm hv ba ad ex cy tc ss av cs bi ou) := by
    intro p' cx' cy' tc' ss' hp' hup' H' hx hy
    refine hr_Gm (ih cx' cy' tc' ss' ou ec bi av cs on xd u p' (turn + 1) (it + 1) (st + 1) o l (hr_mem R H') ho hoo hp' hup' (by omega) (by omega) (by omega) (by omega)) ?_ ?_
    · rintro post ⟨k, h⟩
      exact ⟨k + 1, rx_exec (by omega) hn hp hm b3 (hx _ (nm_r (nI_1 turn) h))⟩
    · rintro post ⟨k, h⟩
      exact ⟨k + 1, ry_exec (by omega) hn hp hm b3 (hy _ (br_t rfl (nm_r (nI_1 it) h)))⟩
  have c_end : ∀ (t q : Nat) (on' : Int32) (cx' cy' tc' ss' ou' : Nat → Int32), t < n → q ≤ n → sU t = nI u → hc_St RC al ap ec ad bi cx' cy' u → (on' = on ∨ (on < oc ∧ on' = on + 1)) → (∀ P : SX → Prop, P (sc, oc, ne, nI n, ca, on', nI (st + 1), 0, nI u, nI p, nI t, nI q, al, ap, ac, en, eu, ea, eb, sU, sL, sK, sE, sG, sO, gr, po, ec, cx', ou', tc', ss', av, cs) → wpX_execute P (sc, oc, ne, nI n, ca, on, nI (st + 1), 0, nI u, nI p, -1, xd, al, ap, ac, en, eu, ea, eb, sU, sL, sK, sE, sG, sO, gr, po, ec, cx, ou, tc, ss, av, cs) (nI p)) → (∀ P : Int32 → SY → Prop, wpY_endProc (fun r w => match w with | (sc0, oc0, ne0, ns0, ca0, nc0, on0, yp0, yu0, ye0, st0, yl0, yr0, al0, ap0, cb0, cn0, ac0, eu0, ea0, eb0, sU0, sL0, sK0, sE0, sG0, sO0, kx0, ky0, kd0, pl0, rl0, cm0, hv0, ba0, ad0, ex0, cy0, tc0, ss0, av0, cs0, bi0, ou0) => P r (sc0, oc0, ne0, ns0, ca0, nc0, on0, yp0, yu0, ye0, st0, yl0, yr0, al0, ap0, cb0, cn0, ac0, eu0, ea0, eb0, sU0, sL0, sK0, sE0, sG0, sO0, kx0, ky0, kd0, pl0, rl0, cm0, hv0, ba0, ad0, ex0, cy0, tc0, ss0, av0, cs0, bi0, ou0)) (sc, oc, ne, nI n, ca, nc, on', nI p, nI u, 0, nI (st + 1), yl, yr, al, ap, cb, cn, ac, eu, ea, eb, sU, sL, sK, sE, sG, sO, kx, ky, kd, pl, rl, cm, hv, ba, ad, ex, cy', tc', ss', av, cs, bi, ou') (nI t) (nI q) → wpY_exec P (sc, oc, ne, nI n, ca, nc, on, nI p, nI u, 0, nI (st + 1), yl, yr, al, ap, cb, cn, ac, eu, ea, eb, sU, sL, sK, sE, sG, sO, kx, ky, kd, pl, rl, cm, hv, ba, ad, ex, cy, tc, ss, av, cs, bi, ou) (nI p)) →
      hr_G ER (fun post => ∃ k, wX_run_25 post (nI mx) k (nI turn) sc oc ne (nI n) ca on (nI st) 0 (nI u) (nI p) (-1) xd al ap ac en eu ea eb sU sL sK sE sG sO gr po ec cx ou tc ss av cs) (fun post => ∃ k, wY_loop_2 post (nI mx) k (nI it) sc oc ne (nI n) ca nc on (nI p) (nI u) 0 (nI st) yl yr al ap cb cn ac eu ea eb sU sL sK sE sG sO kx ky kd pl rl cm hv ba ad ex cy tc ss av cs bi ou) := by
    intro t q on' cx' cy' tc' ss' ou' ht hq hut H' hon hx hy
    have ho' : ∃ o', on' = nI o' ∧ o' ≤ oo := by
      rcases hon with e | ⟨e1, e2⟩
      · exact ⟨o, e.trans ho, hoo⟩
      · rw [ho, hoc, nI_ltI (by omega) (by omega)] at e1
        exact ⟨o + 1, by rw [e2, ho, nI_1], by omega⟩
    obtain ⟨o', ho1, ho2⟩ := ho'
    refine hm_end (tc := tc') (ss := ss') (ou := ou') (q := q) (turn := turn + 1) (it := it + 1) (st := st + 1) (xn := nI p) (yp := nI p) W D hm hE ih (hr_mem R H') ho1 ho2 ht hq hut (by omega) (by omega) (by omega) (by omega) ?_ ?_ ?_
    · rintro post ⟨k, h⟩
      exact ⟨k + 1, rx_exec (by omega) hn hp hm b3 (hx _ (nm_r (nI_1 turn) h))⟩
    · intro cy2 tc2 g post h
      exact ⟨0 + 1, ry_exec (by omega) hn hp hm b3 (hy _ (g _ (br_f (by decide) h)))⟩
    · rintro p2 cy2 tc2 g post ⟨k, h⟩
      exact ⟨k + 1, ry_exec (by omega) hn hp hm b3 (hy _ (g _ (br_t rfl (nm_r (nI_1 it) h))))⟩
  obtain ⟨⟨k1, k2, k3⟩, _⟩ := ha_V (W.2.1 p hp)
  have kc : fa_N sK p = 1 ∨ fa_N sK p = 2 ∨ fa_N sK p = 3 ∨ fa_N sK p = 4 ∨ fa_N sK p = 5 ∨ fa_N sK p = 6 ∨ fa_N sK p = 7 ∨ fa_N sK p = 8 ∨ fa_N sK p = 9 := by omega
  rcases kc with hk | hk | hk | hk | hk | hk | hk | hk | hk
  · exact ex_assign (sc := sc) (oc := oc) (ne := ne) (ca := ca) (on := on) (st := nI (st + 1)) (xn := nI p) (xe := -1) (xd := xd) (nc := nc) (yp := nI p) (yl := yl) (yr := yr) (ac := ac) (en := en) (eu := eu) (ea := ea) (eb := eb) (gr := gr) (po := po) (ou := ou) (tc := tc) (ss := ss) (av := av) (cs := cs) (cb := cb) (cn := cn) (kx := kx) (ky := ky) (kd := kd) (pl := pl) (rl := rl) (cm := cm) (hv := hv) (ba := ba) (ex := ex) W H hp hup hk c_stop c_end
  · exact ex_if (sc := sc) (oc := oc) (ne := ne) (ca := ca) (on := on) (st := nI (st + 1)) (xn := nI p) (xe := -1) (xd := xd) (nc := nc) (yp := nI p) (yl := yl) (yr := yr) (ac := ac) (en := en) (eu := eu) (ea := ea) (eb := eb) (gr := gr) (po := po) (ou := ou) (tc := tc) (ss := ss) (av := av) (cs := cs) (cb := cb) (cn := cn) (kx := kx) (ky := ky) (kd := kd) (pl := pl) (rl := rl) (cm := cm) (hv := hv) (ba := ba) (ex := ex) W H hp hup hk c_stop c_jump
  · exact ex_goto (sc := sc) (oc := oc) (ne := ne) (ca := ca) (on := on) (st := nI (st + 1)) (xn := nI p) (xe := -1) (xd := xd) (nc := nc) (yp := nI p) (yl := yl) (yr := yr) (ac := ac) (en := en) (eu := eu) (ea := ea) (eb := eb) (gr := gr) (po := po) (ou := ou) (tc := tc) (ss := ss) (av := av) (cs := cs) (cb := cb) (cn := cn) (kx := kx) (ky := ky) (kd := kd) (pl := pl) (rl := rl) (cm := cm) (hv := hv) (ba := ba) (ex := ex) W H hp hup hk c_stop c_jump
  · exact ex_do (sc := sc) (oc := oc) (ne := ne) (ca := ca) (on := on) (st := nI (st + 1)) (xn := nI p) (xe := -1) (xd := xd) (nc := nc) (yp := nI p) (yl := yl) (yr := yr) (ac := ac) (en := en) (eu := eu) (ea := ea) (eb := eb) (gr := gr) (po := po) (ou := ou) (tc := tc) (ss := ss) (av := av) (cs := cs) (cb := cb) (cn := cn) (kx := kx) (ky := ky) (kd := kd) (pl := pl) (rl := rl) (cm := cm) (hv := hv) (ba := ba) (ex := ex) W H hp hup hk c_stop c_jump c_end
  · refine ex_call (sc := sc) (oc := oc) (ne := ne) (ca := ca) (on := on) (st := nI (st + 1)) (xn := nI p) (xe := -1) (xd := xd) (nc := nc) (yp := nI p) (yl := yl) (yr := yr) (ac := ac) (en := en) (eu := eu) (ea := ea) (eb := eb) (gr := gr) (po := po) (ou := ou) (tc := tc) (ss := ss) (av := av) (cs := cs) (cb := cb) (cn := cn) (kx := kx) (ky := ky) (kd := kd) (pl := pl) (rl := rl) (cm := cm) (hv := hv) (ba := ba) (ex := ex) W H hp hup hk (hr_act R) c_stop ?_ ?_
    · intro ec' bi' S' hx hy
      refine ⟨3, _, _, hE 3 (nI u) (nI p) (-1) xd (nI p) (nI u) 3 on cx cy tc ss ou ec' bi' av cs o (st + 1) (by decide) S' H.2.2.1 ho hoo, fun post h => ⟨0 + 1 + 1, rx_exec (by omega) hn hp hm b3 (hx _ (nm_r (nI_1 turn) (rx_stop (by omega) (by decide) h)))⟩, fun post h => ⟨0 + 1, ry_exec (by omega) hn hp hm b3 (hy _ (br_f (by decide) h))⟩⟩
    · intro v ec' bi' v4 v0 va S' Bv K hx hy
      have nq := fb_nx_in sU (nI v) n 0
      refine hr_Gm (ih cx cy tc ss ou ec' bi' (upd av v 1) (upd cs v (nI p)) on xd v (fb_nx sU (nI v) n 0) (turn + 1) (it + 1) (st + 1) o (u :: l) (hr_call R hp hn hup v4 v0 va S' Bv K) ho hoo (by omega) (fun z => nq.2.2 (by omega)) ?_ ?_ (by omega) ?_) ?_ ?_
      · rw [List.length_cons]; omega
      · rw [List.length_cons]; omega
      · rw [List.length_cons]; omega
      · rintro post ⟨k, h⟩
        exact ⟨k + 1, rx_exec (by omega) hn hp hm b3 (hx _ (nm_r (nI_1 turn) h))⟩
      · rintro post ⟨k, h⟩
        exact ⟨k + 1, ry_exec (by omega) hn hp hm b3 (hy _ (br_t rfl (nm_r (nI_1 it) h)))⟩
  · exact ex_print (sc := sc) (oc := oc) (ne := ne) (ca := ca) (on := on) (st := nI (st + 1)) (xn := nI p) (xe := -1) (xd := xd) (nc := nc) (yp := nI p) (yl := yl) (yr := yr) (ac := ac) (en := en) (eu := eu) (ea := ea) (eb := eb) (gr := gr) (po := po) (ou := ou) (tc := tc) (ss := ss) (av := av) (cs := cs) (cb := cb) (cn := cn) (kx := kx) (ky := ky) (kd := kd) (pl := pl) (rl := rl) (cm := cm) (hv := hv) (ba := ba) (ex := ex) W H hp hup hk ho hoc h32 hoo c_stop c_end
  · exact ex_cont (sc := sc) (oc := oc) (ne := ne) (ca := ca) (on := on) (st := nI (st + 1)) (xn := nI p) (xe := -1) (xd := xd) (nc := nc) (yp := nI p) (yl := yl) (yr := yr) (ac := ac) (en := en) (eu := eu) (ea := ea) (eb := eb) (gr := gr) (po := po) (ou := ou) (tc := tc) (ss := ss) (av := av) (cs := cs) (cb := cb) (cn := cn) (kx := kx) (ky := ky) (kd := kd) (pl := pl) (rl := rl) (cm := cm) (hv := hv) (ba := ba) (ex := ex) W H hp hup hk c_end
  · refine ex_ret (sc := sc) (oc := oc) (ne := ne) (ca := ca) (on := on) (st := nI (st + 1)) (xn := nI p) (xe := -1) (xd := xd) (nc := nc) (yp := nI p) (yl := yl) (yr := yr) (ac := ac) (en := en) (eu := eu) (ea := ea) (eb := eb) (gr := gr) (po := po) (ou := ou) (tc := tc) (ss := ss) (av := av) (cs := cs) (cb := cb) (cn := cn) (kx := kx) (ky := ky) (kd := kd) (pl := pl) (rl := rl) (cm := cm) (hv := hv) (ba := ba) (ex := ex) W H hp hup hk c_stop ?_
    intro u0 hx hy
    obtain ⟨w, l', c, rfl, hc, e1, e2, R'⟩ := hr_leave W R u0
    rw [List.length_cons] at b1 b2 b4
    refine hm_end (tc := tc) (ss := ss) (ou := ou) (u := w) (t := c) (q := c) (turn := turn + 1) (it := it + 2) (st := st + 1) (xn := nI p) (yp := -1) W D hm hE ih R' ho hoo hc (by omega) e2 (by omega) (by omega) (by omega) (by omega) ?_ ?_ ?_
    · rintro post ⟨k, h⟩
      exact ⟨k + 1, rx_exec (by omega) hn hp hm b3 (hx _ (rx_lv u0 u4 (by omega) e1 e2 (nm_r (nI_1 turn) h)))⟩
    · intro cy2 tc2 g post h
      exact ⟨0 + 1 + 1, ry_exec (by omega) hn hp hm b3 (hy _ (br_t rfl (nm_r (nI_1 it) (ry_leave (by omega) u0 u4 (by omega) e1 e2 (g _ (br_f (by decide) h))))))⟩
    · rintro p2 cy2 tc2 g post ⟨k, h⟩
      exact ⟨k + 1 + 1, ry_exec (by omega) hn hp hm b3 (hy _ (br_t rfl (nm_r (nI_1 it) (ry_leave (by omega) u0 u4 (by omega) e1 e2 (g _ (br_t rfl (nm_r (nI_1 (it + 1)) h)))))))⟩
  · exact ex_stop (sc := sc) (oc := oc) (ne := ne) (ca := ca) (on := on) (st := nI (st + 1)) (xn := nI p) (xe := -1) (xd := xd) (nc := nc) (yp := nI p) (yl := yl) (yr := yr) (ac := ac) (en := en) (eu := eu) (ea := ea) (eb := eb) (gr := gr) (po := po) (ou := ou) (tc := tc) (ss := ss) (av := av) (cs := cs) (cb := cb) (cn := cn) (kx := kx) (ky := ky) (kd := kd) (pl := pl) (rl := rl) (cm := cm) (hv := hv) (ba := ba) (ex := ex) W H hp hup hk c_stop
theorem hm_main (W : hr_W n al ap sU sL sK sE sG sO) (D : hr_D al ap) (hm : mx ≤ 5000) (hoc : oc = nI oo) (h32 : oo ≤ 32) (hE : ∀ (r xu xn xe xd yp yu ye on : Int32) (cx cy tc ss ou ec bi av cs : Nat → Int32) (o st : Nat), r ≠ 0 → fm_Sto RC (fa_N al) (fa_N ap) ec ad → fm_Mem RC cx cy → on = nI o → o ≤ oo → ER r (sc, oc, ne, nI n, ca, on, nI st, r, xu, xn, xe, xd, al, ap, ac, en, eu, ea, eb, sU, sL, sK, sE, sG, sO, gr, po, ec, cx, ou, tc, ss, av, cs) (sc, oc, ne, nI n, ca, nc, on, yp, yu, ye, nI st, yl, yr, al, ap, cb, cn, ac, eu, ea, eb, sU, sL, sK, sE, sG, sO, kx, ky, kd, pl, rl, cm, hv, ba, ad, ex, cy, tc, ss, av, cs, bi, ou)) : ∀ M : Nat, ∀ (cx cy tc ss ou ec bi av cs : Nat → Int32) (on xd : Int32) (u p turn it st o : Nat) (l : List Nat), hr_R RC n al ap sU ec ad bi cx cy av cs u l → on = nI o → o ≤ oo → p ≤ n → (p < n → sU p = nI u) → turn + 2 * l.length ≤ 4 * st → it + l.length ≤ 2 * st → st ≤ mx → 4 * (mx - st) + 2 * l.length < M → hr_G ER (fun post => ∃ k, wX_run_25 post (nI mx) k (nI turn) sc oc ne (nI n) ca on (nI st) 0 (nI u) (nI p) (-1) xd al ap ac en eu ea eb sU sL sK sE sG sO gr po ec cx ou tc ss av cs) (fun post => ∃ k, wY_loop_2 post (nI mx) k (nI it) sc oc ne (nI n) ca nc on (fb_pc n p) (nI u) 0 (nI st) yl yr al ap cb cn ac eu ea eb sU sL sK sE sG sO kx ky kd pl rl cm hv ba ad ex cy tc ss av cs bi ou) := by
  intro M
  induction M with
  | zero =>
    intro cx cy tc ss ou ec bi av cs on xd u p turn it st o l R ho hoo hp hup b1 b2 b3 b4
    exact absurd b4 (Nat.not_lt_zero _)
  | succ M ih =>
    intro cx cy tc ss ou ec bi av cs on xd u p turn it st o l R ho hoo hp hup b1 b2 b3 b4
    have hn := W.1
    have H := hr_st D R
    have u4 := hr_u4 R
    have tb : turn + 2 < 1000000 := by omega
    have ib : it + 2 < 20000 := by omega
    by_cases pn : p < n
    · rw [ex_pc pn]
      by_cases sm : st < mx
      · exact hm_step W D hm hoc h32 hE ih R ho hoo pn (hup pn) b1 b2 sm b4
      · have e : st = mx := by omega
        subst e
        exact ⟨2, _, _, hE 2 (nI u) (nI p) (-1) xd (nI p) (nI u) 0 on cx cy tc ss ou ec bi av cs o st (by decide) H.2.1 H.2.2.1 ho hoo, fun post h => ⟨0 + 1 + 1, rx_steps (by omega) hn pn hm h⟩, fun post h => ⟨0 + 1, ry_steps (by omega) hn pn h⟩⟩
    · have ep : p = n := by omega
      subst ep
      have epc : fb_pc p p = -1 := if_neg pn
      rw [epc]
      by_cases u0 : u = 0
      · exact ⟨1, _, _, hE 1 (nI u) (nI p) (-1) xd (-1) (nI u) 0 on cx cy tc ss ou ec bi av cs o st (by decide) H.2.1 H.2.2.1 ho hoo, fun post h => ⟨0 + 1 + 1, rx_leave (by omega) hn (rx_lv0 u0 (nm_r (nI_1 turn) (rx_stop (by omega) (by decide) h)))⟩, fun post h => ⟨0 + 1, ry_done (by omega) u0 h⟩⟩
      · obtain ⟨w, l', c, rfl, hc, e1, e2, R'⟩ := hr_leave W R u0
        rw [List.length_cons] at b1 b2 b4
        refine hm_end (tc := tc) (ss := ss) (ou := ou) (u := w) (t := c) (q := c) (turn := turn + 1) (it := it + 1) (st := st) (xn := nI p) (yp := -1) W D hm hE ih R' ho hoo hc (by omega) e2 (by omega) (by omega) (by omega) (by omega) ?_ ?_ ?_
        · rintro post ⟨k, h⟩
          exact ⟨k + 1, rx_leave (by omega) hn (rx_lv u0 u4 (by omega) e1 e2 (nm_r (nI_1 turn) h))⟩
        · intro cy2 tc2 g post h
          exact ⟨0 + 1, ry_leave (by omega) u0 u4 (by omega) e1 e2 (g _ (br_f (by decide) h))⟩
        · rintro p2 cy2 tc2 g post ⟨k, h⟩
          exact ⟨k + 1, ry_leave (by omega) u0 u4 (by omega) e1 e2 (g _ (br_t rfl (nm_r (nI_1 it) h)))⟩
end HRM
end
section
section HRV
/-! run: the fresh start, and the owed statement -/
variable {sc oc ne ns ca on st ra xu xn xe xd nc yp yu ye yl yr : Int32} {al ap ac en eu ea eb sU sL sK sE sG sO gr po ec cx ou tc ss av cs cb cn kx ky kd pl rl cm hv ba ad ex cy bi : Nat → Int32}
def hz (a : Nat → Int32) (i : Nat) : Nat → Int32 := fun j => if j < i then 0 else a j
theorem hz_0 (a : Nat → Int32) : hz a 0 = a := by
  funext j
  exact if_neg (Nat.not_lt_zero j)
theorem hz_u (a : Nat → Int32) (i : Nat) : upd (hz a i) i 0 = hz a (i + 1) := by
  funext j
  by_cases e : j = i
  · subst e
    rw [pk_us]
    exact (if_pos (Nat.lt_succ_self j)).symm
  · rw [pk_un e]
    unfold hz
    by_cases l : j < i
    · rw [if_pos l, if_pos (by omega)]
    · rw [if_neg l, if_neg (by omega)]
theorem hz_in {a : Nat → Int32} {i j : Nat} (h : j < i) : hz a i j = 0 := if_pos h
theorem hz_nb0 : vp_nar .boolean 0 = 0 := by decide
theorem hz_nb1 : vp_nar .boolean 1 = 1 := by decide
theorem sx_2 {post : SX → Prop} (h : ∃ m, wX_startAfresh_24 post sc oc ne ns ca on st ra xu xn xe xd m 0 al ap ac en eu ea eb sU sL sK sE sG sO gr po ec (hz cx 512) ou tc ss av cs) : ∀ d i, i + d = 512 → wX_startAfresh_2 post sc oc ne ns ca on st ra xu xn xe xd (d + 1) (nI i) al ap ac en eu ea eb sU sL sK sE sG sO gr po ec (hz cx i) ou tc ss av cs := by
  intro d
  induction d with
  | zero =>
    intro i hi
    have e : i = 512 := by omega
    subst e
    exact br_t (by decide) h
  | succ d ih =>
    intro i hi
    refine br_f (nI_ge (b := 512) (by omega) (by decide)) ⟨vp_in_nI (by omega) (by decide), ?_⟩
    rw [nI_clamp (by omega)]
    exact nm_r (hz_u cx i) (nm_r (nI_1 i) (ih (i + 1) (by omega)))
theorem sx_24 {post : SX → Prop} (h : ∃ m, wX_startAfresh_52 post sc oc ne ns ca on st ra xu xn xe xd m 0 al ap ac en eu ea eb sU sL sK sE sG sO gr po ec cx ou (hz tc 64) (hz ss 64) av cs) : ∀ d i, i + d = 64 → wX_startAfresh_24 post sc oc ne ns ca on st ra xu xn xe xd (d + 1) (nI i) al ap ac en eu ea eb sU sL sK sE sG sO gr po ec cx ou (hz tc i) (hz ss i) av cs := by
  intro d
  induction d with
  | zero =>
    intro i hi
    have e : i = 64 := by omega
    subst e
    exact br_t (by decide) h
  | succ d ih =>
    intro i hi
    refine br_f (nI_ge (b := 64) (by omega) (by decide)) ⟨vp_in_nI (by omega) (by decide), ?_⟩
    rw [nI_clamp (by omega)]
    exact nm_r (hz_u tc i) ⟨vp_in_nI (by omega) (by decide), nm_r (hz_u ss i) (nm_r (nI_1 i) (ih (i + 1) (by omega)))⟩
theorem sx_52 {post : SX → Prop} {n : Nat} (hn : n ≤ 64) (h : post (sc, oc, ne, nI n, ca, 0, 0, 0, 0, nI (fb_nx sU 0 n 0), -1, xd, al, ap, ac, en, eu, ea, eb, sU, sL, sK, sE, sG, sO, gr, po, ec, cx, ou, tc, ss, upd (hz av 4) 0 1, cs)) : ∀ d i, i + d = 4 → wX_startAfresh_52 post sc oc ne (nI n) ca on st ra xu xn xe xd (d + 1) (nI i) al ap ac en eu ea eb sU sL sK sE sG sO gr po ec cx ou tc ss (hz av i) cs := by
  intro d
  induction d with
  | zero =>
    intro i hi
    have e : i = 4 := by omega
    subst e
    refine br_t (by decide) ?_
    unfold wpX_enterUnit
    refine ⟨vp_in_nI (n := 0) (by decide) (by decide), nm_r (e' := upd (hz av 4) 0 1) (by rw [hz_nb1]; rfl) ?_⟩
    exact hx_next (f := 0) hn (by omega) h
  | succ d ih =>
    intro i hi
    refine br_f (nI_ge (b := 4) (by omega) (by decide)) ⟨vp_in_nI (by omega) (by decide), ?_⟩
    rw [nI_clamp (by omega), hz_nb0]
    exact nm_r (hz_u av i) (nm_r (nI_1 i) (ih (i + 1) (by omega)))
theorem sx_start {post : SX → Prop} {n : Nat} (hn : n ≤ 64) (h : post (sc, oc, ne, nI n, ca, 0, 0, 0, 0, nI (fb_nx sU 0 n 0), -1, xd, al, ap, ac, en, eu, ea, eb, sU, sL, sK, sE, sG, sO, gr, po, ec, hz cx 512, ou, hz tc 64, hz ss 64, upd (hz av 4) 0 1, cs)) : wpX_startAfresh post (sc, oc, ne, nI n, ca, on, st, ra, xu, xn, xe, xd, al, ap, ac, en, eu, ea, eb, sU, sL, sK, sE, sG, sO, gr, po, ec, cx, ou, tc, ss, av, cs) := by
  have a := sx_52 (av := av) (on := on) (st := st) (ra := ra) (xu := xu) (xn := xn) (xe := xe) hn h 4 0 rfl
  rw [hz_0] at a
  have b := sx_24 ⟨4 + 1, a⟩ 64 0 rfl
  rw [hz_0, hz_0] at b
  have c := sx_2 ⟨64 + 1, b⟩ 512 0 rfl
  rw [hz_0] at c
  exact ⟨512 + 1, c⟩
theorem sy_36 {post : Int32 → SY → Prop} {x2 : Int32} (h : ∃ m, wY_run_58 post x2 sc oc ne ns ca nc on yp yu ye st yl yr m 0 al ap cb cn ac eu ea eb sU sL sK sE sG sO kx ky kd pl rl cm hv ba ad ex (hz cy 512) tc ss av cs bi ou) : ∀ d i, i + d = 512 → wY_run_36 post x2 sc oc ne ns ca nc on yp yu ye st yl yr (d + 1) (nI i) al ap cb cn ac eu ea eb sU sL sK sE sG sO kx ky kd pl rl cm hv ba ad ex (hz cy i) tc ss av cs bi ou := by
  intro d
  induction d with
  | zero =>
    intro i hi
    have e : i = 512 := by omega
    subst e
    exact br_t (by decide) h
  | succ d ih =>
    intro i hi
    refine br_f (nI_ge (b := 512) (by omega) (by decide)) ⟨vp_in_nI (by omega) (by decide), ?_⟩
    rw [nI_clamp (by omega)]
    exact nm_r (hz_u cy i) (nm_r (nI_1 i) (ih (i + 1) (by omega)))
theorem sy_58 {post : Int32 → SY → Prop} {x2 : Int32} (h : ∃ m, wY_run_86 post x2 sc oc ne ns ca nc on yp yu ye st yl yr m 0 al ap cb cn ac eu ea eb sU sL sK sE sG sO kx ky kd pl rl cm hv ba ad ex cy (hz tc 64) (hz ss 64) av cs bi ou) : ∀ d i, i + d = 64 → wY_run_58 post x2 sc oc ne ns ca nc on yp yu ye st yl yr (d + 1) (nI i) al ap cb cn ac eu ea eb sU sL sK sE sG sO kx ky kd pl rl cm hv ba ad ex cy (hz tc i) (hz ss i) av cs bi ou := by
  intro d
  induction d with
  | zero =>
    intro i hi
    have e : i = 64 := by omega
    subst e
    exact br_t (by decide) h
  | succ d ih =>
    intro i hi
    refine br_f (nI_ge (b := 64) (by omega) (by decide)) ⟨vp_in_nI (by omega) (by decide), ?_⟩
    rw [nI_clamp (by omega)]
    exact nm_r (hz_u tc i) ⟨vp_in_nI (by omega) (by decide), nm_r (hz_u ss i) (nm_r (nI_1 i) (ih (i + 1) (by omega)))⟩
theorem sy_86 {post : Int32 → SY → Prop} {x2 : Int32} {n : Nat} (hn : n ≤ 64) (h : wpY_loop (fun r v => match v with | (sc0, oc0, ne0, ns0, ca0, nc0, on0, yp0, yu0, ye0, st0, yl0, yr0, al0, ap0, cb0, cn0, ac0, eu0, ea0, eb0, sU0, sL0, sK0, sE0, sG0, sO0, kx0, ky0, kd0, pl0, rl0, cm0, hv0, ba0, ad0, ex0, cy0, tc0, ss0, av0, cs0, bi0, ou0) => post r (sc0, oc0, ne0, ns0, ca0, nc0, on0, yp0, yu0, ye0, st0, r, yr0, al0, ap0, cb0, cn0, ac0, eu0, ea0, eb0, sU0, sL0, sK0, sE0, sG0, sO0, kx0, ky0, kd0, pl0, rl0, cm0, hv0, ba0, ad0, ex0, cy0, tc0, ss0, av0, cs0, bi0, ou0)) (sc, oc, ne, nI n, ca, nc, 0, fb_pc n (fb_nx sU 0 n 0), 0, 0, 0, yl, 1, al, ap, cb, cn, ac, eu, ea, eb, sU, sL, sK, sE, sG, sO, kx, ky, kd, pl, rl, cm, hv, ba, ad, ex, cy, tc, ss, upd (hz av 4) 0 1, cs, bi, ou) x2) :
    ∀ d i, i + d = 4 → wY_run_86 post x2 sc oc ne (nI n) ca nc on yp yu ye st yl yr (d + 1) (nI i) al ap cb cn ac eu ea eb sU sL sK sE sG sO kx ky kd pl rl cm hv ba ad ex cy tc ss (hz av i) cs bi ou := by
  intro d
  induction d with
  | zero =>
    intro i hi
    have e : i = 4 := by omega
    subst e
    refine br_t (by decide) (nm_r (e' := upd (hz av 4) 0 1) (by rw [hz_nb1]) ?_)
    exact hy_first hn h
  | succ d ih =>
    intro i hi
    refine br_f (nI_ge (b := 4) (by omega) (by decide)) ⟨vp_in_nI (by omega) (by decide), ?_⟩
    rw [nI_clamp (by omega), hz_nb0]
    exact nm_r (hz_u av i) (nm_r (nI_1 i) (ih (i + 1) (by omega)))
theorem sy_start {post : Int32 → SY → Prop} {x2 : Int32} {n : Nat} (hn : n ≤ 64) (h : wpY_loop (fun r v => match v with | (sc0, oc0, ne0, ns0, ca0, nc0, on0, yp0, yu0, ye0, st0, yl0, yr0, al0, ap0, cb0, cn0, ac0, eu0, ea0, eb0, sU0, sL0, sK0, sE0, sG0, sO0, kx0, ky0, kd0, pl0, rl0, cm0, hv0, ba0, ad0, ex0, cy0, tc0, ss0, av0, cs0, bi0, ou0) => post r (sc0, oc0, ne0, ns0, ca0, nc0, on0, yp0, yu0, ye0, st0, r, yr0, al0, ap0, cb0, cn0, ac0, eu0, ea0, eb0, sU0, sL0, sK0, sE0, sG0, sO0, kx0, ky0, kd0, pl0, rl0, cm0, hv0, ba0, ad0, ex0, cy0, tc0, ss0, av0, cs0, bi0, ou0)) (sc, oc, ne, nI n, ca, nc, 0, fb_pc n (fb_nx sU 0 n 0), 0, 0, 0, yl, 1, al, ap, cb, cn, ac, eu, ea, eb, sU, sL, sK, sE, sG, sO, kx, ky, kd, pl, rl, cm, hv, ba, ad, ex, hz cy 512, hz tc 64, hz ss 64, upd (hz av 4) 0 1, cs, bi, ou) x2) :
    ∃ m, wY_run_36 post x2 sc oc ne (nI n) ca nc on yp yu ye st yl yr m 0 al ap cb cn ac eu ea eb sU sL sK sE sG sO kx ky kd pl rl cm hv ba ad ex cy tc ss av cs bi ou := by
  have a := sy_86 (av := av) (on := on) (st := st) (yp := yp) (yu := yu) (ye := ye) (yr := yr) hn h 4 0 rfl
  rw [hz_0] at a
  have b := sy_58 ⟨4 + 1, a⟩ 64 0 rfl
  rw [hz_0, hz_0] at b
  have c := sy_36 ⟨64 + 1, b⟩ 512 0 rfl
  rw [hz_0] at c
  exact ⟨512 + 1, c⟩
/-- the step limit -/
theorem sc_mx (x : Int32) : ∃ m, 1 ≤ m ∧ m ≤ 5000 ∧ (∀ post : Int32 → Prop, post (nI m) → wpX_clamp post x 1 5000) ∧ (∀ P : Int32 → Prop, P (nI m) → ((1 ≤ x → ((x ≤ 5000 → P x) ∧ (¬ x ≤ 5000 → P 5000))) ∧ (¬ 1 ≤ x → P 1))) := by
  by_cases a : 1 ≤ x
  · by_cases b : x ≤ 5000
    · have x0 : ¬ x < 0 := fun z => absurd (Int32.lt_of_le_of_lt a z) (by decide)
      obtain ⟨j, hj, rfl⟩ := nI_of x0
      refine ⟨j, ?_, ?_, fun post h => br_t a (br_t b h), fun P h => br_t a (br_t b h)⟩
      · exact (nI_leI (a := 1) (by decide) hj).mp a
      · exact (nI_leI (b := 5000) hj (by decide)).mp b
    · exact ⟨5000, by decide, by decide, fun post h => br_t a (br_f b h), fun P h => br_t a (br_f b h)⟩
  · exact ⟨1, by decide, by decide, fun post h => br_f a h, fun P h => br_f a h⟩
end HRV
end
section
section HSM
/-! the declaring methods and the readers: each side, taken and refused -/
variable {sc oc ne ns ca on st ra xu xn xe xd nc yp yu ye yl yr : Int32} {al ap ac en eu ea eb sU sL sK sE sG sO gr po ec cx ou tc ss av cs cb cn kx ky kd pl rl cm hv ba ad ex cy bi : Nat → Int32}
variable {p0 p1 p2 p3 : Int32} {u m l b n : Nat}
def fa_L (x : Int32) : Prop := ∃ l, 1 ≤ l ∧ l ≤ 16 ∧ x = nI l
theorem hl_1 (h : p2 < 1) : ¬ fa_L p2 := by
  rintro ⟨l, l1, l2, rfl⟩
  exact nI_nlt (b := 1) l1 (by omega) h
theorem hl_2 (h : ¬ p2 ≤ 16) : ¬ fa_L p2 := by
  rintro ⟨l, l1, l2, rfl⟩
  exact h (nI_le (b := 16) l2 (by decide))
theorem hl_3 (h : ¬ p2 < 1) (h' : p2 ≤ 16) : fa_L p2 := by
  rcases hc_v (v := p2) (l := 16) (Nat.le_refl 16) with a | ⟨a, b⟩ | ⟨i, i1, i2, e⟩
  · exact absurd a h
  · exact absurd h' b
  · exact ⟨i, i1, i2, e⟩
theorem vx_dim1 {P : Int32 → SX → Prop} (hu : u < 4) (hm : m < 8) (l1 : 1 ≤ l) (l16 : l ≤ 16) (h : P 1 (sc, oc, ne, ns, 0, on, st, ra, xu, xn, xe, xd, upd al (u * 8 + m) (nI l), ap, ac, en, eu, ea, eb, sU, sL, sK, sE, sG, sO, gr, po, ec, cx, ou, tc, ss, av, cs)) : wpX_dimension P (sc, oc, ne, ns, 0, on, st, ra, xu, xn, xe, xd, al, ap, ac, en, eu, ea, eb, sU, sL, sK, sE, sG, sO, gr, po, ec, cx, ou, tc, ss, av, cs) (nI u) (nI m) (nI l) := by
  unfold wpX_dimension
  dsimp only
  refine hx_isFrozen (fun z => absurd rfl z) (fun _ => br_t rfl ?_)
  refine hx_isUnit (fun _ => br_f (by decide) ?_) (fun z => absurd ⟨u, hu, rfl⟩ z)
  refine hx_isName (fun _ => br_f (by decide) ?_) (fun z => absurd ⟨m, hm, rfl⟩ z)
  refine br_f (nI_nlt (b := 1) l1 (by omega)) (br_t (nI_le (b := 16) l16 (by decide)) ?_)
  rw [ha_us, nI_clamp (by omega)]
  exact ⟨vp_in_nI (by omega) (by decide), nm_e h⟩
theorem vx_dim0 {P : Int32 → SX → Prop} (c : ¬ (ca = 0 ∧ fa_R 4 p0 ∧ fa_R 8 p1 ∧ fa_L p2)) (h : P 0 (sc, oc, ne, ns, ca, on, st, ra, xu, xn, xe, xd, al, ap, ac, en, eu, ea, eb, sU, sL, sK, sE, sG, sO, gr, po, ec, cx, ou, tc, ss, av, cs)) : wpX_dimension P (sc, oc, ne, ns, ca, on, st, ra, xu, xn, xe, xd, al, ap, ac, en, eu, ea, eb, sU, sL, sK, sE, sG, sO, gr, po, ec, cx, ou, tc, ss, av, cs) p0 p1 p2 := by
  unfold wpX_dimension
  dsimp only
  refine hx_isFrozen (fun z => br_f (by decide) h) (fun c0 => br_t rfl ?_)
  refine hx_isUnit (fun cu => br_f (by decide) ?_) (fun z => br_t rfl h)
  refine hx_isName (fun cn => br_f (by decide) ?_) (fun z => br_t rfl h)
  exact br_c (fun _ => h) (fun z => br_c (fun z' => absurd ⟨c0, cu, cn, hl_3 z z'⟩ c) (fun _ => h))
theorem vy_dim1 {P : Int32 → SY → Prop} (hu : u < 4) (hm : m < 8) (l1 : 1 ≤ l) (l16 : l ≤ 16) (h : P 1 (sc, oc, ne, ns, 0, nc, on, yp, yu, ye, st, yl, yr, upd al (u * 8 + m) (nI l), ap, cb, cn, ac, eu, ea, eb, sU, sL, sK, sE, sG, sO, kx, ky, kd, pl, rl, cm, hv, ba, ad, ex, cy, tc, ss, av, cs, bi, ou)) : wpY_dimension P (sc, oc, ne, ns, 0, nc, on, yp, yu, ye, st, yl, yr, al, ap, cb, cn, ac, eu, ea, eb, sU, sL, sK, sE, sG, sO, kx, ky, kd, pl, rl, cm, hv, ba, ad, ex, cy, tc, ss, av, cs, bi, ou) (nI u) (nI m) (nI l) := by
  refine br_t rfl (br_f (nI_pos (by omega)) (br_f (nI_nlt (a := 3) (by omega) (by decide)) (br_f (nI_pos (by omega)) (br_f (nI_nlt (a := 7) (by omega) (by decide)) (br_f (nI_nlt (b := 1) l1 (by omega)) (br_t (nI_le (b := 16) l16 (by decide)) ?_))))))
  rw [ha_us, nI_clamp (by omega)]
  exact ⟨vp_in_nI (by omega) (by decide), nm_e h⟩
theorem vy_dim0 {P : Int32 → SY → Prop} (c : ¬ (ca = 0 ∧ fa_R 4 p0 ∧ fa_R 8 p1 ∧ fa_L p2)) (h : P 0 (sc, oc, ne, ns, ca, nc, on, yp, yu, ye, st, yl, yr, al, ap, cb, cn, ac, eu, ea, eb, sU, sL, sK, sE, sG, sO, kx, ky, kd, pl, rl, cm, hv, ba, ad, ex, cy, tc, ss, av, cs, bi, ou)) : wpY_dimension P (sc, oc, ne, ns, ca, nc, on, yp, yu, ye, st, yl, yr, al, ap, cb, cn, ac, eu, ea, eb, sU, sL, sK, sE, sG, sO, kx, ky, kd, pl, rl, cm, hv, ba, ad, ex, cy, tc, ss, av, cs, bi, ou) p0 p1 p2 :=
  br_c (fun c0 => br_c (fun _ => h) (fun a => br_c (fun _ => h) (fun a' => br_c (fun _ => h) (fun b => br_c (fun _ => h) (fun b' => br_c (fun _ => h) (fun z => br_c (fun z' => absurd ⟨c0, ha_mid' (m := 3) (by decide) a a', ha_mid' (m := 7) (by decide) b b', hl_3 z z'⟩ c) (fun _ => h))))))) (fun _ => h)
def fa_U (x : Int32) : Prop := ∃ u, 1 ≤ u ∧ u < 4 ∧ x = nI u
theorem vx_par1 {P : Int32 → SX → Prop} (u1 : 1 ≤ u) (hu : u < 4) (hm : m < 4) (h : P 1 (sc, oc, ne, ns, 0, on, st, ra, xu, xn, xe, xd, al, upd ap u (nI m), ac, en, eu, ea, eb, sU, sL, sK, sE, sG, sO, gr, po, ec, cx, ou, tc, ss, av, cs)) : wpX_parameters P (sc, oc, ne, ns, 0, on, st, ra, xu, xn, xe, xd, al, ap, ac, en, eu, ea, eb, sU, sL, sK, sE, sG, sO, gr, po, ec, cx, ou, tc, ss, av, cs) (nI u) (nI m) := by
  unfold wpX_parameters
  dsimp only
  refine hx_isFrozen (fun z => absurd rfl z) (fun _ => br_t rfl ?_)
  refine hx_isUnit (fun _ => br_f (by decide) ?_) (fun z => absurd ⟨u, hu, rfl⟩ z)
  refine br_f (fun e => by have := fa_inj (b := 0) (by omega) (by decide) e; omega) (br_f (nI_pos (by omega)) (br_t (nI_le (b := 3) (by omega) (by decide)) ?_))
  rw [nI_clamp (by omega)]
  exact ⟨vp_in_nI (by omega) (by decide), nm_e h⟩
theorem vx_par0 {P : Int32 → SX → Prop} (c : ¬ (ca = 0 ∧ fa_U p0 ∧ fa_R 4 p1)) (h : P 0 (sc, oc, ne, ns, ca, on, st, ra, xu, xn, xe, xd, al, ap, ac, en, eu, ea, eb, sU, sL, sK, sE, sG, sO, gr, po, ec, cx, ou, tc, ss, av, cs)) : wpX_parameters P (sc, oc, ne, ns, ca, on, st, ra, xu, xn, xe, xd, al, ap, ac, en, eu, ea, eb, sU, sL, sK, sE, sG, sO, gr, po, ec, cx, ou, tc, ss, av, cs) p0 p1 := by
  unfold wpX_parameters
  dsimp only
  refine hx_isFrozen (fun z => br_f (by decide) h) (fun c0 => br_t rfl ?_)
  refine hx_isUnit (fun cu => br_f (by decide) ?_) (fun z => br_t rfl h)
  refine br_c (fun _ => h) (fun z => br_c (fun _ => h) (fun a => br_c (fun a' => absurd ⟨c0, ?_, ha_le (m := 3) (by decide) a a'⟩ c) (fun _ => h)))
  obtain ⟨u, hu, rfl⟩ := cu
  refine ⟨u, ?_, hu, rfl⟩
  rcases Nat.eq_zero_or_pos u with e | e
  · subst e; exact absurd rfl z
  · exact e
theorem vy_par1 {P : Int32 → SY → Prop} (u1 : 1 ≤ u) (hu : u < 4) (hm : m < 4) (h : P 1 (sc, oc, ne, ns, 0, nc, on, yp, yu, ye, st, yl, yr, al, upd ap u (nI m), cb, cn, ac, eu, ea, eb, sU, sL, sK, sE, sG, sO, kx, ky, kd, pl, rl, cm, hv, ba, ad, ex, cy, tc, ss, av, cs, bi, ou)) : wpY_parameters P (sc, oc, ne, ns, 0, nc, on, yp, yu, ye, st, yl, yr, al, ap, cb, cn, ac, eu, ea, eb, sU, sL, sK, sE, sG, sO, kx, ky, kd, pl, rl, cm, hv, ba, ad, ex, cy, tc, ss, av, cs, bi, ou) (nI u) (nI m) := by
  refine br_t rfl (br_f (nI_nlt (b := 1) u1 (by omega)) (br_f (nI_nlt (a := 3) (by omega) (by decide)) (br_f (nI_pos (by omega)) (br_t (nI_le (b := 3) (by omega) (by decide)) ?_))))
  rw [nI_clamp (by omega)]
  exact ⟨vp_in_nI (by omega) (by decide), nm_e h⟩
theorem vy_par0 {P : Int32 → SY → Prop} (c : ¬ (ca = 0 ∧ fa_U p0 ∧ fa_R 4 p1)) (h : P 0 (sc, oc, ne, ns, ca, nc, on, yp, yu, ye, st, yl, yr, al, ap, cb, cn, ac, eu, ea, eb, sU, sL, sK, sE, sG, sO, kx, ky, kd, pl, rl, cm, hv, ba, ad, ex, cy, tc, ss, av, cs, bi, ou)) : wpY_parameters P (sc, oc, ne, ns, ca, nc, on, yp, yu, ye, st, yl, yr, al, ap, cb, cn, ac, eu, ea, eb, sU, sL, sK, sE, sG, sO, kx, ky, kd, pl, rl, cm, hv, ba, ad, ex, cy, tc, ss, av, cs, bi, ou) p0 p1 := by
  refine br_c (fun c0 => br_c (fun _ => h) (fun a => br_c (fun _ => h) (fun a' => br_c (fun _ => h) (fun b => br_c (fun b' => absurd ⟨c0, ?_, ha_le (m := 3) (by decide) b b'⟩ c) (fun _ => h))))) (fun _ => h)
  have n0 : ¬ p0 < 0 := fun z => a (Int32.lt_trans z (by decide))
  obtain ⟨u, hu, rfl⟩ := ha_mid' (m := 3) (by decide) n0 a'
  exact ⟨u, Nat.le_of_not_lt fun z => a (nI_lt (b := 1) z (by decide)), hu, rfl⟩
theorem vx_com1 {P : Int32 → SX → Prop} (hu : u < 4) (hb : b < 4) (hm : m < 8) (hc : l < 8) (e : ac u = nI l) (h : P 1 (sc, oc, ne, ns, 0, on, st, ra, xu, xn, xe, xd, al, ap, upd ac u (nI (l + 1)), upd en (u * 8 + l) (nI (b * 8 + m)), eu, ea, eb, sU, sL, sK, sE, sG, sO, gr, po, ec, cx, ou, tc, ss, av, cs)) : wpX_common P (sc, oc, ne, ns, 0, on, st, ra, xu, xn, xe, xd, al, ap, ac, en, eu, ea, eb, sU, sL, sK, sE, sG, sO, gr, po, ec, cx, ou, tc, ss, av, cs) (nI u) (nI b) (nI m) := by
  unfold wpX_common
  dsimp only
  refine hx_isFrozen (fun z => absurd rfl z) (fun _ => br_t rfl ?_)
  refine hx_isUnit (fun _ => br_f (by decide) ?_) (fun z => absurd ⟨u, hu, rfl⟩ z)
  refine hx_isBlock (fun _ => br_f (by decide) ?_) (fun z => absurd ⟨b, hb, rfl⟩ z)
  refine hx_isName (fun _ => br_f (by decide) ?_) (fun z => absurd ⟨m, hm, rfl⟩ z)
  have vu : vp_in (nI u) 4 := vp_in_nI hu (by decide)
  rw [nI_clamp (n := u) (by omega), e]
  refine ⟨vu, br_t (nI_lt (b := 8) hc (by decide)) ⟨vu, ?_⟩⟩
  rw [ha_us (u := u) (n := l), ha_us (u := b) (n := m), nI_clamp (n := u * 8 + l) (by omega), nI_1]
  exact ⟨vp_in_nI (by omega) (by decide), nm_e ⟨vu, vu, nm_e h⟩⟩
theorem vx_com0 {P : Int32 → SX → Prop} (c : ¬ (ca = 0 ∧ fa_R 4 p0 ∧ fa_R 4 p1 ∧ fa_R 8 p2 ∧ ac p0.toNatClampNeg < 8)) (h : P 0 (sc, oc, ne, ns, ca, on, st, ra, xu, xn, xe, xd, al, ap, ac, en, eu, ea, eb, sU, sL, sK, sE, sG, sO, gr, po, ec, cx, ou, tc, ss, av, cs)) : wpX_common P (sc, oc, ne, ns, ca, on, st, ra, xu, xn, xe, xd, al, ap, ac, en, eu, ea, eb, sU, sL, sK, sE, sG, sO, gr, po, ec, cx, ou, tc, ss, av, cs) p0 p1 p2 := by
  unfold wpX_common
  dsimp only
  refine hx_isFrozen (fun z => br_f (by decide) h) (fun c0 => br_t rfl ?_)
  refine hx_isUnit (fun cu => br_f (by decide) ?_) (fun z => br_t rfl h)
  refine hx_isBlock (fun cb => br_f (by decide) ?_) (fun z => br_t rfl h)
  refine hx_isName (fun cn => br_f (by decide) ?_) (fun z => br_t rfl h)
  have vu : vp_in p0 4 := by
    obtain ⟨u, hu, rfl⟩ := cu
    exact vp_in_nI hu (by decide)
  exact ⟨vu, br_c (fun z => absurd ⟨c0, cu, cb, cn, z⟩ c) (fun _ => h)⟩
theorem vy_com1 {P : Int32 → SY → Prop} (hu : u < 4) (hb : b < 4) (hm : m < 8) (hc : l < 8) (e : ac u = nI l) (h : P 1 (sc, oc, ne, ns, 0, nc, on, yp, yu, ye, st, yl, yr, al, ap, upd cb (u * 8 + l) (nI b), upd cn (u * 8 + l) (nI m), upd ac u (nI (l + 1)), eu, ea, eb, sU, sL, sK, sE, sG, sO, kx, ky, kd, pl, rl, cm, hv, ba, ad, ex, cy, tc, ss, av, cs, bi, ou)) : wpY_common P (sc, oc, ne, ns, 0, nc, on, yp, yu, ye, st, yl, yr, al, ap, cb, cn, ac, eu, ea, eb, sU, sL, sK, sE, sG, sO, kx, ky, kd, pl, rl, cm, hv, ba, ad, ex, cy, tc, ss, av, cs, bi, ou) (nI u) (nI b) (nI m) := by
  have vu : vp_in (nI u) 4 := vp_in_nI hu (by decide)
  refine br_t rfl (br_f (nI_pos (by omega)) (br_f (nI_nlt (a := 3) (by omega) (by decide)) (br_f (nI_pos (by omega)) (br_f (nI_nlt (a := 3) (by omega) (by decide)) (br_f (nI_pos (by omega)) (br_t (nI_le (b := 7) (by omega) (by decide)) ⟨vu, ?_⟩))))))
  rw [nI_clamp (n := u) (by omega), e]
  refine br_t (nI_lt (b := 8) hc (by decide)) ⟨vu, ?_⟩
  have vv : vp_in (nI (u * 8 + l)) 32 := vp_in_nI (by omega) (by decide)
  rw [ha_us (u := u) (n := l), nI_clamp (n := u * 8 + l) (by omega), nI_1]
  exact ⟨vv, nm_e ⟨vu, vv, nm_e ⟨vu, vu, nm_e h⟩⟩⟩
theorem vy_com0 {P : Int32 → SY → Prop} (c : ¬ (ca = 0 ∧ fa_R 4 p0 ∧ fa_R 4 p1 ∧ fa_R 8 p2 ∧ ac p0.toNatClampNeg < 8)) (h : P 0 (sc, oc, ne, ns, ca, nc, on, yp, yu, ye, st, yl, yr, al, ap, cb, cn, ac, eu, ea, eb, sU, sL, sK, sE, sG, sO, kx, ky, kd, pl, rl, cm, hv, ba, ad, ex, cy, tc, ss, av, cs, bi, ou)) : wpY_common P (sc, oc, ne, ns, ca, nc, on, yp, yu, ye, st, yl, yr, al, ap, cb, cn, ac, eu, ea, eb, sU, sL, sK, sE, sG, sO, kx, ky, kd, pl, rl, cm, hv, ba, ad, ex, cy, tc, ss, av, cs, bi, ou) p0 p1 p2 := by
  refine br_c (fun c0 => br_c (fun _ => h) (fun a => br_c (fun _ => h) (fun a' => br_c (fun _ => h) (fun b => br_c (fun _ => h) (fun b' => br_c (fun _ => h) (fun z => br_c (fun z' => ⟨?_, br_c (fun w => absurd ⟨c0, ha_mid' (m := 3) (by decide) a a', ha_mid' (m := 3) (by decide) b b', ha_le (m := 7) (by decide) z z', w⟩ c) (fun _ => h)⟩) (fun _ => h))))))) (fun _ => h)
  obtain ⟨u, hu, rfl⟩ := ha_mid' (m := 3) (by decide) a a'
  exact vp_in_nI hu (by decide)
theorem vx_eqv1 {P : Int32 → SX → Prop} (hu : fa_R 4 p0) (f1 : fa_F p1) (f2 : fa_F p2) (hm : m < 16) (h : P 1 (sc, oc, nI (m + 1), ns, 0, on, st, ra, xu, xn, xe, xd, al, ap, ac, en, upd eu m p0, upd ea m p1, upd eb m p2, sU, sL, sK, sE, sG, sO, gr, po, ec, cx, ou, tc, ss, av, cs)) : wpX_equivalence P (sc, oc, nI m, ns, 0, on, st, ra, xu, xn, xe, xd, al, ap, ac, en, eu, ea, eb, sU, sL, sK, sE, sG, sO, gr, po, ec, cx, ou, tc, ss, av, cs) p0 p1 p2 := by
  unfold wpX_equivalence
  dsimp only
  refine hx_isFrozen (fun z => absurd rfl z) (fun _ => br_t rfl ?_)
  refine hx_isUnit (fun _ => br_f (by decide) ?_) (fun z => absurd hu z)
  refine hx_isFixed (fun _ => br_f (by decide) ?_) (fun z => absurd f1 z)
  refine hx_isFixed (fun _ => br_f (by decide) ?_) (fun z => absurd f2 z)
  have vm : vp_in (nI m) 16 := vp_in_nI hm (by decide)
  rw [nI_clamp (n := m) (by omega), nI_1]
  exact br_t (nI_lt (b := 16) hm (by decide)) ⟨vm, nm_e ⟨vm, nm_e ⟨vm, nm_e (nm_e h)⟩⟩⟩
theorem vx_eqv0 {P : Int32 → SX → Prop} (c : ¬ (ca = 0 ∧ fa_R 4 p0 ∧ fa_F p1 ∧ fa_F p2 ∧ ne < 16)) (h : P 0 (sc, oc, ne, ns, ca, on, st, ra, xu, xn, xe, xd, al, ap, ac, en, eu, ea, eb, sU, sL, sK, sE, sG, sO, gr, po, ec, cx, ou, tc, ss, av, cs)) : wpX_equivalence P (sc, oc, ne, ns, ca, on, st, ra, xu, xn, xe, xd, al, ap, ac, en, eu, ea, eb, sU, sL, sK, sE, sG, sO, gr, po, ec, cx, ou, tc, ss, av, cs) p0 p1 p2 := by
  unfold wpX_equivalence
  dsimp only
  refine hx_isFrozen (fun z => br_f (by decide) h) (fun c0 => br_t rfl ?_)
  refine hx_isUnit (fun cu => br_f (by decide) ?_) (fun z => br_t rfl h)
  refine hx_isFixed (fun f1 => br_f (by decide) ?_) (fun z => br_t rfl h)
  refine hx_isFixed (fun f2 => br_f (by decide) ?_) (fun z => br_t rfl h)
  exact br_c (fun z => absurd ⟨c0, cu, f1, f2, z⟩ c) (fun _ => h)
theorem vy_eqv1 {P : Int32 → SY → Prop} (hu : fa_R 4 p0) (f1 : fa_F p1) (f2 : fa_F p2) (hm : m < 16) (h : P 1 (sc, oc, nI (m + 1), ns, 0, nc, on, yp, yu, ye, st, yl, yr, al, ap, cb, cn, ac, upd eu m p0, upd ea m p1, upd eb m p2, sU, sL, sK, sE, sG, sO, kx, ky, kd, pl, rl, cm, hv, ba, ad, ex, cy, tc, ss, av, cs, bi, ou)) : wpY_equivalence P (sc, oc, nI m, ns, 0, nc, on, yp, yu, ye, st, yl, yr, al, ap, cb, cn, ac, eu, ea, eb, sU, sL, sK, sE, sG, sO, kx, ky, kd, pl, rl, cm, hv, ba, ad, ex, cy, tc, ss, av, cs, bi, ou) p0 p1 p2 := by
  obtain ⟨u, hu4, rfl⟩ := hu
  refine br_t rfl (br_f (nI_pos (by omega)) (br_f (nI_nlt (a := 3) (by omega) (by decide)) ?_))
  refine hy_isFixed (fun _ => br_f (by decide) ?_) (fun z => absurd f1 z)
  refine hy_isFixed (fun _ => br_f (by decide) ?_) (fun z => absurd f2 z)
  have vm : vp_in (nI m) 16 := vp_in_nI hm (by decide)
  rw [nI_clamp (n := m) (by omega), nI_1]
  exact br_t (nI_lt (b := 16) hm (by decide)) ⟨vm, nm_e ⟨vm, nm_e ⟨vm, nm_e (nm_e h)⟩⟩⟩
theorem vy_eqv0 {P : Int32 → SY → Prop} (c : ¬ (ca = 0 ∧ fa_R 4 p0 ∧ fa_F p1 ∧ fa_F p2 ∧ ne < 16)) (h : P 0 (sc, oc, ne, ns, ca, nc, on, yp, yu, ye, st, yl, yr, al, ap, cb, cn, ac, eu, ea, eb, sU, sL, sK, sE, sG, sO, kx, ky, kd, pl, rl, cm, hv, ba, ad, ex, cy, tc, ss, av, cs, bi, ou)) : wpY_equivalence P (sc, oc, ne, ns, ca, nc, on, yp, yu, ye, st, yl, yr, al, ap, cb, cn, ac, eu, ea, eb, sU, sL, sK, sE, sG, sO, kx, ky, kd, pl, rl, cm, hv, ba, ad, ex, cy, tc, ss, av, cs, bi, ou) p0 p1 p2 := by
  refine br_c (fun c0 => br_c (fun _ => h) (fun a => br_c (fun _ => h) (fun a' => ?_))) (fun _ => h)
  refine hy_isFixed (fun f1 => br_f (by decide) ?_) (fun z => br_t rfl h)
  refine hy_isFixed (fun f2 => br_f (by decide) ?_) (fun z => br_t rfl h)
  exact br_c (fun z => absurd ⟨c0, ha_mid' (m := 3) (by decide) a a', f1, f2, z⟩ c) (fun _ => h)
end HSM
end
section
section HS2
/-! statement and operand -/
variable {sc oc ne ns ca on st ra xu xn xe xd nc yp yu ye yl yr : Int32} {al ap ac en eu ea eb sU sL sK sE sG sO gr po ec cx ou tc ss av cs cb cn kx ky kd pl rl cm hv ba ad ex cy bi : Nat → Int32}
variable {p0 p1 p2 p3 : Int32} {u m l b n : Nat} {f : Prop}
theorem vs_pend5 (S : fs_S n sU sL sK sE sG sO f) : fb_pend n sK sE sG ≤ 5 := by
  unfold fb_pend
  split
  · omega
  · obtain ⟨_, ⟨_, c2, _⟩, _⟩ := ha_V (S (n - 1) (by omega))
    have := fb_need5 c2
    omega
theorem vx_stm1 {P : Int32 → SX → Prop} {scn : Nat} (S : fs_S n sU sL sK sE sG sO f) (hp : fb_pend n sK sE sG = 0) (hsc : sc = nI scn) (h64 : scn ≤ 64) (hn : n < scn) (hu : fa_R 4 p0) (hl : fa_R 100 p1) (hx : fa_X p2 p3)
    (h : P 1 (sc, oc, ne, nI (n + 1), 0, on, st, ra, xu, xn, xe, xd, al, ap, ac, en, eu, ea, eb, upd sU n p0, upd sL n p1, upd sK n p2, upd sE n p3, upd sG n 0, sO, gr, po, ec, cx, ou, tc, ss, av, cs)) : wpX_statement P (sc, oc, ne, nI n, 0, on, st, ra, xu, xn, xe, xd, al, ap, ac, en, eu, ea, eb, sU, sL, sK, sE, sG, sO, gr, po, ec, cx, ou, tc, ss, av, cs) p0 p1 p2 p3 := by
  have vn : vp_in (nI n) 64 := vp_in_nI (by omega) (by decide)
  unfold wpX_statement
  dsimp only
  refine hx_isFrozen (fun z => absurd rfl z) (fun _ => br_t rfl ?_)
  refine hx_await (by omega) S ?_
  rw [hp]
  refine br_f (by decide) (br_t (by rw [hsc]; exact nI_lt hn (by omega)) ?_)
  refine hx_isUnit (fun _ => br_f (by decide) ?_) (fun z => absurd hu z)
  obtain ⟨l, hl1, rfl⟩ := hl
  refine br_f (nI_pos (by omega)) (br_f (nI_nlt (a := 99) (by omega) (by decide)) ?_)
  refine hx_isExtra (fun _ => br_f (by decide) ?_) (fun z => absurd hx z)
  rw [nI_clamp (n := n) (by omega), nI_1]
  exact ⟨vn, nm_e ⟨vn, nm_e ⟨vn, nm_e ⟨vn, nm_e ⟨vn, nm_e (nm_e h)⟩⟩⟩⟩⟩
theorem vx_stm0 {P : Int32 → SX → Prop} (hn : n ≤ 64) (S : fs_S n sU sL sK sE sG sO f) (c : ¬ (ca = 0 ∧ fb_pend n sK sE sG = 0 ∧ nI n < sc ∧ fa_R 4 p0 ∧ fa_R 100 p1 ∧ fa_X p2 p3)) (h : P 0 (sc, oc, ne, nI n, ca, on, st, ra, xu, xn, xe, xd, al, ap, ac, en, eu, ea, eb, sU, sL, sK, sE, sG, sO, gr, po, ec, cx, ou, tc, ss, av, cs)) : wpX_statement P (sc, oc, ne, nI n, ca, on, st, ra, xu, xn, xe, xd, al, ap, ac, en, eu, ea, eb, sU, sL, sK, sE, sG, sO, gr, po, ec, cx, ou, tc, ss, av, cs) p0 p1 p2 p3 := by
  have p5 := vs_pend5 S
  unfold wpX_statement
  dsimp only
  refine hx_isFrozen (fun z => br_f (by decide) h) (fun c0 => br_t rfl ?_)
  refine hx_await hn S ?_
  refine pk_lt 0 (fb_pend n sK sE sG) (fun _ => h) (fun z => br_c (fun z1 => ?_) (fun _ => h))
  refine hx_isUnit (fun cu => br_f (by decide) ?_) (fun z => br_t rfl h)
  refine br_c (fun _ => h) (fun z2 => br_c (fun _ => h) (fun z3 => ?_))
  refine hx_isExtra (fun cx => ?_) (fun z => br_t rfl h)
  exact absurd ⟨c0, by omega, z1, cu, ha_mid' (m := 99) (by decide) z2 z3, cx⟩ c
theorem vy_stm1 {P : Int32 → SY → Prop} {scn : Nat} (S : fs_S n sU sL sK sE sG sO f) (hp : fb_pend n sK sE sG = 0) (hsc : sc = nI scn) (h64 : scn ≤ 64) (hn : n < scn) (hu : fa_R 4 p0) (hl : fa_R 100 p1) (hx : fa_X p2 p3)
    (h : P 1 (sc, oc, ne, nI (n + 1), 0, nc, on, yp, yu, ye, st, yl, yr, al, ap, cb, cn, ac, eu, ea, eb, upd sU n p0, upd sL n p1, upd sK n p2, upd sE n p3, upd sG n 0, sO, kx, ky, kd, pl, rl, cm, hv, ba, ad, ex, cy, tc, ss, av, cs, bi, ou)) : wpY_statement P (sc, oc, ne, nI n, 0, nc, on, yp, yu, ye, st, yl, yr, al, ap, cb, cn, ac, eu, ea, eb, sU, sL, sK, sE, sG, sO, kx, ky, kd, pl, rl, cm, hv, ba, ad, ex, cy, tc, ss, av, cs, bi, ou) p0 p1 p2 p3 := by
  have vn : vp_in (nI n) 64 := vp_in_nI (by omega) (by decide)
  obtain ⟨u, hu4, rfl⟩ := hu
  obtain ⟨l, hl1, rfl⟩ := hl
  have hx' := hx
  obtain ⟨k, e, k1, k9, rfl, rfl, e16, xo⟩ := hx
  refine br_t rfl (br_f (nI_pos (by omega)) (br_f (nI_nlt (a := 3) (by omega) (by decide)) (br_f (nI_pos (by omega)) (br_f (nI_nlt (a := 99) (by omega) (by decide)) (br_f (nI_nlt (b := 1) k1 (by omega)) (br_t (nI_le (b := 9) k9 (by decide)) ?_))))))
  refine hy_extraOk k1 k9 (fun _ => br_f (by decide) ?_) (fun z => absurd hx' z)
  refine hy_pending (by omega) S ?_
  rw [hp]
  refine br_f (by decide) (br_t (by rw [hsc]; exact nI_lt hn (by omega)) ?_)
  rw [nI_clamp (n := n) (by omega), nI_1]
  exact ⟨vn, nm_e ⟨vn, nm_e ⟨vn, nm_e ⟨vn, nm_e ⟨vn, nm_e (nm_e h)⟩⟩⟩⟩⟩
theorem vy_stm0 {P : Int32 → SY → Prop} (hn : n ≤ 64) (S : fs_S n sU sL sK sE sG sO f) (c : ¬ (ca = 0 ∧ fb_pend n sK sE sG = 0 ∧ nI n < sc ∧ fa_R 4 p0 ∧ fa_R 100 p1 ∧ fa_X p2 p3)) (h : P 0 (sc, oc, ne, nI n, ca, nc, on, yp, yu, ye, st, yl, yr, al, ap, cb, cn, ac, eu, ea, eb, sU, sL, sK, sE, sG, sO, kx, ky, kd, pl, rl, cm, hv, ba, ad, ex, cy, tc, ss, av, cs, bi, ou)) : wpY_statement P (sc, oc, ne, nI n, ca, nc, on, yp, yu, ye, st, yl, yr, al, ap, cb, cn, ac, eu, ea, eb, sU, sL, sK, sE, sG, sO, kx, ky, kd, pl, rl, cm, hv, ba, ad, ex, cy, tc, ss, av, cs, bi, ou) p0 p1 p2 p3 := by
  have p5 := vs_pend5 S
  refine br_c (fun c0 => br_c (fun _ => h) (fun a => br_c (fun _ => h) (fun a' => br_c (fun _ => h) (fun b => br_c (fun _ => h) (fun b' => br_c (fun _ => h) (fun z => br_c (fun z' => ?_) (fun _ => h))))))) (fun _ => h)
  have n0 : ¬ p2 < 0 := fun q => z (Int32.lt_trans q (by decide))
  obtain ⟨k, hk, rfl⟩ := ha_le (m := 9) (by decide) n0 z'
  have k1 : 1 ≤ k := Nat.le_of_not_lt fun q => z (nI_lt (b := 1) q (by decide))
  refine hy_extraOk k1 (by omega) (fun cx => br_f (by decide) ?_) (fun _ => br_t rfl h)
  refine hy_pending hn S ?_
  refine pk_lt 0 (fb_pend n sK sE sG) (fun _ => h) (fun q => br_c (fun z1 => ?_) (fun _ => h))
  exact absurd ⟨c0, by omega, z1, ha_mid' (m := 3) (by decide) a a', ha_mid' (m := 99) (by decide) b b', cx⟩ c
/-- nothing is pending: every statement is complete -/
theorem vs_full (S : fs_S n sU sL sK sE sG sO f) (hp : fb_pend n sK sE sG = 0) : ∀ s, s < n → fs_V sU sL sK sE sG sO s True := by
  intro s hs
  have V := S s hs
  have key : fa_N sG s = fb_need (fa_N sK s) (fa_N sE s) := by
    obtain ⟨_, _, ⟨_, g2, _⟩, _, _, gf, _⟩ := ha_V V
    by_cases e : s + 1 < n
    · exact gf (Or.inl e)
    · have e2 : s = n - 1 := by omega
      unfold fb_pend at hp
      rw [if_neg (by omega), ← e2] at hp
      omega
  obtain ⟨u, l, k, e, g, a1, a2, a3, a4, a5, a6, a7, a8, a9, a10, a11, a12, a13⟩ := V
  have n5 := fb_need5 a9
  rw [fa_Re a10 (by omega), fa_Re a5 (by omega), fa_Re a8 (by unfold fb_xok at a9; omega)] at key
  exact ⟨u, l, k, e, g, a1, a2, a3, a4, a5, a6, a7, a8, a9, a10, a11, fun _ => key, a13⟩
theorem vs_new (S : fs_S n sU sL sK sE sG sO f) (hp : fb_pend n sK sE sG = 0) (nf : ¬ f) (hu : fa_R 4 p0) (hl : fa_R 100 p1) (hx : fa_X p2 p3) :
    fs_S (n + 1) (upd sU n p0) (upd sL n p1) (upd sK n p2) (upd sE n p3) (upd sG n 0) sO f := by
  intro s hs
  by_cases e : s = n
  · subst e
    obtain ⟨u, hu4, rfl⟩ := hu
    obtain ⟨l, hl1, rfl⟩ := hl
    obtain ⟨k, e, k1, k9, rfl, rfl, e16, xo⟩ := hx
    refine ⟨u, l, k, e, 0, pk_us, hu4, pk_us, hl1, pk_us, k1, k9, pk_us, xo, pk_us, Nat.zero_le _, fun z => ?_, fun p hp => absurd hp (Nat.not_lt_zero p)⟩
    rcases z with z | z
    · omega
    · exact absurd z nf
  · obtain ⟨u, l, k, e', g, a1, a2, a3, a4, a5, a6, a7, a8, a9, a10, a11, a12, a13⟩ := vs_full S hp s (by omega)
    exact ⟨u, l, k, e', g, by rw [pk_un e]; exact a1, a2, by rw [pk_un e]; exact a3, a4, by rw [pk_un e]; exact a5, a6, a7, by rw [pk_un e]; exact a8, a9, by rw [pk_un e]; exact a10, a11, fun _ => a12 trivial, a13⟩
theorem vs_more (S : fs_S n sU sL sK sE sG sO f) (nf : ¬ f) (hp : fb_pend n sK sE sG ≠ 0) (ha : fa_A (fb_pl (fa_N sK (n - 1)) (fa_N sG (n - 1))) p0) :
    fs_S n sU sL sK sE (upd sG (n - 1) (nI (fa_N sG (n - 1) + 1))) (upd sO ((n - 1) * 5 + fa_N sG (n - 1)) p0) f := by
  have n0 : n ≠ 0 := by
    intro z
    unfold fb_pend at hp
    rw [if_pos z] at hp
    exact hp rfl
  intro s hs
  have g5 := (ha_V (S (n - 1) (by omega))).2.2.1.2.2
  obtain ⟨u, l, k, e', g, a1, a2, a3, a4, a5, a6, a7, a8, a9, a10, a11, a12, a13⟩ := S s hs
  have n5 := fb_need5 a9
  by_cases e : s = n - 1
  · subst e
    have eg : fa_N sG (n - 1) = g := fa_Re a10 (by omega)
    have ek : fa_N sK (n - 1) = k := fa_Re a5 (by omega)
    have ee : fa_N sE (n - 1) = e' := fa_Re a8 (by unfold fb_xok at a9; omega)
    unfold fb_pend at hp
    rw [if_neg n0, eg, ek, ee] at hp
    rw [eg, ek] at ha
    rw [eg]
    refine ⟨u, l, k, e', g + 1, a1, a2, a3, a4, a5, a6, a7, a8, a9, pk_us, by omega, fun z => ?_, ?_⟩
    · rcases z with z | z
      · omega
      · exact absurd z nf
    · intro p hpg
      by_cases ep : p = g
      · subst ep
        obtain ⟨c, ec1, hc⟩ := ha
        exact ⟨c, by rw [pk_us]; exact ec1, hc⟩
      · obtain ⟨c, ec1, hc⟩ := a13 p (by omega)
        exact ⟨c, by rw [pk_un (by omega)]; exact ec1, hc⟩
  · refine ⟨u, l, k, e', g, a1, a2, a3, a4, a5, a6, a7, a8, a9, by rw [pk_un e]; exact a10, a11, a12, ?_⟩
    intro p hpg
    obtain ⟨c, ec1, hc⟩ := a13 p hpg
    exact ⟨c, by rw [pk_un (by omega)]; exact ec1, hc⟩
theorem vs_n0 (hp : fb_pend n sK sE sG ≠ 0) : n ≠ 0 := by
  intro z
  unfold fb_pend at hp
  rw [if_pos z] at hp
  exact hp rfl
theorem vs_g4 (S : fs_S n sU sL sK sE sG sO f) (hp : fb_pend n sK sE sG ≠ 0) : fa_N sG (n - 1) ≤ 4 := by
  have n0 := vs_n0 hp
  obtain ⟨_, ⟨_, c2, _⟩, _⟩ := ha_V (S (n - 1) (by omega))
  have := fb_need5 c2
  unfold fb_pend at hp
  rw [if_neg n0] at hp
  omega
theorem vs_pl {k p : Nat} : fb_pl k p < 3 := by
  unfold fb_pl
  repeat' split
  all_goals omega
theorem vx_opd {P : Int32 → SX → Prop} (hn : n ≤ 64) (S : fs_S n sU sL sK sE sG sO f) (hp : fb_pend n sK sE sG ≠ 0)
    (h1 : fa_A (fb_pl (fa_N sK (n - 1)) (fa_N sG (n - 1))) p0 → P 1 (sc, oc, ne, nI n, 0, on, st, ra, xu, xn, xe, xd, al, ap, ac, en, eu, ea, eb, sU, sL, sK, sE, upd sG (n - 1) (nI (fa_N sG (n - 1) + 1)), upd sO ((n - 1) * 5 + fa_N sG (n - 1)) p0, gr, po, ec, cx, ou, tc, ss, av, cs))
    (h0 : ¬ fa_A (fb_pl (fa_N sK (n - 1)) (fa_N sG (n - 1))) p0 → P 0 (sc, oc, ne, nI n, 0, on, st, ra, xu, xn, xe, xd, al, ap, ac, en, eu, ea, eb, sU, sL, sK, sE, sG, sO, gr, po, ec, cx, ou, tc, ss, av, cs)) : wpX_operand P (sc, oc, ne, nI n, 0, on, st, ra, xu, xn, xe, xd, al, ap, ac, en, eu, ea, eb, sU, sL, sK, sE, sG, sO, gr, po, ec, cx, ou, tc, ss, av, cs) p0 := by
  have n0 := vs_n0 hp
  have p5 := vs_pend5 S
  have g4 := vs_g4 S hp
  obtain ⟨⟨b1, b2, b3⟩, _, ⟨d1, d2, d3⟩, _⟩ := ha_V (S (n - 1) (by omega))
  have v : vp_in (nI (n - 1)) 64 := vp_in_nI (by omega) (by decide)
  unfold wpX_operand
  dsimp only
  refine hx_isFrozen (fun z => absurd rfl z) (fun _ => br_t rfl ?_)
  refine hx_await hn S ?_
  refine br_f (fun e => hp (fa_inj (b := 0) (by omega) (by decide) e)) (nm_r (e' := nI (n - 1)) (pk_sub (b := 1) (by omega)) ⟨v, ?_⟩)
  rw [nI_clamp (n := n - 1) (by omega)]
  refine nm_r d1 ⟨v, ?_⟩
  rw [b1]
  refine hx_placeKind b2 b3 (by omega) ?_
  refine hx_isAllowed vs_pl (fun a => br_f (by decide) ?_) (fun a => br_t rfl (h0 a))
  rw [ha_5, nI_clamp (n := (n - 1) * 5 + fa_N sG (n - 1)) (by omega)]
  refine ⟨vp_in_nI (by omega) (by decide), nm_e ⟨v, v, ?_⟩⟩
  rw [d1, nI_1]
  exact nm_e (h1 a)
theorem vx_opd0 {P : Int32 → SX → Prop} (hn : n ≤ 64) (S : fs_S n sU sL sK sE sG sO f) (c : ¬ (ca = 0 ∧ fb_pend n sK sE sG ≠ 0)) (h : P 0 (sc, oc, ne, nI n, ca, on, st, ra, xu, xn, xe, xd, al, ap, ac, en, eu, ea, eb, sU, sL, sK, sE, sG, sO, gr, po, ec, cx, ou, tc, ss, av, cs)) : wpX_operand P (sc, oc, ne, nI n, ca, on, st, ra, xu, xn, xe, xd, al, ap, ac, en, eu, ea, eb, sU, sL, sK, sE, sG, sO, gr, po, ec, cx, ou, tc, ss, av, cs) p0 := by
  have p5 := vs_pend5 S
  unfold wpX_operand
  dsimp only
  refine hx_isFrozen (fun z => br_f (by decide) h) (fun c0 => br_t rfl ?_)
  refine hx_await hn S ?_
  exact pk_eq (fb_pend n sK sE sG) 0 (fun _ => h) (fun z => absurd ⟨c0, z⟩ c)
theorem vy_fin {P : Int32 → SY → Prop} {w : Nat} {x2 v c : Int32} (hw : w < 3) (hv1 : v = 0 ∨ v = 1) (hc1 : c = 0 ∨ c = 1) (h1 : ((w = 2 ∧ c = 1) ∨ (w = 1 ∧ v = 1) ∨ (w = 0 ∧ (v = 1 ∨ c = 1))) → wY_operand_121 P p0 x2 sc oc ne ns ca nc on yp yu ye st yl yr al ap cb cn ac eu ea eb sU sL sK sE sG sO kx ky kd pl rl cm hv ba ad ex cy tc ss av cs bi ou) (h0 : ¬ ((w = 2 ∧ c = 1) ∨ (w = 1 ∧ v = 1) ∨ (w = 0 ∧ (v = 1 ∨ c = 1))) → P 0 (sc, oc, ne, ns, ca, nc, on, yp, yu, ye, st, yl, yr, al, ap, cb, cn, ac, eu, ea, eb, sU, sL, sK, sE, sG, sO, kx, ky, kd, pl, rl, cm, hv, ba, ad, ex, cy, tc, ss, av, cs, bi, ou)) : wY_operand_79 P p0 x2 (nI w) v c sc oc ne ns ca nc on yp yu ye st yl yr al ap cb cn ac eu ea eb sU sL sK sE sG sO kx ky kd pl rl cm hv ba ad ex cy tc ss av cs bi ou := by
  have cw : w = 0 ∨ w = 1 ∨ w = 2 := by omega
  rcases cw with rfl | rfl | rfl
  · refine br_f (by decide) (br_f (by decide) (br_t rfl ?_))
    rcases hv1 with rfl | rfl
    · rcases hc1 with rfl | rfl
      · exact br_t rfl (br_t rfl (h0 (by decide)))
      · exact br_t rfl (br_f (by decide) (h1 (by decide)))
    · exact br_f (by decide) (h1 (Or.inr (Or.inr ⟨rfl, Or.inl rfl⟩)))
  · refine br_f (by decide) (br_t rfl ?_)
    rcases hv1 with rfl | rfl
    · refine br_t rfl (h0 ?_)
      rintro (⟨z, _⟩ | ⟨_, z⟩ | ⟨z, _⟩) <;> exact absurd z (by decide)
    · exact br_f (by decide) (br_f (by decide) (h1 (Or.inr (Or.inl ⟨rfl, rfl⟩))))
  · refine br_t rfl ?_
    rcases hc1 with rfl | rfl
    · refine br_t rfl (h0 ?_)
      rintro (⟨_, z⟩ | ⟨z, _⟩ | ⟨z, _⟩) <;> exact absurd z (by decide)
    · exact br_f (by decide) (br_f (by decide) (br_f (by decide) (h1 (Or.inl ⟨rfl, rfl⟩))))
theorem vy_con {P : Int32 → SY → Prop} {w : Nat} {x2 v : Int32} (hw : w < 3) (hvv : v = 1 ↔ (fa_F p0 ∨ fa_I p0)) (hv1 : v = 0 ∨ v = 1) (h1 : fa_A w p0 → wY_operand_121 P p0 x2 sc oc ne ns ca nc on yp yu ye st yl yr al ap cb cn ac eu ea eb sU sL sK sE sG sO kx ky kd pl rl cm hv ba ad ex cy tc ss av cs bi ou) (h0 : ¬ fa_A w p0 → P 0 (sc, oc, ne, ns, ca, nc, on, yp, yu, ye, st, yl, yr, al, ap, cb, cn, ac, eu, ea, eb, sU, sL, sK, sE, sG, sO, kx, ky, kd, pl, rl, cm, hv, ba, ad, ex, cy, tc, ss, av, cs, bi, ou)) : wY_operand_61 P p0 x2 (nI w) v sc oc ne ns ca nc on yp yu ye st yl yr al ap cb cn ac eu ea eb sU sL sK sE sG sO kx ky kd pl rl cm hv ba ad ex cy tc ss av cs bi ou := by
  have key : ∀ c : Int32, (c = 0 ∨ c = 1) → (c = 1 ↔ fa_R 10000 p0) → wY_operand_79 P p0 x2 (nI w) v c sc oc ne ns ca nc on yp yu ye st yl yr al ap cb cn ac eu ea eb sU sL sK sE sG sO kx ky kd pl rl cm hv ba ad ex cy tc ss av cs bi ou := by
    intro c hc1 hc
    have cA : ((w = 2 ∧ c = 1) ∨ (w = 1 ∧ v = 1) ∨ (w = 0 ∧ (v = 1 ∨ c = 1))) ↔ fa_A w p0 := by
      rw [hc, hvv]
      have cw : w = 0 ∨ w = 1 ∨ w = 2 := by omega
      rcases cw with rfl | rfl | rfl
      · rw [ha_A0]
        constructor
        · rintro (⟨z, _⟩ | ⟨z, _⟩ | ⟨_, z | z⟩)
          · exact absurd z (by decide)
          · exact absurd z (by decide)
          · exact Or.inr z
          · exact Or.inl z
        · rintro (z | z)
          · exact Or.inr (Or.inr ⟨rfl, Or.inr z⟩)
          · exact Or.inr (Or.inr ⟨rfl, Or.inl z⟩)
      · rw [ha_A1]
        constructor
        · rintro (⟨z, _⟩ | ⟨_, z⟩ | ⟨z, _⟩)
          · exact absurd z (by decide)
          · exact z
          · exact absurd z (by decide)
        · exact fun z => Or.inr (Or.inl ⟨rfl, z⟩)
      · rw [ha_A2]
        constructor
        · rintro (⟨_, z⟩ | ⟨z, _⟩ | ⟨z, _⟩)
          · exact z
          · exact absurd z (by decide)
          · exact absurd z (by decide)
        · exact fun z => Or.inl ⟨rfl, z⟩
    exact vy_fin hw hv1 hc1 (fun z => h1 (cA.mp z)) (fun z => h0 (fun q => z (cA.mpr q)))
  refine br_c (fun a => key 0 (Or.inl rfl) ⟨fun z => absurd z (by decide), fun z => absurd z (ha_lo (by decide) a)⟩) (fun a => br_c (fun b => key 0 (Or.inl rfl) ⟨fun z => absurd z (by decide), fun z => absurd z (ha_hi' (m := 9999) (by decide) b)⟩) (fun b => key 1 (Or.inr rfl) ⟨fun _ => ha_mid' (m := 9999) (by decide) a b, fun _ => rfl⟩))
theorem vy_opd {P : Int32 → SY → Prop} (hn : n ≤ 64) (S : fs_S n sU sL sK sE sG sO f) (hp : fb_pend n sK sE sG ≠ 0)
    (h1 : fa_A (fb_pl (fa_N sK (n - 1)) (fa_N sG (n - 1))) p0 → P 1 (sc, oc, ne, nI n, 0, nc, on, yp, yu, ye, st, yl, yr, al, ap, cb, cn, ac, eu, ea, eb, sU, sL, sK, sE, upd sG (n - 1) (nI (fa_N sG (n - 1) + 1)), upd sO ((n - 1) * 5 + fa_N sG (n - 1)) p0, kx, ky, kd, pl, rl, cm, hv, ba, ad, ex, cy, tc, ss, av, cs, bi, ou))
    (h0 : ¬ fa_A (fb_pl (fa_N sK (n - 1)) (fa_N sG (n - 1))) p0 → P 0 (sc, oc, ne, nI n, 0, nc, on, yp, yu, ye, st, yl, yr, al, ap, cb, cn, ac, eu, ea, eb, sU, sL, sK, sE, sG, sO, kx, ky, kd, pl, rl, cm, hv, ba, ad, ex, cy, tc, ss, av, cs, bi, ou)) : wpY_operand P (sc, oc, ne, nI n, 0, nc, on, yp, yu, ye, st, yl, yr, al, ap, cb, cn, ac, eu, ea, eb, sU, sL, sK, sE, sG, sO, kx, ky, kd, pl, rl, cm, hv, ba, ad, ex, cy, tc, ss, av, cs, bi, ou) p0 := by
  have n0 := vs_n0 hp
  have p5 := vs_pend5 S
  have g4 := vs_g4 S hp
  obtain ⟨⟨b1, b2, b3⟩, _, ⟨d1, d2, d3⟩, _⟩ := ha_V (S (n - 1) (by omega))
  have v : vp_in (nI (n - 1)) 64 := vp_in_nI (by omega) (by decide)
  have fin : ∀ vr : Int32, (vr = 1 ↔ (fa_F p0 ∨ fa_I p0)) → (vr = 0 ∨ vr = 1) → wY_operand_61 P p0 (nI (n - 1)) (nI (fb_pl (fa_N sK (n - 1)) (fa_N sG (n - 1)))) vr sc oc ne (nI n) 0 nc on yp yu ye st yl yr al ap cb cn ac eu ea eb sU sL sK sE sG sO kx ky kd pl rl cm hv ba ad ex cy tc ss av cs bi ou := by
    intro vr e1 e2
    refine vy_con vs_pl e1 e2 (fun a => ?_) h0
    unfold wY_operand_121
    rw [nI_clamp (n := n - 1) (by omega), d1, ha_5, nI_clamp (n := (n - 1) * 5 + fa_N sG (n - 1)) (by omega), nI_1]
    exact ⟨v, vp_in_nI (by omega) (by decide), nm_e ⟨v, v, nm_e (h1 a)⟩⟩
  refine br_t rfl ?_
  refine hy_pending hn S ?_
  refine br_t (nI_lt (a := 0) (by omega) (by omega)) (nm_r (e' := nI (n - 1)) (pk_sub (b := 1) (by omega)) ⟨v, v, ?_⟩)
  rw [nI_clamp (n := n - 1) (by omega), b1, d1]
  refine hy_place b2 b3 (by omega) ?_
  refine hy_isFixed (fun z => br_f (by decide) ?_) (fun z => br_t rfl ?_)
  · exact fin 1 ⟨fun _ => Or.inl z, fun _ => rfl⟩ (Or.inr rfl)
  · refine hy_isIndexed (fun z' => br_f (by decide) ?_) (fun z' => br_t rfl ?_)
    · exact fin 1 ⟨fun _ => Or.inr z', fun _ => rfl⟩ (Or.inr rfl)
    · exact fin 0 ⟨fun q => absurd q (by decide), fun q => by rcases q with q | q; exact absurd q z; exact absurd q z'⟩ (Or.inl rfl)
theorem vy_opd0 {P : Int32 → SY → Prop} (hn : n ≤ 64) (S : fs_S n sU sL sK sE sG sO f) (c : ¬ (ca = 0 ∧ fb_pend n sK sE sG ≠ 0)) (h : P 0 (sc, oc, ne, nI n, ca, nc, on, yp, yu, ye, st, yl, yr, al, ap, cb, cn, ac, eu, ea, eb, sU, sL, sK, sE, sG, sO, kx, ky, kd, pl, rl, cm, hv, ba, ad, ex, cy, tc, ss, av, cs, bi, ou)) : wpY_operand P (sc, oc, ne, nI n, ca, nc, on, yp, yu, ye, st, yl, yr, al, ap, cb, cn, ac, eu, ea, eb, sU, sL, sK, sE, sG, sO, kx, ky, kd, pl, rl, cm, hv, ba, ad, ex, cy, tc, ss, av, cs, bi, ou) p0 := by
  have p5 := vs_pend5 S
  refine br_c (fun c0 => ?_) (fun _ => h)
  refine hy_pending hn S ?_
  exact pk_lt 0 (fb_pend n sK sE sG) (fun z => absurd ⟨c0, by omega⟩ c) (fun _ => h)
end HS2
end
section
section HXC
/-! the class's checks, each against a plain fact -/
variable {sc oc ne ns ca on st ra xu xn xe xd nc yp yu ye yl yr : Int32} {al ap ac en eu ea eb sU sL sK sE sG sO gr po ec cx ou tc ss av cs cb cn kx ky kd pl rl cm hv ba ad ex cy bi : Nat → Int32}
variable {post : Int32 → Prop} {n : Nat}
/-- a search loop from i0 to N: it leaves when B is found, or goes on -/
theorem lb_go {W : Nat → Int32 → Prop} {B : Nat → Prop} {i0 N : Nat} (hx : ∀ m, (∀ i, i0 ≤ i → i < N → ¬ B i) → W (m + 1) (nI N)) (hs : ∀ m i, i0 ≤ i → i < N → (¬ B i → W m (nI (i + 1))) → W (m + 1) (nI i)) :
    ∀ d i, i + d = N → i0 ≤ i → (∀ j, i0 ≤ j → j < i → ¬ B j) → W (d + 1) (nI i) := by
  intro d
  induction d with
  | zero =>
    intro i hi h0 nb
    have e : i = N := by omega
    subst e
    exact hx 0 nb
  | succ d ih =>
    intro i hi h0 nb
    refine hs (d + 1) i h0 (by omega) (fun nbi => ih (i + 1) (by omega) (by omega) ?_)
    intro j hj hj2
    by_cases e : j = i
    · subst e; exact nbi
    · exact nb j hj (by omega)
theorem lb_from {W : Nat → Int32 → Prop} {B : Nat → Prop} (i0 N : Nat) (h : i0 ≤ N) (hx : ∀ m, (∀ i, i0 ≤ i → i < N → ¬ B i) → W (m + 1) (nI N)) (hs : ∀ m i, i0 ≤ i → i < N → (¬ B i → W m (nI (i + 1))) → W (m + 1) (nI i)) : ∃ f, W f (nI i0) :=
  ⟨N - i0 + 1, lb_go hx hs (N - i0) i0 (by omega) (Nat.le_refl i0) (fun j a b => by omega)⟩
theorem cn_E (D : fs_D al ap ac en cb cn eu ea eb n) {e : Nat} (he : e < n) : (eu e = nI (fa_N eu e) ∧ fa_N eu e < 4) ∧ (ea e = nI (fa_N ea e) ∧ fb_FX (fa_N ea e) ∧ fa_N ea e < 20000) ∧ (eb e = nI (fa_N eb e) ∧ fb_FX (fa_N eb e) ∧ fa_N eb e < 20000) := by
  obtain ⟨a, ⟨c, c1, c2⟩, d, d1, d2⟩ := D.2.2.2.2.2.2 e he
  have c3 := fb_FXlt c1
  have d3 := fb_FXlt d1
  rw [fa_Re c2 (by omega), fa_Re d2 (by omega)]
  exact ⟨fa_Rn a (by omega), ⟨c2, c1, c3⟩, d2, d1, d3⟩
theorem cn_A (D : fs_D al ap ac en cb cn eu ea eb n) {k : Nat} (hk : k < 32) : al k = nI (fa_N al k) ∧ 1 ≤ fa_N al k ∧ fa_N al k ≤ 16 := by
  obtain ⟨l, l1, l2, e⟩ := D.1 k hk
  rw [fa_Re e (by omega)]
  exact ⟨e, l1, l2⟩
theorem cn_P (D : fs_D al ap ac en cb cn eu ea eb n) {u : Nat} (hu : u < 4) : ap u = nI (fa_N ap u) ∧ fa_N ap u < 4 := fa_Rn (D.2.2.1 u hu) (by decide)
theorem cn_C (D : fs_D al ap ac en cb cn eu ea eb n) {u : Nat} (hu : u < 4) : ac u = nI (fa_N ac u) ∧ fa_N ac u < 9 := fa_Rn (D.2.2.2.1 u hu) (by decide)
theorem cn_I (D : fs_D al ap ac en cb cn eu ea eb n) {i : Nat} (hi : i < 32) : (cb i = nI (fa_N cb i) ∧ fa_N cb i < 4) ∧ (cn i = nI (fa_N cn i) ∧ fa_N cn i < 8) ∧ en i = nI (fa_N cb i * 8 + fa_N cn i) := by
  obtain ⟨a, b, c⟩ := D.2.2.2.2.1 i hi
  have a' := fa_Rn a (by decide)
  have b' := fa_Rn b (by decide)
  refine ⟨a', b', ?_⟩
  rw [c, a'.1, b'.1, ha_us]
theorem cn_St {P : Nat → Nat} {u m : Nat} (hm : m < 8) : gd_St P (u * 8 + m) ↔ ¬ m < P u := by
  unfold gd_St
  rw [show (u * 8 + m) % 8 = m by omega, show (u * 8 + m) / 8 = u by omega]
theorem cx_dummy (D : fs_D al ap ac en cb cn eu ea eb n) (h1 : gd_DB (fa_N al) (fa_N ap) (fa_N ac) (fa_N cn) n (fa_N eu) (fa_N ea) (fa_N eb) → post 1) (h0 : ¬ gd_DB (fa_N al) (fa_N ap) (fa_N ac) (fa_N cn) n (fa_N eu) (fa_N ea) (fa_N eb) → post 0) : wpX_declaresDummy post (sc, oc, nI n, ns, ca, on, st, ra, xu, xn, xe, xd, al, ap, ac, en, eu, ea, eb, sU, sL, sK, sE, sG, sO, gr, po, ec, cx, ou, tc, ss, av, cs) := by
  have n16 := D.2.2.2.2.2.1
  refine lb_from (W := fun m z => wX_declaresDummy_2 post sc oc (nI n) ns ca on st ra xu xn xe xd al ap ac en eu ea eb sU sL sK sE sG sO gr po ec cx ou tc ss av cs m z) (B := fun k => k % 8 < fa_N ap (k / 8) ∧ 1 < fa_N al k) 0 32 (by decide) ?_ ?_
  · intro m nb1
    refine br_t (by decide) ?_
    refine lb_from (W := fun m z => wX_declaresDummy_36 post sc oc (nI n) ns ca on st ra xu xn xe xd al ap ac en eu ea eb sU sL sK sE sG sO gr po ec cx ou tc ss av cs m z) (B := fun u => ∃ i, i < fa_N ac u ∧ fa_N cn (u * 8 + i) < fa_N ap u) 0 4 (by decide) ?_ ?_
    · intro m nb2
      refine br_t (by decide) ?_
      refine lb_from (W := fun m z => wX_declaresDummy_97 post sc oc (nI n) ns ca on st ra xu xn xe xd al ap ac en eu ea eb sU sL sK sE sG sO gr po ec cx ou tc ss av cs m z) (B := fun e => fb_nm (fa_N ea e) < fa_N ap (fa_N eu e) ∨ fb_nm (fa_N eb e) < fa_N ap (fa_N eu e)) 0 n (by omega) ?_ ?_
      · intro m nb3
        refine br_t (nI_le (Nat.le_refl n) (by omega)) (h0 ?_)
        rintro (⟨k, hk, a⟩ | ⟨u, i, hu, hi, a⟩ | ⟨e, he, a⟩)
        · exact nb1 k (by omega) hk a
        · exact nb2 u (by omega) hu ⟨i, hi, a⟩
        · exact nb3 e (by omega) he a
      · intro m e _ he go
        obtain ⟨⟨q1, q2⟩, ⟨q3, q4, q5⟩, q6, q7, q8⟩ := cn_E D he
        have ve : vp_in (nI e) 16 := vp_in_nI (by omega) (by decide)
        have m1 := fb_nm8 (Or.inl q4)
        have m2 := fb_nm8 (Or.inl q7)
        have p4 := D.2.2.1 _ q2
        refine br_f (nI_ge he (by omega)) ⟨ve, ve, ?_⟩
        rw [nI_clamp (n := e) (by omega), q1, q3, q6]
        refine hx_slotOf (by omega) ⟨ve, ve, ?_⟩
        refine hx_slotOf (by omega) ?_
        refine hx_isDummy (by omega) (by rw [show (fa_N eu e * 8 + fb_nm (fa_N ea e)) / 8 = fa_N eu e by omega]; exact p4) (fun s1 => br_t rfl ?_) (fun s1 => br_f (by decide) (h1 (Or.inr (Or.inr ⟨e, he, Or.inl ?_⟩))))
        · refine hx_isDummy (by omega) (by rw [show (fa_N eu e * 8 + fb_nm (fa_N eb e)) / 8 = fa_N eu e by omega]; exact p4) (fun s2 => br_t rfl (nm_r (nI_1 e) (go ?_))) (fun s2 => br_f (by decide) (h1 (Or.inr (Or.inr ⟨e, he, Or.inr ?_⟩))))
          · rw [cn_St m1] at s1
            rw [cn_St m2] at s2
            omega
          · rw [cn_St m2] at s2
            omega
        · rw [cn_St m1] at s1
          omega
    · intro m u _ hu go
      obtain ⟨c1, c2⟩ := cn_C D hu
      have vu : vp_in (nI u) 4 := vp_in_nI hu (by decide)
      refine br_f (nI_ge (b := 4) hu (by decide)) ?_
      refine lb_from (W := fun m' z => wX_declaresDummy_43 post (wX_declaresDummy_36 post sc oc (nI n) ns ca on st ra xu xn xe xd al ap ac en eu ea eb sU sL sK sE sG sO gr po ec cx ou tc ss av cs m) (nI u) sc oc (nI n) ns ca on st ra xu xn xe xd al ap ac en eu ea eb sU sL sK sE sG sO gr po ec cx ou tc ss av cs m' z) (B := fun i => fa_N cn (u * 8 + i) < fa_N ap u) 0 (fa_N ac u) (by omega) ?_ ?_
      · intro m' nb
        refine ⟨vu, ?_⟩
        rw [nI_clamp (n := u) (by omega), c1]
        exact br_t (nI_le (Nat.le_refl _) (by omega)) (nm_r (nI_1 u) (go (by rintro ⟨i, hi, a⟩; exact nb i (by omega) hi a)))
      · intro m' i _ hi go'
        obtain ⟨⟨i1, i2⟩, ⟨i3, i4⟩, i5⟩ := cn_I D (i := u * 8 + i) (by omega)
        refine ⟨vu, ?_⟩
        rw [nI_clamp (n := u) (by omega), c1]
        refine br_f (nI_ge hi (by omega)) ?_
        rw [ha_us, nI_clamp (n := u * 8 + i) (by omega), i5]
        refine ⟨vp_in_nI (by omega) (by decide), by decide, nm_r (e' := nI (fa_N cn (u * 8 + i))) (by rw [ha_r8 (by omega)]; congr 1; omega) ?_⟩
        rw [ha_us]
        refine hx_isDummy (by omega) (by rw [show (u * 8 + fa_N cn (u * 8 + i)) / 8 = u by omega]; exact D.2.2.1 u hu) (fun s1 => br_t rfl (nm_r (nI_1 i) (go' ?_))) (fun s1 => br_f (by decide) (h1 (Or.inr (Or.inl ⟨u, i, hu, hi, ?_⟩))))
        · rw [cn_St i4] at s1
          exact s1
        · rw [cn_St i4] at s1
          omega
  · intro m k _ hk go
    obtain ⟨l1, l2, l3⟩ := cn_A D hk
    refine br_f (nI_ge (b := 32) hk (by decide)) ?_
    refine hx_isDummy hk (D.2.2.1 _ (by omega)) (fun s => br_t rfl (nm_r (nI_1 k) (go fun z => s z.1))) (fun s => br_f (by decide) ⟨vp_in_nI hk (by decide), ?_⟩)
    rw [nI_clamp (n := k) (by omega), l1]
    unfold gd_St at s
    exact pk_le (fa_N al k) 1 (fun z => nm_r (nI_1 k) (go fun q => by omega)) (fun z => h1 (Or.inl ⟨k, hk, by omega, z⟩))
/-- some statement names an element beyond its length -/
def gd_XS (n : Nat) (al sU sG sO : Nat → Int32) : Prop := ∃ s p c, s < n ∧ p < fa_N sG s ∧ sO (s * 5 + p) = nI c ∧ fb_FX c ∧ fa_N al (fa_N sU s * 8 + fb_nm c) < fb_ix c
theorem cx_far {u c : Nat} (D : fs_D al ap ac en cb cn eu ea eb n) (hu : u < 4) (hc : fb_FX c) (h1 : fa_N al (u * 8 + fb_nm c) < fb_ix c → post 1) (h0 : ¬ fa_N al (u * 8 + fb_nm c) < fb_ix c → post 0) : wpX_isTooFar post (sc, oc, ne, ns, ca, on, st, ra, xu, xn, xe, xd, al, ap, ac, en, eu, ea, eb, sU, sL, sK, sE, sG, sO, gr, po, ec, cx, ou, tc, ss, av, cs) (nI u) (nI c) := by
  have m8 := fb_nm8 (Or.inl hc)
  have c2 := fb_FXlt hc
  obtain ⟨l1, l2, l3⟩ := cn_A D (k := u * 8 + fb_nm c) (by omega)
  have i16 := fb_ix16 hc
  unfold wpX_isTooFar
  dsimp only
  refine hx_elementOf (by omega) ?_
  refine hx_slotOf (by omega) ⟨vp_in_nI (by omega) (by decide), ?_⟩
  rw [nI_clamp (n := u * 8 + fb_nm c) (by omega), l1]
  exact pk_le (fb_ix c) (fa_N al (u * 8 + fb_nm c)) (fun z => h0 (by omega)) (fun z => h1 z)
theorem cx_index {ns' : Nat} {f : Prop} (D : fs_D al ap ac en cb cn eu ea eb n) (hn : ns' ≤ 64) (S : fs_S ns' sU sL sK sE sG sO f) (h1 : (gd_XE (fa_N al) n (fa_N eu) (fa_N ea) (fa_N eb) ∨ gd_XS ns' al sU sG sO) → post 1) (h0 : ¬ (gd_XE (fa_N al) n (fa_N eu) (fa_N ea) (fa_N eb) ∨ gd_XS ns' al sU sG sO) → post 0) : wpX_exceedsLength post (sc, oc, nI n, nI ns', ca, on, st, ra, xu, xn, xe, xd, al, ap, ac, en, eu, ea, eb, sU, sL, sK, sE, sG, sO, gr, po, ec, cx, ou, tc, ss, av, cs) := by
  have n16 := D.2.2.2.2.2.1
  refine lb_from (W := fun m z => wX_exceedsLength_2 post sc oc (nI n) (nI ns') ca on st ra xu xn xe xd al ap ac en eu ea eb sU sL sK sE sG sO gr po ec cx ou tc ss av cs m z) (B := fun e => fa_N al (fa_N eu e * 8 + fb_nm (fa_N ea e)) < fb_ix (fa_N ea e) ∨ fa_N al (fa_N eu e * 8 + fb_nm (fa_N eb e)) < fb_ix (fa_N eb e)) 0 n (by omega) ?_ ?_
  · intro m nb1
    refine br_t (nI_le (Nat.le_refl n) (by omega)) ?_
    refine lb_from (W := fun m z => wX_exceedsLength_55 post sc oc (nI n) (nI ns') ca on st ra xu xn xe xd al ap ac en eu ea eb sU sL sK sE sG sO gr po ec cx ou tc ss av cs m z) (B := fun s => ∃ p c, p < fa_N sG s ∧ sO (s * 5 + p) = nI c ∧ fb_FX c ∧ fa_N al (fa_N sU s * 8 + fb_nm c) < fb_ix c) 0 ns' (by omega) ?_ ?_
    · intro m nb2
      refine br_t (nI_le (Nat.le_refl _) (by omega)) (h0 ?_)
      rintro (⟨e, he, a⟩ | ⟨s, p, c, hs, a⟩)
      · exact nb1 e (by omega) he a
      · exact nb2 s (by omega) hs ⟨p, c, a⟩
    · intro m s _ hs go
      obtain ⟨_, _, ⟨g1, g2, g5⟩, ⟨u1, u2⟩, _, _, ops⟩ := ha_V (S s hs)
      have vs : vp_in (nI s) 64 := vp_in_nI (by omega) (by decide)
      refine br_f (nI_ge hs (by omega)) ?_
      refine lb_from (W := fun m' z => wX_exceedsLength_65 post (wX_exceedsLength_55 post sc oc (nI n) (nI ns') ca on st ra xu xn xe xd al ap ac en eu ea eb sU sL sK sE sG sO gr po ec cx ou tc ss av cs m) (nI s) sc oc (nI n) (nI ns') ca on st ra xu xn xe xd al ap ac en eu ea eb sU sL sK sE sG sO gr po ec cx ou tc ss av cs m' z) (B := fun p => ∃ c, sO (s * 5 + p) = nI c ∧ fb_FX c ∧ fa_N al (fa_N sU s * 8 + fb_nm c) < fb_ix c) 0 (fa_N sG s) (by omega) ?_ ?_
      · intro m' nb
        refine ⟨vs, ?_⟩
        rw [nI_clamp (n := s) (by omega), g1]
        exact br_t (nI_le (Nat.le_refl _) (by omega)) (nm_r (nI_1 s) (go (by rintro ⟨p, c, hp, a⟩; exact nb p (by omega) hp ⟨c, a⟩)))
      · intro m' p _ hp go'
        obtain ⟨c, ec1, hal⟩ := ops p hp
        have c3 : c < 30000 := by
          unfold fb_al fb_FX fb_IX at hal
          omega
        refine ⟨vs, ?_⟩
        rw [nI_clamp (n := s) (by omega), g1]
        refine br_f (nI_ge hp (by omega)) ?_
        rw [ha_5, nI_clamp (n := s * 5 + p) (by omega), ec1]
        refine ⟨vp_in_nI (by omega) (by decide), nm_e ?_⟩
        refine hx_isFixed (fun z => br_f (by decide) ⟨vs, ?_⟩) (fun z => br_t rfl (nm_r (nI_1 p) (go' ?_)))
        · obtain ⟨c', hc', e⟩ := z
          have c2 := fb_FXlt hc'
          have := fa_inj (by omega) (by omega) e
          subst this
          rw [u1]
          exact cx_far D u2 hc' (fun q => br_f (by decide) (h1 (Or.inr ⟨s, p, c, hs, hp, ec1, hc', q⟩))) (fun q => br_t rfl (nm_r (nI_1 p) (go' (by
            rintro ⟨c'', e1, e2, e3⟩
            have := fa_inj (by omega) (by have := fb_FXlt e2; omega) (ec1.symm.trans e1)
            subst this
            exact q e3))))
        · rintro ⟨c'', e1, e2, e3⟩
          exact z ⟨c'', e2, ec1.symm.trans e1⟩
  · intro m e _ he go
    obtain ⟨⟨q1, q2⟩, ⟨q3, q4, q5⟩, q6, q7, q8⟩ := cn_E D he
    have ve : vp_in (nI e) 16 := vp_in_nI (by omega) (by decide)
    refine br_f (nI_ge he (by omega)) ⟨ve, ?_⟩
    rw [nI_clamp (n := e) (by omega), q1, q3, q6]
    refine nm_e ⟨ve, ?_⟩
    refine cx_far D q2 q4 (fun z => br_f (by decide) (h1 (Or.inl ⟨e, he, Or.inl z⟩))) (fun z => br_t rfl ⟨ve, ?_⟩)
    exact cx_far D q2 q7 (fun z' => br_f (by decide) (h1 (Or.inl ⟨e, he, Or.inr z'⟩))) (fun z' => br_t rfl (nm_r (nI_1 e) (go (by omega))))
end HXC
end
section
section HXD
variable {sc oc ne ns ca on st ra xu xn xe xd nc yp yu ye yl yr : Int32} {al ap ac en eu ea eb sU sL sK sE sG sO gr po ec cx ou tc ss av cs cb cn kx ky kd pl rl cm hv ba ad ex cy bi : Nat → Int32}
variable {post : Int32 → Prop} {n : Nat} {f : Prop}
def gd_JB (gr : Nat → Int32) : Prop := ∃ b c, c < b ∧ b < 4 ∧ gr (32 + b) = gr (32 + c)
theorem cx_joins (h1 : gd_JB gr → post 1) (h0 : ¬ gd_JB gr → post 0) : wpX_joinsBlocks post (sc, oc, ne, ns, ca, on, st, ra, xu, xn, xe, xd, al, ap, ac, en, eu, ea, eb, sU, sL, sK, sE, sG, sO, gr, po, ec, cx, ou, tc, ss, av, cs) := by
  refine lb_from (W := fun m z => wX_joinsBlocks_2 post sc oc ne ns ca on st ra xu xn xe xd al ap ac en eu ea eb sU sL sK sE sG sO gr po ec cx ou tc ss av cs m z) (B := fun b => ∃ c, c < b ∧ gr (32 + b) = gr (32 + c)) 1 4 (by decide) ?_ ?_
  · intro m nb
    refine br_t (by decide) (h0 ?_)
    rintro ⟨b, c, hc, hb, e⟩
    exact nb b (by omega) hb ⟨c, hc, e⟩
  · intro m b b1 hb go
    refine br_f (nI_ge (b := 4) hb (by decide)) ?_
    refine lb_from (W := fun m' z => wX_joinsBlocks_9 post (wX_joinsBlocks_2 post sc oc ne ns ca on st ra xu xn xe xd al ap ac en eu ea eb sU sL sK sE sG sO gr po ec cx ou tc ss av cs m) (nI b) sc oc ne ns ca on st ra xu xn xe xd al ap ac en eu ea eb sU sL sK sE sG sO gr po ec cx ou tc ss av cs m' z) (B := fun c => gr (32 + b) = gr (32 + c)) 0 b (by omega) ?_ ?_
    · intro m' nb
      exact br_t (nI_le (Nat.le_refl b) (by omega)) (nm_r (nI_1 b) (go (by rintro ⟨c, hc, e⟩; exact nb c (by omega) hc e)))
    · intro m' c _ hc go'
      refine br_f (nI_ge hc (by omega)) ?_
      rw [ha_32, ha_32, nI_clamp (n := 32 + b) (by omega), nI_clamp (n := 32 + c) (by omega)]
      exact ⟨vp_in_nI (by omega) (by decide), vp_in_nI (by omega) (by decide), br_c (fun z => h1 ⟨b, c, hc, hb, z⟩) (fun z => nm_r (nI_1 c) (go' z))⟩
def gd_BB (gr po : Nat → Int32) : Prop := ∃ b k, b < 4 ∧ k < 32 ∧ gr k = gr (32 + b) ∧ po k < po (32 + b)
theorem cx_back (h1 : gd_BB gr po → post 1) (h0 : ¬ gd_BB gr po → post 0) : wpX_reachesBackward post (sc, oc, ne, ns, ca, on, st, ra, xu, xn, xe, xd, al, ap, ac, en, eu, ea, eb, sU, sL, sK, sE, sG, sO, gr, po, ec, cx, ou, tc, ss, av, cs) := by
  refine lb_from (W := fun m z => wX_reachesBackward_2 post sc oc ne ns ca on st ra xu xn xe xd al ap ac en eu ea eb sU sL sK sE sG sO gr po ec cx ou tc ss av cs m z) (B := fun b => ∃ k, k < 32 ∧ gr k = gr (32 + b) ∧ po k < po (32 + b)) 0 4 (by decide) ?_ ?_
  · intro m nb
    refine br_t (by decide) (h0 ?_)
    rintro ⟨b, k, hb, e⟩
    exact nb b (by omega) hb ⟨k, e⟩
  · intro m b _ hb go
    refine br_f (nI_ge (b := 4) hb (by decide)) ?_
    refine lb_from (W := fun m' z => wX_reachesBackward_9 post (wX_reachesBackward_2 post sc oc ne ns ca on st ra xu xn xe xd al ap ac en eu ea eb sU sL sK sE sG sO gr po ec cx ou tc ss av cs m) (nI b) sc oc ne ns ca on st ra xu xn xe xd al ap ac en eu ea eb sU sL sK sE sG sO gr po ec cx ou tc ss av cs m' z) (B := fun k => gr k = gr (32 + b) ∧ po k < po (32 + b)) 0 32 (by decide) ?_ ?_
    · intro m' nb
      exact br_t (by decide) (nm_r (nI_1 b) (go (by rintro ⟨k, hk, e⟩; exact nb k (by omega) hk e)))
    · intro m' k _ hk go'
      have vk : vp_in (nI k) 36 := vp_in_nI (by omega) (by decide)
      have vb : vp_in (nI (32 + b)) 36 := vp_in_nI (by omega) (by decide)
      refine br_f (nI_ge (b := 32) hk (by decide)) ?_
      rw [ha_32, nI_clamp (n := k) (by omega), nI_clamp (n := 32 + b) (by omega)]
      refine ⟨vk, vb, br_c (fun z => ?_) (fun z => br_t rfl (nm_r (nI_1 k) (go' fun q => z q.1)))⟩
      unfold wX_reachesBackward_38
      rw [ha_32, nI_clamp (n := k) (by omega), nI_clamp (n := 32 + b) (by omega)]
      exact br_f (by decide) ⟨vk, vb, br_c (fun w => nm_r (nI_1 k) (go' fun q => absurd q.2 (Int32.not_lt.mpr w))) (fun w => h1 ⟨b, k, hb, hk, z, Int32.not_le.mp w⟩)⟩
def gd_LD (n : Nat) (sU sL : Nat → Int32) : Prop := ∃ i j, j < i ∧ i < n ∧ sL i = sL j ∧ ¬ sL i = 0 ∧ sU i = sU j
theorem cx_rep (hn : n ≤ 64) (h1 : gd_LD n sU sL → post 1) (h0 : ¬ gd_LD n sU sL → post 0) : wpX_hasRepeatedLabel post (sc, oc, ne, nI n, ca, on, st, ra, xu, xn, xe, xd, al, ap, ac, en, eu, ea, eb, sU, sL, sK, sE, sG, sO, gr, po, ec, cx, ou, tc, ss, av, cs) := by
  by_cases n0 : n = 0
  · subst n0
    refine ⟨0 + 1, br_t (by decide) (h0 ?_)⟩
    rintro ⟨i, j, a, b, _⟩
    omega
  · refine lb_from (W := fun m z => wX_hasRepeatedLabel_2 post sc oc ne (nI n) ca on st ra xu xn xe xd al ap ac en eu ea eb sU sL sK sE sG sO gr po ec cx ou tc ss av cs m z) (B := fun i => ∃ j, j < i ∧ sL i = sL j ∧ ¬ sL i = 0 ∧ sU i = sU j) 1 n (by omega) ?_ ?_
    · intro m nb
      refine br_t (nI_le (Nat.le_refl n) (by omega)) (h0 ?_)
      rintro ⟨i, j, hj, hi, e⟩
      exact nb i (by omega) hi ⟨j, hj, e⟩
    · intro m i _ hi go
      have vi : vp_in (nI i) 64 := vp_in_nI (by omega) (by decide)
      refine br_f (nI_ge hi (by omega)) ?_
      refine lb_from (W := fun m' z => wX_hasRepeatedLabel_12 post (wX_hasRepeatedLabel_2 post sc oc ne (nI n) ca on st ra xu xn xe xd al ap ac en eu ea eb sU sL sK sE sG sO gr po ec cx ou tc ss av cs m) (nI i) sc oc ne (nI n) ca on st ra xu xn xe xd al ap ac en eu ea eb sU sL sK sE sG sO gr po ec cx ou tc ss av cs m' z) (B := fun j => sL i = sL j ∧ ¬ sL i = 0 ∧ sU i = sU j) 0 i (by omega) ?_ ?_
      · intro m' nb
        exact br_t (nI_le (Nat.le_refl i) (by omega)) (nm_r (nI_1 i) (go (by rintro ⟨j, hj, e⟩; exact nb j (by omega) hj e)))
      · intro m' j _ hj go'
        have vj : vp_in (nI j) 64 := vp_in_nI (by omega) (by decide)
        refine br_f (nI_ge hj (by omega)) ⟨vi, vj, ?_⟩
        rw [nI_clamp (n := i) (by omega), nI_clamp (n := j) (by omega)]
        refine br_c (fun z => ⟨vi, br_c (fun z' => br_t rfl (nm_r (nI_1 j) (go' fun q => q.2.1 z'))) (fun z' => br_f (by decide) ⟨vi, vj, ?_⟩)⟩) (fun z => br_t rfl (nm_r (nI_1 j) (go' fun q => z q.1)))
        rw [nI_clamp (n := i) (by omega), nI_clamp (n := j) (by omega)]
        exact br_c (fun w => h1 ⟨i, j, hj, hi, z, z', w⟩) (fun w => nm_r (nI_1 j) (go' fun q => w q.2.2))
/-- a DO's end statement is no good -/
def gd_Bad (sK : Nat → Int32) (s t : Nat) : Prop := t ≤ s ∨ ¬ (sK t = 1 ∨ sK t = 5 ∨ sK t = 6 ∨ sK t = 7)
def gd_LT (n : Nat) (sU sL sK sG sO : Nat → Int32) : Prop := ∃ s p, s < n ∧ p < fa_N sG s ∧ fb_pl (fa_N sK s) p = 2 ∧ fb_FL sU sL n (sU s) (sO (s * 5 + p)) = -1
def gd_LE (n : Nat) (sU sL sK sG sO : Nat → Int32) : Prop := ∃ s t, s < n ∧ sK s = 4 ∧ 0 < fa_N sG s ∧ fb_FL sU sL n (sU s) (sO (s * 5)) = nI t ∧ t < n ∧ gd_Bad sK s t
theorem cx_can {s t : Nat} (hs : s < 64) (ht : t < 64) (h1 : ¬ gd_Bad sK s t → post 1) (h0 : gd_Bad sK s t → post 0) : wpX_canEndLoop post (sc, oc, ne, ns, ca, on, st, ra, xu, xn, xe, xd, al, ap, ac, en, eu, ea, eb, sU, sL, sK, sE, sG, sO, gr, po, ec, cx, ou, tc, ss, av, cs) (nI t) (nI s) := by
  have fin : (sK t = 1 ∨ sK t = 5 ∨ sK t = 6 ∨ sK t = 7) → wX_canEndLoop_29 post (nI t) (nI s) sc oc ne ns ca on st ra xu xn xe xd al ap ac en eu ea eb sU sL sK sE sG sO gr po ec cx ou tc ss av cs := fun k =>
    br_f (by decide) (pk_le t s (fun z => h0 (Or.inl z)) (fun z => h1 (fun q => by rcases q with q | q; omega; exact q k)))
  refine ⟨vp_in_nI ht (by decide), ?_⟩
  rw [nI_clamp (by omega)]
  refine nm_e (br_c (fun a => fin (Or.inl a)) (fun a => br_c (fun b => fin (Or.inr (Or.inl b))) (fun b => br_c (fun c => fin (Or.inr (Or.inr (Or.inl c)))) (fun c => br_c (fun d => fin (Or.inr (Or.inr (Or.inr d)))) (fun d => br_t rfl (h0 (Or.inr ?_)))))))
  rintro (z | z | z | z)
  · exact a z
  · exact b z
  · exact c z
  · exact d z
theorem cx_tgt (hn : n ≤ 64) (S : fs_S n sU sL sK sE sG sO f) (h1 : (gd_LT n sU sL sK sG sO ∨ gd_LE n sU sL sK sG sO) → post 1) (h0 : ¬ (gd_LT n sU sL sK sG sO ∨ gd_LE n sU sL sK sG sO) → post 0) : wpX_hasWrongTarget post (sc, oc, ne, nI n, ca, on, st, ra, xu, xn, xe, xd, al, ap, ac, en, eu, ea, eb, sU, sL, sK, sE, sG, sO, gr, po, ec, cx, ou, tc, ss, av, cs) := by
  refine lb_from (W := fun m z => wX_hasWrongTarget_2 post sc oc ne (nI n) ca on st ra xu xn xe xd al ap ac en eu ea eb sU sL sK sE sG sO gr po ec cx ou tc ss av cs m z) (B := fun s => ∃ p, p < fa_N sG s ∧ fb_pl (fa_N sK s) p = 2 ∧ (fb_FL sU sL n (sU s) (sO (s * 5 + p)) = -1 ∨ (sK s = 4 ∧ ∃ t, fb_FL sU sL n (sU s) (sO (s * 5 + p)) = nI t ∧ t < n ∧ gd_Bad sK s t))) 0 n (by omega) ?_ ?_
  · intro m nb
    refine br_t (nI_le (Nat.le_refl n) (by omega)) (h0 ?_)
    rintro (⟨s, p, hs, hp, a, b⟩ | ⟨s, t, hs, k4, g0, a, b⟩)
    · exact nb s (by omega) hs ⟨p, hp, a, Or.inl b⟩
    · exact nb s (by omega) hs ⟨0, g0, by rw [fa_Re k4 (by decide)]; rfl, Or.inr ⟨k4, t, a, b⟩⟩
  · intro m s _ hs go
    obtain ⟨⟨k1, k2, k3⟩, _, ⟨g1, g2, g5⟩, _, _, _, ops⟩ := ha_V (S s hs)
    have vs : vp_in (nI s) 64 := vp_in_nI (by omega) (by decide)
    refine br_f (nI_ge hs (by omega)) ?_
    refine lb_from (W := fun m' z => wX_hasWrongTarget_12 post (wX_hasWrongTarget_2 post sc oc ne (nI n) ca on st ra xu xn xe xd al ap ac en eu ea eb sU sL sK sE sG sO gr po ec cx ou tc ss av cs m) (nI s) sc oc ne (nI n) ca on st ra xu xn xe xd al ap ac en eu ea eb sU sL sK sE sG sO gr po ec cx ou tc ss av cs m' z) (B := fun p => fb_pl (fa_N sK s) p = 2 ∧ (fb_FL sU sL n (sU s) (sO (s * 5 + p)) = -1 ∨ (sK s = 4 ∧ ∃ t, fb_FL sU sL n (sU s) (sO (s * 5 + p)) = nI t ∧ t < n ∧ gd_Bad sK s t))) 0 (fa_N sG s) (by omega) ?_ ?_
    · intro m' nb
      refine ⟨vs, ?_⟩
      rw [nI_clamp (n := s) (by omega), g1]
      exact br_t (nI_le (Nat.le_refl _) (by omega)) (nm_r (nI_1 s) (go (by rintro ⟨p, hp, e⟩; exact nb p (by omega) hp e)))
    · intro m' p _ hp go'
      refine ⟨vs, ?_⟩
      rw [nI_clamp (n := s) (by omega), g1]
      refine br_f (nI_ge hp (by omega)) ⟨vs, ?_⟩
      rw [k1]
      refine hx_placeKind k2 k3 (by omega) ?_
      refine pk_eq (fb_pl (fa_N sK s) p) 2 (fun z => ⟨vs, ?_⟩) (fun z => nm_r (nI_1 p) (go' fun q => z q.1)) rfl rfl (by have := vs_pl (k := fa_N sK s) (p := p); omega)
      rw [ha_5, nI_clamp (n := s * 5 + p) (by omega)]
      refine ⟨vp_in_nI (by omega) (by decide), ?_⟩
      refine hx_findLabel hn ?_
      rcases hs_FLr (sU := sU) (sL := sL) (n := n) (u := sU s) (l := sO (s * 5 + p)) with e | ⟨t, ht, e, _⟩
      · exact br_t e (h1 (Or.inl ⟨s, p, hs, hp, z, e⟩))
      · rw [e]
        refine br_f (fa_m1 (by omega)) ⟨vs, ?_⟩
        rw [← k1]
        refine br_c (fun w => ?_) (fun w => nm_r (nI_1 p) (go' ?_))
        · refine cx_can (by omega) (by omega) (fun q => br_f (by decide) (nm_r (nI_1 p) (go' ?_))) (fun q => br_t rfl (h1 (Or.inr ⟨s, t, hs, w, by omega, ?_, ht, q⟩)))
          · rintro ⟨_, y | ⟨_, t', e', ht', b'⟩⟩
            · rw [e] at y
              exact fa_m1 (by omega) y
            · have := fa_inj (by omega) (by omega) (e.symm.trans e')
              subst this
              exact q b'
          · have p0 : p = 0 := by
              rw [fa_Re w (by decide)] at z
              have z' : (if p = 0 then 2 else if p = 1 then 1 else 0) = 2 := z
              by_cases y : p = 0
              · exact y
              · rw [if_neg y] at z'
                split at z' <;> omega
            subst p0
            exact e
        · rintro ⟨_, y | ⟨y, _⟩⟩
          · rw [e] at y
            exact fa_m1 (by omega) y
          · exact w y
def gd_WC (n : Nat) (ap sK sE : Nat → Int32) : Prop := ∃ s, s < n ∧ sK s = 5 ∧ ¬ fa_N sE s / 4 = fa_N ap (fa_N sE s % 4)
theorem cx_wc (hn : n ≤ 64) (S : fs_S n sU sL sK sE sG sO f) (hP : ∀ u, u < 4 → fa_R 4 (ap u)) (h1 : gd_WC n ap sK sE → post 1) (h0 : ¬ gd_WC n ap sK sE → post 0) : wpX_hasWrongCall post (sc, oc, ne, nI n, ca, on, st, ra, xu, xn, xe, xd, al, ap, ac, en, eu, ea, eb, sU, sL, sK, sE, sG, sO, gr, po, ec, cx, ou, tc, ss, av, cs) := by
  refine lb_from (W := fun m z => wX_hasWrongCall_2 post sc oc ne (nI n) ca on st ra xu xn xe xd al ap ac en eu ea eb sU sL sK sE sG sO gr po ec cx ou tc ss av cs m z) (B := fun s => sK s = 5 ∧ ¬ fa_N sE s / 4 = fa_N ap (fa_N sE s % 4)) 0 n (by omega) ?_ ?_
  · intro m nb
    refine br_t (nI_le (Nat.le_refl n) (by omega)) (h0 ?_)
    rintro ⟨s, hs, a⟩
    exact nb s (by omega) hs a
  · intro m s _ hs go
    obtain ⟨_, ⟨e1, e2, e3⟩, _⟩ := ha_V (S s hs)
    obtain ⟨q1, q2⟩ := fa_Rn (hP (fa_N sE s % 4) (by omega)) (by decide)
    have vs : vp_in (nI s) 64 := vp_in_nI (by omega) (by decide)
    refine br_f (nI_ge hs (by omega)) ⟨vs, ?_⟩
    rw [nI_clamp (n := s) (by omega)]
    refine br_c (fun z => ?_) (fun z => br_t rfl (nm_r (nI_1 s) (go fun q => z q.1)))
    unfold wX_hasWrongCall_25
    rw [nI_clamp (n := s) (by omega), e1, ha_r4 (by omega), ha_d4 (by omega), nI_clamp (n := fa_N sE s % 4) (by omega), q1]
    exact br_f (by decide) ⟨vs, by decide, vs, by decide, vp_in_nI (by omega) (by decide), pk_eq (fa_N sE s / 4) (fa_N ap (fa_N sE s % 4)) (fun w => nm_r (nI_1 s) (go fun q => q.2 w)) (fun w => h1 ⟨s, hs, z, w⟩)⟩
end HXD
end
section
section HXL
/-! the class's layout -/
variable {sc oc ne ns ca on st ra xu xn xe xd nc yp yu ye yl yr : Int32} {al ap ac en eu ea eb sU sL sK sE sG sO gr po ec cx ou tc ss av cs cb cn kx ky kd pl rl cm hv ba ad ex cy bi : Nat → Int32}
variable {n : Nat} {C S : ga_T}
theorem cl_g0 (g : Nat → Int32) (o w : Int32) : ga_g g o w 0 = g := by
  funext j
  exact if_neg (fun z => Nat.not_lt_zero j z.1)
theorem cl_q0 (g q : Nat → Int32) (o w : Int32) : ga_q g q o w 0 = q := by
  funext j
  exact if_neg (fun z => Nat.not_lt_zero j z.1)
theorem cl_gi (g : Nat → Int32) (o w : Int32) (i : Nat) : ga_g g o w i i = g i := if_neg (fun z => Nat.lt_irrefl i z.1)
theorem cl_qi (g q : Nat → Int32) (o w : Int32) (i : Nat) : ga_q g q o w i i = q i := if_neg (fun z => Nat.lt_irrefl i z.1)
theorem cl_gu {g : Nat → Int32} {o w : Int32} {i : Nat} (h : g i = o) : upd (ga_g g o w i) i w = ga_g g o w (i + 1) := by
  funext j
  by_cases e : j = i
  · subst e
    rw [pk_us]
    exact (if_pos ⟨Nat.lt_succ_self j, h⟩).symm
  · rw [pk_un e]
    unfold ga_g
    by_cases z : j < i ∧ g j = o
    · rw [if_pos z, if_pos ⟨by omega, z.2⟩]
    · rw [if_neg z, if_neg (fun y => z ⟨by omega, y.2⟩)]
theorem cl_gk {g : Nat → Int32} {o w : Int32} {i : Nat} (h : ¬ g i = o) : ga_g g o w i = ga_g g o w (i + 1) := by
  funext j
  unfold ga_g
  by_cases z : j < i ∧ g j = o
  · rw [if_pos z, if_pos ⟨by omega, z.2⟩]
  · rw [if_neg z, if_neg]
    rintro ⟨y1, y2⟩
    by_cases e : j = i
    · subst e; exact h y2
    · exact z ⟨by omega, y2⟩
theorem cl_qu {g q : Nat → Int32} {o w : Int32} {i : Nat} (h : g i = o) : upd (ga_q g q o w i) i (ga_q g q o w i i + w) = ga_q g q o w (i + 1) := by
  rw [cl_qi]
  funext j
  by_cases e : j = i
  · subst e
    rw [pk_us]
    exact (if_pos ⟨Nat.lt_succ_self j, h⟩).symm
  · rw [pk_un e]
    unfold ga_q
    by_cases z : j < i ∧ g j = o
    · rw [if_pos z, if_pos ⟨by omega, z.2⟩]
    · rw [if_neg z, if_neg (fun y => z ⟨by omega, y.2⟩)]
theorem cl_qk {g q : Nat → Int32} {o w : Int32} {i : Nat} (h : ¬ g i = o) : ga_q g q o w i = ga_q g q o w (i + 1) := by
  funext j
  unfold ga_q
  by_cases z : j < i ∧ g j = o
  · rw [if_pos z, if_pos ⟨by omega, z.2⟩]
  · rw [if_neg z, if_neg]
    rintro ⟨y1, y2⟩
    by_cases e : j = i
    · subst e; exact h y2
    · exact z ⟨by omega, y2⟩
theorem cl_54 {P : Int32 → SX → Prop} {o w sh : Int32} (h : P 1 (sc, oc, ne, ns, ca, on, st, ra, xu, xn, xe, xd, al, ap, ac, en, eu, ea, eb, sU, sL, sK, sE, sG, sO, ga_g gr o w 36, ga_q gr po o sh 36, ec, cx, ou, tc, ss, av, cs)) : ∀ d i, i + d = 36 → wX_constrain_54 P sh o w sc oc ne ns ca on st ra xu xn xe xd (d + 1) (nI i) al ap ac en eu ea eb sU sL sK sE sG sO (ga_g gr o w i) (ga_q gr po o sh i) ec cx ou tc ss av cs := by
  intro d
  induction d with
  | zero =>
    intro i hi
    have e : i = 36 := by omega
    subst e
    exact br_t (by decide) h
  | succ d ih =>
    intro i hi
    have vi : vp_in (nI i) 36 := vp_in_nI (by omega) (by decide)
    refine br_f (nI_ge (b := 36) (by omega) (by decide)) ⟨vi, ?_⟩
    rw [nI_clamp (n := i) (by omega), cl_gi]
    have key := ih (i + 1) (by omega)
    refine br_c (fun z => ⟨vi, nm_r (cl_gu z) ⟨vi, vi, nm_r (cl_qu z) (nm_r (nI_1 i) key)⟩⟩) (fun z => nm_r (nI_1 i) ?_)
    rw [cl_gk z, cl_qk z]
    exact key
theorem cl_con {P : Int32 → SX → Prop} {a b : Nat} {d : Int32} (H : ga_IX C S gr po) (hC : C a b d) (ha : a < 36) (hb : b < 36)
    (h1 : ∀ gr' po', ga_IX C (fun x y e => S x y e ∨ (x = a ∧ y = b ∧ e = d)) gr' po' → P 1 (sc, oc, ne, ns, ca, on, st, ra, xu, xn, xe, xd, al, ap, ac, en, eu, ea, eb, sU, sL, sK, sE, sG, sO, gr', po', ec, cx, ou, tc, ss, av, cs)) (h0 : (¬ ∃ p, ga_Sol C p) → P 0 (sc, oc, ne, ns, ca, on, st, ra, xu, xn, xe, xd, al, ap, ac, en, eu, ea, eb, sU, sL, sK, sE, sG, sO, gr, po, ec, cx, ou, tc, ss, av, cs)) : wpX_constrain P (sc, oc, ne, ns, ca, on, st, ra, xu, xn, xe, xd, al, ap, ac, en, eu, ea, eb, sU, sL, sK, sE, sG, sO, gr, po, ec, cx, ou, tc, ss, av, cs) (nI a) (nI b) d := by
  have va : vp_in (nI a) 36 := vp_in_nI ha (by decide)
  have vb : vp_in (nI b) 36 := vp_in_nI hb (by decide)
  unfold wpX_constrain
  dsimp only
  rw [nI_clamp (n := a) (by omega), nI_clamp (n := b) (by omega)]
  refine ⟨vb, va, nm_e ⟨va, nm_e ⟨vb, nm_e (br_c (fun z => br_c (fun w => h1 gr po (ga_ixSame H ha hb z w)) (fun w => h0 (ga_ixBad H hC ha hb z w))) (fun z => ?_))⟩⟩⟩
  have key := cl_54 (gr := gr) (po := po) (o := gr a) (w := gr b) (sh := po b + d - po a) (sc := sc) (oc := oc) (ne := ne) (ns := ns) (ca := ca) (on := on) (st := st) (ra := ra) (xu := xu) (xn := xn) (xe := xe) (xd := xd) (al := al) (ap := ap) (ac := ac) (en := en) (eu := eu) (ea := ea) (eb := eb) (sU := sU) (sL := sL) (sK := sK) (sE := sE) (sG := sG) (sO := sO) (ec := ec) (cx := cx) (ou := ou) (tc := tc) (ss := ss) (av := av) (cs := cs) (h1 _ _ (ga_ixJoin H hC ha hb z)) 36 0 rfl
  rw [cl_g0, cl_q0] at key
  exact ⟨36 + 1, key⟩
/-- the entries of one block of one unit -/
theorem cl_12 {post : Int32 → SX → Prop} {J : Int32 → Int32 → Int32 → Int32 → Int32 → Int32 → Int32 → Int32 → Int32 → Int32 → Int32 → Int32 → Int32 → (Nat → Int32) → (Nat → Int32) → (Nat → Int32) → (Nat → Int32) → (Nat → Int32) → (Nat → Int32) → (Nat → Int32) → (Nat → Int32) → (Nat → Int32) → (Nat → Int32) → (Nat → Int32) → (Nat → Int32) → (Nat → Int32) → (Nat → Int32) → (Nat → Int32) → (Nat → Int32) → (Nat → Int32) → (Nat → Int32) → (Nat → Int32) → (Nat → Int32) → (Nat → Int32) → (Nat → Int32) → Prop} {u b : Nat}
    (D : fs_D al ap ac en cb cn eu ea eb n) (hu : u < 4) (hb : b < 4) (hC : C = gd_CS (fa_N al) (fa_N ac) (fa_N cb) (fa_N cn) n (fa_N eu) (fa_N ea) (fa_N eb))
    (h0 : (¬ ∃ p, ga_Sol C p) → ∀ gr po : Nat → Int32, post 0 (sc, oc, ne, ns, ca, on, st, ra, xu, xn, xe, xd, al, ap, ac, en, eu, ea, eb, sU, sL, sK, sE, sG, sO, gr, po, ec, cx, ou, tc, ss, av, cs))
    (hJ : ∀ gr po : Nat → Int32, ga_IX C (gd_SX (fa_N al) (fa_N ac) (fa_N cb) (fa_N cn) u b (fa_N ac u)) gr po → J (nI (b + 1)) sc oc ne ns ca on st ra xu xn xe xd al ap ac en eu ea eb sU sL sK sE sG sO gr po ec cx ou tc ss av cs) :
    ∀ d i, i + d = fa_N ac u → ∀ gr po : Nat → Int32, ga_IX C (gd_SX (fa_N al) (fa_N ac) (fa_N cb) (fa_N cn) u b i) gr po → wX_placeEntries_12 post J (nI u) (nI b) (d + 1) (nI (gd_off (fa_N al) (fa_N cb) (fa_N cn) u b i)) (nI i) sc oc ne ns ca on st ra xu xn xe xd al ap ac en eu ea eb sU sL sK sE sG sO gr po ec cx ou tc ss av cs := by
  obtain ⟨c1, c2⟩ := cn_C D hu
  have vu : vp_in (nI u) 4 := vp_in_nI hu (by decide)
  have W := fs_wd D
  intro d
  induction d with
  | zero =>
    intro i hi gr po H
    have e : i = fa_N ac u := by omega
    refine ⟨vu, ?_⟩
    rw [nI_clamp (n := u) (by omega), c1]
    refine br_t (nI_le (by omega) (by omega)) (nm_r (nI_1 b) (hJ gr po ?_))
    rw [← e]
    exact H
  | succ d ih =>
    intro i hi gr po H
    obtain ⟨⟨i1, i2⟩, ⟨i3, i4⟩, i5⟩ := cn_I D (i := u * 8 + i) (by omega)
    have l16 := cn_A D (k := u * 8 + fa_N cn (u * 8 + i)) (by omega)
    have off := gd_off_le (L := fa_N al) (CB := fa_N cb) (CN := fa_N cn) (b := b) (fun k hk => (W.1 k hk).2) (fun i hi => (W.2.2.2.1 i hi).2) hu i (by omega)
    refine ⟨vu, ?_⟩
    rw [nI_clamp (n := u) (by omega), c1]
    refine br_f (nI_ge (by omega) (by omega)) ?_
    rw [ha_us (u := u) (n := i), nI_clamp (n := u * 8 + i) (by omega), i5]
    refine ⟨vp_in_nI (by omega) (by decide), nm_e ⟨by decide, ?_⟩⟩
    rw [ha_d8 (by omega), show (fa_N cb (u * 8 + i) * 8 + fa_N cn (u * 8 + i)) / 8 = fa_N cb (u * 8 + i) by omega]
    have offS : gd_off (fa_N al) (fa_N cb) (fa_N cn) u b (i + 1) = gd_off (fa_N al) (fa_N cb) (fa_N cn) u b i + (if fa_N cb (u * 8 + i) = b then fa_N al (u * 8 + fa_N cn (u * 8 + i)) else 0) := rfl
    refine pk_eq (fa_N cb (u * 8 + i)) b (fun z => ⟨by decide, nm_r (e' := nI (u * 8 + fa_N cn (u * 8 + i))) ?_ ?_⟩) (fun z => nm_r (nI_1 i) ?_)
    · rw [show nI (fa_N cb (u * 8 + i)) * 8 = nI (fa_N cb (u * 8 + i) * 8) from pk_mul _ 8, pk_sub (by omega), ha_us]
      congr 1
      omega
    · rw [ha_32]
      refine cl_con H ?_ (by omega) (by omega) (fun gr' po' H' => br_f (by decide) ⟨vp_in_nI (by omega) (by decide), ?_⟩) (fun ns => br_t rfl (h0 ns gr po))
      · rw [hC]
        exact Or.inl ⟨u, i, hu, by omega, rfl, by rw [z], by rw [z]⟩
      · rw [nI_clamp (n := u * 8 + fa_N cn (u * 8 + i)) (by omega), l16.1, nI_add]
        rw [if_pos z] at offS
        rw [← offS]
        exact nm_e (nm_r (nI_1 i) (ih (i + 1) (by omega) gr' po' (gd_ixMono H' (fun x y e he => gd_sxi z he))))
    · rw [if_neg z] at offS
      have e2 : gd_off (fa_N al) (fa_N cb) (fa_N cn) u b (i + 1) = gd_off (fa_N al) (fa_N cb) (fa_N cn) u b i := by rw [offS]; rfl
      rw [← e2]
      exact ih (i + 1) (by omega) gr po (gd_ixMono H (fun x y e he => gd_sxk z he))
theorem cl_pe {post : Int32 → SX → Prop} {u : Nat} (D : fs_D al ap ac en cb cn eu ea eb n) (hu : u < 4) (hC : C = gd_CS (fa_N al) (fa_N ac) (fa_N cb) (fa_N cn) n (fa_N eu) (fa_N ea) (fa_N eb))
    (h0 : (¬ ∃ p, ga_Sol C p) → ∀ gr po : Nat → Int32, post 0 (sc, oc, ne, ns, ca, on, st, ra, xu, xn, xe, xd, al, ap, ac, en, eu, ea, eb, sU, sL, sK, sE, sG, sO, gr, po, ec, cx, ou, tc, ss, av, cs)) (h1 : ∀ gr po : Nat → Int32, ga_IX C (gd_SX (fa_N al) (fa_N ac) (fa_N cb) (fa_N cn) u 4 0) gr po → post 1 (sc, oc, ne, ns, ca, on, st, ra, xu, xn, xe, xd, al, ap, ac, en, eu, ea, eb, sU, sL, sK, sE, sG, sO, gr, po, ec, cx, ou, tc, ss, av, cs)) :
    ∀ d b, b + d = 4 → ∀ gr po : Nat → Int32, ga_IX C (gd_SX (fa_N al) (fa_N ac) (fa_N cb) (fa_N cn) u b 0) gr po → wX_placeEntries_2 post (nI u) (d + 1) (nI b) sc oc ne ns ca on st ra xu xn xe xd al ap ac en eu ea eb sU sL sK sE sG sO gr po ec cx ou tc ss av cs := by
  intro d
  induction d with
  | zero =>
    intro b hb gr po H
    have e : b = 4 := by omega
    subst e
    exact br_t (by decide) (h1 gr po H)
  | succ d ih =>
    intro b hb gr po H
    exact br_f (nI_ge (b := 4) (by omega) (by decide)) ⟨fa_N ac u + 1, cl_12 D hu (by omega) hC h0 (fun gr' po' H' => ih (b + 1) (by omega) gr' po' (gd_ixMono H' (fun x y e he => gd_sxb he))) (fa_N ac u) 0 (by omega) gr po H⟩
theorem cl_53 {post : Int32 → SX → Prop} (D : fs_D al ap ac en cb cn eu ea eb n) (hC : C = gd_CS (fa_N al) (fa_N ac) (fa_N cb) (fa_N cn) n (fa_N eu) (fa_N ea) (fa_N eb))
    (h0 : (¬ ∃ p, ga_Sol C p) → ∀ gr po : Nat → Int32, post 0 (sc, oc, nI n, ns, ca, on, st, ra, xu, xn, xe, xd, al, ap, ac, en, eu, ea, eb, sU, sL, sK, sE, sG, sO, gr, po, ec, cx, ou, tc, ss, av, cs)) (h1 : ∀ gr po : Nat → Int32, ga_IX C (gd_SE (fa_N al) (fa_N ac) (fa_N cb) (fa_N cn) (fa_N eu) (fa_N ea) (fa_N eb) n) gr po → post 1 (sc, oc, nI n, ns, ca, on, st, ra, xu, xn, xe, xd, al, ap, ac, en, eu, ea, eb, sU, sL, sK, sE, sG, sO, gr, po, ec, cx, ou, tc, ss, av, cs)) :
    ∀ d e, e + d = n → ∀ gr po : Nat → Int32, ga_IX C (gd_SE (fa_N al) (fa_N ac) (fa_N cb) (fa_N cn) (fa_N eu) (fa_N ea) (fa_N eb) e) gr po → wX_solveLayout_53 post (d + 1) (nI e) sc oc (nI n) ns ca on st ra xu xn xe xd al ap ac en eu ea eb sU sL sK sE sG sO gr po ec cx ou tc ss av cs := by
  have n16 := D.2.2.2.2.2.1
  intro d
  induction d with
  | zero =>
    intro e he gr po H
    have e' : e = n := by omega
    subst e'
    exact br_t (nI_le (Nat.le_refl e) (by omega)) (h1 gr po H)
  | succ d ih =>
    intro e he gr po H
    obtain ⟨⟨q1, q2⟩, ⟨q3, q4, q5⟩, q6, q7, q8⟩ := cn_E D (e := e) (by omega)
    have ve : vp_in (nI e) 16 := vp_in_nI (by omega) (by decide)
    have m1 := fb_nm8 (Or.inl q4)
    have m2 := fb_nm8 (Or.inl q7)
    refine br_f (nI_ge (by omega) (by omega)) ⟨ve, ve, ?_⟩
    rw [nI_clamp (n := e) (by omega), q1, q3, q6]
    refine hx_slotOf (by omega) ⟨ve, ve, ?_⟩
    refine hx_slotOf (by omega) ⟨ve, ?_⟩
    refine hx_elementOf (by omega) ⟨ve, ?_⟩
    refine hx_elementOf (by omega) (nm_e ?_)
    refine cl_con H ?_ (by omega) (by omega) (fun gr' po' H' => br_f (by decide) (nm_r (nI_1 e) (ih (e + 1) (by omega) gr' po' (gd_ixMono H' (fun x y e he => gd_see he))))) (fun ns => br_t rfl (h0 ns gr po))
    rw [hC]
    exact Or.inr ⟨e, by omega, rfl, rfl, rfl⟩
theorem cl_30 {post : Int32 → SX → Prop} (D : fs_D al ap ac en cb cn eu ea eb n) (hC : C = gd_CS (fa_N al) (fa_N ac) (fa_N cb) (fa_N cn) n (fa_N eu) (fa_N ea) (fa_N eb))
    (h0 : (¬ ∃ p, ga_Sol C p) → ∀ gr po : Nat → Int32, post 0 (sc, oc, nI n, ns, ca, on, st, ra, xu, xn, xe, xd, al, ap, ac, en, eu, ea, eb, sU, sL, sK, sE, sG, sO, gr, po, ec, cx, ou, tc, ss, av, cs)) (h1 : ∀ gr po : Nat → Int32, ga_IX C (gd_SE (fa_N al) (fa_N ac) (fa_N cb) (fa_N cn) (fa_N eu) (fa_N ea) (fa_N eb) n) gr po → post 1 (sc, oc, nI n, ns, ca, on, st, ra, xu, xn, xe, xd, al, ap, ac, en, eu, ea, eb, sU, sL, sK, sE, sG, sO, gr, po, ec, cx, ou, tc, ss, av, cs)) :
    ∀ d u, u + d = 4 → ∀ gr po : Nat → Int32, ga_IX C (gd_SX (fa_N al) (fa_N ac) (fa_N cb) (fa_N cn) u 0 0) gr po → wX_solveLayout_30 post (d + 1) (nI u) sc oc (nI n) ns ca on st ra xu xn xe xd al ap ac en eu ea eb sU sL sK sE sG sO gr po ec cx ou tc ss av cs := by
  have W := fs_wd D
  intro d
  induction d with
  | zero =>
    intro u hu gr po H
    have e : u = 4 := by omega
    subst e
    exact br_t (by decide) ⟨n + 1, cl_53 D hC h0 h1 n 0 (by omega) gr po (gd_ixMono H (fun x y e he => gd_se0 he))⟩
  | succ d ih =>
    intro u hu gr po H
    refine br_f (nI_ge (b := 4) (by omega) (by decide)) ?_
    refine ⟨4 + 1, cl_pe D (by omega) hC (fun ns gr' po' => br_t rfl (h0 ns gr' po')) (fun gr' po' H' => br_f (by decide) (nm_r (nI_1 u) (ih (u + 1) (by omega) gr' po' (gd_ixMono H' (fun x y e he => gd_sxu (fun i hi => (W.2.2.2.1 i hi).1) (by omega) (W.2.2.1 u (by omega)) he))))) 4 0 rfl gr po H⟩
theorem cl_2 {post : Int32 → SX → Prop} (h : ∀ gr po : Nat → Int32, (∀ x, x < 36 → gr x = nI x) → (∀ x, x < 36 → po x = 0) → ∃ m, wX_solveLayout_30 post m 0 sc oc ne ns ca on st ra xu xn xe xd al ap ac en eu ea eb sU sL sK sE sG sO gr po ec cx ou tc ss av cs) : ∀ d i, i + d = 36 → ∀ gr po : Nat → Int32, (∀ x, x < i → gr x = nI x) → (∀ x, x < i → po x = 0) → wX_solveLayout_2 post sc oc ne ns ca on st ra xu xn xe xd (d + 1) (nI i) al ap ac en eu ea eb sU sL sK sE sG sO gr po ec cx ou tc ss av cs := by
  intro d
  induction d with
  | zero =>
    intro i hi gr po hg hp
    have e : i = 36 := by omega
    subst e
    exact br_t (by decide) (h gr po hg hp)
  | succ d ih =>
    intro i hi gr po hg hp
    have vi : vp_in (nI i) 36 := vp_in_nI (by omega) (by decide)
    refine br_f (nI_ge (b := 36) (by omega) (by decide)) ⟨vi, ?_⟩
    rw [nI_clamp (n := i) (by omega)]
    refine nm_e ⟨vi, nm_e (nm_r (nI_1 i) (ih (i + 1) (by omega) _ _ ?_ ?_))⟩
    · intro x hx
      by_cases e : x = i
      · subst e; exact pk_us
      · rw [pk_un e]; exact hg x (by omega)
    · intro x hx
      by_cases e : x = i
      · subst e; exact pk_us
      · rw [pk_un e]; exact hp x (by omega)
theorem cl_layout {post : Int32 → SX → Prop} (D : fs_D al ap ac en cb cn eu ea eb n)
    (h0 : (¬ ∃ p, ga_Sol (gd_CS (fa_N al) (fa_N ac) (fa_N cb) (fa_N cn) n (fa_N eu) (fa_N ea) (fa_N eb)) p) → ∀ gr po : Nat → Int32, post 0 (sc, oc, nI n, ns, ca, on, st, ra, xu, xn, xe, xd, al, ap, ac, en, eu, ea, eb, sU, sL, sK, sE, sG, sO, gr, po, ec, cx, ou, tc, ss, av, cs))
    (h1 : ∀ gr po : Nat → Int32, ga_IX (gd_CS (fa_N al) (fa_N ac) (fa_N cb) (fa_N cn) n (fa_N eu) (fa_N ea) (fa_N eb)) (gd_SE (fa_N al) (fa_N ac) (fa_N cb) (fa_N cn) (fa_N eu) (fa_N ea) (fa_N eb) n) gr po → post 1 (sc, oc, nI n, ns, ca, on, st, ra, xu, xn, xe, xd, al, ap, ac, en, eu, ea, eb, sU, sL, sK, sE, sG, sO, gr, po, ec, cx, ou, tc, ss, av, cs)) : wpX_solveLayout post (sc, oc, nI n, ns, ca, on, st, ra, xu, xn, xe, xd, al, ap, ac, en, eu, ea, eb, sU, sL, sK, sE, sG, sO, gr, po, ec, cx, ou, tc, ss, av, cs) :=
  ⟨36 + 1, cl_2 (fun gr po hg hp => ⟨4 + 1, cl_30 D rfl h0 h1 4 0 rfl gr po (gd_ixMono (ga_ix0 hg hp) (fun x y d he => absurd he gd_sx0))⟩) 36 0 rfl gr po (fun x hx => absurd hx (Nat.not_lt_zero x)) (fun x hx => absurd hx (Nat.not_lt_zero x))⟩
end HXL
end
section
section HXA
/-! the class's cells and extents -/
variable {sc oc ne ns ca on st ra xu xn xe xd nc yp yu ye yl yr : Int32} {al ap ac en eu ea eb sU sL sK sE sG sO gr po ec cx ou tc ss av cs cb cn kx ky kd pl rl cm hv ba ad ex cy bi : Nat → Int32}
variable {n : Nat}
theorem ca_12 {post : Int32 → Prop} {k i : Nat} (hA : ∀ k, k < 32 → ∃ l, 1 ≤ l ∧ l ≤ 16 ∧ al k = nI l) (hk : k < 32) (i1 : 1 ≤ i) (i2 : i ≤ fa_N al k) (h : ∀ e, e < 512 → gb_Fst gr po (fa_N al) k i e → post (nI e)) :
    ∀ d o, o + d = k → (∀ o', o' < o → ∀ j', 1 ≤ j' → j' ≤ fa_N al o' → gr o' = gr k → po k + nI i ≠ po o' + nI j') → wX_firstSameElement_12 post (nI k) (nI i) sc oc ne ns ca on st ra xu xn xe xd al ap ac en eu ea eb sU sL sK sE sG sO gr po ec cx ou tc ss av cs (d + 1) (nI o) := by
  have N : ∀ k, k < 32 → al k = nI (fa_N al k) ∧ 1 ≤ fa_N al k ∧ fa_N al k ≤ 16 := by
    intro k hk
    obtain ⟨l, l1, l2, e⟩ := hA k hk
    rw [fa_Re e (by omega)]
    exact ⟨e, l1, l2⟩
  have lk := N k hk
  intro d
  induction d with
  | zero =>
    intro o ho nb
    have e : o = k := by omega
    subst e
    refine br_t (nI_le (Nat.le_refl o) (by omega)) ?_
    unfold wX_firstSameElement_94
    rw [ha_el i1]
    exact h _ (by omega) ⟨o, i, hk, rfl, i1, i2, by omega, rfl, rfl, nb⟩
  | succ d ih =>
    intro o ho nb
    have lo := N o (by omega)
    have vo : vp_in (nI o) 36 := vp_in_nI (by omega) (by decide)
    have vk : vp_in (nI k) 36 := vp_in_nI (by omega) (by decide)
    refine br_f (nI_ge (by omega) (by omega)) ⟨vk, vo, ?_⟩
    rw [nI_clamp (n := k) (by omega), nI_clamp (n := o) (by omega), lo.1]
    have next : (∀ j', 1 ≤ j' → j' ≤ fa_N al o → gr o = gr k → po k + nI i ≠ po o + nI j') → wX_firstSameElement_12 post (nI k) (nI i) sc oc ne ns ca on st ra xu xn xe xd al ap ac en eu ea eb sU sL sK sE sG sO gr po ec cx ou tc ss av cs (d + 1) (nI (o + 1)) := by
      intro nb'
      refine ih (o + 1) (by omega) (fun o' ho' => ?_)
      by_cases e : o' = o
      · subst e; exact nb'
      · exact nb o' (by omega)
    have no : ∀ x4 : Int32, x4 = po k + nI i - po o → (x4 < 1 ∨ (¬ x4 < 1 ∧ ¬ x4 ≤ nI (fa_N al o))) → ∀ j', 1 ≤ j' → j' ≤ fa_N al o → gr o = gr k → po k + nI i ≠ po o + nI j' := by
      intro x4 e4 hx j' j1 j2 _ e
      have e5 : x4 = nI j' := by rw [e4, e]; grind
      rw [e5] at hx
      rcases hx with hx | ⟨_, hx⟩
      · exact nI_nlt (b := 1) j1 (by omega) hx
      · exact hx (nI_le j2 (by omega))
    have miss : ∀ x4 : Int32, (∀ j', 1 ≤ j' → j' ≤ fa_N al o → gr o = gr k → po k + nI i ≠ po o + nI j') → wX_firstSameElement_55 post (wX_firstSameElement_12 post (nI k) (nI i) sc oc ne ns ca on st ra xu xn xe xd al ap ac en eu ea eb sU sL sK sE sG sO gr po ec cx ou tc ss av cs (d + 1)) (nI k) (nI i) (nI o) x4 sc oc ne ns ca on st ra xu xn xe xd al ap ac en eu ea eb sU sL sK sE sG sO gr po ec cx ou tc ss av cs := by
      intro x4 nb'
      unfold wX_firstSameElement_55 wX_firstSameElement_56
      exact ⟨vo, vk, br_c (fun _ => br_t rfl (nm_r (nI_1 o) (next nb'))) (fun _ => nm_r (nI_1 o) (next nb'))⟩
    refine nm_e ?_
    rcases hc_v (v := po k + nI i - po o) (l := fa_N al o) lo.2.2 with z | ⟨z, z'⟩ | ⟨j, j1, j2, ej⟩
    · exact br_t z (miss _ (no _ rfl (Or.inl z)))
    · exact br_f z ⟨vp_in_nI (by omega) (by decide), br_t (Int32.not_le.mp z') (miss _ (no _ rfl (Or.inr ⟨z, z'⟩)))⟩
    · rw [ej]
      refine br_f (nI_nlt (b := 1) j1 (by omega)) ⟨vp_in_nI (by omega) (by decide), br_f (nI_nlt j2 (by omega)) ?_⟩
      unfold wX_firstSameElement_56
      rw [nI_clamp (n := k) (by omega), nI_clamp (n := o) (by omega)]
      refine ⟨vo, vk, br_c (fun g => br_f (by decide) ?_) (fun g => nm_r (nI_1 o) (next (fun j' _ _ gg => absurd gg g)))⟩
      rw [ha_el j1]
      refine h _ (by omega) ⟨o, j, by omega, rfl, j1, j2, by omega, g, by grind, ?_⟩
      exact nb
theorem ca_fst {post : Int32 → Prop} {k i : Nat} (hA : ∀ k, k < 32 → ∃ l, 1 ≤ l ∧ l ≤ 16 ∧ al k = nI l) (hk : k < 32) (i1 : 1 ≤ i) (i16 : i ≤ 16) (h : ∀ e, e < 512 → (i ≤ fa_N al k → gb_Fst gr po (fa_N al) k i e) → post (nI e)) : wpX_firstSameElement post (sc, oc, ne, ns, ca, on, st, ra, xu, xn, xe, xd, al, ap, ac, en, eu, ea, eb, sU, sL, sK, sE, sG, sO, gr, po, ec, cx, ou, tc, ss, av, cs) (nI k) (nI i) := by
  obtain ⟨l, l1, l2, el⟩ := hA k hk
  have eL : fa_N al k = l := fa_Re el (by omega)
  refine ⟨vp_in_nI hk (by decide), ?_⟩
  rw [nI_clamp (n := k) (by omega), el]
  refine pk_lt l i (fun z => ?_) (fun z => ⟨k + 1, ca_12 hA hk i1 (by omega) (fun e he hf => h e he (fun _ => hf)) k 0 (by omega) (fun o' ho' => absurd ho' (Nat.not_lt_zero o'))⟩)
  unfold wX_firstSameElement_94
  rw [ha_el i1]
  exact h _ (by omega) (fun q => by omega)
/-- element m = slot * 16 + element - 1 has its cell -/
def ca_Ok (gr po al ec : Nat → Int32) (m : Nat) : Prop := ∃ e, (m % 16 + 1 ≤ fa_N al (m / 16) → gb_Fst gr po (fa_N al) (m / 16) (m % 16 + 1) e) ∧ ec m = nI e
theorem ca_up {m e : Nat} {ec : Nat → Int32} (h : ∀ j, j < m → ca_Ok gr po al ec j) (he : m % 16 + 1 ≤ fa_N al (m / 16) → gb_Fst gr po (fa_N al) (m / 16) (m % 16 + 1) e) : ∀ j, j < m + 1 → ca_Ok gr po al (upd ec m (nI e)) j := by
  intro j hj
  by_cases z : j = m
  · subst z
    exact ⟨e, he, pk_us⟩
  · obtain ⟨e', h1, h2⟩ := h j (by omega)
    exact ⟨e', h1, by rw [pk_un z]; exact h2⟩
theorem ca_10 {post : SX → Prop} {J : Int32 → (Nat → Int32) → (Nat → Int32) → (Nat → Int32) → (Nat → Int32) → (Nat → Int32) → (Nat → Int32) → (Nat → Int32) → (Nat → Int32) → (Nat → Int32) → (Nat → Int32) → (Nat → Int32) → (Nat → Int32) → (Nat → Int32) → (Nat → Int32) → (Nat → Int32) → (Nat → Int32) → (Nat → Int32) → (Nat → Int32) → (Nat → Int32) → (Nat → Int32) → (Nat → Int32) → (Nat → Int32) → Prop} {k : Nat}
    (hA : ∀ k, k < 32 → ∃ l, 1 ≤ l ∧ l ≤ 16 ∧ al k = nI l) (hk : k < 32) (hJ : ∀ ec : Nat → Int32, (∀ j, j < (k + 1) * 16 → ca_Ok gr po al ec j) → J (nI (k + 1)) al ap ac en eu ea eb sU sL sK sE sG sO gr po ec cx ou tc ss av cs) :
    ∀ d i, i + d = 16 → ∀ ec : Nat → Int32, (∀ j, j < k * 16 + i → ca_Ok gr po al ec j) → wX_assignCells_10 post J (nI k) sc oc ne ns ca on st ra xu xn xe xd (d + 1) (nI (i + 1)) al ap ac en eu ea eb sU sL sK sE sG sO gr po ec cx ou tc ss av cs := by
  intro d
  induction d with
  | zero =>
    intro i hi ec hec
    have e : i = 16 := by omega
    subst e
    exact br_t (by decide) (nm_r (nI_1 k) (hJ ec (fun j hj => hec j (by omega))))
  | succ d ih =>
    intro i hi ec hec
    refine br_f (nI_nlt (a := 16) (by omega) (by decide)) ?_
    refine ca_fst hA hk (by omega) (by omega) (fun e he hf => ?_)
    rw [ha_el (by omega), show k * 16 + (i + 1) - 1 = k * 16 + i by omega, nI_clamp (n := k * 16 + i) (by omega)]
    refine ⟨vp_in_nI (by omega) (by decide), nm_e (nm_r (nI_1 (i + 1)) (ih (i + 1) (by omega) _ ?_))⟩
    have q1 : (k * 16 + i) % 16 = i := by omega
    have q2 : (k * 16 + i) / 16 = k := by omega
    exact ca_up (m := k * 16 + i) hec (by rw [q1, q2]; exact hf)
theorem ca_2 {post : SX → Prop} (hA : ∀ k, k < 32 → ∃ l, 1 ≤ l ∧ l ≤ 16 ∧ al k = nI l) (h : ∀ ec : Nat → Int32, (∀ j, j < 512 → ca_Ok gr po al ec j) → post (sc, oc, ne, ns, ca, on, st, ra, xu, xn, xe, xd, al, ap, ac, en, eu, ea, eb, sU, sL, sK, sE, sG, sO, gr, po, ec, cx, ou, tc, ss, av, cs)) : ∀ d k, k + d = 32 → ∀ ec : Nat → Int32, (∀ j, j < k * 16 → ca_Ok gr po al ec j) → wX_assignCells_2 post sc oc ne ns ca on st ra xu xn xe xd (d + 1) (nI k) al ap ac en eu ea eb sU sL sK sE sG sO gr po ec cx ou tc ss av cs := by
  intro d
  induction d with
  | zero =>
    intro k hk ec hec
    have e : k = 32 := by omega
    subst e
    exact br_t (by decide) (h ec hec)
  | succ d ih =>
    intro k hk ec hec
    exact br_f (nI_ge (b := 32) (by omega) (by decide)) ⟨16 + 1, ca_10 hA (by omega) (fun ec' he' => ih (k + 1) (by omega) ec' he') 16 0 rfl ec hec⟩
theorem ca_cells {post : SX → Prop} (hA : ∀ k, k < 32 → ∃ l, 1 ≤ l ∧ l ≤ 16 ∧ al k = nI l) (h : ∀ ec : Nat → Int32, (∀ k i, k < 32 → 1 ≤ i → i ≤ fa_N al k → ∃ e, gb_Fst gr po (fa_N al) k i e ∧ ec (k * 16 + i - 1) = nI e) → post (sc, oc, ne, ns, ca, on, st, ra, xu, xn, xe, xd, al, ap, ac, en, eu, ea, eb, sU, sL, sK, sE, sG, sO, gr, po, ec, cx, ou, tc, ss, av, cs)) : wpX_assignCells post (sc, oc, ne, ns, ca, on, st, ra, xu, xn, xe, xd, al, ap, ac, en, eu, ea, eb, sU, sL, sK, sE, sG, sO, gr, po, ec, cx, ou, tc, ss, av, cs) := by
  refine ⟨32 + 1, ca_2 hA (fun ec hec => h ec (fun k i hk i1 i2 => ?_)) 32 0 rfl ec (fun j hj => absurd hj (Nat.not_lt_zero j))⟩
  obtain ⟨l, l1, l2, el⟩ := hA k hk
  have eL : fa_N al k = l := fa_Re el (by omega)
  obtain ⟨e, h1, h2⟩ := hec (k * 16 + i - 1) (by omega)
  have q1 : (k * 16 + i - 1) % 16 + 1 = i := by omega
  have q2 : (k * 16 + i - 1) / 16 = k := by omega
  rw [q1, q2] at h1
  exact ⟨e, h1 i2, h2⟩
theorem ca_ext {post : Int32 → Prop} {b : Nat} (hb : b < 4) (h : post (fs_ext gr po al b 32)) : wpX_extentOf post (sc, oc, ne, ns, ca, on, st, ra, xu, xn, xe, xd, al, ap, ac, en, eu, ea, eb, sU, sL, sK, sE, sG, sO, gr, po, ec, cx, ou, tc, ss, av, cs) (nI b) := by
  have key : ∀ d k, k + d = 32 → wX_extentOf_4 post (nI b) sc oc ne ns ca on st ra xu xn xe xd al ap ac en eu ea eb sU sL sK sE sG sO gr po ec cx ou tc ss av cs (d + 1) (fs_ext gr po al b k) (nI k) := by
    intro d
    induction d with
    | zero =>
      intro k hk
      have e : k = 32 := by omega
      subst e
      exact br_t (by decide) h
    | succ d ih =>
      intro k hk
      have vk : vp_in (nI k) 36 := vp_in_nI (by omega) (by decide)
      have vb : vp_in (nI (32 + b)) 36 := vp_in_nI (by omega) (by decide)
      have ex1 : fs_ext gr po al b (k + 1) = if gr k = gr (32 + b) ∧ fs_ext gr po al b k < po k + al k - po (32 + b) then po k + al k - po (32 + b) else fs_ext gr po al b k := rfl
      have go := ih (k + 1) (by omega)
      refine br_f (nI_ge (b := 32) (by omega) (by decide)) ?_
      rw [ha_32, nI_clamp (n := k) (by omega), nI_clamp (n := 32 + b) (by omega)]
      refine ⟨vk, vp_in_nI (by omega) (by decide), vb, nm_e ⟨vk, vb, br_c (fun z => br_c (fun w => nm_r (nI_1 k) ?_) (fun w => nm_r (nI_1 k) ?_)) (fun z => nm_r (nI_1 k) ?_)⟩⟩
      · rw [if_neg (fun q => absurd q.2 (Int32.not_lt.mpr w))] at ex1
        rw [ex1] at go
        exact go
      · rw [if_pos ⟨z, Int32.not_le.mp w⟩] at ex1
        rw [ex1] at go
        exact go
      · rw [if_neg (fun q => z q.1)] at ex1
        rw [ex1] at go
        exact go
  exact ⟨32 + 1, key 32 0 rfl⟩
end HXA
end
section
section HYC
/-! the reference's checks, against the same facts -/
variable {sc oc ne ns ca on st ra xu xn xe xd nc yp yu ye yl yr : Int32} {al ap ac en eu ea eb sU sL sK sE sG sO gr po ec cx ou tc ss av cs cb cn kx ky kd pl rl cm hv ba ad ex cy bi : Nat → Int32}
variable {post : Int32 → Prop} {n : Nat} {f : Prop}
theorem cy_dummy (D : fs_D al ap ac en cb cn eu ea eb n) (h1 : gd_DB (fa_N al) (fa_N ap) (fa_N ac) (fa_N cn) n (fa_N eu) (fa_N ea) (fa_N eb) → post 1) (h0 : ¬ gd_DB (fa_N al) (fa_N ap) (fa_N ac) (fa_N cn) n (fa_N eu) (fa_N ea) (fa_N eb) → post 0) : wpY_dummyBad post (sc, oc, nI n, ns, ca, nc, on, yp, yu, ye, st, yl, yr, al, ap, cb, cn, ac, eu, ea, eb, sU, sL, sK, sE, sG, sO, kx, ky, kd, pl, rl, cm, hv, ba, ad, ex, cy, tc, ss, av, cs, bi, ou) := by
  have n16 := D.2.2.2.2.2.1
  refine lb_from (W := fun m z => wY_dummyBad_2 post sc oc (nI n) ns ca nc on yp yu ye st yl yr al ap cb cn ac eu ea eb sU sL sK sE sG sO kx ky kd pl rl cm hv ba ad ex cy tc ss av cs bi ou m z) (B := fun k => k % 8 < fa_N ap (k / 8) ∧ 1 < fa_N al k) 0 32 (by decide) ?_ ?_
  · intro m nb1
    refine br_t (by decide) ?_
    refine lb_from (W := fun m z => wY_dummyBad_44 post sc oc (nI n) ns ca nc on yp yu ye st yl yr al ap cb cn ac eu ea eb sU sL sK sE sG sO kx ky kd pl rl cm hv ba ad ex cy tc ss av cs bi ou m z) (B := fun k => k % 8 < fa_N ac (k / 8) ∧ fa_N cn k < fa_N ap (k / 8)) 0 32 (by decide) ?_ ?_
    · intro m nb2
      refine br_t (by decide) ?_
      refine lb_from (W := fun m z => wY_dummyBad_94 post sc oc (nI n) ns ca nc on yp yu ye st yl yr al ap cb cn ac eu ea eb sU sL sK sE sG sO kx ky kd pl rl cm hv ba ad ex cy tc ss av cs bi ou m z) (B := fun e => fb_nm (fa_N ea e) < fa_N ap (fa_N eu e) ∨ fb_nm (fa_N eb e) < fa_N ap (fa_N eu e)) 0 n (by omega) ?_ ?_
      · intro m nb3
        refine br_t (nI_le (Nat.le_refl n) (by omega)) (h0 ?_)
        rintro (⟨k, hk, a⟩ | ⟨u, i, hu, hi, a⟩ | ⟨e, he, a⟩)
        · exact nb1 k (by omega) hk a
        · have c9 := (cn_C D hu).2
          refine nb2 (u * 8 + i) (by omega) (by omega) ?_
          rw [show (u * 8 + i) % 8 = i by omega, show (u * 8 + i) / 8 = u by omega]
          exact ⟨hi, a⟩
        · exact nb3 e (by omega) he a
      · intro m e _ he go
        obtain ⟨⟨q1, q2⟩, ⟨q3, q4, q5⟩, q6, q7, q8⟩ := cn_E D he
        obtain ⟨p1, p2⟩ := cn_P D q2
        have ve : vp_in (nI e) 16 := vp_in_nI (by omega) (by decide)
        have m1 := fb_nm8 (Or.inl q4)
        have m2 := fb_nm8 (Or.inl q7)
        have vu : vp_in (nI (fa_N eu e)) 4 := vp_in_nI q2 (by decide)
        refine br_f (nI_ge he (by omega)) ⟨ve, ?_⟩
        rw [nI_clamp (n := e) (by omega), q1, q3, q6]
        refine nm_e ⟨ve, ?_⟩
        refine hy_nameOf (by omega) ⟨ve, ?_⟩
        refine hy_nameOf (by omega) ⟨vu, ?_⟩
        rw [nI_clamp (n := fa_N eu e) (by omega), p1]
        exact pk_lt (fb_nm (fa_N ea e)) (fa_N ap (fa_N eu e)) (fun z => h1 (Or.inr (Or.inr ⟨e, he, Or.inl z⟩))) (fun z => ⟨vu, pk_le (fa_N ap (fa_N eu e)) (fb_nm (fa_N eb e)) (fun z' => nm_r (nI_1 e) (go (by omega))) (fun z' => h1 (Or.inr (Or.inr ⟨e, he, Or.inr z'⟩)))⟩)
    · intro m k _ hk go
      obtain ⟨c1, c2⟩ := cn_C D (u := k / 8) (by omega)
      obtain ⟨p1, p2⟩ := cn_P D (u := k / 8) (by omega)
      obtain ⟨_, ⟨i3, i4⟩, _⟩ := cn_I D hk
      have v8 : vp_in (nI (k / 8)) 4 := vp_in_nI (by omega) (by decide)
      refine br_f (nI_ge (b := 32) hk (by decide)) ⟨by decide, by decide, ?_⟩
      rw [ha_r8 (by omega), ha_d8 (by omega), nI_clamp (n := k / 8) (by omega), c1, nI_clamp (n := k) (by omega), i3, p1]
      exact ⟨v8, pk_le (fa_N ac (k / 8)) (k % 8) (fun z => nm_r (nI_1 k) (go (by omega))) (fun z => ⟨vp_in_nI hk (by decide), by decide, v8, pk_le (fa_N ap (k / 8)) (fa_N cn k) (fun z' => nm_r (nI_1 k) (go (by omega))) (fun z' => h1 (Or.inr (Or.inl ⟨k / 8, k % 8, by omega, z, by rw [show k / 8 * 8 + k % 8 = k by omega]; exact z'⟩)))⟩)⟩
  · intro m k _ hk go
    obtain ⟨l1, l2, l3⟩ := cn_A D hk
    obtain ⟨p1, p2⟩ := cn_P D (u := k / 8) (by omega)
    have v8 : vp_in (nI (k / 8)) 4 := vp_in_nI (by omega) (by decide)
    refine br_f (nI_ge (b := 32) hk (by decide)) ⟨by decide, by decide, ?_⟩
    rw [ha_r8 (by omega), ha_d8 (by omega), nI_clamp (n := k / 8) (by omega), p1, nI_clamp (n := k) (by omega), l1]
    exact ⟨v8, pk_le (fa_N ap (k / 8)) (k % 8) (fun z => nm_r (nI_1 k) (go (by omega))) (fun z => ⟨vp_in_nI hk (by decide), pk_le (fa_N al k) 1 (fun z' => nm_r (nI_1 k) (go (by omega))) (fun z' => h1 (Or.inl ⟨k, hk, z, z'⟩))⟩)⟩
theorem cy_eff {u m : Nat} (D : fs_D al ap ac en cb cn eu ea eb n) (hd : ∀ k, k < 32 → ¬ gd_St (fa_N ap) k → al k = 1) (hu : u < 4) (hm : m < 8) (h : post (nI (fa_N al (u * 8 + m)))) : wpY_effLen post (sc, oc, ne, ns, ca, nc, on, yp, yu, ye, st, yl, yr, al, ap, cb, cn, ac, eu, ea, eb, sU, sL, sK, sE, sG, sO, kx, ky, kd, pl, rl, cm, hv, ba, ad, ex, cy, tc, ss, av, cs, bi, ou) (nI u) (nI m) := by
  refine hy_effLen hu hm (D.2.2.1 u hu) ?_
  have e : (if m < fa_N ap u then (1 : Int32) else al (u * 8 + m)) = al (u * 8 + m) := by
    split
    · exact (hc_dum hd hu hm (by assumption)).symm
    · rfl
  rw [e, (cn_A D (k := u * 8 + m) (by omega)).1]
  exact h
theorem cy_index {ns' : Nat} (D : fs_D al ap ac en cb cn eu ea eb n) (hd : ∀ k, k < 32 → ¬ gd_St (fa_N ap) k → al k = 1) (hn : ns' ≤ 64) (S : fs_S ns' sU sL sK sE sG sO f) (h1 : (gd_XE (fa_N al) n (fa_N eu) (fa_N ea) (fa_N eb) ∨ gd_XS ns' al sU sG sO) → post 1) (h0 : ¬ (gd_XE (fa_N al) n (fa_N eu) (fa_N ea) (fa_N eb) ∨ gd_XS ns' al sU sG sO) → post 0) : wpY_indexBad post (sc, oc, nI n, nI ns', ca, nc, on, yp, yu, ye, st, yl, yr, al, ap, cb, cn, ac, eu, ea, eb, sU, sL, sK, sE, sG, sO, kx, ky, kd, pl, rl, cm, hv, ba, ad, ex, cy, tc, ss, av, cs, bi, ou) := by
  have n16 := D.2.2.2.2.2.1
  refine lb_from (W := fun m z => wY_indexBad_2 post sc oc (nI n) (nI ns') ca nc on yp yu ye st yl yr al ap cb cn ac eu ea eb sU sL sK sE sG sO kx ky kd pl rl cm hv ba ad ex cy tc ss av cs bi ou m z) (B := fun e => fa_N al (fa_N eu e * 8 + fb_nm (fa_N ea e)) < fb_ix (fa_N ea e) ∨ fa_N al (fa_N eu e * 8 + fb_nm (fa_N eb e)) < fb_ix (fa_N eb e)) 0 n (by omega) ?_ ?_
  · intro m nb1
    refine br_t (nI_le (Nat.le_refl n) (by omega)) ?_
    refine lb_from (W := fun m z => wY_indexBad_105 post sc oc (nI n) (nI ns') ca nc on yp yu ye st yl yr al ap cb cn ac eu ea eb sU sL sK sE sG sO kx ky kd pl rl cm hv ba ad ex cy tc ss av cs bi ou m z) (B := fun s => ∃ p c, p < fa_N sG s ∧ sO (s * 5 + p) = nI c ∧ fb_FX c ∧ fa_N al (fa_N sU s * 8 + fb_nm c) < fb_ix c) 0 ns' (by omega) ?_ ?_
    · intro m nb2
      refine br_t (nI_le (Nat.le_refl _) (by omega)) (h0 ?_)
      rintro (⟨e, he, a⟩ | ⟨s, p, c, hs, a⟩)
      · exact nb1 e (by omega) he a
      · exact nb2 s (by omega) hs ⟨p, c, a⟩
    · intro m s _ hs go
      obtain ⟨_, _, ⟨g1, g2, g5⟩, ⟨u1, u2⟩, _, _, ops⟩ := ha_V (S s hs)
      have vs : vp_in (nI s) 64 := vp_in_nI (by omega) (by decide)
      refine br_f (nI_ge hs (by omega)) ?_
      refine lb_from (W := fun m' z => wY_indexBad_115 post (wY_indexBad_105 post sc oc (nI n) (nI ns') ca nc on yp yu ye st yl yr al ap cb cn ac eu ea eb sU sL sK sE sG sO kx ky kd pl rl cm hv ba ad ex cy tc ss av cs bi ou m) (nI s) sc oc (nI n) (nI ns') ca nc on yp yu ye st yl yr al ap cb cn ac eu ea eb sU sL sK sE sG sO kx ky kd pl rl cm hv ba ad ex cy tc ss av cs bi ou m' z) (B := fun p => ∃ c, sO (s * 5 + p) = nI c ∧ fb_FX c ∧ fa_N al (fa_N sU s * 8 + fb_nm c) < fb_ix c) 0 (fa_N sG s) (by omega) ?_ ?_
      · intro m' nb
        refine ⟨vs, ?_⟩
        rw [nI_clamp (n := s) (by omega), g1]
        exact br_t (nI_le (Nat.le_refl _) (by omega)) (nm_r (nI_1 s) (go (by rintro ⟨p, c, hp, a⟩; exact nb p (by omega) hp ⟨c, a⟩)))
      · intro m' p _ hp go'
        obtain ⟨c, ec1, hal⟩ := ops p hp
        have c3 : c < 30000 := by
          unfold fb_al fb_FX fb_IX at hal
          omega
        refine ⟨vs, ?_⟩
        rw [nI_clamp (n := s) (by omega), g1]
        refine br_f (nI_ge hp (by omega)) ?_
        rw [ha_5, nI_clamp (n := s * 5 + p) (by omega), ec1]
        refine ⟨vp_in_nI (by omega) (by decide), nm_e ?_⟩
        refine hy_isFixed (fun z => br_f (by decide) ?_) (fun z => br_t rfl (nm_r (nI_1 p) (go' ?_)))
        · obtain ⟨c', hc', e⟩ := z
          have c2 := fb_FXlt hc'
          have := fa_inj (by omega) (by omega) e
          subst this
          have m8 := fb_nm8 (Or.inl hc')
          have l16 := cn_A D (k := fa_N sU s * 8 + fb_nm c) (by omega)
          have i16 := fb_ix16 hc'
          refine hy_nameOf (by omega) ⟨vs, ?_⟩
          rw [u1]
          refine cy_eff D hd u2 m8 ?_
          refine hy_idxOf (by omega) ?_
          refine pk_le (fb_ix c) (fa_N al (fa_N sU s * 8 + fb_nm c)) (fun q => nm_r (nI_1 p) (go' ?_)) (fun q => h1 (Or.inr ⟨s, p, c, hs, hp, ec1, hc', q⟩))
          rintro ⟨c'', e1, e2, e3⟩
          have := fa_inj (by omega) (by have := fb_FXlt e2; omega) (ec1.symm.trans e1)
          subst this
          omega
        · rintro ⟨c'', e1, e2, e3⟩
          exact z ⟨c'', e2, ec1.symm.trans e1⟩
  · intro m e _ he go
    obtain ⟨⟨q1, q2⟩, ⟨q3, q4, q5⟩, q6, q7, q8⟩ := cn_E D he
    have ve : vp_in (nI e) 16 := vp_in_nI (by omega) (by decide)
    have m1 := fb_nm8 (Or.inl q4)
    have m2 := fb_nm8 (Or.inl q7)
    have i1 := fb_ix16 q4
    have i2 := fb_ix16 q7
    have l1 := cn_A D (k := fa_N eu e * 8 + fb_nm (fa_N ea e)) (by omega)
    have l2 := cn_A D (k := fa_N eu e * 8 + fb_nm (fa_N eb e)) (by omega)
    refine br_f (nI_ge he (by omega)) ⟨ve, ?_⟩
    rw [nI_clamp (n := e) (by omega), q1, q3, q6]
    refine nm_e ⟨ve, ?_⟩
    refine hy_nameOf (by omega) ⟨ve, ?_⟩
    refine hy_nameOf (by omega) ?_
    refine cy_eff D hd q2 m1 ?_
    refine cy_eff D hd q2 m2 ⟨ve, ?_⟩
    refine hy_idxOf (by omega) ⟨ve, ?_⟩
    refine hy_idxOf (by omega) ?_
    exact pk_lt (fa_N al (fa_N eu e * 8 + fb_nm (fa_N ea e))) (fb_ix (fa_N ea e)) (fun z => h1 (Or.inl ⟨e, he, Or.inl z⟩)) (fun z => pk_le (fb_ix (fa_N eb e)) (fa_N al (fa_N eu e * 8 + fb_nm (fa_N eb e))) (fun z' => nm_r (nI_1 e) (go (by omega))) (fun z' => h1 (Or.inl ⟨e, he, Or.inr z'⟩)))
def gd_BY (ap cm rl : Nat → Int32) : Prop := ∃ k b, k < 32 ∧ gd_St (fa_N ap) k ∧ 32 ≤ b ∧ b < 36 ∧ cm k = cm b ∧ rl k < rl b
theorem cy_back (hP : ∀ u, u < 4 → fa_R 4 (ap u)) (h1 : gd_BY ap cm rl → post 1) (h0 : ¬ gd_BY ap cm rl → post 0) : wpY_backward post (sc, oc, ne, ns, ca, nc, on, yp, yu, ye, st, yl, yr, al, ap, cb, cn, ac, eu, ea, eb, sU, sL, sK, sE, sG, sO, kx, ky, kd, pl, rl, cm, hv, ba, ad, ex, cy, tc, ss, av, cs, bi, ou) := by
  refine lb_from (W := fun m z => wY_backward_2 post sc oc ne ns ca nc on yp yu ye st yl yr al ap cb cn ac eu ea eb sU sL sK sE sG sO kx ky kd pl rl cm hv ba ad ex cy tc ss av cs bi ou m z) (B := fun k => gd_St (fa_N ap) k ∧ ∃ b, 32 ≤ b ∧ b < 36 ∧ cm k = cm b ∧ rl k < rl b) 0 32 (by decide) ?_ ?_
  · intro m nb
    refine br_t (by decide) (h0 ?_)
    rintro ⟨k, b, hk, s, e⟩
    exact nb k (by omega) hk ⟨s, b, e⟩
  · intro m k _ hk go
    refine br_f (nI_ge (b := 32) hk (by decide)) ?_
    refine hy_stored hk (hP _ (by omega)) (fun s => br_t rfl (nm_r (nI_1 k) (go fun q => s q.1))) (fun s => br_f (by decide) ?_)
    have vk : vp_in (nI k) 36 := vp_in_nI (by omega) (by decide)
    refine lb_from (W := fun m' z => wY_backward_19 post (wY_backward_2 post sc oc ne ns ca nc on yp yu ye st yl yr al ap cb cn ac eu ea eb sU sL sK sE sG sO kx ky kd pl rl cm hv ba ad ex cy tc ss av cs bi ou m) (nI k) sc oc ne ns ca nc on yp yu ye st yl yr al ap cb cn ac eu ea eb sU sL sK sE sG sO kx ky kd pl rl cm hv ba ad ex cy tc ss av cs bi ou m' z) (B := fun b => cm k = cm b ∧ rl k < rl b) 32 36 (by decide) ?_ ?_
    · intro m' nb
      refine br_t (by decide) (nm_r (nI_1 k) (go ?_))
      rintro ⟨_, b, b1, b2, e⟩
      exact nb b b1 b2 e
    · intro m' b b1 b2 go'
      have vb : vp_in (nI b) 36 := vp_in_nI b2 (by decide)
      refine br_f (nI_ge (b := 36) b2 (by decide)) ?_
      rw [nI_clamp (n := k) (by omega), nI_clamp (n := b) (by omega)]
      exact ⟨vk, vb, br_c (fun z => ⟨vk, vb, br_c (fun w => nm_r (nI_1 b) (go' fun q => absurd q.2 (Int32.not_lt.mpr w))) (fun w => h1 ⟨k, b, hk, s, b1, b2, z, Int32.not_le.mp w⟩)⟩) (fun z => nm_r (nI_1 b) (go' fun q => z q.1))⟩
theorem cy_label (hn : n ≤ 64) (S : fs_S n sU sL sK sE sG sO True) (h1 : (gd_LD n sU sL ∨ gd_LT n sU sL sK sG sO ∨ gd_LE n sU sL sK sG sO) → post 1) (h0 : ¬ (gd_LD n sU sL ∨ gd_LT n sU sL sK sG sO ∨ gd_LE n sU sL sK sG sO) → post 0) : wpY_labelBad post (sc, oc, ne, nI n, ca, nc, on, yp, yu, ye, st, yl, yr, al, ap, cb, cn, ac, eu, ea, eb, sU, sL, sK, sE, sG, sO, kx, ky, kd, pl, rl, cm, hv, ba, ad, ex, cy, tc, ss, av, cs, bi, ou) := by
  refine lb_from (W := fun m z => wY_labelBad_2 post sc oc ne (nI n) ca nc on yp yu ye st yl yr al ap cb cn ac eu ea eb sU sL sK sE sG sO kx ky kd pl rl cm hv ba ad ex cy tc ss av cs bi ou m z) (B := fun i => ∃ j, i < j ∧ j < n ∧ sL j = sL i ∧ ¬ sL i = 0 ∧ sU j = sU i) 0 n (by omega) ?_ ?_
  · intro m nb1
    refine br_t (nI_le (Nat.le_refl n) (by omega)) ?_
    refine lb_from (W := fun m z => wY_labelBad_78 post sc oc ne (nI n) ca nc on yp yu ye st yl yr al ap cb cn ac eu ea eb sU sL sK sE sG sO kx ky kd pl rl cm hv ba ad ex cy tc ss av cs bi ou m z) (B := fun s => ∃ p, p < fa_N sG s ∧ fb_pl (fa_N sK s) p = 2 ∧ fb_FL sU sL n (sU s) (sO (s * 5 + p)) = -1) 0 n (by omega) ?_ ?_
    · intro m nb2
      refine br_t (nI_le (Nat.le_refl n) (by omega)) ?_
      refine lb_from (W := fun m z => wY_labelBad_152 post sc oc ne (nI n) ca nc on yp yu ye st yl yr al ap cb cn ac eu ea eb sU sL sK sE sG sO kx ky kd pl rl cm hv ba ad ex cy tc ss av cs bi ou m z) (B := fun s => sK s = 4 ∧ ∃ t, fb_FL sU sL n (sU s) (sO (s * 5)) = nI t ∧ t < n ∧ gd_Bad sK s t) 0 n (by omega) ?_ ?_
      · intro m nb3
        refine br_t (nI_le (Nat.le_refl n) (by omega)) (h0 ?_)
        rintro (⟨i, j, hj, hi, a, b, c⟩ | ⟨s, p, hs, a⟩ | ⟨s, t, hs, a, _, b⟩)
        · exact nb1 j (by omega) (by omega) ⟨i, hj, hi, a, by rw [← a]; exact b, c⟩
        · exact nb2 s (by omega) hs ⟨p, a⟩
        · exact nb3 s (by omega) hs ⟨a, t, b⟩
      · intro m s _ hs go
        have vs : vp_in (nI s) 64 := vp_in_nI (by omega) (by decide)
        refine br_f (nI_ge hs (by omega)) ⟨vs, ?_⟩
        rw [nI_clamp (n := s) (by omega)]
        refine br_c (fun k4 => ⟨vs, ?_⟩) (fun k4 => nm_r (nI_1 s) (go fun q => k4 q.1))
        obtain ⟨_, _, _, _, _, gf, ops⟩ := ha_V (S s hs)
        have kk : fa_N sK s = 4 := fa_Re k4 (by decide)
        have g5 : fa_N sG s = 5 := by rw [gf (Or.inr trivial), kk]; rfl
        obtain ⟨c, ec1, hal⟩ := ops 0 (by omega)
        have c3 : c < 10000 := by
          rw [kk] at hal
          have : fb_pl 4 0 = 2 := rfl
          rw [this] at hal
          unfold fb_al at hal
          omega
        have ec0 : sO (s * 5) = nI c := ec1
        rw [ha_50, nI_clamp (n := s * 5) (by omega), ec0]
        refine ⟨vp_in_nI (by omega) (by decide), ?_⟩
        refine hy_findLabel hn (by omega) ?_
        rcases hs_FLr (sU := sU) (sL := sL) (n := n) (u := sU s) (l := nI c) with e | ⟨t, ht, e, _⟩
        · exact absurd ⟨0, by omega, by rw [kk]; rfl, by rw [ec1]; exact e⟩ (nb2 s (by omega) hs)
        · rw [e]
          have bad : gd_Bad sK s t → post 1 := fun q => h1 (Or.inr (Or.inr ⟨s, t, hs, k4, by omega, by rw [ec0]; exact e, ht, q⟩))
          have ok : (¬ gd_Bad sK s t) → ∀ z, z = nI s + 1 → wY_labelBad_152 post sc oc ne (nI n) ca nc on yp yu ye st yl yr al ap cb cn ac eu ea eb sU sL sK sE sG sO kx ky kd pl rl cm hv ba ad ex cy tc ss av cs bi ou m z := fun q => nm_r (nI_1 s) (go (by
            rintro ⟨_, t', e', ht', b'⟩
            rw [ec0] at e'
            have := fa_inj (by omega) (by omega) (e.symm.trans e')
            subst this
            exact q b'))
          refine pk_lt s t (fun z => ⟨vp_in_nI (by omega) (by decide), ?_⟩) (fun z => bad (Or.inl z))
          rw [nI_clamp (n := t) (by omega)]
          refine nm_e (br_c (fun a => ok ?_) (fun a => br_c (fun b => ok ?_) (fun b => br_c (fun d => ok ?_) (fun d => br_c (fun g => ok ?_) (fun g => bad (Or.inr ?_))))))
          · rintro (q | q); omega; exact q (Or.inl a)
          · rintro (q | q); omega; exact q (Or.inr (Or.inl b))
          · rintro (q | q); omega; exact q (Or.inr (Or.inr (Or.inl d)))
          · rintro (q | q); omega; exact q (Or.inr (Or.inr (Or.inr g)))
          · rintro (q | q | q | q)
            · exact a q
            · exact b q
            · exact d q
            · exact g q
    · intro m s _ hs go
      obtain ⟨⟨k1, k2, k3⟩, _, ⟨g1, g2, g5⟩, _, _, _, ops⟩ := ha_V (S s hs)
      have vs : vp_in (nI s) 64 := vp_in_nI (by omega) (by decide)
      refine br_f (nI_ge hs (by omega)) ?_
      refine lb_from (W := fun m' z => wY_labelBad_88 post (wY_labelBad_78 post sc oc ne (nI n) ca nc on yp yu ye st yl yr al ap cb cn ac eu ea eb sU sL sK sE sG sO kx ky kd pl rl cm hv ba ad ex cy tc ss av cs bi ou m) (nI s) sc oc ne (nI n) ca nc on yp yu ye st yl yr al ap cb cn ac eu ea eb sU sL sK sE sG sO kx ky kd pl rl cm hv ba ad ex cy tc ss av cs bi ou m' z) (B := fun p => fb_pl (fa_N sK s) p = 2 ∧ fb_FL sU sL n (sU s) (sO (s * 5 + p)) = -1) 0 (fa_N sG s) (by omega) ?_ ?_
      · intro m' nb
        refine ⟨vs, ?_⟩
        rw [nI_clamp (n := s) (by omega), g1]
        exact br_t (nI_le (Nat.le_refl _) (by omega)) (nm_r (nI_1 s) (go (by rintro ⟨p, hp, e⟩; exact nb p (by omega) hp e)))
      · intro m' p _ hp go'
        obtain ⟨c, ec1, hal⟩ := ops p hp
        refine ⟨vs, ?_⟩
        rw [nI_clamp (n := s) (by omega), g1]
        refine br_f (nI_ge hp (by omega)) ⟨vs, ?_⟩
        rw [k1]
        refine hy_place k2 k3 (by omega) ?_
        refine pk_eq (fb_pl (fa_N sK s) p) 2 (fun z => ⟨vs, ?_⟩) (fun z => nm_r (nI_1 p) (go' fun q => z q.1)) rfl rfl (by have := vs_pl (k := fa_N sK s) (p := p); omega)
        have c3 : c < 10000 := by
          rw [z] at hal
          unfold fb_al at hal
          omega
        rw [ha_5, nI_clamp (n := s * 5 + p) (by omega), ec1]
        refine ⟨vp_in_nI (by omega) (by decide), ?_⟩
        refine hy_findLabel hn (by omega) ?_
        rcases hs_FLr (sU := sU) (sL := sL) (n := n) (u := sU s) (l := nI c) with e | ⟨t, ht, e, _⟩
        · rw [e]
          exact br_f (by decide) (h1 (Or.inr (Or.inl ⟨s, p, hs, hp, z, by rw [ec1]; exact e⟩)))
        · rw [e]
          refine br_t (nI_pos' (by omega)) (nm_r (nI_1 p) (go' ?_))
          rintro ⟨_, y⟩
          rw [ec1, e] at y
          exact fa_m1 (by omega) y
  · intro m i _ hi go
    obtain ⟨_, _, _, _, ⟨l1, l2⟩, _⟩ := ha_V (S i hi)
    have vi : vp_in (nI i) 64 := vp_in_nI (by omega) (by decide)
    refine br_f (nI_ge hi (by omega)) (nm_r (nI_1 i) ?_)
    refine lb_from (W := fun m' z => wY_labelBad_14 post (wY_labelBad_2 post sc oc ne (nI n) ca nc on yp yu ye st yl yr al ap cb cn ac eu ea eb sU sL sK sE sG sO kx ky kd pl rl cm hv ba ad ex cy tc ss av cs bi ou m) (nI i) sc oc ne (nI n) ca nc on yp yu ye st yl yr al ap cb cn ac eu ea eb sU sL sK sE sG sO kx ky kd pl rl cm hv ba ad ex cy tc ss av cs bi ou m' z) (B := fun j => sL j = sL i ∧ ¬ sL i = 0 ∧ sU j = sU i) (i + 1) n (by omega) ?_ ?_
    · intro m' nb
      exact br_t (nI_le (Nat.le_refl n) (by omega)) (nm_r (nI_1 i) (go (by rintro ⟨j, hj, hjn, e⟩; exact nb j (by omega) hjn e)))
    · intro m' j hj hjn go'
      have vj : vp_in (nI j) 64 := vp_in_nI (by omega) (by decide)
      refine br_f (nI_ge hjn (by omega)) ⟨vi, vj, ?_⟩
      rw [nI_clamp (n := i) (by omega), nI_clamp (n := j) (by omega)]
      refine br_c (fun z => ⟨vi, br_c (fun w => nm_r (nI_1 j) (go' fun q => q.2.1 ?_)) (fun w => ⟨vi, vj, br_c (fun y => h1 (Or.inl ⟨j, i, by omega, hjn, y.symm, ?_, z.symm⟩)) (fun y => nm_r (nI_1 j) (go' fun q => y q.1.symm))⟩)⟩) (fun z => nm_r (nI_1 j) (go' fun q => z q.2.2.symm))
      · rw [l1] at w ⊢
        have : fa_N sL i < 1 := (nI_ltI (b := 1) (by omega) (by decide)).mp w
        have e0 : fa_N sL i = 0 := by omega
        rw [e0]
        rfl
      · intro q
        rw [← y] at q
        rw [q] at w
        exact w (by decide)
theorem cy_wc (hn : n ≤ 64) (S : fs_S n sU sL sK sE sG sO f) (hP : ∀ u, u < 4 → fa_R 4 (ap u)) (h1 : gd_WC n ap sK sE → post 1) (h0 : ¬ gd_WC n ap sK sE → post 0) : wpY_callBad post (sc, oc, ne, nI n, ca, nc, on, yp, yu, ye, st, yl, yr, al, ap, cb, cn, ac, eu, ea, eb, sU, sL, sK, sE, sG, sO, kx, ky, kd, pl, rl, cm, hv, ba, ad, ex, cy, tc, ss, av, cs, bi, ou) := by
  refine lb_from (W := fun m z => wY_callBad_2 post sc oc ne (nI n) ca nc on yp yu ye st yl yr al ap cb cn ac eu ea eb sU sL sK sE sG sO kx ky kd pl rl cm hv ba ad ex cy tc ss av cs bi ou m z) (B := fun s => sK s = 5 ∧ ¬ fa_N sE s / 4 = fa_N ap (fa_N sE s % 4)) 0 n (by omega) ?_ ?_
  · intro m nb
    refine br_t (nI_le (Nat.le_refl n) (by omega)) (h0 ?_)
    rintro ⟨s, hs, a⟩
    exact nb s (by omega) hs a
  · intro m s _ hs go
    obtain ⟨_, ⟨e1, e2, e3⟩, _⟩ := ha_V (S s hs)
    obtain ⟨q1, q2⟩ := fa_Rn (hP (fa_N sE s % 4) (by omega)) (by decide)
    have vs : vp_in (nI s) 64 := vp_in_nI (by omega) (by decide)
    refine br_f (nI_ge hs (by omega)) ⟨vs, ?_⟩
    rw [nI_clamp (n := s) (by omega)]
    refine br_c (fun z => ?_) (fun z => nm_r (nI_1 s) (go fun q => z q.1))
    rw [e1, ha_r4 (by omega), ha_d4 (by omega), nI_clamp (n := fa_N sE s % 4) (by omega), q1]
    exact ⟨vs, by decide, vs, by decide, vp_in_nI (by omega) (by decide), pk_eq (fa_N sE s / 4) (fa_N ap (fa_N sE s % 4)) (fun w => nm_r (nI_1 s) (go fun q => q.2 w)) (fun w => h1 ⟨s, hs, z, w⟩)⟩
end HYC
end
section
section HYL
/-! the reference's layout -/
variable {sc oc ne ns ca on st ra xu xn xe xd nc yp yu ye yl yr : Int32} {al ap ac en eu ea eb sU sL sK sE sG sO gr po ec cx ou tc ss av cs cb cn kx ky kd pl rl cm hv ba ad ex cy bi : Nat → Int32}
variable {n : Nat}
theorem dl_off {post : Int32 → Prop} {u e : Nat} (D : fs_D al ap ac en cb cn eu ea eb n) (hu : u < 4) (he : e < 8) (h : post (nI (gd_off (fa_N al) (fa_N cb) (fa_N cn) u (fa_N cb (u * 8 + e)) e))) : wpY_offsetOf post (sc, oc, ne, ns, ca, nc, on, yp, yu, ye, st, yl, yr, al, ap, cb, cn, ac, eu, ea, eb, sU, sL, sK, sE, sG, sO, kx, ky, kd, pl, rl, cm, hv, ba, ad, ex, cy, tc, ss, av, cs, bi, ou) (nI u) (nI e) := by
  obtain ⟨⟨b1, b2⟩, _⟩ := cn_I D (i := u * 8 + e) (by omega)
  unfold wpY_offsetOf
  dsimp only
  rw [ha_us, nI_clamp (n := u * 8 + e) (by omega)]
  refine ⟨vp_in_nI (by omega) (by decide), nm_r b1 ?_⟩
  have key : ∀ d f, f + d = e → wY_offsetOf_18 post (nI u) (nI e) (nI (fa_N cb (u * 8 + e))) sc oc ne ns ca nc on yp yu ye st yl yr al ap cb cn ac eu ea eb sU sL sK sE sG sO kx ky kd pl rl cm hv ba ad ex cy tc ss av cs bi ou (d + 1) (nI (gd_off (fa_N al) (fa_N cb) (fa_N cn) u (fa_N cb (u * 8 + e)) f)) (nI f) := by
    intro d
    induction d with
    | zero =>
      intro f hf
      have e' : f = e := by omega
      subst e'
      exact br_t (nI_le (Nat.le_refl f) (by omega)) h
    | succ d ih =>
      intro f hf
      obtain ⟨⟨i1, i2⟩, ⟨i3, i4⟩, _⟩ := cn_I D (i := u * 8 + f) (by omega)
      have l16 := cn_A D (k := u * 8 + fa_N cn (u * 8 + f)) (by omega)
      have offS : gd_off (fa_N al) (fa_N cb) (fa_N cn) u (fa_N cb (u * 8 + e)) (f + 1) = gd_off (fa_N al) (fa_N cb) (fa_N cn) u (fa_N cb (u * 8 + e)) f + (if fa_N cb (u * 8 + f) = fa_N cb (u * 8 + e) then fa_N al (u * 8 + fa_N cn (u * 8 + f)) else 0) := rfl
      have go := ih (f + 1) (by omega)
      refine br_f (nI_ge (by omega) (by omega)) ?_
      rw [ha_us (u := u) (n := f), nI_clamp (n := u * 8 + f) (by omega), i1, i3]
      refine ⟨vp_in_nI (by omega) (by decide), pk_eq (fa_N cb (u * 8 + f)) (fa_N cb (u * 8 + e)) (fun z => ⟨vp_in_nI (by omega) (by decide), ?_⟩) (fun z => nm_r (nI_1 f) ?_)⟩
      · rw [ha_us (u := u) (n := fa_N cn (u * 8 + f)), nI_clamp (n := u * 8 + fa_N cn (u * 8 + f)) (by omega), l16.1]
        rw [if_pos z] at offS
        rw [offS] at go
        exact ⟨vp_in_nI (by omega) (by decide), nm_r (nI_add _ _) (nm_r (nI_1 f) go)⟩
      · rw [if_neg z] at offS
        rw [offS] at go
        exact go
  exact ⟨e + 1, key e 0 (by omega)⟩
/-- the list so far -/
def dl_I (T : ga_T) (M m : Nat) (kx ky kd : Nat → Int32) : Prop := m ≤ M ∧ (∀ c, c < m → fa_R 36 (kx c) ∧ fa_R 36 (ky c)) ∧ (∀ x y d, ga_C (fa_N kx) (fa_N ky) kd m x y d ↔ T x y d)
theorem dl_add {T T' : ga_T} {M m x0 y0 : Nat} {d0 : Int32} {kx ky kd : Nat → Int32} (H : dl_I T M m kx ky kd) (hx : x0 < 36) (hy : y0 < 36) (hT : ∀ x y d, T' x y d ↔ (T x y d ∨ (x = x0 ∧ y = y0 ∧ d = d0))) : dl_I T' (M + 1) (m + 1) (upd kx m (nI x0)) (upd ky m (nI y0)) (upd kd m d0) := by
  obtain ⟨h1, h2, h3⟩ := H
  refine ⟨by omega, fun c hc => ?_, fun x y d => ?_⟩
  · by_cases e : c = m
    · subst e
      rw [pk_us, pk_us]
      exact ⟨⟨x0, hx, rfl⟩, ⟨y0, hy, rfl⟩⟩
    · rw [pk_un e, pk_un e]
      exact h2 c (by omega)
  · rw [ge_snoc hx hy, h3, hT]
theorem dl_same {T T' : ga_T} {M m : Nat} {kx ky kd : Nat → Int32} (H : dl_I T M m kx ky kd) (hT : ∀ x y d, T' x y d ↔ T x y d) : dl_I T' (M + 1) m kx ky kd :=
  ⟨by have := H.1; omega, H.2.1, fun x y d => by rw [H.2.2, hT]⟩
theorem dl_110 {post : Int32 → SY → Prop} (D : fs_D al ap ac en cb cn eu ea eb n)
    (h : ∀ (m : Nat) (kx ky kd : Nat → Int32), dl_I (gd_CS (fa_N al) (fa_N ac) (fa_N cb) (fa_N cn) n (fa_N eu) (fa_N ea) (fa_N eb)) 48 m kx ky kd → ∃ q, wY_layout_235 post sc oc (nI n) ns ca (nI m) on yp yu ye st yl yr q 0 al ap cb cn ac eu ea eb sU sL sK sE sG sO kx ky kd pl rl cm hv ba ad ex cy tc ss av cs bi ou) :
    ∀ d e, e + d = n → ∀ (m : Nat) (kx ky kd : Nat → Int32), dl_I (ge_SF (fa_N al) (fa_N ac) (fa_N cb) (fa_N cn) (fa_N eu) (fa_N ea) (fa_N eb) e) (32 + e) m kx ky kd → wY_layout_110 post sc oc (nI n) ns ca on yp yu ye st yl yr (d + 1) (nI e) (nI m) al ap cb cn ac eu ea eb sU sL sK sE sG sO kx ky kd pl rl cm hv ba ad ex cy tc ss av cs bi ou := by
  have n16 := D.2.2.2.2.2.1
  have W := fs_wd D
  intro d
  induction d with
  | zero =>
    intro e he m kx ky kd H
    have e' : e = n := by omega
    subst e'
    refine br_t (nI_le (Nat.le_refl e) (by omega)) (h m kx ky kd ⟨by have := H.1; omega, H.2.1, fun x y d => ?_⟩)
    rw [H.2.2, ge_cs W.2.2.1]
  | succ d ih =>
    intro e he m kx ky kd H
    obtain ⟨⟨q1, q2⟩, ⟨q3, q4, q5⟩, q6, q7, q8⟩ := cn_E D (e := e) (by omega)
    have ve : vp_in (nI e) 16 := vp_in_nI (by omega) (by decide)
    have m1 := fb_nm8 (Or.inl q4)
    have m2 := fb_nm8 (Or.inl q7)
    have mm := H.1
    have vm : vp_in (nI m) 48 := vp_in_nI (by omega) (by decide)
    refine br_f (nI_ge (by omega) (by omega)) ⟨ve, ?_⟩
    rw [nI_clamp (n := e) (by omega), q1, q3, q6]
    refine nm_e ⟨ve, ?_⟩
    refine hy_nameOf (by omega) ⟨ve, ?_⟩
    refine hy_nameOf (by omega) ⟨ve, ?_⟩
    refine hy_idxOf (by omega) ⟨ve, ?_⟩
    refine hy_idxOf (by omega) ⟨vm, ?_⟩
    rw [nI_clamp (n := m) (by omega), ha_us, ha_us]
    exact nm_e ⟨vm, nm_e ⟨vm, nm_e (nm_r (nI_1 m) (nm_r (nI_1 e) (ih (e + 1) (by omega) (m + 1) _ _ _ (dl_add H (by omega) (by omega) (fun x y d => ge_sfe)))))⟩⟩
theorem dl_7 {post : Int32 → SY → Prop} (D : fs_D al ap ac en cb cn eu ea eb n)
    (h : ∀ (m : Nat) (kx ky kd : Nat → Int32), dl_I (gd_CS (fa_N al) (fa_N ac) (fa_N cb) (fa_N cn) n (fa_N eu) (fa_N ea) (fa_N eb)) 48 m kx ky kd → ∃ q, wY_layout_235 post sc oc (nI n) ns ca (nI m) on yp yu ye st yl yr q 0 al ap cb cn ac eu ea eb sU sL sK sE sG sO kx ky kd pl rl cm hv ba ad ex cy tc ss av cs bi ou) :
    ∀ d k, k + d = 32 → ∀ (m : Nat) (kx ky kd : Nat → Int32), dl_I (ge_SY (fa_N al) (fa_N ac) (fa_N cb) (fa_N cn) k) k m kx ky kd → wY_layout_7 post sc oc (nI n) ns ca on yp yu ye st yl yr (d + 1) (nI k) (nI m) al ap cb cn ac eu ea eb sU sL sK sE sG sO kx ky kd pl rl cm hv ba ad ex cy tc ss av cs bi ou := by
  have W := fs_wd D
  intro d
  induction d with
  | zero =>
    intro k hk m kx ky kd H
    have e : k = 32 := by omega
    subst e
    exact br_t (by decide) ⟨n + 1, dl_110 D h n 0 (by omega) m kx ky kd ⟨H.1, H.2.1, fun x y d => by rw [H.2.2, ge_sf0]⟩⟩
  | succ d ih =>
    intro k hk m kx ky kd H
    obtain ⟨c1, c2⟩ := cn_C D (u := k / 8) (by omega)
    obtain ⟨⟨i1, i2⟩, ⟨i3, i4⟩, _⟩ := cn_I D (i := k) (by omega)
    have v8 : vp_in (nI (k / 8)) 4 := vp_in_nI (by omega) (by decide)
    have vk : vp_in (nI k) 32 := vp_in_nI (by omega) (by decide)
    have mm := H.1
    have vm : vp_in (nI m) 48 := vp_in_nI (by omega) (by decide)
    refine br_f (nI_ge (b := 32) (by omega) (by decide)) ⟨by decide, by decide, ?_⟩
    rw [ha_r8 (by omega), ha_d8 (by omega), nI_clamp (n := k / 8) (by omega), c1]
    refine ⟨v8, pk_le (fa_N ac (k / 8)) (k % 8) (fun z => nm_r (nI_1 k) (ih (k + 1) (by omega) m kx ky kd (dl_same H (fun x y d => ge_syNo W.2.2.1 (by omega))))) (fun z => ⟨by decide, nm_e ⟨by decide, ?_⟩⟩)⟩
    refine dl_off D (by omega) (by omega) ⟨vk, vm, ?_⟩
    have ek : k / 8 * 8 + k % 8 = k := by omega
    rw [ek, nI_clamp (n := k) (by omega), nI_clamp (n := m) (by omega), i3, i1, ha_us, ha_32]
    exact nm_e ⟨vk, vm, nm_e ⟨vm, nm_e (nm_r (nI_1 m) (nm_r (nI_1 k) (ih (k + 1) (by omega) (m + 1) _ _ _ (dl_add H (by omega) (by omega) (fun x y d => ge_syYes W.2.2.1 (by omega) z)))))⟩⟩
/-- one constraint applied -/
theorem dl_ap {post : Int32 → SY → Prop} {m r c : Nat} {E : Nat → Prop} {p0 c0 r0 : Nat → Int32} (hm48 : m ≤ 48) (hR : ∀ c, c < m → fa_R 36 (kx c) ∧ fa_R 36 (ky c)) (hd : ∀ c, c < m → -128 ≤ (kd c).toInt ∧ (kd c).toInt ≤ 128) (hc : c < m)
    (H : gf_In (fa_N kx) (fa_N ky) kd m r E c p0 c0 r0 pl cm rl)
    (h1 : ∀ pl cm rl : Nat → Int32, gf_In (fa_N kx) (fa_N ky) kd m r E (c + 1) p0 c0 r0 pl cm rl → post 1 (sc, oc, ne, ns, ca, nc, on, yp, yu, ye, st, yl, yr, al, ap, cb, cn, ac, eu, ea, eb, sU, sL, sK, sE, sG, sO, kx, ky, kd, pl, rl, cm, hv, ba, ad, ex, cy, tc, ss, av, cs, bi, ou)) (h0 : (¬ ∃ p, ga_Sol (ga_C (fa_N kx) (fa_N ky) kd m) p) → post 0 (sc, oc, ne, ns, ca, nc, on, yp, yu, ye, st, yl, yr, al, ap, cb, cn, ac, eu, ea, eb, sU, sL, sK, sE, sG, sO, kx, ky, kd, pl, rl, cm, hv, ba, ad, ex, cy, tc, ss, av, cs, bi, ou)) : wpY_apply post (sc, oc, ne, ns, ca, nc, on, yp, yu, ye, st, yl, yr, al, ap, cb, cn, ac, eu, ea, eb, sU, sL, sK, sE, sG, sO, kx, ky, kd, pl, rl, cm, hv, ba, ad, ex, cy, tc, ss, av, cs, bi, ou) (nI c) := by
  have hm : ∀ c, c < m → fa_N kx c < 36 ∧ fa_N ky c < 36 := fun c hc => ⟨(fa_Rn (hR c hc).1 (by decide)).2, (fa_Rn (hR c hc).2 (by decide)).2⟩
  have ex1 := (fa_Rn (hR c hc).1 (by decide)).1
  have ey1 := (fa_Rn (hR c hc).2 (by decide)).1
  obtain ⟨x36, y36⟩ := hm c hc
  have vc : vp_in (nI c) 48 := vp_in_nI (by omega) (by decide)
  have vx : vp_in (nI (fa_N kx c)) 36 := vp_in_nI x36 (by decide)
  have vy : vp_in (nI (fa_N ky c)) 36 := vp_in_nI y36 (by decide)
  have nb1 : vp_nar .boolean 1 = 1 := by decide
  unfold wpY_apply
  dsimp only
  rw [nI_clamp (n := c) (by omega), ex1, ey1]
  refine ⟨vc, nm_e ⟨vc, nm_e ⟨vc, nm_e ⟨vx, ?_⟩⟩⟩⟩
  rw [nI_clamp (n := fa_N kx c) (by omega), nI_clamp (n := fa_N ky c) (by omega)]
  have A79 : ¬ (pl (fa_N kx c) ≠ 0 ∧ pl (fa_N ky c) ≠ 0) → wY_apply_79 post (nI (fa_N kx c)) (nI (fa_N ky c)) (kd c) sc oc ne ns ca nc on yp yu ye st yl yr al ap cb cn ac eu ea eb sU sL sK sE sG sO kx ky kd pl rl cm hv ba ad ex cy tc ss av cs bi ou := by
    intro nn
    unfold wY_apply_79
    rw [nI_clamp (n := fa_N kx c) (by omega), nI_clamp (n := fa_N ky c) (by omega), nb1]
    refine ⟨vx, br_c (fun px => ⟨vy, br_c (fun py => h1 _ _ _ (gf_none H px py)) (fun py => ⟨vx, nm_e ⟨vy, vx, nm_e ⟨vy, vx, nm_e (h1 _ _ _ (gf_yx H hm hc (hd c hc) px py))⟩⟩⟩)⟩) (fun px => ⟨vy, nm_e ⟨vx, vy, nm_e ⟨vx, vy, nm_e (h1 _ _ _ (gf_xy H hm hc (hd c hc) px ?_))⟩⟩⟩)⟩
    exact Classical.byContradiction fun q => nn ⟨px, q⟩
  refine br_c (fun px => A79 (fun q => q.1 px)) (fun px => ⟨vy, br_c (fun py => A79 (fun q => q.2 py)) (fun py => ⟨vx, vy, br_c (fun z => ⟨vx, vy, br_c (fun w => h1 _ _ _ (gf_both H hm hc px py w)) (fun w => h0 (ga_iyBad H.1 hm hc px py w))⟩) (fun z => absurd (ga_iyOne H.1 hm hc px py) z)⟩)⟩)
theorem dl_sp {post : Int32 → SY → Prop} {m r : Nat} {E : Nat → Prop} {q0 : Nat → Int32} (hm48 : m ≤ 48) (hR : ∀ c, c < m → fa_R 36 (kx c) ∧ fa_R 36 (ky c)) (hd : ∀ c, c < m → -128 ≤ (kd c).toInt ∧ (kd c).toInt ≤ 128)
    (h1 : ∀ pl cm rl : Nat → Int32, gf_Ps (fa_N kx) (fa_N ky) kd m r E 40 q0 pl cm rl → post 1 (sc, oc, ne, ns, ca, nI m, on, yp, yu, ye, st, yl, yr, al, ap, cb, cn, ac, eu, ea, eb, sU, sL, sK, sE, sG, sO, kx, ky, kd, pl, rl, cm, hv, ba, ad, ex, cy, tc, ss, av, cs, bi, ou)) (h0 : (¬ ∃ p, ga_Sol (ga_C (fa_N kx) (fa_N ky) kd m) p) → ∀ pl cm rl : Nat → Int32, post 0 (sc, oc, ne, ns, ca, nI m, on, yp, yu, ye, st, yl, yr, al, ap, cb, cn, ac, eu, ea, eb, sU, sL, sK, sE, sG, sO, kx, ky, kd, pl, rl, cm, hv, ba, ad, ex, cy, tc, ss, av, cs, bi, ou)) :
    ∀ d j, j + d = 40 → ∀ pl cm rl : Nat → Int32, gf_Ps (fa_N kx) (fa_N ky) kd m r E j q0 pl cm rl → wY_spread_2 post (d + 1) (nI j) sc oc ne ns ca (nI m) on yp yu ye st yl yr al ap cb cn ac eu ea eb sU sL sK sE sG sO kx ky kd pl rl cm hv ba ad ex cy tc ss av cs bi ou := by
  intro d
  induction d with
  | zero =>
    intro j hj pl cm rl H
    have e : j = 40 := by omega
    subst e
    exact br_t (by decide) (h1 pl cm rl H)
  | succ d ih =>
    intro j hj pl cm rl H
    refine br_f (nI_ge (b := 40) (by omega) (by decide)) ?_
    have inner : ∀ d' c, c + d' = m → ∀ pl' cm' rl' : Nat → Int32, gf_In (fa_N kx) (fa_N ky) kd m r E c pl cm rl pl' cm' rl' → wY_spread_10 post (wY_spread_2 post (d + 1)) (nI j) (d' + 1) (nI c) sc oc ne ns ca (nI m) on yp yu ye st yl yr al ap cb cn ac eu ea eb sU sL sK sE sG sO kx ky kd pl' rl' cm' hv ba ad ex cy tc ss av cs bi ou := by
      intro d'
      induction d' with
      | zero =>
        intro c hc pl' cm' rl' H'
        have e : c = m := by omega
        subst e
        exact br_t (nI_le (Nat.le_refl c) (by omega)) (nm_r (nI_1 j) (ih (j + 1) (by omega) pl' cm' rl' (gf_pass H H')))
      | succ d' ih' =>
        intro c hc pl' cm' rl' H'
        refine br_f (nI_ge (by omega) (by omega)) ?_
        exact dl_ap hm48 hR hd (by omega) H' (fun pl2 cm2 rl2 H2 => br_f (by decide) (nm_r (nI_1 c) (ih' (c + 1) (by omega) pl2 cm2 rl2 H2))) (fun ns => br_t rfl (h0 ns pl' cm' rl'))
    exact ⟨m + 1, inner m 0 (by omega) pl cm rl (gf_in0 H.1)⟩
theorem dl_mono {fx fy : Nat → Nat} {Dd : Nat → Int32} {m r : Nat} {pl cm rl : Nat → Int32} (H : ga_IY fx fy Dd m r (fun z => pl z ≠ 0) pl cm rl) : ga_IY fx fy Dd m (r + 1) (fun z => pl z ≠ 0) pl cm rl := by
  obtain ⟨a1, a2, a3, a4, a5, a6, a7⟩ := H
  refine ⟨a1, fun z hz e => ⟨(a2 z hz e).1, ?_⟩, a3, fun z _ h1 h2 => absurd h1 h2, a5, a6, a7⟩
  obtain ⟨_, j, hj, ej⟩ := a2 z hz e
  exact ⟨j, by omega, ej⟩
theorem dl_256 {post : Int32 → SY → Prop} {m : Nat} (hm48 : m ≤ 48) (hR : ∀ c, c < m → fa_R 36 (kx c) ∧ fa_R 36 (ky c)) (hd : ∀ c, c < m → -128 ≤ (kd c).toInt ∧ (kd c).toInt ≤ 128)
    (h1 : ∀ pl cm rl : Nat → Int32, ga_IY (fa_N kx) (fa_N ky) kd m 36 (fun z => pl z ≠ 0) pl cm rl → (∀ z, z < 36 → pl z ≠ 0) → ∃ q, wY_layout_310 post sc oc ne ns ca (nI m) on yp yu ye st yl yr al ap cb cn ac eu ea eb sU sL sK sE sG sO kx ky kd pl rl cm hv ba ad ex cy tc ss av cs bi ou q 32) (h0 : (¬ ∃ p, ga_Sol (ga_C (fa_N kx) (fa_N ky) kd m) p) → ∀ pl cm rl : Nat → Int32, post 0 (sc, oc, ne, ns, ca, nI m, on, yp, yu, ye, st, yl, yr, al, ap, cb, cn, ac, eu, ea, eb, sU, sL, sK, sE, sG, sO, kx, ky, kd, pl, rl, cm, hv, ba, ad, ex, cy, tc, ss, av, cs, bi, ou)) :
    ∀ d r, r + d = 36 → ∀ pl cm rl : Nat → Int32, ga_IY (fa_N kx) (fa_N ky) kd m r (fun z => pl z ≠ 0) pl cm rl → (∀ z, z < r → pl z ≠ 0) → wY_layout_256 post (d + 1) (nI r) sc oc ne ns ca (nI m) on yp yu ye st yl yr al ap cb cn ac eu ea eb sU sL sK sE sG sO kx ky kd pl rl cm hv ba ad ex cy tc ss av cs bi ou := by
  have hm : ∀ c, c < m → fa_N kx c < 36 ∧ fa_N ky c < 36 := fun c hc => ⟨(fa_Rn (hR c hc).1 (by decide)).2, (fa_Rn (hR c hc).2 (by decide)).2⟩
  have nb1 : vp_nar .boolean 1 = 1 := by decide
  intro d
  induction d with
  | zero =>
    intro r hr pl cm rl H hp
    have e : r = 36 := by omega
    subst e
    exact br_t (by decide) (h1 pl cm rl H hp)
  | succ d ih =>
    intro r hr pl cm rl H hp
    have vr : vp_in (nI r) 36 := vp_in_nI (by omega) (by decide)
    refine br_f (nI_ge (b := 36) (by omega) (by decide)) ⟨vr, ?_⟩
    rw [nI_clamp (n := r) (by omega), nb1]
    refine br_c (fun z => ⟨vr, nm_e ⟨vr, nm_e ⟨vr, nm_e ?_⟩⟩⟩) (fun z => nm_r (nI_1 r) (ih (r + 1) (by omega) pl cm rl (dl_mono H) (fun x hx => ?_)))
    · have HR := ga_iyRoot H hm (by omega) z
      refine ⟨40 + 1, dl_sp (r := r) (E := fun z => pl z ≠ 0) (q0 := upd pl r 1) hm48 hR hd (fun pl' cm' rl' H' => br_f (by decide) (nm_r (nI_1 r) (ih (r + 1) (by omega) pl' cm' rl' (ga_iyDone H'.1 (gf_end H')) (fun x hx => H'.2.1 x ?_)))) (fun ns pl' cm' rl' => br_t rfl (h0 ns pl' cm' rl')) 40 0 rfl _ _ _ ⟨HR, fun _ q => q, Or.inr (Nat.zero_le _)⟩⟩
      by_cases e : x = r
      · rw [e, pk_us]; decide
      · rw [pk_un e]; exact hp x (by omega)
    · by_cases e : x = r
      · rw [e]; exact z
      · exact hp x (by omega)
theorem dl_235 {post : Int32 → SY → Prop} (h : ∀ pl : Nat → Int32, (∀ z, z < 36 → pl z = 0) → ∃ q, wY_layout_256 post q 0 sc oc ne ns ca nc on yp yu ye st yl yr al ap cb cn ac eu ea eb sU sL sK sE sG sO kx ky kd pl rl cm hv ba ad ex cy tc ss av cs bi ou) : ∀ d i, i + d = 36 → ∀ pl : Nat → Int32, (∀ z, z < i → pl z = 0) → wY_layout_235 post sc oc ne ns ca nc on yp yu ye st yl yr (d + 1) (nI i) al ap cb cn ac eu ea eb sU sL sK sE sG sO kx ky kd pl rl cm hv ba ad ex cy tc ss av cs bi ou := by
  have nb0 : vp_nar .boolean 0 = 0 := by decide
  intro d
  induction d with
  | zero =>
    intro i hi pl hp
    have e : i = 36 := by omega
    subst e
    exact br_t (by decide) (h pl hp)
  | succ d ih =>
    intro i hi pl hp
    refine br_f (nI_ge (b := 36) (by omega) (by decide)) ⟨vp_in_nI (by omega) (by decide), ?_⟩
    rw [nI_clamp (n := i) (by omega), nb0]
    refine nm_e (nm_r (nI_1 i) (ih (i + 1) (by omega) _ (fun x hx => ?_)))
    by_cases e : x = i
    · subst e; exact pk_us
    · rw [pk_un e]; exact hp x (by omega)
def gd_JY (cm : Nat → Int32) : Prop := ∃ b c, 32 ≤ b ∧ b < c ∧ c < 36 ∧ cm b = cm c
theorem dl_310 {post : Int32 → SY → Prop} (h1 : ¬ gd_JY cm → post 1 (sc, oc, ne, ns, ca, nc, on, yp, yu, ye, st, yl, yr, al, ap, cb, cn, ac, eu, ea, eb, sU, sL, sK, sE, sG, sO, kx, ky, kd, pl, rl, cm, hv, ba, ad, ex, cy, tc, ss, av, cs, bi, ou)) (h0 : gd_JY cm → post 0 (sc, oc, ne, ns, ca, nc, on, yp, yu, ye, st, yl, yr, al, ap, cb, cn, ac, eu, ea, eb, sU, sL, sK, sE, sG, sO, kx, ky, kd, pl, rl, cm, hv, ba, ad, ex, cy, tc, ss, av, cs, bi, ou)) : ∃ q, wY_layout_310 post sc oc ne ns ca nc on yp yu ye st yl yr al ap cb cn ac eu ea eb sU sL sK sE sG sO kx ky kd pl rl cm hv ba ad ex cy tc ss av cs bi ou q 32 := by
  refine lb_from (W := fun m z => wY_layout_310 post sc oc ne ns ca nc on yp yu ye st yl yr al ap cb cn ac eu ea eb sU sL sK sE sG sO kx ky kd pl rl cm hv ba ad ex cy tc ss av cs bi ou m z) (B := fun b => ∃ c, b < c ∧ c < 36 ∧ cm b = cm c) 32 36 (by decide) ?_ ?_
  · intro m nb
    refine br_t (by decide) (h1 ?_)
    rintro ⟨b, c, b1, bc, c2, e⟩
    exact nb b b1 (by omega) ⟨c, bc, c2, e⟩
  · intro m b b1 b2 go
    have vb : vp_in (nI b) 36 := vp_in_nI b2 (by decide)
    refine br_f (nI_ge (b := 36) b2 (by decide)) (nm_r (nI_1 b) ?_)
    refine lb_from (W := fun m' z => wY_layout_320 post (wY_layout_310 post sc oc ne ns ca nc on yp yu ye st yl yr al ap cb cn ac eu ea eb sU sL sK sE sG sO kx ky kd pl rl cm hv ba ad ex cy tc ss av cs bi ou m) (nI b) sc oc ne ns ca nc on yp yu ye st yl yr al ap cb cn ac eu ea eb sU sL sK sE sG sO kx ky kd pl rl cm hv ba ad ex cy tc ss av cs bi ou m' z) (B := fun c => cm b = cm c) (b + 1) 36 (by omega) ?_ ?_
    · intro m' nb
      exact br_t (by decide) (nm_r (nI_1 b) (go (by rintro ⟨c, hc, c2, e⟩; exact nb c (by omega) c2 e)))
    · intro m' c c1 c2 go'
      refine br_f (nI_ge (b := 36) c2 (by decide)) ?_
      rw [nI_clamp (n := b) (by omega), nI_clamp (n := c) (by omega)]
      exact ⟨vb, vp_in_nI c2 (by decide), br_c (fun z => h0 ⟨b, c, b1, by omega, c2, z⟩) (fun z => nm_r (nI_1 c) (go' z))⟩
theorem dl_layout {post : Int32 → SY → Prop} (D : fs_D al ap ac en cb cn eu ea eb n)
    (h0 : (¬ ∃ p, ga_Sol (gd_CS (fa_N al) (fa_N ac) (fa_N cb) (fa_N cn) n (fa_N eu) (fa_N ea) (fa_N eb)) p) → ∀ (nc : Int32) (kx ky kd pl cm rl : Nat → Int32), post 0 (sc, oc, nI n, ns, ca, nc, on, yp, yu, ye, st, yl, yr, al, ap, cb, cn, ac, eu, ea, eb, sU, sL, sK, sE, sG, sO, kx, ky, kd, pl, rl, cm, hv, ba, ad, ex, cy, tc, ss, av, cs, bi, ou))
    (h1 : ∀ (m : Nat) (kx ky kd pl cm rl : Nat → Int32), ga_C (fa_N kx) (fa_N ky) kd m = gd_CS (fa_N al) (fa_N ac) (fa_N cb) (fa_N cn) n (fa_N eu) (fa_N ea) (fa_N eb) → (∀ c, c < m → fa_N kx c < 36 ∧ fa_N ky c < 36) → ga_IY (fa_N kx) (fa_N ky) kd m 36 (fun z => pl z ≠ 0) pl cm rl → (∀ z, z < 36 → pl z ≠ 0) → (¬ gd_JY cm → post 1 (sc, oc, nI n, ns, ca, nI m, on, yp, yu, ye, st, yl, yr, al, ap, cb, cn, ac, eu, ea, eb, sU, sL, sK, sE, sG, sO, kx, ky, kd, pl, rl, cm, hv, ba, ad, ex, cy, tc, ss, av, cs, bi, ou)) ∧ (gd_JY cm → post 0 (sc, oc, nI n, ns, ca, nI m, on, yp, yu, ye, st, yl, yr, al, ap, cb, cn, ac, eu, ea, eb, sU, sL, sK, sE, sG, sO, kx, ky, kd, pl, rl, cm, hv, ba, ad, ex, cy, tc, ss, av, cs, bi, ou))) : wpY_layout post (sc, oc, nI n, ns, ca, nc, on, yp, yu, ye, st, yl, yr, al, ap, cb, cn, ac, eu, ea, eb, sU, sL, sK, sE, sG, sO, kx, ky, kd, pl, rl, cm, hv, ba, ad, ex, cy, tc, ss, av, cs, bi, ou) := by
  have W := fs_wd D
  refine ⟨32 + 1, dl_7 D (fun m kx ky kd H => ?_) 32 0 rfl 0 kx ky kd ⟨Nat.le_refl 0, fun c hc => absurd hc (Nat.not_lt_zero c), fun x y d => ⟨fun ⟨c, hc, _⟩ => absurd hc (Nat.not_lt_zero c), fun z => absurd z ge_sy0⟩⟩⟩
  obtain ⟨m48, hR, hT⟩ := H
  have eT : ga_C (fa_N kx) (fa_N ky) kd m = gd_CS (fa_N al) (fa_N ac) (fa_N cb) (fa_N cn) n (fa_N eu) (fa_N ea) (fa_N eb) := by
    funext x y d
    exact propext (hT x y d)
  have hm : ∀ c, c < m → fa_N kx c < 36 ∧ fa_N ky c < 36 := fun c hc => ⟨(fa_Rn (hR c hc).1 (by decide)).2, (fa_Rn (hR c hc).2 (by decide)).2⟩
  have hd : ∀ c, c < m → -128 ≤ (kd c).toInt ∧ (kd c).toInt ≤ 128 := fun c hc => (gd_cs36 W ((hT _ _ _).mp ⟨c, hc, rfl, rfl, rfl⟩)).2.2
  refine ⟨36 + 1, dl_235 (fun pl hp => ⟨36 + 1, dl_256 m48 hR hd (fun pl cm rl H hpl => dl_310 (h1 m kx ky kd pl cm rl eT hm H hpl).1 (h1 m kx ky kd pl cm rl eT hm H hpl).2) (fun ns pl cm rl => h0 (by rw [← eT]; exact ns) (nI m) kx ky kd pl cm rl) 36 0 rfl pl cm rl (ga_iy0 hm hp) (fun z hz => absurd hz (Nat.not_lt_zero z))⟩) 36 0 rfl pl (fun z hz => absurd hz (Nat.not_lt_zero z))⟩
end HYL
end
section
section HYA
/-! the reference's allocation -/
variable {sc oc ne ns ca on st ra xu xn xe xd nc yp yu ye yl yr : Int32} {al ap ac en eu ea eb sU sL sK sE sG sO gr po ec cx ou tc ss av cs cb cn kx ky kd pl rl cm hv ba ad ex cy bi : Nat → Int32}
variable {n : Nat} {C : ga_T}
/-- the least start and the greatest end, over the slots below j -/
def al_M (al ap cm rl : Nat → Int32) (r j : Nat) (mn mx : Int32) : Prop :=
  (∀ k, k < j → gd_St (fa_N ap) k → cm k = nI r → mn.toInt ≤ (rl k).toInt ∧ (rl k).toInt + fa_N al k ≤ mx.toInt) ∧
  (∃ k, k < 32 ∧ gd_St (fa_N ap) k ∧ cm k = nI r ∧ (rl k).toInt = mn.toInt) ∧ (∃ k, k < 32 ∧ gd_St (fa_N ap) k ∧ cm k = nI r ∧ (rl k).toInt + fa_N al k = mx.toInt)
theorem al_sum {k : Nat} (D : fs_D al ap ac en cb cn eu ea eb n) (hk : k < 32) (hb : -4608 ≤ (rl k).toInt ∧ (rl k).toInt ≤ 4608) : (rl k + al k).toInt = (rl k).toInt + fa_N al k := by
  obtain ⟨l1, l2, l3⟩ := cn_A D hk
  have e : (al k).toInt = (fa_N al k : Int) := (congrArg Int32.toInt l1).trans (nI_toInt (by omega))
  rw [ga_addT (by omega) (by omega), e]
theorem al_81 {post : SY → Prop} {J : Int32 → Int32 → (Nat → Int32) → (Nat → Int32) → (Nat → Int32) → (Nat → Int32) → (Nat → Int32) → (Nat → Int32) → (Nat → Int32) → (Nat → Int32) → (Nat → Int32) → (Nat → Int32) → (Nat → Int32) → (Nat → Int32) → (Nat → Int32) → (Nat → Int32) → (Nat → Int32) → (Nat → Int32) → (Nat → Int32) → (Nat → Int32) → (Nat → Int32) → (Nat → Int32) → (Nat → Int32) → (Nat → Int32) → (Nat → Int32) → (Nat → Int32) → (Nat → Int32) → (Nat → Int32) → (Nat → Int32) → (Nat → Int32) → (Nat → Int32) → (Nat → Int32) → (Nat → Int32) → Prop} {k r N : Nat} (D : fs_D al ap ac en cb cn eu ea eb n) (hb : ∀ x, x < 36 → -4608 ≤ (rl x).toInt ∧ (rl x).toInt ≤ 4608) (hr : r < 36) (hk : k < 32)
    (h : ∀ mn mx : Int32, gb_MM (fa_N al) (gd_St (fa_N ap)) cm rl r mn.toInt mx.toInt → J (nI N + mx - mn) (nI (k + 1)) al ap cb cn ac eu ea eb sU sL sK sE sG sO kx ky kd pl rl cm (upd hv r 1) (upd ba r (nI N - mn)) (upd ad k (nI N - mn + rl k)) ex cy tc ss av cs bi ou) :
    ∀ d j, j + d = 32 → ∀ mn mx : Int32, al_M al ap cm rl r j mn mx → wY_allocate_81 post J (nI N) (nI k) (nI r) sc oc ne ns ca nc on yp yu ye st yl yr al ap cb cn ac eu ea eb sU sL sK sE sG sO kx ky kd pl rl cm hv ba ad ex cy tc ss av cs bi ou (d + 1) mn mx (nI j) := by
  have nb1 : vp_nar .boolean 1 = 1 := by decide
  have vr : vp_in (nI r) 36 := vp_in_nI hr (by decide)
  intro d
  induction d with
  | zero =>
    intro j hj mn mx M
    have e : j = 32 := by omega
    subst e
    refine br_t (by decide) ⟨vr, ?_⟩
    rw [nI_clamp (n := r) (by omega), nb1]
    refine nm_e ⟨vr, nm_e (nm_e ?_)⟩
    unfold wY_allocate_197
    rw [nI_clamp (n := r) (by omega), nI_clamp (n := k) (by omega), pk_us]
    exact ⟨vr, vp_in_nI (by omega) (by decide), vp_in_nI (by omega) (by decide), nm_e (nm_r (nI_1 k) (h mn mx M))⟩
  | succ d ih =>
    intro j hj mn mx M
    have vj : vp_in (nI j) 36 := vp_in_nI (by omega) (by decide)
    have vj' : vp_in (nI j) 32 := vp_in_nI (by omega) (by decide)
    have bj := hb j (by omega)
    have sj := al_sum (rl := rl) D (k := j) (by omega) bj
    refine br_f (nI_ge (b := 32) (by omega) (by decide)) ?_
    refine hy_stored (by omega) (D.2.2.1 _ (by omega)) (fun s => br_t rfl (nm_r (nI_1 j) (ih (j + 1) (by omega) mn mx ⟨fun q hq sq cq => ?_, M.2⟩))) (fun s => br_f (by decide) ⟨vj, ?_⟩)
    · by_cases e : q = j
      · subst e; exact absurd sq s
      · exact M.1 q (by omega) sq cq
    · rw [nI_clamp (n := j) (by omega)]
      refine br_c (fun z => ⟨vj, ?_⟩) (fun z => nm_r (nI_1 j) (ih (j + 1) (by omega) mn mx ⟨fun q hq sq cq => ?_, M.2⟩))
      · have t129 : ∀ mn' : Int32, al_M al ap cm rl r j mn' mx → mn'.toInt ≤ (rl j).toInt → wY_allocate_129 post J (wY_allocate_81 post J (nI N) (nI k) (nI r) sc oc ne ns ca nc on yp yu ye st yl yr al ap cb cn ac eu ea eb sU sL sK sE sG sO kx ky kd pl rl cm hv ba ad ex cy tc ss av cs bi ou (d + 1)) (nI N) (nI k) (nI r) mn' mx (nI j) sc oc ne ns ca nc on yp yu ye st yl yr al ap cb cn ac eu ea eb sU sL sK sE sG sO kx ky kd pl rl cm hv ba ad ex cy tc ss av cs bi ou := by
          intro mn' M' lm
          unfold wY_allocate_129
          rw [nI_clamp (n := j) (by omega)]
          refine ⟨vj, vj', br_c (fun w => nm_r (nI_1 j) (ih (j + 1) (by omega) mn' mx ⟨fun q hq sq cq => ?_, M'.2⟩)) (fun w => ⟨vj, vj', nm_e (nm_r (nI_1 j) (ih (j + 1) (by omega) mn' (rl j + al j) ⟨fun q hq sq cq => ?_, M'.2.1, ⟨j, by omega, s, z, sj.symm⟩⟩))⟩)⟩
          · rw [Int32.le_iff_toInt_le, sj] at w
            by_cases e : q = j
            · subst e; exact ⟨lm, w⟩
            · exact M'.1 q (by omega) sq cq
          · rw [Int32.le_iff_toInt_le, sj] at w
            rw [sj]
            by_cases e : q = j
            · subst e; exact ⟨lm, Int.le_refl _⟩
            · have := M'.1 q (by omega) sq cq
              exact ⟨this.1, by omega⟩
        refine br_c (fun w => t129 mn M (Int32.le_iff_toInt_le.mp w)) (fun w => ⟨vj, nm_e (t129 (rl j) ⟨fun q hq sq cq => ?_, ⟨j, by omega, s, z, rfl⟩, M.2.2⟩ (Int.le_refl _))⟩)
        rw [Int32.le_iff_toInt_le] at w
        have := M.1 q hq sq cq
        exact ⟨by omega, this.2⟩
      · by_cases e : q = j
        · subst e; exact absurd cq z
        · exact M.1 q (by omega) sq cq
theorem al_234 {post : SY → Prop} {J : Int32 → (Nat → Int32) → (Nat → Int32) → (Nat → Int32) → (Nat → Int32) → (Nat → Int32) → (Nat → Int32) → (Nat → Int32) → (Nat → Int32) → (Nat → Int32) → (Nat → Int32) → (Nat → Int32) → (Nat → Int32) → (Nat → Int32) → (Nat → Int32) → (Nat → Int32) → (Nat → Int32) → (Nat → Int32) → (Nat → Int32) → (Nat → Int32) → (Nat → Int32) → (Nat → Int32) → (Nat → Int32) → (Nat → Int32) → (Nat → Int32) → (Nat → Int32) → (Nat → Int32) → (Nat → Int32) → (Nat → Int32) → (Nat → Int32) → (Nat → Int32) → (Nat → Int32) → Prop} {b : Nat} (D : fs_D al ap ac en cb cn eu ea eb n) (hb : b < 4) (HL : gb_Lay C gr po cm rl) (hd : ∀ k b, k < 32 → b < 4 → ¬ gd_St (fa_N ap) k → ¬ gr k = gr (32 + b))
    (h : J (nI (b + 1)) al ap cb cn ac eu ea eb sU sL sK sE sG sO kx ky kd pl rl cm hv ba ad (upd ex b (fs_ext gr po al b 32)) cy tc ss av cs bi ou) : ∀ d k, k + d = 32 → wY_allocate_234 post J (nI b) sc oc ne ns ca nc on yp yu ye st yl yr al ap cb cn ac eu ea eb sU sL sK sE sG sO kx ky kd pl rl cm hv ba ad ex cy tc ss av cs bi ou (d + 1) (fs_ext gr po al b k) (nI k) := by
  intro d
  induction d with
  | zero =>
    intro k hk
    have e : k = 32 := by omega
    subst e
    refine br_t (by decide) ⟨vp_in_nI hb (by decide), ?_⟩
    rw [nI_clamp (n := b) (by omega)]
    exact nm_e (nm_r (nI_1 b) h)
  | succ d ih =>
    intro k hk
    have vk : vp_in (nI k) 36 := vp_in_nI (by omega) (by decide)
    have vb : vp_in (nI (32 + b)) 36 := vp_in_nI (by omega) (by decide)
    have ex1 : fs_ext gr po al b (k + 1) = if gr k = gr (32 + b) ∧ fs_ext gr po al b k < po k + al k - po (32 + b) then po k + al k - po (32 + b) else fs_ext gr po al b k := rfl
    have go := ih (k + 1) (by omega)
    refine br_f (nI_ge (b := 32) (by omega) (by decide)) ?_
    refine hy_stored (by omega) (D.2.2.1 _ (by omega)) (fun s => br_t rfl (nm_r (nI_1 k) ?_)) (fun s => br_f (by decide) ⟨vk, ?_⟩)
    · rw [if_neg (fun q => hd k b (by omega) hb s q.1)] at ex1
      rw [ex1] at go
      exact go
    · rw [ha_32, nI_clamp (n := k) (by omega), nI_clamp (n := 32 + b) (by omega)]
      have gc := HL.1 k (32 + b) (by omega) (by omega)
      refine ⟨vb, br_c (fun z => ⟨vk, vp_in_nI (by omega) (by decide), vb, ?_⟩) (fun z => nm_r (nI_1 k) ?_)⟩
      · have gz := gc.mpr z
        have pr := HL.2.1 k (32 + b) (by omega) (by omega) gz
        have e5 : rl k + al k - rl (32 + b) = po k + al k - po (32 + b) := by grind
        refine nm_r e5 (br_c (fun w => nm_r (nI_1 k) ?_) (fun w => nm_r (nI_1 k) ?_))
        · rw [if_neg (fun q => absurd q.2 (Int32.not_lt.mpr w))] at ex1
          rw [ex1] at go
          exact go
        · rw [if_pos ⟨gz, Int32.not_le.mp w⟩] at ex1
          rw [ex1] at go
          exact go
      · rw [if_neg (fun q => z (gc.mp q.1))] at ex1
        rw [ex1] at go
        exact go
theorem al_224 {post : SY → Prop} (D : fs_D al ap ac en cb cn eu ea eb n) (HL : gb_Lay C gr po cm rl) (hd : ∀ k b, k < 32 → b < 4 → ¬ gd_St (fa_N ap) k → ¬ gr k = gr (32 + b))
    (h : ∀ ex : Nat → Int32, (∀ b, b < 4 → ex b = fs_ext gr po al b 32) → post (sc, oc, ne, ns, ca, nc, on, yp, yu, ye, st, yl, yr, al, ap, cb, cn, ac, eu, ea, eb, sU, sL, sK, sE, sG, sO, kx, ky, kd, pl, rl, cm, hv, ba, ad, ex, cy, tc, ss, av, cs, bi, ou)) : ∀ d b, b + d = 4 → ∀ ex : Nat → Int32, (∀ c, c < b → ex c = fs_ext gr po al c 32) → wY_allocate_224 post sc oc ne ns ca nc on yp yu ye st yl yr (d + 1) (nI b) al ap cb cn ac eu ea eb sU sL sK sE sG sO kx ky kd pl rl cm hv ba ad ex cy tc ss av cs bi ou := by
  intro d
  induction d with
  | zero =>
    intro b hb ex he
    have e : b = 4 := by omega
    subst e
    exact br_t (by decide) (h ex he)
  | succ d ih =>
    intro b hb ex he
    refine br_f (nI_ge (b := 4) (by omega) (by decide)) ⟨32 + 1, al_234 D (by omega) HL hd (ih (b + 1) (by omega) _ (fun c hc => ?_)) 32 0 rfl⟩
    by_cases e : c = b
    · subst e; exact pk_us
    · rw [pk_un e]; exact he c (by omega)
theorem al_25 {post : SY → Prop} (D : fs_D al ap ac en cb cn eu ea eb n) (HL : gb_Lay C gr po cm rl) (h : ∀ (N : Nat) (hv ba ad : Nat → Int32), gb_AL (fa_N al) (gd_St (fa_N ap)) cm rl 32 N hv ba ad → ∃ q, wY_allocate_224 post sc oc ne ns ca nc on yp yu ye st yl yr q 0 al ap cb cn ac eu ea eb sU sL sK sE sG sO kx ky kd pl rl cm hv ba ad ex cy tc ss av cs bi ou) :
    ∀ d k, k + d = 32 → ∀ (N : Nat) (hv ba ad : Nat → Int32), gb_AL (fa_N al) (gd_St (fa_N ap)) cm rl k N hv ba ad → wY_allocate_25 post sc oc ne ns ca nc on yp yu ye st yl yr (d + 1) (nI N) (nI k) al ap cb cn ac eu ea eb sU sL sK sE sG sO kx ky kd pl rl cm hv ba ad ex cy tc ss av cs bi ou := by
  have hb := HL.2.2.1
  have hL : ∀ k, k < 32 → 1 ≤ fa_N al k ∧ fa_N al k ≤ 16 := fun k hk => (cn_A D hk).2
  intro d
  induction d with
  | zero =>
    intro k hk N hv ba ad H
    have e : k = 32 := by omega
    subst e
    exact br_t (by decide) (h N hv ba ad H)
  | succ d ih =>
    intro k hk N hv ba ad H
    have vk : vp_in (nI k) 36 := vp_in_nI (by omega) (by decide)
    have vk' : vp_in (nI k) 32 := vp_in_nI (by omega) (by decide)
    obtain ⟨r, hr, er⟩ := HL.2.2.2.2.1 k (by omega)
    have vr : vp_in (nI r) 36 := vp_in_nI hr (by decide)
    refine br_f (nI_ge (b := 32) (by omega) (by decide)) ?_
    refine hy_stored (by omega) (D.2.2.1 _ (by omega)) (fun s => br_t rfl (nm_r (nI_1 k) (ih (k + 1) (by omega) N hv ba ad (gb_alSkip H s)))) (fun s => br_f (by decide) ⟨vk, ?_⟩)
    rw [nI_clamp (n := k) (by omega)]
    refine nm_r er ⟨vr, ?_⟩
    rw [nI_clamp (n := r) (by omega)]
    refine br_c (fun z => ⟨vk, nm_e ⟨vk, vk', nm_e ?_⟩⟩) (fun z => ?_)
    · refine ⟨32 + 1, al_81 D hb hr (by omega) (fun mn mx MM => ?_) 32 0 rfl (rl k) (rl k + al k) ⟨fun q hq => absurd hq (Nat.not_lt_zero q), ⟨k, by omega, s, er, rfl⟩, ⟨k, by omega, s, er, (al_sum (rl := rl) D (by omega) (hb k (by omega))).symm⟩⟩⟩
      obtain ⟨N', e1, H'⟩ := gc_alNew H (by omega) hr er z MM hb hL
      rw [e1]
      exact ih (k + 1) (by omega) N' _ _ _ H'
    · unfold wY_allocate_197
      rw [nI_clamp (n := r) (by omega), nI_clamp (n := k) (by omega)]
      exact ⟨vr, vk, vk', nm_e (nm_r (nI_1 k) (ih (k + 1) (by omega) N _ _ _ (gb_alOld H hr er z)))⟩
theorem al_2 {post : SY → Prop} (h : ∀ hv : Nat → Int32, (∀ r, r < 36 → hv r = 0) → ∃ q, wY_allocate_25 post sc oc ne ns ca nc on yp yu ye st yl yr q 0 0 al ap cb cn ac eu ea eb sU sL sK sE sG sO kx ky kd pl rl cm hv ba ad ex cy tc ss av cs bi ou) : ∀ d i, i + d = 36 → ∀ hv : Nat → Int32, (∀ r, r < i → hv r = 0) → wY_allocate_2 post sc oc ne ns ca nc on yp yu ye st yl yr (d + 1) (nI i) al ap cb cn ac eu ea eb sU sL sK sE sG sO kx ky kd pl rl cm hv ba ad ex cy tc ss av cs bi ou := by
  have nb0 : vp_nar .boolean 0 = 0 := by decide
  intro d
  induction d with
  | zero =>
    intro i hi hv hp
    have e : i = 36 := by omega
    subst e
    exact br_t (by decide) (h hv hp)
  | succ d ih =>
    intro i hi hv hp
    refine br_f (nI_ge (b := 36) (by omega) (by decide)) ⟨vp_in_nI (by omega) (by decide), ?_⟩
    rw [nI_clamp (n := i) (by omega), nb0]
    refine nm_e (nm_r (nI_1 i) (ih (i + 1) (by omega) _ (fun x hx => ?_)))
    by_cases e : x = i
    · subst e; exact pk_us
    · rw [pk_un e]; exact hp x (by omega)
theorem al_main {post : SY → Prop} (D : fs_D al ap ac en cb cn eu ea eb n) (HL : gb_Lay C gr po cm rl) (hd : ∀ k b, k < 32 → b < 4 → ¬ gd_St (fa_N ap) k → ¬ gr k = gr (32 + b))
    (h : ∀ (N : Nat) (hv ba ad ex : Nat → Int32), gb_AL (fa_N al) (gd_St (fa_N ap)) cm rl 32 N hv ba ad → (∀ b, b < 4 → ex b = fs_ext gr po al b 32) → post (sc, oc, ne, ns, ca, nc, on, yp, yu, ye, st, yl, yr, al, ap, cb, cn, ac, eu, ea, eb, sU, sL, sK, sE, sG, sO, kx, ky, kd, pl, rl, cm, hv, ba, ad, ex, cy, tc, ss, av, cs, bi, ou)) : wpY_allocate post (sc, oc, ne, ns, ca, nc, on, yp, yu, ye, st, yl, yr, al, ap, cb, cn, ac, eu, ea, eb, sU, sL, sK, sE, sG, sO, kx, ky, kd, pl, rl, cm, hv, ba, ad, ex, cy, tc, ss, av, cs, bi, ou) :=
  ⟨36 + 1, al_2 (fun hv hp => ⟨32 + 1, al_25 D HL (fun N hv ba ad H => ⟨4 + 1, al_224 D HL hd (fun ex he => h N hv ba ad ex H he) 4 0 rfl ex (fun c hc => absurd hc (Nat.not_lt_zero c))⟩) 32 0 rfl 0 hv ba ad (gb_al0 hp)⟩) 36 0 rfl hv (fun r hr => absurd hr (Nat.not_lt_zero r))⟩
end HYA
end
section
section HCO
/-! compile -/
variable {sc oc ne ns ca on st ra xu xn xe xd nc yp yu ye yl yr : Int32} {al ap ac en eu ea eb sU sL sK sE sG sO gr po ec cx ou tc ss av cs cb cn kx ky kd pl rl cm hv ba ad ex cy bi : Nat → Int32}
variable {n q : Nat} {f : Prop}
theorem ck_x {P : Int32 → SX → Prop} (hn : n ≤ 64) (S : fs_S n sU sL sK sE sG sO f) (D : fs_D al ap ac en cb cn eu ea eb q)
    (h2 : fb_pend n sK sE sG ≠ 0 → P 2 (sc, oc, nI q, nI n, ca, on, st, ra, xu, xn, xe, xd, al, ap, ac, en, eu, ea, eb, sU, sL, sK, sE, sG, sO, gr, po, ec, cx, ou, tc, ss, av, cs)) (h3 : fb_pend n sK sE sG = 0 → gd_DB (fa_N al) (fa_N ap) (fa_N ac) (fa_N cn) q (fa_N eu) (fa_N ea) (fa_N eb) → P 3 (sc, oc, nI q, nI n, ca, on, st, ra, xu, xn, xe, xd, al, ap, ac, en, eu, ea, eb, sU, sL, sK, sE, sG, sO, gr, po, ec, cx, ou, tc, ss, av, cs)) (h4 : fb_pend n sK sE sG = 0 → ¬ gd_DB (fa_N al) (fa_N ap) (fa_N ac) (fa_N cn) q (fa_N eu) (fa_N ea) (fa_N eb) → (gd_XE (fa_N al) q (fa_N eu) (fa_N ea) (fa_N eb) ∨ gd_XS n al sU sG sO) → P 4 (sc, oc, nI q, nI n, ca, on, st, ra, xu, xn, xe, xd, al, ap, ac, en, eu, ea, eb, sU, sL, sK, sE, sG, sO, gr, po, ec, cx, ou, tc, ss, av, cs))
    (h5n : fb_pend n sK sE sG = 0 → ¬ gd_DB (fa_N al) (fa_N ap) (fa_N ac) (fa_N cn) q (fa_N eu) (fa_N ea) (fa_N eb) → ¬ (gd_XE (fa_N al) q (fa_N eu) (fa_N ea) (fa_N eb) ∨ gd_XS n al sU sG sO) → (¬ ∃ p, ga_Sol (gd_CS (fa_N al) (fa_N ac) (fa_N cb) (fa_N cn) q (fa_N eu) (fa_N ea) (fa_N eb)) p) → ∀ gr po : Nat → Int32, P 5 (sc, oc, nI q, nI n, ca, on, st, ra, xu, xn, xe, xd, al, ap, ac, en, eu, ea, eb, sU, sL, sK, sE, sG, sO, gr, po, ec, cx, ou, tc, ss, av, cs))
    (hk : fb_pend n sK sE sG = 0 → ¬ gd_DB (fa_N al) (fa_N ap) (fa_N ac) (fa_N cn) q (fa_N eu) (fa_N ea) (fa_N eb) → ¬ (gd_XE (fa_N al) q (fa_N eu) (fa_N ea) (fa_N eb) ∨ gd_XS n al sU sG sO) → ∀ gr po : Nat → Int32, ga_IX (gd_CS (fa_N al) (fa_N ac) (fa_N cb) (fa_N cn) q (fa_N eu) (fa_N ea) (fa_N eb)) (gd_SE (fa_N al) (fa_N ac) (fa_N cb) (fa_N cn) (fa_N eu) (fa_N ea) (fa_N eb) q) gr po → (gd_JB gr → P 5 (sc, oc, nI q, nI n, ca, on, st, ra, xu, xn, xe, xd, al, ap, ac, en, eu, ea, eb, sU, sL, sK, sE, sG, sO, gr, po, ec, cx, ou, tc, ss, av, cs)) ∧ (¬ gd_JB gr → gd_BB gr po → P 6 (sc, oc, nI q, nI n, ca, on, st, ra, xu, xn, xe, xd, al, ap, ac, en, eu, ea, eb, sU, sL, sK, sE, sG, sO, gr, po, ec, cx, ou, tc, ss, av, cs)) ∧ (¬ gd_JB gr → ¬ gd_BB gr po → (gd_LD n sU sL ∨ gd_LT n sU sL sK sG sO ∨ gd_LE n sU sL sK sG sO) → P 7 (sc, oc, nI q, nI n, ca, on, st, ra, xu, xn, xe, xd, al, ap, ac, en, eu, ea, eb, sU, sL, sK, sE, sG, sO, gr, po, ec, cx, ou, tc, ss, av, cs)) ∧ (¬ gd_JB gr → ¬ gd_BB gr po → ¬ (gd_LD n sU sL ∨ gd_LT n sU sL sK sG sO ∨ gd_LE n sU sL sK sG sO) → gd_WC n ap sK sE → P 8 (sc, oc, nI q, nI n, ca, on, st, ra, xu, xn, xe, xd, al, ap, ac, en, eu, ea, eb, sU, sL, sK, sE, sG, sO, gr, po, ec, cx, ou, tc, ss, av, cs)) ∧ (¬ gd_JB gr → ¬ gd_BB gr po → ¬ (gd_LD n sU sL ∨ gd_LT n sU sL sK sG sO ∨ gd_LE n sU sL sK sG sO) → ¬ gd_WC n ap sK sE → P 1 (sc, oc, nI q, nI n, ca, on, st, ra, xu, xn, xe, xd, al, ap, ac, en, eu, ea, eb, sU, sL, sK, sE, sG, sO, gr, po, ec, cx, ou, tc, ss, av, cs))) :
    wpX_judgeProgram P (sc, oc, nI q, nI n, ca, on, st, ra, xu, xn, xe, xd, al, ap, ac, en, eu, ea, eb, sU, sL, sK, sE, sG, sO, gr, po, ec, cx, ou, tc, ss, av, cs) := by
  have p5 := vs_pend5 S
  unfold wpX_judgeProgram
  dsimp only
  refine hx_await hn S ?_
  refine pk_le (fb_pend n sK sE sG) 0 (fun z => ?_) (fun z => h2 (by omega))
  have hp : fb_pend n sK sE sG = 0 := by omega
  refine cx_dummy D (fun d => br_f (by decide) (h3 hp d)) (fun d => br_t rfl ?_)
  refine cx_index D hn S (fun x => br_f (by decide) (h4 hp d x)) (fun x => br_t rfl ?_)
  refine cl_layout D (fun ns gr' po' => br_t rfl (h5n hp d x ns gr' po')) (fun gr' po' H => br_f (by decide) ?_)
  obtain ⟨k5, k6, k7, k8, k1⟩ := hk hp d x gr' po' H
  refine cx_joins (fun j => br_f (by decide) (k5 j)) (fun j => br_t rfl ?_)
  refine cx_back (fun b => br_f (by decide) (k6 j b)) (fun b => br_t rfl ?_)
  refine cx_rep hn (fun l => br_f (by decide) (k7 j b (Or.inl l))) (fun l => br_t rfl ?_)
  refine cx_tgt hn S (fun t => br_f (by decide) (k7 j b (Or.inr t))) (fun t => br_t rfl ?_)
  have nl : ¬ (gd_LD n sU sL ∨ gd_LT n sU sL sK sG sO ∨ gd_LE n sU sL sK sG sO) := fun z => z.elim l t
  exact cx_wc hn S D.2.2.1 (fun w => br_f (by decide) (k8 j b nl w)) (fun w => br_t rfl (k1 j b nl w))
theorem ck_y2 {P : Int32 → SY → Prop} (hn : n ≤ 64) (S : fs_S n sU sL sK sE sG sO f) (hp : fb_pend n sK sE sG ≠ 0) (h : P 2 (sc, oc, nI q, nI n, ca, nc, on, yp, yu, ye, st, yl, yr, al, ap, cb, cn, ac, eu, ea, eb, sU, sL, sK, sE, sG, sO, kx, ky, kd, pl, rl, cm, hv, ba, ad, ex, cy, tc, ss, av, cs, bi, ou)) : wpY_check P (sc, oc, nI q, nI n, ca, nc, on, yp, yu, ye, st, yl, yr, al, ap, cb, cn, ac, eu, ea, eb, sU, sL, sK, sE, sG, sO, kx, ky, kd, pl, rl, cm, hv, ba, ad, ex, cy, tc, ss, av, cs, bi, ou) := by
  have p5 := vs_pend5 S
  unfold wpY_check
  dsimp only
  refine hy_pending hn S ?_
  exact pk_le (fb_pend n sK sE sG) 0 (fun z => absurd (by omega) hp) (fun z => h)
theorem ck_y3 {P : Int32 → SY → Prop} (hn : n ≤ 64) (S : fs_S n sU sL sK sE sG sO f) (D : fs_D al ap ac en cb cn eu ea eb q) (hp : fb_pend n sK sE sG = 0) (d : gd_DB (fa_N al) (fa_N ap) (fa_N ac) (fa_N cn) q (fa_N eu) (fa_N ea) (fa_N eb)) (h : P 3 (sc, oc, nI q, nI n, ca, nc, on, yp, yu, ye, st, yl, yr, al, ap, cb, cn, ac, eu, ea, eb, sU, sL, sK, sE, sG, sO, kx, ky, kd, pl, rl, cm, hv, ba, ad, ex, cy, tc, ss, av, cs, bi, ou)) : wpY_check P (sc, oc, nI q, nI n, ca, nc, on, yp, yu, ye, st, yl, yr, al, ap, cb, cn, ac, eu, ea, eb, sU, sL, sK, sE, sG, sO, kx, ky, kd, pl, rl, cm, hv, ba, ad, ex, cy, tc, ss, av, cs, bi, ou) := by
  unfold wpY_check
  dsimp only
  refine hy_pending hn S ?_
  rw [hp]
  refine br_t (by decide) ?_
  exact cy_dummy D (fun _ => br_f (by decide) h) (fun z => absurd d z)
theorem ck_al1 (D : fs_D al ap ac en cb cn eu ea eb q) (d : ¬ gd_DB (fa_N al) (fa_N ap) (fa_N ac) (fa_N cn) q (fa_N eu) (fa_N ea) (fa_N eb)) : ∀ k, k < 32 → ¬ gd_St (fa_N ap) k → al k = 1 := by
  intro k hk s
  obtain ⟨l1, l2, l3⟩ := cn_A D hk
  have e : fa_N al k = 1 := by
    by_cases z : 1 < fa_N al k
    · unfold gd_St at s
      exact absurd (Or.inl ⟨k, hk, Classical.byContradiction s, z⟩) d
    · omega
  rw [l1, e]
  rfl
theorem ck_y4 {P : Int32 → SY → Prop} (hn : n ≤ 64) (S : fs_S n sU sL sK sE sG sO f) (D : fs_D al ap ac en cb cn eu ea eb q) (hp : fb_pend n sK sE sG = 0) (d : ¬ gd_DB (fa_N al) (fa_N ap) (fa_N ac) (fa_N cn) q (fa_N eu) (fa_N ea) (fa_N eb)) (x : (gd_XE (fa_N al) q (fa_N eu) (fa_N ea) (fa_N eb) ∨ gd_XS n al sU sG sO)) (h : P 4 (sc, oc, nI q, nI n, ca, nc, on, yp, yu, ye, st, yl, yr, al, ap, cb, cn, ac, eu, ea, eb, sU, sL, sK, sE, sG, sO, kx, ky, kd, pl, rl, cm, hv, ba, ad, ex, cy, tc, ss, av, cs, bi, ou)) : wpY_check P (sc, oc, nI q, nI n, ca, nc, on, yp, yu, ye, st, yl, yr, al, ap, cb, cn, ac, eu, ea, eb, sU, sL, sK, sE, sG, sO, kx, ky, kd, pl, rl, cm, hv, ba, ad, ex, cy, tc, ss, av, cs, bi, ou) := by
  unfold wpY_check
  dsimp only
  refine hy_pending hn S ?_
  rw [hp]
  refine br_t (by decide) ?_
  refine cy_dummy D (fun z => absurd z d) (fun _ => br_t rfl ?_)
  exact cy_index D (ck_al1 D d) hn S (fun _ => br_f (by decide) h) (fun z => absurd x z)
theorem ck_y5 {P : Int32 → SY → Prop} (hn : n ≤ 64) (S : fs_S n sU sL sK sE sG sO f) (D : fs_D al ap ac en cb cn eu ea eb q) (hp : fb_pend n sK sE sG = 0) (d : ¬ gd_DB (fa_N al) (fa_N ap) (fa_N ac) (fa_N cn) q (fa_N eu) (fa_N ea) (fa_N eb)) (x : ¬ (gd_XE (fa_N al) q (fa_N eu) (fa_N ea) (fa_N eb) ∨ gd_XS n al sU sG sO)) (ns : ¬ ∃ p, ga_Sol (gd_CS (fa_N al) (fa_N ac) (fa_N cb) (fa_N cn) q (fa_N eu) (fa_N ea) (fa_N eb)) p) (h : ∀ (nc : Int32) (kx ky kd pl cm rl : Nat → Int32), P 5 (sc, oc, nI q, nI n, ca, nc, on, yp, yu, ye, st, yl, yr, al, ap, cb, cn, ac, eu, ea, eb, sU, sL, sK, sE, sG, sO, kx, ky, kd, pl, rl, cm, hv, ba, ad, ex, cy, tc, ss, av, cs, bi, ou)) : wpY_check P (sc, oc, nI q, nI n, ca, nc, on, yp, yu, ye, st, yl, yr, al, ap, cb, cn, ac, eu, ea, eb, sU, sL, sK, sE, sG, sO, kx, ky, kd, pl, rl, cm, hv, ba, ad, ex, cy, tc, ss, av, cs, bi, ou) := by
  unfold wpY_check
  dsimp only
  refine hy_pending hn S ?_
  rw [hp]
  refine br_t (by decide) ?_
  refine cy_dummy D (fun z => absurd z d) (fun _ => br_t rfl ?_)
  refine cy_index D (ck_al1 D d) hn S (fun z => absurd z x) (fun _ => br_t rfl ?_)
  refine dl_layout D (fun _ nc kx ky kd pl cm rl => br_t rfl (h nc kx ky kd pl cm rl)) (fun m kx ky kd pl cm rl eT hm H hpl => absurd ?_ ns)
  refine ⟨rl, fun a b e hc => ?_⟩
  rw [← eT] at hc
  obtain ⟨c, hc, rfl, rfl, rfl⟩ := hc
  exact (H.2.2.1 c hc (hpl _ (hm c hc).1)).2
theorem ck_y {P : Int32 → SY → Prop} (hn : n ≤ 64) (S : fs_S n sU sL sK sE sG sO f) (D : fs_D al ap ac en cb cn eu ea eb q) (hp : fb_pend n sK sE sG = 0) (d : ¬ gd_DB (fa_N al) (fa_N ap) (fa_N ac) (fa_N cn) q (fa_N eu) (fa_N ea) (fa_N eb)) (x : ¬ (gd_XE (fa_N al) q (fa_N eu) (fa_N ea) (fa_N eb) ∨ gd_XS n al sU sG sO)) (HX : ga_IX (gd_CS (fa_N al) (fa_N ac) (fa_N cb) (fa_N cn) q (fa_N eu) (fa_N ea) (fa_N eb)) (gd_SE (fa_N al) (fa_N ac) (fa_N cb) (fa_N cn) (fa_N eu) (fa_N ea) (fa_N eb) q) gr po)
    (h5 : gd_JB gr → ∀ (nc : Int32) (kx ky kd pl cm rl : Nat → Int32), P 5 (sc, oc, nI q, nI n, ca, nc, on, yp, yu, ye, st, yl, yr, al, ap, cb, cn, ac, eu, ea, eb, sU, sL, sK, sE, sG, sO, kx, ky, kd, pl, rl, cm, hv, ba, ad, ex, cy, tc, ss, av, cs, bi, ou)) (h6 : ¬ gd_JB gr → gd_BB gr po → ∀ (nc : Int32) (kx ky kd pl cm rl : Nat → Int32), P 6 (sc, oc, nI q, nI n, ca, nc, on, yp, yu, ye, st, yl, yr, al, ap, cb, cn, ac, eu, ea, eb, sU, sL, sK, sE, sG, sO, kx, ky, kd, pl, rl, cm, hv, ba, ad, ex, cy, tc, ss, av, cs, bi, ou)) (h7 : ¬ gd_JB gr → ¬ gd_BB gr po → (gd_LD n sU sL ∨ gd_LT n sU sL sK sG sO ∨ gd_LE n sU sL sK sG sO) → ∀ (nc : Int32) (kx ky kd pl cm rl : Nat → Int32), P 7 (sc, oc, nI q, nI n, ca, nc, on, yp, yu, ye, st, yl, yr, al, ap, cb, cn, ac, eu, ea, eb, sU, sL, sK, sE, sG, sO, kx, ky, kd, pl, rl, cm, hv, ba, ad, ex, cy, tc, ss, av, cs, bi, ou))
    (h8 : ¬ gd_JB gr → ¬ gd_BB gr po → ¬ (gd_LD n sU sL ∨ gd_LT n sU sL sK sG sO ∨ gd_LE n sU sL sK sG sO) → gd_WC n ap sK sE → ∀ (nc : Int32) (kx ky kd pl cm rl : Nat → Int32), P 8 (sc, oc, nI q, nI n, ca, nc, on, yp, yu, ye, st, yl, yr, al, ap, cb, cn, ac, eu, ea, eb, sU, sL, sK, sE, sG, sO, kx, ky, kd, pl, rl, cm, hv, ba, ad, ex, cy, tc, ss, av, cs, bi, ou))
    (h1 : ¬ gd_JB gr → ¬ gd_BB gr po → ¬ (gd_LD n sU sL ∨ gd_LT n sU sL sK sG sO ∨ gd_LE n sU sL sK sG sO) → ¬ gd_WC n ap sK sE → ∀ (nc : Int32) (kx ky kd pl cm rl hv ba ad ex : Nat → Int32) (N : Nat), gb_Lay (gd_CS (fa_N al) (fa_N ac) (fa_N cb) (fa_N cn) q (fa_N eu) (fa_N ea) (fa_N eb)) gr po cm rl → gb_AL (fa_N al) (gd_St (fa_N ap)) cm rl 32 N hv ba ad → (∀ b, b < 4 → ex b = fs_ext gr po al b 32) → P 1 (sc, oc, nI q, nI n, ca, nc, on, yp, yu, ye, st, yl, yr, al, ap, cb, cn, ac, eu, ea, eb, sU, sL, sK, sE, sG, sO, kx, ky, kd, pl, rl, cm, hv, ba, ad, ex, cy, tc, ss, av, cs, bi, ou)) : wpY_check P (sc, oc, nI q, nI n, ca, nc, on, yp, yu, ye, st, yl, yr, al, ap, cb, cn, ac, eu, ea, eb, sU, sL, sK, sE, sG, sO, kx, ky, kd, pl, rl, cm, hv, ba, ad, ex, cy, tc, ss, av, cs, bi, ou) := by
  have W := fs_wd D
  have Str := gd_str W d (fun z => x (Or.inl z))
  have sol := gb_sol HX (fun a b e he => gd_cse he)
  have S' : fs_S n sU sL sK sE sG sO True := fun s hs => by
    obtain ⟨u, l, k, e, g, a1, a2, a3, a4, a5, a6, a7, a8, a9, a10, a11, a12, a13⟩ := vs_full S hp s hs
    exact ⟨u, l, k, e, g, a1, a2, a3, a4, a5, a6, a7, a8, a9, a10, a11, fun _ => a12 trivial, a13⟩
  unfold wpY_check
  dsimp only
  refine hy_pending hn S ?_
  rw [hp]
  refine br_t (by decide) ?_
  refine cy_dummy D (fun z => absurd z d) (fun _ => br_t rfl ?_)
  refine cy_index D (ck_al1 D d) hn S (fun z => absurd z x) (fun _ => br_t rfl ?_)
  refine dl_layout D (fun ns => absurd sol ns) (fun m kx ky kd pl cm rl eT hm H hpl => ?_)
  have HL : gb_Lay (gd_CS (fa_N al) (fa_N ac) (fa_N cb) (fa_N cn) q (fa_N eu) (fa_N ea) (fa_N eb)) gr po cm rl := by
    have HX' := HX
    rw [← eT] at HX'
    have t := gb_tie HX' (fun a b e he => gd_cse (by rw [eT] at he; exact he)) H hpl hm
    rw [eT] at t
    exact t
  have eJ : gd_JY cm ↔ gd_JB gr := by
    constructor
    · rintro ⟨b, c, b1, bc, c2, e⟩
      have := (HL.1 c b c2 (by omega)).mpr e.symm
      exact ⟨c - 32, b - 32, by omega, by omega, by rw [show 32 + (c - 32) = c by omega, show 32 + (b - 32) = b by omega]; exact this⟩
    · rintro ⟨b, c, cb', b4, e⟩
      exact ⟨32 + c, 32 + b, by omega, by omega, by omega, ((HL.1 _ _ (by omega) (by omega)).mp e).symm⟩
  have hd : ∀ k b, k < 32 → b < 4 → ¬ gd_St (fa_N ap) k → ¬ gr k = gr (32 + b) := by
    intro k b hk hb s e
    have := gb_alone HL (k := k) (y := 32 + b) (by omega) (by omega) (fun z v => gd_alone Str hk s z v) ((HL.1 _ _ (by omega) (by omega)).mp e)
    omega
  have eB : gd_BY ap cm rl ↔ gd_BB gr po := by
    constructor
    · rintro ⟨k, b, hk, s, b1, b2, e, l⟩
      have g := (HL.1 k b (by omega) b2).mpr e
      exact ⟨b - 32, k, by omega, hk, by rw [show 32 + (b - 32) = b by omega]; exact g, by rw [show 32 + (b - 32) = b by omega]; exact (gb_lt HL (by omega) b2 g).mpr l⟩
    · rintro ⟨b, k, hb, hk, g, l⟩
      refine ⟨k, 32 + b, hk, Classical.byContradiction fun s => hd k b hk hb s g, by omega, by omega, (HL.1 _ _ (by omega) (by omega)).mp g, (gb_lt HL (by omega) (by omega) g).mp l⟩
  refine ⟨fun nj => br_f (by decide) ?_, fun j => br_t rfl (h5 (eJ.mp j) (nI m) kx ky kd pl cm rl)⟩
  rw [eJ] at nj
  refine cy_back D.2.2.1 (fun b => br_f (by decide) (h6 nj (eB.mp b) (nI m) kx ky kd pl cm rl)) (fun b => br_t rfl ?_)
  rw [eB] at b
  refine cy_label hn S' (fun l => br_f (by decide) (h7 nj b l (nI m) kx ky kd pl cm rl)) (fun l => br_t rfl ?_)
  refine cy_wc hn S D.2.2.1 (fun w => br_f (by decide) (h8 nj b l w (nI m) kx ky kd pl cm rl)) (fun w => br_t rfl ?_)
  exact al_main D HL hd (fun N hv ba ad ex HA he => h1 nj b l w (nI m) kx ky kd pl cm rl hv ba ad ex N HL HA he)
theorem ck_S {g : Prop} (S : fs_S n sU sL sK sE sG sO f) (h : g → f) : fs_S n sU sL sK sE sG sO g := fun s hs => by
  obtain ⟨u, l, k, e, g, a1, a2, a3, a4, a5, a6, a7, a8, a9, a10, a11, a12, a13⟩ := S s hs
  exact ⟨u, l, k, e, g, a1, a2, a3, a4, a5, a6, a7, a8, a9, a10, a11, fun z => a12 (z.imp id h), a13⟩
/-- what C_OK says of the statements -/
theorem ck_C (S : fs_S n sU sL sK sE sG sO f) (D : fs_D al ap ac en cb cn eu ea eb q) (d : ¬ gd_DB (fa_N al) (fa_N ap) (fa_N ac) (fa_N cn) q (fa_N eu) (fa_N ea) (fa_N eb)) (x : ¬ (gd_XE (fa_N al) q (fa_N eu) (fa_N ea) (fa_N eb) ∨ gd_XS n al sU sG sO)) (l : ¬ (gd_LD n sU sL ∨ gd_LT n sU sL sK sG sO ∨ gd_LE n sU sL sK sG sO)) (w : ¬ gd_WC n ap sK sE) : fs_C n al ap sU sL sK sE sG sO := by
  refine ⟨ck_al1 D d, fun s p c hs hp e hc => ?_, fun s p hs hp hk e => l (Or.inr (Or.inl ⟨s, p, hs, hp, hk, e⟩)), fun s hs hk => Classical.byContradiction fun z => w ⟨s, hs, hk, z⟩⟩
  exact Nat.le_of_not_lt fun z => x (Or.inr ⟨s, p, c, hs, hp, e, hc, z⟩)
end HCO
end
section
/-! the owed statement of compile -/
theorem i_vc_compile {k : Nat} {u : SX} {v : SY} (I : i_Rel k u v) (hk : k + 5 ≤ 2562) : wpX_compile (fun r u' => wpY_compile (fun r' v' => r' = r ∧ i_Rel (k + 5) u' v') v) u := by
  refine i_el (Q := fun u v => wpX_compile (fun r u' => wpY_compile (fun r' v' => r' = r ∧ i_Rel (k + 5) u' v') v) u) I ?_
  intro sc oc ne ns ca on st ra xu xn xe xd nc yp yu ye yl yr al ap ac en eu ea eb sU sL sK sE sG sO gr po ec cx ou tc ss av cs cb cn kx ky kd pl rl cm hv ba ad ex cy bi hsc hoc hD hS hca hyl hra hC
  by_cases c0 : ca = 0
  · subst c0
    obtain ⟨n, hn, rfl, S, _⟩ := hS
    obtain ⟨q, rfl, D⟩ := hD
    have hr0 : ra = 0 ∧ yr = 0 := by
      rcases hra with h | ⟨_, _, h⟩
      · exact h
      · exact absurd h (by decide)
    have fin : ∀ (r : Int32), r ≠ 1 → fa_R 9 r → ∀ (gr po : Nat → Int32) (nc : Int32) (kx ky kd pl cm rl : Nat → Int32), i_Rel (k + 5) (sc, oc, nI q, nI n, r, on, st, ra, xu, xn, xe, xd, al, ap, ac, en, eu, ea, eb, sU, sL, sK, sE, sG, sO, gr, po, ec, cx, ou, tc, ss, av, cs) (sc, oc, nI q, nI n, r, nc, on, yp, yu, ye, st, yl, yr, al, ap, cb, cn, ac, eu, ea, eb, sU, sL, sK, sE, sG, sO, kx, ky, kd, pl, rl, cm, hv, ba, ad, ex, cy, tc, ss, av, cs, bi, ou) := fun r n1 hr gr po nc kx ky kd pl cm rl =>
      i_mk hsc hoc ⟨q, rfl, D⟩ ⟨n, hn, rfl, ck_S S (fun z => absurd z n1), fun z => absurd z n1⟩ hr hyl (Or.inl hr0) (fun z => absurd z n1)
    refine br_t rfl ?_
    refine ck_x hn S D (fun hp => br_f (by decide) ?_) (fun hp d => br_f (by decide) ?_) (fun hp d x => br_f (by decide) ?_) (fun hp d x ns gr' po' => br_f (by decide) ?_) (fun hp d x gr' po' H => ⟨fun j => br_f (by decide) ?_, fun j b => br_f (by decide) ?_, fun j b l => br_f (by decide) ?_, fun j b l w => br_f (by decide) ?_, fun j b l w => br_t rfl ?_⟩)
    · exact br_t rfl (ck_y2 hn S hp ⟨rfl, fin 2 (by decide) ⟨2, by decide, rfl⟩ gr po nc kx ky kd pl cm rl⟩)
    · exact br_t rfl (ck_y3 hn S D hp d ⟨rfl, fin 3 (by decide) ⟨3, by decide, rfl⟩ gr po nc kx ky kd pl cm rl⟩)
    · exact br_t rfl (ck_y4 hn S D hp d x ⟨rfl, fin 4 (by decide) ⟨4, by decide, rfl⟩ gr po nc kx ky kd pl cm rl⟩)
    · exact br_t rfl (ck_y5 hn S D hp d x ns (fun nc kx ky kd pl cm rl => ⟨rfl, fin 5 (by decide) ⟨5, by decide, rfl⟩ gr' po' nc kx ky kd pl cm rl⟩))
    · exact br_t rfl (ck_y hn S D hp d x H (fun _ nc kx ky kd pl cm rl => ⟨rfl, fin 5 (by decide) ⟨5, by decide, rfl⟩ gr' po' nc kx ky kd pl cm rl⟩) (fun z => absurd j z) (fun z => absurd j z) (fun z => absurd j z) (fun z => absurd j z))
    · exact br_t rfl (ck_y hn S D hp d x H (fun z => absurd z j) (fun _ _ nc kx ky kd pl cm rl => ⟨rfl, fin 6 (by decide) ⟨6, by decide, rfl⟩ gr' po' nc kx ky kd pl cm rl⟩) (fun _ z => absurd b z) (fun _ z => absurd b z) (fun _ z => absurd b z))
    · exact br_t rfl (ck_y hn S D hp d x H (fun z => absurd z j) (fun _ z => absurd z b) (fun _ _ _ nc kx ky kd pl cm rl => ⟨rfl, fin 7 (by decide) ⟨7, by decide, rfl⟩ gr' po' nc kx ky kd pl cm rl⟩) (fun _ _ z => absurd l z) (fun _ _ z => absurd l z))
    · exact br_t rfl (ck_y hn S D hp d x H (fun z => absurd z j) (fun _ z => absurd z b) (fun _ _ z => absurd z l) (fun _ _ _ _ nc kx ky kd pl cm rl => ⟨rfl, fin 8 (by decide) ⟨8, by decide, rfl⟩ gr' po' nc kx ky kd pl cm rl⟩) (fun _ _ _ z => absurd w z))
    · refine ca_cells D.1 (fun ec' hec => ?_)
      refine br_t rfl (ck_y hn S D hp d x H (fun z => absurd z j) (fun _ z => absurd z b) (fun _ _ z => absurd z l) (fun _ _ _ z => absurd z w) (fun _ _ _ _ nc kx ky kd pl cm rl hv ba ad ex N HL HA he => ⟨rfl, ?_⟩))
      have hL : ∀ k, k < 32 → 1 ≤ fa_N al k ∧ fa_N al k ≤ 16 := fun k hk => (cn_A D hk).2
      have Str := gd_str (fs_wd D) d (fun z => x (Or.inl z))
      have gf := gc_fin HA HL Str hL
      have mk := fm_make HL hL hec gf.1 gf.2
      exact i_mk hsc hoc ⟨q, rfl, D⟩ ⟨n, hn, rfl, fun s hs => by
        obtain ⟨u, l, k, e, g, a1, a2, a3, a4, a5, a6, a7, a8, a9, a10, a11, a12, a13⟩ := vs_full S hp s hs
        exact ⟨u, l, k, e, g, a1, a2, a3, a4, a5, a6, a7, a8, a9, a10, a11, fun _ => a12 trivial, a13⟩, fun _ => ck_C S D d x l w⟩ ⟨1, by decide, rfl⟩ hyl (Or.inl hr0) (fun _ => ⟨he, _, mk.1, mk.2, fun z => absurd hr0.1 z⟩)
  · exact br_f c0 (br_f c0 ⟨rfl, i_mk hsc hoc hD hS hca hyl hra hC⟩)
end
section
section HRD
/-! value, aliased: a stored element, on each side -/
variable {sc oc ne ns ca on st ra xu xn xe xd nc yp yu ye yl yr : Int32} {al ap ac en eu ea eb sU sL sK sE sG sO gr po ec cx ou tc ss av cs cb cn kx ky kd pl rl cm hv ba ad ex cy bi : Nat → Int32}
variable {n : Nat} {post : Int32 → Prop} {p0 p1 : Int32} {u c : Nat}
def fa_V (al ap : Nat → Int32) (x y : Int32) : Prop := ∃ u c, u < 4 ∧ x = nI u ∧ fb_FX c ∧ y = nI c ∧ ¬ fb_nm c < fa_N ap u ∧ fb_ix c ≤ fa_N al (u * 8 + fb_nm c)
theorem rd_x1 (D : fs_D al ap ac en cb cn eu ea eb n) (hu : u < 4) (hc : fb_FX c) (hs : ¬ fb_nm c < fa_N ap u) (hi : fb_ix c ≤ fa_N al (u * 8 + fb_nm c)) (h : post (ec ((u * 8 + fb_nm c) * 16 + fb_ix c - 1))) : wpX_storedCell post (sc, oc, ne, ns, ca, on, st, ra, xu, xn, xe, xd, al, ap, ac, en, eu, ea, eb, sU, sL, sK, sE, sG, sO, gr, po, ec, cx, ou, tc, ss, av, cs) (nI u) (nI c) := by
  have m8 := fb_nm8 (Or.inl hc)
  have c2 := fb_FXlt hc
  have i1 := fb_ix1 c
  obtain ⟨l1, l2, l3⟩ := cn_A D (k := u * 8 + fb_nm c) (by omega)
  unfold wpX_storedCell
  dsimp only
  refine hx_isUnit (fun _ => br_f (by decide) ?_) (fun z => absurd ⟨u, hu, rfl⟩ z)
  refine hx_isFixed (fun _ => br_f (by decide) ?_) (fun z => absurd ⟨c, hc, rfl⟩ z)
  refine hx_slotOf (by omega) ?_
  refine hx_elementOf (by omega) ?_
  refine hx_isDummy (by omega) (by rw [show (u * 8 + fb_nm c) / 8 = u by omega]; exact D.2.2.1 u hu) (fun _ => br_t rfl ⟨vp_in_nI (by omega) (by decide), ?_⟩) (fun s => absurd ((cn_St m8).mpr hs) s)
  rw [nI_clamp (n := u * 8 + fb_nm c) (by omega), l1]
  refine br_t (nI_le hi (by omega)) ?_
  rw [ha_el i1, nI_clamp (n := (u * 8 + fb_nm c) * 16 + fb_ix c - 1) (by omega)]
  exact ⟨vp_in_nI (by omega) (by decide), h⟩
theorem rd_x0 (D : fs_D al ap ac en cb cn eu ea eb n) (nv : ¬ fa_V al ap p0 p1) (h : post (-1)) : wpX_storedCell post (sc, oc, ne, ns, ca, on, st, ra, xu, xn, xe, xd, al, ap, ac, en, eu, ea, eb, sU, sL, sK, sE, sG, sO, gr, po, ec, cx, ou, tc, ss, av, cs) p0 p1 := by
  unfold wpX_storedCell
  dsimp only
  refine hx_isUnit (fun hu => br_f (by decide) ?_) (fun _ => br_t rfl h)
  refine hx_isFixed (fun hf => br_f (by decide) ?_) (fun _ => br_t rfl h)
  obtain ⟨u, hu, rfl⟩ := hu
  obtain ⟨c, hc, rfl⟩ := hf
  have m8 := fb_nm8 (Or.inl hc)
  have c2 := fb_FXlt hc
  have i16 := fb_ix16 hc
  obtain ⟨l1, l2, l3⟩ := cn_A D (k := u * 8 + fb_nm c) (by omega)
  refine hx_slotOf (by omega) ?_
  refine hx_elementOf (by omega) ?_
  refine hx_isDummy (by omega) (by rw [show (u * 8 + fb_nm c) / 8 = u by omega]; exact D.2.2.1 u hu) (fun s => br_t rfl ⟨vp_in_nI (by omega) (by decide), ?_⟩) (fun _ => br_f (by decide) h)
  rw [nI_clamp (n := u * 8 + fb_nm c) (by omega), l1]
  exact pk_le (fb_ix c) (fa_N al (u * 8 + fb_nm c)) (fun z => absurd ⟨u, c, hu, rfl, hc, rfl, (cn_St m8).mp s, z⟩ nv) (fun _ => h)
theorem rd_y1 {d : Nat} (D : fs_D al ap ac en cb cn eu ea eb n) (hr : ¬ yr = 0) (hu : u < 4) (hc : fb_FX c) (hs : ¬ fb_nm c < fa_N ap u) (hi : fb_ix c ≤ fa_N al (u * 8 + fb_nm c)) (ed : ad (u * 8 + fb_nm c) = nI d) (hb : d + fb_ix c - 1 < 512) (h : post (cy (d + fb_ix c - 1))) : wpY_value post (sc, oc, ne, ns, ca, nc, on, yp, yu, ye, st, yl, yr, al, ap, cb, cn, ac, eu, ea, eb, sU, sL, sK, sE, sG, sO, kx, ky, kd, pl, rl, cm, hv, ba, ad, ex, cy, tc, ss, av, cs, bi, ou) (nI u) (nI c) := by
  have m8 := fb_nm8 (Or.inl hc)
  have c2 := fb_FXlt hc
  have i1 := fb_ix1 c
  have i16 := fb_ix16 hc
  obtain ⟨l1, l2, l3⟩ := cn_A D (k := u * 8 + fb_nm c) (by omega)
  obtain ⟨p1, p2⟩ := cn_P D hu
  refine br_f hr (br_f (nI_pos (by omega)) (br_f (nI_nlt (a := 3) (by omega) (by decide)) ?_))
  refine hy_isFixed (fun _ => br_f (by decide) ?_) (fun z => absurd ⟨c, hc, rfl⟩ z)
  refine hy_nameOf (by omega) ?_
  refine hy_idxOf (by omega) ⟨vp_in_nI hu (by decide), ?_⟩
  rw [nI_clamp (n := u) (by omega), p1]
  refine br_f (nI_nlt (by omega) (by omega)) ?_
  have vv : vp_in (nI (u * 8 + fb_nm c)) 32 := vp_in_nI (by omega) (by decide)
  rw [ha_us, nI_clamp (n := u * 8 + fb_nm c) (by omega), l1, ed, nI_add, show nI (d + fb_ix c) - 1 = nI (d + fb_ix c - 1) from pk_sub (b := 1) (by omega)]
  exact ⟨vv, br_t (nI_le hi (by omega)) ⟨vv, hc_get hb h⟩⟩
theorem rd_y0 (D : fs_D al ap ac en cb cn eu ea eb n) (nv : ¬ fa_V al ap p0 p1) (h : post 0) : wpY_value post (sc, oc, ne, ns, ca, nc, on, yp, yu, ye, st, yl, yr, al, ap, cb, cn, ac, eu, ea, eb, sU, sL, sK, sE, sG, sO, kx, ky, kd, pl, rl, cm, hv, ba, ad, ex, cy, tc, ss, av, cs, bi, ou) p0 p1 := by
  refine br_c (fun _ => h) (fun _ => br_c (fun _ => h) (fun a => br_c (fun _ => h) (fun a' => ?_)))
  refine hy_isFixed (fun hf => br_f (by decide) ?_) (fun _ => br_t rfl h)
  obtain ⟨u, hu, rfl⟩ := ha_mid' (m := 3) (by decide) a a'
  obtain ⟨c, hc, rfl⟩ := hf
  have m8 := fb_nm8 (Or.inl hc)
  have c2 := fb_FXlt hc
  have i16 := fb_ix16 hc
  obtain ⟨l1, l2, l3⟩ := cn_A D (k := u * 8 + fb_nm c) (by omega)
  obtain ⟨q1, q2⟩ := cn_P D (u := u) (by omega)
  refine hy_nameOf (by omega) ?_
  refine hy_idxOf (by omega) ⟨vp_in_nI (by omega) (by decide), ?_⟩
  rw [nI_clamp (n := u) (by omega), q1]
  refine pk_lt (fb_nm c) (fa_N ap u) (fun _ => h) (fun z => ?_)
  rw [ha_us, nI_clamp (n := u * 8 + fb_nm c) (by omega), l1]
  exact ⟨vp_in_nI (by omega) (by decide), pk_le (fb_ix c) (fa_N al (u * 8 + fb_nm c)) (fun w => absurd ⟨u, c, by omega, rfl, hc, rfl, by omega, w⟩ nv) (fun _ => h)⟩
theorem rd_a0 {q0 q1 : Int32} (D : fs_D al ap ac en cb cn eu ea eb n) (nv : ¬ (fa_V al ap p0 p1 ∧ fa_V al ap q0 q1)) (h : post 0) : wpY_aliased post (sc, oc, ne, ns, ca, nc, on, yp, yu, ye, st, yl, yr, al, ap, cb, cn, ac, eu, ea, eb, sU, sL, sK, sE, sG, sO, kx, ky, kd, pl, rl, cm, hv, ba, ad, ex, cy, tc, ss, av, cs, bi, ou) p0 p1 q0 q1 := by
  refine br_c (fun _ => br_c (fun _ => h) (fun a => br_c (fun _ => h) (fun a' => br_c (fun _ => h) (fun b => br_c (fun b' => ?_) (fun _ => h))))) (fun _ => h)
  refine hy_isFixed (fun hf => br_f (by decide) ?_) (fun _ => br_t rfl h)
  refine hy_isFixed (fun hg => br_f (by decide) ?_) (fun _ => br_t rfl h)
  obtain ⟨u, hu, rfl⟩ := ha_mid' (m := 3) (by decide) a a'
  obtain ⟨w, hw, rfl⟩ := ha_le (m := 3) (by decide) b b'
  obtain ⟨c, hc, rfl⟩ := hf
  obtain ⟨e, he, rfl⟩ := hg
  have m8 := fb_nm8 (Or.inl hc)
  have c2 := fb_FXlt hc
  have i16 := fb_ix16 hc
  have m8' := fb_nm8 (Or.inl he)
  have c2' := fb_FXlt he
  have i16' := fb_ix16 he
  obtain ⟨l1, l2, l3⟩ := cn_A D (k := u * 8 + fb_nm c) (by omega)
  obtain ⟨q1, q2⟩ := cn_P D (u := u) (by omega)
  obtain ⟨l1', l2', l3'⟩ := cn_A D (k := w * 8 + fb_nm e) (by omega)
  obtain ⟨q1', q2'⟩ := cn_P D (u := w) (by omega)
  refine hy_nameOf (by omega) ?_
  refine hy_nameOf (by omega) ?_
  refine hy_idxOf (by omega) ?_
  refine hy_idxOf (by omega) ⟨vp_in_nI (by omega) (by decide), ?_⟩
  rw [nI_clamp (n := u) (by omega), q1]
  refine pk_lt (fb_nm c) (fa_N ap u) (fun _ => h) (fun z => ⟨vp_in_nI (by omega) (by decide), ?_⟩)
  rw [nI_clamp (n := w) (by omega), q1']
  refine pk_le (fa_N ap w) (fb_nm e) (fun z' => ?_) (fun _ => h)
  rw [ha_us (u := u), ha_us (u := w), nI_clamp (n := u * 8 + fb_nm c) (by omega), nI_clamp (n := w * 8 + fb_nm e) (by omega), l1, l1']
  refine ⟨vp_in_nI (by omega) (by decide), pk_lt (fa_N al (u * 8 + fb_nm c)) (fb_ix c) (fun _ => h) (fun y => ⟨vp_in_nI (by omega) (by decide), pk_le (fb_ix e) (fa_N al (w * 8 + fb_nm e)) (fun y' => absurd ⟨⟨u, c, by omega, rfl, hc, rfl, by omega, y⟩, ⟨w, e, by omega, rfl, he, rfl, by omega, y'⟩⟩ nv) (fun _ => h)⟩)⟩
theorem rd_a1 {w e d d' : Nat} (D : fs_D al ap ac en cb cn eu ea eb n) (hu : u < 4) (hc : fb_FX c) (hs : ¬ fb_nm c < fa_N ap u) (hi : fb_ix c ≤ fa_N al (u * 8 + fb_nm c)) (hw : w < 4) (he : fb_FX e) (hs' : ¬ fb_nm e < fa_N ap w) (hi' : fb_ix e ≤ fa_N al (w * 8 + fb_nm e))
    (ed : ad (u * 8 + fb_nm c) = nI d) (ed' : ad (w * 8 + fb_nm e) = nI d') (hd : d < 512) (hd' : d' < 512) (h1 : d + fb_ix c = d' + fb_ix e → post 1) (h0 : d + fb_ix c ≠ d' + fb_ix e → post 0) : wpY_aliased post (sc, oc, ne, ns, 1, nc, on, yp, yu, ye, st, yl, yr, al, ap, cb, cn, ac, eu, ea, eb, sU, sL, sK, sE, sG, sO, kx, ky, kd, pl, rl, cm, hv, ba, ad, ex, cy, tc, ss, av, cs, bi, ou) (nI u) (nI c) (nI w) (nI e) := by
  have m8 := fb_nm8 (Or.inl hc)
  have c2 := fb_FXlt hc
  have i16 := fb_ix16 hc
  have m8' := fb_nm8 (Or.inl he)
  have c2' := fb_FXlt he
  have i16' := fb_ix16 he
  obtain ⟨l1, l2, l3⟩ := cn_A D (k := u * 8 + fb_nm c) (by omega)
  obtain ⟨q1, q2⟩ := cn_P D (u := u) (by omega)
  obtain ⟨l1', l2', l3'⟩ := cn_A D (k := w * 8 + fb_nm e) (by omega)
  obtain ⟨q1', q2'⟩ := cn_P D (u := w) (by omega)
  refine br_t rfl (br_f (nI_pos (by omega)) (br_f (nI_nlt (a := 3) (by omega) (by decide)) (br_f (nI_pos (by omega)) (br_t (nI_le (b := 3) (by omega) (by decide)) ?_))))
  refine hy_isFixed (fun _ => br_f (by decide) ?_) (fun z => absurd ⟨c, hc, rfl⟩ z)
  refine hy_isFixed (fun _ => br_f (by decide) ?_) (fun z => absurd ⟨e, he, rfl⟩ z)
  refine hy_nameOf (by omega) ?_
  refine hy_nameOf (by omega) ?_
  refine hy_idxOf (by omega) ?_
  refine hy_idxOf (by omega) ⟨vp_in_nI (by omega) (by decide), ?_⟩
  rw [nI_clamp (n := u) (by omega), q1]
  refine br_f (nI_nlt (by omega) (by omega)) ⟨vp_in_nI (by omega) (by decide), ?_⟩
  rw [nI_clamp (n := w) (by omega), q1']
  refine br_t (nI_le (by omega) (by omega)) ?_
  have vv : vp_in (nI (u * 8 + fb_nm c)) 32 := vp_in_nI (by omega) (by decide)
  have vw : vp_in (nI (w * 8 + fb_nm e)) 32 := vp_in_nI (by omega) (by decide)
  rw [ha_us (u := u), ha_us (u := w), nI_clamp (n := u * 8 + fb_nm c) (by omega), nI_clamp (n := w * 8 + fb_nm e) (by omega), l1, l1', ed, ed', nI_add, nI_add]
  exact ⟨vv, br_f (nI_nlt hi (by omega)) ⟨vw, br_t (nI_le hi' (by omega)) ⟨vv, vw, pk_eq (d + fb_ix c) (d' + fb_ix e) h1 h0⟩⟩⟩
end HRD
theorem i_vc_value {k : Nat} {u : SX} {v : SY} (I : i_Rel k u v) (hk : k + 5 ≤ 2562) (v1 : Int32) (v2 : Int32) : wpX_value (fun r => wpY_value (fun r' => r' = r ∧ i_Rel (k + 5) u v) v v1 v2) u v1 v2 := by
  refine i_el (Q := fun u v => wpX_value (fun r => wpY_value (fun r' => r' = r ∧ i_Rel (k + 5) u v) v v1 v2) u v1 v2) I ?_
  intro sc oc ne ns ca on st ra xu xn xe xd nc yp yu ye yl yr al ap ac en eu ea eb sU sL sK sE sG sO gr po ec cx ou tc ss av cs cb cn kx ky kd pl rl cm hv ba ad ex cy bi hsc hoc hD hS hca hyl hra hC
  have I' : i_Rel (k + 5) (sc, oc, ne, ns, ca, on, st, ra, xu, xn, xe, xd, al, ap, ac, en, eu, ea, eb, sU, sL, sK, sE, sG, sO, gr, po, ec, cx, ou, tc, ss, av, cs) (sc, oc, ne, ns, ca, nc, on, yp, yu, ye, st, yl, yr, al, ap, cb, cn, ac, eu, ea, eb, sU, sL, sK, sE, sG, sO, kx, ky, kd, pl, rl, cm, hv, ba, ad, ex, cy, tc, ss, av, cs, bi, ou) := i_mk hsc hoc hD hS hca hyl hra hC
  obtain ⟨q, hq, D⟩ := hD
  rcases hra with ⟨r0, y0⟩ | ⟨r0, y1, c1⟩
  · exact br_t r0 (br_t y0 ⟨rfl, I'⟩)
  · have yn : ¬ yr = 0 := by rw [y1]; decide
    obtain ⟨_, RC, B, St, Mm⟩ := hC c1
    refine br_f r0 ?_
    by_cases V : fa_V al ap v1 v2
    · obtain ⟨u, c, hu, rfl, hc, rfl, hs, hi⟩ := V
      have m8 := fb_nm8 (Or.inl hc)
      obtain ⟨a, b, r, e1, d, e2, e3, e4⟩ := St (u * 8 + fb_nm c) (fb_ix c) (by omega) ((cn_St m8).mpr hs) (fb_ix1 c) hi
      have ab := B.1 a b r
      refine rd_x1 D hu hc hs hi ?_
      rw [e1]
      refine br_f (fa_m1 (by omega)) ⟨vp_in_nI ab.1 (by decide), ?_⟩
      rw [nI_clamp (by omega), Mm r0 a b r, e3]
      exact rd_y1 D yn hu hc hs hi e2 (by omega) ⟨rfl, I'⟩
    · exact rd_x0 D V (br_t rfl (rd_y0 D V ⟨rfl, I'⟩))
theorem i_vc_aliased {k : Nat} {u : SX} {v : SY} (I : i_Rel k u v) (hk : k + 5 ≤ 2562) (v1 : Int32) (v2 : Int32) (v3 : Int32) (v4 : Int32) : wpX_aliased (fun r => wpY_aliased (fun r' => r' = r ∧ i_Rel (k + 5) u v) v v1 v2 v3 v4) u v1 v2 v3 v4 := by
  refine i_el (Q := fun u v => wpX_aliased (fun r => wpY_aliased (fun r' => r' = r ∧ i_Rel (k + 5) u v) v v1 v2 v3 v4) u v1 v2 v3 v4) I ?_
  intro sc oc ne ns ca on st ra xu xn xe xd nc yp yu ye yl yr al ap ac en eu ea eb sU sL sK sE sG sO gr po ec cx ou tc ss av cs cb cn kx ky kd pl rl cm hv ba ad ex cy bi hsc hoc hD hS hca hyl hra hC
  have I' : i_Rel (k + 5) (sc, oc, ne, ns, ca, on, st, ra, xu, xn, xe, xd, al, ap, ac, en, eu, ea, eb, sU, sL, sK, sE, sG, sO, gr, po, ec, cx, ou, tc, ss, av, cs) (sc, oc, ne, ns, ca, nc, on, yp, yu, ye, st, yl, yr, al, ap, cb, cn, ac, eu, ea, eb, sU, sL, sK, sE, sG, sO, kx, ky, kd, pl, rl, cm, hv, ba, ad, ex, cy, tc, ss, av, cs, bi, ou) := i_mk hsc hoc hD hS hca hyl hra hC
  obtain ⟨q, hq, D⟩ := hD
  by_cases c1 : ca = 1
  · subst c1
    obtain ⟨_, RC, B, St, Mm⟩ := hC rfl
    refine br_t rfl ?_
    by_cases V : fa_V al ap v1 v2
    · have V0 := V
      obtain ⟨u, c, hu, rfl, hc, rfl, hs, hi⟩ := V
      have m8 := fb_nm8 (Or.inl hc)
      obtain ⟨a, b, r, e1, d, e2, e3, e4⟩ := St (u * 8 + fb_nm c) (fb_ix c) (by omega) ((cn_St m8).mpr hs) (fb_ix1 c) hi
      have ab := B.1 a b r
      refine rd_x1 D hu hc hs hi ?_
      rw [e1]
      by_cases V2 : fa_V al ap v3 v4
      · obtain ⟨w, e, hw, rfl, he, rfl, hs', hi'⟩ := V2
        have m8' := fb_nm8 (Or.inl he)
        obtain ⟨a', b', r', e1', d', e2', e3', e4'⟩ := St (w * 8 + fb_nm e) (fb_ix e) (by omega) ((cn_St m8').mpr hs') (fb_ix1 e) hi'
        have ab' := B.1 a' b' r'
        have iff := B.2 a b a' b' r r'
        have i1 := fb_ix1 c
        have i1' := fb_ix1 e
        refine rd_x1 D hw he hs' hi' ?_
        rw [e1']
        refine br_f (fa_m1 (by omega)) (pk_eq a a' (fun z => ?_) (fun z => ?_))
        · exact rd_a1 D hu hc hs hi hw he hs' hi' e2 e2' e4 e4' (fun _ => ⟨rfl, I'⟩) (fun y => absurd (iff.mp z) (by omega))
        · exact rd_a1 D hu hc hs hi hw he hs' hi' e2 e2' e4 e4' (fun y => absurd (iff.mpr (by omega)) z) (fun _ => ⟨rfl, I'⟩)
      · refine rd_x0 D V2 (br_f (fa_m1 (by omega)) (br_f (fa_m1 (by omega)) ?_))
        exact rd_a0 D (fun z => V2 z.2) ⟨rfl, I'⟩
    · refine rd_x0 D V ?_
      by_cases V2 : fa_V al ap v3 v4
      · obtain ⟨w, e, hw, rfl, he, rfl, hs', hi'⟩ := V2
        exact rd_x1 D hw he hs' hi' (br_t rfl (rd_a0 D (fun z => V z.1) ⟨rfl, I'⟩))
      · exact rd_x0 D V2 (br_t rfl (rd_a0 D (fun z => V z.1) ⟨rfl, I'⟩))
  · exact br_f c1 (br_f c1 ⟨rfl, I'⟩)
end
section
/-! query and the start -/
section HQY
variable {sc oc ne ns ca on st ra xu xn xe xd nc yp yu ye yl yr : Int32} {al ap ac en eu ea eb sU sL sK sE sG sO gr po ec cx ou tc ss av cs cb cn kx ky kd pl rl cm hv ba ad ex cy bi : Nat → Int32}
variable {x y : Int32} {A B : Prop}
theorem rq_3 (h1 : fa_R 4 x → A) (h0 : ¬ fa_R 4 x → B) : (x < 0 → B) ∧ (¬ x < 0 → ((3 < x → B) ∧ (¬ 3 < x → A))) :=
  br_c (fun a => h0 (ha_lo (by decide) a)) (fun a => br_c (fun b => h0 (ha_hi' (m := 3) (by decide) b)) (fun b => h1 (ha_mid' (m := 3) (by decide) a b)))
theorem rq_7 (h1 : fa_R 8 x → A) (h0 : ¬ fa_R 8 x → B) : (x < 0 → B) ∧ (¬ x < 0 → ((7 < x → B) ∧ (¬ 7 < x → A))) :=
  br_c (fun a => h0 (ha_lo (by decide) a)) (fun a => br_c (fun b => h0 (ha_hi' (m := 7) (by decide) b)) (fun b => h1 (ha_mid' (m := 7) (by decide) a b)))
theorem rq_3' (h1 : fa_R 4 x → A) (h0 : ¬ fa_R 4 x → B) : (x < 0 → B) ∧ (¬ x < 0 → ((x ≤ 3 → A) ∧ (¬ x ≤ 3 → B))) :=
  br_c (fun a => h0 (ha_lo (by decide) a)) (fun a => br_c (fun b => h1 (ha_le (m := 3) (by decide) a b)) (fun b => h0 (ha_nle (m := 3) (by decide) b)))
theorem rq_no {post : Int32 → Prop} {p1 p2 : Int32} (h : ∀ j, 1 ≤ j → j ≤ 11 → x ≠ nI j) (hp : post (-1)) : wpY_query post (sc, oc, ne, ns, ca, nc, on, yp, yu, ye, st, yl, yr, al, ap, cb, cn, ac, eu, ea, eb, sU, sL, sK, sE, sG, sO, kx, ky, kd, pl, rl, cm, hv, ba, ad, ex, cy, tc, ss, av, cs, bi, ou) x p1 p2 :=
  br_f (h 1 (by decide) (by decide)) (br_f (h 2 (by decide) (by decide)) (br_f (h 3 (by decide) (by decide)) (br_f (h 4 (by decide) (by decide)) (br_f (h 5 (by decide) (by decide)) (br_f (h 6 (by decide) (by decide)) (br_f (h 7 (by decide) (by decide)) (br_f (h 8 (by decide) (by decide)) (br_f (h 9 (by decide) (by decide)) (br_f (h 10 (by decide) (by decide)) (br_f (h 11 (by decide) (by decide)) (hp)))))))))))
/-- within 0 .. n-1, below, or beyond -/
theorem rq_ix {n : Nat} (hn : n < 2 ^ 31) (a : x < 0 → A) (b : ¬ x < 0 → nI n ≤ x → A) (c : ∀ j, j < n → x = nI j → A) : A := by
  rcases pk_ix x hn with h | h | ⟨j, hj, e⟩
  · exact a h
  · exact b (fun z => absurd (Int32.lt_of_le_of_lt h z) (nI_pos hn)) h
  · exact c j hj e
end HQY
theorem i_vc_query {k : Nat} {u : SX} {v : SY} (I : i_Rel k u v) (hk : k + 5 ≤ 2562) (v1 : Int32) (v2 : Int32) (v3 : Int32) : wpX_query (fun r => wpY_query (fun r' => r' = r ∧ i_Rel (k + 5) u v) v v1 v2 v3) u v1 v2 v3 := by
  refine i_el (Q := fun u v => wpX_query (fun r => wpY_query (fun r' => r' = r ∧ i_Rel (k + 5) u v) v v1 v2 v3) u v1 v2 v3) I ?_
  intro sc oc ne ns ca on st ra xu xn xe xd nc yp yu ye yl yr al ap ac en eu ea eb sU sL sK sE sG sO gr po ec cx ou tc ss av cs cb cn kx ky kd pl rl cm hv ba ad ex cy bi hsc hoc hD hS hca hyl hra hC
  have I' : i_Rel (k + 5) (sc, oc, ne, ns, ca, on, st, ra, xu, xn, xe, xd, al, ap, ac, en, eu, ea, eb, sU, sL, sK, sE, sG, sO, gr, po, ec, cx, ou, tc, ss, av, cs) (sc, oc, ne, ns, ca, nc, on, yp, yu, ye, st, yl, yr, al, ap, cb, cn, ac, eu, ea, eb, sU, sL, sK, sE, sG, sO, kx, ky, kd, pl, rl, cm, hv, ba, ad, ex, cy, tc, ss, av, cs, bi, ou) := i_mk hsc hoc hD hS hca hyl hra hC
  generalize i_Rel (k + 5) (sc, oc, ne, ns, ca, on, st, ra, xu, xn, xe, xd, al, ap, ac, en, eu, ea, eb, sU, sL, sK, sE, sG, sO, gr, po, ec, cx, ou, tc, ss, av, cs) (sc, oc, ne, ns, ca, nc, on, yp, yu, ye, st, yl, yr, al, ap, cb, cn, ac, eu, ea, eb, sU, sL, sK, sE, sG, sO, kx, ky, kd, pl, rl, cm, hv, ba, ad, ex, cy, tc, ss, av, cs, bi, ou) = T at I' ⊢
  obtain ⟨q, rfl, D⟩ := hD
  obtain ⟨n, hn, rfl, S, C⟩ := hS
  have q16 := D.2.2.2.2.2.1
  refine rq_ix (x := v1) (n := 12) (by decide) (fun a => ?_) (fun a b => ?_) (fun j hj e => ?_)
  · refine br_t (Int32.lt_trans a (by decide)) (rq_no (fun j j1 j2 e => ?_) ⟨rfl, I'⟩)
    rw [e] at a
    exact nI_pos (by omega) a
  · have b1 : ¬ v1 < 1 := fun z => absurd (Int32.lt_of_le_of_lt b z) (by decide)
    refine br_f b1 (br_t (Int32.lt_of_lt_of_le (by decide) b) (rq_no (fun j j1 j2 e => ?_) ⟨rfl, I'⟩))
    rw [e] at b
    exact nI_ge (b := 12) (by omega) (by decide) b
  · subst e
    have cj : j = 0 ∨ j = 1 ∨ j = 2 ∨ j = 3 ∨ j = 4 ∨ j = 5 ∨ j = 6 ∨ j = 7 ∨ j = 8 ∨ j = 9 ∨ j = 10 ∨ j = 11 := by omega
    rcases cj with rfl | rfl | rfl | rfl | rfl | rfl | rfl | rfl | rfl | rfl | rfl | rfl
    · exact br_t (by decide) (rq_no (fun j j1 j2 e => by have := fa_inj (by omega) (by omega) e; omega) ⟨rfl, I'⟩)
    · refine br_f (by decide) (br_f (by decide) (br_t (by decide) (?_)))
      by_cases hu : fa_R 4 v2
      · refine hx_isUnit (fun _ => br_f (by decide) ?_) (fun z => absurd hu z)
        by_cases hm : fa_R 8 v3
        · refine hx_isName (fun _ => br_f (by decide) ?_) (fun z => absurd hm z)
          have vv : vp_in (v2 * 8 + v3) 32 := by
            obtain ⟨u, hu4, rfl⟩ := hu
            obtain ⟨m, hm8, rfl⟩ := hm
            rw [ha_us]
            exact vp_in_nI (by omega) (by decide)
          refine ⟨vv, br_t (by decide) (rq_3 (fun _ => rq_7 (fun _ => ⟨vv, rfl, I'⟩) (fun z => absurd hm z)) (fun z => absurd hu z))⟩
        · exact hx_isName (fun z => absurd z hm) (fun _ => br_t rfl (br_t (by decide) (rq_3 (fun _ => rq_7 (fun z => absurd z hm) (fun _ => ⟨rfl, I'⟩)) (fun z => absurd hu z))))
      · exact hx_isUnit (fun z => absurd z hu) (fun _ => br_t rfl (br_t (by decide) (rq_3 (fun z => absurd z hu) (fun _ => ⟨rfl, I'⟩))))
    · refine br_f (by decide) (br_f (by decide) (br_f (by decide) (br_t (by decide) (?_))))
      by_cases hu : fa_R 4 v2
      · refine hx_isUnit (fun _ => br_f (by decide) ?_) (fun z => absurd hu z)
        have vv : vp_in v2 4 := by
          obtain ⟨u, hu4, rfl⟩ := hu
          exact vp_in_nI hu4 (by decide)
        exact ⟨vv, br_f (by decide) (br_t (by decide) (rq_3 (fun _ => ⟨vv, rfl, I'⟩) (fun z => absurd hu z)))⟩
      · exact hx_isUnit (fun z => absurd z hu) (fun _ => br_t rfl (br_f (by decide) (br_t (by decide) (rq_3 (fun z => absurd z hu) (fun _ => ⟨rfl, I'⟩)))))
    · refine br_f (by decide) (br_f (by decide) (br_f (by decide) (br_f (by decide) (br_t (by decide) (?_)))))
      unfold wpX_entryAt
      by_cases hu : fa_R 4 v2
      · refine hx_isUnit (fun _ => br_f (by decide) ?_) (fun z => absurd hu z)
        have hu0 := hu
        obtain ⟨u, hu4, rfl⟩ := hu
        obtain ⟨c1, c2⟩ := cn_C D hu4
        have vv : vp_in (nI u) 4 := vp_in_nI hu4 (by decide)
        refine rq_ix (x := v3) (n := fa_N ac u) (by omega) (fun a => ?_) (fun a b => ?_) (fun i hi e => ?_)
        · exact br_t a (br_f (by decide) (br_f (by decide) (br_t (by decide) (rq_3 (fun _ => br_t a ⟨rfl, I'⟩) (fun z => absurd hu0 z)))))
        · refine br_f a ⟨vv, ?_⟩
          rw [nI_clamp (n := u) (by omega), c1]
          refine br_f (Int32.not_lt.mpr b) (br_f (by decide) (br_f (by decide) (br_t (by decide) (rq_3 (fun _ => br_f a ⟨vv, ?_⟩) (fun z => absurd hu0 z)))))
          rw [nI_clamp (n := u) (by omega), c1]
          exact br_f (Int32.not_lt.mpr b) ⟨rfl, I'⟩
        · subst e
          obtain ⟨_, _, ie⟩ := D.2.2.2.2.1 (u * 8 + i) (by omega)
          have vi : vp_in (nI (u * 8 + i)) 32 := vp_in_nI (by omega) (by decide)
          refine br_f (nI_pos (by omega)) ⟨vv, ?_⟩
          rw [nI_clamp (n := u) (by omega), c1]
          refine br_t (nI_lt hi (by omega)) ?_
          rw [ha_us, nI_clamp (n := u * 8 + i) (by omega)]
          refine ⟨vi, br_f (by decide) (br_f (by decide) (br_t (by decide) (rq_3 (fun _ => br_f (nI_pos (by omega)) ⟨vv, ?_⟩) (fun z => absurd hu0 z))))⟩
          rw [nI_clamp (n := u) (by omega), c1]
          refine br_t (nI_lt hi (by omega)) ?_
          rw [ha_us, nI_clamp (n := u * 8 + i) (by omega)]
          refine ⟨vi, vi, ?_, I'⟩
          rw [ie, Int32.mul_comm]
      · exact hx_isUnit (fun z => absurd z hu) (fun _ => br_t rfl (br_f (by decide) (br_f (by decide) (br_t (by decide) (rq_3 (fun z => absurd z hu) (fun _ => ⟨rfl, I'⟩))))))
    · refine br_f (by decide) (br_f (by decide) (br_f (by decide) (br_f (by decide) (br_f (by decide) (br_t (by decide) (?_))))))
      unfold wpX_equivalenceField
      refine rq_ix (x := v2) (n := q) (by omega) (fun a => ?_) (fun a b => ?_) (fun i hi e => ?_)
      · exact br_t a (br_f (by decide) (br_f (by decide) (br_f (by decide) (br_t (by decide) (br_t a ⟨rfl, I'⟩)))))
      · exact br_f a (br_f (Int32.not_lt.mpr b) (br_f (by decide) (br_f (by decide) (br_f (by decide) (br_t (by decide) (br_f a (br_t b ⟨rfl, I'⟩)))))))
      · subst e
        have vi : vp_in (nI i) 16 := vp_in_nI (by omega) (by decide)
        have i0 : ¬ nI i < 0 := nI_pos (by omega)
        have iq : nI i < nI q := nI_lt hi (by omega)
        have nq : ¬ nI q ≤ nI i := nI_ge hi (by omega)
        refine rq_ix (x := v3) (n := 3) (by decide) (fun a => ?_) (fun a b => ?_) (fun f hf e => ?_)
        · exact br_f i0 (br_t iq (br_t a (br_f (by decide) (br_f (by decide) (br_f (by decide) (br_t (by decide) (br_f i0 (br_f nq (br_t a ⟨rfl, I'⟩)))))))))
        · have g2 : 2 < v3 := Int32.lt_of_lt_of_le (by decide) b
          exact br_f i0 (br_t iq (br_f a (br_t g2 (br_f (by decide) (br_f (by decide) (br_f (by decide) (br_t (by decide) (br_f i0 (br_f nq (br_f a (br_f (Int32.not_le.mpr g2) ⟨rfl, I'⟩)))))))))))
        · subst e
          have cf : f = 0 ∨ f = 1 ∨ f = 2 := by omega
          rcases cf with rfl | rfl | rfl
          · exact br_f i0 (br_t iq (br_f (by decide) (br_f (by decide) (br_t rfl ⟨vi, br_f (by decide) (br_f (by decide) (br_f (by decide) (br_t (by decide) (br_f i0 (br_f nq (br_f (by decide) (br_t (by decide) (br_t rfl ⟨vi, rfl, I'⟩))))))))⟩))))
          · exact br_f i0 (br_t iq (br_f (by decide) (br_f (by decide) (br_f (by decide) (br_t rfl ⟨vi, br_f (by decide) (br_f (by decide) (br_f (by decide) (br_t (by decide) (br_f i0 (br_f nq (br_f (by decide) (br_t (by decide) (br_f (by decide) (br_t rfl ⟨vi, rfl, I'⟩)))))))))⟩)))))
          · exact br_f i0 (br_t iq (br_f (by decide) (br_f (by decide) (br_f (by decide) (br_f (by decide) (br_t rfl ⟨vi, br_f (by decide) (br_f (by decide) (br_f (by decide) (br_t (by decide) (br_f i0 (br_f nq (br_f (by decide) (br_t (by decide) (br_f (by decide) (br_f (by decide) ⟨vi, rfl, I'⟩)))))))))⟩))))))
    · refine br_f (by decide) (br_f (by decide) (br_f (by decide) (br_f (by decide) (br_f (by decide) (br_f (by decide) (br_t (by decide) (?_)))))))
      unfold wpX_statementField
      refine rq_ix (x := v2) (n := n) (by omega) (fun a => ?_) (fun a b => ?_) (fun i hi e => ?_)
      · exact br_t a (br_f (by decide) (br_f (by decide) (br_f (by decide) (br_f (by decide) (br_t (by decide) (br_t a ⟨rfl, I'⟩))))))
      · exact br_f a (br_f (Int32.not_lt.mpr b) (br_f (by decide) (br_f (by decide) (br_f (by decide) (br_f (by decide) (br_t (by decide) (br_f a (br_t b ⟨rfl, I'⟩))))))))
      · subst e
        obtain ⟨_, _, ⟨g1, g2, g5⟩, _⟩ := ha_V (S i hi)
        have vi : vp_in (nI i) 64 := vp_in_nI (by omega) (by decide)
        have i0 : ¬ nI i < 0 := nI_pos (by omega)
        have iq : nI i < nI n := nI_lt hi (by omega)
        have nq : ¬ nI n ≤ nI i := nI_ge hi (by omega)
        refine rq_ix (x := v3) (n := 9) (by decide) (fun a => ?_) (fun a b => ?_) (fun f hf e => ?_)
        · have a4 : v3 < 4 := Int32.lt_trans a (by decide)
          exact br_f i0 (br_t iq (br_t a (br_t a4 (br_f (by decide) (br_f (by decide) (br_f (by decide) (br_f (by decide) (br_t (by decide) (br_f i0 (br_f nq (br_t a ⟨rfl, I'⟩)))))))))))
        · have g3 : 3 < v3 := Int32.lt_of_lt_of_le (by decide) b
          have n4 : ¬ v3 < 4 := fun z => absurd (Int32.lt_of_le_of_lt b z) (by decide)
          have n8 : ¬ v3 ≤ 8 := fun z => absurd (Int32.le_trans b z) (by decide)
          exact br_f i0 (br_t iq (br_f a (br_t g3 (br_f n4 (br_t b (br_f (by decide) (br_f (by decide) (br_f (by decide) (br_f (by decide) (br_t (by decide) (br_f i0 (br_f nq (br_f a (br_f n8 ⟨rfl, I'⟩))))))))))))))
        · subst e
          have cf : f = 0 ∨ f = 1 ∨ f = 2 ∨ f = 3 ∨ 4 ≤ f := by omega
          rcases cf with rfl | rfl | rfl | rfl | f4
          · exact br_f i0 (br_t iq (br_f (by decide) (br_f (by decide) (br_t rfl ⟨vi, br_f (by decide) (br_f (by decide) (br_f (by decide) (br_f (by decide) (br_t (by decide) (br_f i0 (br_f nq (br_f (by decide) (br_t (by decide) (br_t rfl ⟨vi, rfl, I'⟩)))))))))⟩))))
          · exact br_f i0 (br_t iq (br_f (by decide) (br_f (by decide) (br_f (by decide) (br_t rfl ⟨vi, br_f (by decide) (br_f (by decide) (br_f (by decide) (br_f (by decide) (br_t (by decide) (br_f i0 (br_f nq (br_f (by decide) (br_t (by decide) (br_f (by decide) (br_t rfl ⟨vi, rfl, I'⟩))))))))))⟩)))))
          · exact br_f i0 (br_t iq (br_f (by decide) (br_f (by decide) (br_f (by decide) (br_f (by decide) (br_t rfl ⟨vi, br_f (by decide) (br_f (by decide) (br_f (by decide) (br_f (by decide) (br_t (by decide) (br_f i0 (br_f nq (br_f (by decide) (br_t (by decide) (br_f (by decide) (br_f (by decide) (br_t rfl ⟨vi, rfl, I'⟩)))))))))))⟩))))))
          · exact br_f i0 (br_t iq (br_f (by decide) (br_f (by decide) (br_f (by decide) (br_f (by decide) (br_f (by decide) (br_t rfl ⟨vi, br_f (by decide) (br_f (by decide) (br_f (by decide) (br_f (by decide) (br_t (by decide) (br_f i0 (br_f nq (br_f (by decide) (br_t (by decide) (br_f (by decide) (br_f (by decide) (br_f (by decide) (br_t rfl ⟨vi, rfl, I'⟩))))))))))))⟩)))))))
          · have nf : ∀ b, b < 4 → ¬ nI f = nI b := fun b hb => fa_ne (by omega) (by omega) (by omega)
            have e4 : nI f - 4 = nI (f - 4) := pk_sub (b := 4) f4
            refine br_f i0 (br_t iq (br_f (nI_pos (by omega)) (br_t (nI_lt (a := 3) (by omega) (by omega)) (br_f (nI_nlt (b := 4) f4 (by omega)) (br_f (nI_ge (b := 9) hf (by decide)) ⟨vi, ?_⟩)))))
            have fin : ∀ r : Int32, ((nI (fa_N sG i) ≤ nI (f - 4) → r = -1) ∧ (¬ nI (fa_N sG i) ≤ nI (f - 4) → r = sO (i * 5 + f - 4))) → wpY_query (fun r' => r' = r ∧ T) (sc, oc, nI q, nI n, ca, nc, on, yp, yu, ye, st, yl, yr, al, ap, cb, cn, ac, eu, ea, eb, sU, sL, sK, sE, sG, sO, kx, ky, kd, pl, rl, cm, hv, ba, ad, ex, cy, tc, ss, av, cs, bi, ou) (nI 5) (nI i) (nI f) := by
              intro r hr
              refine br_f (by decide) (br_f (by decide) (br_f (by decide) (br_f (by decide) (br_t (by decide) (br_f i0 (br_f nq (br_f (nI_pos (by omega)) (br_t (nI_le (b := 8) (by omega) (by decide)) (br_f (nf 0 (by decide)) (br_f (nf 1 (by decide)) (br_f (nf 2 (by decide)) (br_f (nf 3 (by decide)) ⟨vi, ?_⟩))))))))))))
              rw [nI_clamp (n := i) (by omega), g1, e4, ha_5, show nI (i * 5 + f) - 4 = nI (i * 5 + f - 4) from pk_sub (b := 4) (by omega), nI_clamp (n := i * 5 + f - 4) (by omega)]
              exact br_c (fun z => ⟨(hr.1 z).symm, I'⟩) (fun z => ⟨vp_in_nI (by omega) (by decide), (hr.2 z).symm, I'⟩)
            rw [nI_clamp (n := i) (by omega), g1, e4, ha_5, show nI (i * 5 + f) - 4 = nI (i * 5 + f - 4) from pk_sub (b := 4) (by omega), nI_clamp (n := i * 5 + f - 4) (by omega)]
            exact br_c (fun z => ⟨vp_in_nI (by omega) (by decide), fin _ (br_f (Int32.not_le.mpr z) rfl)⟩) (fun z => fin _ (br_t (Int32.not_lt.mp z) rfl))
    · refine br_f (by decide) (br_f (by decide) (br_f (by decide) (br_f (by decide) (br_f (by decide) (br_f (by decide) (br_f (by decide) (br_t (by decide) (?_))))))))
      refine hx_await hn S ?_
      refine br_f (by decide) (br_f (by decide) (br_f (by decide) (br_f (by decide) (br_f (by decide) (br_t (by decide) (?_))))))
      exact hy_pending hn S ⟨rfl, I'⟩
    · exact br_f (by decide) (br_f (by decide) (br_f (by decide) (br_f (by decide) (br_f (by decide) (br_f (by decide) (br_f (by decide) (br_f (by decide) (br_t (by decide) (br_f (by decide) (br_f (by decide) (br_f (by decide) (br_f (by decide) (br_f (by decide) (br_f (by decide) (br_t (by decide) (⟨rfl, I'⟩))))))))))))))))
    · refine br_f (by decide) (br_f (by decide) (br_f (by decide) (br_f (by decide) (br_f (by decide) (br_f (by decide) (br_f (by decide) (br_f (by decide) (br_f (by decide) (br_t (by decide) (?_))))))))))
      by_cases hu : fa_R 4 v2
      · refine hx_isBlock (fun _ => br_f (by decide) ?_) (fun z => absurd hu z)
        by_cases c1 : ca = 1
        · refine br_t c1 ?_
          obtain ⟨u, hu4, rfl⟩ := hu
          refine ca_ext hu4 ?_
          refine br_f (by decide) (br_f (by decide) (br_f (by decide) (br_f (by decide) (br_f (by decide) (br_f (by decide) (br_f (by decide) (br_t (by decide) (rq_3' (fun _ => br_t c1 ⟨vp_in_nI hu4 (by decide), ?_, I'⟩) (fun z => absurd ⟨u, hu4, rfl⟩ z)))))))))
          rw [nI_clamp (n := u) (by omega), (hC c1).1 u hu4]
        · exact br_f c1 (br_f (by decide) (br_f (by decide) (br_f (by decide) (br_f (by decide) (br_f (by decide) (br_f (by decide) (br_f (by decide) (br_t (by decide) (rq_3' (fun _ => br_f c1 ⟨rfl, I'⟩) (fun z => absurd hu z))))))))))
      · exact hx_isBlock (fun z => absurd z hu) (fun _ => br_t rfl (br_f (by decide) (br_f (by decide) (br_f (by decide) (br_f (by decide) (br_f (by decide) (br_f (by decide) (br_f (by decide) (br_t (by decide) (rq_3' (fun z => absurd z hu) (fun _ => ⟨rfl, I'⟩)))))))))))
    · exact br_f (by decide) (br_f (by decide) (br_f (by decide) (br_f (by decide) (br_f (by decide) (br_f (by decide) (br_f (by decide) (br_f (by decide) (br_f (by decide) (br_f (by decide) (br_t (by decide) (br_f (by decide) (br_f (by decide) (br_f (by decide) (br_f (by decide) (br_f (by decide) (br_f (by decide) (br_f (by decide) (br_f (by decide) (br_t (by decide) (⟨hyl, I'⟩))))))))))))))))))))
    · exact br_f (by decide) (br_f (by decide) (br_f (by decide) (br_f (by decide) (br_f (by decide) (br_f (by decide) (br_f (by decide) (br_f (by decide) (br_f (by decide) (br_f (by decide) (br_f (by decide) (br_t (by decide) (br_f (by decide) (br_f (by decide) (br_f (by decide) (br_f (by decide) (br_f (by decide) (br_f (by decide) (br_f (by decide) (br_f (by decide) (br_f (by decide) (br_t (by decide) (⟨rfl, I'⟩))))))))))))))))))))))
    · exact br_f (by decide) (br_f (by decide) (br_f (by decide) (br_f (by decide) (br_f (by decide) (br_f (by decide) (br_f (by decide) (br_f (by decide) (br_f (by decide) (br_f (by decide) (br_f (by decide) (br_f (by decide) (br_t (by decide) (br_f (by decide) (br_f (by decide) (br_f (by decide) (br_f (by decide) (br_f (by decide) (br_f (by decide) (br_f (by decide) (br_f (by decide) (br_f (by decide) (br_f (by decide) (br_t (by decide) (⟨rfl, I'⟩))))))))))))))))))))))))
end
section
section HIN
variable {sc oc ne ns ca on st ra xu xn xe xd nc yp yu ye yl yr : Int32} {al ap ac en eu ea eb sU sL sK sE sG sO gr po ec cx ou tc ss av cs cb cn kx ky kd pl rl cm hv ba ad ex cy bi : Nat → Int32}
def iz (i : Nat) : Nat → Int32 := fun j => if j < i then 1 else 0
theorem iz_u (i : Nat) : upd (iz i) i 1 = iz (i + 1) := by
  funext j
  by_cases e : j = i
  · subst e
    rw [pk_us]
    exact (if_pos (Nat.lt_succ_self j)).symm
  · rw [pk_un e]
    unfold iz
    by_cases l : j < i
    · rw [if_pos l, if_pos (by omega)]
    · rw [if_neg l, if_neg (by omega)]
theorem iz_0 : iz 0 = fun _ => 0 := by
  funext j
  exact if_neg (Nat.not_lt_zero j)
theorem in_x {post : SX → Prop} (h : post (sc, oc, ne, ns, ca, on, st, ra, xu, xn, xe, xd, iz 32, ap, ac, en, eu, ea, eb, sU, sL, sK, sE, sG, sO, gr, po, ec, cx, ou, tc, ss, av, cs)) : ∀ d i, i + d = 32 → wX_init_254 post sc oc ne ns ca on st ra xu xn xe xd (d + 1) (nI i) (iz i) ap ac en eu ea eb sU sL sK sE sG sO gr po ec cx ou tc ss av cs := by
  intro d
  induction d with
  | zero =>
    intro i hi
    have e : i = 32 := by omega
    subst e
    exact br_t (by decide) h
  | succ d ih =>
    intro i hi
    refine br_f (nI_ge (b := 32) (by omega) (by decide)) ⟨vp_in_nI (by omega) (by decide), ?_⟩
    rw [nI_clamp (by omega)]
    exact nm_r (iz_u i) (nm_r (nI_1 i) (ih (i + 1) (by omega)))
theorem in_y {post : SY → Prop} (h : post (sc, oc, ne, ns, ca, nc, on, yp, yu, ye, st, yl, yr, iz 32, ap, cb, cn, ac, eu, ea, eb, sU, sL, sK, sE, sG, sO, kx, ky, kd, pl, rl, cm, hv, ba, ad, ex, cy, tc, ss, av, cs, bi, ou)) : ∀ d i, i + d = 32 → wY_init_303 post sc oc ne ns ca nc on yp yu ye st yl yr (d + 1) (nI i) (iz i) ap cb cn ac eu ea eb sU sL sK sE sG sO kx ky kd pl rl cm hv ba ad ex cy tc ss av cs bi ou := by
  intro d
  induction d with
  | zero =>
    intro i hi
    have e : i = 32 := by omega
    subst e
    exact br_t (by decide) h
  | succ d ih =>
    intro i hi
    refine br_f (nI_ge (b := 32) (by omega) (by decide)) ⟨vp_in_nI (by omega) (by decide), ?_⟩
    rw [nI_clamp (by omega)]
    exact nm_r (iz_u i) (nm_r (nI_1 i) (ih (i + 1) (by omega)))
theorem in_cl (x : Int32) (lo hi : Nat) (h1 : lo ≤ hi) (h2 : hi < 1000) : ∃ m, lo ≤ m ∧ m ≤ hi ∧ (∀ post : Int32 → Prop, post (nI m) → wpX_clamp post x (nI lo) (nI hi)) ∧ (∀ P : Int32 → Prop, P (nI m) → ((nI lo ≤ x → ((x ≤ nI hi → P x) ∧ (¬ x ≤ nI hi → P (nI hi)))) ∧ (¬ nI lo ≤ x → P (nI lo)))) := by
  by_cases a : nI lo ≤ x
  · by_cases b : x ≤ nI hi
    · have x0 : ¬ x < 0 := fun z => absurd (Int32.lt_of_le_of_lt a z) (nI_pos (by omega))
      obtain ⟨j, hj, rfl⟩ := nI_of x0
      exact ⟨j, (nI_leI (by omega) hj).mp a, (nI_leI hj (by omega)).mp b, fun post h => br_t a (br_t b h), fun P h => br_t a (br_t b h)⟩
    · exact ⟨hi, h1, Nat.le_refl hi, fun post h => br_t a (br_f b h), fun P h => br_t a (br_f b h)⟩
  · exact ⟨lo, Nat.le_refl lo, h1, fun post h => br_f a h, fun P h => br_f a h⟩
end HIN
theorem i_vc0 (k0 : Int32) (k1 : Int32) : wpX_init (fun u => wpY_init (fun v => i_Rel 2 u v) k0 k1) k0 k1 := by
  obtain ⟨m, m1, m2, mX, mY⟩ := in_cl k0 8 64 (by decide) (by decide)
  obtain ⟨o, o1, o2, oX, oY⟩ := in_cl k1 4 32 (by decide) (by decide)
  have rel : i_Rel 2 (nI m, nI o, 0, 0, 0, 0, 0, 0, 0, 0, -1, 0, iz 32, fun _ => 0, fun _ => 0, fun _ => 0, fun _ => 0, fun _ => 0, fun _ => 0, fun _ => 0, fun _ => 0, fun _ => 0, fun _ => 0, fun _ => 0, fun _ => 0, fun _ => 0, fun _ => 0, fun _ => 0, fun _ => 0, fun _ => 0, fun _ => 0, fun _ => 0, fun _ => 0, fun _ => 0)
      (nI m, nI o, 0, 0, 0, 0, 0, 0, 0, 0, 0, 0, 0, iz 32, fun _ => 0, fun _ => 0, fun _ => 0, fun _ => 0, fun _ => 0, fun _ => 0, fun _ => 0, fun _ => 0, fun _ => 0, fun _ => 0, fun _ => 0, fun _ => 0, fun _ => 0, fun _ => 0, fun _ => 0, fun _ => 0, fun _ => 0, fun _ => 0, fun _ => 0, fun _ => 0, fun _ => 0, fun _ => 0, fun _ => 0, fun _ => 0, fun _ => 0, fun _ => 0, fun _ => 0, fun _ => 0, fun _ => 0, fun _ => 0) := by
    refine i_mk ⟨m, m1, m2, rfl⟩ ⟨o, 0, o1, o2, rfl, Nat.zero_le _, rfl⟩ ⟨0, rfl, ?_, rfl, fun u _ => ⟨0, by decide, rfl⟩, fun u _ => ⟨0, by decide, rfl⟩, fun i _ => ⟨⟨0, by decide, rfl⟩, ⟨0, by decide, rfl⟩, (by show (0 : Int32) = 0 * 8 + 0; decide)⟩, Nat.zero_le _, fun e he => absurd he (Nat.not_lt_zero e)⟩ ⟨0, Nat.zero_le _, rfl, fun s hs => absurd hs (Nat.not_lt_zero s), fun z => absurd z (by decide)⟩ ⟨0, by decide, rfl⟩ rfl (Or.inl ⟨rfl, rfl⟩) (fun z => absurd z (by decide))
    intro k hk
    exact ⟨1, Nat.le_refl 1, by decide, if_pos hk⟩
  have hY : ∀ z : Int32, z = nI m → wY_init_273 (fun v => i_Rel 2 (nI m, nI o, 0, 0, 0, 0, 0, 0, 0, 0, -1, 0, iz 32, fun _ => 0, fun _ => 0, fun _ => 0, fun _ => 0, fun _ => 0, fun _ => 0, fun _ => 0, fun _ => 0, fun _ => 0, fun _ => 0, fun _ => 0, fun _ => 0, fun _ => 0, fun _ => 0, fun _ => 0, fun _ => 0, fun _ => 0, fun _ => 0, fun _ => 0, fun _ => 0, fun _ => 0) v) k1 z 0 0 0 0 0 0 0 0 0 0 0 0 0 (fun _ => 0) (fun _ => 0) (fun _ => 0) (fun _ => 0) (fun _ => 0) (fun _ => 0) (fun _ => 0) (fun _ => 0) (fun _ => 0) (fun _ => 0) (fun _ => 0) (fun _ => 0) (fun _ => 0) (fun _ => 0) (fun _ => 0) (fun _ => 0) (fun _ => 0) (fun _ => 0) (fun _ => 0) (fun _ => 0) (fun _ => 0) (fun _ => 0) (fun _ => 0) (fun _ => 0) (fun _ => 0) (fun _ => 0) (fun _ => 0) (fun _ => 0) (fun _ => 0) (fun _ => 0) (fun _ => 0) := by
    intro z ez
    subst ez
    have a := in_y rel 32 0 rfl
    rw [iz_0] at a
    exact oY (fun w => ∃ f, wY_init_303 (fun v => i_Rel 2 (nI m, nI o, 0, 0, 0, 0, 0, 0, 0, 0, -1, 0, iz 32, fun _ => 0, fun _ => 0, fun _ => 0, fun _ => 0, fun _ => 0, fun _ => 0, fun _ => 0, fun _ => 0, fun _ => 0, fun _ => 0, fun _ => 0, fun _ => 0, fun _ => 0, fun _ => 0, fun _ => 0, fun _ => 0, fun _ => 0, fun _ => 0, fun _ => 0, fun _ => 0, fun _ => 0) v) (nI m) w 0 0 0 0 0 0 0 0 0 0 0 f 0 (fun _ => 0) (fun _ => 0) (fun _ => 0) (fun _ => 0) (fun _ => 0) (fun _ => 0) (fun _ => 0) (fun _ => 0) (fun _ => 0) (fun _ => 0) (fun _ => 0) (fun _ => 0) (fun _ => 0) (fun _ => 0) (fun _ => 0) (fun _ => 0) (fun _ => 0) (fun _ => 0) (fun _ => 0) (fun _ => 0) (fun _ => 0) (fun _ => 0) (fun _ => 0) (fun _ => 0) (fun _ => 0) (fun _ => 0) (fun _ => 0) (fun _ => 0) (fun _ => 0) (fun _ => 0) (fun _ => 0)) ⟨32 + 1, a⟩
  unfold wpX_init
  refine mX _ (oX _ ?_)
  have b := in_x (post := fun u => wpY_init (fun v => i_Rel 2 u v) k0 k1) (sc := nI m) (oc := nI o) (ne := 0) (ns := 0) (ca := 0) (on := 0) (st := 0) (ra := 0) (xu := 0) (xn := 0) (xe := -1) (xd := 0) (ap := fun _ => 0) (ac := fun _ => 0) (en := fun _ => 0) (eu := fun _ => 0) (ea := fun _ => 0) (eb := fun _ => 0) (sU := fun _ => 0) (sL := fun _ => 0) (sK := fun _ => 0) (sE := fun _ => 0) (sG := fun _ => 0) (sO := fun _ => 0) (gr := fun _ => 0) (po := fun _ => 0) (ec := fun _ => 0) (cx := fun _ => 0) (ou := fun _ => 0) (tc := fun _ => 0) (ss := fun _ => 0) (av := fun _ => 0) (cs := fun _ => 0) (mY (fun z => wY_init_273 (fun v => i_Rel 2 (nI m, nI o, 0, 0, 0, 0, 0, 0, 0, 0, -1, 0, iz 32, fun _ => 0, fun _ => 0, fun _ => 0, fun _ => 0, fun _ => 0, fun _ => 0, fun _ => 0, fun _ => 0, fun _ => 0, fun _ => 0, fun _ => 0, fun _ => 0, fun _ => 0, fun _ => 0, fun _ => 0, fun _ => 0, fun _ => 0, fun _ => 0, fun _ => 0, fun _ => 0, fun _ => 0) v) k1 z 0 0 0 0 0 0 0 0 0 0 0 0 0 (fun _ => 0) (fun _ => 0) (fun _ => 0) (fun _ => 0) (fun _ => 0) (fun _ => 0) (fun _ => 0) (fun _ => 0) (fun _ => 0) (fun _ => 0) (fun _ => 0) (fun _ => 0) (fun _ => 0) (fun _ => 0) (fun _ => 0) (fun _ => 0) (fun _ => 0) (fun _ => 0) (fun _ => 0) (fun _ => 0) (fun _ => 0) (fun _ => 0) (fun _ => 0) (fun _ => 0) (fun _ => 0) (fun _ => 0) (fun _ => 0) (fun _ => 0) (fun _ => 0) (fun _ => 0) (fun _ => 0)) (hY _ rfl)) 32 0 rfl
  rw [iz_0] at b
  exact ⟨32 + 1, b⟩
end
section
/-! the owed statement of run -/
theorem i_vc_run {k : Nat} {u : SX} {v : SY} (I : i_Rel k u v) (hk : k + 5 ≤ 2562) (v1 : Int32) : wpX_run (fun r u' => wpY_run (fun r' v' => r' = r ∧ i_Rel (k + 5) u' v') v v1) u v1 := by
  refine i_el (Q := fun u v => wpX_run (fun r u' => wpY_run (fun r' v' => r' = r ∧ i_Rel (k + 5) u' v') v v1) u v1) I ?_
  intro sc oc ne ns ca on st ra xu xn xe xd nc yp yu ye yl yr al ap ac en eu ea eb sU sL sK sE sG sO gr po ec cx ou tc ss av cs cb cn kx ky kd pl rl cm hv ba ad ex cy bi hsc hoc hD hS hca hyl hra hC
  by_cases c1 : ca = 1
  · subst c1
    obtain ⟨n, hn, rfl, S, C⟩ := hS
    obtain ⟨oo, o, oo4, oo32, hoc1, hoo, hon⟩ := hoc
    obtain ⟨nq, hnq, D⟩ := hD
    obtain ⟨hex, RC, B, St, Mm⟩ := hC rfl
    have C' := C rfl
    have S' : fs_S n sU sL sK sE sG sO True := fun s hs => by
      obtain ⟨u, l, k, e, g, a1, a2, a3, a4, a5, a6, a7, a8, a9, a10, a11, a12, a13⟩ := S s hs
      exact ⟨u, l, k, e, g, a1, a2, a3, a4, a5, a6, a7, a8, a9, a10, a11, fun _ => a12 (Or.inr rfl), a13⟩
    have W : hr_W n al ap sU sL sK sE sG sO := ⟨hn, S', C'⟩
    have Dd : hr_D al ap := ⟨D.1, D.2.2.1, C'.1⟩
    obtain ⟨mx, m1, m5, mX, mY⟩ := sc_mx v1
    have R : hr_R RC n al ap sU ec ad bi (hz cx 512) (hz cy 512) (upd (hz av 4) 0 1) cs 0 [] := by
      refine ⟨B, St, ?_, ?_, List.nodup_cons.mpr ⟨List.not_mem_nil, List.nodup_nil⟩, ?_, rfl, ?_⟩
      · intro a b r
        rw [hz_in (B.1 a b r).1, hz_in (B.1 a b r).2]
      · intro w hw
        have e : w = 0 := by simpa using hw
        subst e
        intro m hm
        have : fa_N ap 0 = 0 := fa_Re (j := 0) D.2.1 (by decide)
        omega
      · intro w hw
        by_cases e : w = 0
        · subst e
          rw [pk_us]
          exact ⟨fun _ => List.mem_cons_self, fun _ => by decide⟩
        · rw [pk_un e, hz_in hw]
          exact ⟨fun z => absurd rfl z, fun z => absurd (by simpa using z) e⟩
      · intro w hw h0
        exact absurd (by simpa using hw) h0
    have qn := fb_nx_in sU 0 n 0
    obtain ⟨r, X', Y', ⟨sc0, oc0, ne0, ns0, ca0, on0, st0, ra0, xu0, xn0, xe0, xd0, nc0, yp0, yu0, ye0, yl0, yr0, al0, ap0, ac0, en0, eu0, ea0, eb0, sU0, sL0, sK0, sE0, sG0, sO0, gr0, po0, ec0, cx0, ou0, tc0, ss0, av0, cs0, cb0, cn0, kx0, ky0, kd0, pl0, rl0, cm0, hv0, ba0, ad0, ex0, cy0, bi0, rfl, rfl, hI⟩, gx, gy⟩ := hm_main (n := n) (oo := oo) (mx := mx) (RC := RC) (sc := sc) (oc := oc) (ne := ne) (ca := 1) (nc := nc) (yl := yl) (yr := 1) (ac := ac) (en := en) (eu := eu) (ea := ea) (eb := eb) (gr := gr) (po := po) (cb := cb) (cn := cn) (kx := kx) (ky := ky) (kd := kd) (pl := pl) (rl := rl) (cm := cm) (hv := hv) (ba := ba) (ex := ex) (ER := fun r X' Y' => ∃ (sc0 oc0 ne0 ns0 ca0 on0 st0 ra0 xu0 xn0 xe0 xd0 nc0 yp0 yu0 ye0 yl0 yr0 : Int32) (al0 ap0 ac0 en0 eu0 ea0 eb0 sU0 sL0 sK0 sE0 sG0 sO0 gr0 po0 ec0 cx0 ou0 tc0 ss0 av0 cs0 cb0 cn0 kx0 ky0 kd0 pl0 rl0 cm0 hv0 ba0 ad0 ex0 cy0 bi0 : Nat → Int32), X' = (sc0, oc0, ne0, ns0, ca0, on0, st0, ra0, xu0, xn0, xe0, xd0, al0, ap0, ac0, en0, eu0, ea0, eb0, sU0, sL0, sK0, sE0, sG0, sO0, gr0, po0, ec0, cx0, ou0, tc0, ss0, av0, cs0) ∧ Y' = (sc0, oc0, ne0, ns0, ca0, nc0, on0, yp0, yu0, ye0, st0, yl0, yr0, al0, ap0, cb0, cn0, ac0, eu0, ea0, eb0, sU0, sL0, sK0, sE0, sG0, sO0, kx0, ky0, kd0, pl0, rl0, cm0, hv0, ba0, ad0, ex0, cy0, tc0, ss0, av0, cs0, bi0, ou0) ∧ i_Rel (k + 5) (sc0, oc0, ne0, ns0, ca0, on0, st0, ra0, xu0, xn0, xe0, xd0, al0, ap0, ac0, en0, eu0, ea0, eb0, sU0, sL0, sK0, sE0, sG0, sO0, gr0, po0, ec0, cx0, ou0, tc0, ss0, av0, cs0) (sc0, oc0, ne0, ns0, ca0, nc0, on0, yp0, yu0, ye0, st0, r, yr0, al0, ap0, cb0, cn0, ac0, eu0, ea0, eb0, sU0, sL0, sK0, sE0, sG0, sO0, kx0, ky0, kd0, pl0, rl0, cm0, hv0, ba0, ad0, ex0, cy0, tc0, ss0, av0, cs0, bi0, ou0) ∧ ra0 = r) W Dd m5 hoc1 oo32
      (fun r xu xn xe xd yp yu ye on cx cy tc ss ou ec bi av cs o st hr hS' hM' ho hoo' => ⟨sc, oc, ne, nI n, 1, on, nI st, r, xu, xn, xe, xd, nc, yp, yu, ye, yl, 1, al, ap, ac, en, eu, ea, eb, sU, sL, sK, sE, sG, sO, gr, po, ec, cx, ou, tc, ss, av, cs, cb, cn, kx, ky, kd, pl, rl, cm, hv, ba, ad, ex, cy, bi, rfl, rfl, i_mk hsc ⟨oo, o, oo4, oo32, hoc1, hoo', ho⟩ ⟨nq, hnq, D⟩ ⟨n, hn, rfl, S, C⟩ hca rfl (Or.inr ⟨hr, rfl, rfl⟩) (fun _ => ⟨hex, RC, B, hS', fun _ => hM'⟩), rfl⟩)
      (4 * mx + 1) (hz cx 512) (hz cy 512) (hz tc 64) (hz ss 64) ou ec bi (upd (hz av 4) 0 1) cs 0 xd 0 (fb_nx sU 0 n 0) 0 0 0 0 [] R rfl (Nat.zero_le _) (by omega) (fun z => qn.2.2 (by omega)) (by simp) (by simp) (by omega) (by simp)
    obtain ⟨hI, rfl⟩ := hI
    have key : ∃ m, wY_run_36 (fun r' v' => r' = ra0 ∧ i_Rel (k + 5) (sc0, oc0, ne0, ns0, ca0, on0, st0, ra0, xu0, xn0, xe0, xd0, al0, ap0, ac0, en0, eu0, ea0, eb0, sU0, sL0, sK0, sE0, sG0, sO0, gr0, po0, ec0, cx0, ou0, tc0, ss0, av0, cs0) v') (nI mx) sc oc ne (nI n) 1 nc on yp yu ye st yl yr m 0 al ap cb cn ac eu ea eb sU sL sK sE sG sO kx ky kd pl rl cm hv ba ad ex cy tc ss av cs bi ou := sy_start hn (gy _ ⟨rfl, hI⟩)
    have keyX := gx (fun r u' => wpY_run (fun r' v' => r' = r ∧ i_Rel (k + 5) u' v') (sc, oc, ne, nI n, 1, nc, on, yp, yu, ye, st, yl, yr, al, ap, cb, cn, ac, eu, ea, eb, sU, sL, sK, sE, sG, sO, kx, ky, kd, pl, rl, cm, hv, ba, ad, ex, cy, tc, ss, av, cs, bi, ou) v1) (br_t rfl (mY (fun x2 => ∃ m, wY_run_36 (fun r' v' => r' = ra0 ∧ i_Rel (k + 5) (sc0, oc0, ne0, ns0, ca0, on0, st0, ra0, xu0, xn0, xe0, xd0, al0, ap0, ac0, en0, eu0, ea0, eb0, sU0, sL0, sK0, sE0, sG0, sO0, gr0, po0, ec0, cx0, ou0, tc0, ss0, av0, cs0) v') x2 sc oc ne (nI n) 1 nc on yp yu ye st yl yr m 0 al ap cb cn ac eu ea eb sU sL sK sE sG sO kx ky kd pl rl cm hv ba ad ex cy tc ss av cs bi ou) key))
    exact br_t rfl (mX _ (sx_start hn keyX))
  · exact br_f c1 (br_f c1 ⟨rfl, i_mk hsc hoc hD hS hca hyl hra hC⟩)
end
section
/-! the owed statements of the declaring methods -/
theorem vq_en {en cb cn : Nat → Int32} {i b m : Nat} (hb : b < 4) (hm : m < 8) (h : ∀ j, j < 32 → fa_R 4 (cb j) ∧ fa_R 8 (cn j) ∧ en j = cb j * 8 + cn j) : ∀ j, j < 32 → fa_R 4 (upd cb i (nI b) j) ∧ fa_R 8 (upd cn i (nI m) j) ∧ upd en i (nI (b * 8 + m)) j = upd cb i (nI b) j * 8 + upd cn i (nI m) j := by
  intro j hj
  by_cases e : j = i
  · subst e
    rw [pk_us, pk_us, pk_us, ha_us]
    exact ⟨⟨b, hb, rfl⟩, ⟨m, hm, rfl⟩, rfl⟩
  · rw [pk_un e, pk_un e, pk_un e]
    exact h j hj
theorem i_vc_dimension {k : Nat} {u : SX} {v : SY} (I : i_Rel k u v) (hk : k + 5 ≤ 2562) (v1 : Int32) (v2 : Int32) (v3 : Int32) : wpX_dimension (fun r u' => wpY_dimension (fun r' v' => r' = r ∧ i_Rel (k + 5) u' v') v v1 v2 v3) u v1 v2 v3 := by
  refine i_el (Q := fun u v => wpX_dimension (fun r u' => wpY_dimension (fun r' v' => r' = r ∧ i_Rel (k + 5) u' v') v v1 v2 v3) u v1 v2 v3) I ?_
  intro sc oc ne ns ca on st ra xu xn xe xd nc yp yu ye yl yr al ap ac en eu ea eb sU sL sK sE sG sO gr po ec cx ou tc ss av cs cb cn kx ky kd pl rl cm hv ba ad ex cy bi hsc hoc hD hS hca hyl hra hC
  by_cases c : ca = 0 ∧ fa_R 4 v1 ∧ fa_R 8 v2 ∧ fa_L v3
  · obtain ⟨rfl, ⟨u, hu, rfl⟩, ⟨m, hm, rfl⟩, l, l1, l16, rfl⟩ := c
    refine vx_dim1 hu hm l1 l16 (vy_dim1 hu hm l1 l16 ⟨rfl, i_mk hsc hoc ?_ ?_ hca hyl hra (fun z => absurd z (by decide))⟩)
    · obtain ⟨q, hq, d1, d2⟩ := hD
      refine ⟨q, hq, fun j hj => ?_, d2⟩
      by_cases e : j = u * 8 + m
      · subst e
        exact ⟨l, l1, l16, pk_us⟩
      · rw [pk_un e]
        exact d1 j hj
    · obtain ⟨n, hn, e, S, _⟩ := hS
      exact ⟨n, hn, e, S, fun z => absurd z (by decide)⟩
  · exact vx_dim0 c (vy_dim0 c ⟨rfl, i_mk hsc hoc hD hS hca hyl hra hC⟩)
theorem i_vc_parameters {k : Nat} {u : SX} {v : SY} (I : i_Rel k u v) (hk : k + 5 ≤ 2562) (v1 : Int32) (v2 : Int32) : wpX_parameters (fun r u' => wpY_parameters (fun r' v' => r' = r ∧ i_Rel (k + 5) u' v') v v1 v2) u v1 v2 := by
  refine i_el (Q := fun u v => wpX_parameters (fun r u' => wpY_parameters (fun r' v' => r' = r ∧ i_Rel (k + 5) u' v') v v1 v2) u v1 v2) I ?_
  intro sc oc ne ns ca on st ra xu xn xe xd nc yp yu ye yl yr al ap ac en eu ea eb sU sL sK sE sG sO gr po ec cx ou tc ss av cs cb cn kx ky kd pl rl cm hv ba ad ex cy bi hsc hoc hD hS hca hyl hra hC
  by_cases c : ca = 0 ∧ fa_U v1 ∧ fa_R 4 v2
  · obtain ⟨rfl, ⟨u, u1, hu, rfl⟩, m, hm, rfl⟩ := c
    refine vx_par1 u1 hu hm (vy_par1 u1 hu hm ⟨rfl, i_mk hsc hoc ?_ ?_ hca hyl hra (fun z => absurd z (by decide))⟩)
    · obtain ⟨q, hq, d1, d2, d3, d4⟩ := hD
      refine ⟨q, hq, d1, by rw [pk_un (by omega)]; exact d2, fun j hj => ?_, d4⟩
      by_cases e : j = u
      · subst e
        rw [pk_us]
        exact ⟨m, hm, rfl⟩
      · rw [pk_un e]
        exact d3 j hj
    · obtain ⟨n, hn, e, S, _⟩ := hS
      exact ⟨n, hn, e, S, fun z => absurd z (by decide)⟩
  · exact vx_par0 c (vy_par0 c ⟨rfl, i_mk hsc hoc hD hS hca hyl hra hC⟩)
theorem i_vc_common {k : Nat} {u : SX} {v : SY} (I : i_Rel k u v) (hk : k + 5 ≤ 2562) (v1 : Int32) (v2 : Int32) (v3 : Int32) : wpX_common (fun r u' => wpY_common (fun r' v' => r' = r ∧ i_Rel (k + 5) u' v') v v1 v2 v3) u v1 v2 v3 := by
  refine i_el (Q := fun u v => wpX_common (fun r u' => wpY_common (fun r' v' => r' = r ∧ i_Rel (k + 5) u' v') v v1 v2 v3) u v1 v2 v3) I ?_
  intro sc oc ne ns ca on st ra xu xn xe xd nc yp yu ye yl yr al ap ac en eu ea eb sU sL sK sE sG sO gr po ec cx ou tc ss av cs cb cn kx ky kd pl rl cm hv ba ad ex cy bi hsc hoc hD hS hca hyl hra hC
  by_cases c : ca = 0 ∧ fa_R 4 v1 ∧ fa_R 4 v2 ∧ fa_R 8 v3 ∧ ac v1.toNatClampNeg < 8
  · obtain ⟨rfl, ⟨u, hu, rfl⟩, ⟨b, hb, rfl⟩, ⟨m, hm, rfl⟩, ha⟩ := c
    rw [nI_clamp (by omega)] at ha
    obtain ⟨q, hq, d1, d2, d3, d4, d5, d6⟩ := hD
    obtain ⟨l, hl, el⟩ := d4 u hu
    have l8 : l < 8 := by
      rw [el] at ha
      exact (nI_ltI (b := 8) (by omega) (by decide)).mp ha
    refine vx_com1 hu hb hm l8 el (vy_com1 hu hb hm l8 el ⟨rfl, i_mk hsc hoc ⟨q, hq, d1, d2, d3, fun j hj => ?_, vq_en hb hm d5, d6⟩ ?_ hca hyl hra (fun z => absurd z (by decide))⟩)
    · by_cases e : j = u
      · subst e
        rw [pk_us]
        exact ⟨l + 1, by omega, rfl⟩
      · rw [pk_un e]
        exact d4 j hj
    · obtain ⟨n, hn, e, S, _⟩ := hS
      exact ⟨n, hn, e, S, fun z => absurd z (by decide)⟩
  · exact vx_com0 c (vy_com0 c ⟨rfl, i_mk hsc hoc hD hS hca hyl hra hC⟩)
theorem i_vc_equivalence {k : Nat} {u : SX} {v : SY} (I : i_Rel k u v) (hk : k + 5 ≤ 2562) (v1 : Int32) (v2 : Int32) (v3 : Int32) : wpX_equivalence (fun r u' => wpY_equivalence (fun r' v' => r' = r ∧ i_Rel (k + 5) u' v') v v1 v2 v3) u v1 v2 v3 := by
  refine i_el (Q := fun u v => wpX_equivalence (fun r u' => wpY_equivalence (fun r' v' => r' = r ∧ i_Rel (k + 5) u' v') v v1 v2 v3) u v1 v2 v3) I ?_
  intro sc oc ne ns ca on st ra xu xn xe xd nc yp yu ye yl yr al ap ac en eu ea eb sU sL sK sE sG sO gr po ec cx ou tc ss av cs cb cn kx ky kd pl rl cm hv ba ad ex cy bi hsc hoc hD hS hca hyl hra hC
  by_cases c : ca = 0 ∧ fa_R 4 v1 ∧ fa_F v2 ∧ fa_F v3 ∧ ne < 16
  · obtain ⟨rfl, hu, f1, f2, hm⟩ := c
    obtain ⟨m, rfl, d1, d2, d3, d4, d5, d6, d7⟩ := hD
    have m16 : m < 16 := (nI_ltI (b := 16) (by omega) (by decide)).mp hm
    refine vx_eqv1 hu f1 f2 m16 (vy_eqv1 hu f1 f2 m16 ⟨rfl, i_mk hsc hoc ⟨m + 1, rfl, d1, d2, d3, d4, d5, by omega, fun e he => ?_⟩ ?_ hca hyl hra (fun z => absurd z (by decide))⟩)
    · by_cases z : e = m
      · subst z
        rw [pk_us, pk_us, pk_us]
        exact ⟨hu, f1, f2⟩
      · rw [pk_un z, pk_un z, pk_un z]
        exact d7 e (by omega)
    · obtain ⟨n, hn, e, S, _⟩ := hS
      exact ⟨n, hn, e, S, fun z => absurd z (by decide)⟩
  · exact vx_eqv0 c (vy_eqv0 c ⟨rfl, i_mk hsc hoc hD hS hca hyl hra hC⟩)
theorem i_vc_statement {k : Nat} {u : SX} {v : SY} (I : i_Rel k u v) (hk : k + 5 ≤ 2562) (v1 : Int32) (v2 : Int32) (v3 : Int32) (v4 : Int32) : wpX_statement (fun r u' => wpY_statement (fun r' v' => r' = r ∧ i_Rel (k + 5) u' v') v v1 v2 v3 v4) u v1 v2 v3 v4 := by
  refine i_el (Q := fun u v => wpX_statement (fun r u' => wpY_statement (fun r' v' => r' = r ∧ i_Rel (k + 5) u' v') v v1 v2 v3 v4) u v1 v2 v3 v4) I ?_
  intro sc oc ne ns ca on st ra xu xn xe xd nc yp yu ye yl yr al ap ac en eu ea eb sU sL sK sE sG sO gr po ec cx ou tc ss av cs cb cn kx ky kd pl rl cm hv ba ad ex cy bi hsc hoc hD hS hca hyl hra hC
  have hS0 := hS
  obtain ⟨n, hn, rfl, S, C⟩ := hS
  by_cases c : ca = 0 ∧ fb_pend n sK sE sG = 0 ∧ nI n < sc ∧ fa_R 4 v1 ∧ fa_R 100 v2 ∧ fa_X v3 v4
  · obtain ⟨rfl, hp, hlt, hu, hl, hx⟩ := c
    have hsc0 := hsc
    obtain ⟨scn, s8, s64, es⟩ := hsc
    have nl : n < scn := by
      rw [es] at hlt
      exact (nI_ltI (by omega) (by omega)).mp hlt
    exact vx_stm1 S hp es s64 nl hu hl hx (vy_stm1 S hp es s64 nl hu hl hx ⟨rfl, i_mk hsc0 hoc hD ⟨n + 1, by omega, rfl, vs_new S hp (by decide) hu hl hx, fun z => absurd z (by decide)⟩ hca hyl hra (fun z => absurd z (by decide))⟩)
  · exact vx_stm0 hn S c (vy_stm0 hn S c ⟨rfl, i_mk hsc hoc hD hS0 hca hyl hra hC⟩)
theorem i_vc_operand {k : Nat} {u : SX} {v : SY} (I : i_Rel k u v) (hk : k + 5 ≤ 2562) (v1 : Int32) : wpX_operand (fun r u' => wpY_operand (fun r' v' => r' = r ∧ i_Rel (k + 5) u' v') v v1) u v1 := by
  refine i_el (Q := fun u v => wpX_operand (fun r u' => wpY_operand (fun r' v' => r' = r ∧ i_Rel (k + 5) u' v') v v1) u v1) I ?_
  intro sc oc ne ns ca on st ra xu xn xe xd nc yp yu ye yl yr al ap ac en eu ea eb sU sL sK sE sG sO gr po ec cx ou tc ss av cs cb cn kx ky kd pl rl cm hv ba ad ex cy bi hsc hoc hD hS hca hyl hra hC
  have hS0 := hS
  obtain ⟨n, hn, rfl, S, C⟩ := hS
  by_cases c : ca = 0 ∧ fb_pend n sK sE sG ≠ 0
  · obtain ⟨rfl, hp⟩ := c
    refine vx_opd hn S hp (fun a => vy_opd hn S hp (fun _ => ⟨rfl, i_mk hsc hoc hD ⟨n, hn, rfl, vs_more S (by decide) hp a, fun z => absurd z (by decide)⟩ hca hyl hra (fun z => absurd z (by decide))⟩) (fun z => absurd a z)) (fun a => vy_opd hn S hp (fun z => absurd z a) (fun _ => ⟨rfl, i_mk hsc hoc hD hS0 hca hyl hra hC⟩))
  · exact vx_opd0 hn S c (vy_opd0 hn S c ⟨rfl, i_mk hsc hoc hD hS0 hca hyl hra hC⟩)
theorem i_vc_output {k : Nat} {u : SX} {v : SY} (I : i_Rel k u v) (hk : k + 5 ≤ 2562) (v1 : Int32) : wpX_output (fun r => wpY_output (fun r' => r' = r ∧ i_Rel (k + 5) u v) v v1) u v1 := by
  refine i_el (Q := fun u v => wpX_output (fun r => wpY_output (fun r' => r' = r ∧ i_Rel (k + 5) u v) v v1) u v1) I ?_
  intro sc oc ne ns ca on st ra xu xn xe xd nc yp yu ye yl yr al ap ac en eu ea eb sU sL sK sE sG sO gr po ec cx ou tc ss av cs cb cn kx ky kd pl rl cm hv ba ad ex cy bi hsc hoc hD hS hca hyl hra hC
  have I' : i_Rel (k + 5) (sc, oc, ne, ns, ca, on, st, ra, xu, xn, xe, xd, al, ap, ac, en, eu, ea, eb, sU, sL, sK, sE, sG, sO, gr, po, ec, cx, ou, tc, ss, av, cs) (sc, oc, ne, ns, ca, nc, on, yp, yu, ye, st, yl, yr, al, ap, cb, cn, ac, eu, ea, eb, sU, sL, sK, sE, sG, sO, kx, ky, kd, pl, rl, cm, hv, ba, ad, ex, cy, tc, ss, av, cs, bi, ou) := i_mk hsc hoc hD hS hca hyl hra hC
  obtain ⟨c, o, c4, c32, e1, ho, rfl⟩ := hoc
  rcases pk_ix v1 (n := o) (by omega) with a | a | ⟨j, hj, rfl⟩
  · exact br_t a (br_t a ⟨rfl, I'⟩)
  · have a0 : ¬ v1 < 0 := fun z => absurd (Int32.lt_of_le_of_lt a z) (nI_pos (by omega))
    exact br_f a0 (br_t a (br_f a0 (br_f (Int32.not_lt.mpr a) ⟨rfl, I'⟩)))
  · have vj : vp_in (nI j) 32 := vp_in_nI (by omega) (by decide)
    exact br_f (nI_pos (by omega)) (br_f (nI_ge hj (by omega)) ⟨vj, br_f (nI_pos (by omega)) (br_t (nI_lt hj (by omega)) ⟨vj, rfl, I'⟩)⟩)
end
