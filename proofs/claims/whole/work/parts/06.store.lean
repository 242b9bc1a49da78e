section GMEM
/-! the two stores: RC a b says that the class's cell a and the reference's address b are one cell -/
def fm_Bi (RC : Nat → Nat → Prop) : Prop := (∀ a b, RC a b → a < 512 ∧ b < 512) ∧ (∀ a b a' b', RC a b → RC a' b' → (a = a' ↔ b = b'))
def fm_Mem (RC : Nat → Nat → Prop) (cx cy : Nat → Int32) : Prop := ∀ a b, RC a b → cx a = cy b
theorem fm_put {RC : Nat → Nat → Prop} {cx cy : Nat → Int32} {a b : Nat} {v : Int32} (B : fm_Bi RC) (M : fm_Mem RC cx cy) (h : RC a b) : fm_Mem RC (upd cx a v) (upd cy b v) := by
  intro a' b' h'
  by_cases e : a' = a
  · have e' : b' = b := (B.2 a' b' a b h' h).mp e
    rw [e, e', pk_us, pk_us]
  · have e' : b' ≠ b := fun z => e ((B.2 a' b' a b h' h).mpr z)
    rw [pk_un e, pk_un e']
    exact M a' b' h'
/-- every element of a stored name: its cell and its address -/
def fm_Sto (RC : Nat → Nat → Prop) (L P : Nat → Nat) (ec ad : Nat → Int32) : Prop :=
  ∀ k i, k < 32 → gd_St P k → 1 ≤ i → i ≤ L k → ∃ a b, RC a b ∧ ec (k * 16 + i - 1) = nI a ∧ ∃ d, ad k = nI d ∧ b = d + i - 1 ∧ d < 512
/-- .. and of the dummies of unit u, once it is called -/
def fm_Bnd (RC : Nat → Nat → Prop) (P : Nat → Nat) (ec bi : Nat → Int32) (u : Nat) : Prop :=
  ∀ n, n < P u → ∃ a b, RC a b ∧ ec ((u * 8 + n) * 16) = nI a ∧ bi (u * 4 + n) = nI b
/-- the relation that the two layouts give -/
def fm_RC (L P : Nat → Nat) (ec ad : Nat → Int32) (a b : Nat) : Prop := ∃ k i, k < 32 ∧ gd_St P k ∧ 1 ≤ i ∧ i ≤ L k ∧ ec (k * 16 + i - 1) = nI a ∧ a < 512 ∧ ∃ d, ad k = nI d ∧ d < 512 ∧ b = d + i - 1
theorem fm_make {L P : Nat → Nat} {C : ga_T} {g q cm rl ec ad : Nat → Int32} (HL : gb_Lay C g q cm rl) (hL : ∀ k, k < 32 → 1 ≤ L k ∧ L k ≤ 16)
    (hx : ∀ k i, k < 32 → 1 ≤ i → i ≤ L k → ∃ e, gb_Fst g q L k i e ∧ ec (k * 16 + i - 1) = nI e)
    (h1 : ∀ k, k < 32 → gd_St P k → ∃ A, ad k = nI A ∧ A + L k ≤ 512)
    (h2 : ∀ k k' i i' A A', k < 32 → k' < 32 → gd_St P k → gd_St P k' → 1 ≤ i → i ≤ L k → 1 ≤ i' → i' ≤ L k' → A < 512 → A' < 512 → ad k = nI A → ad k' = nI A' → (A + i = A' + i' ↔ (cm k = cm k' ∧ rl k + nI i = rl k' + nI i'))) :
    fm_Bi (fm_RC L P ec ad) ∧ fm_Sto (fm_RC L P ec ad) L P ec ad := by
  have q2 : ∀ k k' i i', k < 32 → k' < 32 → ((g k = g k' ∧ q k + nI i = q k' + nI i') ↔ (cm k = cm k' ∧ rl k + nI i = rl k' + nI i')) := by
    intro k k' i i' hk hk'
    have a := HL.1 k k' (by omega) (by omega)
    constructor
    · rintro ⟨e1, e2⟩
      have b := HL.2.1 k k' (by omega) (by omega) e1
      exact ⟨a.mp e1, by grind⟩
    · rintro ⟨e1, e2⟩
      have b := HL.2.1 k k' (by omega) (by omega) (a.mpr e1)
      exact ⟨a.mpr e1, by grind⟩
  refine ⟨⟨?_, ?_⟩, ?_⟩
  · rintro a b ⟨k, i, hk, sk, i1, i2, e1, la, d, e2, ld, rfl⟩
    obtain ⟨A, eA, lA⟩ := h1 k hk sk
    have : d = A := fa_inj (by omega) (by omega) (e2.symm.trans eA)
    exact ⟨la, by omega⟩
  · rintro a b a' b' ⟨k, i, hk, sk, i1, i2, e1, la, d, e2, ld, rfl⟩ ⟨k', i', hk', sk', i1', i2', e1', la', d', e2', ld', rfl⟩
    obtain ⟨e, fe, ee⟩ := hx k i hk i1 i2
    obtain ⟨e', fe', ee'⟩ := hx k' i' hk' i1' i2'
    have l1 := gb_fst_lt fe
    have l2 := gb_fst_lt fe'
    have ea : a = e := fa_inj (by omega) (by omega) (e1.symm.trans ee)
    have ea' : a' = e' := fa_inj (by omega) (by omega) (e1'.symm.trans ee')
    have t1 := gb_fst_iff fe fe'
    have t2 := h2 k k' i i' d d' hk hk' sk sk' i1 i2 i1' i2' ld ld' e2 e2'
    rw [ea, ea', t1, q2 k k' i i' hk hk', ← t2]
    omega
  · intro k i hk sk i1 i2
    obtain ⟨e, fe, ee⟩ := hx k i hk i1 i2
    obtain ⟨A, eA, lA⟩ := h1 k hk sk
    have l1 := gb_fst_lt fe
    exact ⟨e, A + i - 1, ⟨k, i, hk, sk, i1, i2, ee, l1, A, eA, by omega, rfl⟩, ee, A, eA, rfl, by omega⟩
/-- the cell of element i of name n in unit u, on both sides -/
theorem fm_loc {RC : Nat → Nat → Prop} {L P : Nat → Nat} {ec ad bi : Nat → Int32} {u n i : Nat} (S : fm_Sto RC L P ec ad) (B : fm_Bnd RC P ec bi u) (hu : u < 4) (hn : n < 8) (h1 : 1 ≤ i) (hi : i ≤ L (u * 8 + n)) (hd : n < P u → L (u * 8 + n) = 1) :
    ∃ a b, RC a b ∧ ec ((u * 8 + n) * 16 + i - 1) = nI a ∧ ((n < P u ∧ bi (u * 4 + n) = nI b) ∨ (¬ n < P u ∧ ∃ d, ad (u * 8 + n) = nI d ∧ b = d + i - 1 ∧ d < 512)) := by
  by_cases c : n < P u
  · obtain ⟨a, b, r, e1, e2⟩ := B n c
    have e : i = 1 := by have := hd c; omega
    subst e
    exact ⟨a, b, r, e1, Or.inl ⟨c, e2⟩⟩
  · obtain ⟨a, b, r, e1, d, e2, e3, e4⟩ := S (u * 8 + n) i (by omega) (by unfold gd_St; rw [show (u * 8 + n) % 8 = n by omega, show (u * 8 + n) / 8 = u by omega]; exact c) h1 hi
    exact ⟨a, b, r, e1, Or.inr ⟨c, d, e2, e3, e4⟩⟩
/-- a dummy's entry rewritten: stored names keep theirs -/
theorem fm_stoU {RC : Nat → Nat → Prop} {L P : Nat → Nat} {ec ad : Nat → Int32} {u n : Nat} {v : Int32} (S : fm_Sto RC L P ec ad) (hL : ∀ k, k < 32 → 1 ≤ L k ∧ L k ≤ 16) (hu : u < 4) (hn : n < 8) (hd : n < P u) : fm_Sto RC L P (upd ec ((u * 8 + n) * 16) v) ad := by
  intro k i hk sk i1 i2
  have l := hL k hk
  have ne : k * 16 + i - 1 ≠ (u * 8 + n) * 16 := by
    intro z
    have : k = u * 8 + n := by omega
    subst this
    unfold gd_St at sk
    rw [show (u * 8 + n) % 8 = n by omega, show (u * 8 + n) / 8 = u by omega] at sk
    exact sk hd
  rw [pk_un ne]
  exact S k i hk sk i1 i2
/-- the chain of active units, the current one first -/
def fm_Ch (par : Nat → Nat) : List Nat → Prop
  | [] => False
  | [u] => u = 0
  | u :: w :: l => u ≠ 0 ∧ u < 4 ∧ par u = w ∧ fm_Ch par (w :: l)
theorem fm_chNe {par : Nat → Nat} {u : Nat} {l : List Nat} (h : fm_Ch par (u :: l)) (n : u ≠ 0) : ∃ w l', l = w :: l' ∧ u < 4 ∧ par u = w ∧ fm_Ch par (w :: l') := by
  cases l with
  | nil => exact absurd h n
  | cons w l' => exact ⟨w, l', rfl, h.2.1, h.2.2.1, h.2.2.2⟩
theorem fm_ch4 {par : Nat → Nat} : ∀ {l : List Nat} {u : Nat}, fm_Ch par (u :: l) → u < 4 := by
  intro l u h
  cases l with
  | nil => have : u = 0 := h; omega
  | cons w l' => exact h.2.1
theorem fm_chUp {par : Nat → Nat} {c w : Nat} : ∀ {l : List Nat}, c ∉ l → fm_Ch par l → fm_Ch (fun x => if x = c then w else par x) l := by
  intro l
  induction l with
  | nil => intro _ h; exact h
  | cons u l ih =>
    intro nc h
    cases l with
    | nil => exact h
    | cons v l' =>
      have ne : u ≠ c := fun z => nc (z ▸ List.mem_cons_self)
      refine ⟨h.1, h.2.1, ?_, ih (fun z => nc (List.mem_cons_of_mem _ z)) h.2.2.2⟩
      show (if u = c then w else par u) = v
      rw [if_neg ne]
      exact h.2.2.1
end GMEM
