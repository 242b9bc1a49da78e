section
/-! numbers: rows pasted from the kit (pk_, lp, ek_, co_, sb_), then my own (fa_) -/
/-! my own: an array read as naturals; ranges; literals -/
def fa_N (a : Nat → Int32) : Nat → Nat := fun i => (a i).toNatClampNeg
def fa_R (n : Nat) (x : Int32) : Prop := ∃ j, j < n ∧ x = nI j
theorem fa_Rn {n : Nat} {a : Nat → Int32} {i : Nat} (h : fa_R n (a i)) (hn : n < 2 ^ 31) : a i = nI (fa_N a i) ∧ fa_N a i < n := by
  obtain ⟨j, hj, e⟩ := h
  have e2 : fa_N a i = j := by show (a i).toNatClampNeg = j; rw [e, nI_clamp (by omega)]
  rw [e2]
  exact ⟨e, hj⟩
theorem fa_Re {a : Nat → Int32} {i j : Nat} (h : a i = nI j) (hj : j < 2 ^ 31) : fa_N a i = j := by
  show (a i).toNatClampNeg = j
  rw [h, nI_clamp hj]
theorem fa_Nu {a : Nat → Int32} {k j v : Nat} (hv : v < 2 ^ 31) : fa_N (upd a k (nI v)) j = if j = k then v else fa_N a j := by
  show (upd a k (nI v) j).toNatClampNeg = _
  by_cases e : j = k
  · rw [if_pos e, e, pk_us, nI_clamp hv]
  · rw [if_neg e, pk_un e]; rfl
theorem fa_inj {a b : Nat} (ha : a < 2 ^ 31) (hb : b < 2 ^ 31) (h : nI a = nI b) : a = b := (nI_eq ha hb).mp h
theorem fa_ne {a b : Nat} (ha : a < 2 ^ 31) (hb : b < 2 ^ 31) (h : a ≠ b) : ¬ nI a = nI b := fun e => h (fa_inj ha hb e)
theorem fa_m1 {a : Nat} (h : a < 2 ^ 31) : ¬ nI a = -1 := by
  intro e
  have := nI_pos (n := a) h
  rw [e] at this
  exact this (by decide)
theorem fa_m1' {a : Nat} (h : a < 2 ^ 31) : ¬ (-1 : Int32) = nI a := fun e => fa_m1 h e.symm
end
section
section GLAY
/-! the layout's mathematics: constraints p x = p y + d over 36 unknowns, each side against 'solution' and 'closed set' -/
abbrev ga_T : Type := Nat → Nat → Int32 → Prop
def ga_Sol (C : ga_T) (p : Nat → Int32) : Prop := ∀ x y d, C x y d → p x = p y + d
def ga_Cl (C : ga_T) (Q : Nat → Prop) : Prop := ∀ x y d, C x y d → (Q x ↔ Q y)
def ga_IX (C S : ga_T) (g q : Nat → Int32) : Prop :=
  (∀ x y d, S x y d → x < 36 ∧ y < 36 ∧ g x = g y ∧ q x = q y + d) ∧
  (∀ p, ga_Sol C p → ∀ x y, x < 36 → y < 36 → g x = g y → p x - p y = q x - q y) ∧
  (∀ Q, ga_Cl C Q → ∀ x y, x < 36 → y < 36 → g x = g y → (Q x ↔ Q y)) ∧
  (∀ x, x < 36 → ∃ j, j < 36 ∧ g x = nI j ∧ g j = nI j ∧ q j = 0)
def ga_g (g : Nat → Int32) (o n : Int32) (i : Nat) : Nat → Int32 := fun j => if j < i ∧ g j = o then n else g j
def ga_q (g q : Nat → Int32) (o s : Int32) (i : Nat) : Nat → Int32 := fun j => if j < i ∧ g j = o then q j + s else q j
theorem ga_ix0 {C : ga_T} {g q : Nat → Int32} (hg : ∀ x, x < 36 → g x = nI x) (hq : ∀ x, x < 36 → q x = 0) : ga_IX C (fun _ _ _ => False) g q := by
  have inj : ∀ x y, x < 36 → y < 36 → g x = g y → x = y := by
    intro x y hx hy e
    rw [hg x hx, hg y hy] at e
    exact (nI_eq (by omega) (by omega)).mp e
  refine ⟨fun _ _ _ h => h.elim, ?_, ?_, ?_⟩
  · intro p _ x y hx hy e
    cases inj x y hx hy e
    rw [Int32.sub_self, Int32.sub_self]
  · intro Q _ x y hx hy e
    cases inj x y hx hy e
    exact Iff.rfl
  · intro x hx
    exact ⟨x, hx, hg x hx, hg x hx, hq x hx⟩
theorem ga_ixSame {C S : ga_T} {g q : Nat → Int32} {x y : Nat} {d : Int32} (H : ga_IX C S g q) (hx : x < 36) (hy : y < 36) (e : g x = g y) (e2 : q y + d - q x = 0) :
    ga_IX C (fun a b e => S a b e ∨ (a = x ∧ b = y ∧ e = d)) g q := by
  obtain ⟨h1, h2, h3, h4⟩ := H
  refine ⟨?_, h2, h3, h4⟩
  intro a b f hab
  rcases hab with hab | ⟨rfl, rfl, rfl⟩
  · exact h1 a b f hab
  · exact ⟨hx, hy, e, by grind⟩
theorem ga_ixBad {C S : ga_T} {g q : Nat → Int32} {x y : Nat} {d : Int32} (H : ga_IX C S g q) (hC : C x y d) (hx : x < 36) (hy : y < 36) (e : g x = g y) (e2 : ¬ q y + d - q x = 0) :
    ¬ ∃ p, ga_Sol C p := by
  rintro ⟨p, hp⟩
  have a := H.2.1 p hp x y hx hy e
  have b := hp x y d hC
  exact e2 (by grind)
theorem ga_ixJoin {C S : ga_T} {g q : Nat → Int32} {x y : Nat} {d : Int32} (H : ga_IX C S g q) (hC : C x y d) (hx : x < 36) (hy : y < 36) (ne : g x ≠ g y) :
    ga_IX C (fun a b e => S a b e ∨ (a = x ∧ b = y ∧ e = d)) (ga_g g (g x) (g y) 36) (ga_q g q (g x) (q y + d - q x) 36) := by
  obtain ⟨h1, h2, h3, h4⟩ := H
  have rx : ∀ a, a < 36 → g a = g x → ga_g g (g x) (g y) 36 a = g y := fun a ha e => if_pos ⟨ha, e⟩
  have rn : ∀ a, g a ≠ g x → ga_g g (g x) (g y) 36 a = g a := fun a e => if_neg (fun z => e z.2)
  have px : ∀ a, a < 36 → g a = g x → ga_q g q (g x) (q y + d - q x) 36 a = q a + (q y + d - q x) := fun a ha e => if_pos ⟨ha, e⟩
  have pn : ∀ a, g a ≠ g x → ga_q g q (g x) (q y + d - q x) 36 a = q a := fun a e => if_neg (fun z => e z.2)
  refine ⟨?_, ?_, ?_, ?_⟩
  · intro a b f hab
    rcases hab with hab | ⟨rfl, rfl, rfl⟩
    · obtain ⟨ha, hb, e1, e2⟩ := h1 a b f hab
      refine ⟨ha, hb, ?_⟩
      by_cases z : g a = g x
      · have z' : g b = g x := by rw [← e1, z]
        rw [rx a ha z, rx b hb z', px a ha z, px b hb z']
        exact ⟨rfl, by grind⟩
      · have z' : g b ≠ g x := by rw [← e1]; exact z
        rw [rn a z, rn b z', pn a z, pn b z']
        exact ⟨e1, e2⟩
    · refine ⟨hx, hy, ?_⟩
      rw [rx a hx rfl, rn b (fun z => ne z.symm), px a hx rfl, pn b (fun z => ne z.symm)]
      exact ⟨rfl, by grind⟩
  · intro p hp a b ha hb e
    have hxy := hp x y d hC
    by_cases za : g a = g x
    · have e1 := h2 p hp a x ha hx za
      by_cases zb : g b = g x
      · have e2 := h2 p hp b x hb hx zb
        rw [px a ha za, px b hb zb]
        grind
      · rw [rx a ha za, rn b zb] at e
        have e2 := h2 p hp y b hy hb e
        rw [px a ha za, pn b zb]
        grind
    · by_cases zb : g b = g x
      · have e2 := h2 p hp b x hb hx zb
        rw [rn a za, rx b hb zb] at e
        have e1 := h2 p hp a y ha hy e
        rw [pn a za, px b hb zb]
        grind
      · rw [rn a za, rn b zb] at e
        rw [pn a za, pn b zb]
        exact h2 p hp a b ha hb e
  · intro Q hQ a b ha hb e
    have hxy := hQ x y d hC
    by_cases za : g a = g x
    · have e1 := h3 Q hQ a x ha hx za
      by_cases zb : g b = g x
      · exact e1.trans (h3 Q hQ b x hb hx zb).symm
      · rw [rx a ha za, rn b zb] at e
        exact e1.trans (hxy.trans (h3 Q hQ y b hy hb e))
    · by_cases zb : g b = g x
      · rw [rn a za, rx b hb zb] at e
        exact (h3 Q hQ a y ha hy e).trans (hxy.symm.trans (h3 Q hQ b x hb hx zb).symm)
      · rw [rn a za, rn b zb] at e
        exact h3 Q hQ a b ha hb e
  · intro a ha
    by_cases za : g a = g x
    · obtain ⟨j, hj, e1, e2, e3⟩ := h4 y hy
      have nj : g j ≠ g x := by rw [e2, ← e1]; exact fun z => ne z.symm
      exact ⟨j, hj, by rw [rx a ha za, e1], by rw [rn j nj, e2], by rw [pn j nj, e3]⟩
    · obtain ⟨j, hj, e1, e2, e3⟩ := h4 a ha
      have nj : g j ≠ g x := by rw [e2, ← e1]; exact za
      exact ⟨j, hj, by rw [rn a za, e1], by rw [rn j nj, e2], by rw [pn j nj, e3]⟩

/-! the reference: spread from a root -/
def ga_C (fx fy : Nat → Nat) (D : Nat → Int32) (m : Nat) : ga_T := fun x y d => ∃ c, c < m ∧ fx c = x ∧ fy c = y ∧ D c = d
def ga_cnt (pl : Nat → Int32) : Nat → Nat
  | 0 => 0
  | n + 1 => ga_cnt pl n + (if pl n = 0 then 0 else 1)
theorem ga_cnt_le (pl : Nat → Int32) : ∀ n, ga_cnt pl n ≤ n := by
  intro n
  induction n with
  | zero => exact Nat.le_refl 0
  | succ n ih =>
    show ga_cnt pl n + (if pl n = 0 then 0 else 1) ≤ n + 1
    split <;> omega
theorem ga_cnt_up {pl : Nat → Int32} {w : Nat} (h : pl w = 0) : ∀ n, ga_cnt (upd pl w 1) n = ga_cnt pl n + (if w < n then 1 else 0) := by
  intro n
  induction n with
  | zero => rw [if_neg (Nat.not_lt_zero w)]; rfl
  | succ n ih =>
    show ga_cnt (upd pl w 1) n + (if upd pl w 1 n = 0 then 0 else 1) = ga_cnt pl n + (if pl n = 0 then 0 else 1) + _
    rw [ih]
    by_cases e : n = w
    · subst e
      have a1 : ¬ (upd pl n 1 n = 0) := by rw [pk_us]; decide
      rw [if_neg (Nat.lt_irrefl n), if_neg a1, if_pos h, if_pos (Nat.lt_succ_self n)]
    · rw [pk_un e]
      have q : (if w < n + 1 then 1 else 0 : Nat) = if w < n then 1 else 0 := by
        by_cases l : w < n
        · rw [if_pos l, if_pos (by omega)]
        · rw [if_neg l, if_neg (by omega)]
      rw [q]
      omega
def ga_Bd (pl rl : Nat → Int32) : Prop := ∀ z, z < 36 → pl z ≠ 0 → -(128 * (ga_cnt pl 36 : Int)) ≤ (rl z).toInt ∧ (rl z).toInt ≤ 128 * (ga_cnt pl 36 : Int)
def ga_IY (fx fy : Nat → Nat) (D : Nat → Int32) (m : Nat) (r : Nat) (E : Nat → Prop) (pl cm rl : Nat → Int32) : Prop :=
  (∀ c, c < m → (E (fx c) ↔ E (fy c))) ∧
  (∀ z, z < 36 → E z → pl z ≠ 0 ∧ ∃ j, j < r ∧ cm z = nI j) ∧
  (∀ c, c < m → E (fx c) → cm (fx c) = cm (fy c) ∧ rl (fx c) = rl (fy c) + D c) ∧
  (∀ z, z < 36 → pl z ≠ 0 → ¬ E z → cm z = nI r) ∧
  (∀ p, ga_Sol (ga_C fx fy D m) p → ∀ x y, x < 36 → y < 36 → pl x ≠ 0 → pl y ≠ 0 → cm x = cm y → p x - p y = rl x - rl y) ∧
  (∀ Q, ga_Cl (ga_C fx fy D m) Q → ∀ x y, x < 36 → y < 36 → pl x ≠ 0 → pl y ≠ 0 → cm x = cm y → (Q x ↔ Q y)) ∧
  ga_Bd pl rl
def ga_Ok (fx fy : Nat → Nat) (D : Nat → Int32) (pl cm rl : Nat → Int32) (c : Nat) : Prop :=
  (pl (fx c) ≠ 0 ∧ pl (fy c) ≠ 0 ∧ cm (fx c) = cm (fy c) ∧ rl (fx c) = rl (fy c) + D c) ∨ (pl (fx c) = 0 ∧ pl (fy c) = 0)
variable {fx fy : Nat → Nat} {D : Nat → Int32} {m r : Nat} {E : Nat → Prop} {pl cm rl : Nat → Int32}
theorem ga_addT {a b : Int32} (ha : -1000000 ≤ a.toInt ∧ a.toInt ≤ 1000000) (hb : -1000000 ≤ b.toInt ∧ b.toInt ≤ 1000000) : (a + b).toInt = a.toInt + b.toInt := by
  rw [Int32.toInt_add]
  exact Int.bmod_eq_of_le (by omega) (by omega)
theorem ga_subT {a b : Int32} (ha : -1000000 ≤ a.toInt ∧ a.toInt ≤ 1000000) (hb : -1000000 ≤ b.toInt ∧ b.toInt ≤ 1000000) : (a - b).toInt = a.toInt - b.toInt := by
  rw [Int32.toInt_sub]
  exact Int.bmod_eq_of_le (by omega) (by omega)
theorem ga_iyPut {v w : Nat} {δ t : Int32} (H : ga_IY fx fy D m r E pl cm rl) (hm : ∀ c, c < m → fx c < 36 ∧ fy c < 36) (hv : v < 36) (hw : w < 36) (pv : pl v ≠ 0) (pw : pl w = 0) (nE : ¬ E v)
    (hp : ∀ p, ga_Sol (ga_C fx fy D m) p → p w - p v = δ) (hQ : ∀ Q, ga_Cl (ga_C fx fy D m) Q → (Q w ↔ Q v)) (hd : -128 ≤ δ.toInt ∧ δ.toInt ≤ 128) (ht : t = rl v + δ) :
    ga_IY fx fy D m r E (upd pl w 1) (upd cm w (cm v)) (upd rl w t) := by
  obtain ⟨h1, h2, h3, h4, h5, h6, h7⟩ := H
  have vw : v ≠ w := fun e => pv (e ▸ pw)
  have Ew : ∀ z, z < 36 → E z → z ≠ w := fun z hz e ez => (h2 z hz e).1 (ez ▸ pw)
  have c4 : cm v = nI r := h4 v hv pv nE
  have one : (1 : Int32) ≠ 0 := by decide
  have hc := ga_cnt_up pw 36
  rw [if_pos hw] at hc
  refine ⟨h1, ?_, ?_, ?_, ?_, ?_, ?_⟩
  · intro z hz e
    rw [pk_un (Ew z hz e), pk_un (Ew z hz e)]
    exact h2 z hz e
  · intro c hcm e
    have n1 := Ew _ (hm c hcm).1 e
    have n2 := Ew _ (hm c hcm).2 ((h1 c hcm).mp e)
    rw [pk_un n1, pk_un n2, pk_un n1, pk_un n2]
    exact h3 c hcm e
  · intro z hz pz ne
    by_cases e : z = w
    · subst e
      rw [pk_us, c4]
    · rw [pk_un e] at pz ⊢
      exact h4 z hz pz ne
  · intro p sp x y hx hy px py e
    have k := hp p sp
    by_cases ex : x = w
    · subst ex
      by_cases ey : y = x
      · subst ey
        rw [Int32.sub_self, Int32.sub_self]
      · rw [pk_us, pk_un ey] at e
        rw [pk_un ey] at py
        rw [pk_us, pk_un ey, ht]
        have := h5 p sp v y hv hy pv py e
        grind
    · rw [pk_un ex] at px
      by_cases ey : y = w
      · subst ey
        rw [pk_us, pk_un ex] at e
        rw [pk_us, pk_un ex, ht]
        have := h5 p sp x v hx hv px pv e
        grind
      · rw [pk_un ey] at py
        rw [pk_un ex, pk_un ey] at e
        rw [pk_un ex, pk_un ey]
        exact h5 p sp x y hx hy px py e
  · intro Q sQ x y hx hy px py e
    have k := hQ Q sQ
    by_cases ex : x = w
    · subst ex
      by_cases ey : y = x
      · subst ey
        exact Iff.rfl
      · rw [pk_us, pk_un ey] at e
        rw [pk_un ey] at py
        exact k.trans (h6 Q sQ v y hv hy pv py e)
    · rw [pk_un ex] at px
      by_cases ey : y = w
      · subst ey
        rw [pk_us, pk_un ex] at e
        exact (h6 Q sQ x v hx hv px pv e).trans k.symm
      · rw [pk_un ey] at py
        rw [pk_un ex, pk_un ey] at e
        exact h6 Q sQ x y hx hy px py e
  · intro z hz pz
    have le := ga_cnt_le pl 36
    rw [hc]
    by_cases e : z = w
    · subst e
      have b := h7 v hv pv
      rw [pk_us, ht, ga_addT (by omega) (by omega)]
      omega
    · rw [pk_un e] at pz ⊢
      have b := h7 z hz pz
      omega
theorem ga_iyRoot (H : ga_IY fx fy D m r (fun z => pl z ≠ 0) pl cm rl) (hm : ∀ c, c < m → fx c < 36 ∧ fy c < 36) (hr : r < 36) (pr : pl r = 0) :
    ga_IY fx fy D m r (fun z => pl z ≠ 0) (upd pl r 1) (upd cm r (nI r)) (upd rl r 0) := by
  obtain ⟨h1, h2, h3, h4, h5, h6, h7⟩ := H
  have Er : ∀ z, pl z ≠ 0 → z ≠ r := fun z e ez => e (ez ▸ pr)
  have nr : ∀ z, z < 36 → pl z ≠ 0 → cm z ≠ nI r := by
    intro z hz pz e
    obtain ⟨_, j, hj, ej⟩ := h2 z hz pz
    rw [ej] at e
    have := (nI_eq (by omega) (by omega)).mp e
    omega
  have hc := ga_cnt_up pr 36
  rw [if_pos hr] at hc
  have nn : ∀ z, z ≠ r → upd pl r 1 z ≠ 0 → pl z ≠ 0 := fun z e h => by rw [pk_un e] at h; exact h
  refine ⟨h1, ?_, ?_, ?_, ?_, ?_, ?_⟩
  · intro z hz e
    rw [pk_un (Er z e), pk_un (Er z e)]
    exact h2 z hz e
  · intro c hcm e
    have n1 := Er _ e
    have n2 := Er _ ((h1 c hcm).mp e)
    rw [pk_un n1, pk_un n2, pk_un n1, pk_un n2]
    exact h3 c hcm e
  · intro z hz pz ne
    by_cases e : z = r
    · subst e
      rw [pk_us]
    · exact absurd (nn z e pz) ne
  · intro p sp x y hx hy px py e
    by_cases ex : x = r
    · subst ex
      by_cases ey : y = x
      · subst ey
        rw [Int32.sub_self, Int32.sub_self]
      · rw [pk_us, pk_un ey] at e
        exact absurd e.symm (nr y hy (nn y ey py))
    · by_cases ey : y = r
      · subst ey
        rw [pk_us, pk_un ex] at e
        exact absurd e (nr x hx (nn x ex px))
      · rw [pk_un ex, pk_un ey] at e
        rw [pk_un ex, pk_un ey]
        exact h5 p sp x y hx hy (nn x ex px) (nn y ey py) e
  · intro Q sQ x y hx hy px py e
    by_cases ex : x = r
    · subst ex
      by_cases ey : y = x
      · subst ey
        exact Iff.rfl
      · rw [pk_us, pk_un ey] at e
        exact absurd e.symm (nr y hy (nn y ey py))
    · by_cases ey : y = r
      · subst ey
        rw [pk_us, pk_un ex] at e
        exact absurd e (nr x hx (nn x ex px))
      · rw [pk_un ex, pk_un ey] at e
        exact h6 Q sQ x y hx hy (nn x ex px) (nn y ey py) e
  · intro z hz pz
    rw [hc]
    by_cases e : z = r
    · subst e
      rw [pk_us, show (0 : Int32).toInt = 0 from by decide]
      omega
    · have b := h7 z hz (nn z e pz)
      rw [pk_un e]
      omega
theorem ga_iyDone (H : ga_IY fx fy D m r E pl cm rl) (ok : ∀ c, c < m → ga_Ok fx fy D pl cm rl c) : ga_IY fx fy D m (r + 1) (fun z => pl z ≠ 0) pl cm rl := by
  obtain ⟨h1, h2, h3, h4, h5, h6, h7⟩ := H
  refine ⟨?_, ?_, ?_, fun z _ pz ne => absurd pz ne, h5, h6, h7⟩
  · intro c hc
    rcases ok c hc with ⟨a, b, _⟩ | ⟨a, b⟩
    · exact ⟨fun _ => b, fun _ => a⟩
    · exact ⟨fun z => absurd a z, fun z => absurd b z⟩
  · intro z hz pz
    refine ⟨pz, ?_⟩
    by_cases e : E z
    · obtain ⟨_, j, hj, ej⟩ := h2 z hz e
      exact ⟨j, by omega, ej⟩
    · exact ⟨r, by omega, h4 z hz pz e⟩
  · intro c hc e
    rcases ok c hc with ⟨_, _, a, b⟩ | ⟨a, _⟩
    · exact ⟨a, b⟩
    · exact absurd a e
theorem ga_iy0 (hm : ∀ c, c < m → fx c < 36 ∧ fy c < 36) (h0 : ∀ z, z < 36 → pl z = 0) : ga_IY fx fy D m 0 (fun z => pl z ≠ 0) pl cm rl := by
  refine ⟨?_, fun z hz e => absurd (h0 z hz) e, fun c hc e => absurd (h0 _ (hm c hc).1) e, fun z hz e => absurd (h0 z hz) e, fun _ _ x _ hx _ px => absurd (h0 x hx) px, fun _ _ x _ hx _ px => absurd (h0 x hx) px, fun z hz e => absurd (h0 z hz) e⟩
  intro c hc
  exact ⟨fun z => absurd (h0 _ (hm c hc).1) z, fun z => absurd (h0 _ (hm c hc).2) z⟩
theorem ga_iyOne (H : ga_IY fx fy D m r E pl cm rl) (hm : ∀ c, c < m → fx c < 36 ∧ fy c < 36) {c : Nat} (hc : c < m) (px : pl (fx c) ≠ 0) (py : pl (fy c) ≠ 0) : cm (fx c) = cm (fy c) := by
  obtain ⟨h1, h2, h3, h4, _⟩ := H
  by_cases e : E (fx c)
  · exact (h3 c hc e).1
  · rw [h4 _ (hm c hc).1 px e, h4 _ (hm c hc).2 py (fun z => e ((h1 c hc).mpr z))]
theorem ga_iyBad (H : ga_IY fx fy D m r E pl cm rl) (hm : ∀ c, c < m → fx c < 36 ∧ fy c < 36) {c : Nat} (hc : c < m) (px : pl (fx c) ≠ 0) (py : pl (fy c) ≠ 0) (ne : ¬ rl (fx c) = rl (fy c) + D c) : ¬ ∃ p, ga_Sol (ga_C fx fy D m) p := by
  rintro ⟨p, sp⟩
  have e1 := H.2.2.2.2.1 p sp _ _ (hm c hc).1 (hm c hc).2 px py (ga_iyOne H hm hc px py)
  have e2 := sp _ _ _ ⟨c, hc, rfl, rfl, rfl⟩
  exact ne (by grind)
theorem ga_iyXY (H : ga_IY fx fy D m r E pl cm rl) (hm : ∀ c, c < m → fx c < 36 ∧ fy c < 36) {c : Nat} (hc : c < m) (hd : -128 ≤ (D c).toInt ∧ (D c).toInt ≤ 128) (px : pl (fx c) ≠ 0) (py : pl (fy c) = 0) :
    ga_IY fx fy D m r E (upd pl (fy c) 1) (upd cm (fy c) (cm (fx c))) (upd rl (fy c) (rl (fx c) - D c)) := by
  have nE : ¬ E (fx c) := fun e => (H.2.1 _ (hm c hc).2 ((H.1 c hc).mp e)).1 py
  refine ga_iyPut (δ := 0 - D c) H hm (hm c hc).1 (hm c hc).2 px py nE ?_ ?_ ?_ (by grind)
  · intro p sp
    have e2 := sp _ _ _ ⟨c, hc, rfl, rfl, rfl⟩
    grind
  · intro Q sQ
    exact (sQ _ _ _ ⟨c, hc, rfl, rfl, rfl⟩).symm
  · have z : (0 : Int32).toInt = 0 := by decide
    rw [ga_subT (by rw [z]; omega) (by omega), z]
    omega
theorem ga_iyYX (H : ga_IY fx fy D m r E pl cm rl) (hm : ∀ c, c < m → fx c < 36 ∧ fy c < 36) {c : Nat} (hc : c < m) (hd : -128 ≤ (D c).toInt ∧ (D c).toInt ≤ 128) (px : pl (fx c) = 0) (py : pl (fy c) ≠ 0) :
    ga_IY fx fy D m r E (upd pl (fx c) 1) (upd cm (fx c) (cm (fy c))) (upd rl (fx c) (rl (fy c) + D c)) := by
  have nE : ¬ E (fy c) := fun e => (H.2.1 _ (hm c hc).1 ((H.1 c hc).mpr e)).1 px
  refine ga_iyPut (δ := D c) H hm (hm c hc).2 (hm c hc).1 py px nE ?_ ?_ hd rfl
  · intro p sp
    have e2 := sp _ _ _ ⟨c, hc, rfl, rfl, rfl⟩
    grind
  · intro Q sQ
    exact sQ _ _ _ ⟨c, hc, rfl, rfl, rfl⟩
end GLAY
end
section
section GTIE
/-! both layouts of one set of constraints; cells; addresses -/
def gb_Lay (C : ga_T) (g q cm rl : Nat → Int32) : Prop :=
  (∀ x y, x < 36 → y < 36 → (g x = g y ↔ cm x = cm y)) ∧
  (∀ x y, x < 36 → y < 36 → g x = g y → q x - q y = rl x - rl y) ∧
  (∀ x, x < 36 → -4608 ≤ (rl x).toInt ∧ (rl x).toInt ≤ 4608) ∧
  (∀ x, x < 36 → -9216 ≤ (q x).toInt ∧ (q x).toInt ≤ 9216) ∧
  (∀ x, x < 36 → ∃ j, j < 36 ∧ cm x = nI j) ∧
  (∀ x y d, C x y d → x < 36 ∧ y < 36 ∧ cm x = cm y ∧ rl x = rl y + d) ∧
  (∀ Q, ga_Cl C Q → ∀ x y, x < 36 → y < 36 → cm x = cm y → (Q x ↔ Q y))
theorem gb_sol {C S : ga_T} {g q : Nat → Int32} (HX : ga_IX C S g q) (hS : ∀ x y d, C x y d → S x y d) : ∃ p, ga_Sol C p :=
  ⟨q, fun x y d h => (HX.1 x y d (hS x y d h)).2.2.2⟩
theorem gb_tie {fx fy : Nat → Nat} {D : Nat → Int32} {m : Nat} {S : ga_T} {g q pl cm rl : Nat → Int32} (HX : ga_IX (ga_C fx fy D m) S g q) (hS : ∀ x y d, ga_C fx fy D m x y d → S x y d)
    (HY : ga_IY fx fy D m 36 (fun z => pl z ≠ 0) pl cm rl) (hp : ∀ z, z < 36 → pl z ≠ 0) (hm : ∀ c, c < m → fx c < 36 ∧ fy c < 36) : gb_Lay (ga_C fx fy D m) g q cm rl := by
  obtain ⟨x1, x2, x3, x4⟩ := HX
  obtain ⟨y1, y2, y3, y4, y5, y6, y7⟩ := HY
  have ys : ∀ x y d, ga_C fx fy D m x y d → x < 36 ∧ y < 36 ∧ cm x = cm y ∧ rl x = rl y + d := by
    rintro x y d ⟨c, hc, rfl, rfl, rfl⟩
    exact ⟨(hm c hc).1, (hm c hc).2, y3 c hc (hp _ (hm c hc).1)⟩
  have sq : ga_Sol (ga_C fx fy D m) q := fun x y d h => (x1 x y d (hS x y d h)).2.2.2
  have gi : ∀ x y, x < 36 → y < 36 → (g x = g y ↔ cm x = cm y) := by
    intro x y hx hy
    constructor
    · intro e
      have := x3 (fun z => cm z = cm x) (fun a b d h => by show (cm a = cm x) ↔ (cm b = cm x); rw [(ys a b d h).2.2.1]) x y hx hy e
      exact (this.mp rfl).symm
    · intro e
      have := y6 (fun z => g z = g x) (fun a b d h => by show (g a = g x) ↔ (g b = g x); rw [(x1 a b d (hS a b d h)).2.2.1]) x y hx hy (hp x hx) (hp y hy) e
      exact (this.mp rfl).symm
  have gp : ∀ x y, x < 36 → y < 36 → g x = g y → q x - q y = rl x - rl y :=
    fun x y hx hy e => y5 q sq x y hx hy (hp x hx) (hp y hy) ((gi x y hx hy).mp e)
  have br : ∀ x, x < 36 → -4608 ≤ (rl x).toInt ∧ (rl x).toInt ≤ 4608 := by
    intro x hx
    have b := y7 x hx (hp x hx)
    have c := ga_cnt_le pl 36
    omega
  refine ⟨gi, gp, br, ?_, ?_, ys, ?_⟩
  · intro x hx
    obtain ⟨j, hj, e1, e2, e3⟩ := x4 x hx
    have e4 := gp x j hx hj (e1.trans e2.symm)
    have e5 : q x = rl x - rl j := by rw [e3] at e4; grind
    have b1 := br x hx
    have b2 := br j hj
    rw [e5, ga_subT (by omega) (by omega)]
    omega
  · intro x hx
    obtain ⟨_, j, hj, e⟩ := y2 x hx (hp x hx)
    exact ⟨j, hj, e⟩
  · intro Q hQ x y hx hy e
    exact y6 Q hQ x y hx hy (hp x hx) (hp y hy) e
variable {C : ga_T} {g q cm rl : Nat → Int32}
theorem gb_lt (H : gb_Lay C g q cm rl) {x y : Nat} (hx : x < 36) (hy : y < 36) (e : g x = g y) : q x < q y ↔ rl x < rl y := by
  obtain ⟨_, h2, h3, h4, _⟩ := H
  have e1 := congrArg Int32.toInt (h2 x y hx hy e)
  have a1 := h3 x hx
  have a2 := h3 y hy
  have a3 := h4 x hx
  have a4 := h4 y hy
  rw [ga_subT (by omega) (by omega), ga_subT (by omega) (by omega)] at e1
  rw [Int32.lt_iff_toInt_lt, Int32.lt_iff_toInt_lt]
  omega
theorem gb_alone (H : gb_Lay C g q cm rl) {k y : Nat} (hk : k < 36) (hy : y < 36) (n : ∀ z d, ¬ C k z d ∧ ¬ C z k d) (e : cm k = cm y) : y = k := by
  have := H.2.2.2.2.2.2 (fun z => z = k) (fun a b d h => ⟨fun z => absurd (z ▸ h) (n b d).1, fun z => absurd (z ▸ h) (n a d).2⟩) k y hk hy e
  exact this.mp rfl
def gb_Str (L : Nat → Nat) (St : Nat → Prop) (C : ga_T) : Prop := ∀ x y d, C x y d →
  (x < 32 ∧ y < 32 ∧ St x ∧ St y ∧ ∃ ia ib : Nat, 1 ≤ ia ∧ ia ≤ L x ∧ 1 ≤ ib ∧ ib ≤ L y ∧ d = nI ib - nI ia) ∨
  (x < 32 ∧ St x ∧ 32 ≤ y ∧ y < 36 ∧ ∃ o : Nat, o ≤ 128 ∧ d = nI o ∧ ∀ s, s < o → ∃ x' o', C x' y (nI o') ∧ x' < 32 ∧ St x' ∧ o' ≤ s ∧ s < o' + L x')
theorem gb_nIT {n : Nat} (h : n ≤ 1000) : (nI n).toInt = (n : Int) := nI_toInt (by omega)
theorem gb_cover {L : Nat → Nat} {St : Nat → Prop} (H : gb_Lay C g q cm rl) (hs : gb_Str L St C) (hL : ∀ k, k < 32 → 1 ≤ L k ∧ L k ≤ 16) {k1 k2 : Nat} {t : Int} (h1 : k1 < 32) (h2 : k2 < 32) (s1 : St k1) (ec : cm k1 = cm k2)
    (l1 : (rl k1).toInt ≤ t) (l2 : t < (rl k2).toInt + L k2) : ∃ k, k < 32 ∧ St k ∧ cm k = cm k1 ∧ (rl k).toInt ≤ t ∧ t < (rl k).toInt + L k := by
  apply Classical.byContradiction
  intro hn
  have nc : ∀ k, k < 32 → St k → cm k = cm k1 → t < (rl k).toInt ∨ (rl k).toInt + L k ≤ t := by
    intro k hk sk ek
    by_cases a : t < (rl k).toInt
    · exact Or.inl a
    · by_cases b : (rl k).toInt + L k ≤ t
      · exact Or.inr b
      · exact absurd ⟨k, hk, sk, ek, by omega, by omega⟩ hn
  obtain ⟨_, _, hb, _, _, hy, hQ⟩ := H
  have key := hQ (fun z => cm z = cm k1 ∧ (if z < 32 then (rl z).toInt + L z ≤ t else (rl z).toInt ≤ t)) ?_ k1 k2 (by omega) (by omega) ec
  · simp only [if_pos h1, if_pos h2] at key
    have a := nc k1 h1 s1 rfl
    have b := key.mp ⟨by trivial, by omega⟩
    omega
  · intro x y d hc
    obtain ⟨hx, hyy, e1, e2⟩ := hy x y d hc
    have bx := hb x hx
    have by' := hb y hyy
    rcases hs x y d hc with ⟨x3, y3, sx, sy, ia, ib, a1, a2, b1, b2, ed⟩ | ⟨x3, sx, y1, y2, o, ho, ed, hf⟩
    · have lx := hL x x3
      have ly := hL y y3
      have e3 : (rl x).toInt = (rl y).toInt + (ib - ia) := by
        rw [e2, ed, ga_addT (by omega) (by rw [pk_sub_toInt (by omega) (by omega)]; omega), pk_sub_toInt (by omega) (by omega)]
      simp only [if_pos x3, if_pos y3]
      constructor
      · rintro ⟨c1, c2⟩
        have := nc y y3 sy (e1.symm.trans c1)
        exact ⟨e1.symm.trans c1, by omega⟩
      · rintro ⟨c1, c2⟩
        have := nc x x3 sx (e1.trans c1)
        exact ⟨e1.trans c1, by omega⟩
    · have lx := hL x x3
      have e3 : (rl x).toInt = (rl y).toInt + o := by
        rw [e2, ed, ga_addT (by omega) (by rw [gb_nIT (by omega)]; omega), gb_nIT (by omega)]
      simp only [if_pos x3, if_neg (show ¬ y < 32 by omega)]
      constructor
      · rintro ⟨c1, c2⟩
        exact ⟨e1.symm.trans c1, by omega⟩
      · rintro ⟨c1, c2⟩
        refine ⟨e1.trans c1, ?_⟩
        rcases nc x x3 sx (e1.trans c1) with z | z
        · exfalso
          obtain ⟨x', o', hc', x3', sx', l3, l4⟩ := hf (t - (rl y).toInt).toNat (by omega)
          obtain ⟨_, _, f1, f2⟩ := hy x' y _ hc'
          have lx' := hL x' x3'
          have f3 : (rl x').toInt = (rl y).toInt + o' := by
            rw [f2, ga_addT (by omega) (by rw [gb_nIT (by omega)]; omega), gb_nIT (by omega)]
          have := nc x' x3' sx' (f1.trans c1)
          omega
        · exact z
def gb_Fst (g q : Nat → Int32) (L : Nat → Nat) (k i e : Nat) : Prop := ∃ o j, o < 32 ∧ e = o * 16 + j - 1 ∧ 1 ≤ j ∧ j ≤ L o ∧ j ≤ 16 ∧ g o = g k ∧ q k + nI i = q o + nI j ∧
  ∀ o', o' < o → ∀ j', 1 ≤ j' → j' ≤ L o' → g o' = g k → q k + nI i ≠ q o' + nI j'
theorem gb_fst_lt {L : Nat → Nat} {k i e : Nat} (h : gb_Fst g q L k i e) : e < 512 := by
  obtain ⟨o, j, ho, he, h1, _, h3, _⟩ := h
  omega
theorem gb_fst_iff {L : Nat → Nat} {k i e k' i' e' : Nat} (h : gb_Fst g q L k i e) (h' : gb_Fst g q L k' i' e') : e = e' ↔ (g k = g k' ∧ q k + nI i = q k' + nI i') := by
  obtain ⟨o, j, ho, he, h1, h2, h3, h4, h5, h6⟩ := h
  obtain ⟨o', j', ho', he', h1', h2', h3', h4', h5', h6'⟩ := h'
  constructor
  · intro e0
    have eo : o = o' := by omega
    have ej : j = j' := by omega
    subst eo
    subst ej
    exact ⟨h4.symm.trans h4', h5.trans h5'.symm⟩
  · rintro ⟨e1, e2⟩
    have eo : o = o' := by
      rcases Nat.lt_trichotomy o o' with l | l | l
      · exact absurd (e2.symm.trans h5) (h6' o l j h1 h2 (h4.trans e1))
      · exact l
      · exact absurd (e2.trans h5') (h6 o' l j' h1' h2' (h4'.trans e1.symm))
    subst eo
    have ej : nI j = nI j' := by
      have : q o + nI j = q o + nI j' := h5.symm.trans (e2.trans h5')
      grind
    rw [nI_eq (by omega) (by omega)] at ej
    omega
theorem gb_ph : ∀ (m n : Nat) (R : Nat → Nat → Prop), (∀ a, a < n → ∃ e, e < m ∧ R a e) → (∀ a a' e, a < n → a' < n → R a e → R a' e → a = a') → n ≤ m := by
  intro m
  induction m with
  | zero =>
    intro n R h1 _
    rcases Nat.eq_zero_or_pos n with z | z
    · omega
    · obtain ⟨e, he, _⟩ := h1 0 z
      omega
  | succ m ih =>
    intro n R h1 h2
    by_cases hx : ∃ a0, a0 < n ∧ R a0 m
    · obtain ⟨a0, ha0, r0⟩ := hx
      have hs : ∀ a, a < n - 1 → (if a = a0 then n - 1 else a) < n ∧ (if a = a0 then n - 1 else a) ≠ a0 := by
        intro a ha
        split <;> constructor <;> omega
      have := ih (n - 1) (fun a e => R (if a = a0 then n - 1 else a) e) ?_ ?_
      · omega
      · intro a ha
        obtain ⟨s1, s2⟩ := hs a ha
        obtain ⟨e, he, hr⟩ := h1 _ s1
        have : e ≠ m := by
          intro z
          cases z
          exact s2 (h2 _ _ _ s1 ha0 hr r0)
        exact ⟨e, by omega, hr⟩
      · intro a a' e ha ha' r1 r2
        have z := h2 _ _ _ (hs a ha).1 (hs a' ha').1 r1 r2
        split at z <;> split at z <;> omega
    · have := ih n R ?_ h2
      · omega
      · intro a ha
        obtain ⟨e, he, hr⟩ := h1 a ha
        have : e ≠ m := by
          intro z
          cases z
          exact hx ⟨a, ha, hr⟩
        exact ⟨e, by omega, hr⟩
def gb_MM (L : Nat → Nat) (St : Nat → Prop) (cm rl : Nat → Int32) (r : Nat) (mn mx : Int) : Prop :=
  (∀ k, k < 32 → St k → cm k = nI r → mn ≤ (rl k).toInt ∧ (rl k).toInt + L k ≤ mx) ∧
  (∃ k, k < 32 ∧ St k ∧ cm k = nI r ∧ (rl k).toInt = mn) ∧ (∃ k, k < 32 ∧ St k ∧ cm k = nI r ∧ (rl k).toInt + L k = mx)
def gb_AL (L : Nat → Nat) (St : Nat → Prop) (cm rl : Nat → Int32) (k N : Nat) (hv ba ad : Nat → Int32) : Prop := ∃ mn mx s : Nat → Int,
  N ≤ k * 10000 ∧
  (∀ k', k' < k → St k' → ∃ r, r < 36 ∧ cm k' = nI r ∧ hv r ≠ 0 ∧ ad k' = ba r + rl k') ∧
  (∀ r, r < 36 → hv r ≠ 0 → gb_MM L St cm rl r (mn r) (mx r) ∧ 0 ≤ s r ∧ s r + (mx r - mn r) ≤ N ∧ (ba r).toInt = s r - mn r) ∧
  (∀ r r', r < 36 → r' < 36 → hv r ≠ 0 → hv r' ≠ 0 → r ≠ r' → s r + (mx r - mn r) ≤ s r' ∨ s r' + (mx r' - mn r') ≤ s r) ∧
  (∀ a : Int, 0 ≤ a → a < N → ∃ r, r < 36 ∧ hv r ≠ 0 ∧ s r ≤ a ∧ a < s r + (mx r - mn r))
variable {L : Nat → Nat} {St : Nat → Prop} {k N r : Nat} {hv ba ad : Nat → Int32}
theorem gb_al0 (h : ∀ r, r < 36 → hv r = 0) : gb_AL L St cm rl 0 0 hv ba ad :=
  ⟨fun _ => 0, fun _ => 0, fun _ => 0, by omega, fun k' h' => absurd h' (Nat.not_lt_zero k'), fun r hr e => absurd (h r hr) e, fun r _ hr _ e => absurd (h r hr) e, fun a h1 h2 => by omega⟩
theorem gb_alSkip (H : gb_AL L St cm rl k N hv ba ad) (n : ¬ St k) : gb_AL L St cm rl (k + 1) N hv ba ad := by
  obtain ⟨mn, mx, s, h0, h1, h2, h3, h4⟩ := H
  refine ⟨mn, mx, s, by omega, ?_, h2, h3, h4⟩
  intro k' hk' sk
  by_cases e : k' = k
  · exact absurd (e ▸ sk) n
  · exact h1 k' (by omega) sk
theorem gb_alOld (H : gb_AL L St cm rl k N hv ba ad) (hr : r < 36) (ec : cm k = nI r) (hh : hv r ≠ 0) : gb_AL L St cm rl (k + 1) N hv ba (upd ad k (ba r + rl k)) := by
  obtain ⟨mn, mx, s, h0, h1, h2, h3, h4⟩ := H
  refine ⟨mn, mx, s, by omega, ?_, h2, h3, h4⟩
  intro k' hk' sk
  by_cases e : k' = k
  · subst e
    exact ⟨r, hr, ec, hh, pk_us⟩
  · obtain ⟨r', a, b, c, d⟩ := h1 k' (by omega) sk
    exact ⟨r', a, b, c, by rw [pk_un e]; exact d⟩
end GTIE
end
section
section GDEC
/-! codes -/
def fb_nm (c : Nat) : Nat := c % 10000 / 100
def fb_ix (c : Nat) : Nat := if c % 100 = 0 then 1 else c % 100
def fb_FX (c : Nat) : Prop := 10000 ≤ c ∧ c < 10800 ∧ c % 100 ≤ 16
def fb_IX (c : Nat) : Prop := 20000 ≤ c ∧ c < 20800 ∧ c % 100 < 8
theorem fb_nm8 {c : Nat} (h : fb_FX c ∨ fb_IX c) : fb_nm c < 8 := by
  unfold fb_FX fb_IX at h
  unfold fb_nm
  omega
theorem fb_ix1 (c : Nat) : 1 ≤ fb_ix c := by
  unfold fb_ix
  split <;> omega
theorem fb_ix16 {c : Nat} (h : fb_FX c) : fb_ix c ≤ 16 := by
  unfold fb_FX at h
  unfold fb_ix
  split <;> omega
/-! offsets within a block of one unit -/
def gd_off (L CB CN : Nat → Nat) (u b : Nat) : Nat → Nat
  | 0 => 0
  | f + 1 => gd_off L CB CN u b f + (if CB (u * 8 + f) = b then L (u * 8 + CN (u * 8 + f)) else 0)
def gd_CS (L CC CB CN : Nat → Nat) (ne : Nat) (EU EA EB : Nat → Nat) : ga_T := fun x y d =>
  (∃ u i, u < 4 ∧ i < CC u ∧ x = u * 8 + CN (u * 8 + i) ∧ y = 32 + CB (u * 8 + i) ∧ d = nI (gd_off L CB CN u (CB (u * 8 + i)) i)) ∨
  (∃ e, e < ne ∧ x = EU e * 8 + fb_nm (EA e) ∧ y = EU e * 8 + fb_nm (EB e) ∧ d = nI (fb_ix (EB e)) - nI (fb_ix (EA e)))
variable {L P CC CB CN EU EA EB : Nat → Nat} {ne : Nat}
theorem gd_off_le {u b : Nat} (h : ∀ k, k < 32 → L k ≤ 16) (hn : ∀ i, i < 32 → CN i < 8) (hu : u < 4) : ∀ i, i ≤ 8 → gd_off L CB CN u b i ≤ i * 16 := by
  intro i
  induction i with
  | zero => intro _; exact Nat.le_refl 0
  | succ i ih =>
    intro hi
    have a := ih (by omega)
    have n := hn (u * 8 + i) (by omega)
    have l := h (u * 8 + CN (u * 8 + i)) (by omega)
    show gd_off L CB CN u b i + (if CB (u * 8 + i) = b then L (u * 8 + CN (u * 8 + i)) else 0) ≤ _
    split <;> omega
theorem gd_off_fill {u b : Nat} : ∀ i s, s < gd_off L CB CN u b i → ∃ f, f < i ∧ CB (u * 8 + f) = b ∧ gd_off L CB CN u b f ≤ s ∧ s < gd_off L CB CN u b f + L (u * 8 + CN (u * 8 + f)) := by
  intro i
  induction i with
  | zero => intro s h; exact absurd h (Nat.not_lt_zero s)
  | succ i ih =>
    intro s h
    by_cases a : s < gd_off L CB CN u b i
    · obtain ⟨f, h1, h2, h3, h4⟩ := ih s a
      exact ⟨f, by omega, h2, h3, h4⟩
    · have h' : s < gd_off L CB CN u b i + (if CB (u * 8 + i) = b then L (u * 8 + CN (u * 8 + i)) else 0) := h
      by_cases c : CB (u * 8 + i) = b
      · rw [if_pos c] at h'
        exact ⟨i, by omega, c, by omega, h'⟩
      · rw [if_neg c] at h'
        omega
def gd_DB (L P CC CN : Nat → Nat) (ne : Nat) (EU EA EB : Nat → Nat) : Prop :=
  (∃ k, k < 32 ∧ k % 8 < P (k / 8) ∧ 1 < L k) ∨ (∃ u i, u < 4 ∧ i < CC u ∧ CN (u * 8 + i) < P u) ∨
  (∃ e, e < ne ∧ (fb_nm (EA e) < P (EU e) ∨ fb_nm (EB e) < P (EU e)))
def gd_XE (L : Nat → Nat) (ne : Nat) (EU EA EB : Nat → Nat) : Prop :=
  ∃ e, e < ne ∧ (L (EU e * 8 + fb_nm (EA e)) < fb_ix (EA e) ∨ L (EU e * 8 + fb_nm (EB e)) < fb_ix (EB e))
def gd_St (P : Nat → Nat) (k : Nat) : Prop := ¬ k % 8 < P (k / 8)
def gd_WD (L P CC CB CN : Nat → Nat) (ne : Nat) (EU EA EB : Nat → Nat) : Prop :=
  (∀ k, k < 32 → 1 ≤ L k ∧ L k ≤ 16) ∧ (∀ u, u < 4 → P u ≤ 3) ∧ (∀ u, u < 4 → CC u ≤ 8) ∧ (∀ i, i < 32 → CB i < 4 ∧ CN i < 8) ∧ ne ≤ 16 ∧
  (∀ e, e < ne → EU e < 4 ∧ fb_FX (EA e) ∧ fb_FX (EB e))
theorem gd_cs36 (W : gd_WD L P CC CB CN ne EU EA EB) {x y : Nat} {d : Int32} (h : gd_CS L CC CB CN ne EU EA EB x y d) : x < 36 ∧ y < 36 ∧ -128 ≤ d.toInt ∧ d.toInt ≤ 128 := by
  obtain ⟨w1, w2, w3, w4, w5, w6⟩ := W
  rcases h with ⟨u, i, hu, hi, rfl, rfl, rfl⟩ | ⟨e, he, rfl, rfl, rfl⟩
  · have c := w3 u hu
    have n := w4 (u * 8 + i) (by omega)
    have o := gd_off_le (L := L) (CB := CB) (CN := CN) (b := CB (u * 8 + i)) (fun k hk => (w1 k hk).2) (fun i hi => (w4 i hi).2) hu i (by omega)
    rw [nI_toInt (by omega)]
    omega
  · obtain ⟨a, b, c⟩ := w6 e he
    have n1 := fb_nm8 (Or.inl b)
    have n2 := fb_nm8 (Or.inl c)
    have i1 := fb_ix16 b
    have i2 := fb_ix16 c
    have j1 := fb_ix1 (EA e)
    have j2 := fb_ix1 (EB e)
    rw [pk_sub_toInt (by omega) (by omega)]
    omega
theorem gd_str (W : gd_WD L P CC CB CN ne EU EA EB) (nd : ¬ gd_DB L P CC CN ne EU EA EB) (nx : ¬ gd_XE L ne EU EA EB) : gb_Str L (gd_St P) (gd_CS L CC CB CN ne EU EA EB) := by
  obtain ⟨w1, w2, w3, w4, w5, w6⟩ := W
  have sc : ∀ u i, u < 4 → i < CC u → gd_St P (u * 8 + CN (u * 8 + i)) := by
    intro u i hu hi z
    have c := w3 u hu
    have n := w4 (u * 8 + i) (by omega)
    have e1 : (u * 8 + CN (u * 8 + i)) % 8 = CN (u * 8 + i) := by omega
    have e2 : (u * 8 + CN (u * 8 + i)) / 8 = u := by omega
    rw [e1, e2] at z
    exact nd (Or.inr (Or.inl ⟨u, i, hu, hi, z⟩))
  intro x y d h
  rcases h with ⟨u, i, hu, hi, rfl, rfl, rfl⟩ | ⟨e, he, rfl, rfl, rfl⟩
  · right
    have c := w3 u hu
    have n := w4 (u * 8 + i) (by omega)
    have o := gd_off_le (L := L) (CB := CB) (CN := CN) (b := CB (u * 8 + i)) (fun k hk => (w1 k hk).2) (fun i hi => (w4 i hi).2) hu i (by omega)
    refine ⟨by omega, sc u i hu hi, by omega, by omega, _, by omega, rfl, ?_⟩
    intro s hs
    obtain ⟨f, f1, f2, f3, f4⟩ := gd_off_fill i s hs
    have n' := w4 (u * 8 + f) (by omega)
    exact ⟨u * 8 + CN (u * 8 + f), _, Or.inl ⟨u, f, hu, by omega, rfl, by rw [f2], by rw [f2]⟩, by omega, sc u f hu (by omega), f3, f4⟩
  · left
    obtain ⟨a, b, c⟩ := w6 e he
    have n1 := fb_nm8 (Or.inl b)
    have n2 := fb_nm8 (Or.inl c)
    have d1 : ∀ n, n < 8 → (EU e * 8 + n) % 8 = n ∧ (EU e * 8 + n) / 8 = EU e := by intro n hn; omega
    refine ⟨by omega, by omega, ?_, ?_, fb_ix (EA e), fb_ix (EB e), fb_ix1 _, ?_, fb_ix1 _, ?_, rfl⟩
    · intro z
      rw [(d1 _ n1).1, (d1 _ n1).2] at z
      exact nd (Or.inr (Or.inr ⟨e, he, Or.inl z⟩))
    · intro z
      rw [(d1 _ n2).1, (d1 _ n2).2] at z
      exact nd (Or.inr (Or.inr ⟨e, he, Or.inr z⟩))
    · exact Nat.le_of_not_lt fun z => nx ⟨e, he, Or.inl z⟩
    · exact Nat.le_of_not_lt fun z => nx ⟨e, he, Or.inr z⟩
theorem gd_alone (hs : gb_Str L (gd_St P) (gd_CS L CC CB CN ne EU EA EB)) {k : Nat} (hk : k < 32) (d : ¬ gd_St P k) (z : Nat) (v : Int32) :
    ¬ gd_CS L CC CB CN ne EU EA EB k z v ∧ ¬ gd_CS L CC CB CN ne EU EA EB z k v := by
  constructor
  · intro h
    rcases hs k z v h with ⟨_, _, s, _⟩ | ⟨_, s, _⟩
    · exact d s
    · exact d s
  · intro h
    rcases hs z k v h with ⟨_, _, _, s, _⟩ | ⟨_, _, y1, _⟩
    · exact d s
    · omega
def gd_SX (L CC CB CN : Nat → Nat) (u b i : Nat) : ga_T := fun x y d =>
  ∃ u' i', u' < 4 ∧ i' < CC u' ∧ (u' < u ∨ (u' = u ∧ (CB (u' * 8 + i') < b ∨ (CB (u' * 8 + i') = b ∧ i' < i)))) ∧
    x = u' * 8 + CN (u' * 8 + i') ∧ y = 32 + CB (u' * 8 + i') ∧ d = nI (gd_off L CB CN u' (CB (u' * 8 + i')) i')
def gd_SE (L CC CB CN : Nat → Nat) (EU EA EB : Nat → Nat) (e : Nat) : ga_T := fun x y d =>
  gd_SX L CC CB CN 4 0 0 x y d ∨ (∃ f, f < e ∧ x = EU f * 8 + fb_nm (EA f) ∧ y = EU f * 8 + fb_nm (EB f) ∧ d = nI (fb_ix (EB f)) - nI (fb_ix (EA f)))
theorem gd_ixMono {C S S' : ga_T} {g q : Nat → Int32} (H : ga_IX C S g q) (h : ∀ x y d, S' x y d → S x y d) : ga_IX C S' g q :=
  ⟨fun x y d z => H.1 x y d (h x y d z), H.2⟩
theorem gd_sx0 {x y : Nat} {d : Int32} : ¬ gd_SX L CC CB CN 0 0 0 x y d := by
  rintro ⟨u', i', h1, h2, h3, _⟩
  omega
theorem gd_sxi {u b i : Nat} (hb : CB (u * 8 + i) = b) {x y : Nat} {d : Int32} (h : gd_SX L CC CB CN u b (i + 1) x y d) :
    gd_SX L CC CB CN u b i x y d ∨ (x = u * 8 + CN (u * 8 + i) ∧ y = 32 + b ∧ d = nI (gd_off L CB CN u b i)) := by
  obtain ⟨u', i', h1, h2, h3, h4, h5, h6⟩ := h
  by_cases e : u' = u ∧ i' = i
  · obtain ⟨rfl, rfl⟩ := e
    right
    exact ⟨h4, by rw [h5, hb], by rw [h6, hb]⟩
  · left
    refine ⟨u', i', h1, h2, ?_, h4, h5, h6⟩
    omega
theorem gd_sxk {u b i : Nat} (hb : CB (u * 8 + i) ≠ b) {x y : Nat} {d : Int32} (h : gd_SX L CC CB CN u b (i + 1) x y d) : gd_SX L CC CB CN u b i x y d := by
  obtain ⟨u', i', h1, h2, h3, h4, h5, h6⟩ := h
  refine ⟨u', i', h1, h2, ?_, h4, h5, h6⟩
  by_cases e : u' = u ∧ i' = i
  · obtain ⟨rfl, rfl⟩ := e
    omega
  · omega
theorem gd_sxb {u b : Nat} {x y : Nat} {d : Int32} (h : gd_SX L CC CB CN u (b + 1) 0 x y d) : gd_SX L CC CB CN u b (CC u) x y d := by
  obtain ⟨u', i', h1, h2, h3, h4, h5, h6⟩ := h
  refine ⟨u', i', h1, h2, ?_, h4, h5, h6⟩
  by_cases e : u' = u
  · subst e; omega
  · omega
theorem gd_sxu {u : Nat} (hc : ∀ i, i < 32 → CB i < 4) (hu : u < 4) (hcc : CC u ≤ 8) {x y : Nat} {d : Int32} (h : gd_SX L CC CB CN (u + 1) 0 0 x y d) : gd_SX L CC CB CN u 4 0 x y d := by
  obtain ⟨u', i', h1, h2, h3, h4, h5, h6⟩ := h
  refine ⟨u', i', h1, h2, ?_, h4, h5, h6⟩
  by_cases e : u' = u
  · subst e
    have := hc (u' * 8 + i') (by omega)
    omega
  · omega
theorem gd_see {e : Nat} {x y : Nat} {d : Int32} (h : gd_SE L CC CB CN EU EA EB (e + 1) x y d) :
    gd_SE L CC CB CN EU EA EB e x y d ∨ (x = EU e * 8 + fb_nm (EA e) ∧ y = EU e * 8 + fb_nm (EB e) ∧ d = nI (fb_ix (EB e)) - nI (fb_ix (EA e))) := by
  rcases h with h | ⟨f, hf, h1, h2, h3⟩
  · exact Or.inl (Or.inl h)
  · by_cases z : f = e
    · subst z
      exact Or.inr ⟨h1, h2, h3⟩
    · exact Or.inl (Or.inr ⟨f, by omega, h1, h2, h3⟩)
theorem gd_se0 {x y : Nat} {d : Int32} (h : gd_SE L CC CB CN EU EA EB 0 x y d) : gd_SX L CC CB CN 4 0 0 x y d := by
  rcases h with h | ⟨f, hf, _⟩
  · exact h
  · omega
theorem gd_cse {x y : Nat} {d : Int32} (h : gd_CS L CC CB CN ne EU EA EB x y d) : gd_SE L CC CB CN EU EA EB ne x y d := by
  rcases h with ⟨u, i, hu, hi, h1, h2, h3⟩ | h
  · exact Or.inl ⟨u, i, hu, hi, Or.inl hu, h1, h2, h3⟩
  · exact Or.inr h
/-! searches over the statements -/
def fb_nx (U : Nat → Int32) (u : Int32) : Nat → Nat → Nat
  | 0, j => j
  | d + 1, j => if U j = u then j else fb_nx U u d (j + 1)
def fb_fl (U B : Nat → Int32) (u l : Int32) : Nat → Nat → Nat
  | 0, j => j
  | d + 1, j => if U j = u ∧ B j = l then j else fb_fl U B u l d (j + 1)
theorem fb_nx_in (U : Nat → Int32) (u : Int32) : ∀ d j, j ≤ fb_nx U u d j ∧ fb_nx U u d j ≤ j + d ∧ (fb_nx U u d j < j + d → U (fb_nx U u d j) = u) := by
  intro d
  induction d with
  | zero => intro j; exact ⟨Nat.le_refl j, Nat.le_refl j, fun h => absurd h (Nat.lt_irrefl j)⟩
  | succ d ih =>
    intro j
    show j ≤ (if U j = u then j else fb_nx U u d (j + 1)) ∧ (if U j = u then j else fb_nx U u d (j + 1)) ≤ j + (d + 1) ∧ ((if U j = u then j else fb_nx U u d (j + 1)) < j + (d + 1) → U (if U j = u then j else fb_nx U u d (j + 1)) = u)
    by_cases e : U j = u
    · rw [if_pos e]
      exact ⟨Nat.le_refl j, by omega, fun _ => e⟩
    · rw [if_neg e]
      obtain ⟨a, b, c⟩ := ih (j + 1)
      exact ⟨by omega, by omega, fun h => c (by omega)⟩
theorem fb_fl_in (U B : Nat → Int32) (u l : Int32) : ∀ d j, j ≤ fb_fl U B u l d j ∧ fb_fl U B u l d j ≤ j + d ∧ (fb_fl U B u l d j < j + d → U (fb_fl U B u l d j) = u ∧ B (fb_fl U B u l d j) = l) := by
  intro d
  induction d with
  | zero => intro j; exact ⟨Nat.le_refl j, Nat.le_refl j, fun h => absurd h (Nat.lt_irrefl j)⟩
  | succ d ih =>
    intro j
    show j ≤ (if U j = u ∧ B j = l then j else fb_fl U B u l d (j + 1)) ∧ (if U j = u ∧ B j = l then j else fb_fl U B u l d (j + 1)) ≤ j + (d + 1) ∧ ((if U j = u ∧ B j = l then j else fb_fl U B u l d (j + 1)) < j + (d + 1) → U (if U j = u ∧ B j = l then j else fb_fl U B u l d (j + 1)) = u ∧ B (if U j = u ∧ B j = l then j else fb_fl U B u l d (j + 1)) = l)
    by_cases e : U j = u ∧ B j = l
    · rw [if_pos e]
      exact ⟨Nat.le_refl j, by omega, fun _ => e⟩
    · rw [if_neg e]
      obtain ⟨a, b, c⟩ := ih (j + 1)
      exact ⟨by omega, by omega, fun h => c (by omega)⟩
def fb_FL (U B : Nat → Int32) (n : Nat) (u l : Int32) : Int32 := if l = 0 then -1 else if fb_fl U B u l n 0 < n then nI (fb_fl U B u l n 0) else -1
end GDEC
end
section
section GFAC
/-! statements -/
def fb_need (k e : Nat) : Nat := if k = 1 then 3 else if k = 2 then 5 else if k = 4 then 5 else if k = 3 then 1 + e else if k = 5 then e / 4 else if k = 6 then 1 else 0
def fb_pl (k p : Nat) : Nat := if k = 1 then (if p = 0 then 1 else 0) else if k = 2 then (if p < 2 then 0 else 2) else if k = 3 then (if p = 0 then 0 else 2) else if k = 4 then (if p = 0 then 2 else if p = 1 then 1 else 0) else if k = 5 then 1 else 0
def fb_xok (k e : Nat) : Prop := (k = 1 ∧ e ≤ 3) ∨ (k = 3 ∧ 1 ≤ e ∧ e ≤ 4) ∨ (k = 5 ∧ e < 16 ∧ e % 4 ≠ 0) ∨ (k ≠ 1 ∧ k ≠ 3 ∧ k ≠ 5 ∧ e = 0)
def fb_al (w c : Nat) : Prop := (w = 2 ∧ c < 10000) ∨ (w = 1 ∧ (fb_FX c ∨ fb_IX c)) ∨ (w = 0 ∧ (c < 10000 ∨ fb_FX c ∨ fb_IX c))
theorem fb_need5 {k e : Nat} (h : fb_xok k e) : fb_need k e ≤ 5 := by
  unfold fb_xok at h
  unfold fb_need
  repeat' split
  all_goals omega
def fs_V (sU sL sK sE sG sO : Nat → Int32) (s : Nat) (full : Prop) : Prop := ∃ u l k e g : Nat, sU s = nI u ∧ u < 4 ∧ sL s = nI l ∧ l < 100 ∧ sK s = nI k ∧ 1 ≤ k ∧ k ≤ 9 ∧ sE s = nI e ∧ fb_xok k e ∧ sG s = nI g ∧
  g ≤ fb_need k e ∧ (full → g = fb_need k e) ∧ ∀ p, p < g → ∃ c, sO (s * 5 + p) = nI c ∧ fb_al (fb_pl k p) c
def fs_S (n : Nat) (sU sL sK sE sG sO : Nat → Int32) (all : Prop) : Prop := ∀ s, s < n → fs_V sU sL sK sE sG sO s (s + 1 < n ∨ all)
def fs_D (al ap ac en cb cn eu ea eb : Nat → Int32) (n : Nat) : Prop :=
  (∀ k, k < 32 → ∃ l, 1 ≤ l ∧ l ≤ 16 ∧ al k = nI l) ∧ ap 0 = 0 ∧ (∀ u, u < 4 → fa_R 4 (ap u)) ∧ (∀ u, u < 4 → fa_R 9 (ac u)) ∧
  (∀ i, i < 32 → fa_R 4 (cb i) ∧ fa_R 8 (cn i) ∧ en i = cb i * 8 + cn i) ∧ n ≤ 16 ∧
  (∀ e, e < n → fa_R 4 (eu e) ∧ (∃ c, fb_FX c ∧ ea e = nI c) ∧ ∃ c, fb_FX c ∧ eb e = nI c)
theorem fb_FXlt {c : Nat} (h : fb_FX c) : c < 20000 := by unfold fb_FX at h; omega
theorem fs_wd {al ap ac en cb cn eu ea eb : Nat → Int32} {n : Nat} (h : fs_D al ap ac en cb cn eu ea eb n) : gd_WD (fa_N al) (fa_N ap) (fa_N ac) (fa_N cb) (fa_N cn) n (fa_N eu) (fa_N ea) (fa_N eb) := by
  obtain ⟨h1, h2, h3, h4, h5, h6, h7⟩ := h
  refine ⟨?_, ?_, ?_, ?_, h6, ?_⟩
  · intro k hk
    obtain ⟨l, a, b, e⟩ := h1 k hk
    rw [fa_Re e (by omega)]
    exact ⟨a, b⟩
  · intro u hu
    have := (fa_Rn (h3 u hu) (by omega)).2
    omega
  · intro u hu
    have := (fa_Rn (h4 u hu) (by omega)).2
    omega
  · intro i hi
    obtain ⟨a, b, _⟩ := h5 i hi
    exact ⟨(fa_Rn a (by omega)).2, (fa_Rn b (by omega)).2⟩
  · intro e he
    obtain ⟨a, ⟨c, c1, c2⟩, d, d1, d2⟩ := h7 e he
    have c3 := fb_FXlt c1
    have d3 := fb_FXlt d1
    rw [fa_Re c2 (by omega), fa_Re d2 (by omega)]
    exact ⟨(fa_Rn a (by omega)).2, c1, d1⟩
def fs_ext (g q al : Nat → Int32) (b : Nat) : Nat → Int32
  | 0 => 0
  | k + 1 => if g k = g (32 + b) ∧ fs_ext g q al b k < q k + al k - q (32 + b) then q k + al k - q (32 + b) else fs_ext g q al b k
def fs_C (n : Nat) (al ap sU sL sK sE sG sO : Nat → Int32) : Prop :=
  (∀ k, k < 32 → ¬ gd_St (fa_N ap) k → al k = 1) ∧
  (∀ s p c, s < n → p < fa_N sG s → sO (s * 5 + p) = nI c → fb_FX c → fb_ix c ≤ fa_N al (fa_N sU s * 8 + fb_nm c)) ∧
  (∀ s p, s < n → p < fa_N sG s → fb_pl (fa_N sK s) p = 2 → fb_FL sU sL n (sU s) (sO (s * 5 + p)) ≠ -1) ∧
  (∀ s, s < n → sK s = 5 → fa_N sE s / 4 = fa_N ap (fa_N sE s % 4))
end GFAC
end
section
section GLIS
/-! the reference's list of constraints, entry by entry -/
variable {L P CC CB CN EU EA EB : Nat → Nat} {ne : Nat}
theorem ge_snoc {kx ky kd : Nat → Int32} {m x0 y0 : Nat} {d0 : Int32} (hx0 : x0 < 36) (hy0 : y0 < 36) (x y : Nat) (d : Int32) :
    ga_C (fa_N (upd kx m (nI x0))) (fa_N (upd ky m (nI y0))) (upd kd m d0) (m + 1) x y d ↔ (ga_C (fa_N kx) (fa_N ky) kd m x y d ∨ (x = x0 ∧ y = y0 ∧ d = d0)) := by
  have nx : ∀ (a : Nat → Int32) (v c : Nat), v < 36 → fa_N (upd a m (nI v)) c = if c = m then v else fa_N a c := fun a v c hv => fa_Nu (by omega)
  constructor
  · rintro ⟨c, hc, e1, e2, e3⟩
    rw [nx _ _ _ hx0] at e1
    rw [nx _ _ _ hy0] at e2
    by_cases z : c = m
    · subst z
      rw [if_pos rfl] at e1 e2
      rw [pk_us] at e3
      exact Or.inr ⟨e1.symm, e2.symm, e3.symm⟩
    · rw [if_neg z] at e1 e2
      rw [pk_un z] at e3
      exact Or.inl ⟨c, by omega, e1, e2, e3⟩
  · rintro (⟨c, hc, e1, e2, e3⟩ | ⟨rfl, rfl, rfl⟩)
    · have z : c ≠ m := by omega
      refine ⟨c, by omega, ?_, ?_, ?_⟩
      · rw [nx _ _ _ hx0, if_neg z]; exact e1
      · rw [nx _ _ _ hy0, if_neg z]; exact e2
      · rw [pk_un z]; exact e3
    · refine ⟨m, by omega, ?_, ?_, pk_us⟩
      · rw [nx _ _ _ hx0, if_pos rfl]
      · rw [nx _ _ _ hy0, if_pos rfl]
def ge_SY (L CC CB CN : Nat → Nat) (k : Nat) : ga_T := fun x y d =>
  ∃ u i, u < 4 ∧ i < CC u ∧ u * 8 + i < k ∧ x = u * 8 + CN (u * 8 + i) ∧ y = 32 + CB (u * 8 + i) ∧ d = nI (gd_off L CB CN u (CB (u * 8 + i)) i)
def ge_SF (L CC CB CN : Nat → Nat) (EU EA EB : Nat → Nat) (e : Nat) : ga_T := fun x y d =>
  ge_SY L CC CB CN 32 x y d ∨ (∃ f, f < e ∧ x = EU f * 8 + fb_nm (EA f) ∧ y = EU f * 8 + fb_nm (EB f) ∧ d = nI (fb_ix (EB f)) - nI (fb_ix (EA f)))
theorem ge_sy0 {x y : Nat} {d : Int32} : ¬ ge_SY L CC CB CN 0 x y d := by
  rintro ⟨u, i, _, _, h, _⟩
  omega
theorem ge_syNo {k : Nat} (hc : ∀ u, u < 4 → CC u ≤ 8) (h : ¬ k % 8 < CC (k / 8)) {x y : Nat} {d : Int32} : ge_SY L CC CB CN (k + 1) x y d ↔ ge_SY L CC CB CN k x y d := by
  constructor
  · rintro ⟨u, i, h1, h2, h3, h4⟩
    refine ⟨u, i, h1, h2, ?_, h4⟩
    have := hc u h1
    by_cases z : u * 8 + i = k
    · exfalso
      have e1 : k % 8 = i := by omega
      have e2 : k / 8 = u := by omega
      rw [e1, e2] at h
      exact h h2
    · omega
  · rintro ⟨u, i, h1, h2, h3, h4⟩
    exact ⟨u, i, h1, h2, by omega, h4⟩
theorem ge_syYes {k : Nat} (hc : ∀ u, u < 4 → CC u ≤ 8) (hk : k < 32) (h : k % 8 < CC (k / 8)) {x y : Nat} {d : Int32} : ge_SY L CC CB CN (k + 1) x y d ↔
    (ge_SY L CC CB CN k x y d ∨ (x = k / 8 * 8 + CN k ∧ y = 32 + CB k ∧ d = nI (gd_off L CB CN (k / 8) (CB k) (k % 8)))) := by
  have ek : k / 8 * 8 + k % 8 = k := by omega
  constructor
  · rintro ⟨u, i, h1, h2, h3, h4, h5, h6⟩
    by_cases z : u * 8 + i = k ∧ u = k / 8
    · obtain ⟨z1, z2⟩ := z
      have z3 : i = k % 8 := by omega
      right
      rw [z1] at h4 h5 h6
      rw [z2] at h4 h6
      rw [z3] at h6
      exact ⟨h4, h5, h6⟩
    · left
      by_cases z1 : u * 8 + i = k
      · exfalso
        have := hc u h1
        exact z ⟨z1, by omega⟩
      · exact ⟨u, i, h1, h2, by omega, h4, h5, h6⟩
  · rintro (⟨u, i, h1, h2, h3, h4⟩ | ⟨h4, h5, h6⟩)
    · exact ⟨u, i, h1, h2, by omega, h4⟩
    · refine ⟨k / 8, k % 8, by omega, h, by omega, ?_, ?_, ?_⟩
      · rw [ek]; exact h4
      · rw [ek]; exact h5
      · rw [ek]; exact h6
theorem ge_sfe {e : Nat} {x y : Nat} {d : Int32} : ge_SF L CC CB CN EU EA EB (e + 1) x y d ↔
    (ge_SF L CC CB CN EU EA EB e x y d ∨ (x = EU e * 8 + fb_nm (EA e) ∧ y = EU e * 8 + fb_nm (EB e) ∧ d = nI (fb_ix (EB e)) - nI (fb_ix (EA e)))) := by
  constructor
  · rintro (h | ⟨f, hf, h⟩)
    · exact Or.inl (Or.inl h)
    · by_cases z : f = e
      · subst z
        exact Or.inr h
      · exact Or.inl (Or.inr ⟨f, by omega, h⟩)
  · rintro ((h | ⟨f, hf, h⟩) | h)
    · exact Or.inl h
    · exact Or.inr ⟨f, by omega, h⟩
    · exact Or.inr ⟨e, by omega, h⟩
theorem ge_sf0 {x y : Nat} {d : Int32} : ge_SF L CC CB CN EU EA EB 0 x y d ↔ ge_SY L CC CB CN 32 x y d := by
  constructor
  · rintro (h | ⟨f, hf, _⟩)
    · exact h
    · omega
  · exact Or.inl
theorem ge_cs (hc : ∀ u, u < 4 → CC u ≤ 8) {x y : Nat} {d : Int32} : ge_SF L CC CB CN EU EA EB ne x y d ↔ gd_CS L CC CB CN ne EU EA EB x y d := by
  constructor
  · rintro (⟨u, i, h1, h2, h3, h4⟩ | h)
    · exact Or.inl ⟨u, i, h1, h2, h4⟩
    · exact Or.inr h
  · rintro (⟨u, i, h1, h2, h4⟩ | h)
    · have := hc u h1
      exact Or.inl ⟨u, i, h1, h2, by omega, h4⟩
    · exact Or.inr h
end GLIS
end
section
section GPAS
/-! the reference's passes: one spread from a root -/
variable {fx fy : Nat → Nat} {D : Nat → Int32} {m r j c : Nat} {E : Nat → Prop} {p0 c0 r0 pl cm rl : Nat → Int32}
def gf_In (fx fy : Nat → Nat) (D : Nat → Int32) (m r : Nat) (E : Nat → Prop) (c : Nat) (p0 c0 r0 pl cm rl : Nat → Int32) : Prop :=
  ga_IY fx fy D m r E pl cm rl ∧ (∀ z, p0 z ≠ 0 → pl z ≠ 0) ∧
  ((p0 = pl ∧ c0 = cm ∧ r0 = rl ∧ ∀ c', c' < c → ga_Ok fx fy D pl cm rl c') ∨ (ga_cnt p0 36 < ga_cnt pl 36 ∧ ¬ ∀ c', c' < m → ga_Ok fx fy D p0 c0 r0 c'))
theorem gf_in0 (H : ga_IY fx fy D m r E pl cm rl) : gf_In fx fy D m r E 0 pl cm rl pl cm rl :=
  ⟨H, fun _ h => h, Or.inl ⟨rfl, rfl, rfl, fun c' h => absurd h (Nat.not_lt_zero c')⟩⟩
theorem gf_stay (H : gf_In fx fy D m r E c p0 c0 r0 pl cm rl) (ok : ga_Ok fx fy D pl cm rl c) : gf_In fx fy D m r E (c + 1) p0 c0 r0 pl cm rl := by
  obtain ⟨h1, h2, h3⟩ := H
  refine ⟨h1, h2, ?_⟩
  rcases h3 with ⟨e1, e2, e3, h⟩ | h
  · refine Or.inl ⟨e1, e2, e3, ?_⟩
    intro c' hc'
    by_cases z : c' = c
    · subst z; exact ok
    · exact h c' (by omega)
  · exact Or.inr h
theorem gf_both (H : gf_In fx fy D m r E c p0 c0 r0 pl cm rl) (hm : ∀ c, c < m → fx c < 36 ∧ fy c < 36) (hc : c < m) (px : pl (fx c) ≠ 0) (py : pl (fy c) ≠ 0) (e : rl (fx c) = rl (fy c) + D c) :
    gf_In fx fy D m r E (c + 1) p0 c0 r0 pl cm rl := gf_stay H (Or.inl ⟨px, py, ga_iyOne H.1 hm hc px py, e⟩)
theorem gf_none (H : gf_In fx fy D m r E c p0 c0 r0 pl cm rl) (px : pl (fx c) = 0) (py : pl (fy c) = 0) :
    gf_In fx fy D m r E (c + 1) p0 c0 r0 pl cm rl := gf_stay H (Or.inr ⟨px, py⟩)
theorem gf_grow {w : Nat} {a b : Int32} (H : gf_In fx fy D m r E c p0 c0 r0 pl cm rl) (hc : c < m) (hw : w < 36) (pw : pl w = 0) (no : ¬ ga_Ok fx fy D pl cm rl c)
    (H' : ga_IY fx fy D m r E (upd pl w 1) (upd cm w a) (upd rl w b)) : gf_In fx fy D m r E (c + 1) p0 c0 r0 (upd pl w 1) (upd cm w a) (upd rl w b) := by
  obtain ⟨h1, h2, h3⟩ := H
  have hcn := ga_cnt_up pw 36
  rw [if_pos hw] at hcn
  refine ⟨H', ?_, Or.inr ?_⟩
  · intro z hz
    by_cases e : z = w
    · rw [e, pk_us]; decide
    · rw [pk_un e]; exact h2 z hz
  · rcases h3 with ⟨e1, e2, e3, h⟩ | ⟨h, h'⟩
    · subst e1 e2 e3
      exact ⟨by omega, fun z => no (z c hc)⟩
    · exact ⟨by omega, h'⟩
theorem gf_xy (H : gf_In fx fy D m r E c p0 c0 r0 pl cm rl) (hm : ∀ c, c < m → fx c < 36 ∧ fy c < 36) (hc : c < m) (hd : -128 ≤ (D c).toInt ∧ (D c).toInt ≤ 128) (px : pl (fx c) ≠ 0) (py : pl (fy c) = 0) :
    gf_In fx fy D m r E (c + 1) p0 c0 r0 (upd pl (fy c) 1) (upd cm (fy c) (cm (fx c))) (upd rl (fy c) (rl (fx c) - D c)) :=
  gf_grow H hc (hm c hc).2 py (fun z => z.elim (fun z => z.2.1 py) (fun z => px z.1)) (ga_iyXY H.1 hm hc hd px py)
theorem gf_yx (H : gf_In fx fy D m r E c p0 c0 r0 pl cm rl) (hm : ∀ c, c < m → fx c < 36 ∧ fy c < 36) (hc : c < m) (hd : -128 ≤ (D c).toInt ∧ (D c).toInt ≤ 128) (px : pl (fx c) = 0) (py : pl (fy c) ≠ 0) :
    gf_In fx fy D m r E (c + 1) p0 c0 r0 (upd pl (fx c) 1) (upd cm (fx c) (cm (fy c))) (upd rl (fx c) (rl (fy c) + D c)) :=
  gf_grow H hc (hm c hc).1 px (fun z => z.elim (fun z => z.1 px) (fun z => py z.2)) (ga_iyYX H.1 hm hc hd px py)
def gf_Ps (fx fy : Nat → Nat) (D : Nat → Int32) (m r : Nat) (E : Nat → Prop) (j : Nat) (q0 pl cm rl : Nat → Int32) : Prop :=
  ga_IY fx fy D m r E pl cm rl ∧ (∀ z, q0 z ≠ 0 → pl z ≠ 0) ∧ ((∀ c, c < m → ga_Ok fx fy D pl cm rl c) ∨ j ≤ ga_cnt pl 36)
theorem gf_pass {q0 : Nat → Int32} (H : gf_Ps fx fy D m r E j q0 p0 c0 r0) (H' : gf_In fx fy D m r E m p0 c0 r0 pl cm rl) : gf_Ps fx fy D m r E (j + 1) q0 pl cm rl := by
  obtain ⟨_, k2, h⟩ := H
  obtain ⟨h1, h2, h3⟩ := H'
  refine ⟨h1, fun z hz => h2 z (k2 z hz), ?_⟩
  rcases h3 with ⟨e1, e2, e3, h3⟩ | ⟨h3, h4⟩
  · exact Or.inl h3
  · rcases h with h | h
    · exact absurd h h4
    · exact Or.inr (by omega)
theorem gf_end {q0 : Nat → Int32} (H : gf_Ps fx fy D m r E 40 q0 pl cm rl) : ∀ c, c < m → ga_Ok fx fy D pl cm rl c := by
  rcases H.2.2 with h | h
  · exact h
  · have := ga_cnt_le pl 36
    omega
end GPAS
end
section
section HLP
/-! the small methods, each against a plain fact -/
variable {sc oc ne ns ca on st ra xu xn xe xd nc yp yu ye yl yr : Int32} {al ap ac en eu ea eb sU sL sK sE sG sO gr po ec cx ou tc ss av cs cb cn kx ky kd pl rl cm hv ba ad ex cy bi : Nat → Int32}
variable {post : Int32 → Prop} {x : Int32}
theorem ha_lo {n : Nat} (hn : n < 2 ^ 31) (h : x < 0) : ¬ fa_R n x := by
  rintro ⟨j, hj, rfl⟩
  exact nI_pos (by omega) h
theorem ha_hi {n : Nat} (hn : n < 2 ^ 31) (h : nI n ≤ x) : ¬ fa_R n x := by
  rintro ⟨j, hj, rfl⟩
  exact nI_ge hj hn h
theorem ha_mid {n : Nat} (hn : n < 2 ^ 31) (h0 : ¬ x < 0) (h : ¬ nI n ≤ x) : fa_R n x := by
  rcases pk_ix x hn with a | a | a
  · exact absurd a h0
  · exact absurd a h
  · exact a
theorem ha_hi' {m : Nat} (hn : m < 2 ^ 30) (h : nI m < x) : ¬ fa_R (m + 1) x := by
  rintro ⟨j, hj, rfl⟩
  exact nI_nlt (by omega) (by omega) h
theorem ha_mid' {m : Nat} (hn : m < 2 ^ 30) (h0 : ¬ x < 0) (h : ¬ nI m < x) : fa_R (m + 1) x := by
  obtain ⟨j, hj, rfl⟩ := nI_of h0
  rw [nI_ltI (by omega) hj] at h
  exact ⟨j, by omega, rfl⟩
theorem ha_le {m : Nat} (hn : m < 2 ^ 30) (h0 : ¬ x < 0) (h : x ≤ nI m) : fa_R (m + 1) x := by
  obtain ⟨j, hj, rfl⟩ := nI_of h0
  rw [nI_leI hj (by omega)] at h
  exact ⟨j, by omega, rfl⟩
theorem ha_nle {m : Nat} (hn : m < 2 ^ 30) (h : ¬ x ≤ nI m) : ¬ fa_R (m + 1) x := by
  rintro ⟨j, hj, rfl⟩
  exact h (nI_le (by omega) (by omega))
theorem hx_isUnit (h1 : fa_R 4 x → post 1) (h0 : ¬ fa_R 4 x → post 0) : wpX_isUnit post () x :=
  br_c (fun a => h0 (ha_lo (by decide) a)) (fun a => br_c (fun b => h0 (ha_hi (n := 4) (by decide) b)) (fun b => h1 (ha_mid (n := 4) (by decide) a b)))
theorem hx_isName (h1 : fa_R 8 x → post 1) (h0 : ¬ fa_R 8 x → post 0) : wpX_isName post () x :=
  br_c (fun a => h0 (ha_lo (by decide) a)) (fun a => br_c (fun b => h0 (ha_hi (n := 8) (by decide) b)) (fun b => h1 (ha_mid (n := 8) (by decide) a b)))
theorem hx_isBlock (h1 : fa_R 4 x → post 1) (h0 : ¬ fa_R 4 x → post 0) : wpX_isBlock post () x :=
  br_c (fun a => h0 (ha_lo (by decide) a)) (fun a => br_c (fun b => h0 (ha_hi (n := 4) (by decide) b)) (fun b => h1 (ha_mid (n := 4) (by decide) a b)))
theorem hx_isFrozen (h1 : ca ≠ 0 → post 1) (h0 : ca = 0 → post 0) : wpX_isFrozen post (sc, oc, ne, ns, ca, on, st, ra, xu, xn, xe, xd, al, ap, ac, en, eu, ea, eb, sU, sL, sK, sE, sG, sO, gr, po, ec, cx, ou, tc, ss, av, cs) := br_c h0 h1
def fa_F (x : Int32) : Prop := ∃ c, fb_FX c ∧ x = nI c
def fa_I (x : Int32) : Prop := ∃ c, fb_IX c ∧ x = nI c
theorem ha_r100 {c : Nat} (h : c < 2 ^ 31) : nI c - nI c / 100 * 100 = nI (c % 100) := pk_rem (d := 100) h (by decide) (by decide)
theorem ha_r10000 {c : Nat} (h : c < 2 ^ 31) : nI c - nI c / 10000 * 10000 = nI (c % 10000) := pk_rem (d := 10000) h (by decide) (by decide)
theorem ha_r8 {c : Nat} (h : c < 2 ^ 31) : nI c - nI c / 8 * 8 = nI (c % 8) := pk_rem (d := 8) h (by decide) (by decide)
theorem ha_r4 {c : Nat} (h : c < 2 ^ 31) : nI c - nI c / 4 * 4 = nI (c % 4) := pk_rem (d := 4) h (by decide) (by decide)
theorem ha_d8 {c : Nat} (h : c < 2 ^ 31) : nI c / 8 = nI (c / 8) := pk_div (d := 8) h (by decide) (by decide)
theorem ha_d4 {c : Nat} (h : c < 2 ^ 31) : nI c / 4 = nI (c / 4) := pk_div (d := 4) h (by decide) (by decide)
theorem ha_d100 {c : Nat} (h : c < 2 ^ 31) : nI c / 100 = nI (c / 100) := pk_div (d := 100) h (by decide) (by decide)
theorem ha_nF (h : ∀ c, fb_FX c → x ≠ nI c) : ¬ fa_F x := fun ⟨c, a, b⟩ => h c a b
theorem hx_isFixed (h1 : fa_F x → post 1) (h0 : ¬ fa_F x → post 0) : wpX_isFixed post () x := by
  refine br_c (fun a => ?_) (fun a => br_c (fun b => ?_) (fun b => ?_))
  · refine br_t rfl (h0 ?_)
    rintro ⟨c, hc, rfl⟩
    unfold fb_FX at hc
    exact nI_nlt (b := 10000) hc.1 (by omega) a
  · refine br_t rfl (h0 ?_)
    rintro ⟨c, hc, rfl⟩
    unfold fb_FX at hc
    exact nI_ge (b := 10800) hc.2.1 (by decide) b
  · have h0' : ¬ x < 0 := fun z => a (Int32.lt_trans z (by decide))
    obtain ⟨c, hc, rfl⟩ := nI_of h0'
    have c1 : 10000 ≤ c := Nat.le_of_not_lt fun z => a (nI_lt (b := 10000) z (by decide))
    have c2 : c < 10800 := Nat.lt_of_not_le fun z => b (nI_le (a := 10800) z hc)
    refine br_f (by decide) ⟨by decide, ?_⟩
    rw [ha_r100 hc]
    refine pk_lt 16 (c % 100) (fun z => h0 ?_) (fun z => h1 ⟨c, ⟨c1, c2, z⟩, rfl⟩)
    rintro ⟨c', hc', e⟩
    have := fa_inj hc (by unfold fb_FX at hc'; omega) e
    subst this
    unfold fb_FX at hc'
    omega
theorem ha_nm {c : Nat} (hc : c < 2 ^ 31) : (nI c - nI c / 10000 * 10000) / 100 = nI (fb_nm c) := by
  rw [ha_r10000 hc, ha_d100 (by omega)]; rfl
theorem hx_slotOf {u c : Nat} (hc : c < 2 ^ 31) (h : post (nI (u * 8 + fb_nm c))) : wpX_slotOf post () (nI u) (nI c) := by
  refine ⟨by decide, by decide, ?_⟩
  rw [ha_nm hc, show nI u * 8 = nI (u * 8) from pk_mul u 8, nI_add]
  exact h
theorem hx_elementOf {c : Nat} (hc : c < 2 ^ 31) (h : post (nI (fb_ix c))) : wpX_elementOf post () (nI c) := by
  refine ⟨by decide, nm_r (ha_r100 hc) (pk_eq (c % 100) 0 (fun z => ?_) (fun z => ?_))⟩
  · unfold fb_ix at h
    rw [if_pos z] at h
    exact h
  · unfold fb_ix at h
    rw [if_neg z] at h
    exact h
theorem hx_isDummy {k : Nat} (hk : k < 32) (hp : fa_R 4 (ap (k / 8))) (h0 : gd_St (fa_N ap) k → post 0) (h1 : ¬ gd_St (fa_N ap) k → post 1) : wpX_isDummy post (sc, oc, ne, ns, ca, on, st, ra, xu, xn, xe, xd, al, ap, ac, en, eu, ea, eb, sU, sL, sK, sE, sG, sO, gr, po, ec, cx, ou, tc, ss, av, cs) (nI k) := by
  obtain ⟨e, l⟩ := fa_Rn hp (by decide)
  refine ⟨by decide, by decide, ?_⟩
  rw [ha_d8 (by omega), show nI k - nI (k / 8) * 8 = nI (k % 8) from by rw [← ha_d8 (by omega)]; exact ha_r8 (by omega), nI_clamp (by omega), e]
  refine ⟨vp_in_nI (by omega) (by decide), pk_le (fa_N ap (k / 8)) (k % 8) (fun z => h0 (by unfold gd_St; omega)) (fun z => h1 (by unfold gd_St; omega))⟩
theorem ha_us {u n : Nat} : nI u * 8 + nI n = nI (u * 8 + n) := by rw [show nI u * 8 = nI (u * 8) from pk_mul u 8, nI_add]
theorem ha_5 {u n : Nat} : nI u * 5 + nI n = nI (u * 5 + n) := by rw [show nI u * 5 = nI (u * 5) from pk_mul u 5, nI_add]
theorem ha_50 {u : Nat} : nI u * 5 = nI (u * 5) := pk_mul u 5
theorem ha_16 {u : Nat} : nI u * 16 = nI (u * 16) := pk_mul u 16
theorem ha_4 {u n : Nat} : nI u * 4 + nI n = nI (u * 4 + n) := by rw [show nI u * 4 = nI (u * 4) from pk_mul u 4, nI_add]
theorem ha_32 {n : Nat} : 32 + nI n = nI (32 + n) := nI_add 32 n
theorem ha_el {k i : Nat} (h : 1 ≤ i) : nI k * 16 + nI i - 1 = nI (k * 16 + i - 1) := by
  rw [ha_16, nI_add, show nI (k * 16 + i) - 1 = nI (k * 16 + i) - nI 1 from rfl, pk_sub (by omega)]
end HLP
end
section
section HST
/-! statements: places, extras, what is pending -/
variable {sc oc ne ns ca on st ra xu xn xe xd nc yp yu ye yl yr : Int32} {al ap ac en eu ea eb sU sL sK sE sG sO gr po ec cx ou tc ss av cs cb cn kx ky kd pl rl cm hv ba ad ex cy bi : Nat → Int32}
variable {post : Int32 → Prop} {x y : Int32}
theorem hx_placeCount {k e : Nat} (k1 : 1 ≤ k) (k9 : k ≤ 9) (he : e < 1000) (h : post (nI (fb_need k e))) : wpX_placeCount post () (nI k) (nI e) := by
  have c : k = 1 ∨ k = 2 ∨ k = 3 ∨ k = 4 ∨ k = 5 ∨ k = 6 ∨ k = 7 ∨ k = 8 ∨ k = 9 := by omega
  rcases c with rfl | rfl | rfl | rfl | rfl | rfl | rfl | rfl | rfl
  · exact br_f (by decide) (br_f (by decide) (br_t (by decide) (h)))
  · exact br_f (by decide) (br_f (by decide) (br_f (by decide) (br_t (by decide) (h))))
  · exact br_f (by decide) (br_f (by decide) (br_f (by decide) (br_f (by decide) (br_t (by decide) (by rw [show (1 : Int32) + nI e = nI (1 + e) from nI_add 1 e]; exact h)))))
  · exact br_f (by decide) (br_f (by decide) (br_f (by decide) (br_f (by decide) (br_f (by decide) (br_t (by decide) (h))))))
  · exact br_f (by decide) (br_f (by decide) (br_f (by decide) (br_f (by decide) (br_f (by decide) (br_f (by decide) (br_t (by decide) (⟨by decide, by rw [ha_d4 (by omega)]; exact h⟩)))))))
  · exact br_f (by decide) (br_f (by decide) (br_f (by decide) (br_f (by decide) (br_f (by decide) (br_f (by decide) (br_f (by decide) (br_t (by decide) (h))))))))
  · exact br_f (by decide) (br_t (by decide) (h))
  · exact br_f (by decide) (br_t (by decide) (h))
  · exact br_f (by decide) (br_t (by decide) (h))
theorem hx_placeKind {k p : Nat} (k1 : 1 ≤ k) (k9 : k ≤ 9) (hp : p < 1000) (h : post (nI (fb_pl k p))) : wpX_placeKind post () (nI k) (nI p) := by
  have c : k = 1 ∨ k = 2 ∨ k = 3 ∨ k = 4 ∨ k = 5 ∨ k = 6 ∨ k = 7 ∨ k = 8 ∨ k = 9 := by omega
  rcases c with rfl | rfl | rfl | rfl | rfl | rfl | rfl | rfl | rfl
  · exact br_f (by decide) (br_f (by decide) (br_t (by decide) (pk_eq p 0 (fun z => by subst z; exact h) (fun z => by rw [show fb_pl 1 p = 0 from if_neg z] at h; exact h))))
  · exact br_f (by decide) (br_f (by decide) (br_f (by decide) (br_t (by decide) (pk_le 2 p (fun z => by rw [show fb_pl 2 p = 2 from if_neg (show ¬ p < 2 by omega)] at h; exact h) (fun z => by rw [show fb_pl 2 p = 0 from if_pos z] at h; exact h)))))
  · exact br_f (by decide) (br_f (by decide) (br_f (by decide) (br_f (by decide) (br_t (by decide) (pk_eq p 0 (fun z => by subst z; exact h) (fun z => by rw [show fb_pl 3 p = 2 from if_neg z] at h; exact h))))))
  · exact br_f (by decide) (br_f (by decide) (br_f (by decide) (br_f (by decide) (br_f (by decide) (br_t (by decide) (pk_eq p 0 (fun z => by subst z; exact h) (fun z => pk_eq p 1 (fun z => by subst z; exact h) (fun z' => by rw [show fb_pl 4 p = 0 from (if_neg z).trans (if_neg z')] at h; exact h))))))))
  · exact br_f (by decide) (br_f (by decide) (br_f (by decide) (br_f (by decide) (br_f (by decide) (br_f (by decide) (br_t (by decide) (h)))))))
  · exact br_f (by decide) (br_t (by decide) (h))
  · exact br_f (by decide) (br_t (by decide) (h))
  · exact br_f (by decide) (br_t (by decide) (h))
  · exact br_f (by decide) (br_t (by decide) (h))
def fa_X (x y : Int32) : Prop := ∃ k e, 1 ≤ k ∧ k ≤ 9 ∧ x = nI k ∧ y = nI e ∧ e < 16 ∧ fb_xok k e
theorem ha_xk {k : Nat} (k1 : 1 ≤ k) (k9 : k ≤ 9) : fa_X (nI k) y ↔ ∃ e, y = nI e ∧ e < 16 ∧ fb_xok k e := by
  constructor
  · rintro ⟨k', e, a1, a2, a3, a4, a5, a6⟩
    have := fa_inj (by omega) (by omega) a3
    subst this
    exact ⟨e, a4, a5, a6⟩
  · rintro ⟨e, a4, a5, a6⟩
    exact ⟨k, e, k1, k9, rfl, a4, a5, a6⟩
theorem ha_xn (h : ¬ fa_R 10 x ∨ x = nI 0) : ¬ fa_X x y := by
  rintro ⟨k, e, a1, a2, rfl, _⟩
  rcases h with h | h
  · exact h ⟨k, by omega, rfl⟩
  · have := fa_inj (by omega) (by omega) h
    omega
theorem ha_xv {A : Prop} {k : Nat} (k1 : 1 ≤ k) (k9 : k ≤ 9) (hn : y < 0 → A) (hb : (16 : Int32) ≤ y → A) (hv : ∀ e, e < 16 → y = nI e → A) : A := by
  rcases pk_ix y (n := 16) (by decide) with a | a | ⟨e, he, rfl⟩
  · exact hn a
  · exact hb a
  · exact hv e he rfl
theorem ha_x0 {k : Nat} (k1 : 1 ≤ k) (k9 : k ≤ 9) (h : y < 0) : ¬ fa_X (nI k) y := by
  rw [ha_xk k1 k9]
  rintro ⟨e, rfl, he, _⟩
  exact nI_pos (by omega) h
theorem ha_x16 {k : Nat} (k1 : 1 ≤ k) (k9 : k ≤ 9) (h : (16 : Int32) ≤ y) : ¬ fa_X (nI k) y := by
  rw [ha_xk k1 k9]
  rintro ⟨e, rfl, he, _⟩
  exact nI_ge (b := 16) he (by decide) h
theorem ha_xe {k e : Nat} (k1 : 1 ≤ k) (k9 : k ≤ 9) (he : e < 16) : fa_X (nI k) (nI e) ↔ fb_xok k e := by
  rw [ha_xk k1 k9]
  constructor
  · rintro ⟨e', a, b, c⟩
    have := fa_inj (by omega) (by omega) a
    subst this
    exact c
  · intro c
    exact ⟨e, rfl, he, c⟩
theorem ha_ge1 (h : (16 : Int32) ≤ y) : ¬ y < 0 ∧ ¬ y < 1 ∧ 3 < y ∧ 4 < y ∧ 15 < y ∧ ¬ y = 0 := by
  rw [Int32.le_iff_toInt_le] at h
  simp only [Int32.lt_iff_toInt_lt, ← Int32.toInt_inj]
  have e16 : (16 : Int32).toInt = 16 := by decide
  have e0 : (0 : Int32).toInt = 0 := by decide
  have e1 : (1 : Int32).toInt = 1 := by decide
  have e3 : (3 : Int32).toInt = 3 := by decide
  have e4 : (4 : Int32).toInt = 4 := by decide
  have e15 : (15 : Int32).toInt = 15 := by decide
  rw [e16] at h
  rw [e0, e1, e3, e4, e15]
  omega
theorem ha_lt1 (h : y < 0) : y < 1 ∧ ¬ y = 0 := by
  refine ⟨Int32.lt_trans h (by decide), ?_⟩
  rintro rfl
  exact absurd h (by decide)

theorem ha_xz {k : Nat} (k1 : 1 ≤ k) (k9 : k ≤ 9) (n1 : k ≠ 1) (n3 : k ≠ 3) (n5 : k ≠ 5) (z : ¬ y = 0) : ¬ fa_X (nI k) y := by
  rw [ha_xk k1 k9]
  rintro ⟨e, rfl, he, c⟩
  unfold fb_xok at c
  have : e = 0 := by omega
  subst this
  exact z rfl
theorem hk_1 (h1 : fa_X (nI 1) y → post 1) (h0 : ¬ fa_X (nI 1) y → post 0) : (y < 0 → post 0) ∧ (¬ y < 0 → ((3 < y → post 0) ∧ (¬ 3 < y → post 1))) := by
  rcases pk_ix y (n := 16) (by decide) with a | a | ⟨e, he, rfl⟩
  · exact br_t a (h0 (ha_x0 (by decide) (by decide) a))
  · obtain ⟨c0, c1, c3, c4, c5, c6⟩ := ha_ge1 a
    exact br_f c0 (br_t c3 (h0 (ha_x16 (by decide) (by decide) a)))
  · have key := ha_xe (k := 1) (e := e) (by decide) (by decide) he
    unfold fb_xok at key
    exact br_f (nI_pos (by omega)) (pk_lt 3 e (fun z => h0 (by rw [key]; omega)) (fun z => h1 (by rw [key]; omega)))
theorem hk_3 (h1 : fa_X (nI 3) y → post 1) (h0 : ¬ fa_X (nI 3) y → post 0) : (y < 1 → post 0) ∧ (¬ y < 1 → ((4 < y → post 0) ∧ (¬ 4 < y → post 1))) := by
  rcases pk_ix y (n := 16) (by decide) with a | a | ⟨e, he, rfl⟩
  · exact br_t (ha_lt1 a).1 (h0 (ha_x0 (by decide) (by decide) a))
  · obtain ⟨c0, c1, c3, c4, c5, c6⟩ := ha_ge1 a
    exact br_f c1 (br_t c4 (h0 (ha_x16 (by decide) (by decide) a)))
  · have key := ha_xe (k := 3) (e := e) (by decide) (by decide) he
    unfold fb_xok at key
    exact pk_lt e 1 (fun z => h0 (by rw [key]; omega)) (fun z' => pk_lt 4 e (fun z => h0 (by rw [key]; omega)) (fun z => h1 (by rw [key]; omega)))
theorem hk_5x (h1 : fa_X (nI 5) y → post 1) (h0 : ¬ fa_X (nI 5) y → post 0) : (y < 0 → post 0) ∧ (¬ y < 0 → ((16 ≤ y → post 0) ∧ (¬ 16 ≤ y → (¬ (4 : Int32) = 0 ∧ (((y - y / 4 * 4) = 0 → post 0) ∧ (¬ (y - y / 4 * 4) = 0 → post 1)))))) := by
  rcases pk_ix y (n := 16) (by decide) with a | a | ⟨e, he, rfl⟩
  · exact br_t a (h0 (ha_x0 (by decide) (by decide) a))
  · obtain ⟨c0, c1, c3, c4, c5, c6⟩ := ha_ge1 a
    exact br_f c0 (br_t a (h0 (ha_x16 (by decide) (by decide) a)))
  · have key := ha_xe (k := 5) (e := e) (by decide) (by decide) he
    unfold fb_xok at key
    refine br_f (nI_pos (by omega)) (br_f (nI_ge (b := 16) he (by decide)) ⟨by decide, ?_⟩)
    rw [ha_r4 (by omega)]
    exact pk_eq (e % 4) 0 (fun z => h0 (by rw [key]; omega)) (fun z => h1 (by rw [key]; omega))
theorem hk_5y (h1 : fa_X (nI 5) y → post 1) (h0 : ¬ fa_X (nI 5) y → post 0) : (y < 1 → post 0) ∧ (¬ y < 1 → ((15 < y → post 0) ∧ (¬ 15 < y → (¬ (4 : Int32) = 0 ∧ (((y - y / 4 * 4) = 0 → post 0) ∧ (¬ (y - y / 4 * 4) = 0 → post 1)))))) := by
  rcases pk_ix y (n := 16) (by decide) with a | a | ⟨e, he, rfl⟩
  · exact br_t (ha_lt1 a).1 (h0 (ha_x0 (by decide) (by decide) a))
  · obtain ⟨c0, c1, c3, c4, c5, c6⟩ := ha_ge1 a
    exact br_f c1 (br_t c5 (h0 (ha_x16 (by decide) (by decide) a)))
  · have key := ha_xe (k := 5) (e := e) (by decide) (by decide) he
    unfold fb_xok at key
    refine pk_lt e 1 (fun z => h0 (by rw [key]; omega)) (fun z' => br_f (nI_nlt (a := 15) (by omega) (by decide)) ⟨by decide, ?_⟩)
    rw [ha_r4 (by omega)]
    exact pk_eq (e % 4) 0 (fun z => h0 (by rw [key]; omega)) (fun z => h1 (by rw [key]; omega))
def fb_pend (n : Nat) (sK sE sG : Nat → Int32) : Nat := if n = 0 then 0 else fb_need (fa_N sK (n - 1)) (fa_N sE (n - 1)) - fa_N sG (n - 1)
theorem ha_V {s : Nat} {f : Prop} (V : fs_V sU sL sK sE sG sO s f) : (sK s = nI (fa_N sK s) ∧ 1 ≤ fa_N sK s ∧ fa_N sK s ≤ 9) ∧ (sE s = nI (fa_N sE s) ∧ fb_xok (fa_N sK s) (fa_N sE s) ∧ fa_N sE s < 16) ∧ (sG s = nI (fa_N sG s) ∧ fa_N sG s ≤ fb_need (fa_N sK s) (fa_N sE s) ∧ fa_N sG s ≤ 5) ∧ (sU s = nI (fa_N sU s) ∧ fa_N sU s < 4) ∧ (sL s = nI (fa_N sL s) ∧ fa_N sL s < 100) ∧ (f → fa_N sG s = fb_need (fa_N sK s) (fa_N sE s)) ∧
    (∀ p, p < fa_N sG s → ∃ c, sO (s * 5 + p) = nI c ∧ fb_al (fb_pl (fa_N sK s) p) c) := by
  obtain ⟨u, l, k, e, g, a1, a2, a3, a4, a5, a6, a7, a8, a9, a10, a11, a12, a13⟩ := V
  have e16 : e < 16 := by unfold fb_xok at a9; omega
  have n5 := fb_need5 a9
  rw [fa_Re a1 (by omega), fa_Re a3 (by omega), fa_Re a5 (by omega), fa_Re a8 (by omega), fa_Re a10 (by omega)]
  exact ⟨⟨a5, a6, a7⟩, ⟨a8, a9, e16⟩, ⟨a10, a11, by omega⟩, ⟨a1, a2⟩, ⟨a3, a4⟩, a12, a13⟩
theorem hx_await {n : Nat} {f : Prop} (hn : n ≤ 64) (S : fs_S n sU sL sK sE sG sO f) (h : post (nI (fb_pend n sK sE sG))) : wpX_awaitedOperands post (sc, oc, ne, nI n, ca, on, st, ra, xu, xn, xe, xd, al, ap, ac, en, eu, ea, eb, sU, sL, sK, sE, sG, sO, gr, po, ec, cx, ou, tc, ss, av, cs) := by
  refine pk_eq n 0 (fun z => by subst z; exact h) (fun z => ?_)
  have e1 : nI n - 1 = nI (n - 1) := pk_sub (b := 1) (by omega)
  refine nm_r e1 ?_
  obtain ⟨⟨b1, b2, b3⟩, ⟨c1, c2, c3⟩, ⟨d1, d2, d3⟩, _⟩ := ha_V (S (n - 1) (by omega))
  have v : vp_in (nI (n - 1)) 64 := vp_in_nI (by omega) (by decide)
  refine ⟨v, v, ?_⟩
  rw [nI_clamp (by omega), b1, c1]
  refine hx_placeCount b2 b3 (by omega) ⟨v, ?_⟩
  rw [d1, pk_sub d2]
  unfold fb_pend at h
  rw [if_neg z] at h
  exact h
def fa_A (w : Nat) (x : Int32) : Prop := ∃ c, x = nI c ∧ fb_al w c
theorem ha_A0 : fa_A 0 x ↔ (fa_R 10000 x ∨ fa_F x ∨ fa_I x) := by
  constructor
  · rintro ⟨c, rfl, h⟩
    unfold fb_al at h
    rcases h with h | h | ⟨_, h | h | h⟩
    · omega
    · omega
    · exact Or.inl ⟨c, h, rfl⟩
    · exact Or.inr (Or.inl ⟨c, h, rfl⟩)
    · exact Or.inr (Or.inr ⟨c, h, rfl⟩)
  · rintro (⟨c, h, rfl⟩ | ⟨c, h, rfl⟩ | ⟨c, h, rfl⟩)
    · exact ⟨c, rfl, Or.inr (Or.inr ⟨rfl, Or.inl h⟩)⟩
    · exact ⟨c, rfl, Or.inr (Or.inr ⟨rfl, Or.inr (Or.inl h)⟩)⟩
    · exact ⟨c, rfl, Or.inr (Or.inr ⟨rfl, Or.inr (Or.inr h)⟩)⟩
theorem ha_A1 : fa_A 1 x ↔ (fa_F x ∨ fa_I x) := by
  constructor
  · rintro ⟨c, rfl, h⟩
    unfold fb_al at h
    rcases h with h | ⟨_, h | h⟩ | h
    · omega
    · exact Or.inl ⟨c, h, rfl⟩
    · exact Or.inr ⟨c, h, rfl⟩
    · omega
  · rintro (⟨c, h, rfl⟩ | ⟨c, h, rfl⟩)
    · exact ⟨c, rfl, Or.inr (Or.inl ⟨rfl, Or.inl h⟩)⟩
    · exact ⟨c, rfl, Or.inr (Or.inl ⟨rfl, Or.inr h⟩)⟩
theorem ha_A2 : fa_A 2 x ↔ fa_R 10000 x := by
  constructor
  · rintro ⟨c, rfl, h⟩
    unfold fb_al at h
    exact ⟨c, by omega, rfl⟩
  · rintro ⟨c, h, rfl⟩
    exact ⟨c, rfl, Or.inl ⟨rfl, h⟩⟩
theorem ha_nb (z : Int32) (h : z = 0 ∨ z = 1) : narrow .boolean (.int z) = .int z := by
  rcases h with rfl | rfl <;> rfl
end HST
end
section
section HSE
/-! searches over the statements, on both sides -/
variable {sc oc ne ns ca on st ra xu xn xe xd nc yp yu ye yl yr : Int32} {al ap ac en eu ea eb sU sL sK sE sG sO gr po ec cx ou tc ss av cs cb cn kx ky kd pl rl cm hv ba ad ex cy bi : Nat → Int32}
variable {post : Int32 → Prop} {u l : Int32} {n : Nat}
def fb_pc (n p : Nat) : Int32 := if p < n then nI p else -1
theorem hs_xfl0 (hn : n ≤ 64) : ∀ d j, j + d = n → post (-1) → wX_findLabel_2 post u 0 sc oc ne (nI n) ca on st ra xu xn xe xd al ap ac en eu ea eb sU sL sK sE sG sO gr po ec cx ou tc ss av cs (d + 1) (nI j) := by
  intro d
  induction d with
  | zero =>
    intro j hj h
    have e : j = n := by omega
    subst e
    exact br_t (nI_le (Nat.le_refl j) (by omega)) h
  | succ d ih =>
    intro j hj h
    exact br_f (nI_ge (by omega) (by omega)) (br_t rfl (nm_r (nI_1 j) (ih (j + 1) (by omega) h)))
theorem hs_xfl (hn : n ≤ 64) (hl : ¬ l = 0) : ∀ d j, j + d = n → post (fb_pc n (fb_fl sU sL u l d j)) → wX_findLabel_2 post u l sc oc ne (nI n) ca on st ra xu xn xe xd al ap ac en eu ea eb sU sL sK sE sG sO gr po ec cx ou tc ss av cs (d + 1) (nI j) := by
  intro d
  induction d with
  | zero =>
    intro j hj h
    have e : j = n := by omega
    subst e
    have h' : post (if j < j then nI j else -1) := h
    rw [if_neg (Nat.lt_irrefl j)] at h'
    exact br_t (nI_le (Nat.le_refl j) (by omega)) h'
  | succ d ih =>
    intro j hj h
    refine br_f (nI_ge (by omega) (by omega)) (br_f hl ⟨vp_in_nI (by omega) (by decide), ?_⟩)
    rw [nI_clamp (by omega)]
    have h' : post (fb_pc n (if sU j = u ∧ sL j = l then j else fb_fl sU sL u l d (j + 1))) := h
    refine br_c (fun z => ⟨vp_in_nI (by omega) (by decide), br_c (fun z' => ?_) (fun z' => ?_)⟩) (fun z => ?_)
    · rw [if_pos ⟨z', z⟩] at h'
      unfold fb_pc at h'
      rw [if_pos (by omega)] at h'
      exact h'
    · rw [if_neg (fun q => z' q.1)] at h'
      exact nm_r (nI_1 j) (ih (j + 1) (by omega) h')
    · rw [if_neg (fun q => z q.2)] at h'
      exact nm_r (nI_1 j) (ih (j + 1) (by omega) h')
theorem hx_findLabel (hn : n ≤ 64) (h : post (fb_FL sU sL n u l)) : wpX_findLabel post (sc, oc, ne, nI n, ca, on, st, ra, xu, xn, xe, xd, al, ap, ac, en, eu, ea, eb, sU, sL, sK, sE, sG, sO, gr, po, ec, cx, ou, tc, ss, av, cs) u l := by
  refine ⟨n + 1, ?_⟩
  unfold fb_FL at h
  by_cases z : l = 0
  · rw [if_pos z] at h
    subst z
    exact hs_xfl0 hn n 0 (by omega) h
  · rw [if_neg z] at h
    exact hs_xfl hn z n 0 (by omega) h
theorem hs_FL (h : fb_FL sU sL n u l ≠ -1) : ∃ t, t < n ∧ fb_FL sU sL n u l = nI t ∧ sU t = u ∧ sL t = l ∧ l ≠ 0 := by
  unfold fb_FL at h ⊢
  by_cases z : l = 0
  · rw [if_pos z] at h
    exact absurd rfl h
  · rw [if_neg z] at h ⊢
    by_cases z' : fb_fl sU sL u l n 0 < n
    · rw [if_pos z'] at h ⊢
      have a := (fb_fl_in sU sL u l n 0).2.2 (by omega)
      exact ⟨_, z', rfl, a.1, a.2, z⟩
    · rw [if_neg z'] at h
      exact absurd rfl h
theorem hs_FLr : fb_FL sU sL n u l = -1 ∨ ∃ t, t < n ∧ fb_FL sU sL n u l = nI t ∧ sU t = u ∧ sL t = l ∧ l ≠ 0 := by
  by_cases h : fb_FL sU sL n u l = -1
  · exact Or.inl h
  · exact Or.inr (hs_FL h)
end HSE
end
section
section HCE
/-! a variable's cell and an operand's value, on both sides at once -/
variable {sc oc ne ns ca on st ra xu xn xe xd nc yp yu ye yl yr : Int32} {al ap ac en eu ea eb sU sL sK sE sG sO gr po ec cx ou tc ss av cs cb cn kx ky kd pl rl cm hv ba ad ex cy bi : Nat → Int32}
theorem hc_v {v : Int32} {l : Nat} (h2 : l ≤ 16) : v < 1 ∨ (¬ v < 1 ∧ ¬ v ≤ nI l) ∨ ∃ i, 1 ≤ i ∧ i ≤ l ∧ v = nI i := by
  by_cases a : v < 1
  · exact Or.inl a
  · right
    by_cases b : v ≤ nI l
    · right
      have a0 : ¬ v < 0 := fun z => a (Int32.lt_trans z (by decide))
      obtain ⟨i, hi, rfl⟩ := nI_of a0
      refine ⟨i, Nat.le_of_not_lt fun z => a (nI_lt (b := 1) z (by decide)), ?_, rfl⟩
      rw [nI_leI hi (by omega)] at b
      exact b
    · exact Or.inl ⟨a, b⟩
variable {RC : Nat → Nat → Prop} {u c s p : Nat}
theorem hc_dum (hd : ∀ k, k < 32 → ¬ gd_St (fa_N ap) k → al k = 1) (hu : u < 4) {n : Nat} (hn : n < 8) (h : n < fa_N ap u) : al (u * 8 + n) = 1 := by
  refine hd _ (by omega) ?_
  unfold gd_St
  rw [show (u * 8 + n) % 8 = n by omega, show (u * 8 + n) / 8 = u by omega]
  exact fun z => z h
end HCE
end
section
section HSM
/-! the declaring methods and the readers: each side, taken and refused -/
variable {sc oc ne ns ca on st ra xu xn xe xd nc yp yu ye yl yr : Int32} {al ap ac en eu ea eb sU sL sK sE sG sO gr po ec cx ou tc ss av cs cb cn kx ky kd pl rl cm hv ba ad ex cy bi : Nat → Int32}
variable {p0 p1 p2 p3 : Int32} {u m l b n : Nat}
def fa_L (x : Int32) : Prop := ∃ l, 1 ≤ l ∧ l ≤ 16 ∧ x = nI l
theorem hl_1 (h : p2 < 1) : ¬ fa_L p2 := by
  rintro ⟨l, l1, l2, rfl⟩
  exact nI_nlt (b := 1) l1 (by omega) h
theorem hl_2 (h : ¬ p2 ≤ 16) : ¬ fa_L p2 := by
  rintro ⟨l, l1, l2, rfl⟩
  exact h (nI_le (b := 16) l2 (by decide))
theorem hl_3 (h : ¬ p2 < 1) (h' : p2 ≤ 16) : fa_L p2 := by
  rcases hc_v (v := p2) (l := 16) (Nat.le_refl 16) with a | ⟨a, b⟩ | ⟨i, i1, i2, e⟩
  · exact absurd a h
  · exact absurd h' b
  · exact ⟨i, i1, i2, e⟩
theorem vx_dim1 {P : Int32 → St2 → Prop} (hu : u < 4) (hm : m < 8) (l1 : 1 ≤ l) (l16 : l ≤ 16) (h : P 1 (sc, oc, ne, ns, 0, on, st, ra, xu, xn, xe, xd, upd al (u * 8 + m) (nI l), ap, ac, en, eu, ea, eb, sU, sL, sK, sE, sG, sO, gr, po, ec, cx, ou, tc, ss, av, cs)) : wpX_dimension P (sc, oc, ne, ns, 0, on, st, ra, xu, xn, xe, xd, al, ap, ac, en, eu, ea, eb, sU, sL, sK, sE, sG, sO, gr, po, ec, cx, ou, tc, ss, av, cs) (nI u) (nI m) (nI l) := by
  unfold wpX_dimension
  dsimp only
  refine hx_isFrozen (fun z => absurd rfl z) (fun _ => br_t rfl ?_)
  refine hx_isUnit (fun _ => br_f (by decide) ?_) (fun z => absurd ⟨u, hu, rfl⟩ z)
  refine hx_isName (fun _ => br_f (by decide) ?_) (fun z => absurd ⟨m, hm, rfl⟩ z)
  refine br_f (nI_nlt (b := 1) l1 (by omega)) (br_t (nI_le (b := 16) l16 (by decide)) ?_)
  rw [ha_us, nI_clamp (by omega)]
  exact ⟨vp_in_nI (by omega) (by decide), nm_e h⟩
theorem vx_dim0 {P : Int32 → St2 → Prop} (c : ¬ (ca = 0 ∧ fa_R 4 p0 ∧ fa_R 8 p1 ∧ fa_L p2)) (h : P 0 (sc, oc, ne, ns, ca, on, st, ra, xu, xn, xe, xd, al, ap, ac, en, eu, ea, eb, sU, sL, sK, sE, sG, sO, gr, po, ec, cx, ou, tc, ss, av, cs)) : wpX_dimension P (sc, oc, ne, ns, ca, on, st, ra, xu, xn, xe, xd, al, ap, ac, en, eu, ea, eb, sU, sL, sK, sE, sG, sO, gr, po, ec, cx, ou, tc, ss, av, cs) p0 p1 p2 := by
  unfold wpX_dimension
  dsimp only
  refine hx_isFrozen (fun z => br_f (by decide) h) (fun c0 => br_t rfl ?_)
  refine hx_isUnit (fun cu => br_f (by decide) ?_) (fun z => br_t rfl h)
  refine hx_isName (fun cn => br_f (by decide) ?_) (fun z => br_t rfl h)
  exact br_c (fun _ => h) (fun z => br_c (fun z' => absurd ⟨c0, cu, cn, hl_3 z z'⟩ c) (fun _ => h))
def fa_U (x : Int32) : Prop := ∃ u, 1 ≤ u ∧ u < 4 ∧ x = nI u
theorem vx_com1 {P : Int32 → St2 → Prop} (hu : u < 4) (hb : b < 4) (hm : m < 8) (hc : l < 8) (e : ac u = nI l) (h : P 1 (sc, oc, ne, ns, 0, on, st, ra, xu, xn, xe, xd, al, ap, upd ac u (nI (l + 1)), upd en (u * 8 + l) (nI (b * 8 + m)), eu, ea, eb, sU, sL, sK, sE, sG, sO, gr, po, ec, cx, ou, tc, ss, av, cs)) : wpX_common P (sc, oc, ne, ns, 0, on, st, ra, xu, xn, xe, xd, al, ap, ac, en, eu, ea, eb, sU, sL, sK, sE, sG, sO, gr, po, ec, cx, ou, tc, ss, av, cs) (nI u) (nI b) (nI m) := by
  unfold wpX_common
  dsimp only
  refine hx_isFrozen (fun z => absurd rfl z) (fun _ => br_t rfl ?_)
  refine hx_isUnit (fun _ => br_f (by decide) ?_) (fun z => absurd ⟨u, hu, rfl⟩ z)
  refine hx_isBlock (fun _ => br_f (by decide) ?_) (fun z => absurd ⟨b, hb, rfl⟩ z)
  refine hx_isName (fun _ => br_f (by decide) ?_) (fun z => absurd ⟨m, hm, rfl⟩ z)
  have vu : vp_in (nI u) 4 := vp_in_nI hu (by decide)
  rw [nI_clamp (n := u) (by omega), e]
  refine ⟨vu, br_t (nI_lt (b := 8) hc (by decide)) ⟨vu, ?_⟩⟩
  rw [ha_us (u := u) (n := l), ha_us (u := b) (n := m), nI_clamp (n := u * 8 + l) (by omega), nI_1]
  exact ⟨vp_in_nI (by omega) (by decide), nm_e ⟨vu, vu, nm_e h⟩⟩
theorem vx_com0 {P : Int32 → St2 → Prop} (c : ¬ (ca = 0 ∧ fa_R 4 p0 ∧ fa_R 4 p1 ∧ fa_R 8 p2 ∧ ac p0.toNatClampNeg < 8)) (h : P 0 (sc, oc, ne, ns, ca, on, st, ra, xu, xn, xe, xd, al, ap, ac, en, eu, ea, eb, sU, sL, sK, sE, sG, sO, gr, po, ec, cx, ou, tc, ss, av, cs)) : wpX_common P (sc, oc, ne, ns, ca, on, st, ra, xu, xn, xe, xd, al, ap, ac, en, eu, ea, eb, sU, sL, sK, sE, sG, sO, gr, po, ec, cx, ou, tc, ss, av, cs) p0 p1 p2 := by
  unfold wpX_common
  dsimp only
  refine hx_isFrozen (fun z => br_f (by decide) h) (fun c0 => br_t rfl ?_)
  refine hx_isUnit (fun cu => br_f (by decide) ?_) (fun z => br_t rfl h)
  refine hx_isBlock (fun cb => br_f (by decide) ?_) (fun z => br_t rfl h)
  refine hx_isName (fun cn => br_f (by decide) ?_) (fun z => br_t rfl h)
  have vu : vp_in p0 4 := by
    obtain ⟨u, hu, rfl⟩ := cu
    exact vp_in_nI hu (by decide)
  exact ⟨vu, br_c (fun z => absurd ⟨c0, cu, cb, cn, z⟩ c) (fun _ => h)⟩
theorem vx_eqv1 {P : Int32 → St2 → Prop} (hu : fa_R 4 p0) (f1 : fa_F p1) (f2 : fa_F p2) (hm : m < 16) (h : P 1 (sc, oc, nI (m + 1), ns, 0, on, st, ra, xu, xn, xe, xd, al, ap, ac, en, upd eu m p0, upd ea m p1, upd eb m p2, sU, sL, sK, sE, sG, sO, gr, po, ec, cx, ou, tc, ss, av, cs)) : wpX_equivalence P (sc, oc, nI m, ns, 0, on, st, ra, xu, xn, xe, xd, al, ap, ac, en, eu, ea, eb, sU, sL, sK, sE, sG, sO, gr, po, ec, cx, ou, tc, ss, av, cs) p0 p1 p2 := by
  unfold wpX_equivalence
  dsimp only
  refine hx_isFrozen (fun z => absurd rfl z) (fun _ => br_t rfl ?_)
  refine hx_isUnit (fun _ => br_f (by decide) ?_) (fun z => absurd hu z)
  refine hx_isFixed (fun _ => br_f (by decide) ?_) (fun z => absurd f1 z)
  refine hx_isFixed (fun _ => br_f (by decide) ?_) (fun z => absurd f2 z)
  have vm : vp_in (nI m) 16 := vp_in_nI hm (by decide)
  rw [nI_clamp (n := m) (by omega), nI_1]
  exact br_t (nI_lt (b := 16) hm (by decide)) ⟨vm, nm_e ⟨vm, nm_e ⟨vm, nm_e (nm_e h)⟩⟩⟩
theorem vx_eqv0 {P : Int32 → St2 → Prop} (c : ¬ (ca = 0 ∧ fa_R 4 p0 ∧ fa_F p1 ∧ fa_F p2 ∧ ne < 16)) (h : P 0 (sc, oc, ne, ns, ca, on, st, ra, xu, xn, xe, xd, al, ap, ac, en, eu, ea, eb, sU, sL, sK, sE, sG, sO, gr, po, ec, cx, ou, tc, ss, av, cs)) : wpX_equivalence P (sc, oc, ne, ns, ca, on, st, ra, xu, xn, xe, xd, al, ap, ac, en, eu, ea, eb, sU, sL, sK, sE, sG, sO, gr, po, ec, cx, ou, tc, ss, av, cs) p0 p1 p2 := by
  unfold wpX_equivalence
  dsimp only
  refine hx_isFrozen (fun z => br_f (by decide) h) (fun c0 => br_t rfl ?_)
  refine hx_isUnit (fun cu => br_f (by decide) ?_) (fun z => br_t rfl h)
  refine hx_isFixed (fun f1 => br_f (by decide) ?_) (fun z => br_t rfl h)
  refine hx_isFixed (fun f2 => br_f (by decide) ?_) (fun z => br_t rfl h)
  exact br_c (fun z => absurd ⟨c0, cu, f1, f2, z⟩ c) (fun _ => h)
end HSM
end
section
section HS2
/-! statement and operand -/
variable {sc oc ne ns ca on st ra xu xn xe xd nc yp yu ye yl yr : Int32} {al ap ac en eu ea eb sU sL sK sE sG sO gr po ec cx ou tc ss av cs cb cn kx ky kd pl rl cm hv ba ad ex cy bi : Nat → Int32}
variable {p0 p1 p2 p3 : Int32} {u m l b n : Nat} {f : Prop}
theorem vs_pend5 (S : fs_S n sU sL sK sE sG sO f) : fb_pend n sK sE sG ≤ 5 := by
  unfold fb_pend
  split
  · omega
  · obtain ⟨_, ⟨_, c2, _⟩, _⟩ := ha_V (S (n - 1) (by omega))
    have := fb_need5 c2
    omega
theorem vs_full (S : fs_S n sU sL sK sE sG sO f) (hp : fb_pend n sK sE sG = 0) : ∀ s, s < n → fs_V sU sL sK sE sG sO s True := by
  intro s hs
  have V := S s hs
  have key : fa_N sG s = fb_need (fa_N sK s) (fa_N sE s) := by
    obtain ⟨_, _, ⟨_, g2, _⟩, _, _, gf, _⟩ := ha_V V
    by_cases e : s + 1 < n
    · exact gf (Or.inl e)
    · have e2 : s = n - 1 := by omega
      unfold fb_pend at hp
      rw [if_neg (by omega), ← e2] at hp
      omega
  obtain ⟨u, l, k, e, g, a1, a2, a3, a4, a5, a6, a7, a8, a9, a10, a11, a12, a13⟩ := V
  have n5 := fb_need5 a9
  rw [fa_Re a10 (by omega), fa_Re a5 (by omega), fa_Re a8 (by unfold fb_xok at a9; omega)] at key
  exact ⟨u, l, k, e, g, a1, a2, a3, a4, a5, a6, a7, a8, a9, a10, a11, fun _ => key, a13⟩
theorem vs_new (S : fs_S n sU sL sK sE sG sO f) (hp : fb_pend n sK sE sG = 0) (nf : ¬ f) (hu : fa_R 4 p0) (hl : fa_R 100 p1) (hx : fa_X p2 p3) :
    fs_S (n + 1) (upd sU n p0) (upd sL n p1) (upd sK n p2) (upd sE n p3) (upd sG n 0) sO f := by
  intro s hs
  by_cases e : s = n
  · subst e
    obtain ⟨u, hu4, rfl⟩ := hu
    obtain ⟨l, hl1, rfl⟩ := hl
    obtain ⟨k, e, k1, k9, rfl, rfl, e16, xo⟩ := hx
    refine ⟨u, l, k, e, 0, pk_us, hu4, pk_us, hl1, pk_us, k1, k9, pk_us, xo, pk_us, Nat.zero_le _, fun z => ?_, fun p hp => absurd hp (Nat.not_lt_zero p)⟩
    rcases z with z | z
    · omega
    · exact absurd z nf
  · obtain ⟨u, l, k, e', g, a1, a2, a3, a4, a5, a6, a7, a8, a9, a10, a11, a12, a13⟩ := vs_full S hp s (by omega)
    exact ⟨u, l, k, e', g, by rw [pk_un e]; exact a1, a2, by rw [pk_un e]; exact a3, a4, by rw [pk_un e]; exact a5, a6, a7, by rw [pk_un e]; exact a8, a9, by rw [pk_un e]; exact a10, a11, fun _ => a12 trivial, a13⟩
theorem vs_more (S : fs_S n sU sL sK sE sG sO f) (nf : ¬ f) (hp : fb_pend n sK sE sG ≠ 0) (ha : fa_A (fb_pl (fa_N sK (n - 1)) (fa_N sG (n - 1))) p0) :
    fs_S n sU sL sK sE (upd sG (n - 1) (nI (fa_N sG (n - 1) + 1))) (upd sO ((n - 1) * 5 + fa_N sG (n - 1)) p0) f := by
  have n0 : n ≠ 0 := by
    intro z
    unfold fb_pend at hp
    rw [if_pos z] at hp
    exact hp rfl
  intro s hs
  have g5 := (ha_V (S (n - 1) (by omega))).2.2.1.2.2
  obtain ⟨u, l, k, e', g, a1, a2, a3, a4, a5, a6, a7, a8, a9, a10, a11, a12, a13⟩ := S s hs
  have n5 := fb_need5 a9
  by_cases e : s = n - 1
  · subst e
    have eg : fa_N sG (n - 1) = g := fa_Re a10 (by omega)
    have ek : fa_N sK (n - 1) = k := fa_Re a5 (by omega)
    have ee : fa_N sE (n - 1) = e' := fa_Re a8 (by unfold fb_xok at a9; omega)
    unfold fb_pend at hp
    rw [if_neg n0, eg, ek, ee] at hp
    rw [eg, ek] at ha
    rw [eg]
    refine ⟨u, l, k, e', g + 1, a1, a2, a3, a4, a5, a6, a7, a8, a9, pk_us, by omega, fun z => ?_, ?_⟩
    · rcases z with z | z
      · omega
      · exact absurd z nf
    · intro p hpg
      by_cases ep : p = g
      · subst ep
        obtain ⟨c, ec1, hc⟩ := ha
        exact ⟨c, by rw [pk_us]; exact ec1, hc⟩
      · obtain ⟨c, ec1, hc⟩ := a13 p (by omega)
        exact ⟨c, by rw [pk_un (by omega)]; exact ec1, hc⟩
  · refine ⟨u, l, k, e', g, a1, a2, a3, a4, a5, a6, a7, a8, a9, by rw [pk_un e]; exact a10, a11, a12, ?_⟩
    intro p hpg
    obtain ⟨c, ec1, hc⟩ := a13 p hpg
    exact ⟨c, by rw [pk_un (by omega)]; exact ec1, hc⟩
theorem vs_n0 (hp : fb_pend n sK sE sG ≠ 0) : n ≠ 0 := by
  intro z
  unfold fb_pend at hp
  rw [if_pos z] at hp
  exact hp rfl
theorem vs_g4 (S : fs_S n sU sL sK sE sG sO f) (hp : fb_pend n sK sE sG ≠ 0) : fa_N sG (n - 1) ≤ 4 := by
  have n0 := vs_n0 hp
  obtain ⟨_, ⟨_, c2, _⟩, _⟩ := ha_V (S (n - 1) (by omega))
  have := fb_need5 c2
  unfold fb_pend at hp
  rw [if_neg n0] at hp
  omega
theorem vs_pl {k p : Nat} : fb_pl k p < 3 := by
  unfold fb_pl
  repeat' split
  all_goals omega
end HS2
end
section
section HXC
/-! the class's checks, each against a plain fact -/
variable {sc oc ne ns ca on st ra xu xn xe xd nc yp yu ye yl yr : Int32} {al ap ac en eu ea eb sU sL sK sE sG sO gr po ec cx ou tc ss av cs cb cn kx ky kd pl rl cm hv ba ad ex cy bi : Nat → Int32}
variable {post : Int32 → Prop} {n : Nat}
theorem lb_go {W : Nat → Int32 → Prop} {B : Nat → Prop} {i0 N : Nat} (hx : ∀ m, (∀ i, i0 ≤ i → i < N → ¬ B i) → W (m + 1) (nI N)) (hs : ∀ m i, i0 ≤ i → i < N → (¬ B i → W m (nI (i + 1))) → W (m + 1) (nI i)) :
    ∀ d i, i + d = N → i0 ≤ i → (∀ j, i0 ≤ j → j < i → ¬ B j) → W (d + 1) (nI i) := by
  intro d
  induction d with
  | zero =>
    intro i hi h0 nb
    have e : i = N := by omega
    subst e
    exact hx 0 nb
  | succ d ih =>
    intro i hi h0 nb
    refine hs (d + 1) i h0 (by omega) (fun nbi => ih (i + 1) (by omega) (by omega) ?_)
    intro j hj hj2
    by_cases e : j = i
    · subst e; exact nbi
    · exact nb j hj (by omega)
theorem lb_from {W : Nat → Int32 → Prop} {B : Nat → Prop} (i0 N : Nat) (h : i0 ≤ N) (hx : ∀ m, (∀ i, i0 ≤ i → i < N → ¬ B i) → W (m + 1) (nI N)) (hs : ∀ m i, i0 ≤ i → i < N → (¬ B i → W m (nI (i + 1))) → W (m + 1) (nI i)) : ∃ f, W f (nI i0) :=
  ⟨N - i0 + 1, lb_go hx hs (N - i0) i0 (by omega) (Nat.le_refl i0) (fun j a b => by omega)⟩
theorem cn_E (D : fs_D al ap ac en cb cn eu ea eb n) {e : Nat} (he : e < n) : (eu e = nI (fa_N eu e) ∧ fa_N eu e < 4) ∧ (ea e = nI (fa_N ea e) ∧ fb_FX (fa_N ea e) ∧ fa_N ea e < 20000) ∧ (eb e = nI (fa_N eb e) ∧ fb_FX (fa_N eb e) ∧ fa_N eb e < 20000) := by
  obtain ⟨a, ⟨c, c1, c2⟩, d, d1, d2⟩ := D.2.2.2.2.2.2 e he
  have c3 := fb_FXlt c1
  have d3 := fb_FXlt d1
  rw [fa_Re c2 (by omega), fa_Re d2 (by omega)]
  exact ⟨fa_Rn a (by omega), ⟨c2, c1, c3⟩, d2, d1, d3⟩
theorem cn_A (D : fs_D al ap ac en cb cn eu ea eb n) {k : Nat} (hk : k < 32) : al k = nI (fa_N al k) ∧ 1 ≤ fa_N al k ∧ fa_N al k ≤ 16 := by
  obtain ⟨l, l1, l2, e⟩ := D.1 k hk
  rw [fa_Re e (by omega)]
  exact ⟨e, l1, l2⟩
theorem cn_P (D : fs_D al ap ac en cb cn eu ea eb n) {u : Nat} (hu : u < 4) : ap u = nI (fa_N ap u) ∧ fa_N ap u < 4 := fa_Rn (D.2.2.1 u hu) (by decide)
theorem cn_C (D : fs_D al ap ac en cb cn eu ea eb n) {u : Nat} (hu : u < 4) : ac u = nI (fa_N ac u) ∧ fa_N ac u < 9 := fa_Rn (D.2.2.2.1 u hu) (by decide)
theorem cn_I (D : fs_D al ap ac en cb cn eu ea eb n) {i : Nat} (hi : i < 32) : (cb i = nI (fa_N cb i) ∧ fa_N cb i < 4) ∧ (cn i = nI (fa_N cn i) ∧ fa_N cn i < 8) ∧ en i = nI (fa_N cb i * 8 + fa_N cn i) := by
  obtain ⟨a, b, c⟩ := D.2.2.2.2.1 i hi
  have a' := fa_Rn a (by decide)
  have b' := fa_Rn b (by decide)
  refine ⟨a', b', ?_⟩
  rw [c, a'.1, b'.1, ha_us]
theorem cn_St {P : Nat → Nat} {u m : Nat} (hm : m < 8) : gd_St P (u * 8 + m) ↔ ¬ m < P u := by
  unfold gd_St
  rw [show (u * 8 + m) % 8 = m by omega, show (u * 8 + m) / 8 = u by omega]
theorem cx_dummy (D : fs_D al ap ac en cb cn eu ea eb n) (h1 : gd_DB (fa_N al) (fa_N ap) (fa_N ac) (fa_N cn) n (fa_N eu) (fa_N ea) (fa_N eb) → post 1) (h0 : ¬ gd_DB (fa_N al) (fa_N ap) (fa_N ac) (fa_N cn) n (fa_N eu) (fa_N ea) (fa_N eb) → post 0) : wpX_declaresDummy post (sc, oc, nI n, ns, ca, on, st, ra, xu, xn, xe, xd, al, ap, ac, en, eu, ea, eb, sU, sL, sK, sE, sG, sO, gr, po, ec, cx, ou, tc, ss, av, cs) := by
  have n16 := D.2.2.2.2.2.1
  refine lb_from (W := fun m z => wX_declaresDummy_2 post sc oc (nI n) ns ca on st ra xu xn xe xd al ap ac en eu ea eb sU sL sK sE sG sO gr po ec cx ou tc ss av cs m z) (B := fun k => k % 8 < fa_N ap (k / 8) ∧ 1 < fa_N al k) 0 32 (by decide) ?_ ?_
  · intro m nb1
    refine br_t (by decide) ?_
    refine lb_from (W := fun m z => wX_declaresDummy_36 post sc oc (nI n) ns ca on st ra xu xn xe xd al ap ac en eu ea eb sU sL sK sE sG sO gr po ec cx ou tc ss av cs m z) (B := fun u => ∃ i, i < fa_N ac u ∧ fa_N cn (u * 8 + i) < fa_N ap u) 0 4 (by decide) ?_ ?_
    · intro m nb2
      refine br_t (by decide) ?_
      refine lb_from (W := fun m z => wX_declaresDummy_97 post sc oc (nI n) ns ca on st ra xu xn xe xd al ap ac en eu ea eb sU sL sK sE sG sO gr po ec cx ou tc ss av cs m z) (B := fun e => fb_nm (fa_N ea e) < fa_N ap (fa_N eu e) ∨ fb_nm (fa_N eb e) < fa_N ap (fa_N eu e)) 0 n (by omega) ?_ ?_
      · intro m nb3
        refine br_t (nI_le (Nat.le_refl n) (by omega)) (h0 ?_)
        rintro (⟨k, hk, a⟩ | ⟨u, i, hu, hi, a⟩ | ⟨e, he, a⟩)
        · exact nb1 k (by omega) hk a
        · exact nb2 u (by omega) hu ⟨i, hi, a⟩
        · exact nb3 e (by omega) he a
      · intro m e _ he go
        obtain ⟨⟨q1, q2⟩, ⟨q3, q4, q5⟩, q6, q7, q8⟩ := cn_E D he
        have ve : vp_in (nI e) 16 := vp_in_nI (by omega) (by decide)
        have m1 := fb_nm8 (Or.inl q4)
        have m2 := fb_nm8 (Or.inl q7)
        have p4 := D.2.2.1 _ q2
        refine br_f (nI_ge he (by omega)) ⟨ve, ve, ?_⟩
        rw [nI_clamp (n := e) (by omega), q1, q3, q6]
        refine hx_slotOf (by omega) ⟨ve, ve, ?_⟩
        refine hx_slotOf (by omega) ?_
        refine hx_isDummy (by omega) (by rw [show (fa_N eu e * 8 + fb_nm (fa_N ea e)) / 8 = fa_N eu e by omega]; exact p4) (fun s1 => br_t rfl ?_) (fun s1 => br_f (by decide) (h1 (Or.inr (Or.inr ⟨e, he, Or.inl ?_⟩))))
        · refine hx_isDummy (by omega) (by rw [show (fa_N eu e * 8 + fb_nm (fa_N eb e)) / 8 = fa_N eu e by omega]; exact p4) (fun s2 => br_t rfl (nm_r (nI_1 e) (go ?_))) (fun s2 => br_f (by decide) (h1 (Or.inr (Or.inr ⟨e, he, Or.inr ?_⟩))))
          · rw [cn_St m1] at s1
            rw [cn_St m2] at s2
            omega
          · rw [cn_St m2] at s2
            omega
        · rw [cn_St m1] at s1
          omega
    · intro m u _ hu go
      obtain ⟨c1, c2⟩ := cn_C D hu
      have vu : vp_in (nI u) 4 := vp_in_nI hu (by decide)
      refine br_f (nI_ge (b := 4) hu (by decide)) ?_
      refine lb_from (W := fun m' z => wX_declaresDummy_43 post (wX_declaresDummy_36 post sc oc (nI n) ns ca on st ra xu xn xe xd al ap ac en eu ea eb sU sL sK sE sG sO gr po ec cx ou tc ss av cs m) (nI u) sc oc (nI n) ns ca on st ra xu xn xe xd al ap ac en eu ea eb sU sL sK sE sG sO gr po ec cx ou tc ss av cs m' z) (B := fun i => fa_N cn (u * 8 + i) < fa_N ap u) 0 (fa_N ac u) (by omega) ?_ ?_
      · intro m' nb
        refine ⟨vu, ?_⟩
        rw [nI_clamp (n := u) (by omega), c1]
        exact br_t (nI_le (Nat.le_refl _) (by omega)) (nm_r (nI_1 u) (go (by rintro ⟨i, hi, a⟩; exact nb i (by omega) hi a)))
      · intro m' i _ hi go'
        obtain ⟨⟨i1, i2⟩, ⟨i3, i4⟩, i5⟩ := cn_I D (i := u * 8 + i) (by omega)
        refine ⟨vu, ?_⟩
        rw [nI_clamp (n := u) (by omega), c1]
        refine br_f (nI_ge hi (by omega)) ?_
        rw [ha_us, nI_clamp (n := u * 8 + i) (by omega), i5]
        refine ⟨vp_in_nI (by omega) (by decide), by decide, nm_r (e' := nI (fa_N cn (u * 8 + i))) (by rw [ha_r8 (by omega)]; congr 1; omega) ?_⟩
        rw [ha_us]
        refine hx_isDummy (by omega) (by rw [show (u * 8 + fa_N cn (u * 8 + i)) / 8 = u by omega]; exact D.2.2.1 u hu) (fun s1 => br_t rfl (nm_r (nI_1 i) (go' ?_))) (fun s1 => br_f (by decide) (h1 (Or.inr (Or.inl ⟨u, i, hu, hi, ?_⟩))))
        · rw [cn_St i4] at s1
          exact s1
        · rw [cn_St i4] at s1
          omega
  · intro m k _ hk go
    obtain ⟨l1, l2, l3⟩ := cn_A D hk
    refine br_f (nI_ge (b := 32) hk (by decide)) ?_
    refine hx_isDummy hk (D.2.2.1 _ (by omega)) (fun s => br_t rfl (nm_r (nI_1 k) (go fun z => s z.1))) (fun s => br_f (by decide) ⟨vp_in_nI hk (by decide), ?_⟩)
    rw [nI_clamp (n := k) (by omega), l1]
    unfold gd_St at s
    exact pk_le (fa_N al k) 1 (fun z => nm_r (nI_1 k) (go fun q => by omega)) (fun z => h1 (Or.inl ⟨k, hk, by omega, z⟩))
def gd_XS (n : Nat) (al sU sG sO : Nat → Int32) : Prop := ∃ s p c, s < n ∧ p < fa_N sG s ∧ sO (s * 5 + p) = nI c ∧ fb_FX c ∧ fa_N al (fa_N sU s * 8 + fb_nm c) < fb_ix c
theorem cx_far {u c : Nat} (D : fs_D al ap ac en cb cn eu ea eb n) (hu : u < 4) (hc : fb_FX c) (h1 : fa_N al (u * 8 + fb_nm c) < fb_ix c → post 1) (h0 : ¬ fa_N al (u * 8 + fb_nm c) < fb_ix c → post 0) : wpX_isTooFar post (sc, oc, ne, ns, ca, on, st, ra, xu, xn, xe, xd, al, ap, ac, en, eu, ea, eb, sU, sL, sK, sE, sG, sO, gr, po, ec, cx, ou, tc, ss, av, cs) (nI u) (nI c) := by
  have m8 := fb_nm8 (Or.inl hc)
  have c2 := fb_FXlt hc
  obtain ⟨l1, l2, l3⟩ := cn_A D (k := u * 8 + fb_nm c) (by omega)
  have i16 := fb_ix16 hc
  unfold wpX_isTooFar
  dsimp only
  refine hx_elementOf (by omega) ?_
  refine hx_slotOf (by omega) ⟨vp_in_nI (by omega) (by decide), ?_⟩
  rw [nI_clamp (n := u * 8 + fb_nm c) (by omega), l1]
  exact pk_le (fb_ix c) (fa_N al (u * 8 + fb_nm c)) (fun z => h0 (by omega)) (fun z => h1 z)
theorem cx_index {ns' : Nat} {f : Prop} (D : fs_D al ap ac en cb cn eu ea eb n) (hn : ns' ≤ 64) (S : fs_S ns' sU sL sK sE sG sO f) (h1 : (gd_XE (fa_N al) n (fa_N eu) (fa_N ea) (fa_N eb) ∨ gd_XS ns' al sU sG sO) → post 1) (h0 : ¬ (gd_XE (fa_N al) n (fa_N eu) (fa_N ea) (fa_N eb) ∨ gd_XS ns' al sU sG sO) → post 0) : wpX_exceedsLength post (sc, oc, nI n, nI ns', ca, on, st, ra, xu, xn, xe, xd, al, ap, ac, en, eu, ea, eb, sU, sL, sK, sE, sG, sO, gr, po, ec, cx, ou, tc, ss, av, cs) := by
  have n16 := D.2.2.2.2.2.1
  refine lb_from (W := fun m z => wX_exceedsLength_2 post sc oc (nI n) (nI ns') ca on st ra xu xn xe xd al ap ac en eu ea eb sU sL sK sE sG sO gr po ec cx ou tc ss av cs m z) (B := fun e => fa_N al (fa_N eu e * 8 + fb_nm (fa_N ea e)) < fb_ix (fa_N ea e) ∨ fa_N al (fa_N eu e * 8 + fb_nm (fa_N eb e)) < fb_ix (fa_N eb e)) 0 n (by omega) ?_ ?_
  · intro m nb1
    refine br_t (nI_le (Nat.le_refl n) (by omega)) ?_
    refine lb_from (W := fun m z => wX_exceedsLength_55 post sc oc (nI n) (nI ns') ca on st ra xu xn xe xd al ap ac en eu ea eb sU sL sK sE sG sO gr po ec cx ou tc ss av cs m z) (B := fun s => ∃ p c, p < fa_N sG s ∧ sO (s * 5 + p) = nI c ∧ fb_FX c ∧ fa_N al (fa_N sU s * 8 + fb_nm c) < fb_ix c) 0 ns' (by omega) ?_ ?_
    · intro m nb2
      refine br_t (nI_le (Nat.le_refl _) (by omega)) (h0 ?_)
      rintro (⟨e, he, a⟩ | ⟨s, p, c, hs, a⟩)
      · exact nb1 e (by omega) he a
      · exact nb2 s (by omega) hs ⟨p, c, a⟩
    · intro m s _ hs go
      obtain ⟨_, _, ⟨g1, g2, g5⟩, ⟨u1, u2⟩, _, _, ops⟩ := ha_V (S s hs)
      have vs : vp_in (nI s) 64 := vp_in_nI (by omega) (by decide)
      refine br_f (nI_ge hs (by omega)) ?_
      refine lb_from (W := fun m' z => wX_exceedsLength_65 post (wX_exceedsLength_55 post sc oc (nI n) (nI ns') ca on st ra xu xn xe xd al ap ac en eu ea eb sU sL sK sE sG sO gr po ec cx ou tc ss av cs m) (nI s) sc oc (nI n) (nI ns') ca on st ra xu xn xe xd al ap ac en eu ea eb sU sL sK sE sG sO gr po ec cx ou tc ss av cs m' z) (B := fun p => ∃ c, sO (s * 5 + p) = nI c ∧ fb_FX c ∧ fa_N al (fa_N sU s * 8 + fb_nm c) < fb_ix c) 0 (fa_N sG s) (by omega) ?_ ?_
      · intro m' nb
        refine ⟨vs, ?_⟩
        rw [nI_clamp (n := s) (by omega), g1]
        exact br_t (nI_le (Nat.le_refl _) (by omega)) (nm_r (nI_1 s) (go (by rintro ⟨p, c, hp, a⟩; exact nb p (by omega) hp ⟨c, a⟩)))
      · intro m' p _ hp go'
        obtain ⟨c, ec1, hal⟩ := ops p hp
        have c3 : c < 30000 := by
          unfold fb_al fb_FX fb_IX at hal
          omega
        refine ⟨vs, ?_⟩
        rw [nI_clamp (n := s) (by omega), g1]
        refine br_f (nI_ge hp (by omega)) ?_
        rw [ha_5, nI_clamp (n := s * 5 + p) (by omega), ec1]
        refine ⟨vp_in_nI (by omega) (by decide), nm_e ?_⟩
        refine hx_isFixed (fun z => br_f (by decide) ⟨vs, ?_⟩) (fun z => br_t rfl (nm_r (nI_1 p) (go' ?_)))
        · obtain ⟨c', hc', e⟩ := z
          have c2 := fb_FXlt hc'
          have := fa_inj (by omega) (by omega) e
          subst this
          rw [u1]
          exact cx_far D u2 hc' (fun q => br_f (by decide) (h1 (Or.inr ⟨s, p, c, hs, hp, ec1, hc', q⟩))) (fun q => br_t rfl (nm_r (nI_1 p) (go' (by
            rintro ⟨c'', e1, e2, e3⟩
            have := fa_inj (by omega) (by have := fb_FXlt e2; omega) (ec1.symm.trans e1)
            subst this
            exact q e3))))
        · rintro ⟨c'', e1, e2, e3⟩
          exact z ⟨c'', e2, ec1.symm.trans e1⟩
  · intro m e _ he go
    obtain ⟨⟨q1, q2⟩, ⟨q3, q4, q5⟩, q6, q7, q8⟩ := cn_E D he
    have ve : vp_in (nI e) 16 := vp_in_nI (by omega) (by decide)
    refine br_f (nI_ge he (by omega)) ⟨ve, ?_⟩
    rw [nI_clamp (n := e) (by omega), q1, q3, q6]
    refine nm_e ⟨ve, ?_⟩
    refine cx_far D q2 q4 (fun z => br_f (by decide) (h1 (Or.inl ⟨e, he, Or.inl z⟩))) (fun z => br_t rfl ⟨ve, ?_⟩)
    exact cx_far D q2 q7 (fun z' => br_f (by decide) (h1 (Or.inl ⟨e, he, Or.inr z'⟩))) (fun z' => br_t rfl (nm_r (nI_1 e) (go (by omega))))
end HXC
end
section
section HXD
variable {sc oc ne ns ca on st ra xu xn xe xd nc yp yu ye yl yr : Int32} {al ap ac en eu ea eb sU sL sK sE sG sO gr po ec cx ou tc ss av cs cb cn kx ky kd pl rl cm hv ba ad ex cy bi : Nat → Int32}
variable {post : Int32 → Prop} {n : Nat} {f : Prop}
def gd_JB (gr : Nat → Int32) : Prop := ∃ b c, c < b ∧ b < 4 ∧ gr (32 + b) = gr (32 + c)
theorem cx_joins (h1 : gd_JB gr → post 1) (h0 : ¬ gd_JB gr → post 0) : wpX_joinsBlocks post (sc, oc, ne, ns, ca, on, st, ra, xu, xn, xe, xd, al, ap, ac, en, eu, ea, eb, sU, sL, sK, sE, sG, sO, gr, po, ec, cx, ou, tc, ss, av, cs) := by
  refine lb_from (W := fun m z => wX_joinsBlocks_2 post sc oc ne ns ca on st ra xu xn xe xd al ap ac en eu ea eb sU sL sK sE sG sO gr po ec cx ou tc ss av cs m z) (B := fun b => ∃ c, c < b ∧ gr (32 + b) = gr (32 + c)) 1 4 (by decide) ?_ ?_
  · intro m nb
    refine br_t (by decide) (h0 ?_)
    rintro ⟨b, c, hc, hb, e⟩
    exact nb b (by omega) hb ⟨c, hc, e⟩
  · intro m b b1 hb go
    refine br_f (nI_ge (b := 4) hb (by decide)) ?_
    refine lb_from (W := fun m' z => wX_joinsBlocks_9 post (wX_joinsBlocks_2 post sc oc ne ns ca on st ra xu xn xe xd al ap ac en eu ea eb sU sL sK sE sG sO gr po ec cx ou tc ss av cs m) (nI b) sc oc ne ns ca on st ra xu xn xe xd al ap ac en eu ea eb sU sL sK sE sG sO gr po ec cx ou tc ss av cs m' z) (B := fun c => gr (32 + b) = gr (32 + c)) 0 b (by omega) ?_ ?_
    · intro m' nb
      exact br_t (nI_le (Nat.le_refl b) (by omega)) (nm_r (nI_1 b) (go (by rintro ⟨c, hc, e⟩; exact nb c (by omega) hc e)))
    · intro m' c _ hc go'
      refine br_f (nI_ge hc (by omega)) ?_
      rw [ha_32, ha_32, nI_clamp (n := 32 + b) (by omega), nI_clamp (n := 32 + c) (by omega)]
      exact ⟨vp_in_nI (by omega) (by decide), vp_in_nI (by omega) (by decide), br_c (fun z => h1 ⟨b, c, hc, hb, z⟩) (fun z => nm_r (nI_1 c) (go' z))⟩
def gd_BB (gr po : Nat → Int32) : Prop := ∃ b k, b < 4 ∧ k < 32 ∧ gr k = gr (32 + b) ∧ po k < po (32 + b)
theorem cx_back (h1 : gd_BB gr po → post 1) (h0 : ¬ gd_BB gr po → post 0) : wpX_reachesBackward post (sc, oc, ne, ns, ca, on, st, ra, xu, xn, xe, xd, al, ap, ac, en, eu, ea, eb, sU, sL, sK, sE, sG, sO, gr, po, ec, cx, ou, tc, ss, av, cs) := by
  refine lb_from (W := fun m z => wX_reachesBackward_2 post sc oc ne ns ca on st ra xu xn xe xd al ap ac en eu ea eb sU sL sK sE sG sO gr po ec cx ou tc ss av cs m z) (B := fun b => ∃ k, k < 32 ∧ gr k = gr (32 + b) ∧ po k < po (32 + b)) 0 4 (by decide) ?_ ?_
  · intro m nb
    refine br_t (by decide) (h0 ?_)
    rintro ⟨b, k, hb, e⟩
    exact nb b (by omega) hb ⟨k, e⟩
  · intro m b _ hb go
    refine br_f (nI_ge (b := 4) hb (by decide)) ?_
    refine lb_from (W := fun m' z => wX_reachesBackward_9 post (wX_reachesBackward_2 post sc oc ne ns ca on st ra xu xn xe xd al ap ac en eu ea eb sU sL sK sE sG sO gr po ec cx ou tc ss av cs m) (nI b) sc oc ne ns ca on st ra xu xn xe xd al ap ac en eu ea eb sU sL sK sE sG sO gr po ec cx ou tc ss av cs m' z) (B := fun k => gr k = gr (32 + b) ∧ po k < po (32 + b)) 0 32 (by decide) ?_ ?_
    · intro m' nb
      exact br_t (by decide) (nm_r (nI_1 b) (go (by rintro ⟨k, hk, e⟩; exact nb k (by omega) hk e)))
    · intro m' k _ hk go'
      have vk : vp_in (nI k) 36 := vp_in_nI (by omega) (by decide)
      have vb : vp_in (nI (32 + b)) 36 := vp_in_nI (by omega) (by decide)
      refine br_f (nI_ge (b := 32) hk (by decide)) ?_
      rw [ha_32, nI_clamp (n := k) (by omega), nI_clamp (n := 32 + b) (by omega)]
      refine ⟨vk, vb, br_c (fun z => ?_) (fun z => br_t rfl (nm_r (nI_1 k) (go' fun q => z q.1)))⟩
      unfold wX_reachesBackward_38
      rw [ha_32, nI_clamp (n := k) (by omega), nI_clamp (n := 32 + b) (by omega)]
      exact br_f (by decide) ⟨vk, vb, br_c (fun w => nm_r (nI_1 k) (go' fun q => absurd q.2 (Int32.not_lt.mpr w))) (fun w => h1 ⟨b, k, hb, hk, z, Int32.not_le.mp w⟩)⟩
def gd_LD (n : Nat) (sU sL : Nat → Int32) : Prop := ∃ i j, j < i ∧ i < n ∧ sL i = sL j ∧ ¬ sL i = 0 ∧ sU i = sU j
theorem cx_rep (hn : n ≤ 64) (h1 : gd_LD n sU sL → post 1) (h0 : ¬ gd_LD n sU sL → post 0) : wpX_hasRepeatedLabel post (sc, oc, ne, nI n, ca, on, st, ra, xu, xn, xe, xd, al, ap, ac, en, eu, ea, eb, sU, sL, sK, sE, sG, sO, gr, po, ec, cx, ou, tc, ss, av, cs) := by
  by_cases n0 : n = 0
  · subst n0
    refine ⟨0 + 1, br_t (by decide) (h0 ?_)⟩
    rintro ⟨i, j, a, b, _⟩
    omega
  · refine lb_from (W := fun m z => wX_hasRepeatedLabel_2 post sc oc ne (nI n) ca on st ra xu xn xe xd al ap ac en eu ea eb sU sL sK sE sG sO gr po ec cx ou tc ss av cs m z) (B := fun i => ∃ j, j < i ∧ sL i = sL j ∧ ¬ sL i = 0 ∧ sU i = sU j) 1 n (by omega) ?_ ?_
    · intro m nb
      refine br_t (nI_le (Nat.le_refl n) (by omega)) (h0 ?_)
      rintro ⟨i, j, hj, hi, e⟩
      exact nb i (by omega) hi ⟨j, hj, e⟩
    · intro m i _ hi go
      have vi : vp_in (nI i) 64 := vp_in_nI (by omega) (by decide)
      refine br_f (nI_ge hi (by omega)) ?_
      refine lb_from (W := fun m' z => wX_hasRepeatedLabel_12 post (wX_hasRepeatedLabel_2 post sc oc ne (nI n) ca on st ra xu xn xe xd al ap ac en eu ea eb sU sL sK sE sG sO gr po ec cx ou tc ss av cs m) (nI i) sc oc ne (nI n) ca on st ra xu xn xe xd al ap ac en eu ea eb sU sL sK sE sG sO gr po ec cx ou tc ss av cs m' z) (B := fun j => sL i = sL j ∧ ¬ sL i = 0 ∧ sU i = sU j) 0 i (by omega) ?_ ?_
      · intro m' nb
        exact br_t (nI_le (Nat.le_refl i) (by omega)) (nm_r (nI_1 i) (go (by rintro ⟨j, hj, e⟩; exact nb j (by omega) hj e)))
      · intro m' j _ hj go'
        have vj : vp_in (nI j) 64 := vp_in_nI (by omega) (by decide)
        refine br_f (nI_ge hj (by omega)) ⟨vi, vj, ?_⟩
        rw [nI_clamp (n := i) (by omega), nI_clamp (n := j) (by omega)]
        refine br_c (fun z => ⟨vi, br_c (fun z' => br_t rfl (nm_r (nI_1 j) (go' fun q => q.2.1 z'))) (fun z' => br_f (by decide) ⟨vi, vj, ?_⟩)⟩) (fun z => br_t rfl (nm_r (nI_1 j) (go' fun q => z q.1)))
        rw [nI_clamp (n := i) (by omega), nI_clamp (n := j) (by omega)]
        exact br_c (fun w => h1 ⟨i, j, hj, hi, z, z', w⟩) (fun w => nm_r (nI_1 j) (go' fun q => w q.2.2))
def gd_Bad (sK : Nat → Int32) (s t : Nat) : Prop := t ≤ s ∨ ¬ (sK t = 1 ∨ sK t = 5 ∨ sK t = 6 ∨ sK t = 7)
def gd_LT (n : Nat) (sU sL sK sG sO : Nat → Int32) : Prop := ∃ s p, s < n ∧ p < fa_N sG s ∧ fb_pl (fa_N sK s) p = 2 ∧ fb_FL sU sL n (sU s) (sO (s * 5 + p)) = -1
def gd_LE (n : Nat) (sU sL sK sG sO : Nat → Int32) : Prop := ∃ s t, s < n ∧ sK s = 4 ∧ 0 < fa_N sG s ∧ fb_FL sU sL n (sU s) (sO (s * 5)) = nI t ∧ t < n ∧ gd_Bad sK s t
theorem cx_can {s t : Nat} (hs : s < 64) (ht : t < 64) (h1 : ¬ gd_Bad sK s t → post 1) (h0 : gd_Bad sK s t → post 0) : wpX_canEndLoop post (sc, oc, ne, ns, ca, on, st, ra, xu, xn, xe, xd, al, ap, ac, en, eu, ea, eb, sU, sL, sK, sE, sG, sO, gr, po, ec, cx, ou, tc, ss, av, cs) (nI t) (nI s) := by
  have fin : (sK t = 1 ∨ sK t = 5 ∨ sK t = 6 ∨ sK t = 7) → wX_canEndLoop_29 post (nI t) (nI s) sc oc ne ns ca on st ra xu xn xe xd al ap ac en eu ea eb sU sL sK sE sG sO gr po ec cx ou tc ss av cs := fun k =>
    br_f (by decide) (pk_le t s (fun z => h0 (Or.inl z)) (fun z => h1 (fun q => by rcases q with q | q; omega; exact q k)))
  refine ⟨vp_in_nI ht (by decide), ?_⟩
  rw [nI_clamp (by omega)]
  refine nm_e (br_c (fun a => fin (Or.inl a)) (fun a => br_c (fun b => fin (Or.inr (Or.inl b))) (fun b => br_c (fun c => fin (Or.inr (Or.inr (Or.inl c)))) (fun c => br_c (fun d => fin (Or.inr (Or.inr (Or.inr d)))) (fun d => br_t rfl (h0 (Or.inr ?_)))))))
  rintro (z | z | z | z)
  · exact a z
  · exact b z
  · exact c z
  · exact d z
theorem cx_tgt (hn : n ≤ 64) (S : fs_S n sU sL sK sE sG sO f) (h1 : (gd_LT n sU sL sK sG sO ∨ gd_LE n sU sL sK sG sO) → post 1) (h0 : ¬ (gd_LT n sU sL sK sG sO ∨ gd_LE n sU sL sK sG sO) → post 0) : wpX_hasWrongTarget post (sc, oc, ne, nI n, ca, on, st, ra, xu, xn, xe, xd, al, ap, ac, en, eu, ea, eb, sU, sL, sK, sE, sG, sO, gr, po, ec, cx, ou, tc, ss, av, cs) := by
  refine lb_from (W := fun m z => wX_hasWrongTarget_2 post sc oc ne (nI n) ca on st ra xu xn xe xd al ap ac en eu ea eb sU sL sK sE sG sO gr po ec cx ou tc ss av cs m z) (B := fun s => ∃ p, p < fa_N sG s ∧ fb_pl (fa_N sK s) p = 2 ∧ (fb_FL sU sL n (sU s) (sO (s * 5 + p)) = -1 ∨ (sK s = 4 ∧ ∃ t, fb_FL sU sL n (sU s) (sO (s * 5 + p)) = nI t ∧ t < n ∧ gd_Bad sK s t))) 0 n (by omega) ?_ ?_
  · intro m nb
    refine br_t (nI_le (Nat.le_refl n) (by omega)) (h0 ?_)
    rintro (⟨s, p, hs, hp, a, b⟩ | ⟨s, t, hs, k4, g0, a, b⟩)
    · exact nb s (by omega) hs ⟨p, hp, a, Or.inl b⟩
    · exact nb s (by omega) hs ⟨0, g0, by rw [fa_Re k4 (by decide)]; rfl, Or.inr ⟨k4, t, a, b⟩⟩
  · intro m s _ hs go
    obtain ⟨⟨k1, k2, k3⟩, _, ⟨g1, g2, g5⟩, _, _, _, ops⟩ := ha_V (S s hs)
    have vs : vp_in (nI s) 64 := vp_in_nI (by omega) (by decide)
    refine br_f (nI_ge hs (by omega)) ?_
    refine lb_from (W := fun m' z => wX_hasWrongTarget_12 post (wX_hasWrongTarget_2 post sc oc ne (nI n) ca on st ra xu xn xe xd al ap ac en eu ea eb sU sL sK sE sG sO gr po ec cx ou tc ss av cs m) (nI s) sc oc ne (nI n) ca on st ra xu xn xe xd al ap ac en eu ea eb sU sL sK sE sG sO gr po ec cx ou tc ss av cs m' z) (B := fun p => fb_pl (fa_N sK s) p = 2 ∧ (fb_FL sU sL n (sU s) (sO (s * 5 + p)) = -1 ∨ (sK s = 4 ∧ ∃ t, fb_FL sU sL n (sU s) (sO (s * 5 + p)) = nI t ∧ t < n ∧ gd_Bad sK s t))) 0 (fa_N sG s) (by omega) ?_ ?_
    · intro m' nb
      refine ⟨vs, ?_⟩
      rw [nI_clamp (n := s) (by omega), g1]
      exact br_t (nI_le (Nat.le_refl _) (by omega)) (nm_r (nI_1 s) (go (by rintro ⟨p, hp, e⟩; exact nb p (by omega) hp e)))
    · intro m' p _ hp go'
      refine ⟨vs, ?_⟩
      rw [nI_clamp (n := s) (by omega), g1]
      refine br_f (nI_ge hp (by omega)) ⟨vs, ?_⟩
      rw [k1]
      refine hx_placeKind k2 k3 (by omega) ?_
      refine pk_eq (fb_pl (fa_N sK s) p) 2 (fun z => ⟨vs, ?_⟩) (fun z => nm_r (nI_1 p) (go' fun q => z q.1)) rfl rfl (by have := vs_pl (k := fa_N sK s) (p := p); omega)
      rw [ha_5, nI_clamp (n := s * 5 + p) (by omega)]
      refine ⟨vp_in_nI (by omega) (by decide), ?_⟩
      refine hx_findLabel hn ?_
      rcases hs_FLr (sU := sU) (sL := sL) (n := n) (u := sU s) (l := sO (s * 5 + p)) with e | ⟨t, ht, e, _⟩
      · exact br_t e (h1 (Or.inl ⟨s, p, hs, hp, z, e⟩))
      · rw [e]
        refine br_f (fa_m1 (by omega)) ⟨vs, ?_⟩
        rw [← k1]
        refine br_c (fun w => ?_) (fun w => nm_r (nI_1 p) (go' ?_))
        · refine cx_can (by omega) (by omega) (fun q => br_f (by decide) (nm_r (nI_1 p) (go' ?_))) (fun q => br_t rfl (h1 (Or.inr ⟨s, t, hs, w, by omega, ?_, ht, q⟩)))
          · rintro ⟨_, y | ⟨_, t', e', ht', b'⟩⟩
            · rw [e] at y
              exact fa_m1 (by omega) y
            · have := fa_inj (by omega) (by omega) (e.symm.trans e')
              subst this
              exact q b'
          · have p0 : p = 0 := by
              rw [fa_Re w (by decide)] at z
              have z' : (if p = 0 then 2 else if p = 1 then 1 else 0) = 2 := z
              by_cases y : p = 0
              · exact y
              · rw [if_neg y] at z'
                split at z' <;> omega
            subst p0
            exact e
        · rintro ⟨_, y | ⟨y, _⟩⟩
          · rw [e] at y
            exact fa_m1 (by omega) y
          · exact w y
def gd_WC (n : Nat) (ap sK sE : Nat → Int32) : Prop := ∃ s, s < n ∧ sK s = 5 ∧ ¬ fa_N sE s / 4 = fa_N ap (fa_N sE s % 4)
theorem cx_wc (hn : n ≤ 64) (S : fs_S n sU sL sK sE sG sO f) (hP : ∀ u, u < 4 → fa_R 4 (ap u)) (h1 : gd_WC n ap sK sE → post 1) (h0 : ¬ gd_WC n ap sK sE → post 0) : wpX_hasWrongCall post (sc, oc, ne, nI n, ca, on, st, ra, xu, xn, xe, xd, al, ap, ac, en, eu, ea, eb, sU, sL, sK, sE, sG, sO, gr, po, ec, cx, ou, tc, ss, av, cs) := by
  refine lb_from (W := fun m z => wX_hasWrongCall_2 post sc oc ne (nI n) ca on st ra xu xn xe xd al ap ac en eu ea eb sU sL sK sE sG sO gr po ec cx ou tc ss av cs m z) (B := fun s => sK s = 5 ∧ ¬ fa_N sE s / 4 = fa_N ap (fa_N sE s % 4)) 0 n (by omega) ?_ ?_
  · intro m nb
    refine br_t (nI_le (Nat.le_refl n) (by omega)) (h0 ?_)
    rintro ⟨s, hs, a⟩
    exact nb s (by omega) hs a
  · intro m s _ hs go
    obtain ⟨_, ⟨e1, e2, e3⟩, _⟩ := ha_V (S s hs)
    obtain ⟨q1, q2⟩ := fa_Rn (hP (fa_N sE s % 4) (by omega)) (by decide)
    have vs : vp_in (nI s) 64 := vp_in_nI (by omega) (by decide)
    refine br_f (nI_ge hs (by omega)) ⟨vs, ?_⟩
    rw [nI_clamp (n := s) (by omega)]
    refine br_c (fun z => ?_) (fun z => br_t rfl (nm_r (nI_1 s) (go fun q => z q.1)))
    unfold wX_hasWrongCall_25
    rw [nI_clamp (n := s) (by omega), e1, ha_r4 (by omega), ha_d4 (by omega), nI_clamp (n := fa_N sE s % 4) (by omega), q1]
    exact br_f (by decide) ⟨vs, by decide, vs, by decide, vp_in_nI (by omega) (by decide), pk_eq (fa_N sE s / 4) (fa_N ap (fa_N sE s % 4)) (fun w => nm_r (nI_1 s) (go fun q => q.2 w)) (fun w => h1 ⟨s, hs, z, w⟩)⟩
end HXD
end
section
section HXL
/-! the class's layout -/
variable {sc oc ne ns ca on st ra xu xn xe xd nc yp yu ye yl yr : Int32} {al ap ac en eu ea eb sU sL sK sE sG sO gr po ec cx ou tc ss av cs cb cn kx ky kd pl rl cm hv ba ad ex cy bi : Nat → Int32}
variable {n : Nat} {C S : ga_T}
theorem cl_g0 (g : Nat → Int32) (o w : Int32) : ga_g g o w 0 = g := by
  funext j
  exact if_neg (fun z => Nat.not_lt_zero j z.1)
theorem cl_q0 (g q : Nat → Int32) (o w : Int32) : ga_q g q o w 0 = q := by
  funext j
  exact if_neg (fun z => Nat.not_lt_zero j z.1)
theorem cl_gi (g : Nat → Int32) (o w : Int32) (i : Nat) : ga_g g o w i i = g i := if_neg (fun z => Nat.lt_irrefl i z.1)
theorem cl_qi (g q : Nat → Int32) (o w : Int32) (i : Nat) : ga_q g q o w i i = q i := if_neg (fun z => Nat.lt_irrefl i z.1)
theorem cl_gu {g : Nat → Int32} {o w : Int32} {i : Nat} (h : g i = o) : upd (ga_g g o w i) i w = ga_g g o w (i + 1) := by
  funext j
  by_cases e : j = i
  · subst e
    rw [pk_us]
    exact (if_pos ⟨Nat.lt_succ_self j, h⟩).symm
  · rw [pk_un e]
    unfold ga_g
    by_cases z : j < i ∧ g j = o
    · rw [if_pos z, if_pos ⟨by omega, z.2⟩]
    · rw [if_neg z, if_neg (fun y => z ⟨by omega, y.2⟩)]
theorem cl_gk {g : Nat → Int32} {o w : Int32} {i : Nat} (h : ¬ g i = o) : ga_g g o w i = ga_g g o w (i + 1) := by
  funext j
  unfold ga_g
  by_cases z : j < i ∧ g j = o
  · rw [if_pos z, if_pos ⟨by omega, z.2⟩]
  · rw [if_neg z, if_neg]
    rintro ⟨y1, y2⟩
    by_cases e : j = i
    · subst e; exact h y2
    · exact z ⟨by omega, y2⟩
theorem cl_qu {g q : Nat → Int32} {o w : Int32} {i : Nat} (h : g i = o) : upd (ga_q g q o w i) i (ga_q g q o w i i + w) = ga_q g q o w (i + 1) := by
  rw [cl_qi]
  funext j
  by_cases e : j = i
  · subst e
    rw [pk_us]
    exact (if_pos ⟨Nat.lt_succ_self j, h⟩).symm
  · rw [pk_un e]
    unfold ga_q
    by_cases z : j < i ∧ g j = o
    · rw [if_pos z, if_pos ⟨by omega, z.2⟩]
    · rw [if_neg z, if_neg (fun y => z ⟨by omega, y.2⟩)]
theorem cl_qk {g q : Nat → Int32} {o w : Int32} {i : Nat} (h : ¬ g i = o) : ga_q g q o w i = ga_q g q o w (i + 1) := by
  funext j
  unfold ga_q
  by_cases z : j < i ∧ g j = o
  · rw [if_pos z, if_pos ⟨by omega, z.2⟩]
  · rw [if_neg z, if_neg]
    rintro ⟨y1, y2⟩
    by_cases e : j = i
    · subst e; exact h y2
    · exact z ⟨by omega, y2⟩
theorem cl_54 {P : Int32 → St2 → Prop} {o w sh : Int32} (h : P 1 (sc, oc, ne, ns, ca, on, st, ra, xu, xn, xe, xd, al, ap, ac, en, eu, ea, eb, sU, sL, sK, sE, sG, sO, ga_g gr o w 36, ga_q gr po o sh 36, ec, cx, ou, tc, ss, av, cs)) : ∀ d i, i + d = 36 → wX_constrain_54 P sh o w sc oc ne ns ca on st ra xu xn xe xd (d + 1) (nI i) al ap ac en eu ea eb sU sL sK sE sG sO (ga_g gr o w i) (ga_q gr po o sh i) ec cx ou tc ss av cs := by
  intro d
  induction d with
  | zero =>
    intro i hi
    have e : i = 36 := by omega
    subst e
    exact br_t (by decide) h
  | succ d ih =>
    intro i hi
    have vi : vp_in (nI i) 36 := vp_in_nI (by omega) (by decide)
    refine br_f (nI_ge (b := 36) (by omega) (by decide)) ⟨vi, ?_⟩
    rw [nI_clamp (n := i) (by omega), cl_gi]
    have key := ih (i + 1) (by omega)
    refine br_c (fun z => ⟨vi, nm_r (cl_gu z) ⟨vi, vi, nm_r (cl_qu z) (nm_r (nI_1 i) key)⟩⟩) (fun z => nm_r (nI_1 i) ?_)
    rw [cl_gk z, cl_qk z]
    exact key
theorem cl_con {P : Int32 → St2 → Prop} {a b : Nat} {d : Int32} (H : ga_IX C S gr po) (hC : C a b d) (ha : a < 36) (hb : b < 36)
    (h1 : ∀ gr' po', ga_IX C (fun x y e => S x y e ∨ (x = a ∧ y = b ∧ e = d)) gr' po' → P 1 (sc, oc, ne, ns, ca, on, st, ra, xu, xn, xe, xd, al, ap, ac, en, eu, ea, eb, sU, sL, sK, sE, sG, sO, gr', po', ec, cx, ou, tc, ss, av, cs)) (h0 : (¬ ∃ p, ga_Sol C p) → P 0 (sc, oc, ne, ns, ca, on, st, ra, xu, xn, xe, xd, al, ap, ac, en, eu, ea, eb, sU, sL, sK, sE, sG, sO, gr, po, ec, cx, ou, tc, ss, av, cs)) : wpX_constrain P (sc, oc, ne, ns, ca, on, st, ra, xu, xn, xe, xd, al, ap, ac, en, eu, ea, eb, sU, sL, sK, sE, sG, sO, gr, po, ec, cx, ou, tc, ss, av, cs) (nI a) (nI b) d := by
  have va : vp_in (nI a) 36 := vp_in_nI ha (by decide)
  have vb : vp_in (nI b) 36 := vp_in_nI hb (by decide)
  unfold wpX_constrain
  dsimp only
  rw [nI_clamp (n := a) (by omega), nI_clamp (n := b) (by omega)]
  refine ⟨vb, va, nm_e ⟨va, nm_e ⟨vb, nm_e (br_c (fun z => br_c (fun w => h1 gr po (ga_ixSame H ha hb z w)) (fun w => h0 (ga_ixBad H hC ha hb z w))) (fun z => ?_))⟩⟩⟩
  have key := cl_54 (gr := gr) (po := po) (o := gr a) (w := gr b) (sh := po b + d - po a) (sc := sc) (oc := oc) (ne := ne) (ns := ns) (ca := ca) (on := on) (st := st) (ra := ra) (xu := xu) (xn := xn) (xe := xe) (xd := xd) (al := al) (ap := ap) (ac := ac) (en := en) (eu := eu) (ea := ea) (eb := eb) (sU := sU) (sL := sL) (sK := sK) (sE := sE) (sG := sG) (sO := sO) (ec := ec) (cx := cx) (ou := ou) (tc := tc) (ss := ss) (av := av) (cs := cs) (h1 _ _ (ga_ixJoin H hC ha hb z)) 36 0 rfl
  rw [cl_g0, cl_q0] at key
  exact ⟨36 + 1, key⟩
theorem cl_12 {post : Int32 → St2 → Prop} {J : Int32 → Int32 → Int32 → Int32 → Int32 → Int32 → Int32 → Int32 → Int32 → Int32 → Int32 → Int32 → Int32 → (Nat → Int32) → (Nat → Int32) → (Nat → Int32) → (Nat → Int32) → (Nat → Int32) → (Nat → Int32) → (Nat → Int32) → (Nat → Int32) → (Nat → Int32) → (Nat → Int32) → (Nat → Int32) → (Nat → Int32) → (Nat → Int32) → (Nat → Int32) → (Nat → Int32) → (Nat → Int32) → (Nat → Int32) → (Nat → Int32) → (Nat → Int32) → (Nat → Int32) → (Nat → Int32) → (Nat → Int32) → Prop} {u b : Nat}
    (D : fs_D al ap ac en cb cn eu ea eb n) (hu : u < 4) (hb : b < 4) (hC : C = gd_CS (fa_N al) (fa_N ac) (fa_N cb) (fa_N cn) n (fa_N eu) (fa_N ea) (fa_N eb))
    (h0 : (¬ ∃ p, ga_Sol C p) → ∀ gr po : Nat → Int32, post 0 (sc, oc, ne, ns, ca, on, st, ra, xu, xn, xe, xd, al, ap, ac, en, eu, ea, eb, sU, sL, sK, sE, sG, sO, gr, po, ec, cx, ou, tc, ss, av, cs))
    (hJ : ∀ gr po : Nat → Int32, ga_IX C (gd_SX (fa_N al) (fa_N ac) (fa_N cb) (fa_N cn) u b (fa_N ac u)) gr po → J (nI (b + 1)) sc oc ne ns ca on st ra xu xn xe xd al ap ac en eu ea eb sU sL sK sE sG sO gr po ec cx ou tc ss av cs) :
    ∀ d i, i + d = fa_N ac u → ∀ gr po : Nat → Int32, ga_IX C (gd_SX (fa_N al) (fa_N ac) (fa_N cb) (fa_N cn) u b i) gr po → wX_placeEntries_12 post J (nI u) (nI b) (d + 1) (nI (gd_off (fa_N al) (fa_N cb) (fa_N cn) u b i)) (nI i) sc oc ne ns ca on st ra xu xn xe xd al ap ac en eu ea eb sU sL sK sE sG sO gr po ec cx ou tc ss av cs := by
  obtain ⟨c1, c2⟩ := cn_C D hu
  have vu : vp_in (nI u) 4 := vp_in_nI hu (by decide)
  have W := fs_wd D
  intro d
  induction d with
  | zero =>
    intro i hi gr po H
    have e : i = fa_N ac u := by omega
    refine ⟨vu, ?_⟩
    rw [nI_clamp (n := u) (by omega), c1]
    refine br_t (nI_le (by omega) (by omega)) (nm_r (nI_1 b) (hJ gr po ?_))
    rw [← e]
    exact H
  | succ d ih =>
    intro i hi gr po H
    obtain ⟨⟨i1, i2⟩, ⟨i3, i4⟩, i5⟩ := cn_I D (i := u * 8 + i) (by omega)
    have l16 := cn_A D (k := u * 8 + fa_N cn (u * 8 + i)) (by omega)
    have off := gd_off_le (L := fa_N al) (CB := fa_N cb) (CN := fa_N cn) (b := b) (fun k hk => (W.1 k hk).2) (fun i hi => (W.2.2.2.1 i hi).2) hu i (by omega)
    refine ⟨vu, ?_⟩
    rw [nI_clamp (n := u) (by omega), c1]
    refine br_f (nI_ge (by omega) (by omega)) ?_
    rw [ha_us (u := u) (n := i), nI_clamp (n := u * 8 + i) (by omega), i5]
    refine ⟨vp_in_nI (by omega) (by decide), nm_e ⟨by decide, ?_⟩⟩
    rw [ha_d8 (by omega), show (fa_N cb (u * 8 + i) * 8 + fa_N cn (u * 8 + i)) / 8 = fa_N cb (u * 8 + i) by omega]
    have offS : gd_off (fa_N al) (fa_N cb) (fa_N cn) u b (i + 1) = gd_off (fa_N al) (fa_N cb) (fa_N cn) u b i + (if fa_N cb (u * 8 + i) = b then fa_N al (u * 8 + fa_N cn (u * 8 + i)) else 0) := rfl
    refine pk_eq (fa_N cb (u * 8 + i)) b (fun z => ⟨by decide, nm_r (e' := nI (u * 8 + fa_N cn (u * 8 + i))) ?_ ?_⟩) (fun z => nm_r (nI_1 i) ?_)
    · rw [show nI (fa_N cb (u * 8 + i)) * 8 = nI (fa_N cb (u * 8 + i) * 8) from pk_mul _ 8, pk_sub (by omega), ha_us]
      congr 1
      omega
    · rw [ha_32]
      refine cl_con H ?_ (by omega) (by omega) (fun gr' po' H' => br_f (by decide) ⟨vp_in_nI (by omega) (by decide), ?_⟩) (fun ns => br_t rfl (h0 ns gr po))
      · rw [hC]
        exact Or.inl ⟨u, i, hu, by omega, rfl, by rw [z], by rw [z]⟩
      · rw [nI_clamp (n := u * 8 + fa_N cn (u * 8 + i)) (by omega), l16.1, nI_add]
        rw [if_pos z] at offS
        rw [← offS]
        exact nm_e (nm_r (nI_1 i) (ih (i + 1) (by omega) gr' po' (gd_ixMono H' (fun x y e he => gd_sxi z he))))
    · rw [if_neg z] at offS
      have e2 : gd_off (fa_N al) (fa_N cb) (fa_N cn) u b (i + 1) = gd_off (fa_N al) (fa_N cb) (fa_N cn) u b i := by rw [offS]; rfl
      rw [← e2]
      exact ih (i + 1) (by omega) gr po (gd_ixMono H (fun x y e he => gd_sxk z he))
theorem cl_pe {post : Int32 → St2 → Prop} {u : Nat} (D : fs_D al ap ac en cb cn eu ea eb n) (hu : u < 4) (hC : C = gd_CS (fa_N al) (fa_N ac) (fa_N cb) (fa_N cn) n (fa_N eu) (fa_N ea) (fa_N eb))
    (h0 : (¬ ∃ p, ga_Sol C p) → ∀ gr po : Nat → Int32, post 0 (sc, oc, ne, ns, ca, on, st, ra, xu, xn, xe, xd, al, ap, ac, en, eu, ea, eb, sU, sL, sK, sE, sG, sO, gr, po, ec, cx, ou, tc, ss, av, cs)) (h1 : ∀ gr po : Nat → Int32, ga_IX C (gd_SX (fa_N al) (fa_N ac) (fa_N cb) (fa_N cn) u 4 0) gr po → post 1 (sc, oc, ne, ns, ca, on, st, ra, xu, xn, xe, xd, al, ap, ac, en, eu, ea, eb, sU, sL, sK, sE, sG, sO, gr, po, ec, cx, ou, tc, ss, av, cs)) :
    ∀ d b, b + d = 4 → ∀ gr po : Nat → Int32, ga_IX C (gd_SX (fa_N al) (fa_N ac) (fa_N cb) (fa_N cn) u b 0) gr po → wX_placeEntries_2 post (nI u) (d + 1) (nI b) sc oc ne ns ca on st ra xu xn xe xd al ap ac en eu ea eb sU sL sK sE sG sO gr po ec cx ou tc ss av cs := by
  intro d
  induction d with
  | zero =>
    intro b hb gr po H
    have e : b = 4 := by omega
    subst e
    exact br_t (by decide) (h1 gr po H)
  | succ d ih =>
    intro b hb gr po H
    exact br_f (nI_ge (b := 4) (by omega) (by decide)) ⟨fa_N ac u + 1, cl_12 D hu (by omega) hC h0 (fun gr' po' H' => ih (b + 1) (by omega) gr' po' (gd_ixMono H' (fun x y e he => gd_sxb he))) (fa_N ac u) 0 (by omega) gr po H⟩
theorem cl_53 {post : Int32 → St2 → Prop} (D : fs_D al ap ac en cb cn eu ea eb n) (hC : C = gd_CS (fa_N al) (fa_N ac) (fa_N cb) (fa_N cn) n (fa_N eu) (fa_N ea) (fa_N eb))
    (h0 : (¬ ∃ p, ga_Sol C p) → ∀ gr po : Nat → Int32, post 0 (sc, oc, nI n, ns, ca, on, st, ra, xu, xn, xe, xd, al, ap, ac, en, eu, ea, eb, sU, sL, sK, sE, sG, sO, gr, po, ec, cx, ou, tc, ss, av, cs)) (h1 : ∀ gr po : Nat → Int32, ga_IX C (gd_SE (fa_N al) (fa_N ac) (fa_N cb) (fa_N cn) (fa_N eu) (fa_N ea) (fa_N eb) n) gr po → post 1 (sc, oc, nI n, ns, ca, on, st, ra, xu, xn, xe, xd, al, ap, ac, en, eu, ea, eb, sU, sL, sK, sE, sG, sO, gr, po, ec, cx, ou, tc, ss, av, cs)) :
    ∀ d e, e + d = n → ∀ gr po : Nat → Int32, ga_IX C (gd_SE (fa_N al) (fa_N ac) (fa_N cb) (fa_N cn) (fa_N eu) (fa_N ea) (fa_N eb) e) gr po → wX_solveLayout_53 post (d + 1) (nI e) sc oc (nI n) ns ca on st ra xu xn xe xd al ap ac en eu ea eb sU sL sK sE sG sO gr po ec cx ou tc ss av cs := by
  have n16 := D.2.2.2.2.2.1
  intro d
  induction d with
  | zero =>
    intro e he gr po H
    have e' : e = n := by omega
    subst e'
    exact br_t (nI_le (Nat.le_refl e) (by omega)) (h1 gr po H)
  | succ d ih =>
    intro e he gr po H
    obtain ⟨⟨q1, q2⟩, ⟨q3, q4, q5⟩, q6, q7, q8⟩ := cn_E D (e := e) (by omega)
    have ve : vp_in (nI e) 16 := vp_in_nI (by omega) (by decide)
    have m1 := fb_nm8 (Or.inl q4)
    have m2 := fb_nm8 (Or.inl q7)
    refine br_f (nI_ge (by omega) (by omega)) ⟨ve, ve, ?_⟩
    rw [nI_clamp (n := e) (by omega), q1, q3, q6]
    refine hx_slotOf (by omega) ⟨ve, ve, ?_⟩
    refine hx_slotOf (by omega) ⟨ve, ?_⟩
    refine hx_elementOf (by omega) ⟨ve, ?_⟩
    refine hx_elementOf (by omega) (nm_e ?_)
    refine cl_con H ?_ (by omega) (by omega) (fun gr' po' H' => br_f (by decide) (nm_r (nI_1 e) (ih (e + 1) (by omega) gr' po' (gd_ixMono H' (fun x y e he => gd_see he))))) (fun ns => br_t rfl (h0 ns gr po))
    rw [hC]
    exact Or.inr ⟨e, by omega, rfl, rfl, rfl⟩
theorem cl_30 {post : Int32 → St2 → Prop} (D : fs_D al ap ac en cb cn eu ea eb n) (hC : C = gd_CS (fa_N al) (fa_N ac) (fa_N cb) (fa_N cn) n (fa_N eu) (fa_N ea) (fa_N eb))
    (h0 : (¬ ∃ p, ga_Sol C p) → ∀ gr po : Nat → Int32, post 0 (sc, oc, nI n, ns, ca, on, st, ra, xu, xn, xe, xd, al, ap, ac, en, eu, ea, eb, sU, sL, sK, sE, sG, sO, gr, po, ec, cx, ou, tc, ss, av, cs)) (h1 : ∀ gr po : Nat → Int32, ga_IX C (gd_SE (fa_N al) (fa_N ac) (fa_N cb) (fa_N cn) (fa_N eu) (fa_N ea) (fa_N eb) n) gr po → post 1 (sc, oc, nI n, ns, ca, on, st, ra, xu, xn, xe, xd, al, ap, ac, en, eu, ea, eb, sU, sL, sK, sE, sG, sO, gr, po, ec, cx, ou, tc, ss, av, cs)) :
    ∀ d u, u + d = 4 → ∀ gr po : Nat → Int32, ga_IX C (gd_SX (fa_N al) (fa_N ac) (fa_N cb) (fa_N cn) u 0 0) gr po → wX_solveLayout_30 post (d + 1) (nI u) sc oc (nI n) ns ca on st ra xu xn xe xd al ap ac en eu ea eb sU sL sK sE sG sO gr po ec cx ou tc ss av cs := by
  have W := fs_wd D
  intro d
  induction d with
  | zero =>
    intro u hu gr po H
    have e : u = 4 := by omega
    subst e
    exact br_t (by decide) ⟨n + 1, cl_53 D hC h0 h1 n 0 (by omega) gr po (gd_ixMono H (fun x y e he => gd_se0 he))⟩
  | succ d ih =>
    intro u hu gr po H
    refine br_f (nI_ge (b := 4) (by omega) (by decide)) ?_
    refine ⟨4 + 1, cl_pe D (by omega) hC (fun ns gr' po' => br_t rfl (h0 ns gr' po')) (fun gr' po' H' => br_f (by decide) (nm_r (nI_1 u) (ih (u + 1) (by omega) gr' po' (gd_ixMono H' (fun x y e he => gd_sxu (fun i hi => (W.2.2.2.1 i hi).1) (by omega) (W.2.2.1 u (by omega)) he))))) 4 0 rfl gr po H⟩
theorem cl_2 {post : Int32 → St2 → Prop} (h : ∀ gr po : Nat → Int32, (∀ x, x < 36 → gr x = nI x) → (∀ x, x < 36 → po x = 0) → ∃ m, wX_solveLayout_30 post m 0 sc oc ne ns ca on st ra xu xn xe xd al ap ac en eu ea eb sU sL sK sE sG sO gr po ec cx ou tc ss av cs) : ∀ d i, i + d = 36 → ∀ gr po : Nat → Int32, (∀ x, x < i → gr x = nI x) → (∀ x, x < i → po x = 0) → wX_solveLayout_2 post sc oc ne ns ca on st ra xu xn xe xd (d + 1) (nI i) al ap ac en eu ea eb sU sL sK sE sG sO gr po ec cx ou tc ss av cs := by
  intro d
  induction d with
  | zero =>
    intro i hi gr po hg hp
    have e : i = 36 := by omega
    subst e
    exact br_t (by decide) (h gr po hg hp)
  | succ d ih =>
    intro i hi gr po hg hp
    have vi : vp_in (nI i) 36 := vp_in_nI (by omega) (by decide)
    refine br_f (nI_ge (b := 36) (by omega) (by decide)) ⟨vi, ?_⟩
    rw [nI_clamp (n := i) (by omega)]
    refine nm_e ⟨vi, nm_e (nm_r (nI_1 i) (ih (i + 1) (by omega) _ _ ?_ ?_))⟩
    · intro x hx
      by_cases e : x = i
      · subst e; exact pk_us
      · rw [pk_un e]; exact hg x (by omega)
    · intro x hx
      by_cases e : x = i
      · subst e; exact pk_us
      · rw [pk_un e]; exact hp x (by omega)
theorem cl_layout {post : Int32 → St2 → Prop} (D : fs_D al ap ac en cb cn eu ea eb n)
    (h0 : (¬ ∃ p, ga_Sol (gd_CS (fa_N al) (fa_N ac) (fa_N cb) (fa_N cn) n (fa_N eu) (fa_N ea) (fa_N eb)) p) → ∀ gr po : Nat → Int32, post 0 (sc, oc, nI n, ns, ca, on, st, ra, xu, xn, xe, xd, al, ap, ac, en, eu, ea, eb, sU, sL, sK, sE, sG, sO, gr, po, ec, cx, ou, tc, ss, av, cs))
    (h1 : ∀ gr po : Nat → Int32, ga_IX (gd_CS (fa_N al) (fa_N ac) (fa_N cb) (fa_N cn) n (fa_N eu) (fa_N ea) (fa_N eb)) (gd_SE (fa_N al) (fa_N ac) (fa_N cb) (fa_N cn) (fa_N eu) (fa_N ea) (fa_N eb) n) gr po → post 1 (sc, oc, nI n, ns, ca, on, st, ra, xu, xn, xe, xd, al, ap, ac, en, eu, ea, eb, sU, sL, sK, sE, sG, sO, gr, po, ec, cx, ou, tc, ss, av, cs)) : wpX_solveLayout post (sc, oc, nI n, ns, ca, on, st, ra, xu, xn, xe, xd, al, ap, ac, en, eu, ea, eb, sU, sL, sK, sE, sG, sO, gr, po, ec, cx, ou, tc, ss, av, cs) :=
  ⟨36 + 1, cl_2 (fun gr po hg hp => ⟨4 + 1, cl_30 D rfl h0 h1 4 0 rfl gr po (gd_ixMono (ga_ix0 hg hp) (fun x y d he => absurd he gd_sx0))⟩) 36 0 rfl gr po (fun x hx => absurd hx (Nat.not_lt_zero x)) (fun x hx => absurd hx (Nat.not_lt_zero x))⟩
end HXL
end
section
section HXA
/-! the class's cells and extents -/
variable {sc oc ne ns ca on st ra xu xn xe xd nc yp yu ye yl yr : Int32} {al ap ac en eu ea eb sU sL sK sE sG sO gr po ec cx ou tc ss av cs cb cn kx ky kd pl rl cm hv ba ad ex cy bi : Nat → Int32}
variable {n : Nat}
theorem ca_12 {post : Int32 → Prop} {k i : Nat} (hA : ∀ k, k < 32 → ∃ l, 1 ≤ l ∧ l ≤ 16 ∧ al k = nI l) (hk : k < 32) (i1 : 1 ≤ i) (i2 : i ≤ fa_N al k) (h : ∀ e, e < 512 → gb_Fst gr po (fa_N al) k i e → post (nI e)) :
    ∀ d o, o + d = k → (∀ o', o' < o → ∀ j', 1 ≤ j' → j' ≤ fa_N al o' → gr o' = gr k → po k + nI i ≠ po o' + nI j') → wX_firstSameElement_12 post (nI k) (nI i) sc oc ne ns ca on st ra xu xn xe xd al ap ac en eu ea eb sU sL sK sE sG sO gr po ec cx ou tc ss av cs (d + 1) (nI o) := by
  have N : ∀ k, k < 32 → al k = nI (fa_N al k) ∧ 1 ≤ fa_N al k ∧ fa_N al k ≤ 16 := by
    intro k hk
    obtain ⟨l, l1, l2, e⟩ := hA k hk
    rw [fa_Re e (by omega)]
    exact ⟨e, l1, l2⟩
  have lk := N k hk
  intro d
  induction d with
  | zero =>
    intro o ho nb
    have e : o = k := by omega
    subst e
    refine br_t (nI_le (Nat.le_refl o) (by omega)) ?_
    unfold wX_firstSameElement_94
    rw [ha_el i1]
    exact h _ (by omega) ⟨o, i, hk, rfl, i1, i2, by omega, rfl, rfl, nb⟩
  | succ d ih =>
    intro o ho nb
    have lo := N o (by omega)
    have vo : vp_in (nI o) 36 := vp_in_nI (by omega) (by decide)
    have vk : vp_in (nI k) 36 := vp_in_nI (by omega) (by decide)
    refine br_f (nI_ge (by omega) (by omega)) ⟨vk, vo, ?_⟩
    rw [nI_clamp (n := k) (by omega), nI_clamp (n := o) (by omega), lo.1]
    have next : (∀ j', 1 ≤ j' → j' ≤ fa_N al o → gr o = gr k → po k + nI i ≠ po o + nI j') → wX_firstSameElement_12 post (nI k) (nI i) sc oc ne ns ca on st ra xu xn xe xd al ap ac en eu ea eb sU sL sK sE sG sO gr po ec cx ou tc ss av cs (d + 1) (nI (o + 1)) := by
      intro nb'
      refine ih (o + 1) (by omega) (fun o' ho' => ?_)
      by_cases e : o' = o
      · subst e; exact nb'
      · exact nb o' (by omega)
    have no : ∀ x4 : Int32, x4 = po k + nI i - po o → (x4 < 1 ∨ (¬ x4 < 1 ∧ ¬ x4 ≤ nI (fa_N al o))) → ∀ j', 1 ≤ j' → j' ≤ fa_N al o → gr o = gr k → po k + nI i ≠ po o + nI j' := by
      intro x4 e4 hx j' j1 j2 _ e
      have e5 : x4 = nI j' := by rw [e4, e]; grind
      rw [e5] at hx
      rcases hx with hx | ⟨_, hx⟩
      · exact nI_nlt (b := 1) j1 (by omega) hx
      · exact hx (nI_le j2 (by omega))
    have miss : ∀ x4 : Int32, (∀ j', 1 ≤ j' → j' ≤ fa_N al o → gr o = gr k → po k + nI i ≠ po o + nI j') → wX_firstSameElement_55 post (wX_firstSameElement_12 post (nI k) (nI i) sc oc ne ns ca on st ra xu xn xe xd al ap ac en eu ea eb sU sL sK sE sG sO gr po ec cx ou tc ss av cs (d + 1)) (nI k) (nI i) (nI o) x4 sc oc ne ns ca on st ra xu xn xe xd al ap ac en eu ea eb sU sL sK sE sG sO gr po ec cx ou tc ss av cs := by
      intro x4 nb'
      unfold wX_firstSameElement_55 wX_firstSameElement_56
      exact ⟨vo, vk, br_c (fun _ => br_t rfl (nm_r (nI_1 o) (next nb'))) (fun _ => nm_r (nI_1 o) (next nb'))⟩
    refine nm_e ?_
    rcases hc_v (v := po k + nI i - po o) (l := fa_N al o) lo.2.2 with z | ⟨z, z'⟩ | ⟨j, j1, j2, ej⟩
    · exact br_t z (miss _ (no _ rfl (Or.inl z)))
    · exact br_f z ⟨vp_in_nI (by omega) (by decide), br_t (Int32.not_le.mp z') (miss _ (no _ rfl (Or.inr ⟨z, z'⟩)))⟩
    · rw [ej]
      refine br_f (nI_nlt (b := 1) j1 (by omega)) ⟨vp_in_nI (by omega) (by decide), br_f (nI_nlt j2 (by omega)) ?_⟩
      unfold wX_firstSameElement_56
      rw [nI_clamp (n := k) (by omega), nI_clamp (n := o) (by omega)]
      refine ⟨vo, vk, br_c (fun g => br_f (by decide) ?_) (fun g => nm_r (nI_1 o) (next (fun j' _ _ gg => absurd gg g)))⟩
      rw [ha_el j1]
      refine h _ (by omega) ⟨o, j, by omega, rfl, j1, j2, by omega, g, by grind, ?_⟩
      exact nb
theorem ca_fst {post : Int32 → Prop} {k i : Nat} (hA : ∀ k, k < 32 → ∃ l, 1 ≤ l ∧ l ≤ 16 ∧ al k = nI l) (hk : k < 32) (i1 : 1 ≤ i) (i16 : i ≤ 16) (h : ∀ e, e < 512 → (i ≤ fa_N al k → gb_Fst gr po (fa_N al) k i e) → post (nI e)) : wpX_firstSameElement post (sc, oc, ne, ns, ca, on, st, ra, xu, xn, xe, xd, al, ap, ac, en, eu, ea, eb, sU, sL, sK, sE, sG, sO, gr, po, ec, cx, ou, tc, ss, av, cs) (nI k) (nI i) := by
  obtain ⟨l, l1, l2, el⟩ := hA k hk
  have eL : fa_N al k = l := fa_Re el (by omega)
  refine ⟨vp_in_nI hk (by decide), ?_⟩
  rw [nI_clamp (n := k) (by omega), el]
  refine pk_lt l i (fun z => ?_) (fun z => ⟨k + 1, ca_12 hA hk i1 (by omega) (fun e he hf => h e he (fun _ => hf)) k 0 (by omega) (fun o' ho' => absurd ho' (Nat.not_lt_zero o'))⟩)
  unfold wX_firstSameElement_94
  rw [ha_el i1]
  exact h _ (by omega) (fun q => by omega)
def ca_Ok (gr po al ec : Nat → Int32) (m : Nat) : Prop := ∃ e, (m % 16 + 1 ≤ fa_N al (m / 16) → gb_Fst gr po (fa_N al) (m / 16) (m % 16 + 1) e) ∧ ec m = nI e
theorem ca_up {m e : Nat} {ec : Nat → Int32} (h : ∀ j, j < m → ca_Ok gr po al ec j) (he : m % 16 + 1 ≤ fa_N al (m / 16) → gb_Fst gr po (fa_N al) (m / 16) (m % 16 + 1) e) : ∀ j, j < m + 1 → ca_Ok gr po al (upd ec m (nI e)) j := by
  intro j hj
  by_cases z : j = m
  · subst z
    exact ⟨e, he, pk_us⟩
  · obtain ⟨e', h1, h2⟩ := h j (by omega)
    exact ⟨e', h1, by rw [pk_un z]; exact h2⟩
theorem ca_10 {post : St2 → Prop} {J : Int32 → (Nat → Int32) → (Nat → Int32) → (Nat → Int32) → (Nat → Int32) → (Nat → Int32) → (Nat → Int32) → (Nat → Int32) → (Nat → Int32) → (Nat → Int32) → (Nat → Int32) → (Nat → Int32) → (Nat → Int32) → (Nat → Int32) → (Nat → Int32) → (Nat → Int32) → (Nat → Int32) → (Nat → Int32) → (Nat → Int32) → (Nat → Int32) → (Nat → Int32) → (Nat → Int32) → (Nat → Int32) → Prop} {k : Nat}
    (hA : ∀ k, k < 32 → ∃ l, 1 ≤ l ∧ l ≤ 16 ∧ al k = nI l) (hk : k < 32) (hJ : ∀ ec : Nat → Int32, (∀ j, j < (k + 1) * 16 → ca_Ok gr po al ec j) → J (nI (k + 1)) al ap ac en eu ea eb sU sL sK sE sG sO gr po ec cx ou tc ss av cs) :
    ∀ d i, i + d = 16 → ∀ ec : Nat → Int32, (∀ j, j < k * 16 + i → ca_Ok gr po al ec j) → wX_assignCells_10 post J (nI k) sc oc ne ns ca on st ra xu xn xe xd (d + 1) (nI (i + 1)) al ap ac en eu ea eb sU sL sK sE sG sO gr po ec cx ou tc ss av cs := by
  intro d
  induction d with
  | zero =>
    intro i hi ec hec
    have e : i = 16 := by omega
    subst e
    exact br_t (by decide) (nm_r (nI_1 k) (hJ ec (fun j hj => hec j (by omega))))
  | succ d ih =>
    intro i hi ec hec
    refine br_f (nI_nlt (a := 16) (by omega) (by decide)) ?_
    refine ca_fst hA hk (by omega) (by omega) (fun e he hf => ?_)
    rw [ha_el (by omega), show k * 16 + (i + 1) - 1 = k * 16 + i by omega, nI_clamp (n := k * 16 + i) (by omega)]
    refine ⟨vp_in_nI (by omega) (by decide), nm_e (nm_r (nI_1 (i + 1)) (ih (i + 1) (by omega) _ ?_))⟩
    have q1 : (k * 16 + i) % 16 = i := by omega
    have q2 : (k * 16 + i) / 16 = k := by omega
    exact ca_up (m := k * 16 + i) hec (by rw [q1, q2]; exact hf)
theorem ca_2 {post : St2 → Prop} (hA : ∀ k, k < 32 → ∃ l, 1 ≤ l ∧ l ≤ 16 ∧ al k = nI l) (h : ∀ ec : Nat → Int32, (∀ j, j < 512 → ca_Ok gr po al ec j) → post (sc, oc, ne, ns, ca, on, st, ra, xu, xn, xe, xd, al, ap, ac, en, eu, ea, eb, sU, sL, sK, sE, sG, sO, gr, po, ec, cx, ou, tc, ss, av, cs)) : ∀ d k, k + d = 32 → ∀ ec : Nat → Int32, (∀ j, j < k * 16 → ca_Ok gr po al ec j) → wX_assignCells_2 post sc oc ne ns ca on st ra xu xn xe xd (d + 1) (nI k) al ap ac en eu ea eb sU sL sK sE sG sO gr po ec cx ou tc ss av cs := by
  intro d
  induction d with
  | zero =>
    intro k hk ec hec
    have e : k = 32 := by omega
    subst e
    exact br_t (by decide) (h ec hec)
  | succ d ih =>
    intro k hk ec hec
    exact br_f (nI_ge (b := 32) (by omega) (by decide)) ⟨16 + 1, ca_10 hA (by omega) (fun ec' he' => ih (k + 1) (by omega) ec' he') 16 0 rfl ec hec⟩
theorem ca_cells {post : St2 → Prop} (hA : ∀ k, k < 32 → ∃ l, 1 ≤ l ∧ l ≤ 16 ∧ al k = nI l) (h : ∀ ec : Nat → Int32, (∀ k i, k < 32 → 1 ≤ i → i ≤ fa_N al k → ∃ e, gb_Fst gr po (fa_N al) k i e ∧ ec (k * 16 + i - 1) = nI e) → post (sc, oc, ne, ns, ca, on, st, ra, xu, xn, xe, xd, al, ap, ac, en, eu, ea, eb, sU, sL, sK, sE, sG, sO, gr, po, ec, cx, ou, tc, ss, av, cs)) : wpX_assignCells post (sc, oc, ne, ns, ca, on, st, ra, xu, xn, xe, xd, al, ap, ac, en, eu, ea, eb, sU, sL, sK, sE, sG, sO, gr, po, ec, cx, ou, tc, ss, av, cs) := by
  refine ⟨32 + 1, ca_2 hA (fun ec hec => h ec (fun k i hk i1 i2 => ?_)) 32 0 rfl ec (fun j hj => absurd hj (Nat.not_lt_zero j))⟩
  obtain ⟨l, l1, l2, el⟩ := hA k hk
  have eL : fa_N al k = l := fa_Re el (by omega)
  obtain ⟨e, h1, h2⟩ := hec (k * 16 + i - 1) (by omega)
  have q1 : (k * 16 + i - 1) % 16 + 1 = i := by omega
  have q2 : (k * 16 + i - 1) / 16 = k := by omega
  rw [q1, q2] at h1
  exact ⟨e, h1 i2, h2⟩
theorem ca_ext {post : Int32 → Prop} {b : Nat} (hb : b < 4) (h : post (fs_ext gr po al b 32)) : wpX_extentOf post (sc, oc, ne, ns, ca, on, st, ra, xu, xn, xe, xd, al, ap, ac, en, eu, ea, eb, sU, sL, sK, sE, sG, sO, gr, po, ec, cx, ou, tc, ss, av, cs) (nI b) := by
  have key : ∀ d k, k + d = 32 → wX_extentOf_4 post (nI b) sc oc ne ns ca on st ra xu xn xe xd al ap ac en eu ea eb sU sL sK sE sG sO gr po ec cx ou tc ss av cs (d + 1) (fs_ext gr po al b k) (nI k) := by
    intro d
    induction d with
    | zero =>
      intro k hk
      have e : k = 32 := by omega
      subst e
      exact br_t (by decide) h
    | succ d ih =>
      intro k hk
      have vk : vp_in (nI k) 36 := vp_in_nI (by omega) (by decide)
      have vb : vp_in (nI (32 + b)) 36 := vp_in_nI (by omega) (by decide)
      have ex1 : fs_ext gr po al b (k + 1) = if gr k = gr (32 + b) ∧ fs_ext gr po al b k < po k + al k - po (32 + b) then po k + al k - po (32 + b) else fs_ext gr po al b k := rfl
      have go := ih (k + 1) (by omega)
      refine br_f (nI_ge (b := 32) (by omega) (by decide)) ?_
      rw [ha_32, nI_clamp (n := k) (by omega), nI_clamp (n := 32 + b) (by omega)]
      refine ⟨vk, vp_in_nI (by omega) (by decide), vb, nm_e ⟨vk, vb, br_c (fun z => br_c (fun w => nm_r (nI_1 k) ?_) (fun w => nm_r (nI_1 k) ?_)) (fun z => nm_r (nI_1 k) ?_)⟩⟩
      · rw [if_neg (fun q => absurd q.2 (Int32.not_lt.mpr w))] at ex1
        rw [ex1] at go
        exact go
      · rw [if_pos ⟨z, Int32.not_le.mp w⟩] at ex1
        rw [ex1] at go
        exact go
      · rw [if_neg (fun q => z q.1)] at ex1
        rw [ex1] at go
        exact go
  exact ⟨32 + 1, key 32 0 rfl⟩
end HXA
end
section
section HCO
/-! compile -/
variable {sc oc ne ns ca on st ra xu xn xe xd nc yp yu ye yl yr : Int32} {al ap ac en eu ea eb sU sL sK sE sG sO gr po ec cx ou tc ss av cs cb cn kx ky kd pl rl cm hv ba ad ex cy bi : Nat → Int32}
variable {n q : Nat} {f : Prop}
theorem ck_x {P : Int32 → St2 → Prop} (hn : n ≤ 64) (S : fs_S n sU sL sK sE sG sO f) (D : fs_D al ap ac en cb cn eu ea eb q)
    (h2 : fb_pend n sK sE sG ≠ 0 → P 2 (sc, oc, nI q, nI n, ca, on, st, ra, xu, xn, xe, xd, al, ap, ac, en, eu, ea, eb, sU, sL, sK, sE, sG, sO, gr, po, ec, cx, ou, tc, ss, av, cs)) (h3 : fb_pend n sK sE sG = 0 → gd_DB (fa_N al) (fa_N ap) (fa_N ac) (fa_N cn) q (fa_N eu) (fa_N ea) (fa_N eb) → P 3 (sc, oc, nI q, nI n, ca, on, st, ra, xu, xn, xe, xd, al, ap, ac, en, eu, ea, eb, sU, sL, sK, sE, sG, sO, gr, po, ec, cx, ou, tc, ss, av, cs)) (h4 : fb_pend n sK sE sG = 0 → ¬ gd_DB (fa_N al) (fa_N ap) (fa_N ac) (fa_N cn) q (fa_N eu) (fa_N ea) (fa_N eb) → (gd_XE (fa_N al) q (fa_N eu) (fa_N ea) (fa_N eb) ∨ gd_XS n al sU sG sO) → P 4 (sc, oc, nI q, nI n, ca, on, st, ra, xu, xn, xe, xd, al, ap, ac, en, eu, ea, eb, sU, sL, sK, sE, sG, sO, gr, po, ec, cx, ou, tc, ss, av, cs))
    (h5n : fb_pend n sK sE sG = 0 → ¬ gd_DB (fa_N al) (fa_N ap) (fa_N ac) (fa_N cn) q (fa_N eu) (fa_N ea) (fa_N eb) → ¬ (gd_XE (fa_N al) q (fa_N eu) (fa_N ea) (fa_N eb) ∨ gd_XS n al sU sG sO) → (¬ ∃ p, ga_Sol (gd_CS (fa_N al) (fa_N ac) (fa_N cb) (fa_N cn) q (fa_N eu) (fa_N ea) (fa_N eb)) p) → ∀ gr po : Nat → Int32, P 5 (sc, oc, nI q, nI n, ca, on, st, ra, xu, xn, xe, xd, al, ap, ac, en, eu, ea, eb, sU, sL, sK, sE, sG, sO, gr, po, ec, cx, ou, tc, ss, av, cs))
    (hk : fb_pend n sK sE sG = 0 → ¬ gd_DB (fa_N al) (fa_N ap) (fa_N ac) (fa_N cn) q (fa_N eu) (fa_N ea) (fa_N eb) → ¬ (gd_XE (fa_N al) q (fa_N eu) (fa_N ea) (fa_N eb) ∨ gd_XS n al sU sG sO) → ∀ gr po : Nat → Int32, ga_IX (gd_CS (fa_N al) (fa_N ac) (fa_N cb) (fa_N cn) q (fa_N eu) (fa_N ea) (fa_N eb)) (gd_SE (fa_N al) (fa_N ac) (fa_N cb) (fa_N cn) (fa_N eu) (fa_N ea) (fa_N eb) q) gr po → (gd_JB gr → P 5 (sc, oc, nI q, nI n, ca, on, st, ra, xu, xn, xe, xd, al, ap, ac, en, eu, ea, eb, sU, sL, sK, sE, sG, sO, gr, po, ec, cx, ou, tc, ss, av, cs)) ∧ (¬ gd_JB gr → gd_BB gr po → P 6 (sc, oc, nI q, nI n, ca, on, st, ra, xu, xn, xe, xd, al, ap, ac, en, eu, ea, eb, sU, sL, sK, sE, sG, sO, gr, po, ec, cx, ou, tc, ss, av, cs)) ∧ (¬ gd_JB gr → ¬ gd_BB gr po → (gd_LD n sU sL ∨ gd_LT n sU sL sK sG sO ∨ gd_LE n sU sL sK sG sO) → P 7 (sc, oc, nI q, nI n, ca, on, st, ra, xu, xn, xe, xd, al, ap, ac, en, eu, ea, eb, sU, sL, sK, sE, sG, sO, gr, po, ec, cx, ou, tc, ss, av, cs)) ∧ (¬ gd_JB gr → ¬ gd_BB gr po → ¬ (gd_LD n sU sL ∨ gd_LT n sU sL sK sG sO ∨ gd_LE n sU sL sK sG sO) → gd_WC n ap sK sE → P 8 (sc, oc, nI q, nI n, ca, on, st, ra, xu, xn, xe, xd, al, ap, ac, en, eu, ea, eb, sU, sL, sK, sE, sG, sO, gr, po, ec, cx, ou, tc, ss, av, cs)) ∧ (¬ gd_JB gr → ¬ gd_BB gr po → ¬ (gd_LD n sU sL ∨ gd_LT n sU sL sK sG sO ∨ gd_LE n sU sL sK sG sO) → ¬ gd_WC n ap sK sE → P 1 (sc, oc, nI q, nI n, ca, on, st, ra, xu, xn, xe, xd, al, ap, ac, en, eu, ea, eb, sU, sL, sK, sE, sG, sO, gr, po, ec, cx, ou, tc, ss, av, cs))) :
    wpX_judgeProgram P (sc, oc, nI q, nI n, ca, on, st, ra, xu, xn, xe, xd, al, ap, ac, en, eu, ea, eb, sU, sL, sK, sE, sG, sO, gr, po, ec, cx, ou, tc, ss, av, cs) := by
  have p5 := vs_pend5 S
  unfold wpX_judgeProgram
  dsimp only
  refine hx_await hn S ?_
  refine pk_le (fb_pend n sK sE sG) 0 (fun z => ?_) (fun z => h2 (by omega))
  have hp : fb_pend n sK sE sG = 0 := by omega
  refine cx_dummy D (fun d => br_f (by decide) (h3 hp d)) (fun d => br_t rfl ?_)
  refine cx_index D hn S (fun x => br_f (by decide) (h4 hp d x)) (fun x => br_t rfl ?_)
  refine cl_layout D (fun ns gr' po' => br_t rfl (h5n hp d x ns gr' po')) (fun gr' po' H => br_f (by decide) ?_)
  obtain ⟨k5, k6, k7, k8, k1⟩ := hk hp d x gr' po' H
  refine cx_joins (fun j => br_f (by decide) (k5 j)) (fun j => br_t rfl ?_)
  refine cx_back (fun b => br_f (by decide) (k6 j b)) (fun b => br_t rfl ?_)
  refine cx_rep hn (fun l => br_f (by decide) (k7 j b (Or.inl l))) (fun l => br_t rfl ?_)
  refine cx_tgt hn S (fun t => br_f (by decide) (k7 j b (Or.inr t))) (fun t => br_t rfl ?_)
  have nl : ¬ (gd_LD n sU sL ∨ gd_LT n sU sL sK sG sO ∨ gd_LE n sU sL sK sG sO) := fun z => z.elim l t
  exact cx_wc hn S D.2.2.1 (fun w => br_f (by decide) (k8 j b nl w)) (fun w => br_t rfl (k1 j b nl w))
theorem ck_al1 (D : fs_D al ap ac en cb cn eu ea eb q) (d : ¬ gd_DB (fa_N al) (fa_N ap) (fa_N ac) (fa_N cn) q (fa_N eu) (fa_N ea) (fa_N eb)) : ∀ k, k < 32 → ¬ gd_St (fa_N ap) k → al k = 1 := by
  intro k hk s
  obtain ⟨l1, l2, l3⟩ := cn_A D hk
  have e : fa_N al k = 1 := by
    by_cases z : 1 < fa_N al k
    · unfold gd_St at s
      exact absurd (Or.inl ⟨k, hk, Classical.byContradiction s, z⟩) d
    · omega
  rw [l1, e]
  rfl
theorem ck_S {g : Prop} (S : fs_S n sU sL sK sE sG sO f) (h : g → f) : fs_S n sU sL sK sE sG sO g := fun s hs => by
  obtain ⟨u, l, k, e, g, a1, a2, a3, a4, a5, a6, a7, a8, a9, a10, a11, a12, a13⟩ := S s hs
  exact ⟨u, l, k, e, g, a1, a2, a3, a4, a5, a6, a7, a8, a9, a10, a11, fun z => a12 (z.imp id h), a13⟩
theorem ck_C (S : fs_S n sU sL sK sE sG sO f) (D : fs_D al ap ac en cb cn eu ea eb q) (d : ¬ gd_DB (fa_N al) (fa_N ap) (fa_N ac) (fa_N cn) q (fa_N eu) (fa_N ea) (fa_N eb)) (x : ¬ (gd_XE (fa_N al) q (fa_N eu) (fa_N ea) (fa_N eb) ∨ gd_XS n al sU sG sO)) (l : ¬ (gd_LD n sU sL ∨ gd_LT n sU sL sK sG sO ∨ gd_LE n sU sL sK sG sO)) (w : ¬ gd_WC n ap sK sE) : fs_C n al ap sU sL sK sE sG sO := by
  refine ⟨ck_al1 D d, fun s p c hs hp e hc => ?_, fun s p hs hp hk e => l (Or.inr (Or.inl ⟨s, p, hs, hp, hk, e⟩)), fun s hs hk => Classical.byContradiction fun z => w ⟨s, hs, hk, z⟩⟩
  exact Nat.le_of_not_lt fun z => x (Or.inr ⟨s, p, c, hs, hp, e, hc, z⟩)
end HCO
end
section
section HRD
/-! value, aliased: a stored element, on each side -/
variable {sc oc ne ns ca on st ra xu xn xe xd nc yp yu ye yl yr : Int32} {al ap ac en eu ea eb sU sL sK sE sG sO gr po ec cx ou tc ss av cs cb cn kx ky kd pl rl cm hv ba ad ex cy bi : Nat → Int32}
variable {n : Nat} {post : Int32 → Prop} {p0 p1 : Int32} {u c : Nat}
def fa_V (al ap : Nat → Int32) (x y : Int32) : Prop := ∃ u c, u < 4 ∧ x = nI u ∧ fb_FX c ∧ y = nI c ∧ ¬ fb_nm c < fa_N ap u ∧ fb_ix c ≤ fa_N al (u * 8 + fb_nm c)
theorem rd_x1 (D : fs_D al ap ac en cb cn eu ea eb n) (hu : u < 4) (hc : fb_FX c) (hs : ¬ fb_nm c < fa_N ap u) (hi : fb_ix c ≤ fa_N al (u * 8 + fb_nm c)) (h : post (ec ((u * 8 + fb_nm c) * 16 + fb_ix c - 1))) : wpX_storedCell post (sc, oc, ne, ns, ca, on, st, ra, xu, xn, xe, xd, al, ap, ac, en, eu, ea, eb, sU, sL, sK, sE, sG, sO, gr, po, ec, cx, ou, tc, ss, av, cs) (nI u) (nI c) := by
  have m8 := fb_nm8 (Or.inl hc)
  have c2 := fb_FXlt hc
  have i1 := fb_ix1 c
  obtain ⟨l1, l2, l3⟩ := cn_A D (k := u * 8 + fb_nm c) (by omega)
  unfold wpX_storedCell
  dsimp only
  refine hx_isUnit (fun _ => br_f (by decide) ?_) (fun z => absurd ⟨u, hu, rfl⟩ z)
  refine hx_isFixed (fun _ => br_f (by decide) ?_) (fun z => absurd ⟨c, hc, rfl⟩ z)
  refine hx_slotOf (by omega) ?_
  refine hx_elementOf (by omega) ?_
  refine hx_isDummy (by omega) (by rw [show (u * 8 + fb_nm c) / 8 = u by omega]; exact D.2.2.1 u hu) (fun _ => br_t rfl ⟨vp_in_nI (by omega) (by decide), ?_⟩) (fun s => absurd ((cn_St m8).mpr hs) s)
  rw [nI_clamp (n := u * 8 + fb_nm c) (by omega), l1]
  refine br_t (nI_le hi (by omega)) ?_
  rw [ha_el i1, nI_clamp (n := (u * 8 + fb_nm c) * 16 + fb_ix c - 1) (by omega)]
  exact ⟨vp_in_nI (by omega) (by decide), h⟩
theorem rd_x0 (D : fs_D al ap ac en cb cn eu ea eb n) (nv : ¬ fa_V al ap p0 p1) (h : post (-1)) : wpX_storedCell post (sc, oc, ne, ns, ca, on, st, ra, xu, xn, xe, xd, al, ap, ac, en, eu, ea, eb, sU, sL, sK, sE, sG, sO, gr, po, ec, cx, ou, tc, ss, av, cs) p0 p1 := by
  unfold wpX_storedCell
  dsimp only
  refine hx_isUnit (fun hu => br_f (by decide) ?_) (fun _ => br_t rfl h)
  refine hx_isFixed (fun hf => br_f (by decide) ?_) (fun _ => br_t rfl h)
  obtain ⟨u, hu, rfl⟩ := hu
  obtain ⟨c, hc, rfl⟩ := hf
  have m8 := fb_nm8 (Or.inl hc)
  have c2 := fb_FXlt hc
  have i16 := fb_ix16 hc
  obtain ⟨l1, l2, l3⟩ := cn_A D (k := u * 8 + fb_nm c) (by omega)
  refine hx_slotOf (by omega) ?_
  refine hx_elementOf (by omega) ?_
  refine hx_isDummy (by omega) (by rw [show (u * 8 + fb_nm c) / 8 = u by omega]; exact D.2.2.1 u hu) (fun s => br_t rfl ⟨vp_in_nI (by omega) (by decide), ?_⟩) (fun _ => br_f (by decide) h)
  rw [nI_clamp (n := u * 8 + fb_nm c) (by omega), l1]
  exact pk_le (fb_ix c) (fa_N al (u * 8 + fb_nm c)) (fun z => absurd ⟨u, c, hu, rfl, hc, rfl, (cn_St m8).mp s, z⟩ nv) (fun _ => h)
end HRD
end
section
section PPU
/-! the extent and the pairs, in mathematics -/
theorem pn_neg {a b : Nat} (h : a < b) (hb : b < 1000000) : nI a - nI b + 1 < 1 := by
  have e : nI a - nI b + 1 = nI (a + 1) - nI b := by rw [← nI_1]; grind
  rw [e, Int32.lt_iff_toInt_lt, pk_sub_toInt (by omega) (by omega), show (1 : Int32).toInt = 1 from by decide]
  omega
theorem pn_sub {a b : Nat} (h : b ≤ a) : nI a - nI b + 1 = nI (a - b + 1) := by rw [pk_sub h, nI_1]
theorem pn_c (a k : Nat) : nI a + (nI k - 16) = nI (a + k) - nI 16 := by
  rw [← nI_add]
  show nI a + (nI k - nI 16) = nI a + nI k - nI 16
  grind
theorem pn_lt {a : Nat} (h : a < 17) : nI a - nI 16 < 1 := by
  rw [Int32.lt_iff_toInt_lt, pk_sub_toInt (by omega) (by omega), show (1 : Int32).toInt = 1 from by decide]
  omega
theorem pn_16 {k : Nat} (h : k ≤ 32) : ¬ (16 : Int32) < nI k - 16 := by
  show ¬ (16 : Int32) < nI k - nI 16
  rw [Int32.lt_iff_toInt_lt, pk_sub_toInt (by omega) (by omega), show (16 : Int32).toInt = 16 from by decide]
  omega
theorem pn_k (k : Nat) : nI k - 16 + 1 = nI (k + 1) - 16 := by rw [← nI_1]; grind
variable {g q al : Nat → Int32} {b : Nat}
theorem pe_s (k : Nat) : fs_ext g q al b (k + 1) = if g k = g (32 + b) ∧ fs_ext g q al b k < q k + al k - q (32 + b) then q k + al k - q (32 + b) else fs_ext g q al b k := rfl
theorem pe_up (k : Nat) : fs_ext g q al b k ≤ fs_ext g q al b (k + 1) := by
  rw [pe_s]
  by_cases z : g k = g (32 + b) ∧ fs_ext g q al b k < q k + al k - q (32 + b)
  · rw [if_pos z]
    exact Int32.le_of_lt z.2
  · rw [if_neg z]
    exact Int32.le_refl _
theorem pe_0 : ∀ k, (0 : Int32) ≤ fs_ext g q al b k := by
  intro k
  induction k with
  | zero => exact Int32.le_refl _
  | succ k ih => exact Int32.le_trans ih (pe_up k)
theorem pe_ge {k : Nat} (e : g k = g (32 + b)) : ∀ m, k < m → q k + al k - q (32 + b) ≤ fs_ext g q al b m := by
  intro m
  induction m with
  | zero => intro h; exact absurd h (Nat.not_lt_zero k)
  | succ m ih =>
    intro h
    by_cases c : k = m
    · subst c
      rw [pe_s]
      by_cases z : g k = g (32 + b) ∧ fs_ext g q al b k < q k + al k - q (32 + b)
      · rw [if_pos z]
        exact Int32.le_refl _
      · rw [if_neg z]
        exact Int32.not_lt.mp (fun w => z ⟨e, w⟩)
    · exact Int32.le_trans (ih (by omega)) (pe_up m)
theorem pe_le {M : Nat} (h : ∀ k, k < 32 → g k = g (32 + b) → ∃ e, e ≤ M ∧ q k + al k - q (32 + b) = nI e) : ∀ m, m ≤ 32 → ∃ e, e ≤ M ∧ fs_ext g q al b m = nI e := by
  intro m
  induction m with
  | zero => intro _; exact ⟨0, Nat.zero_le M, rfl⟩
  | succ m ih =>
    intro hm
    rw [pe_s]
    by_cases z : g m = g (32 + b) ∧ fs_ext g q al b m < q m + al m - q (32 + b)
    · rw [if_pos z]
      exact h m (by omega) z.1
    · rw [if_neg z]
      exact ih (by omega)
theorem pe_no (h : ∀ k, k < 32 → ¬ g k = g (32 + b)) : ∀ m, m ≤ 32 → fs_ext g q al b m = 0 := by
  intro m
  induction m with
  | zero => intro _; rfl
  | succ m ih =>
    intro hm
    rw [pe_s, if_neg (fun z => h m (by omega) z.1)]
    exact ih (by omega)
variable {L P CC CB CN EU EA EB : Nat → Nat} {n : Nat}
def pm_mx (L CC CB CN : Nat → Nat) (b : Nat) : Nat → Nat
  | 0 => 0
  | u + 1 => max (pm_mx L CC CB CN b u) (gd_off L CB CN u b (CC u))
theorem po_s (u b i : Nat) : gd_off L CB CN u b (i + 1) = gd_off L CB CN u b i + (if CB (u * 8 + i) = b then L (u * 8 + CN (u * 8 + i)) else 0) := rfl
theorem po_t {u b i : Nat} (h : CB (u * 8 + i) = b) : gd_off L CB CN u b (i + 1) = gd_off L CB CN u b i + L (u * 8 + CN (u * 8 + i)) := by rw [po_s, if_pos h]
theorem po_f {u b i : Nat} (h : ¬ CB (u * 8 + i) = b) : gd_off L CB CN u b (i + 1) = gd_off L CB CN u b i := by rw [po_s, if_neg h]; rfl
theorem po_mono {u b i : Nat} : ∀ j, i ≤ j → gd_off L CB CN u b i ≤ gd_off L CB CN u b j := by
  intro j
  induction j with
  | zero => intro h; rw [show i = 0 by omega]; exact Nat.le_refl _
  | succ j ih =>
    intro h
    by_cases c : i = j + 1
    · subst c; exact Nat.le_refl _
    · rw [po_s]
      have := ih (by omega)
      omega
theorem po_last {u b : Nat} : ∀ f, gd_off L CB CN u b f = 0 ∨ ∃ i, i < f ∧ CB (u * 8 + i) = b ∧ gd_off L CB CN u b f = gd_off L CB CN u b i + L (u * 8 + CN (u * 8 + i)) := by
  intro f
  induction f with
  | zero => exact Or.inl rfl
  | succ f ih =>
    by_cases c : CB (u * 8 + f) = b
    · exact Or.inr ⟨f, Nat.lt_succ_self f, c, po_t c⟩
    · rw [po_f c]
      rcases ih with z | ⟨i, hi, a, e⟩
      · exact Or.inl z
      · exact Or.inr ⟨i, by omega, a, e⟩
theorem po_128 (W : gd_WD L P CC CB CN n EU EA EB) {u b i : Nat} (hu : u < 4) (hi : i ≤ 8) : gd_off L CB CN u b i ≤ 128 := by
  have := gd_off_le (L := L) (CB := CB) (CN := CN) (b := b) (fun k hk => (W.1 k hk).2) (fun i hi => (W.2.2.2.1 i hi).2) hu i hi
  omega
theorem pm_128 (W : gd_WD L P CC CB CN n EU EA EB) {b : Nat} : ∀ u, u ≤ 4 → pm_mx L CC CB CN b u ≤ 128 := by
  intro u
  induction u with
  | zero => intro _; exact Nat.zero_le _
  | succ u ih =>
    intro hu
    have a := ih (by omega)
    have c := po_128 (b := b) W (u := u) (i := CC u) (by omega) (W.2.2.1 u (by omega))
    show max (pm_mx L CC CB CN b u) (gd_off L CB CN u b (CC u)) ≤ 128
    omega
theorem pm_ge {b u : Nat} : ∀ v, u < v → gd_off L CB CN u b (CC u) ≤ pm_mx L CC CB CN b v := by
  intro v
  induction v with
  | zero => intro h; exact absurd h (Nat.not_lt_zero u)
  | succ v ih =>
    intro h
    show _ ≤ max (pm_mx L CC CB CN b v) (gd_off L CB CN v b (CC v))
    by_cases c : u = v
    · subst c; omega
    · have := ih (by omega); omega
/-- an entry of COMMON: its slot lies at its offset in its block -/
theorem pp_ent (H : ga_IX (gd_CS L CC CB CN n EU EA EB) (gd_SE L CC CB CN EU EA EB n) g q) {u i : Nat} (hu : u < 4) (hi : i < CC u) :
    g (u * 8 + CN (u * 8 + i)) = g (32 + CB (u * 8 + i)) ∧ q (u * 8 + CN (u * 8 + i)) = q (32 + CB (u * 8 + i)) + nI (gd_off L CB CN u (CB (u * 8 + i)) i) :=
  (H.1 _ _ _ (Or.inl ⟨u, i, hu, hi, Or.inl hu, rfl, rfl, rfl⟩)).2.2
theorem pp_eqv (H : ga_IX (gd_CS L CC CB CN n EU EA EB) (gd_SE L CC CB CN EU EA EB n) g q) {e : Nat} (he : e < n) :
    g (EU e * 8 + fb_nm (EA e)) = g (EU e * 8 + fb_nm (EB e)) ∧ q (EU e * 8 + fb_nm (EA e)) = q (EU e * 8 + fb_nm (EB e)) + (nI (fb_ix (EB e)) - nI (fb_ix (EA e))) :=
  (H.1 _ _ _ (Or.inr ⟨e, he, rfl, rfl, rfl⟩)).2.2
theorem pp_end (H : ga_IX (gd_CS L CC CB CN n EU EA EB) (gd_SE L CC CB CN EU EA EB n) g q) (ha : ∀ k, k < 32 → al k = nI (L k)) (W : gd_WD L P CC CB CN n EU EA EB) {u i : Nat} (hu : u < 4) (hi : i < CC u) (e : CB (u * 8 + i) = b) :
    g (u * 8 + CN (u * 8 + i)) = g (32 + b) ∧ q (u * 8 + CN (u * 8 + i)) + al (u * 8 + CN (u * 8 + i)) - q (32 + b) = nI (gd_off L CB CN u b (i + 1)) := by
  obtain ⟨h1, h2⟩ := pp_ent H hu hi
  have c8 := W.2.2.1 u hu
  have n8 := (W.2.2.2.1 (u * 8 + i) (by omega)).2
  rw [e] at h1 h2
  refine ⟨h1, ?_⟩
  rw [po_t e, h2, ha _ (by omega), ← nI_add]
  grind
theorem pp_ge (H : ga_IX (gd_CS L CC CB CN n EU EA EB) (gd_SE L CC CB CN EU EA EB n) g q) (ha : ∀ k, k < 32 → al k = nI (L k)) (W : gd_WD L P CC CB CN n EU EA EB) : ∀ u, u ≤ 4 → nI (pm_mx L CC CB CN b u) ≤ fs_ext g q al b 32 := by
  intro u
  induction u with
  | zero => intro _; exact pe_0 32
  | succ u ih =>
    intro hu
    have c8 := W.2.2.1 u (by omega)
    show nI (max (pm_mx L CC CB CN b u) (gd_off L CB CN u b (CC u))) ≤ _
    by_cases c : gd_off L CB CN u b (CC u) ≤ pm_mx L CC CB CN b u
    · rw [Nat.max_eq_left c]
      exact ih (by omega)
    · rw [Nat.max_eq_right (by omega)]
      rcases po_last (L := L) (CB := CB) (CN := CN) (u := u) (b := b) (CC u) with z | ⟨i, hi, a, e⟩
      · omega
      · have n8 := (W.2.2.2.1 (u * 8 + i) (by omega)).2
        obtain ⟨h1, h2⟩ := pp_end H ha W (by omega) hi a
        have h3 := pe_ge (g := g) (q := q) (al := al) (b := b) h1 32 (by omega)
        rw [h2, po_t a, ← e] at h3
        exact h3
theorem pp_in (H : ga_IX (gd_CS L CC CB CN 0 EU EA EB) (gd_SE L CC CB CN EU EA EB 0) g q) (W : gd_WD L P CC CB CN 0 EU EA EB) (nj : ¬ gd_JB g) (hb : b < 4) {k : Nat} (hk : k < 32) (e : g k = g (32 + b)) :
    ∃ u i, u < 4 ∧ i < CC u ∧ CB (u * 8 + i) = b ∧ k = u * 8 + CN (u * 8 + i) := by
  have key := H.2.2.1 (fun z => z = 32 + b ∨ ∃ u i, u < 4 ∧ i < CC u ∧ CB (u * 8 + i) = b ∧ z = u * 8 + CN (u * 8 + i)) ?_ k (32 + b) (by omega) (by omega) e
  · rcases key.mpr (Or.inl rfl) with z | z
    · omega
    · exact z
  · intro x y d h
    rcases h with ⟨u, i, hu, hi, rfl, rfl, rfl⟩ | ⟨f, hf, _⟩
    · have c8 := W.2.2.1 u hu
      obtain ⟨b4, n8⟩ := W.2.2.2.1 (u * 8 + i) (by omega)
      by_cases c : CB (u * 8 + i) = b
      · exact ⟨fun _ => Or.inl (by rw [c]), fun _ => Or.inr ⟨u, i, hu, hi, c, rfl⟩⟩
      · constructor
        · rintro (z | ⟨u', i', hu', hi', c', z⟩)
          · omega
          · exfalso
            have h1 := (pp_ent H hu hi).1
            have h2 := (pp_ent H hu' hi').1
            rw [z, h2, c'] at h1
            rcases Nat.lt_or_gt_of_ne c with l | l
            · exact nj ⟨b, CB (u * 8 + i), l, hb, h1⟩
            · exact nj ⟨CB (u * 8 + i), b, l, b4, h1.symm⟩
        · rintro (z | ⟨u', i', hu', hi', c', z⟩)
          · omega
          · have c8' := W.2.2.1 u' hu'
            have n8' := (W.2.2.2.1 (u' * 8 + i') (by omega)).2
            omega
    · exact absurd hf (Nat.not_lt_zero f)
theorem pp_eq (H : ga_IX (gd_CS L CC CB CN 0 EU EA EB) (gd_SE L CC CB CN EU EA EB 0) g q) (ha : ∀ k, k < 32 → al k = nI (L k)) (W : gd_WD L P CC CB CN 0 EU EA EB) (nj : ¬ gd_JB g) (hb : b < 4) : fs_ext g q al b 32 = nI (pm_mx L CC CB CN b 4) := by
  have m1 := pm_128 (b := b) W 4 (Nat.le_refl 4)
  obtain ⟨e, e1, e2⟩ := pe_le (g := g) (q := q) (al := al) (b := b) (M := pm_mx L CC CB CN b 4) (fun k hk h => by
    obtain ⟨u, i, hu, hi, c, rfl⟩ := pp_in H W nj hb hk h
    refine ⟨_, ?_, (pp_end H ha W hu hi c).2⟩
    exact Nat.le_trans (po_mono (CC u) (by omega)) (pm_ge 4 hu)) 32 (Nat.le_refl 32)
  have h := pp_ge (b := b) H ha W 4 (Nat.le_refl 4)
  rw [e2] at h ⊢
  rw [nI_leI (by omega) (by omega)] at h
  rw [show e = pm_mx L CC CB CN b 4 by omega]
theorem pp_none (H : ga_IX (gd_CS L CC CB CN n EU EA EB) (gd_SE L CC CB CN EU EA EB n) g q) (W : gd_WD L P CC CB CN n EU EA EB) (h2 : ∀ i, i < 32 → CB i < 2) (b2 : 2 ≤ b) (hb : b < 4) : fs_ext g q al b 32 = 0 := by
  refine pe_no (fun k hk e => ?_) 32 (Nat.le_refl 32)
  have key := H.2.2.1 (fun z => z = 32 + b) ?_ k (32 + b) (by omega) (by omega) e
  · have := key.mpr rfl
    omega
  · intro x y d h
    rcases h with ⟨u, i, hu, hi, rfl, rfl, rfl⟩ | ⟨f, hf, rfl, rfl, rfl⟩
    · have c8 := W.2.2.1 u hu
      have n8 := (W.2.2.2.1 (u * 8 + i) (by omega)).2
      have := h2 (u * 8 + i) (by omega)
      constructor <;> intro z <;> omega
    · obtain ⟨a1, a2, a3⟩ := W.2.2.2.2.2 f hf
      have n1 := fb_nm8 (Or.inl a2)
      have n2 := fb_nm8 (Or.inl a3)
      constructor <;> intro z <;> omega
end PPU
end
section
section PCL
/-! the calls of the law, each against a plain fact -/
variable {sc oc ne ns ca on st ra xu xn xe xd : Int32} {al ap ac en eu ea eb sU sL sK sE sG sO gr po ec cx ou tc ss av cs cb cn : Nat → Int32}
variable {post : Int32 → Prop} {n u v m i e b c d : Nat}
theorem pq_cell {xs : Nat → Int32} {N p : Nat} (hN : N ≤ 260) (hp : p < 100000) (h : ∀ r, post r) : wpL_cell post N xs () (nI p) :=
  pk_le N p (fun _ => h _) (fun z => ⟨vp_in_nI z (by omega), h _⟩)
theorem pq_code {n i : Nat} (h : post (nI (10000 + 100 * n + i))) : wpL_code post () (nI n) (nI i) := by
  show post (nI 10000 + nI 100 * nI n + nI i)
  rw [pk_mul, nI_add, nI_add]
  exact h
theorem pq_len (D : fs_D al ap ac en cb cn eu ea eb n) (hu : u < 4) (hm : m < 8) (h : post (nI (fa_N al (u * 8 + m)))) : wpX_query post (sc, oc, ne, ns, ca, on, st, ra, xu, xn, xe, xd, al, ap, ac, en, eu, ea, eb, sU, sL, sK, sE, sG, sO, gr, po, ec, cx, ou, tc, ss, av, cs) 1 (nI u) (nI m) := by
  have l1 := (cn_A D (k := u * 8 + m) (by omega)).1
  refine br_f (by decide) (br_f (by decide) (br_t rfl ?_))
  refine hx_isUnit (fun _ => br_f (by decide) ?_) (fun z => absurd ⟨u, hu, rfl⟩ z)
  refine hx_isName (fun _ => br_f (by decide) ?_) (fun z => absurd ⟨m, hm, rfl⟩ z)
  rw [ha_us, nI_clamp (n := u * 8 + m) (by omega), l1]
  exact ⟨vp_in_nI (by omega) (by decide), h⟩
theorem pq_com (D : fs_D al ap ac en cb cn eu ea eb n) (hu : u < 4) (hi : i < fa_N ac u) (h : post (nI (fa_N cb (u * 8 + i) * 8 + fa_N cn (u * 8 + i)))) : wpX_query post (sc, oc, ne, ns, ca, on, st, ra, xu, xn, xe, xd, al, ap, ac, en, eu, ea, eb, sU, sL, sK, sE, sG, sO, gr, po, ec, cx, ou, tc, ss, av, cs) 3 (nI u) (nI i) := by
  obtain ⟨c1, c2⟩ := cn_C D hu
  have l1 := (cn_I D (i := u * 8 + i) (by omega)).2.2
  refine br_f (by decide) (br_f (by decide) (br_f (by decide) (br_f (by decide) (br_t rfl ?_))))
  unfold wpX_entryAt
  dsimp only
  refine hx_isUnit (fun _ => br_f (by decide) ?_) (fun z => absurd ⟨u, hu, rfl⟩ z)
  refine br_f (nI_pos (by omega)) ⟨vp_in_nI hu (by decide), ?_⟩
  rw [nI_clamp (n := u) (by omega), c1, ha_us, nI_clamp (n := u * 8 + i) (by omega), l1]
  exact br_t (nI_lt hi (by omega)) ⟨vp_in_nI (by omega) (by decide), h⟩
theorem pq_com0 (D : fs_D al ap ac en cb cn eu ea eb n) (hu : u < 4) (hi : i = fa_N ac u) (h : post (-1)) : wpX_query post (sc, oc, ne, ns, ca, on, st, ra, xu, xn, xe, xd, al, ap, ac, en, eu, ea, eb, sU, sL, sK, sE, sG, sO, gr, po, ec, cx, ou, tc, ss, av, cs) 3 (nI u) (nI i) := by
  obtain ⟨c1, c2⟩ := cn_C D hu
  refine br_f (by decide) (br_f (by decide) (br_f (by decide) (br_f (by decide) (br_t rfl ?_))))
  unfold wpX_entryAt
  dsimp only
  refine hx_isUnit (fun _ => br_f (by decide) ?_) (fun z => absurd ⟨u, hu, rfl⟩ z)
  refine br_f (nI_pos (by omega)) ⟨vp_in_nI hu (by decide), ?_⟩
  rw [nI_clamp (n := u) (by omega), c1]
  exact br_f (nI_nlt (by omega) (by omega)) h
theorem pq_eq0 (hn : n ≤ 16) (he : e < n) (h : post (eu e)) : wpX_query post (sc, oc, nI n, ns, ca, on, st, ra, xu, xn, xe, xd, al, ap, ac, en, eu, ea, eb, sU, sL, sK, sE, sG, sO, gr, po, ec, cx, ou, tc, ss, av, cs) 4 (nI e) 0 := by
  refine br_f (by decide) (br_f (by decide) (br_f (by decide) (br_f (by decide) (br_f (by decide) (br_t rfl ?_)))))
  refine br_f (nI_pos (by omega)) (br_t (nI_lt he (by omega)) (br_f (by decide) (br_f (by decide) (br_t rfl ⟨vp_in_nI (by omega) (by decide), ?_⟩))))
  rw [nI_clamp (n := e) (by omega)]
  exact h
theorem pq_eq1 (hn : n ≤ 16) (he : e < n) (h : post (ea e)) : wpX_query post (sc, oc, nI n, ns, ca, on, st, ra, xu, xn, xe, xd, al, ap, ac, en, eu, ea, eb, sU, sL, sK, sE, sG, sO, gr, po, ec, cx, ou, tc, ss, av, cs) 4 (nI e) 1 := by
  refine br_f (by decide) (br_f (by decide) (br_f (by decide) (br_f (by decide) (br_f (by decide) (br_t rfl ?_)))))
  refine br_f (nI_pos (by omega)) (br_t (nI_lt he (by omega)) (br_f (by decide) (br_f (by decide) (br_f (by decide) (br_t rfl ⟨vp_in_nI (by omega) (by decide), ?_⟩)))))
  rw [nI_clamp (n := e) (by omega)]
  exact h
theorem pq_eq2 (hn : n ≤ 16) (he : e < n) (h : post (eb e)) : wpX_query post (sc, oc, nI n, ns, ca, on, st, ra, xu, xn, xe, xd, al, ap, ac, en, eu, ea, eb, sU, sL, sK, sE, sG, sO, gr, po, ec, cx, ou, tc, ss, av, cs) 4 (nI e) 2 := by
  refine br_f (by decide) (br_f (by decide) (br_f (by decide) (br_f (by decide) (br_f (by decide) (br_t rfl ?_)))))
  refine br_f (nI_pos (by omega)) (br_t (nI_lt he (by omega)) (br_f (by decide) (br_f (by decide) (br_f (by decide) (br_f (by decide) (br_t rfl ⟨vp_in_nI (by omega) (by decide), ?_⟩))))))
  rw [nI_clamp (n := e) (by omega)]
  exact h
theorem pq_eqN (hn : n ≤ 16) (h : post (-1)) : wpX_query post (sc, oc, nI n, ns, ca, on, st, ra, xu, xn, xe, xd, al, ap, ac, en, eu, ea, eb, sU, sL, sK, sE, sG, sO, gr, po, ec, cx, ou, tc, ss, av, cs) 4 (nI n) 0 :=
  br_f (by decide) (br_f (by decide) (br_f (by decide) (br_f (by decide) (br_f (by decide) (br_t rfl (br_f (nI_pos (by omega)) (br_f (nI_nlt (Nat.le_refl n) (by omega)) h)))))))
theorem pq_ext (hb : b < 4) (h : post (fs_ext gr po al b 32)) : wpX_query post (sc, oc, ne, ns, 1, on, st, ra, xu, xn, xe, xd, al, ap, ac, en, eu, ea, eb, sU, sL, sK, sE, sG, sO, gr, po, ec, cx, ou, tc, ss, av, cs) 8 (nI b) 0 := by
  refine br_f (by decide) (br_f (by decide) (br_f (by decide) (br_f (by decide) (br_f (by decide) (br_f (by decide) (br_f (by decide) (br_f (by decide) (br_f (by decide) (br_t rfl ?_)))))))))
  refine hx_isBlock (fun _ => br_f (by decide) (br_t rfl ?_)) (fun z => absurd ⟨b, hb, rfl⟩ z)
  exact ca_ext hb h
theorem pq_ext0 (hc : ¬ ca = 1) (h : post (-1)) : wpX_query post (sc, oc, ne, ns, ca, on, st, ra, xu, xn, xe, xd, al, ap, ac, en, eu, ea, eb, sU, sL, sK, sE, sG, sO, gr, po, ec, cx, ou, tc, ss, av, cs) 8 0 0 := by
  refine br_f (by decide) (br_f (by decide) (br_f (by decide) (br_f (by decide) (br_f (by decide) (br_f (by decide) (br_f (by decide) (br_f (by decide) (br_f (by decide) (br_t rfl ?_)))))))))
  exact hx_isBlock (fun _ => br_f (by decide) (br_f hc h)) (fun _ => br_t rfl h)
theorem pq_al0 {p0 p1 p2 p3 : Int32} (hc : ¬ ca = 1) (h : post 0) : wpX_aliased post (sc, oc, ne, ns, ca, on, st, ra, xu, xn, xe, xd, al, ap, ac, en, eu, ea, eb, sU, sL, sK, sE, sG, sO, gr, po, ec, cx, ou, tc, ss, av, cs) p0 p1 p2 p3 := br_f hc h
/-- what stands after compile has answered C_OK -/
def pc_K (al ap ac en cb cn eu ea eb gr po ec : Nat → Int32) (n : Nat) : Prop :=
  fs_D al ap ac en cb cn eu ea eb n ∧ (∀ u, u < 4 → ap u = 0) ∧ (∀ i, i < 32 → fa_N cb i < 2) ∧
  ga_IX (gd_CS (fa_N al) (fa_N ac) (fa_N cb) (fa_N cn) n (fa_N eu) (fa_N ea) (fa_N eb)) (gd_SE (fa_N al) (fa_N ac) (fa_N cb) (fa_N cn) (fa_N eu) (fa_N ea) (fa_N eb) n) gr po ∧ ¬ gd_JB gr ∧
  (∀ k i, k < 32 → 1 ≤ i → i ≤ fa_N al k → ∃ e, gb_Fst gr po (fa_N al) k i e ∧ ec (k * 16 + i - 1) = nI e)
theorem pq_al1 (K : pc_K al ap ac en cb cn eu ea eb gr po ec n) {c c' : Nat} (hu : u < 4) (hv : v < 4) (hc : fb_FX c) (hc' : fb_FX c') (hi : fb_ix c ≤ fa_N al (u * 8 + fb_nm c)) (hi' : fb_ix c' ≤ fa_N al (v * 8 + fb_nm c'))
    (e1 : gr (u * 8 + fb_nm c) = gr (v * 8 + fb_nm c')) (e2 : po (u * 8 + fb_nm c) + nI (fb_ix c) = po (v * 8 + fb_nm c') + nI (fb_ix c')) (h : post 1) : wpX_aliased post (sc, oc, ne, ns, 1, on, st, ra, xu, xn, xe, xd, al, ap, ac, en, eu, ea, eb, sU, sL, sK, sE, sG, sO, gr, po, ec, cx, ou, tc, ss, av, cs) (nI u) (nI c) (nI v) (nI c') := by
  obtain ⟨D, hp, _, _, _, hk⟩ := K
  have s : ∀ w, w < 4 → ∀ m, ¬ m < fa_N ap w := fun w hw m z => by
    have : fa_N ap w = 0 := fa_Re (hp w hw) (by decide)
    omega
  have n1 := fb_nm8 (Or.inl hc)
  have n2 := fb_nm8 (Or.inl hc')
  obtain ⟨f, f1, f2⟩ := hk (u * 8 + fb_nm c) (fb_ix c) (by omega) (fb_ix1 c) hi
  obtain ⟨f', f1', f2'⟩ := hk (v * 8 + fb_nm c') (fb_ix c') (by omega) (fb_ix1 c') hi'
  have ef : f = f' := (gb_fst_iff f1 f1').mpr ⟨e1, e2⟩
  have lf := gb_fst_lt f1
  refine br_t rfl ?_
  refine rd_x1 D hu hc (s u hu _) hi ?_
  refine rd_x1 D hv hc' (s v hv _) hi' ?_
  rw [f2, f2', ef]
  exact br_f (fa_m1 (by omega)) (br_t rfl h)
theorem pc_fx {n i : Nat} (hn : n < 8) (i1 : 1 ≤ i) (hi : i ≤ 16) : fb_FX (10000 + 100 * n + i) ∧ fb_nm (10000 + 100 * n + i) = n ∧ fb_ix (10000 + 100 * n + i) = i := by
  refine ⟨?_, ?_, ?_⟩
  · unfold fb_FX
    omega
  · unfold fb_nm
    omega
  · unfold fb_ix
    rw [if_neg (by omega)]
    omega
/-- one pair of elements by name and index -/
theorem pq_al (K : pc_K al ap ac en cb cn eu ea eb gr po ec n) {m m' i j : Nat} (hu : u < 4) (hv : v < 4) (hm : m < 8) (hm' : m' < 8) (i1 : 1 ≤ i) (il : i ≤ fa_N al (u * 8 + m)) (j1 : 1 ≤ j) (jl : j ≤ fa_N al (v * 8 + m'))
    (e1 : gr (u * 8 + m) = gr (v * 8 + m')) (e2 : po (u * 8 + m) + nI i = po (v * 8 + m') + nI j) (h : post 1) : wpX_aliased post (sc, oc, ne, ns, 1, on, st, ra, xu, xn, xe, xd, al, ap, ac, en, eu, ea, eb, sU, sL, sK, sE, sG, sO, gr, po, ec, cx, ou, tc, ss, av, cs) (nI u) (nI (10000 + 100 * m + i)) (nI v) (nI (10000 + 100 * m' + j)) := by
  have l1 := (cn_A K.1 (k := u * 8 + m) (by omega)).2.2
  have l2 := (cn_A K.1 (k := v * 8 + m') (by omega)).2.2
  obtain ⟨a1, a2, a3⟩ := pc_fx hm i1 (by omega)
  obtain ⟨b1, b2, b3⟩ := pc_fx hm' j1 (by omega)
  refine pq_al1 K hu hv a1 b1 ?_ ?_ ?_ ?_ h
  · rw [a2, a3]; exact il
  · rw [b2, b3]; exact jl
  · rw [a2, b2]; exact e1
  · rw [a2, b2, a3, b3]; exact e2
theorem pq_comp {P : Int32 → St2 → Prop} (D : fs_D al ap ac en cb cn eu ea eb n) (hp : ∀ u, u < 4 → ap u = 0) (h2 : ∀ i, i < 32 → fa_N cb i < 2) (h0 : ∀ (r : Int32) (gr po : Nat → Int32), ¬ r = 1 → P r (sc, oc, nI n, nI 0, r, on, st, ra, xu, xn, xe, xd, al, ap, ac, en, eu, ea, eb, sU, sL, sK, sE, sG, sO, gr, po, ec, cx, ou, tc, ss, av, cs))
    (h1 : ∀ gr po ec : Nat → Int32, pc_K al ap ac en cb cn eu ea eb gr po ec n → P 1 (sc, oc, nI n, nI 0, 1, on, st, ra, xu, xn, xe, xd, al, ap, ac, en, eu, ea, eb, sU, sL, sK, sE, sG, sO, gr, po, ec, cx, ou, tc, ss, av, cs)) : wpX_compile P (sc, oc, nI n, nI 0, 0, on, st, ra, xu, xn, xe, xd, al, ap, ac, en, eu, ea, eb, sU, sL, sK, sE, sG, sO, gr, po, ec, cx, ou, tc, ss, av, cs) := by
  refine br_t rfl ?_
  refine ck_x (n := 0) (f := True) (Nat.zero_le 64) (fun s hs => absurd hs (Nat.not_lt_zero s)) D (fun _ => br_f (by decide) (h0 2 gr po (by decide))) (fun _ _ => br_f (by decide) (h0 3 gr po (by decide))) (fun _ _ _ => br_f (by decide) (h0 4 gr po (by decide))) (fun _ _ _ _ gr' po' => br_f (by decide) (h0 5 gr' po' (by decide)))
    (fun _ _ _ gr' po' H => ⟨fun _ => br_f (by decide) (h0 5 gr' po' (by decide)), fun _ _ => br_f (by decide) (h0 6 gr' po' (by decide)), fun _ _ _ => br_f (by decide) (h0 7 gr' po' (by decide)), fun _ _ _ _ => br_f (by decide) (h0 8 gr' po' (by decide)), fun j _ _ _ => br_t rfl ?_⟩)
  exact ca_cells D.1 (fun ec' hec => h1 gr' po' ec' ⟨D, hp, h2, H, j, hec⟩)
end PCL
end
section
section PEX
/-! the law's last loops: the extents -/
variable {sc oc ne ns ca on st ra xu xn xe xd : Int32} {al ap ac en eu ea eb sU sL sK sE sG sO gr po ec cx ou tc ss av cs cb cn : Nat → Int32}
variable {post : Int32 → Prop} {xs : Nat → Int32} {N kc ks n u b m : Nat}
theorem pw_907 {J883 : Int32 → Prop} {J895 : Int32 → Int32 → Prop} {x6 : Int32} (K : pc_K al ap ac en cb cn eu ea eb gr po ec n) (hu : u < 4) (hb : b < 4) (hm : m ≤ 1000) (h : J895 (nI (max m (gd_off (fa_N al) (fa_N cb) (fa_N cn) u b (fa_N ac u)))) (nI (u + 1))) :
    ∀ d i, i + d = fa_N ac u → wL_law_907 post N xs J883 J895 x6 (nI b) (nI u) kc ks sc oc (nI n) ns 1 on st ra xu xn xe xd al ap ac en eu ea eb sU sL sK sE sG sO gr po ec cx ou tc ss av cs (d + 1) (nI (max m (gd_off (fa_N al) (fa_N cb) (fa_N cn) u b i))) (nI (gd_off (fa_N al) (fa_N cb) (fa_N cn) u b i)) (nI i) := by
  have D := K.1
  have W := fs_wd D
  have c8 := (cn_C D hu).2
  intro d
  induction d with
  | zero =>
    intro i hi
    have e : i = fa_N ac u := by omega
    refine pk_le 8 i (fun _ => nm_r (nI_1 u) ?_) (fun z => pq_com0 D hu e (br_f (by decide) (nm_r (nI_1 u) ?_)))
    · rw [e]; exact h
    · rw [e]; exact h
  | succ d ih =>
    intro i hi
    have go := ih (i + 1) (by omega)
    obtain ⟨⟨_, b4⟩, ⟨_, n8⟩, _⟩ := cn_I D (i := u * 8 + i) (by omega)
    have o1 := po_128 (b := b) W hu (i := i) (by omega)
    have o2 := po_128 (b := b) W hu (i := i + 1) (by omega)
    refine br_f (nI_ge (b := 8) (by omega) (by decide)) (pq_com D hu (by omega) (br_t (nI_pos' (by omega)) ⟨by decide, ?_⟩))
    rw [ha_r8 (by omega), ha_d8 (by omega), show (fa_N cb (u * 8 + i) * 8 + fa_N cn (u * 8 + i)) / 8 = fa_N cb (u * 8 + i) by omega, show (fa_N cb (u * 8 + i) * 8 + fa_N cn (u * 8 + i)) % 8 = fa_N cn (u * 8 + i) by omega]
    refine pk_eq (fa_N cb (u * 8 + i)) b (fun z => ⟨by decide, ?_⟩) (fun z => nm_r (nI_1 i) ?_)
    · have ot := po_t (L := fa_N al) (CN := fa_N cn) z
      refine pq_len D hu n8 (nm_r (show _ = nI (gd_off (fa_N al) (fa_N cb) (fa_N cn) u b (i + 1)) by rw [nI_add, ot]) (pk_le (gd_off (fa_N al) (fa_N cb) (fa_N cn) u b (i + 1)) (max m (gd_off (fa_N al) (fa_N cb) (fa_N cn) u b i)) (fun y => nm_r (nI_1 i) ?_) (fun y => nm_r (nI_1 i) ?_)))
      · rw [show max m (gd_off (fa_N al) (fa_N cb) (fa_N cn) u b (i + 1)) = max m (gd_off (fa_N al) (fa_N cb) (fa_N cn) u b i) by omega] at go
        exact go
      · rw [show max m (gd_off (fa_N al) (fa_N cb) (fa_N cn) u b (i + 1)) = gd_off (fa_N al) (fa_N cb) (fa_N cn) u b (i + 1) by omega] at go
        exact go
    · rw [po_f z] at go
      exact go
theorem pw_895 {J883 : Int32 → Prop} (K : pc_K al ap ac en cb cn eu ea eb gr po ec n) (hb : b < 4) (h : J883 (nI (b + 1))) : ∀ d u, u + d = 4 → wL_law_895 post N xs J883 (nI n) (nI b) kc ks sc oc (nI n) ns 1 on st ra xu xn xe xd al ap ac en eu ea eb sU sL sK sE sG sO gr po ec cx ou tc ss av cs (d + 1) (nI (pm_mx (fa_N al) (fa_N ac) (fa_N cb) (fa_N cn) b u)) (nI u) := by
  obtain ⟨D, hp, h2, H, nj, hk⟩ := K
  have W := fs_wd D
  have n16 := D.2.2.2.2.2.1
  intro d
  induction d with
  | zero =>
    intro u hu
    have e : u = 4 := by omega
    subst e
    refine br_t (by decide) (pq_ext hb (pk_eq n 0 (fun z => ?_) (fun z => br_t (pp_ge H (fun k hk => (cn_A D hk).1) W 4 (Nat.le_refl 4)) (pk_lt b 2 (fun _ => nm_r (nI_1 b) h) (fun y => br_t (pp_none H W h2 y hb) (nm_r (nI_1 b) h))))))
    subst z
    exact br_t (pp_eq H (fun k hk => (cn_A D hk).1) W nj hb) (nm_r (nI_1 b) h)
  | succ d ih =>
    intro u hu
    have go := ih (u + 1) (by omega)
    have m1 := pm_128 (b := b) W u (by omega)
    have a := pw_907 (post := post) (xs := xs) (N := N) (kc := kc) (ks := ks) (J883 := J883) (J895 := wL_law_895 post N xs J883 (nI n) (nI b) kc ks sc oc (nI n) ns 1 on st ra xu xn xe xd al ap ac en eu ea eb sU sL sK sE sG sO gr po ec cx ou tc ss av cs (d + 1)) (x6 := nI n) (sc := sc) (oc := oc) (ns := ns) (on := on) (st := st) (ra := ra) (xu := xu) (xn := xn) (xe := xe) (xd := xd) (al := al) (ap := ap) (ac := ac) (en := en) (eu := eu) (ea := ea) (eb := eb) (sU := sU) (sL := sL) (sK := sK) (sE := sE) (sG := sG) (sO := sO) (gr := gr) (po := po) (ec := ec) (cx := cx) (ou := ou) (tc := tc) (ss := ss) (av := av) (cs := cs) (m := pm_mx (fa_N al) (fa_N ac) (fa_N cb) (fa_N cn) b u) ⟨D, hp, h2, H, nj, hk⟩ (u := u) (b := b) (by omega) hb (by omega) go (fa_N ac u) 0 (by omega)
    rw [show max (pm_mx (fa_N al) (fa_N ac) (fa_N cb) (fa_N cn) b u) (gd_off (fa_N al) (fa_N cb) (fa_N cn) u b 0) = pm_mx (fa_N al) (fa_N ac) (fa_N cb) (fa_N cn) b u from Nat.max_eq_left (Nat.zero_le _)] at a
    exact br_f (nI_ge (b := 4) (by omega) (by decide)) ⟨_, a⟩
theorem pw_883 (K : pc_K al ap ac en cb cn eu ea eb gr po ec n) (h : post 1) : ∀ d b, b + d = 4 → wL_law_883 post N xs (nI n) kc ks sc oc (nI n) ns 1 on st ra xu xn xe xd al ap ac en eu ea eb sU sL sK sE sG sO gr po ec cx ou tc ss av cs (d + 1) (nI b) := by
  intro d
  induction d with
  | zero =>
    intro b hb
    have e : b = 4 := by omega
    subst e
    exact br_t (by decide) h
  | succ d ih =>
    intro b hb
    exact br_f (nI_ge (b := 4) (by omega) (by decide)) ⟨4 + 1, pw_895 K (by omega) (ih (b + 1) (by omega)) 4 0 rfl⟩
end PEX
end
section
section PCO
/-! the law's loops over pairs of COMMON entries -/
variable {sc oc ne ns ca on st ra xu xn xe xd : Int32} {al ap ac en eu ea eb sU sL sK sE sG sO gr po ec cx ou tc ss av cs cb cn : Nat → Int32}
variable {post : Int32 → Prop} {xs : Nat → Int32} {N kc ks n u v x y b : Nat} {x6 : Int32} {J526 J535 J646 J655 : Int32 → Prop}
/-- two entries of one block -/
def pc_P (al ac cb cn : Nat → Int32) (u x v y b : Nat) : Prop := u < 4 ∧ x < fa_N ac u ∧ v < 4 ∧ y < fa_N ac v ∧ fa_N cb (u * 8 + x) = b ∧ fa_N cb (v * 8 + y) = b
theorem pw_772 (K : pc_K al ap ac en cb cn eu ea eb gr po ec n) (hP : pc_P al ac cb cn u x v y b) (h : J655 (nI (y + 1))) : ∀ d q, q + d = 48 →
    wL_law_772 post N xs J526 J535 J646 J655 x6 (nI u) (nI x) (nI b) (nI (fa_N cn (u * 8 + x))) (nI (fa_N al (u * 8 + fa_N cn (u * 8 + x)))) (nI (gd_off (fa_N al) (fa_N cb) (fa_N cn) u b x)) (nI v) (nI y) (nI (fa_N cn (v * 8 + y))) (nI (fa_N al (v * 8 + fa_N cn (v * 8 + y)))) (nI (gd_off (fa_N al) (fa_N cb) (fa_N cn) v b y)) kc ks sc oc (nI n) ns 1 on st ra xu xn xe xd al ap ac en eu ea eb sU sL sK sE sG sO gr po ec cx ou tc ss av cs (d + 1) (nI q) := by
  obtain ⟨hu, hx, hv, hy, eb1, eb2⟩ := hP
  have D := K.1
  have W := fs_wd D
  have H := K.2.2.2.1
  have c1 := (cn_C D hu).2
  have c2 := (cn_C D hv).2
  obtain ⟨_, ⟨_, n1⟩, _⟩ := cn_I D (i := u * 8 + x) (by omega)
  obtain ⟨_, ⟨_, n2⟩, _⟩ := cn_I D (i := v * 8 + y) (by omega)
  obtain ⟨_, p1, q1⟩ := cn_A D (k := u * 8 + fa_N cn (u * 8 + x)) (by omega)
  obtain ⟨_, p2, q2⟩ := cn_A D (k := v * 8 + fa_N cn (v * 8 + y)) (by omega)
  have o1 := po_128 (b := b) W hu (i := x) (by omega)
  have o2 := po_128 (b := b) W hv (i := y) (by omega)
  have key : ∀ (P : Int32 → Prop) (i j : Nat), 1 ≤ i → i ≤ fa_N al (u * 8 + fa_N cn (u * 8 + x)) → 1 ≤ j → j ≤ fa_N al (v * 8 + fa_N cn (v * 8 + y)) → gd_off (fa_N al) (fa_N cb) (fa_N cn) u b x + i = gd_off (fa_N al) (fa_N cb) (fa_N cn) v b y + j → P 1 →
      wpX_aliased P (sc, oc, nI n, ns, 1, on, st, ra, xu, xn, xe, xd, al, ap, ac, en, eu, ea, eb, sU, sL, sK, sE, sG, sO, gr, po, ec, cx, ou, tc, ss, av, cs) (nI u) (nI (10000 + 100 * fa_N cn (u * 8 + x) + i)) (nI v) (nI (10000 + 100 * fa_N cn (v * 8 + y) + j)) := by
    intro P i j i1 il j1 jl e hP
    obtain ⟨g1, g2⟩ := pp_ent H hu hx
    obtain ⟨g3, g4⟩ := pp_ent H hv hy
    rw [eb1] at g1 g2
    rw [eb2] at g3 g4
    refine pq_al K hu hv n1 n2 i1 il j1 jl (g1.trans g3.symm) ?_ hP
    rw [g2, g4, Int32.add_assoc, Int32.add_assoc, nI_add, nI_add, e]
  clear W H
  generalize fa_N cn (u * 8 + x) = m1 at *
  generalize fa_N cn (v * 8 + y) = m2 at *
  generalize fa_N al (u * 8 + m1) = l1 at *
  generalize fa_N al (v * 8 + m2) = l2 at *
  generalize gd_off (fa_N al) (fa_N cb) (fa_N cn) u b x = f1 at *
  generalize gd_off (fa_N al) (fa_N cb) (fa_N cn) v b y = f2 at *
  intro d
  induction d with
  | zero =>
    intro q hq
    have e : q = 48 := by omega
    subst e
    exact br_t (by decide) (nm_r (nI_1 y) h)
  | succ d ih =>
    intro q hq
    have go := ih (q + 1) (by omega)
    refine br_f (nI_ge (b := 48) (by omega) (by decide)) ?_
    by_cases a : q < f1
    · exact nm_e (nm_e (br_t (pn_neg a (by omega)) (nm_r (nI_1 q) go)))
    · refine nm_r (pn_sub (by omega)) ?_
      by_cases c : q < f2
      · exact nm_e (br_f (nI_nlt (b := 1) (by omega) (by omega)) (pk_lt l1 (q - f1 + 1) (fun _ => nm_r (nI_1 q) go) (fun _ => br_t (pn_neg c (by omega)) (nm_r (nI_1 q) go))))
      · refine nm_r (pn_sub (by omega)) (br_f (nI_nlt (b := 1) (by omega) (by omega)) (pk_lt l1 (q - f1 + 1) (fun _ => nm_r (nI_1 q) go) (fun z1 => br_f (nI_nlt (b := 1) (by omega) (by omega)) (pk_lt l2 (q - f2 + 1) (fun _ => nm_r (nI_1 q) go) (fun z2 => pq_code (pq_code ?_))))))
        exact key _ _ _ (by omega) z1 (by omega) z2 (by omega) (br_f (by decide) (nm_r (nI_1 q) go))
theorem pw_718 {x8 x11 x12 x13 x17 x18 : Int32} (K : pc_K al ap ac en cb cn eu ea eb gr po ec n) (hv : v < 4) (hy : y ≤ fa_N ac v) (hb : b < 4) (h : ∃ f, wL_law_772 post N xs J526 J535 J646 J655 x6 (nI u) x8 (nI b) x11 x12 x13 (nI v) (nI y) x17 x18 (nI (gd_off (fa_N al) (fa_N cb) (fa_N cn) v b y)) kc ks sc oc (nI n) ns 1 on st ra xu xn xe xd al ap ac en eu ea eb sU sL sK sE sG sO gr po ec cx ou tc ss av cs f 0) : ∀ d i, i + d = y →
    wL_law_718 post N xs J526 J535 J646 J655 x6 (nI u) x8 (nI b) x11 x12 x13 (nI v) (nI y) x17 x18 kc ks sc oc (nI n) ns 1 on st ra xu xn xe xd al ap ac en eu ea eb sU sL sK sE sG sO gr po ec cx ou tc ss av cs (d + 1) (nI (gd_off (fa_N al) (fa_N cb) (fa_N cn) v b i)) (nI i) := by
  have D := K.1
  have c8 := (cn_C D hv).2
  intro d
  induction d with
  | zero =>
    intro i hi
    have e : i = y := by omega
    subst e
    exact br_t (nI_le (Nat.le_refl i) (by omega)) h
  | succ d ih =>
    intro i hi
    have go := ih (i + 1) (by omega)
    obtain ⟨⟨_, b4⟩, ⟨_, n8⟩, _⟩ := cn_I D (i := v * 8 + i) (by omega)
    refine br_f (nI_ge (by omega) (by omega)) (pq_com D hv (by omega) ⟨by decide, ?_⟩)
    rw [ha_r8 (by omega), ha_d8 (by omega), show (fa_N cb (v * 8 + i) * 8 + fa_N cn (v * 8 + i)) / 8 = fa_N cb (v * 8 + i) by omega, show (fa_N cb (v * 8 + i) * 8 + fa_N cn (v * 8 + i)) % 8 = fa_N cn (v * 8 + i) by omega]
    refine pk_eq (fa_N cb (v * 8 + i)) b (fun z => ⟨by decide, ?_⟩) (fun z => nm_r (nI_1 i) ?_)
    · have ot := po_t (L := fa_N al) (CN := fa_N cn) z
      exact pq_len D hv n8 (nm_r (show _ = nI (gd_off (fa_N al) (fa_N cb) (fa_N cn) v b (i + 1)) by rw [nI_add, ot]) (nm_r (nI_1 i) go))
    · rw [po_f z] at go
      exact go
theorem pw_592 {x11 x12 : Int32} (K : pc_K al ap ac en cb cn eu ea eb gr po ec n) (hu : u < 4) (hx : x ≤ fa_N ac u) (hb : b < 4) (h : ∃ f, wL_law_646 post N xs J526 J535 x6 (nI u) (nI x) (nI b) x11 x12 (nI (gd_off (fa_N al) (fa_N cb) (fa_N cn) u b x)) kc ks sc oc (nI n) ns 1 on st ra xu xn xe xd al ap ac en eu ea eb sU sL sK sE sG sO gr po ec cx ou tc ss av cs f 0) : ∀ d i, i + d = x →
    wL_law_592 post N xs J526 J535 x6 (nI u) (nI x) (nI b) x11 x12 kc ks sc oc (nI n) ns 1 on st ra xu xn xe xd al ap ac en eu ea eb sU sL sK sE sG sO gr po ec cx ou tc ss av cs (d + 1) (nI (gd_off (fa_N al) (fa_N cb) (fa_N cn) u b i)) (nI i) := by
  have D := K.1
  have c8 := (cn_C D hu).2
  intro d
  induction d with
  | zero =>
    intro i hi
    have e : i = x := by omega
    subst e
    exact br_t (nI_le (Nat.le_refl i) (by omega)) h
  | succ d ih =>
    intro i hi
    have go := ih (i + 1) (by omega)
    obtain ⟨⟨_, b4⟩, ⟨_, n8⟩, _⟩ := cn_I D (i := u * 8 + i) (by omega)
    refine br_f (nI_ge (by omega) (by omega)) (pq_com D hu (by omega) ⟨by decide, ?_⟩)
    rw [ha_r8 (by omega), ha_d8 (by omega), show (fa_N cb (u * 8 + i) * 8 + fa_N cn (u * 8 + i)) / 8 = fa_N cb (u * 8 + i) by omega, show (fa_N cb (u * 8 + i) * 8 + fa_N cn (u * 8 + i)) % 8 = fa_N cn (u * 8 + i) by omega]
    refine pk_eq (fa_N cb (u * 8 + i)) b (fun z => ⟨by decide, ?_⟩) (fun z => nm_r (nI_1 i) ?_)
    · have ot := po_t (L := fa_N al) (CN := fa_N cn) z
      exact pq_len D hu n8 (nm_r (show _ = nI (gd_off (fa_N al) (fa_N cb) (fa_N cn) u b (i + 1)) by rw [nI_add, ot]) (nm_r (nI_1 i) go))
    · rw [po_f z] at go
      exact go
theorem pw_655 (K : pc_K al ap ac en cb cn eu ea eb gr po ec n) (hu : u < 4) (hx : x < fa_N ac u) (hb : fa_N cb (u * 8 + x) = b) (hv : v < 4) (h : J646 (nI (v + 1))) : ∀ d y, y + d = fa_N ac v →
    wL_law_655 post N xs J526 J535 J646 x6 (nI u) (nI x) (nI b) (nI (fa_N cn (u * 8 + x))) (nI (fa_N al (u * 8 + fa_N cn (u * 8 + x)))) (nI (gd_off (fa_N al) (fa_N cb) (fa_N cn) u b x)) (nI v) kc ks sc oc (nI n) ns 1 on st ra xu xn xe xd al ap ac en eu ea eb sU sL sK sE sG sO gr po ec cx ou tc ss av cs (d + 1) (nI y) := by
  have D := K.1
  have c8 := (cn_C D hv).2
  have d8 := (cn_C D hu).2
  have b4 : b < 4 := by
    rw [← hb]
    exact (cn_I D (i := u * 8 + x) (by omega)).1.2
  intro d
  induction d with
  | zero =>
    intro y hy
    have e : y = fa_N ac v := by omega
    exact pk_le 8 y (fun _ => nm_r (nI_1 v) h) (fun _ => pq_com0 D hv e (br_f (by decide) (nm_r (nI_1 v) h)))
  | succ d ih =>
    intro y hy
    have go := ih (y + 1) (by omega)
    obtain ⟨⟨_, c4⟩, ⟨_, n8⟩, _⟩ := cn_I D (i := v * 8 + y) (by omega)
    refine br_f (nI_ge (b := 8) (by omega) (by decide)) (pq_com D hv (by omega) (br_t (nI_pos' (by omega)) ⟨by decide, ?_⟩))
    rw [ha_r8 (by omega), ha_d8 (by omega), show (fa_N cb (v * 8 + y) * 8 + fa_N cn (v * 8 + y)) / 8 = fa_N cb (v * 8 + y) by omega, show (fa_N cb (v * 8 + y) * 8 + fa_N cn (v * 8 + y)) % 8 = fa_N cn (v * 8 + y) by omega]
    refine pk_eq (fa_N cb (v * 8 + y)) b (fun z => ⟨by decide, ?_⟩) (fun z => nm_r (nI_1 y) go)
    refine nm_e (pq_len D hv n8 ⟨y + 1, ?_⟩)
    exact pw_718 K hv (by omega) b4 ⟨48 + 1, pw_772 K ⟨hu, hx, hv, by omega, hb, z⟩ go 48 0 rfl⟩ y 0 (by omega)
theorem pw_646 (K : pc_K al ap ac en cb cn eu ea eb gr po ec n) (hu : u < 4) (hx : x < fa_N ac u) (hb : fa_N cb (u * 8 + x) = b) (h : J535 (nI (x + 1))) : ∀ d v, v + d = 4 →
    wL_law_646 post N xs J526 J535 x6 (nI u) (nI x) (nI b) (nI (fa_N cn (u * 8 + x))) (nI (fa_N al (u * 8 + fa_N cn (u * 8 + x)))) (nI (gd_off (fa_N al) (fa_N cb) (fa_N cn) u b x)) kc ks sc oc (nI n) ns 1 on st ra xu xn xe xd al ap ac en eu ea eb sU sL sK sE sG sO gr po ec cx ou tc ss av cs (d + 1) (nI v) := by
  intro d
  induction d with
  | zero =>
    intro v hv
    have e : v = 4 := by omega
    subst e
    exact br_t (by decide) (nm_r (nI_1 x) h)
  | succ d ih =>
    intro v hv
    exact br_f (nI_ge (b := 4) (by omega) (by decide)) ⟨fa_N ac v + 1, pw_655 K hu hx hb (by omega) (ih (v + 1) (by omega)) (fa_N ac v) 0 (by omega)⟩
theorem pw_535 (K : pc_K al ap ac en cb cn eu ea eb gr po ec n) (hu : u < 4) (h : J526 (nI (u + 1))) : ∀ d x, x + d = fa_N ac u → wL_law_535 post N xs J526 x6 (nI u) kc ks sc oc (nI n) ns 1 on st ra xu xn xe xd al ap ac en eu ea eb sU sL sK sE sG sO gr po ec cx ou tc ss av cs (d + 1) (nI x) := by
  have D := K.1
  have c8 := (cn_C D hu).2
  intro d
  induction d with
  | zero =>
    intro x hx
    have e : x = fa_N ac u := by omega
    exact pk_le 8 x (fun _ => nm_r (nI_1 u) h) (fun _ => pq_com0 D hu e (br_f (by decide) (nm_r (nI_1 u) h)))
  | succ d ih =>
    intro x hx
    have go := ih (x + 1) (by omega)
    obtain ⟨⟨_, b4⟩, ⟨_, n8⟩, _⟩ := cn_I D (i := u * 8 + x) (by omega)
    refine br_f (nI_ge (b := 8) (by omega) (by decide)) (pq_com D hu (by omega) (br_t (nI_pos' (by omega)) ⟨by decide, ?_⟩))
    rw [ha_r8 (by omega), ha_d8 (by omega), show (fa_N cb (u * 8 + x) * 8 + fa_N cn (u * 8 + x)) / 8 = fa_N cb (u * 8 + x) by omega, show (fa_N cb (u * 8 + x) * 8 + fa_N cn (u * 8 + x)) % 8 = fa_N cn (u * 8 + x) by omega]
    refine nm_e ⟨by decide, nm_e (pq_len D hu n8 ⟨x + 1, ?_⟩)⟩
    exact pw_592 K hu (by omega) b4 ⟨4 + 1, pw_646 K hu (by omega) rfl go 4 0 rfl⟩ x 0 (by omega)
theorem pw_526 (K : pc_K al ap ac en cb cn eu ea eb gr po ec n) (h : ∃ f, wL_law_883 post N xs x6 kc ks sc oc (nI n) ns 1 on st ra xu xn xe xd al ap ac en eu ea eb sU sL sK sE sG sO gr po ec cx ou tc ss av cs f 0) : ∀ d u, u + d = 4 → wL_law_526 post N xs x6 kc ks sc oc (nI n) ns 1 on st ra xu xn xe xd al ap ac en eu ea eb sU sL sK sE sG sO gr po ec cx ou tc ss av cs (d + 1) (nI u) := by
  intro d
  induction d with
  | zero =>
    intro u hu
    have e : u = 4 := by omega
    subst e
    exact br_t (by decide) h
  | succ d ih =>
    intro u hu
    exact br_f (nI_ge (b := 4) (by omega) (by decide)) ⟨fa_N ac u + 1, pw_535 K (by omega) (ih (u + 1) (by omega)) (fa_N ac u) 0 (by omega)⟩
end PCO
end
section
section PEQ
/-! the law's loops over the recorded equivalences -/
variable {sc oc ne ns ca on st ra xu xn xe xd : Int32} {al ap ac en eu ea eb sU sL sK sE sG sO gr po ec cx ou tc ss av cs cb cn : Nat → Int32}
variable {post : Int32 → Prop} {xs : Nat → Int32} {N kc ks n u m1 m2 i1 i2 l1 l2 e : Nat} {x6 : Int32} {J307 : Int32 → Int32 → Prop}
theorem pw_433 (b1 : i1 ≤ 16) (b2 : i2 ≤ 16) (c1 : l1 ≤ 16) (c2 : l2 ≤ 16)
    (key : ∀ (P : Int32 → Prop) (i j : Nat), 1 ≤ i → i ≤ l1 → 1 ≤ j → j ≤ l2 → i + i2 = j + i1 → P 1 → wpX_aliased P (sc, oc, nI n, ns, 1, on, st, ra, xu, xn, xe, xd, al, ap, ac, en, eu, ea, eb, sU, sL, sK, sE, sG, sO, gr, po, ec, cx, ou, tc, ss, av, cs) (nI u) (nI (10000 + 100 * m1 + i)) (nI u) (nI (10000 + 100 * m2 + j)))
    (h : J307 x6 (nI (e + 1))) : ∀ d k, k + d = 33 → ∀ z : Int32, z = nI k - 16 → wL_law_433 post N xs J307 x6 (nI e) (nI u) (nI m1) (nI i1) (nI m2) (nI i2) (nI l1) (nI l2) kc ks sc oc (nI n) ns 1 on st ra xu xn xe xd al ap ac en eu ea eb sU sL sK sE sG sO gr po ec cx ou tc ss av cs (d + 1) z := by
  intro d
  induction d with
  | zero =>
    intro k hk z ez
    have e3 : k = 33 := by omega
    subst e3
    subst ez
    exact br_t (by decide) (nm_r (nI_1 e) h)
  | succ d ih =>
    intro k hk z ez
    subst ez
    have go := ih (k + 1) (by omega) _ rfl
    refine br_f (pn_16 (by omega)) ?_
    rw [pn_c i1 k, pn_c i2 k]
    by_cases a : i1 + k < 17
    · exact br_t (pn_lt a) (nm_r (pn_k k) go)
    · rw [pk_sub (a := i1 + k) (b := 16) (by omega)]
      refine br_f (nI_nlt (b := 1) (by omega) (by omega)) (pk_lt l1 (i1 + k - 16) (fun _ => nm_r (pn_k k) go) (fun z1 => ?_))
      by_cases c : i2 + k < 17
      · exact br_t (pn_lt c) (nm_r (pn_k k) go)
      · rw [pk_sub (a := i2 + k) (b := 16) (by omega)]
        refine br_f (nI_nlt (b := 1) (by omega) (by omega)) (pk_lt l2 (i2 + k - 16) (fun _ => nm_r (pn_k k) go) (fun z2 => pq_code (pq_code ?_)))
        exact key _ _ _ (by omega) z1 (by omega) z2 (by omega) (br_f (by decide) (nm_r (pn_k k) go))
theorem pw_399 {k : Nat} (hk : k < 1000) (h : wL_law_407 post N xs J307 x6 (nI e) (nI u) (nI m1) (nI i1) (nI m2) (nI (if k = 0 then 1 else k)) kc ks sc oc ne ns ca on st ra xu xn xe xd al ap ac en eu ea eb sU sL sK sE sG sO gr po ec cx ou tc ss av cs) : wL_law_399 post N xs J307 x6 (nI e) (nI u) (nI m1) (nI i1) (nI m2) (nI k) kc ks sc oc ne ns ca on st ra xu xn xe xd al ap ac en eu ea eb sU sL sK sE sG sO gr po ec cx ou tc ss av cs := by
  refine pk_eq k 0 (fun z => ?_) (fun z => ?_)
  · rw [if_pos z] at h
    exact h
  · rw [if_neg z] at h
    exact h
theorem pw_307 (K : pc_K al ap ac en cb cn eu ea eb gr po ec n) (h : ∃ f, wL_law_526 post N xs (nI n) kc ks sc oc (nI n) ns 1 on st ra xu xn xe xd al ap ac en eu ea eb sU sL sK sE sG sO gr po ec cx ou tc ss av cs f 0) : ∀ d e, e + d = n → wL_law_307 post N xs kc ks sc oc (nI n) ns 1 on st ra xu xn xe xd al ap ac en eu ea eb sU sL sK sE sG sO gr po ec cx ou tc ss av cs (d + 1) (nI e) (nI e) := by
  have D := K.1
  have H := K.2.2.2.1
  have n16 := D.2.2.2.2.2.1
  intro d
  induction d with
  | zero =>
    intro e he
    have z : e = n := by omega
    subst z
    exact pk_le 16 e (fun _ => h) (fun _ => pq_eqN n16 (br_f (by decide) h))
  | succ d ih =>
    intro e he
    have go := ih (e + 1) (by omega)
    have he' : e < n := by omega
    obtain ⟨⟨u1, u2⟩, ⟨a1, a2, a3⟩, ⟨b1, b2, b3⟩⟩ := cn_E D he'
    have m1 := fb_nm8 (Or.inl a2)
    have m2 := fb_nm8 (Or.inl b2)
    have x1 := fb_ix16 a2
    have x2 := fb_ix16 b2
    obtain ⟨_, p1, q1⟩ := cn_A D (k := fa_N eu e * 8 + fb_nm (fa_N ea e)) (by omega)
    obtain ⟨_, p2, q2⟩ := cn_A D (k := fa_N eu e * 8 + fb_nm (fa_N eb e)) (by omega)
    obtain ⟨g1, g2⟩ := pp_eqv H he'
    have fin : wL_law_407 post N xs (wL_law_307 post N xs kc ks sc oc (nI n) ns 1 on st ra xu xn xe xd al ap ac en eu ea eb sU sL sK sE sG sO gr po ec cx ou tc ss av cs (d + 1)) (nI (e + 1)) (nI e) (nI (fa_N eu e)) (nI (fb_nm (fa_N ea e))) (nI (fb_ix (fa_N ea e))) (nI (fb_nm (fa_N eb e))) (nI (fb_ix (fa_N eb e))) kc ks sc oc (nI n) ns 1 on st ra xu xn xe xd al ap ac en eu ea eb sU sL sK sE sG sO gr po ec cx ou tc ss av cs := by
      unfold wL_law_407
      refine pq_len D u2 m1 (pq_len D u2 m2 ⟨33 + 1, ?_⟩)
      refine pw_433 x1 x2 q1 q2 (fun P i j i1 il j1 jl ee hP => ?_) go 33 0 rfl _ (by decide)
      refine pq_al K u2 u2 m1 m2 i1 il j1 jl g1 ?_ hP
      rw [g2]
      have e3 : nI i + nI (fb_ix (fa_N eb e)) = nI j + nI (fb_ix (fa_N ea e)) := by rw [nI_add, nI_add, ee]
      grind
    have ha : ∀ c, fb_FX c → (c - 10000) / 100 = fb_nm c ∧ (if (c - 10000) % 100 = 0 then 1 else (c - 10000) % 100) = fb_ix c := by
      intro c hc
      unfold fb_FX at hc
      have e1 : (c - 10000) % 100 = c % 100 := by omega
      have e2 : (c - 10000) / 100 = c % 10000 / 100 := by omega
      rw [e1, e2]
      exact ⟨rfl, rfl⟩
    obtain ⟨ha1, ha2⟩ := ha _ a2
    obtain ⟨hb1, hb2⟩ := ha _ b2
    rw [← ha1, ← ha2, ← hb1, ← hb2] at fin
    have ga : 10000 ≤ fa_N ea e := by unfold fb_FX at a2; omega
    have gb : 10000 ≤ fa_N eb e := by unfold fb_FX at b2; omega
    refine br_f (nI_ge (b := 16) (by omega) (by decide)) (pq_eq0 n16 he' ?_)
    rw [u1]
    refine br_t (nI_pos' (by omega)) (nm_r (nI_1 e) (pq_eq1 n16 he' ?_))
    rw [a1]
    refine nm_r (show nI (fa_N ea e) - nI 10000 = nI (fa_N ea e - 10000) from pk_sub ga) (pq_eq2 n16 he' ?_)
    rw [b1]
    refine nm_r (show nI (fa_N eb e) - nI 10000 = nI (fa_N eb e - 10000) from pk_sub gb) ⟨by decide, nm_r (ha_d100 (by omega)) ⟨by decide, nm_r (ha_r100 (by omega)) ⟨by decide, nm_r (ha_d100 (by omega)) ⟨by decide, nm_r (ha_r100 (by omega)) ?_⟩⟩⟩⟩
    refine pk_eq ((fa_N ea e - 10000) % 100) 0 (fun z => ?_) (fun z => ?_)
    · rw [if_pos z] at fin
      exact pw_399 (by omega) fin
    · rw [if_neg z] at fin
      exact pw_399 (by omega) fin
end PEQ
end
section
section PDC
/-! the law's first loops: what is declared -/
variable {sc oc ne ns ca on st ra xu xn xe xd : Int32} {al ap ac en eu ea eb sU sL sK sE sG sO gr po ec cx ou tc ss av cs cb cn : Nat → Int32}
variable {post : Int32 → Prop} {xs : Nat → Int32} {N kc ks m u : Nat}
theorem pd_en {i b m : Nat} (hb : b < 4) (hm : m < 8) (h : ∀ j, j < 32 → fa_R 4 (cb j) ∧ fa_R 8 (cn j) ∧ en j = cb j * 8 + cn j) : ∀ j, j < 32 → fa_R 4 (upd cb i (nI b) j) ∧ fa_R 8 (upd cn i (nI m) j) ∧ upd en i (nI (b * 8 + m)) j = upd cb i (nI b) j * 8 + upd cn i (nI m) j := by
  intro j hj
  by_cases e : j = i
  · subst e
    rw [pk_us, pk_us, pk_us, ha_us]
    exact ⟨⟨b, hb, rfl⟩, ⟨m, hm, rfl⟩, rfl⟩
  · rw [pk_un e, pk_un e, pk_un e]
    exact h j hj
theorem pd_com {l b w q : Nat} (D : fs_D al ap ac en cb cn eu ea eb q) (hu : u < 4) (hb : b < 4) (hw : w < 8) (hl : l < 8) : fs_D al ap (upd ac u (nI (l + 1))) (upd en (u * 8 + l) (nI (b * 8 + w))) (upd cb (u * 8 + l) (nI b)) (upd cn (u * 8 + l) (nI w)) eu ea eb q := by
  obtain ⟨d1, d2, d3, d4, d5, d6⟩ := D
  refine ⟨d1, d2, d3, fun j hj => ?_, pd_en hb hw d5, d6⟩
  by_cases e : j = u
  · subst e
    rw [pk_us]
    exact ⟨l + 1, by omega, rfl⟩
  · rw [pk_un e]
    exact d4 j hj
theorem pd_2 {l b : Nat} (h2 : ∀ i, i < 32 → fa_N cb i < 2) (hb : b < 2) : ∀ i, i < 32 → fa_N (upd cb l (nI b)) i < 2 := by
  intro i hi
  rw [fa_Nu (by omega)]
  by_cases e : i = l
  · rw [if_pos e]; exact hb
  · rw [if_neg e]; exact h2 i hi
theorem pd_eqv {k : Nat} {p0 p1 p2 : Int32} (D : fs_D al ap ac en cb cn eu ea eb k) (hk : k < 16) (hu : fa_R 4 p0) (f1 : fa_F p1) (f2 : fa_F p2) : fs_D al ap ac en cb cn (upd eu k p0) (upd ea k p1) (upd eb k p2) (k + 1) := by
  obtain ⟨d1, d2, d3, d4, d5, d6, d7⟩ := D
  refine ⟨d1, d2, d3, d4, d5, by omega, fun e he => ?_⟩
  by_cases z : e = k
  · subst z
    rw [pk_us, pk_us, pk_us]
    exact ⟨hu, f1, f2⟩
  · rw [pk_un z, pk_un z, pk_un z]
    exact d7 e (by omega)
theorem pd_dim {k l q : Nat} (D : fs_D al ap ac en cb cn eu ea eb q) (l1 : 1 ≤ l) (l16 : l ≤ 16) : fs_D (upd al k (nI l)) ap ac en cb cn eu ea eb q := by
  refine ⟨fun j hj => ?_, D.2⟩
  by_cases e : j = k
  · subst e
    exact ⟨l, l1, l16, pk_us⟩
  · rw [pk_un e]
    exact D.1 j hj
theorem pd_F {a i : Nat} (ha : a < 4) (hi : i ≤ 16) : fa_F (nI (10000 + 100 * a + i)) := by
  refine ⟨10000 + 100 * a + i, ?_, rfl⟩
  unfold fb_FX
  omega
theorem pw_134 (hN : N ≤ 260) (ok : post 1) (hm : m ≤ 3) (hp : ∀ u, u < 4 → ap u = 0) (h2 : ∀ i, i < 32 → fa_N cb i < 2) : ∀ d k, k + d = m → ∀ p, p + d ≤ 1000 → ∀ eu ea eb : Nat → Int32, fs_D al ap ac en cb cn eu ea eb k →
    wL_law_134 post N xs (nI m) kc ks (d + 1) (nI p) (nI k) sc oc (nI k) (nI 0) 0 on st ra xu xn xe xd al ap ac en eu ea eb sU sL sK sE sG sO gr po ec cx ou tc ss av cs := by
  intro d
  induction d with
  | zero =>
    intro k hk p hpp eu ea eb D
    have e : k = m := by omega
    subst e
    refine br_t (nI_le (Nat.le_refl k) (by omega)) (pq_comp D hp h2 (fun r gr po hr => ?_) (fun gr po ec K => ?_))
    · exact br_f hr (pq_ext0 hr (br_t rfl (pq_code (n := 0) (i := 1) (pq_code (n := 0) (i := 1) (pq_al0 hr (br_t rfl ok))))))
    · exact br_t rfl ⟨k + 1, pw_307 K ⟨4 + 1, pw_526 K ⟨4 + 1, pw_883 K ok 4 0 rfl⟩ 4 0 rfl⟩ k 0 (by omega)⟩
  | succ d ih =>
    intro k hk p hpp eu ea eb D
    refine br_f (nI_ge (by omega) (by omega)) (nm_r (nI_1 p) (pq_cell hN (by omega) (fun r => ?_)))
    obtain ⟨w, hw, ew⟩ := pk_andE r (m := 3) 2 (by decide)
    obtain ⟨a, ha, ea'⟩ := pk_andE (r >>> ((2 : Int32) &&& 31)) (m := 3) 2 (by decide)
    obtain ⟨b, hb, eb'⟩ := pk_andE (r >>> ((4 : Int32) &&& 31)) (m := 3) 2 (by decide)
    obtain ⟨i, hi, ei⟩ := pk_andE (r >>> ((6 : Int32) &&& 31)) (m := 15) 4 (by decide)
    obtain ⟨j, hj, ej⟩ := pk_andE (r >>> ((10 : Int32) &&& 31)) (m := 15) 4 (by decide)
    have w4 : w < 4 := hw
    have a4 : a < 4 := ha
    have b4 : b < 4 := hb
    have i16 : i < 16 := hi
    have j16 : j < 16 := hj
    have la := (cn_A D (k := w * 8 + a) (by omega)).2.2
    have lb := (cn_A D (k := w * 8 + b) (by omega)).2.2
    refine nm_r ew (nm_r ea' (nm_r eb' (pq_len D w4 (by omega) (pq_len D w4 (by omega) ?_))))
    rw [ei, ej, nI_1 (fa_N al (w * 8 + a)), nI_1 (fa_N al (w * 8 + b))]
    refine ⟨fa_ne (b := 0) (by omega) (by omega) (by omega), nm_r (pk_rem (by omega) (by omega) (by omega)) ⟨fa_ne (b := 0) (by omega) (by omega) (by omega), nm_r (pk_rem (by omega) (by omega) (by omega)) (pq_code (pq_code ?_))⟩⟩
    have m1 := Nat.mod_lt i (show 0 < fa_N al (w * 8 + a) + 1 by omega)
    have m2 := Nat.mod_lt j (show 0 < fa_N al (w * 8 + b) + 1 by omega)
    have f1 := pd_F a4 (show i % (fa_N al (w * 8 + a) + 1) ≤ 16 by omega)
    have f2 := pd_F b4 (show j % (fa_N al (w * 8 + b) + 1) ≤ 16 by omega)
    exact vx_eqv1 ⟨w, w4, rfl⟩ f1 f2 (by omega) (nm_r (nI_1 k) (ih (k + 1) (by omega) (p + 1) (by omega) _ _ _ (pd_eqv D (by omega) ⟨w, w4, rfl⟩ f1 f2)))
theorem pw_76 (hN : N ≤ 260) (ok : post 1) (hm : m ≤ 7) (hp : ∀ u, u < 4 → ap u = 0) : ∀ d k, k + d = m → ∀ p, p + d ≤ 900 → ∀ ac en cb cn : Nat → Int32, (∀ i, i < 32 → fa_N cb i < 2) → fs_D al ap ac en cb cn eu ea eb 0 →
    wL_law_76 post N xs (nI m) kc ks (d + 1) (nI p) (nI k) sc oc (nI 0) (nI 0) 0 on st ra xu xn xe xd al ap ac en eu ea eb sU sL sK sE sG sO gr po ec cx ou tc ss av cs := by
  intro d
  induction d with
  | zero =>
    intro k hk p hpp ac en cb cn h2 D
    refine br_t (nI_le (by omega) (by omega)) (nm_r (nI_1 p) (pq_cell hN (by omega) (fun r => ?_)))
    obtain ⟨w, hw, ew⟩ := pk_andE r (m := 3) 2 (by decide)
    have w4 : w < 4 := hw
    exact nm_r ew ⟨w + 1, pw_134 hN ok (by omega) hp h2 w 0 (by omega) (p + 1) (by omega) eu ea eb D⟩
  | succ d ih =>
    intro k hk p hpp ac en cb cn h2 D
    refine br_f (nI_ge (by omega) (by omega)) (nm_r (nI_1 p) (pq_cell hN (by omega) (fun r => ?_)))
    obtain ⟨w, hw, ew⟩ := pk_andE r (m := 3) 2 (by decide)
    obtain ⟨b, hb, eb'⟩ := pk_andE (r >>> ((2 : Int32) &&& 31)) (m := 1) 1 (by decide)
    obtain ⟨a, ha, ea'⟩ := pk_andE (r >>> ((3 : Int32) &&& 31)) (m := 3) 2 (by decide)
    have w4 : w < 4 := hw
    have b2 : b < 2 := hb
    have a4 : a < 4 := ha
    rw [ew, eb', ea']
    obtain ⟨c1, c2⟩ := cn_C D w4
    by_cases l8 : fa_N ac w < 8
    · exact vx_com1 w4 (by omega) (by omega) l8 c1 (nm_r (nI_1 k) (ih (k + 1) (by omega) (p + 1) (by omega) _ _ _ _ (pd_2 h2 b2) (pd_com D w4 (by omega) (by omega) l8)))
    · refine vx_com0 (fun z => l8 ?_) (nm_r (nI_1 k) (ih (k + 1) (by omega) (p + 1) (by omega) _ _ _ _ h2 D))
      have z' := z.2.2.2.2
      rw [nI_clamp (by omega), c1] at z'
      exact (nI_ltI (b := 8) (by omega) (by decide)).mp z'
theorem pw_23 {J15 : Int32 → Int32 → Int32 → Int32 → Int32 → Int32 → Int32 → Int32 → Int32 → Int32 → Int32 → Int32 → Int32 → Int32 → (Nat → Int32) → (Nat → Int32) → (Nat → Int32) → (Nat → Int32) → (Nat → Int32) → (Nat → Int32) → (Nat → Int32) → (Nat → Int32) → (Nat → Int32) → (Nat → Int32) → (Nat → Int32) → (Nat → Int32) → (Nat → Int32) → (Nat → Int32) → (Nat → Int32) → (Nat → Int32) → (Nat → Int32) → (Nat → Int32) → (Nat → Int32) → (Nat → Int32) → (Nat → Int32) → (Nat → Int32) → Prop} {q : Nat}
    (hN : N ≤ 260) (hu : u < 4) (hq : q ≤ 500) (hJ : ∀ al : Nat → Int32, fs_D al ap ac en cb cn eu ea eb 0 → J15 (nI q) (nI (u + 1)) sc oc (nI 0) (nI 0) 0 on st ra xu xn xe xd al ap ac en eu ea eb sU sL sK sE sG sO gr po ec cx ou tc ss av cs) : ∀ d k, k + d = 4 → ∀ p, p + d = q → ∀ al : Nat → Int32, fs_D al ap ac en cb cn eu ea eb 0 →
    wL_law_23 post N xs J15 (nI u) kc ks (d + 1) (nI p) (nI k) sc oc (nI 0) (nI 0) 0 on st ra xu xn xe xd al ap ac en eu ea eb sU sL sK sE sG sO gr po ec cx ou tc ss av cs := by
  intro d
  induction d with
  | zero =>
    intro k hk p hpp al D
    have e : k = 4 := by omega
    have e2 : p = q := by omega
    subst e
    subst e2
    exact br_t (by decide) (nm_r (nI_1 u) (hJ al D))
  | succ d ih =>
    intro k hk p hpp al D
    refine br_f (nI_ge (b := 4) (by omega) (by decide)) (nm_r (nI_1 p) (pq_cell hN (by omega) (fun r => ?_)))
    obtain ⟨w, hw, ew⟩ := pk_andE r (m := 3) 2 (by decide)
    have w4 : w < 4 := hw
    rw [ew, show 1 + nI w = nI (1 + w) from nI_add 1 w]
    exact vx_dim1 hu (by omega) (by omega) (by omega) (nm_r (nI_1 k) (ih (k + 1) (by omega) (p + 1) (by omega) _ (pd_dim D (by omega) (by omega))))
theorem pw_15 (hN : N ≤ 260) (ok : post 1) (hp : ∀ u, u < 4 → ap u = 0) (h2 : ∀ i, i < 32 → fa_N cb i < 2) : ∀ d u, u + d = 4 → ∀ al : Nat → Int32, fs_D al ap ac en cb cn eu ea eb 0 →
    wL_law_15 post N xs kc ks (d + 1) (nI (4 * u)) (nI u) sc oc (nI 0) (nI 0) 0 on st ra xu xn xe xd al ap ac en eu ea eb sU sL sK sE sG sO gr po ec cx ou tc ss av cs := by
  intro d
  induction d with
  | zero =>
    intro u hu al D
    have e : u = 4 := by omega
    subst e
    refine br_t (by decide) (nm_r (nI_1 (4 * 4)) (pq_cell hN (by omega) (fun r => ?_)))
    obtain ⟨w, hw, ew⟩ := pk_andE r (m := 7) 3 (by decide)
    have w8 : w < 8 := hw
    exact nm_r ew ⟨w + 1, pw_76 hN ok (by omega) hp w 0 (by omega) (4 * 4 + 1) (by omega) ac en cb cn h2 D⟩
  | succ d ih =>
    intro u hu al D
    refine br_f (nI_ge (b := 4) (by omega) (by decide)) ⟨4 + 1, ?_⟩
    exact pw_23 (q := 4 * (u + 1)) hN (by omega) (by omega) (fun al' D' => ih (u + 1) (by omega) al' D') 4 0 rfl (4 * u) (by omega) al D
end PDC
end
section
section PST
variable {sc oc ne ns ca on st ra xu xn xe xd : Int32} {al ap ac en eu ea eb sU sL sK sE sG sO gr po ec cx ou tc ss av cs cb cn : Nat → Int32}
def pz_a (i : Nat) : Nat → Int32 := fun j => if j < i then 1 else 0
theorem pz_u (i : Nat) : upd (pz_a i) i 1 = pz_a (i + 1) := by
  funext j
  by_cases e : j = i
  · subst e
    rw [pk_us]
    exact (if_pos (Nat.lt_succ_self j)).symm
  · rw [pk_un e]
    unfold pz_a
    by_cases l : j < i
    · rw [if_pos l, if_pos (by omega)]
    · rw [if_neg l, if_neg (by omega)]
theorem pz_0 : pz_a 0 = fun _ => 0 := by
  funext j
  exact if_neg (Nat.not_lt_zero j)
theorem pz_x {post : St2 → Prop} {mc ms kc ks : Nat} (h : post (sc, oc, ne, ns, ca, on, st, ra, xu, xn, xe, xd, pz_a 32, ap, ac, en, eu, ea, eb, sU, sL, sK, sE, sG, sO, gr, po, ec, cx, ou, tc, ss, av, cs)) : ∀ d i, i + d = 32 → wX_init_254 post mc ms kc ks sc oc ne ns ca on st ra xu xn xe xd (d + 1) (nI i) (pz_a i) ap ac en eu ea eb sU sL sK sE sG sO gr po ec cx ou tc ss av cs := by
  intro d
  induction d with
  | zero =>
    intro i hi
    have e : i = 32 := by omega
    subst e
    exact br_t (by decide) h
  | succ d ih =>
    intro i hi
    refine br_f (nI_ge (b := 32) (by omega) (by decide)) ⟨vp_in_nI (by omega) (by decide), ?_⟩
    rw [nI_clamp (by omega)]
    exact nm_r (pz_u i) (nm_r (nI_1 i) (ih (i + 1) (by omega)))
theorem pz_x0 {post : St2 → Prop} {mc ms kc ks : Nat} (h : post (sc, oc, ne, ns, ca, on, st, ra, xu, xn, xe, xd, pz_a 32, ap, ac, en, eu, ea, eb, sU, sL, sK, sE, sG, sO, gr, po, ec, cx, ou, tc, ss, av, cs)) : wX_init_254 post mc ms kc ks sc oc ne ns ca on st ra xu xn xe xd (32 + 1) 0 (fun _ => 0) ap ac en eu ea eb sU sL sK sE sG sO gr po ec cx ou tc ss av cs := by
  have b := pz_x (mc := mc) (ms := ms) (kc := kc) (ks := ks) h 32 0 rfl
  rw [pz_0] at b
  exact b
theorem pz_D : fs_D (pz_a 32) (fun _ => 0) (fun _ => 0) (fun _ => 0) (fun _ => 0) (fun _ => 0) (fun _ => 0) (fun _ => 0) (fun _ => 0) 0 :=
  ⟨fun k hk => ⟨1, Nat.le_refl 1, by decide, if_pos hk⟩, rfl, fun u _ => ⟨0, by decide, rfl⟩, fun u _ => ⟨0, by decide, rfl⟩, fun i _ => ⟨⟨0, by decide, rfl⟩, ⟨0, by decide, rfl⟩, (by show (0 : Int32) = 0 * 8 + 0; decide)⟩, Nat.zero_le _, fun e he => absurd he (Nat.not_lt_zero e)⟩
end PST
end
section
theorem i_vc (xs : Nat → Int32) (L : Nat) (hL : L ≤ 260) : wpL_law (fun r => r = 1) L xs := by
  refine ⟨22, 2024, by decide, by decide, ?_⟩
  unfold wpX_init
  refine ⟨by decide, by decide, by decide, by decide, by decide, by decide, by decide, by decide, by decide, by decide, by decide, by decide, by decide, by decide, by decide, by decide, by decide, by decide, by decide, by decide, by decide, by decide, by decide, by decide, by decide, by decide, by decide, by decide, by decide, by decide, by decide, by decide, by decide, by decide, by decide, by decide, by decide, by decide, by decide, by decide, by decide, by decide, by decide, by decide, ?_⟩
  refine br_t (by decide) (br_t (by decide) (br_t (by decide) (br_t (by decide) ⟨32 + 1, pz_x0 ?_⟩)))
  exact ⟨4 + 1, pw_15 (post := fun r => r = 1) (kc := 1 + 22) (ks := 34 + 2024) (N := L) (xs := xs) (cb := fun _ => 0) (cn := fun _ => 0) hL rfl (fun _ _ => rfl) (fun i _ => (by show (0 : Int32).toNatClampNeg < 2; decide)) 4 0 rfl (pz_a 32) pz_D⟩
end
