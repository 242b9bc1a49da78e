section GLAY
/-! the layout's mathematics: constraints p x = p y + d over 36 unknowns, each side against 'solution' and 'closed set' -/
abbrev ga_T : Type := Nat → Nat → Int32 → Prop
def ga_Sol (C : ga_T) (p : Nat → Int32) : Prop := ∀ x y d, C x y d → p x = p y + d
def ga_Cl (C : ga_T) (Q : Nat → Prop) : Prop := ∀ x y d, C x y d → (Q x ↔ Q y)
def ga_IX (C S : ga_T) (g q : Nat → Int32) : Prop :=
  (∀ x y d, S x y d → x < 36 ∧ y < 36 ∧ g x = g y ∧ q x = q y + d) ∧
  (∀ p, ga_Sol C p → ∀ x y, x < 36 → y < 36 → g x = g y → p x - p y = q x - q y) ∧
  (∀ Q, ga_Cl C Q → ∀ x y, x < 36 → y < 36 → g x = g y → (Q x ↔ Q y)) ∧
  (∀ x, x < 36 → ∃ j, j < 36 ∧ g x = nI j ∧ g j = nI j ∧ q j = 0)
def ga_g (g : Nat → Int32) (o n : Int32) (i : Nat) : Nat → Int32 := fun j => if j < i ∧ g j = o then n else g j
def ga_q (g q : Nat → Int32) (o s : Int32) (i : Nat) : Nat → Int32 := fun j => if j < i ∧ g j = o then q j + s else q j
theorem ga_ix0 {C : ga_T} {g q : Nat → Int32} (hg : ∀ x, x < 36 → g x = nI x) (hq : ∀ x, x < 36 → q x = 0) : ga_IX C (fun _ _ _ => False) g q := by
  have inj : ∀ x y, x < 36 → y < 36 → g x = g y → x = y := by
    intro x y hx hy e
    rw [hg x hx, hg y hy] at e
    exact (nI_eq (by omega) (by omega)).mp e
  refine ⟨fun _ _ _ h => h.elim, ?_, ?_, ?_⟩
  · intro p _ x y hx hy e
    cases inj x y hx hy e
    rw [Int32.sub_self, Int32.sub_self]
  · intro Q _ x y hx hy e
    cases inj x y hx hy e
    exact Iff.rfl
  · intro x hx
    exact ⟨x, hx, hg x hx, hg x hx, hq x hx⟩
theorem ga_ixSame {C S : ga_T} {g q : Nat → Int32} {x y : Nat} {d : Int32} (H : ga_IX C S g q) (hx : x < 36) (hy : y < 36) (e : g x = g y) (e2 : q y + d - q x = 0) :
    ga_IX C (fun a b e => S a b e ∨ (a = x ∧ b = y ∧ e = d)) g q := by
  obtain ⟨h1, h2, h3, h4⟩ := H
  refine ⟨?_, h2, h3, h4⟩
  intro a b f hab
  rcases hab with hab | ⟨rfl, rfl, rfl⟩
  · exact h1 a b f hab
  · exact ⟨hx, hy, e, by grind⟩
theorem ga_ixBad {C S : ga_T} {g q : Nat → Int32} {x y : Nat} {d : Int32} (H : ga_IX C S g q) (hC : C x y d) (hx : x < 36) (hy : y < 36) (e : g x = g y) (e2 : ¬ q y + d - q x = 0) :
    ¬ ∃ p, ga_Sol C p := by
  rintro ⟨p, hp⟩
  have a := H.2.1 p hp x y hx hy e
  have b := hp x y d hC
  exact e2 (by grind)
theorem ga_ixJoin {C S : ga_T} {g q : Nat → Int32} {x y : Nat} {d : Int32} (H : ga_IX C S g q) (hC : C x y d) (hx : x < 36) (hy : y < 36) (ne : g x ≠ g y) :
    ga_IX C (fun a b e => S a b e ∨ (a = x ∧ b = y ∧ e = d)) (ga_g g (g x) (g y) 36) (ga_q g q (g x) (q y + d - q x) 36) := by
  obtain ⟨h1, h2, h3, h4⟩ := H
  have rx : ∀ a, a < 36 → g a = g x → ga_g g (g x) (g y) 36 a = g y := fun a ha e => if_pos ⟨ha, e⟩
  have rn : ∀ a, g a ≠ g x → ga_g g (g x) (g y) 36 a = g a := fun a e => if_neg (fun z => e z.2)
  have px : ∀ a, a < 36 → g a = g x → ga_q g q (g x) (q y + d - q x) 36 a = q a + (q y + d - q x) := fun a ha e => if_pos ⟨ha, e⟩
  have pn : ∀ a, g a ≠ g x → ga_q g q (g x) (q y + d - q x) 36 a = q a := fun a e => if_neg (fun z => e z.2)
  refine ⟨?_, ?_, ?_, ?_⟩
  · intro a b f hab
    rcases hab with hab | ⟨rfl, rfl, rfl⟩
    · obtain ⟨ha, hb, e1, e2⟩ := h1 a b f hab
      refine ⟨ha, hb, ?_⟩
      by_cases z : g a = g x
      · have z' : g b = g x := by rw [← e1, z]
        rw [rx a ha z, rx b hb z', px a ha z, px b hb z']
        exact ⟨rfl, by grind⟩
      · have z' : g b ≠ g x := by rw [← e1]; exact z
        rw [rn a z, rn b z', pn a z, pn b z']
        exact ⟨e1, e2⟩
    · refine ⟨hx, hy, ?_⟩
      rw [rx a hx rfl, rn b (fun z => ne z.symm), px a hx rfl, pn b (fun z => ne z.symm)]
      exact ⟨rfl, by grind⟩
  · intro p hp a b ha hb e
    have hxy := hp x y d hC
    by_cases za : g a = g x
    · have e1 := h2 p hp a x ha hx za
      by_cases zb : g b = g x
      · have e2 := h2 p hp b x hb hx zb
        rw [px a ha za, px b hb zb]
        grind
      · rw [rx a ha za, rn b zb] at e
        have e2 := h2 p hp y b hy hb e
        rw [px a ha za, pn b zb]
        grind
    · by_cases zb : g b = g x
      · have e2 := h2 p hp b x hb hx zb
        rw [rn a za, rx b hb zb] at e
        have e1 := h2 p hp a y ha hy e
        rw [pn a za, px b hb zb]
        grind
      · rw [rn a za, rn b zb] at e
        rw [pn a za, pn b zb]
        exact h2 p hp a b ha hb e
  · intro Q hQ a b ha hb e
    have hxy := hQ x y d hC
    by_cases za : g a = g x
    · have e1 := h3 Q hQ a x ha hx za
      by_cases zb : g b = g x
      · exact e1.trans (h3 Q hQ b x hb hx zb).symm
      · rw [rx a ha za, rn b zb] at e
        exact e1.trans (hxy.trans (h3 Q hQ y b hy hb e))
    · by_cases zb : g b = g x
      · rw [rn a za, rx b hb zb] at e
        exact (h3 Q hQ a y ha hy e).trans (hxy.symm.trans (h3 Q hQ b x hb hx zb).symm)
      · rw [rn a za, rn b zb] at e
        exact h3 Q hQ a b ha hb e
  · intro a ha
    by_cases za : g a = g x
    · obtain ⟨j, hj, e1, e2, e3⟩ := h4 y hy
      have nj : g j ≠ g x := by rw [e2, ← e1]; exact fun z => ne z.symm
      exact ⟨j, hj, by rw [rx a ha za, e1], by rw [rn j nj, e2], by rw [pn j nj, e3]⟩
    · obtain ⟨j, hj, e1, e2, e3⟩ := h4 a ha
      have nj : g j ≠ g x := by rw [e2, ← e1]; exact za
      exact ⟨j, hj, by rw [rn a za, e1], by rw [rn j nj, e2], by rw [pn j nj, e3]⟩

/-! the reference: spread from a root -/
def ga_C (fx fy : Nat → Nat) (D : Nat → Int32) (m : Nat) : ga_T := fun x y d => ∃ c, c < m ∧ fx c = x ∧ fy c = y ∧ D c = d
def ga_cnt (pl : Nat → Int32) : Nat → Nat
  | 0 => 0
  | n + 1 => ga_cnt pl n + (if pl n = 0 then 0 else 1)
theorem ga_cnt_le (pl : Nat → Int32) : ∀ n, ga_cnt pl n ≤ n := by
  intro n
  induction n with
  | zero => exact Nat.le_refl 0
  | succ n ih =>
    show ga_cnt pl n + (if pl n = 0 then 0 else 1) ≤ n + 1
    split <;> omega
theorem ga_cnt_up {pl : Nat → Int32} {w : Nat} (h : pl w = 0) : ∀ n, ga_cnt (upd pl w 1) n = ga_cnt pl n + (if w < n then 1 else 0) := by
  intro n
  induction n with
  | zero => rw [if_neg (Nat.not_lt_zero w)]; rfl
  | succ n ih =>
    show ga_cnt (upd pl w 1) n + (if upd pl w 1 n = 0 then 0 else 1) = ga_cnt pl n + (if pl n = 0 then 0 else 1) + _
    rw [ih]
    by_cases e : n = w
    · subst e
      have a1 : ¬ (upd pl n 1 n = 0) := by rw [pk_us]; decide
      rw [if_neg (Nat.lt_irrefl n), if_neg a1, if_pos h, if_pos (Nat.lt_succ_self n)]
    · rw [pk_un e]
      have q : (if w < n + 1 then 1 else 0 : Nat) = if w < n then 1 else 0 := by
        by_cases l : w < n
        · rw [if_pos l, if_pos (by omega)]
        · rw [if_neg l, if_neg (by omega)]
      rw [q]
      omega
def ga_Bd (pl rl : Nat → Int32) : Prop := ∀ z, z < 36 → pl z ≠ 0 → -(128 * (ga_cnt pl 36 : Int)) ≤ (rl z).toInt ∧ (rl z).toInt ≤ 128 * (ga_cnt pl 36 : Int)
def ga_IY (fx fy : Nat → Nat) (D : Nat → Int32) (m : Nat) (r : Nat) (E : Nat → Prop) (pl cm rl : Nat → Int32) : Prop :=
  (∀ c, c < m → (E (fx c) ↔ E (fy c))) ∧
  (∀ z, z < 36 → E z → pl z ≠ 0 ∧ ∃ j, j < r ∧ cm z = nI j) ∧
  (∀ c, c < m → E (fx c) → cm (fx c) = cm (fy c) ∧ rl (fx c) = rl (fy c) + D c) ∧
  (∀ z, z < 36 → pl z ≠ 0 → ¬ E z → cm z = nI r) ∧
  (∀ p, ga_Sol (ga_C fx fy D m) p → ∀ x y, x < 36 → y < 36 → pl x ≠ 0 → pl y ≠ 0 → cm x = cm y → p x - p y = rl x - rl y) ∧
  (∀ Q, ga_Cl (ga_C fx fy D m) Q → ∀ x y, x < 36 → y < 36 → pl x ≠ 0 → pl y ≠ 0 → cm x = cm y → (Q x ↔ Q y)) ∧
  ga_Bd pl rl
def ga_Ok (fx fy : Nat → Nat) (D : Nat → Int32) (pl cm rl : Nat → Int32) (c : Nat) : Prop :=
  (pl (fx c) ≠ 0 ∧ pl (fy c) ≠ 0 ∧ cm (fx c) = cm (fy c) ∧ rl (fx c) = rl (fy c) + D c) ∨ (pl (fx c) = 0 ∧ pl (fy c) = 0)
variable {fx fy : Nat → Nat} {D : Nat → Int32} {m r : Nat} {E : Nat → Prop} {pl cm rl : Nat → Int32}
theorem ga_addT {a b : Int32} (ha : -1000000 ≤ a.toInt ∧ a.toInt ≤ 1000000) (hb : -1000000 ≤ b.toInt ∧ b.toInt ≤ 1000000) : (a + b).toInt = a.toInt + b.toInt := by
  rw [Int32.toInt_add]
  exact Int.bmod_eq_of_le (by omega) (by omega)
theorem ga_subT {a b : Int32} (ha : -1000000 ≤ a.toInt ∧ a.toInt ≤ 1000000) (hb : -1000000 ≤ b.toInt ∧ b.toInt ≤ 1000000) : (a - b).toInt = a.toInt - b.toInt := by
  rw [Int32.toInt_sub]
  exact Int.bmod_eq_of_le (by omega) (by omega)
theorem ga_iyPut {v w : Nat} {δ t : Int32} (H : ga_IY fx fy D m r E pl cm rl) (hm : ∀ c, c < m → fx c < 36 ∧ fy c < 36) (hv : v < 36) (hw : w < 36) (pv : pl v ≠ 0) (pw : pl w = 0) (nE : ¬ E v)
    (hp : ∀ p, ga_Sol (ga_C fx fy D m) p → p w - p v = δ) (hQ : ∀ Q, ga_Cl (ga_C fx fy D m) Q → (Q w ↔ Q v)) (hd : -128 ≤ δ.toInt ∧ δ.toInt ≤ 128) (ht : t = rl v + δ) :
    ga_IY fx fy D m r E (upd pl w 1) (upd cm w (cm v)) (upd rl w t) := by
  obtain ⟨h1, h2, h3, h4, h5, h6, h7⟩ := H
  have vw : v ≠ w := fun e => pv (e ▸ pw)
  have Ew : ∀ z, z < 36 → E z → z ≠ w := fun z hz e ez => (h2 z hz e).1 (ez ▸ pw)
  have c4 : cm v = nI r := h4 v hv pv nE
  have one : (1 : Int32) ≠ 0 := by decide
  have hc := ga_cnt_up pw 36
  rw [if_pos hw] at hc
  refine ⟨h1, ?_, ?_, ?_, ?_, ?_, ?_⟩
  · intro z hz e
    rw [pk_un (Ew z hz e), pk_un (Ew z hz e)]
    exact h2 z hz e
  · intro c hcm e
    have n1 := Ew _ (hm c hcm).1 e
    have n2 := Ew _ (hm c hcm).2 ((h1 c hcm).mp e)
    rw [pk_un n1, pk_un n2, pk_un n1, pk_un n2]
    exact h3 c hcm e
  · intro z hz pz ne
    by_cases e : z = w
    · subst e
      rw [pk_us, c4]
    · rw [pk_un e] at pz ⊢
      exact h4 z hz pz ne
  · intro p sp x y hx hy px py e
    have k := hp p sp
    by_cases ex : x = w
    · subst ex
      by_cases ey : y = x
      · subst ey
        rw [Int32.sub_self, Int32.sub_self]
      · rw [pk_us, pk_un ey] at e
        rw [pk_un ey] at py
        rw [pk_us, pk_un ey, ht]
        have := h5 p sp v y hv hy pv py e
        grind
    · rw [pk_un ex] at px
      by_cases ey : y = w
      · subst ey
        rw [pk_us, pk_un ex] at e
        rw [pk_us, pk_un ex, ht]
        have := h5 p sp x v hx hv px pv e
        grind
      · rw [pk_un ey] at py
        rw [pk_un ex, pk_un ey] at e
        rw [pk_un ex, pk_un ey]
        exact h5 p sp x y hx hy px py e
  · intro Q sQ x y hx hy px py e
    have k := hQ Q sQ
    by_cases ex : x = w
    · subst ex
      by_cases ey : y = x
      · subst ey
        exact Iff.rfl
      · rw [pk_us, pk_un ey] at e
        rw [pk_un ey] at py
        exact k.trans (h6 Q sQ v y hv hy pv py e)
    · rw [pk_un ex] at px
      by_cases ey : y = w
      · subst ey
        rw [pk_us, pk_un ex] at e
        exact (h6 Q sQ x v hx hv px pv e).trans k.symm
      · rw [pk_un ey] at py
        rw [pk_un ex, pk_un ey] at e
        exact h6 Q sQ x y hx hy px py e
  · intro z hz pz
    have le := ga_cnt_le pl 36
    rw [hc]
    by_cases e : z = w
    · subst e
      have b := h7 v hv pv
      rw [pk_us, ht, ga_addT (by omega) (by omega)]
      omega
    · rw [pk_un e] at pz ⊢
      have b := h7 z hz pz
      omega
theorem ga_iyRoot (H : ga_IY fx fy D m r (fun z => pl z ≠ 0) pl cm rl) (hm : ∀ c, c < m → fx c < 36 ∧ fy c < 36) (hr : r < 36) (pr : pl r = 0) :
    ga_IY fx fy D m r (fun z => pl z ≠ 0) (upd pl r 1) (upd cm r (nI r)) (upd rl r 0) := by
  obtain ⟨h1, h2, h3, h4, h5, h6, h7⟩ := H
  have Er : ∀ z, pl z ≠ 0 → z ≠ r := fun z e ez => e (ez ▸ pr)
  have nr : ∀ z, z < 36 → pl z ≠ 0 → cm z ≠ nI r := by
    intro z hz pz e
    obtain ⟨_, j, hj, ej⟩ := h2 z hz pz
    rw [ej] at e
    have := (nI_eq (by omega) (by omega)).mp e
    omega
  have hc := ga_cnt_up pr 36
  rw [if_pos hr] at hc
  have nn : ∀ z, z ≠ r → upd pl r 1 z ≠ 0 → pl z ≠ 0 := fun z e h => by rw [pk_un e] at h; exact h
  refine ⟨h1, ?_, ?_, ?_, ?_, ?_, ?_⟩
  · intro z hz e
    rw [pk_un (Er z e), pk_un (Er z e)]
    exact h2 z hz e
  · intro c hcm e
    have n1 := Er _ e
    have n2 := Er _ ((h1 c hcm).mp e)
    rw [pk_un n1, pk_un n2, pk_un n1, pk_un n2]
    exact h3 c hcm e
  · intro z hz pz ne
    by_cases e : z = r
    · subst e
      rw [pk_us]
    · exact absurd (nn z e pz) ne
  · intro p sp x y hx hy px py e
    by_cases ex : x = r
    · subst ex
      by_cases ey : y = x
      · subst ey
        rw [Int32.sub_self, Int32.sub_self]
      · rw [pk_us, pk_un ey] at e
        exact absurd e.symm (nr y hy (nn y ey py))
    · by_cases ey : y = r
      · subst ey
        rw [pk_us, pk_un ex] at e
        exact absurd e (nr x hx (nn x ex px))
      · rw [pk_un ex, pk_un ey] at e
        rw [pk_un ex, pk_un ey]
        exact h5 p sp x y hx hy (nn x ex px) (nn y ey py) e
  · intro Q sQ x y hx hy px py e
    by_cases ex : x = r
    · subst ex
      by_cases ey : y = x
      · subst ey
        exact Iff.rfl
      · rw [pk_us, pk_un ey] at e
        exact absurd e.symm (nr y hy (nn y ey py))
    · by_cases ey : y = r
      · subst ey
        rw [pk_us, pk_un ex] at e
        exact absurd e (nr x hx (nn x ex px))
      · rw [pk_un ex, pk_un ey] at e
        exact h6 Q sQ x y hx hy (nn x ex px) (nn y ey py) e
  · intro z hz pz
    rw [hc]
    by_cases e : z = r
    · subst e
      rw [pk_us, show (0 : Int32).toInt = 0 from by decide]
      omega
    · have b := h7 z hz (nn z e pz)
      rw [pk_un e]
      omega
theorem ga_iyDone (H : ga_IY fx fy D m r E pl cm rl) (ok : ∀ c, c < m → ga_Ok fx fy D pl cm rl c) : ga_IY fx fy D m (r + 1) (fun z => pl z ≠ 0) pl cm rl := by
  obtain ⟨h1, h2, h3, h4, h5, h6, h7⟩ := H
  refine ⟨?_, ?_, ?_, fun z _ pz ne => absurd pz ne, h5, h6, h7⟩
  · intro c hc
    rcases ok c hc with ⟨a, b, _⟩ | ⟨a, b⟩
    · exact ⟨fun _ => b, fun _ => a⟩
    · exact ⟨fun z => absurd a z, fun z => absurd b z⟩
  · intro z hz pz
    refine ⟨pz, ?_⟩
    by_cases e : E z
    · obtain ⟨_, j, hj, ej⟩ := h2 z hz e
      exact ⟨j, by omega, ej⟩
    · exact ⟨r, by omega, h4 z hz pz e⟩
  · intro c hc e
    rcases ok c hc with ⟨_, _, a, b⟩ | ⟨a, _⟩
    · exact ⟨a, b⟩
    · exact absurd a e
theorem ga_iy0 (hm : ∀ c, c < m → fx c < 36 ∧ fy c < 36) (h0 : ∀ z, z < 36 → pl z = 0) : ga_IY fx fy D m 0 (fun z => pl z ≠ 0) pl cm rl := by
  refine ⟨?_, fun z hz e => absurd (h0 z hz) e, fun c hc e => absurd (h0 _ (hm c hc).1) e, fun z hz e => absurd (h0 z hz) e, fun _ _ x _ hx _ px => absurd (h0 x hx) px, fun _ _ x _ hx _ px => absurd (h0 x hx) px, fun z hz e => absurd (h0 z hz) e⟩
  intro c hc
  exact ⟨fun z => absurd (h0 _ (hm c hc).1) z, fun z => absurd (h0 _ (hm c hc).2) z⟩
theorem ga_iyOne (H : ga_IY fx fy D m r E pl cm rl) (hm : ∀ c, c < m → fx c < 36 ∧ fy c < 36) {c : Nat} (hc : c < m) (px : pl (fx c) ≠ 0) (py : pl (fy c) ≠ 0) : cm (fx c) = cm (fy c) := by
  obtain ⟨h1, h2, h3, h4, _⟩ := H
  by_cases e : E (fx c)
  · exact (h3 c hc e).1
  · rw [h4 _ (hm c hc).1 px e, h4 _ (hm c hc).2 py (fun z => e ((h1 c hc).mpr z))]
theorem ga_iyBad (H : ga_IY fx fy D m r E pl cm rl) (hm : ∀ c, c < m → fx c < 36 ∧ fy c < 36) {c : Nat} (hc : c < m) (px : pl (fx c) ≠ 0) (py : pl (fy c) ≠ 0) (ne : ¬ rl (fx c) = rl (fy c) + D c) : ¬ ∃ p, ga_Sol (ga_C fx fy D m) p := by
  rintro ⟨p, sp⟩
  have e1 := H.2.2.2.2.1 p sp _ _ (hm c hc).1 (hm c hc).2 px py (ga_iyOne H hm hc px py)
  have e2 := sp _ _ _ ⟨c, hc, rfl, rfl, rfl⟩
  exact ne (by grind)
theorem ga_iyXY (H : ga_IY fx fy D m r E pl cm rl) (hm : ∀ c, c < m → fx c < 36 ∧ fy c < 36) {c : Nat} (hc : c < m) (hd : -128 ≤ (D c).toInt ∧ (D c).toInt ≤ 128) (px : pl (fx c) ≠ 0) (py : pl (fy c) = 0) :
    ga_IY fx fy D m r E (upd pl (fy c) 1) (upd cm (fy c) (cm (fx c))) (upd rl (fy c) (rl (fx c) - D c)) := by
  have nE : ¬ E (fx c) := fun e => (H.2.1 _ (hm c hc).2 ((H.1 c hc).mp e)).1 py
  refine ga_iyPut (δ := 0 - D c) H hm (hm c hc).1 (hm c hc).2 px py nE ?_ ?_ ?_ (by grind)
  · intro p sp
    have e2 := sp _ _ _ ⟨c, hc, rfl, rfl, rfl⟩
    grind
  · intro Q sQ
    exact (sQ _ _ _ ⟨c, hc, rfl, rfl, rfl⟩).symm
  · have z : (0 : Int32).toInt = 0 := by decide
    rw [ga_subT (by rw [z]; omega) (by omega), z]
    omega
theorem ga_iyYX (H : ga_IY fx fy D m r E pl cm rl) (hm : ∀ c, c < m → fx c < 36 ∧ fy c < 36) {c : Nat} (hc : c < m) (hd : -128 ≤ (D c).toInt ∧ (D c).toInt ≤ 128) (px : pl (fx c) = 0) (py : pl (fy c) ≠ 0) :
    ga_IY fx fy D m r E (upd pl (fx c) 1) (upd cm (fx c) (cm (fy c))) (upd rl (fx c) (rl (fy c) + D c)) := by
  have nE : ¬ E (fy c) := fun e => (H.2.1 _ (hm c hc).1 ((H.1 c hc).mpr e)).1 px
  refine ga_iyPut (δ := D c) H hm (hm c hc).2 (hm c hc).1 py px nE ?_ ?_ hd rfl
  · intro p sp
    have e2 := sp _ _ _ ⟨c, hc, rfl, rfl, rfl⟩
    grind
  · intro Q sQ
    exact sQ _ _ _ ⟨c, hc, rfl, rfl, rfl⟩
end GLAY
