section HST
/-! statements: places, extras, what is pending -/
variable {sc oc ne ns ca on st ra xu xn xe xd nc yp yu ye yl yr : Int32} {al ap ac en eu ea eb sU sL sK sE sG sO gr po ec cx ou tc ss av cs cb cn kx ky kd pl rl cm hv ba ad ex cy bi : Nat → Int32}
variable {post : Int32 → Prop} {x y : Int32}
theorem hx_placeCount {k e : Nat} (k1 : 1 ≤ k) (k9 : k ≤ 9) (he : e < 1000) (h : post (nI (fb_need k e))) : wpX_placeCount post () (nI k) (nI e) := by
  have c : k = 1 ∨ k = 2 ∨ k = 3 ∨ k = 4 ∨ k = 5 ∨ k = 6 ∨ k = 7 ∨ k = 8 ∨ k = 9 := by omega
  rcases c with rfl | rfl | rfl | rfl | rfl | rfl | rfl | rfl | rfl
  · exact br_f (by decide) (br_f (by decide) (br_t (by decide) (h)))
  · exact br_f (by decide) (br_f (by decide) (br_f (by decide) (br_t (by decide) (h))))
  · exact br_f (by decide) (br_f (by decide) (br_f (by decide) (br_f (by decide) (br_t (by decide) (by rw [show (1 : Int32) + nI e = nI (1 + e) from nI_add 1 e]; exact h)))))
  · exact br_f (by decide) (br_f (by decide) (br_f (by decide) (br_f (by decide) (br_f (by decide) (br_t (by decide) (h))))))
  · exact br_f (by decide) (br_f (by decide) (br_f (by decide) (br_f (by decide) (br_f (by decide) (br_f (by decide) (br_t (by decide) (⟨by decide, by rw [ha_d4 (by omega)]; exact h⟩)))))))
  · exact br_f (by decide) (br_f (by decide) (br_f (by decide) (br_f (by decide) (br_f (by decide) (br_f (by decide) (br_f (by decide) (br_t (by decide) (h))))))))
  · exact br_f (by decide) (br_t (by decide) (h))
  · exact br_f (by decide) (br_t (by decide) (h))
  · exact br_f (by decide) (br_t (by decide) (h))
theorem hx_placeKind {k p : Nat} (k1 : 1 ≤ k) (k9 : k ≤ 9) (hp : p < 1000) (h : post (nI (fb_pl k p))) : wpX_placeKind post () (nI k) (nI p) := by
  have c : k = 1 ∨ k = 2 ∨ k = 3 ∨ k = 4 ∨ k = 5 ∨ k = 6 ∨ k = 7 ∨ k = 8 ∨ k = 9 := by omega
  rcases c with rfl | rfl | rfl | rfl | rfl | rfl | rfl | rfl | rfl
  · exact br_f (by decide) (br_f (by decide) (br_t (by decide) (pk_eq p 0 (fun z => by subst z; exact h) (fun z => by rw [show fb_pl 1 p = 0 from if_neg z] at h; exact h))))
  · exact br_f (by decide) (br_f (by decide) (br_f (by decide) (br_t (by decide) (pk_le 2 p (fun z => by rw [show fb_pl 2 p = 2 from if_neg (show ¬ p < 2 by omega)] at h; exact h) (fun z => by rw [show fb_pl 2 p = 0 from if_pos z] at h; exact h)))))
  · exact br_f (by decide) (br_f (by decide) (br_f (by decide) (br_f (by decide) (br_t (by decide) (pk_eq p 0 (fun z => by subst z; exact h) (fun z => by rw [show fb_pl 3 p = 2 from if_neg z] at h; exact h))))))
  · exact br_f (by decide) (br_f (by decide) (br_f (by decide) (br_f (by decide) (br_f (by decide) (br_t (by decide) (pk_eq p 0 (fun z => by subst z; exact h) (fun z => pk_eq p 1 (fun z => by subst z; exact h) (fun z' => by rw [show fb_pl 4 p = 0 from (if_neg z).trans (if_neg z')] at h; exact h))))))))
  · exact br_f (by decide) (br_f (by decide) (br_f (by decide) (br_f (by decide) (br_f (by decide) (br_f (by decide) (br_t (by decide) (h)))))))
  · exact br_f (by decide) (br_t (by decide) (h))
  · exact br_f (by decide) (br_t (by decide) (h))
  · exact br_f (by decide) (br_t (by decide) (h))
  · exact br_f (by decide) (br_t (by decide) (h))
def fa_X (x y : Int32) : Prop := ∃ k e, 1 ≤ k ∧ k ≤ 9 ∧ x = nI k ∧ y = nI e ∧ e < 16 ∧ fb_xok k e
theorem ha_xk {k : Nat} (k1 : 1 ≤ k) (k9 : k ≤ 9) : fa_X (nI k) y ↔ ∃ e, y = nI e ∧ e < 16 ∧ fb_xok k e := by
  constructor
  · rintro ⟨k', e, a1, a2, a3, a4, a5, a6⟩
    have := fa_inj (by omega) (by omega) a3
    subst this
    exact ⟨e, a4, a5, a6⟩
  · rintro ⟨e, a4, a5, a6⟩
    exact ⟨k, e, k1, k9, rfl, a4, a5, a6⟩
theorem ha_xn (h : ¬ fa_R 10 x ∨ x = nI 0) : ¬ fa_X x y := by
  rintro ⟨k, e, a1, a2, rfl, _⟩
  rcases h with h | h
  · exact h ⟨k, by omega, rfl⟩
  · have := fa_inj (by omega) (by omega) h
    omega
theorem ha_xv {A : Prop} {k : Nat} (k1 : 1 ≤ k) (k9 : k ≤ 9) (hn : y < 0 → A) (hb : (16 : Int32) ≤ y → A) (hv : ∀ e, e < 16 → y = nI e → A) : A := by
  rcases pk_ix y (n := 16) (by decide) with a | a | ⟨e, he, rfl⟩
  · exact hn a
  · exact hb a
  · exact hv e he rfl
theorem ha_x0 {k : Nat} (k1 : 1 ≤ k) (k9 : k ≤ 9) (h : y < 0) : ¬ fa_X (nI k) y := by
  rw [ha_xk k1 k9]
  rintro ⟨e, rfl, he, _⟩
  exact nI_pos (by omega) h
theorem ha_x16 {k : Nat} (k1 : 1 ≤ k) (k9 : k ≤ 9) (h : (16 : Int32) ≤ y) : ¬ fa_X (nI k) y := by
  rw [ha_xk k1 k9]
  rintro ⟨e, rfl, he, _⟩
  exact nI_ge (b := 16) he (by decide) h
theorem ha_xe {k e : Nat} (k1 : 1 ≤ k) (k9 : k ≤ 9) (he : e < 16) : fa_X (nI k) (nI e) ↔ fb_xok k e := by
  rw [ha_xk k1 k9]
  constructor
  · rintro ⟨e', a, b, c⟩
    have := fa_inj (by omega) (by omega) a
    subst this
    exact c
  · intro c
    exact ⟨e, rfl, he, c⟩
theorem ha_ge1 (h : (16 : Int32) ≤ y) : ¬ y < 0 ∧ ¬ y < 1 ∧ 3 < y ∧ 4 < y ∧ 15 < y ∧ ¬ y = 0 := by
  rw [Int32.le_iff_toInt_le] at h
  simp only [Int32.lt_iff_toInt_lt, ← Int32.toInt_inj]
  have e16 : (16 : Int32).toInt = 16 := by decide
  have e0 : (0 : Int32).toInt = 0 := by decide
  have e1 : (1 : Int32).toInt = 1 := by decide
  have e3 : (3 : Int32).toInt = 3 := by decide
  have e4 : (4 : Int32).toInt = 4 := by decide
  have e15 : (15 : Int32).toInt = 15 := by decide
  rw [e16] at h
  rw [e0, e1, e3, e4, e15]
  omega
theorem ha_lt1 (h : y < 0) : y < 1 ∧ ¬ y = 0 := by
  refine ⟨Int32.lt_trans h (by decide), ?_⟩
  rintro rfl
  exact absurd h (by decide)

theorem ha_xz {k : Nat} (k1 : 1 ≤ k) (k9 : k ≤ 9) (n1 : k ≠ 1) (n3 : k ≠ 3) (n5 : k ≠ 5) (z : ¬ y = 0) : ¬ fa_X (nI k) y := by
  rw [ha_xk k1 k9]
  rintro ⟨e, rfl, he, c⟩
  unfold fb_xok at c
  have : e = 0 := by omega
  subst this
  exact z rfl
theorem hk_1 (h1 : fa_X (nI 1) y → post 1) (h0 : ¬ fa_X (nI 1) y → post 0) : (y < 0 → post 0) ∧ (¬ y < 0 → ((3 < y → post 0) ∧ (¬ 3 < y → post 1))) := by
  rcases pk_ix y (n := 16) (by decide) with a | a | ⟨e, he, rfl⟩
  · exact br_t a (h0 (ha_x0 (by decide) (by decide) a))
  · obtain ⟨c0, c1, c3, c4, c5, c6⟩ := ha_ge1 a
    exact br_f c0 (br_t c3 (h0 (ha_x16 (by decide) (by decide) a)))
  · have key := ha_xe (k := 1) (e := e) (by decide) (by decide) he
    unfold fb_xok at key
    exact br_f (nI_pos (by omega)) (pk_lt 3 e (fun z => h0 (by rw [key]; omega)) (fun z => h1 (by rw [key]; omega)))
theorem hk_3 (h1 : fa_X (nI 3) y → post 1) (h0 : ¬ fa_X (nI 3) y → post 0) : (y < 1 → post 0) ∧ (¬ y < 1 → ((4 < y → post 0) ∧ (¬ 4 < y → post 1))) := by
  rcases pk_ix y (n := 16) (by decide) with a | a | ⟨e, he, rfl⟩
  · exact br_t (ha_lt1 a).1 (h0 (ha_x0 (by decide) (by decide) a))
  · obtain ⟨c0, c1, c3, c4, c5, c6⟩ := ha_ge1 a
    exact br_f c1 (br_t c4 (h0 (ha_x16 (by decide) (by decide) a)))
  · have key := ha_xe (k := 3) (e := e) (by decide) (by decide) he
    unfold fb_xok at key
    exact pk_lt e 1 (fun z => h0 (by rw [key]; omega)) (fun z' => pk_lt 4 e (fun z => h0 (by rw [key]; omega)) (fun z => h1 (by rw [key]; omega)))
theorem hk_5x (h1 : fa_X (nI 5) y → post 1) (h0 : ¬ fa_X (nI 5) y → post 0) : (y < 0 → post 0) ∧ (¬ y < 0 → ((16 ≤ y → post 0) ∧ (¬ 16 ≤ y → (¬ (4 : Int32) = 0 ∧ (((y - y / 4 * 4) = 0 → post 0) ∧ (¬ (y - y / 4 * 4) = 0 → post 1)))))) := by
  rcases pk_ix y (n := 16) (by decide) with a | a | ⟨e, he, rfl⟩
  · exact br_t a (h0 (ha_x0 (by decide) (by decide) a))
  · obtain ⟨c0, c1, c3, c4, c5, c6⟩ := ha_ge1 a
    exact br_f c0 (br_t a (h0 (ha_x16 (by decide) (by decide) a)))
  · have key := ha_xe (k := 5) (e := e) (by decide) (by decide) he
    unfold fb_xok at key
    refine br_f (nI_pos (by omega)) (br_f (nI_ge (b := 16) he (by decide)) ⟨by decide, ?_⟩)
    rw [ha_r4 (by omega)]
    exact pk_eq (e % 4) 0 (fun z => h0 (by rw [key]; omega)) (fun z => h1 (by rw [key]; omega))
theorem hk_5y (h1 : fa_X (nI 5) y → post 1) (h0 : ¬ fa_X (nI 5) y → post 0) : (y < 1 → post 0) ∧ (¬ y < 1 → ((15 < y → post 0) ∧ (¬ 15 < y → (¬ (4 : Int32) = 0 ∧ (((y - y / 4 * 4) = 0 → post 0) ∧ (¬ (y - y / 4 * 4) = 0 → post 1)))))) := by
  rcases pk_ix y (n := 16) (by decide) with a | a | ⟨e, he, rfl⟩
  · exact br_t (ha_lt1 a).1 (h0 (ha_x0 (by decide) (by decide) a))
  · obtain ⟨c0, c1, c3, c4, c5, c6⟩ := ha_ge1 a
    exact br_f c1 (br_t c5 (h0 (ha_x16 (by decide) (by decide) a)))
  · have key := ha_xe (k := 5) (e := e) (by decide) (by decide) he
    unfold fb_xok at key
    refine pk_lt e 1 (fun z => h0 (by rw [key]; omega)) (fun z' => br_f (nI_nlt (a := 15) (by omega) (by decide)) ⟨by decide, ?_⟩)
    rw [ha_r4 (by omega)]
    exact pk_eq (e % 4) 0 (fun z => h0 (by rw [key]; omega)) (fun z => h1 (by rw [key]; omega))
def fb_pend (n : Nat) (sK sE sG : Nat → Int32) : Nat := if n = 0 then 0 else fb_need (fa_N sK (n - 1)) (fa_N sE (n - 1)) - fa_N sG (n - 1)
theorem ha_V {s : Nat} {f : Prop} (V : fs_V sU sL sK sE sG sO s f) : (sK s = nI (fa_N sK s) ∧ 1 ≤ fa_N sK s ∧ fa_N sK s ≤ 9) ∧ (sE s = nI (fa_N sE s) ∧ fb_xok (fa_N sK s) (fa_N sE s) ∧ fa_N sE s < 16) ∧ (sG s = nI (fa_N sG s) ∧ fa_N sG s ≤ fb_need (fa_N sK s) (fa_N sE s) ∧ fa_N sG s ≤ 5) ∧ (sU s = nI (fa_N sU s) ∧ fa_N sU s < 4) ∧ (sL s = nI (fa_N sL s) ∧ fa_N sL s < 100) ∧ (f → fa_N sG s = fb_need (fa_N sK s) (fa_N sE s)) ∧
    (∀ p, p < fa_N sG s → ∃ c, sO (s * 5 + p) = nI c ∧ fb_al (fb_pl (fa_N sK s) p) c) := by
  obtain ⟨u, l, k, e, g, a1, a2, a3, a4, a5, a6, a7, a8, a9, a10, a11, a12, a13⟩ := V
  have e16 : e < 16 := by unfold fb_xok at a9; omega
  have n5 := fb_need5 a9
  rw [fa_Re a1 (by omega), fa_Re a3 (by omega), fa_Re a5 (by omega), fa_Re a8 (by omega), fa_Re a10 (by omega)]
  exact ⟨⟨a5, a6, a7⟩, ⟨a8, a9, e16⟩, ⟨a10, a11, by omega⟩, ⟨a1, a2⟩, ⟨a3, a4⟩, a12, a13⟩
theorem hx_await {n : Nat} {f : Prop} (hn : n ≤ 64) (S : fs_S n sU sL sK sE sG sO f) (h : post (nI (fb_pend n sK sE sG))) : wpX_awaitedOperands post (sc, oc, ne, nI n, ca, on, st, ra, xu, xn, xe, xd, al, ap, ac, en, eu, ea, eb, sU, sL, sK, sE, sG, sO, gr, po, ec, cx, ou, tc, ss, av, cs) := by
  refine pk_eq n 0 (fun z => by subst z; exact h) (fun z => ?_)
  have e1 : nI n - 1 = nI (n - 1) := pk_sub (b := 1) (by omega)
  refine nm_r e1 ?_
  obtain ⟨⟨b1, b2, b3⟩, ⟨c1, c2, c3⟩, ⟨d1, d2, d3⟩, _⟩ := ha_V (S (n - 1) (by omega))
  have v : vp_in (nI (n - 1)) 64 := vp_in_nI (by omega) (by decide)
  refine ⟨v, v, ?_⟩
  rw [nI_clamp (by omega), b1, c1]
  refine hx_placeCount b2 b3 (by omega) ⟨v, ?_⟩
  rw [d1, pk_sub d2]
  unfold fb_pend at h
  rw [if_neg z] at h
  exact h
def fa_A (w : Nat) (x : Int32) : Prop := ∃ c, x = nI c ∧ fb_al w c
theorem ha_A0 : fa_A 0 x ↔ (fa_R 10000 x ∨ fa_F x ∨ fa_I x) := by
  constructor
  · rintro ⟨c, rfl, h⟩
    unfold fb_al at h
    rcases h with h | h | ⟨_, h | h | h⟩
    · omega
    · omega
    · exact Or.inl ⟨c, h, rfl⟩
    · exact Or.inr (Or.inl ⟨c, h, rfl⟩)
    · exact Or.inr (Or.inr ⟨c, h, rfl⟩)
  · rintro (⟨c, h, rfl⟩ | ⟨c, h, rfl⟩ | ⟨c, h, rfl⟩)
    · exact ⟨c, rfl, Or.inr (Or.inr ⟨rfl, Or.inl h⟩)⟩
    · exact ⟨c, rfl, Or.inr (Or.inr ⟨rfl, Or.inr (Or.inl h)⟩)⟩
    · exact ⟨c, rfl, Or.inr (Or.inr ⟨rfl, Or.inr (Or.inr h)⟩)⟩
theorem ha_A1 : fa_A 1 x ↔ (fa_F x ∨ fa_I x) := by
  constructor
  · rintro ⟨c, rfl, h⟩
    unfold fb_al at h
    rcases h with h | ⟨_, h | h⟩ | h
    · omega
    · exact Or.inl ⟨c, h, rfl⟩
    · exact Or.inr ⟨c, h, rfl⟩
    · omega
  · rintro (⟨c, h, rfl⟩ | ⟨c, h, rfl⟩)
    · exact ⟨c, rfl, Or.inr (Or.inl ⟨rfl, Or.inl h⟩)⟩
    · exact ⟨c, rfl, Or.inr (Or.inl ⟨rfl, Or.inr h⟩)⟩
theorem ha_A2 : fa_A 2 x ↔ fa_R 10000 x := by
  constructor
  · rintro ⟨c, rfl, h⟩
    unfold fb_al at h
    exact ⟨c, by omega, rfl⟩
  · rintro ⟨c, h, rfl⟩
    exact ⟨c, rfl, Or.inl ⟨rfl, h⟩⟩
theorem ha_nb (z : Int32) (h : z = 0 ∨ z = 1) : narrow .boolean (.int z) = .int z := by
  rcases h with rfl | rfl <;> rfl
end HST
