section GPAS
/-! the reference's passes: one spread from a root -/
variable {fx fy : Nat → Nat} {D : Nat → Int32} {m r j c : Nat} {E : Nat → Prop} {p0 c0 r0 pl cm rl : Nat → Int32}
def gf_In (fx fy : Nat → Nat) (D : Nat → Int32) (m r : Nat) (E : Nat → Prop) (c : Nat) (p0 c0 r0 pl cm rl : Nat → Int32) : Prop :=
  ga_IY fx fy D m r E pl cm rl ∧ (∀ z, p0 z ≠ 0 → pl z ≠ 0) ∧
  ((p0 = pl ∧ c0 = cm ∧ r0 = rl ∧ ∀ c', c' < c → ga_Ok fx fy D pl cm rl c') ∨ (ga_cnt p0 36 < ga_cnt pl 36 ∧ ¬ ∀ c', c' < m → ga_Ok fx fy D p0 c0 r0 c'))
theorem gf_in0 (H : ga_IY fx fy D m r E pl cm rl) : gf_In fx fy D m r E 0 pl cm rl pl cm rl :=
  ⟨H, fun _ h => h, Or.inl ⟨rfl, rfl, rfl, fun c' h => absurd h (Nat.not_lt_zero c')⟩⟩
theorem gf_stay (H : gf_In fx fy D m r E c p0 c0 r0 pl cm rl) (ok : ga_Ok fx fy D pl cm rl c) : gf_In fx fy D m r E (c + 1) p0 c0 r0 pl cm rl := by
  obtain ⟨h1, h2, h3⟩ := H
  refine ⟨h1, h2, ?_⟩
  rcases h3 with ⟨e1, e2, e3, h⟩ | h
  · refine Or.inl ⟨e1, e2, e3, ?_⟩
    intro c' hc'
    by_cases z : c' = c
    · subst z; exact ok
    · exact h c' (by omega)
  · exact Or.inr h
theorem gf_both (H : gf_In fx fy D m r E c p0 c0 r0 pl cm rl) (hm : ∀ c, c < m → fx c < 36 ∧ fy c < 36) (hc : c < m) (px : pl (fx c) ≠ 0) (py : pl (fy c) ≠ 0) (e : rl (fx c) = rl (fy c) + D c) :
    gf_In fx fy D m r E (c + 1) p0 c0 r0 pl cm rl := gf_stay H (Or.inl ⟨px, py, ga_iyOne H.1 hm hc px py, e⟩)
theorem gf_none (H : gf_In fx fy D m r E c p0 c0 r0 pl cm rl) (px : pl (fx c) = 0) (py : pl (fy c) = 0) :
    gf_In fx fy D m r E (c + 1) p0 c0 r0 pl cm rl := gf_stay H (Or.inr ⟨px, py⟩)
theorem gf_grow {w : Nat} {a b : Int32} (H : gf_In fx fy D m r E c p0 c0 r0 pl cm rl) (hc : c < m) (hw : w < 36) (pw : pl w = 0) (no : ¬ ga_Ok fx fy D pl cm rl c)
    (H' : ga_IY fx fy D m r E (upd pl w 1) (upd cm w a) (upd rl w b)) : gf_In fx fy D m r E (c + 1) p0 c0 r0 (upd pl w 1) (upd cm w a) (upd rl w b) := by
  obtain ⟨h1, h2, h3⟩ := H
  have hcn := ga_cnt_up pw 36
  rw [if_pos hw] at hcn
  refine ⟨H', ?_, Or.inr ?_⟩
  · intro z hz
    by_cases e : z = w
    · rw [e, pk_us]; decide
    · rw [pk_un e]; exact h2 z hz
  · rcases h3 with ⟨e1, e2, e3, h⟩ | ⟨h, h'⟩
    · subst e1 e2 e3
      exact ⟨by omega, fun z => no (z c hc)⟩
    · exact ⟨by omega, h'⟩
theorem gf_xy (H : gf_In fx fy D m r E c p0 c0 r0 pl cm rl) (hm : ∀ c, c < m → fx c < 36 ∧ fy c < 36) (hc : c < m) (hd : -128 ≤ (D c).toInt ∧ (D c).toInt ≤ 128) (px : pl (fx c) ≠ 0) (py : pl (fy c) = 0) :
    gf_In fx fy D m r E (c + 1) p0 c0 r0 (upd pl (fy c) 1) (upd cm (fy c) (cm (fx c))) (upd rl (fy c) (rl (fx c) - D c)) :=
  gf_grow H hc (hm c hc).2 py (fun z => z.elim (fun z => z.2.1 py) (fun z => px z.1)) (ga_iyXY H.1 hm hc hd px py)
theorem gf_yx (H : gf_In fx fy D m r E c p0 c0 r0 pl cm rl) (hm : ∀ c, c < m → fx c < 36 ∧ fy c < 36) (hc : c < m) (hd : -128 ≤ (D c).toInt ∧ (D c).toInt ≤ 128) (px : pl (fx c) = 0) (py : pl (fy c) ≠ 0) :
    gf_In fx fy D m r E (c + 1) p0 c0 r0 (upd pl (fx c) 1) (upd cm (fx c) (cm (fy c))) (upd rl (fx c) (rl (fy c) + D c)) :=
  gf_grow H hc (hm c hc).1 px (fun z => z.elim (fun z => z.1 px) (fun z => py z.2)) (ga_iyYX H.1 hm hc hd px py)
def gf_Ps (fx fy : Nat → Nat) (D : Nat → Int32) (m r : Nat) (E : Nat → Prop) (j : Nat) (q0 pl cm rl : Nat → Int32) : Prop :=
  ga_IY fx fy D m r E pl cm rl ∧ (∀ z, q0 z ≠ 0 → pl z ≠ 0) ∧ ((∀ c, c < m → ga_Ok fx fy D pl cm rl c) ∨ j ≤ ga_cnt pl 36)
theorem gf_pass {q0 : Nat → Int32} (H : gf_Ps fx fy D m r E j q0 p0 c0 r0) (H' : gf_In fx fy D m r E m p0 c0 r0 pl cm rl) : gf_Ps fx fy D m r E (j + 1) q0 pl cm rl := by
  obtain ⟨_, k2, h⟩ := H
  obtain ⟨h1, h2, h3⟩ := H'
  refine ⟨h1, fun z hz => h2 z (k2 z hz), ?_⟩
  rcases h3 with ⟨e1, e2, e3, h3⟩ | ⟨h3, h4⟩
  · exact Or.inl h3
  · rcases h with h | h
    · exact absurd h h4
    · exact Or.inr (by omega)
theorem gf_end {q0 : Nat → Int32} (H : gf_Ps fx fy D m r E 40 q0 pl cm rl) : ∀ c, c < m → ga_Ok fx fy D pl cm rl c := by
  rcases H.2.2 with h | h
  · exact h
  · have := ga_cnt_le pl 36
    omega
end GPAS
