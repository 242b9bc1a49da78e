section PST
variable {sc oc ne ns ca on st ra xu xn xe xd : Int32} {al ap ac en eu ea eb sU sL sK sE sG sO gr po ec cx ou tc ss av cs cb cn : Nat → Int32}
def pz_a (i : Nat) : Nat → Int32 := fun j => if j < i then 1 else 0
theorem pz_u (i : Nat) : upd (pz_a i) i 1 = pz_a (i + 1) := by
  funext j
  by_cases e : j = i
  · subst e
    rw [pk_us]
    exact (if_pos (Nat.lt_succ_self j)).symm
  · rw [pk_un e]
    unfold pz_a
    by_cases l : j < i
    · rw [if_pos l, if_pos (by omega)]
    · rw [if_neg l, if_neg (by omega)]
theorem pz_0 : pz_a 0 = fun _ => 0 := by
  funext j
  exact if_neg (Nat.not_lt_zero j)
theorem pz_x {post : St2 → Prop} {mc ms kc ks : Nat} (h : post (sc, oc, ne, ns, ca, on, st, ra, xu, xn, xe, xd, pz_a 32, ap, ac, en, eu, ea, eb, sU, sL, sK, sE, sG, sO, gr, po, ec, cx, ou, tc, ss, av, cs)) : ∀ d i, i + d = 32 → wX_init_254 post mc ms kc ks sc oc ne ns ca on st ra xu xn xe xd (d + 1) (nI i) (pz_a i) ap ac en eu ea eb sU sL sK sE sG sO gr po ec cx ou tc ss av cs := by
  intro d
  induction d with
  | zero =>
    intro i hi
    have e : i = 32 := by omega
    subst e
    exact br_t (by decide) h
  | succ d ih =>
    intro i hi
    refine br_f (nI_ge (b := 32) (by omega) (by decide)) ⟨vp_in_nI (by omega) (by decide), ?_⟩
    rw [nI_clamp (by omega)]
    exact nm_r (pz_u i) (nm_r (nI_1 i) (ih (i + 1) (by omega)))
theorem pz_x0 {post : St2 → Prop} {mc ms kc ks : Nat} (h : post (sc, oc, ne, ns, ca, on, st, ra, xu, xn, xe, xd, pz_a 32, ap, ac, en, eu, ea, eb, sU, sL, sK, sE, sG, sO, gr, po, ec, cx, ou, tc, ss, av, cs)) : wX_init_254 post mc ms kc ks sc oc ne ns ca on st ra xu xn xe xd (32 + 1) 0 (fun _ => 0) ap ac en eu ea eb sU sL sK sE sG sO gr po ec cx ou tc ss av cs := by
  have b := pz_x (mc := mc) (ms := ms) (kc := kc) (ks := ks) h 32 0 rfl
  rw [pz_0] at b
  exact b
theorem pz_D : fs_D (pz_a 32) (fun _ => 0) (fun _ => 0) (fun _ => 0) (fun _ => 0) (fun _ => 0) (fun _ => 0) (fun _ => 0) (fun _ => 0) 0 :=
  ⟨fun k hk => ⟨1, Nat.le_refl 1, by decide, if_pos hk⟩, rfl, fun u _ => ⟨0, by decide, rfl⟩, fun u _ => ⟨0, by decide, rfl⟩, fun i _ => ⟨⟨0, by decide, rfl⟩, ⟨0, by decide, rfl⟩, (by show (0 : Int32) = 0 * 8 + 0; decide)⟩, Nat.zero_le _, fun e he => absurd he (Nat.not_lt_zero e)⟩
end PST
