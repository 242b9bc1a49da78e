theorem i_vc (xs : Nat → Int32) (L : Nat) (hL : L ≤ 260) : wpL_law (fun r => r = 1) L xs := by
  refine ⟨22, 2024, by decide, by decide, ?_⟩
  unfold wpX_init
  refine ⟨by decide, by decide, by decide, by decide, by decide, by decide, by decide, by decide, by decide, by decide, by decide, by decide, by decide, by decide, by decide, by decide, by decide, by decide, by decide, by decide, by decide, by decide, by decide, by decide, by decide, by decide, by decide, by decide, by decide, by decide, by decide, by decide, by decide, by decide, by decide, by decide, by decide, by decide, by decide, by decide, by decide, by decide, by decide, by decide, ?_⟩
  refine br_t (by decide) (br_t (by decide) (br_t (by decide) (br_t (by decide) ⟨32 + 1, ?_⟩)))
  rw [← pz_0]
  refine pz_x (sc := nI 8) (oc := nI 4) (ne := 0) (ns := 0) (ca := 0) (on := 0) (st := 0) (ra := 0) (xu := 0) (xn := 0) (xe := -1) (xd := 0) (ap := fun _ => 0) (ac := fun _ => 0) (en := fun _ => 0) (eu := fun _ => 0) (ea := fun _ => 0) (eb := fun _ => 0) (sU := fun _ => 0) (sL := fun _ => 0) (sK := fun _ => 0) (sE := fun _ => 0) (sG := fun _ => 0) (sO := fun _ => 0) (gr := fun _ => 0) (po := fun _ => 0) (ec := fun _ => 0) (cx := fun _ => 0) (ou := fun _ => 0) (tc := fun _ => 0) (ss := fun _ => 0) (av := fun _ => 0) (cs := fun _ => 0) ?_ 32 0 rfl
  exact ⟨4 + 1, pw_15 (kc := 1 + 22) (ks := 34 + 2024) (N := L) (xs := xs) (cb := fun _ => 0) (cn := fun _ => 0) hL rfl (fun _ _ => rfl) (fun i _ => (by show (0 : Int32).toNatClampNeg < 2; decide)) 4 0 rfl (pz_a 32) pz_D⟩
