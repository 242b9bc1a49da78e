theorem i_vc (xs : Nat → Int32) (L : Nat) (hL : L ≤ 260) : wpL_law (fun r => r = 1) L xs := by
  refine ⟨22, 2024, by decide, by decide, ?_⟩
  unfold wpX_init
  refine ⟨by decide, by decide, by decide, by decide, by decide, by decide, by decide, by decide, by decide, by decide, by decide, by decide, by decide, by decide, by decide, by decide, by decide, by decide, by decide, by decide, by decide, by decide, by decide, by decide, by decide, by decide, by decide, by decide, by decide, by decide, by decide, by decide, by decide, by decide, by decide, by decide, by decide, by decide, by decide, by decide, by decide, by decide, by decide, by decide, ?_⟩
  refine br_t (by decide) (br_t (by decide) (br_t (by decide) (br_t (by decide) ⟨32 + 1, pz_x0 ?_⟩)))
  exact ⟨4 + 1, pw_15 (post := fun r => r = 1) (kc := 1 + 22) (ks := 34 + 2024) (N := L) (xs := xs) (cb := fun _ => 0) (cn := fun _ => 0) hL rfl (fun _ _ => rfl) (fun i _ => (by show (0 : Int32).toNatClampNeg < 2; decide)) 4 0 rfl (pz_a 32) pz_D⟩
