/-! the relation -/
def i_Rel (_ : Nat) (u : SX) (v : SY) : Prop := ∃ (sc oc ne ns ca on st ra xu xn xe xd nc yp yu ye yl yr : Int32) (al ap ac en eu ea eb sU sL sK sE sG sO gr po ec cx ou tc ss av cs cb cn kx ky kd pl rl cm hv ba ad ex cy bi : Nat → Int32), u = (sc, oc, ne, ns, ca, on, st, ra, xu, xn, xe, xd, al, ap, ac, en, eu, ea, eb, sU, sL, sK, sE, sG, sO, gr, po, ec, cx, ou, tc, ss, av, cs) ∧ v = (sc, oc, ne, ns, ca, nc, on, yp, yu, ye, st, yl, yr, al, ap, cb, cn, ac, eu, ea, eb, sU, sL, sK, sE, sG, sO, kx, ky, kd, pl, rl, cm, hv, ba, ad, ex, cy, tc, ss, av, cs, bi, ou) ∧
  (∃ c, 8 ≤ c ∧ c ≤ 64 ∧ sc = nI c) ∧ (∃ c o, 4 ≤ c ∧ c ≤ 32 ∧ oc = nI c ∧ o ≤ c ∧ on = nI o) ∧
  (∃ n, ne = nI n ∧ fs_D al ap ac en cb cn eu ea eb n) ∧
  (∃ n, n ≤ 64 ∧ ns = nI n ∧ fs_S n sU sL sK sE sG sO (ca = 1) ∧ (ca = 1 → fs_C n al ap sU sL sK sE sG sO)) ∧
  fa_R 9 ca ∧ yl = ra ∧ ((ra = 0 ∧ yr = 0) ∨ (ra ≠ 0 ∧ yr = 1 ∧ ca = 1)) ∧
  (ca = 1 → (∀ b, b < 4 → ex b = fs_ext gr po al b 32) ∧ ∃ RC, fm_Bi RC ∧ fm_Sto RC (fa_N al) (fa_N ap) ec ad ∧ (ra ≠ 0 → fm_Mem RC cx cy))
theorem i_up {k : Nat} {u : SX} {v : SY} (h : i_Rel k u v) : i_Rel (k + 5) u v := h
