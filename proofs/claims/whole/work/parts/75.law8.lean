/-! law's case: dearest -/
theorem h1518 {xs : Nat → Int32} {L i : Nat} {g : GS} (hR : REL g) (hi : i + 5 ≤ L) (hL : L ≤ 2560) : P_Ls1518 xs L g (nI i) REL := by
  obtain ⟨lc, po, pc, ps, tl, ts, bh, rc, brh, sl, sv, rf, sz, ac, ba, sp, ou, mt, nw, tr, di, ke, ik, a3⟩ := g
  obtain ⟨⟨S, ok, hC, hM⟩, ⟨o, n, PS, rfl, rfl, rfl, hn, hP, hD, hok⟩, hX, hS⟩ := hR
  unfold P_Ls1518
  unfold P_X5_dearest
  exact x3_begin hC (fun m hm => c_costliest hm ok (fun m2 b2 => x6_dearest hM ok (fun b3 t3 => brT rfl (REL_mk (RLand_mk ok hC hM) ⟨o, n, PS, rfl, rfl, rfl, hn, hP, hD, hok⟩ hX hS))))
