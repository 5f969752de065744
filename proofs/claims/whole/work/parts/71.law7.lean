/-! law's case: bestRoad -/
theorem h1462 {xs : Nat → Int32} {L i : Nat} {g : GS} (hR : REL g) (hi : i + 5 ≤ L) (hL : L ≤ 2560) : P_Ls1462 xs L g (nI i) REL := by
  obtain ⟨lc, po, pc, ps, tl, ts, bh, rc, brh, sl, sv, rf, sz, ac, ba, sp, ou, mt, nw, tr, di, ke, ik, a3⟩ := g
  obtain ⟨⟨S, ok, hC, hM⟩, ⟨o, n, PS, rfl, rfl, rfl, hn, hP, hD, hok⟩, hX, hS⟩ := hR
  have i1 : vp_in (nI i + (1 : Int32)) L := iv (k := 1) (by omega) hL
  unfold P_Ls1462 P_Ls1462_b1515
  refine ⟨i1, l_bestRoad hC ok (fun e => ⟨i1, x6_bestRoad hM ok (fun _ => (cmpN f10 (REL_mk (RLand_mk ok hC hM) ⟨o, n, PS, rfl, rfl, rfl, hn, hP, hD, hok⟩ hX hS))) (fun f => by rw [e] at f; exact nomatch f)⟩) (fun e m' b' => ⟨i1, x6_bestRoad hM ok (fun f => by rw [e] at f; exact nomatch f) (fun _ b2 t2 => (cmpY (a := a3) (REL_mk (RLand_mk ok hC hM) ⟨o, n, PS, rfl, rfl, rfl, hn, hP, hD, hok⟩ hX hS)))⟩)⟩
