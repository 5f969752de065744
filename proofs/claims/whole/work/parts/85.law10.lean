/-! law's case: runScript -/
theorem h1531 {xs : Nat → Int32} {L i : Nat} {g : GS} (hR : REL g) (hi : i + 5 ≤ L) (hL : L ≤ 2560) : P_Ls1531 xs L g (nI i) REL := by
  obtain ⟨lc, po, pc, ps, tl, ts, bh, rc, brh, sl, sv, rf, sz, ac, ba, sp, ou, mt, nw, tr, di, ke, ik, a3⟩ := g
  obtain ⟨⟨S, ok, hC, hM⟩, ⟨o, n, PS, rfl, rfl, rfl, hn, hP, hD, hok⟩, hX, hS⟩ := hR
  have i1 : vp_in (nI i + (1 : Int32)) L := iv (k := 1) (by omega) hL
  have i2 : vp_in (nI i + (2 : Int32)) L := iv (k := 2) (by omega) hL
  have i3 : vp_in (nI i + (3 : Int32)) L := iv (k := 3) (by omega) hL
  unfold P_Ls1531 P_Ls1531_b1628
  refine ⟨i1, i2, i3, l_runScript hC ok (fun e => ⟨i1, i2, i3, x6_runScript hM ok (fun _ => (cmpN f10 (REL_mk (RLand_mk ok hC hM) ⟨o, n, PS, rfl, rfl, rfl, hn, hP, hD, hok⟩ hX hS))) (fun f => by rw [e] at f; exact nomatch f)⟩) (fun e m' b' => ⟨i1, i2, i3, x6_runScript hM ok (fun f => by rw [e] at f; exact nomatch f) (fun _ b2 t2 => (cmpY (a := a3) (REL_mk (RLand_mk ok hC hM) ⟨o, n, PS, rfl, rfl, rfl, hn, hP, hD, hok⟩ hX hS)))⟩)⟩
