/-! law's cases: passed, ifLaid -/
theorem h1302 {xs : Nat → Int32} {L i : Nat} {g : GS} (hR : REL g) (hi : i + 5 ≤ L) (hL : L ≤ 2560) : P_Ls1302 xs L g (nI i) REL := by
  obtain ⟨lc, po, pc, ps, tl, ts, bh, rc, brh, sl, sv, rf, sz, ac, ba, sp, ou, mt, nw, tr, di, ke, ik, a3⟩ := g
  obtain ⟨⟨S, ok, hC, hM⟩, ⟨o, n, PS, rfl, rfl, rfl, hn, hP, hD, hok⟩, hX, hS⟩ := hR
  have i1 : vp_in (nI i + (1 : Int32)) L := iv (k := 1) (by omega) hL
  have i2 : vp_in (nI i + (2 : Int32)) L := iv (k := 2) (by omega) hL
  have i3 : vp_in (nI i + (3 : Int32)) L := iv (k := 3) (by omega) hL
  unfold P_Ls1302 P_Ls1302_b1379
  refine ⟨i1, i2, i3, l_passed hC ok (fun e => ⟨i1, i2, i3, x6_passed hM ok (fun _ => (cmpN f10 (REL_mk (RLand_mk ok hC hM) ⟨o, n, PS, rfl, rfl, rfl, hn, hP, hD, hok⟩ hX hS))) (fun f => by rw [e] at f; exact nomatch f) (fun a b k ha hb hk hx hy hz => by rw [hx, hy] at e; unfold bothT at e; rw [isT_in (by have := ok.T; omega) ha, isT_in (by have := ok.T; omega) hb] at e; exact nomatch e)⟩)
    (fun e e2 => ⟨i1, i2, i3, x6_passed hM ok (fun f => by rw [e] at f; exact nomatch f) (fun _ _ => (cmpN f20 (REL_mk (RLand_mk ok hC hM) ⟨o, n, PS, rfl, rfl, rfl, hn, hP, hD, hok⟩ hX hS))) (fun a b k ha hb hk hx hy hz => by rw [isT6_k hk hz] at e2; exact nomatch e2)⟩)
    (fun a b k ha hb hk hx hy hz b' => ⟨i1, i2, i3, x6_passed hM ok (fun e => by rw [hx, hy] at e; unfold bothT at e; rw [isT_in (by have := ok.T; omega) ha, isT_in (by have := ok.T; omega) hb] at e; exact nomatch e) (fun _ e => by rw [isT6_k hk hz] at e; exact nomatch e) (fun a2 b2 k2 ha2 hb2 hk2 hx2 hy2 hz2 bm => ?_)⟩)⟩
  have hT := ok.T
  have e1 : a = a2 := by rw [hx, i_eqN (by omega) (by omega)] at hx2; exact hx2
  have e2 : b = b2 := by rw [hy, i_eqN (by omega) (by omega)] at hy2; exact hy2
  have e3 := nI_inj6 hk hk2 hz hz2
  subst e1 e2 e3
  exact (cmpY (a := a3) (REL_mk (RLand_mk ok hC hM) ⟨o, n, PS, rfl, rfl, rfl, hn, hP, hD, hok⟩ hX hS))
