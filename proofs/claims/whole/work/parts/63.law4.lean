/-! law's cases: since when, in which order -/
theorem h1166 {xs : Nat → Int32} {L i : Nat} {g : GS} (hR : REL g) (hi : i + 5 ≤ L) (hL : L ≤ 2560) : P_Ls1166 xs L g (nI i) REL := by
  obtain ⟨lc, po, pc, ps, tl, ts, bh, rc, brh, sl, sv, rf, sz, ac, ba, sp, ou, mt, nw, tr, di, ke, ik, a3⟩ := g
  obtain ⟨⟨S, ok, hC, hM⟩, ⟨o, n, PS, rfl, rfl, rfl, hn, hP, hD, hok⟩, hX, hS⟩ := hR
  have i1 : vp_in (nI i + (1 : Int32)) L := iv (k := 1) (by omega) hL
  have i2 : vp_in (nI i + (2 : Int32)) L := iv (k := 2) (by omega) hL
  unfold P_Ls1166 P_Ls1166_b1231
  refine ⟨i1, i2, l_since hC ok (fun e => ⟨i1, i2, x6_since hM ok (fun _ => (cmpN f10 (REL_mk (RLand_mk ok hC hM) ⟨o, n, PS, rfl, rfl, rfl, hn, hP, hD, hok⟩ hX hS))) (fun f => by rw [e] at f; exact nomatch f) (fun f => by rw [e] at f; exact nomatch f)⟩)
    (fun e e2 => ⟨i1, i2, x6_since hM ok (fun f => by rw [e] at f; exact nomatch f) (fun _ _ => (cmpN f20 (REL_mk (RLand_mk ok hC hM) ⟨o, n, PS, rfl, rfl, rfl, hn, hP, hD, hok⟩ hX hS))) (fun _ f => by rw [e2] at f; exact nomatch f)⟩)
    (fun e e2 b' => ⟨i1, i2, x6_since hM ok (fun f => by rw [e] at f; exact nomatch f) (fun _ f => by rw [e2] at f; exact nomatch f) (fun _ _ b2 => (cmpY (a := a3) (REL_mk (RLand_mk ok hC hM) ⟨o, n, PS, rfl, rfl, rfl, hn, hP, hD, hok⟩ hX hS)))⟩)⟩
theorem h1234 {xs : Nat → Int32} {L i : Nat} {g : GS} (hR : REL g) (hi : i + 5 ≤ L) (hL : L ≤ 2560) : P_Ls1234 xs L g (nI i) REL := by
  obtain ⟨lc, po, pc, ps, tl, ts, bh, rc, brh, sl, sv, rf, sz, ac, ba, sp, ou, mt, nw, tr, di, ke, ik, a3⟩ := g
  obtain ⟨⟨S, ok, hC, hM⟩, ⟨o, n, PS, rfl, rfl, rfl, hn, hP, hD, hok⟩, hX, hS⟩ := hR
  have i1 : vp_in (nI i + (1 : Int32)) L := iv (k := 1) (by omega) hL
  have i2 : vp_in (nI i + (2 : Int32)) L := iv (k := 2) (by omega) hL
  unfold P_Ls1234 P_Ls1234_b1299
  have dis : ∀ {x y : Int32} {j k : Nat}, j < 6 → k < 2 ^ 31 → x = nI j → y = nI k → ¬ (isT 6 x = false ∨ y < 0) := fun hj hk hx hy q => by
    rw [hx, hy, isT_in (by omega) hj] at q
    exact q.elim (fun z => nomatch z) (fun z => nI_pos hk z)
  refine ⟨i1, i2, l_reached hC ok (fun e => ⟨i1, i2, x6_reached hM ok (fun _ => (cmpN f10 (REL_mk (RLand_mk ok hC hM) ⟨o, n, PS, rfl, rfl, rfl, hn, hP, hD, hok⟩ hX hS))) (fun j k hj hk hx hy => absurd e (dis hj hk hx hy))⟩)
    (fun j k hj hk hx hy b' => ⟨i1, i2, x6_reached hM ok (fun e => absurd e (dis hj hk hx hy)) (fun j2 k2 hj2 hk2 hx2 hy2 b2 => ?_)⟩)⟩
  have e1 := nI_inj6 hj hj2 hx hx2
  have e2 : k = k2 := by rw [hy, i_eqN hk hk2] at hy2; exact hy2
  subst e1 e2
  exact (cmpY (a := a3) (REL_mk (RLand_mk ok hC hM) ⟨o, n, PS, rfl, rfl, rfl, hn, hP, hD, hok⟩ hX hS))
theorem h_init : P_X5_init (fun xm3 xm21 => REL (G0 xm3 xm21)) := by
  unfold P_X5_init P_X3_init
  refine s1_init (fun C hC => s1_init (fun C2 _ => ?_))
  refine REL_mk ⟨S0, OK_S0, hC, fun k _ => rfl⟩ ⟨0, 0, fun _ => S0, rfl, rfl, rfl, by omega, ⟨by omega, fun j hj => absurd hj (by omega)⟩, fun j hj => absurd hj (by omega), fun j hj => absurd hj (by omega)⟩ ⟨0, fun _ => 0, rfl, rfl, by omega, fun i hi => absurd hi (by omega), fun i hi => absurd hi (by omega)⟩ (fun j _ => Or.inl ⟨rfl, rfl⟩)
