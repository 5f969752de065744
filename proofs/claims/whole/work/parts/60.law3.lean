/-! law's cases about inventions -/
theorem nI_inj6 {j k : Nat} {x : Int32} (hj : j < 6) (hk : k < 6) (h1 : x = nI j) (h2 : x = nI k) : j = k := by
  rw [h1, i_eqN (by omega) (by omega)] at h2; exact h2
theorem isT6_k {k : Nat} {x : Int32} (hk : k < 6) (h : x = nI k) : isT 6 x = true := by rw [h]; exact isT_in (by omega) hk
theorem h242 {xs : Nat → Int32} {L i : Nat} {g : GS} (hR : REL g) (hi : i + 5 ≤ L) (hL : L ≤ 2560) : P_Ls242 xs L g (nI i) REL := by
  obtain ⟨lc, po, pc, ps, tl, ts, bh, rc, brh, sl, sv, rf, sz, ac, ba, sp, ou, mt, nw, tr, di, ke, ik, a3⟩ := g
  obtain ⟨⟨S, ok, hC, hM⟩, ⟨o, n, PS, rfl, rfl, rfl, hn, hP, hD, hok⟩, hX, hS⟩ := hR
  have i1 : vp_in (nI i + (1 : Int32)) L := iv (k := 1) (by omega) hL
  unfold P_Ls242 P_Ls242_b295
  refine ⟨i1, l_about hC ok (fun e => ⟨i1, x6_about hM ok (fun _ => (cmpN f10 (REL_mk (RLand_mk ok hC hM) ⟨o, n, PS, rfl, rfl, rfl, hn, hP, hD, hok⟩ hX hS))) (fun k hk hx => by rw [isT6_k hk hx] at e; exact nomatch e)⟩) (fun k hk hx b' => ⟨i1, x6_about hM ok (fun f => by rw [isT6_k hk hx] at f; exact nomatch f) (fun k2 hk2 hx2 b2 => ?_)⟩)⟩
  have := nI_inj6 hk hk2 hx hx2
  subst this
  exact (cmpY (a := a3) (REL_mk (RLand_mk ok hC hM) ⟨o, n, PS, rfl, rfl, rfl, hn, hP, hD, hok⟩ hX hS))
theorem h986 {xs : Nat → Int32} {L i : Nat} {g : GS} (hR : REL g) (hi : i + 5 ≤ L) (hL : L ≤ 2560) : P_Ls986 xs L g (nI i) REL := by
  obtain ⟨lc, po, pc, ps, tl, ts, bh, rc, brh, sl, sv, rf, sz, ac, ba, sp, ou, mt, nw, tr, di, ke, ik, a3⟩ := g
  obtain ⟨⟨S, ok, hC, hM⟩, ⟨o, n, PS, rfl, rfl, rfl, hn, hP, hD, hok⟩, hX, hS⟩ := hR
  have i1 : vp_in (nI i + (1 : Int32)) L := iv (k := 1) (by omega) hL
  unfold P_Ls986 P_Ls986_b1039
  refine ⟨i1, l_inventions hC ok (fun e => ⟨i1, x6_inventions hM ok (fun _ => (cmpN f10 (REL_mk (RLand_mk ok hC hM) ⟨o, n, PS, rfl, rfl, rfl, hn, hP, hD, hok⟩ hX hS))) (fun k hk hx => by rw [isT6_k hk hx] at e; exact nomatch e)⟩) (fun k hk hx b' => ⟨i1, x6_inventions hM ok (fun f => by rw [isT6_k hk hx] at f; exact nomatch f) (fun k2 hk2 hx2 b2 => ?_)⟩)⟩
  have := nI_inj6 hk hk2 hx hx2
  subst this
  exact (cmpY (a := a3) (REL_mk (RLand_mk ok hC hM) ⟨o, n, PS, rfl, rfl, rfl, hn, hP, hD, hok⟩ hX hS))
theorem h1110 {xs : Nat → Int32} {L i : Nat} {g : GS} (hR : REL g) (hi : i + 5 ≤ L) (hL : L ≤ 2560) : P_Ls1110 xs L g (nI i) REL := by
  obtain ⟨lc, po, pc, ps, tl, ts, bh, rc, brh, sl, sv, rf, sz, ac, ba, sp, ou, mt, nw, tr, di, ke, ik, a3⟩ := g
  obtain ⟨⟨S, ok, hC, hM⟩, ⟨o, n, PS, rfl, rfl, rfl, hn, hP, hD, hok⟩, hX, hS⟩ := hR
  have i1 : vp_in (nI i + (1 : Int32)) L := iv (k := 1) (by omega) hL
  unfold P_Ls1110 P_Ls1110_b1163
  refine ⟨i1, l_choices hC ok (fun e => ⟨i1, x6_choices hM ok (fun _ => (cmpN f10 (REL_mk (RLand_mk ok hC hM) ⟨o, n, PS, rfl, rfl, rfl, hn, hP, hD, hok⟩ hX hS))) (fun k hk hx => by rw [isT6_k hk hx] at e; exact nomatch e)⟩) (fun k hk hx b' => ⟨i1, x6_choices hM ok (fun f => by rw [isT6_k hk hx] at f; exact nomatch f) (fun k2 hk2 hx2 b2 => ?_)⟩)⟩
  have := nI_inj6 hk hk2 hx hx2
  subst this
  exact (cmpY (a := a3) (REL_mk (RLand_mk ok hC hM) ⟨o, n, PS, rfl, rfl, rfl, hn, hP, hD, hok⟩ hX hS))
theorem h1042 {xs : Nat → Int32} {L i : Nat} {g : GS} (hR : REL g) (hi : i + 5 ≤ L) (hL : L ≤ 2560) : P_Ls1042 xs L g (nI i) REL := by
  obtain ⟨lc, po, pc, ps, tl, ts, bh, rc, brh, sl, sv, rf, sz, ac, ba, sp, ou, mt, nw, tr, di, ke, ik, a3⟩ := g
  obtain ⟨⟨S, ok, hC, hM⟩, ⟨o, n, PS, rfl, rfl, rfl, hn, hP, hD, hok⟩, hX, hS⟩ := hR
  have i1 : vp_in (nI i + (1 : Int32)) L := iv (k := 1) (by omega) hL
  have i2 : vp_in (nI i + (2 : Int32)) L := iv (k := 2) (by omega) hL
  unfold P_Ls1042 P_Ls1042_b1107
  refine ⟨i1, i2, l_invented hC ok (fun e => ⟨i1, i2, x6_invented hM ok (fun _ => (cmpN f10 (REL_mk (RLand_mk ok hC hM) ⟨o, n, PS, rfl, rfl, rfl, hn, hP, hD, hok⟩ hX hS))) (fun f k hk hx => by rw [f, isT6_k hk hx] at e; exact nomatch e)⟩) (fun f k hk hx b' => ⟨i1, i2, x6_invented hM ok (fun e => by rw [f, isT6_k hk hx] at e; exact nomatch e) (fun _ k2 hk2 hx2 b2 => ?_)⟩)⟩
  have := nI_inj6 hk hk2 hx hx2
  subst this
  exact (cmpY (a := a3) (REL_mk (RLand_mk ok hC hM) ⟨o, n, PS, rfl, rfl, rfl, hn, hP, hD, hok⟩ hX hS))
