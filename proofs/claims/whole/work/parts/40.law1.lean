/-! the relation; law's plain cases -/
def RLand (lc nw : Nat → Int32) : Prop := ∃ S, OK S ∧ AgC lc S ∧ AgM nw S
def RPast (po pc : Int32) (ps : Nat → Nat → Int32) (ac : Int32) (di : Nat → Int32) : Prop := ∃ o n PS, po = nI o ∧ pc = nI n ∧ ac = nI n ∧ n ≤ 14 ∧ PC o ps n PS ∧ AgD di n PS ∧ ∀ j, j < n → OK (PS j)
def RText (tl : Int32) (ts : Nat → Int32) (sz : Int32) (mt : Nat → Int32) : Prop := ∃ n t, tl = nI n ∧ sz = nI n ∧ n ≤ 100 ∧ AgX ts n t ∧ AgX mt n t
def REL : GS → Prop
  | (lc, po, pc, ps, tl, ts, _, _, _, sl, sv, _, sz, ac, _, _, _, mt, nw, _, di, ke, ik, _) => RLand lc nw ∧ RPast po pc ps ac di ∧ RText tl ts sz mt ∧ RSl sl sv ke ik
theorem REL_mk {lc po pc ps tl ts bh rc brh sl sv rf sz ac ba sp ou mt nw tr di ke ik a3} (h1 : RLand lc nw) (h2 : RPast po pc ps ac di) (h3 : RText tl ts sz mt) (h4 : RSl sl sv ke ik) :
    REL (lc, po, pc, ps, tl, ts, bh, rc, brh, sl, sv, rf, sz, ac, ba, sp, ou, mt, nw, tr, di, ke, ik, a3) := ⟨h1, h2, h3, h4⟩
theorem RLand_mk {lc nw S} (ok : OK S) (hC : AgC lc S) (hM : AgM nw S) : RLand lc nw := ⟨S, ok, hC, hM⟩
theorem RPast_push {n o' : Nat} {PS : Nat → Nat → Nat} {S : Nat → Nat} {ps' : Nat → Nat → Int32} {di' : Nat → Int32} (hn : n ≤ 14) (hok : ∀ j, j < n → OK (PS j)) (ok : OK S) (h1 : PC o' ps' (pushN n) (pushP n PS S)) (h2 : AgD di' (pushN n) (pushP n PS S)) : RPast (nI o') (nI (pushN n)) ps' (nI (pushN n)) di' :=
  ⟨o', pushN n, pushP n PS S, rfl, rfl, rfl, pushN_le hn, h1, h2, push_all hok ok⟩
theorem iv {i k L : Nat} (hi : i + k < L) (hL : L ≤ 2560) : vp_in (nI i + nI k) L := by rw [nI_add]; exact nI_in hi (by omega)
theorem cmp_ok (a : Nat → Int64) (r : Int32) : lg_cmp (outA a r (0 : Int32).toNatClampNeg) r.toInt64 = 0 := (lg_cmp_eq _ _).mpr (if_pos rfl)
theorem cmpY {a : Nat → Int64} {r : Int32} {A : Prop} (h : A) : ((0 : Int32) = 0 → (((0 : Int32) = 0 → ((lg_cmp (outA a r (0 : Int32).toNatClampNeg) r.toInt64 = 0 → A) ∧ (¬ (lg_cmp (outA a r (0 : Int32).toNatClampNeg) r.toInt64 = 0) → False))) ∧ (¬ ((0 : Int32) = 0) → A))) ∧ (¬ ((0 : Int32) = 0) → False) :=
  brT rfl (brT rfl (brT (cmp_ok a r) h))
theorem cmpN {c : Int32} {B A : Prop} (hc : ¬ c = 0) (h : A) : (c = c → ((c = 0 → B) ∧ (¬ (c = 0) → A))) ∧ (¬ (c = c) → False) := brT rfl (brF hc h)
theorem f20 : ¬ ((2 : Int32) = 0) := by decide
theorem f30 : ¬ ((3 : Int32) = 0) := by decide
theorem whyL_0 {S : Nat → Nat} {x y len : Int32} (z : canJ S x y len = true) : whyL S x y len = 0 := by
  have q := of_decide_eq_true z
  unfold whyL; rw [if_pos ⟨q.1, q.2.1⟩, if_neg (fun w => w.elim q.2.2.1 (fun w => by rw [q.2.2.2.1] at w; exact nomatch w)), if_pos z]
theorem rdX_both {S : Nat → Nat} {x y : Int32} (h : 0 < rdX S x y) : bothT S x y = true := by
  by_cases q : isT (S 0) x = true ∧ isT (S 0) y = true
  · unfold bothT; rw [q.1, q.2]; rfl
  · unfold rdX at h; rw [if_neg q] at h; omega
theorem isNote_T {S : Nat → Nat} {x t y : Int32} (h : isNote S x t y = true) : isT (S 0) x = true := (of_decide_eq_true h).1
theorem isPair_T {S : Nat → Nat} {x t : Int32} (h : isPair S x t = true) : isT (S 0) x = true ∧ isT 6 t = true := of_decide_eq_true h
theorem OK_noteS2 {S : Nat → Nat} (ok : OK S) {x t y : Int32} (h : isNote S x t y = true) (has : Int32) : OK (noteS S (NN x) (NN t) (NN y) has) := by
  have hT := ok.T
  obtain ⟨e, f, g⟩ := of_decide_eq_true h
  obtain ⟨a, ha, rfl⟩ := isT_ex (by omega) e
  obtain ⟨b, hb, rfl⟩ := isT_ex (by omega) f
  obtain ⟨n, hn, rfl⟩ := isYr_ex g
  rw [NN_nI (by omega), NN_nI (by omega), NN_nI (by omega)]
  exact OK_noteS ok ha hb hn has
theorem OK_dropS2 {S : Nat → Nat} (ok : OK S) {x t : Int32} (h : isPair S x t = true) : OK (dropS S (NN x) (NN t)) := by
  have hT := ok.T
  obtain ⟨e, f⟩ := of_decide_eq_true h
  obtain ⟨a, ha, rfl⟩ := isT_ex (by omega) e
  obtain ⟨b, hb, rfl⟩ := isT_ex (by omega) f
  rw [NN_nI (by omega), NN_nI (by omega)]
  exact OK_dropS ok (by omega) hb
theorem h298 {xs : Nat → Int32} {L i : Nat} {g : GS} (hR : REL g) (hi : i + 5 ≤ L) (hL : L ≤ 2560) : P_Ls298 xs L g (nI i) REL := by
  obtain ⟨lc, po, pc, ps, tl, ts, bh, rc, brh, sl, sv, rf, sz, ac, ba, sp, ou, mt, nw, tr, di, ke, ik, a3⟩ := g
  obtain ⟨⟨S, ok, hC, hM⟩, ⟨o, n, PS, rfl, rfl, rfl, hn, hP, hD, hok⟩, hX, hS⟩ := hR
  have i1 : vp_in (nI i + (1 : Int32)) L := iv (k := 1) (by omega) hL
  have i2 : vp_in (nI i + (2 : Int32)) L := iv (k := 2) (by omega) hL
  unfold P_Ls298 P_Ls298_b363
  refine ⟨i1, i2, l_road hC ok (fun e => ⟨i1, i2, x6_road hM ok (fun _ => (cmpN f10 (REL_mk (RLand_mk ok hC hM) ⟨o, n, PS, rfl, rfl, rfl, hn, hP, hD, hok⟩ hX hS))) (fun f => by rw [e] at f; exact nomatch f)⟩) (fun e => ⟨i1, i2, x6_road hM ok (fun f => by rw [e] at f; exact nomatch f) (fun _ => (cmpY (a := a3) (REL_mk (RLand_mk ok hC hM) ⟨o, n, PS, rfl, rfl, rfl, hn, hP, hD, hok⟩ hX hS)))⟩)⟩
theorem h366 {xs : Nat → Int32} {L i : Nat} {g : GS} (hR : REL g) (hi : i + 5 ≤ L) (hL : L ≤ 2560) : P_Ls366 xs L g (nI i) REL := by
  obtain ⟨lc, po, pc, ps, tl, ts, bh, rc, brh, sl, sv, rf, sz, ac, ba, sp, ou, mt, nw, tr, di, ke, ik, a3⟩ := g
  obtain ⟨⟨S, ok, hC, hM⟩, ⟨o, n, PS, rfl, rfl, rfl, hn, hP, hD, hok⟩, hX, hS⟩ := hR
  have i1 : vp_in (nI i + (1 : Int32)) L := iv (k := 1) (by omega) hL
  have i2 : vp_in (nI i + (2 : Int32)) L := iv (k := 2) (by omega) hL
  unfold P_Ls366 P_Ls366_b431
  refine ⟨i1, i2, l_neighbor hC ok (fun e => ⟨i1, i2, x6_neighbor hM ok (fun _ => (cmpN f10 (REL_mk (RLand_mk ok hC hM) ⟨o, n, PS, rfl, rfl, rfl, hn, hP, hD, hok⟩ hX hS))) (fun f => by rw [e] at f; exact nomatch f) (fun f => by rw [e] at f; exact nomatch f)⟩) (fun e e2 => ⟨i1, i2, x6_neighbor hM ok (fun f => by rw [e] at f; exact nomatch f) (fun _ _ => (cmpN f20 (REL_mk (RLand_mk ok hC hM) ⟨o, n, PS, rfl, rfl, rfl, hn, hP, hD, hok⟩ hX hS))) (fun _ k hk hy => ?_)⟩) (fun e k hk hy => ⟨i1, i2, x6_neighbor hM ok (fun f => by rw [e] at f; exact nomatch f) (fun _ q => ?_) (fun _ k' hk' hy' => ?_)⟩)⟩
  · rw [hy] at e2; exact absurd e2 (nI_pos hk)
  · rw [hy] at q; exact absurd q (nI_pos hk)
  · rw [hy, i_eqN hk hk'] at hy'; subst hy'; exact (cmpY (a := a3) (REL_mk (RLand_mk ok hC hM) ⟨o, n, PS, rfl, rfl, rfl, hn, hP, hD, hok⟩ hX hS))
theorem h434 {xs : Nat → Int32} {L i : Nat} {g : GS} (hR : REL g) (hi : i + 5 ≤ L) (hL : L ≤ 2560) : P_Ls434 xs L g (nI i) REL := by
  obtain ⟨lc, po, pc, ps, tl, ts, bh, rc, brh, sl, sv, rf, sz, ac, ba, sp, ou, mt, nw, tr, di, ke, ik, a3⟩ := g
  obtain ⟨⟨S, ok, hC, hM⟩, ⟨o, n, PS, rfl, rfl, rfl, hn, hP, hD, hok⟩, hX, hS⟩ := hR
  have i1 : vp_in (nI i + (1 : Int32)) L := iv (k := 1) (by omega) hL
  have i2 : vp_in (nI i + (2 : Int32)) L := iv (k := 2) (by omega) hL
  have i3 : vp_in (nI i + (3 : Int32)) L := iv (k := 3) (by omega) hL
  unfold P_Ls434 P_Ls434_b461 P_Ls434_b494 P_Ls434_b527
  refine ⟨i1, i2, i3, br (fun q => l_report hC ok (fun e => ⟨i1, i2, i3, brT q (x6_report hM ok (fun _ => (cmpN f10 (REL_mk (RLand_mk ok hC hM) ⟨o, n, PS, rfl, rfl, rfl, hn, hP, hD, hok⟩ hX hS))) (fun f => by rw [e] at f; exact nomatch f) (fun f => by rw [e] at f; exact nomatch f))⟩)
    (fun e e2 => ⟨i1, i2, i3, brT q (x6_report hM ok (fun f => by rw [e] at f; exact nomatch f) (fun _ _ => (cmpN f20 (REL_mk (RLand_mk ok hC hM) ⟨o, n, PS, rfl, rfl, rfl, hn, hP, hD, hok⟩ hX hS))) (fun _ f => by rw [e2] at f; exact nomatch f))⟩)
    (fun e e2 => ⟨i1, i2, i3, brT q (x6_report hM ok (fun f => by rw [e] at f; exact nomatch f) (fun _ f => by rw [e2] at f; exact nomatch f) (fun _ _ => (cmpY (a := a3) (REL_mk (RLand_mk ok hC hM) ⟨o, n, PS, rfl, rfl, rfl, hn, hP, hD, hok⟩ hX hS))))⟩)) (fun q => l_report hC ok (fun e => ⟨i1, i2, i3, brF q (x6_report hM ok (fun _ => (cmpN f10 (REL_mk (RLand_mk ok hC hM) ⟨o, n, PS, rfl, rfl, rfl, hn, hP, hD, hok⟩ hX hS))) (fun f => by rw [e] at f; exact nomatch f) (fun f => by rw [e] at f; exact nomatch f))⟩)
    (fun e e2 => ⟨i1, i2, i3, brF q (x6_report hM ok (fun f => by rw [e] at f; exact nomatch f) (fun _ _ => (cmpN f20 (REL_mk (RLand_mk ok hC hM) ⟨o, n, PS, rfl, rfl, rfl, hn, hP, hD, hok⟩ hX hS))) (fun _ f => by rw [e2] at f; exact nomatch f))⟩)
    (fun e e2 => ⟨i1, i2, i3, brF q (x6_report hM ok (fun f => by rw [e] at f; exact nomatch f) (fun _ f => by rw [e2] at f; exact nomatch f) (fun _ _ => (cmpY (a := a3) (REL_mk (RLand_mk ok hC hM) ⟨o, n, PS, rfl, rfl, rfl, hn, hP, hD, hok⟩ hX hS))))⟩))⟩
theorem h530 {xs : Nat → Int32} {L i : Nat} {g : GS} (hR : REL g) (hi : i + 5 ≤ L) (hL : L ≤ 2560) : P_Ls530 xs L g (nI i) REL := by
  obtain ⟨lc, po, pc, ps, tl, ts, bh, rc, brh, sl, sv, rf, sz, ac, ba, sp, ou, mt, nw, tr, di, ke, ik, a3⟩ := g
  obtain ⟨⟨S, ok, hC, hM⟩, ⟨o, n, PS, rfl, rfl, rfl, hn, hP, hD, hok⟩, hX, hS⟩ := hR
  unfold P_Ls530 P_Ls530_b571
  refine l_found hC ok hn hP (fun e => x6_found hM ok hn hD (fun _ => (cmpN f10 (REL_mk (RLand_mk ok hC hM) ⟨o, n, PS, rfl, rfl, rfl, hn, hP, hD, hok⟩ hX hS))) (fun f => absurd f (by omega))) (fun e C' o' st' hc hp => x6_found hM ok hn hD (fun f => absurd f (by omega)) (fun _ r' d' hm hd => (cmpY (a := a3) (REL_mk (RLand_mk (OK_townS ok e) hc hm) (RPast_push hn hok ok hp hd) hX hS))))
theorem h574 {xs : Nat → Int32} {L i : Nat} {g : GS} (hR : REL g) (hi : i + 5 ≤ L) (hL : L ≤ 2560) : P_Ls574 xs L g (nI i) REL := by
  obtain ⟨lc, po, pc, ps, tl, ts, bh, rc, brh, sl, sv, rf, sz, ac, ba, sp, ou, mt, nw, tr, di, ke, ik, a3⟩ := g
  obtain ⟨⟨S, ok, hC, hM⟩, ⟨o, n, PS, rfl, rfl, rfl, hn, hP, hD, hok⟩, hX, hS⟩ := hR
  have i1 : vp_in (nI i + (1 : Int32)) L := iv (k := 1) (by omega) hL
  have i2 : vp_in (nI i + (2 : Int32)) L := iv (k := 2) (by omega) hL
  have i3 : vp_in (nI i + (3 : Int32)) L := iv (k := 3) (by omega) hL
  unfold P_Ls574 P_Ls574_b651
  refine ⟨i1, i2, i3, l_lay hC ok hn hP (fun e => ⟨i1, i2, i3, x6_lay hM ok hn hD (fun _ => (cmpN e (REL_mk (RLand_mk ok hC hM) ⟨o, n, PS, rfl, rfl, rfl, hn, hP, hD, hok⟩ hX hS))) (fun f => absurd (whyL_0 f) e)⟩) (fun e C' o' st' hc hp => ⟨i1, i2, i3, x6_lay hM ok hn hD (fun f => absurd (whyL_0 e) f) (fun _ r' d' hm hd => (cmpY (a := a3) (REL_mk (RLand_mk (OK_joinS ok e) hc hm) (RPast_push hn hok ok hp hd) hX hS)))⟩)⟩
theorem h654 {xs : Nat → Int32} {L i : Nat} {g : GS} (hR : REL g) (hi : i + 5 ≤ L) (hL : L ≤ 2560) : P_Ls654 xs L g (nI i) REL := by
  obtain ⟨lc, po, pc, ps, tl, ts, bh, rc, brh, sl, sv, rf, sz, ac, ba, sp, ou, mt, nw, tr, di, ke, ik, a3⟩ := g
  obtain ⟨⟨S, ok, hC, hM⟩, ⟨o, n, PS, rfl, rfl, rfl, hn, hP, hD, hok⟩, hX, hS⟩ := hR
  have i1 : vp_in (nI i + (1 : Int32)) L := iv (k := 1) (by omega) hL
  have i2 : vp_in (nI i + (2 : Int32)) L := iv (k := 2) (by omega) hL
  unfold P_Ls654 P_Ls654_b719
  refine ⟨i1, i2, l_tear hC ok hn hP (fun e => ⟨i1, i2, x6_tear hM ok hn hD (fun _ => (cmpN f10 (REL_mk (RLand_mk ok hC hM) ⟨o, n, PS, rfl, rfl, rfl, hn, hP, hD, hok⟩ hX hS))) (fun f => by rw [e] at f; exact nomatch f) (fun f => absurd (rdX_both f) (by rw [e]; decide))⟩)
    (fun e e2 => ⟨i1, i2, x6_tear hM ok hn hD (fun f => by rw [e] at f; exact nomatch f) (fun _ _ => (cmpN f20 (REL_mk (RLand_mk ok hC hM) ⟨o, n, PS, rfl, rfl, rfl, hn, hP, hD, hok⟩ hX hS))) (fun f => absurd f (by omega))⟩)
    (fun e C' o' st' hc hp => ⟨i1, i2, x6_tear hM ok hn hD (fun f => by rw [rdX_both e] at f; exact nomatch f) (fun _ f => absurd e (by omega)) (fun _ r' d' hm hd => (cmpY (a := a3) (REL_mk (RLand_mk (OK_cutS ok _ _) hc hm) (RPast_push hn hok ok hp hd) hX hS)))⟩)⟩
theorem h722 {xs : Nat → Int32} {L i : Nat} {g : GS} (hR : REL g) (hi : i + 5 ≤ L) (hL : L ≤ 2560) : P_Ls722 xs L g (nI i) REL := by
  obtain ⟨lc, po, pc, ps, tl, ts, bh, rc, brh, sl, sv, rf, sz, ac, ba, sp, ou, mt, nw, tr, di, ke, ik, a3⟩ := g
  obtain ⟨⟨S, ok, hC, hM⟩, ⟨o, n, PS, rfl, rfl, rfl, hn, hP, hD, hok⟩, hX, hS⟩ := hR
  have i1 : vp_in (nI i + (1 : Int32)) L := iv (k := 1) (by omega) hL
  have i2 : vp_in (nI i + (2 : Int32)) L := iv (k := 2) (by omega) hL
  have i3 : vp_in (nI i + (3 : Int32)) L := iv (k := 3) (by omega) hL
  have i4 : vp_in (nI i + (4 : Int32)) L := iv (k := 4) (by omega) hL
  unfold P_Ls722 P_Ls722_b755 P_Ls722_b794 P_Ls722_b827
  refine ⟨i1, i2, i3, i4, br (fun q => l_see hC ok hn hP (fun e => ⟨i1, i2, i3, i4, brT q (x6_see hM ok hn hD (fun _ => (cmpN f10 (REL_mk (RLand_mk ok hC hM) ⟨o, n, PS, rfl, rfl, rfl, hn, hP, hD, hok⟩ hX hS))) (fun f => by rw [e] at f; exact nomatch f) (fun f => by rw [isNote_T f] at e; exact nomatch e))⟩)
    (fun e e2 => ⟨i1, i2, i3, i4, brT q (x6_see hM ok hn hD (fun f => by rw [e] at f; exact nomatch f) (fun _ _ => (cmpN f20 (REL_mk (RLand_mk ok hC hM) ⟨o, n, PS, rfl, rfl, rfl, hn, hP, hD, hok⟩ hX hS))) (fun f => by rw [e2] at f; exact nomatch f))⟩)
    (fun e C' o' st' hc hp => ⟨i1, i2, i3, i4, brT q (x6_see hM ok hn hD (fun f => by rw [isNote_T e] at f; exact nomatch f) (fun _ f => by rw [e] at f; exact nomatch f) (fun _ r' d' hm hd => (cmpY (a := a3) (REL_mk (RLand_mk (OK_noteS2 ok e _) hc hm) (RPast_push hn hok ok hp hd) hX hS))))⟩)) (fun q => l_see hC ok hn hP (fun e => ⟨i1, i2, i3, i4, brF q (x6_see hM ok hn hD (fun _ => (cmpN f10 (REL_mk (RLand_mk ok hC hM) ⟨o, n, PS, rfl, rfl, rfl, hn, hP, hD, hok⟩ hX hS))) (fun f => by rw [e] at f; exact nomatch f) (fun f => by rw [isNote_T f] at e; exact nomatch e))⟩)
    (fun e e2 => ⟨i1, i2, i3, i4, brF q (x6_see hM ok hn hD (fun f => by rw [e] at f; exact nomatch f) (fun _ _ => (cmpN f20 (REL_mk (RLand_mk ok hC hM) ⟨o, n, PS, rfl, rfl, rfl, hn, hP, hD, hok⟩ hX hS))) (fun f => by rw [e2] at f; exact nomatch f))⟩)
    (fun e C' o' st' hc hp => ⟨i1, i2, i3, i4, brF q (x6_see hM ok hn hD (fun f => by rw [isNote_T e] at f; exact nomatch f) (fun _ f => by rw [e] at f; exact nomatch f) (fun _ r' d' hm hd => (cmpY (a := a3) (REL_mk (RLand_mk (OK_noteS2 ok e _) hc hm) (RPast_push hn hok ok hp hd) hX hS))))⟩))⟩
theorem h874 {xs : Nat → Int32} {L i : Nat} {g : GS} (hR : REL g) (hi : i + 5 ≤ L) (hL : L ≤ 2560) : P_Ls874 xs L g (nI i) REL := by
  obtain ⟨lc, po, pc, ps, tl, ts, bh, rc, brh, sl, sv, rf, sz, ac, ba, sp, ou, mt, nw, tr, di, ke, ik, a3⟩ := g
  obtain ⟨⟨S, ok, hC, hM⟩, ⟨o, n, PS, rfl, rfl, rfl, hn, hP, hD, hok⟩, hX, hS⟩ := hR
  have i1 : vp_in (nI i + (1 : Int32)) L := iv (k := 1) (by omega) hL
  have i2 : vp_in (nI i + (2 : Int32)) L := iv (k := 2) (by omega) hL
  unfold P_Ls874 P_Ls874_b939
  refine ⟨i1, i2, l_forget hC ok hn hP (fun e => ⟨i1, i2, x6_forget hM ok hn hD (fun _ => (cmpN f10 (REL_mk (RLand_mk ok hC hM) ⟨o, n, PS, rfl, rfl, rfl, hn, hP, hD, hok⟩ hX hS))) (fun f => by rw [e] at f; exact nomatch f) (fun f => by rw [(isPair_T f).1] at e; exact nomatch e)⟩)
    (fun e e2 => ⟨i1, i2, x6_forget hM ok hn hD (fun f => by rw [e] at f; exact nomatch f) (fun _ _ => (cmpN f20 (REL_mk (RLand_mk ok hC hM) ⟨o, n, PS, rfl, rfl, rfl, hn, hP, hD, hok⟩ hX hS))) (fun f => by rw [(isPair_T f).2] at e2; exact nomatch e2)⟩)
    (fun e C' o' st' hc hp => ⟨i1, i2, x6_forget hM ok hn hD (fun f => by rw [(isPair_T e).1] at f; exact nomatch f) (fun _ f => by rw [(isPair_T e).2] at f; exact nomatch f) (fun _ r' d' hm hd => (cmpY (a := a3) (REL_mk (RLand_mk (OK_dropS2 ok e) hc hm) (RPast_push hn hok ok hp hd) hX hS)))⟩)⟩
theorem h942 {xs : Nat → Int32} {L i : Nat} {g : GS} (hR : REL g) (hi : i + 5 ≤ L) (hL : L ≤ 2560) : P_Ls942 xs L g (nI i) REL := by
  obtain ⟨lc, po, pc, ps, tl, ts, bh, rc, brh, sl, sv, rf, sz, ac, ba, sp, ou, mt, nw, tr, di, ke, ik, a3⟩ := g
  obtain ⟨⟨S, ok, hC, hM⟩, ⟨o, n, PS, rfl, rfl, rfl, hn, hP, hD, hok⟩, hX, hS⟩ := hR
  unfold P_Ls942 P_Ls942_b983
  refine l_undo hC hn hP (fun e => x6_undo hn hD (fun _ => (cmpN f10 (REL_mk (RLand_mk ok hC hM) ⟨o, n, PS, rfl, rfl, rfl, hn, hP, hD, hok⟩ hX hS))) (fun f => absurd f (by omega))) (fun e C' hc => x6_undo hn hD (fun f => absurd f (by omega)) (fun _ r' hm => (cmpY (a := a3) (REL_mk (RLand_mk (hok _ (by omega)) hc hm) ⟨o, n - 1, PS, rfl, rfl, rfl, by omega, ⟨hP.1, fun j hj => hP.2 j (by omega)⟩, fun j hj => hD j (by omega), fun j hj => hok j (by omega)⟩ hX hS))))
theorem h160 {xs : Nat → Int32} {L i : Nat} {g : GS} (hR : REL g) (hi : i + 5 ≤ L) (hL : L ≤ 2560) : P_Ls160 xs L g (nI i) REL := by
  obtain ⟨lc, po, pc, ps, tl, ts, bh, rc, brh, sl, sv, rf, sz, ac, ba, sp, ou, mt, nw, tr, di, ke, ik, a3⟩ := g
  obtain ⟨⟨S, ok, hC, hM⟩, ⟨o, n, PS, rfl, rfl, rfl, hn, hP, hD, hok⟩, hX, hS⟩ := hR
  have i1 : vp_in (nI i + (1 : Int32)) L := iv (k := 1) (by omega) hL
  unfold P_Ls160 P_Ls160_b213
  obtain ⟨m, t, rfl, rfl, hm, hX1, hX2⟩ := hX
  have hX : RText (nI m) ts (nI m) mt := ⟨m, t, rfl, rfl, hm, hX1, hX2⟩
  refine ⟨i1, l_append hm hX1 (fun e => ⟨i1, x6_append hm hX2 (fun _ => (cmpN f10 (REL_mk (RLand_mk ok hC hM) ⟨o, n, PS, rfl, rfl, rfl, hn, hP, hD, hok⟩ hX hS))) (fun f => by rw [e] at f; exact nomatch f) (fun f => by rw [e] at f; exact nomatch f)⟩)
    (fun e e2 => ⟨i1, x6_append hm hX2 (fun f => by rw [e] at f; exact nomatch f) (fun _ _ => (cmpN f20 (REL_mk (RLand_mk ok hC hM) ⟨o, n, PS, rfl, rfl, rfl, hn, hP, hD, hok⟩ hX hS))) (fun _ f => absurd f (by omega))⟩)
    (fun e e2 s' hs => ⟨i1, x6_append hm hX2 (fun f => by rw [e] at f; exact nomatch f) (fun _ f => absurd f (by omega)) (fun _ _ s2 hs2 => (cmpY (a := a3) (REL_mk (RLand_mk ok hC hM) ⟨o, n, PS, rfl, rfl, rfl, hn, hP, hD, hok⟩ ⟨m + 1, _, rfl, rfl, by omega, hs, hs2⟩ hS)))⟩)⟩
theorem h216 {xs : Nat → Int32} {L i : Nat} {g : GS} (hR : REL g) (hi : i + 5 ≤ L) (hL : L ≤ 2560) : P_Ls216 xs L g (nI i) REL := by
  obtain ⟨lc, po, pc, ps, tl, ts, bh, rc, brh, sl, sv, rf, sz, ac, ba, sp, ou, mt, nw, tr, di, ke, ik, a3⟩ := g
  obtain ⟨⟨S, ok, hC, hM⟩, ⟨o, n, PS, rfl, rfl, rfl, hn, hP, hD, hok⟩, hX, hS⟩ := hR
  unfold P_Ls216
  obtain ⟨m, t, rfl, rfl, hm, hX1, hX2⟩ := hX
  unfold P_X5_clearText P_X4_empty P_X6_clearText
  exact brT rfl (REL_mk (RLand_mk ok hC hM) ⟨o, n, PS, rfl, rfl, rfl, hn, hP, hD, hok⟩ ⟨0, t, rfl, rfl, by omega, fun j hj => absurd hj (by omega), fun j hj => absurd hj (by omega)⟩ hS)
theorem h1731 {xs : Nat → Int32} {L i : Nat} {g : GS} (hR : REL g) (hi : i + 5 ≤ L) (hL : L ≤ 2560) : P_Ls1731 xs L g (nI i) REL := by
  obtain ⟨lc, po, pc, ps, tl, ts, bh, rc, brh, sl, sv, rf, sz, ac, ba, sp, ou, mt, nw, tr, di, ke, ik, a3⟩ := g
  obtain ⟨⟨S, ok, hC, hM⟩, ⟨o, n, PS, rfl, rfl, rfl, hn, hP, hD, hok⟩, hX, hS⟩ := hR
  have i1 : vp_in (nI i + (1 : Int32)) L := iv (k := 1) (by omega) hL
  unfold P_Ls1731 P_Ls1731_b1784
  exact ⟨i1, ls_save' i1 hC hM ok hS (fun e => (cmpN f10 (REL_mk (RLand_mk ok hC hM) ⟨o, n, PS, rfl, rfl, rfl, hn, hP, hD, hok⟩ hX hS))) (fun e sl' sv' ke' ik' hS' => (cmpY (a := a3) (REL_mk (RLand_mk ok hC hM) ⟨o, n, PS, rfl, rfl, rfl, hn, hP, hD, hok⟩ hX hS')))⟩
theorem h1787 {xs : Nat → Int32} {L i : Nat} {g : GS} (hR : REL g) (hi : i + 5 ≤ L) (hL : L ≤ 2560) : P_Ls1787 xs L g (nI i) REL := by
  obtain ⟨lc, po, pc, ps, tl, ts, bh, rc, brh, sl, sv, rf, sz, ac, ba, sp, ou, mt, nw, tr, di, ke, ik, a3⟩ := g
  obtain ⟨⟨S, ok, hC, hM⟩, ⟨o, n, PS, rfl, rfl, rfl, hn, hP, hD, hok⟩, hX, hS⟩ := hR
  have i1 : vp_in (nI i + (1 : Int32)) L := iv (k := 1) (by omega) hL
  unfold P_Ls1787 P_Ls1787_b1840
  refine ⟨i1, ls_restore' i1 hS (fun e => (cmpN f10 (REL_mk (RLand_mk ok hC hM) ⟨o, n, PS, rfl, rfl, rfl, hn, hP, hD, hok⟩ hX hS))) (fun e => (cmpN f20 (REL_mk (RLand_mk ok hC hM) ⟨o, n, PS, rfl, rfl, rfl, hn, hP, hD, hok⟩ hX hS))) (fun e S' C' r' ok' hc hm => (cmpY (a := a3) (REL_mk (RLand_mk ok' hc hm) ⟨o, 0, PS, rfl, rfl, rfl, by omega, ⟨hP.1, fun j hj => absurd hj (by omega)⟩, fun j hj => absurd hj (by omega), fun j hj => absurd hj (by omega)⟩ hX hS)))⟩
