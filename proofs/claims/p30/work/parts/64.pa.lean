/-! whether a trait can have passed along a road -/
def exT (b : Nat) : Nat → Bool := fun t => decide (t = b)
theorem GSol_congr {N : Nat} {bd : Nat → Nat} {ln : Nat → Nat → Nat} {ex : Nat → Bool} {y0 y1 Y : Nat → Nat} (h : GSol N bd ln ex y0 Y) (hy : ∀ t, t < N → y0 t = y1 t) : GSol N bd ln ex y1 Y :=
  ⟨⟨fun t ht => by rw [← hy t ht]; exact h.1.1 t ht, h.1.2⟩, fun z hz => h.2 z ⟨fun t ht => by rw [hy t ht]; exact hz.1 t ht, hz.2⟩⟩
theorem Sub_b {N b : Nat} {bd : Nat → Nat} {ln : Nat → Nat → Nat} {y0 z : Nat → Nat} (hy : ∀ t, t < N → y0 t ≤ 1000) : Sub N (setS bd b 1000) ln exN y0 z ↔ Sub N bd ln (exT b) y0 z := by
  constructor
  · intro h
    refine ⟨h.1, fun a c ha hc hl he => ?_⟩
    have := h.2 a c ha hc hl rfl
    rw [setS_ne (of_decide_eq_false he)] at this; exact this
  · intro h
    refine ⟨h.1, fun a c ha hc hl _ => ?_⟩
    by_cases e : c = b
    · subst e
      rw [setS_eq]
      have q1 := h.1 c hc
      have q2 := hy c hc
      omega
    · rw [setS_ne e]; exact h.2 a c ha hc hl (decide_eq_false e)
theorem GSol_b {N b : Nat} {bd : Nat → Nat} {ln : Nat → Nat → Nat} {y0 Y : Nat → Nat} (hy : ∀ t, t < N → y0 t ≤ 1000) (h : GSol N (setS bd b 1000) ln exN y0 Y) : GSol N bd ln (exT b) y0 Y :=
  ⟨(Sub_b hy).mp h.1, fun z hz => h.2 z ((Sub_b hy).mpr hz)⟩
noncomputable def co1 (S : Nat → Nat) (x b s : Nat) : Nat → Nat := gs S x (exT b) (ini S x s 100000)
noncomputable def coS (S : Nat → Nat) (x a b s : Nat) : Nat := max (co1 S x b s a + rd S a b) (bdS S x b)
noncomputable def co2 (S : Nat → Nat) (x a b s : Nat) : Nat → Nat := gs S x (exT b) (setS (co1 S x b s) b (coS S x a b s))
noncomputable def comesB (S : Nat → Nat) (x a b s : Nat) : Bool := decide (coS S x a b s < 100000 ∧ inT S x (co2 S x a b s) = true)
noncomputable def passP (S : Nat → Nat) (x a b L s : Nat) : Bool := decide (pc s = L ∧ s.testBit b = false ∧ comesB S x a b s = true)
theorem comes_EX {S : Nat → Nat} {x a b s : Nat} (ha : a < S 0) (hb : b < S 0) (hl : 0 < rd S a b) (h : comesB S x a b s = true) : EX S x s = true := by
  have hc := (of_decide_eq_true h).2
  have g := gs_sol S x exN (ini S x s 100000)
  have g1 := gs_sol S x (exT b) (ini S x s 100000)
  have g2 := gs_sol S x (exT b) (setS (co1 S x b s) b (coS S x a b s))
  have z1 : ∀ t, t < S 0 → gs S x exN (ini S x s 100000) t ≤ co1 S x b s t := g1.2 _ ⟨g.1.1, fun c d hc hd hl _ => g.1.2 c d hc hd hl rfl⟩
  have z2 : ∀ t, t < S 0 → gs S x exN (ini S x s 100000) t ≤ co2 S x a b s t := g2.2 _ ⟨fun t ht => by
    unfold setS
    by_cases e : t = b
    · rw [if_pos e, e]
      have q1 := g.1.2 a b ha hb hl rfl
      have q2 := z1 a ha
      unfold coS; omega
    · rw [if_neg e]; exact z1 t ht, fun c d hc hd hl _ => g.1.2 c d hc hd hl rfl⟩
  refine allB_iff.mpr (fun u hu => ?_)
  have q1 := of_decide_eq_true (allB_iff.mp hc u hu)
  have q2 := z2 u hu
  exact decide_eq_true (by omega)
theorem co2_b {S : Nat → Nat} (ok : OK S) {x a b s : Nat} (hb : b < S 0) : co2 S x a b s b = coS S x a b s := by
  have hT := ok.T
  rcases GSol_from (gs_sol S x (exT b) (setS (co1 S x b s) b (coS S x a b s))) (fun c hc => ok.diag (by omega)) hb with e | ⟨c, _, _, he, _⟩
  · unfold co2; rw [e, setS_eq]
  · exact absurd rfl (of_decide_eq_false he)
theorem c_explainsByRoad {S : Nat → Nat} (ok : OK S) {x a b s : Nat} (hx : x < 6) (ha : a < S 0) (hb : b < S 0) (hs : s < 1024) (hl : 0 < rd S a b) (hk : 0 < hd S b x) (hsb : s.testBit b = false) {R : Nat} {fr to ln e l w : Nat → Int32} (hR : R ≤ 15) (hRO : RO S R fr to ln) (hE : AgY e (S 0) (setS (bdS S x) b 1000)) (hL : AgL l S x (S 0)) {post : Int32 → (Nat → Int32) → Prop}
    (h : ∀ w', post (bI (comesB S x a b s)) w') : P_X0_explainsByRoad (nI (S 0)) (nI R) (nI (mk (kn S x) (S 0))) fr to ln e l w (nI s) (nI a) (nI b) (nI (rd S a b)) (nI (bdS S x b)) post := by
  have hT := ok.T
  have r9 := ok.r99 (a := a) (b := b) (by omega) (by omega)
  have bb : bdS S x b ≤ 1000 := ok.n1k (by omega) hx
  have hb1k : hd S b x ≤ 1000 := ok.h1k (by omega) hx
  have bd1k : ∀ t, t < S 0 → setS (bdS S x) b 1000 t ≤ 1000 := fun t ht => by
    unfold setS
    by_cases g : t = b
    · rw [if_pos g]; omega
    · rw [if_neg g]; exact ok.n1k (by omega) hx
  have iE : ∀ t, t < S 0 → inE (S 0) s (setS (bdS S x) b 1000) t = ini S x s 1000 t := fun t ht => by
    unfold inE ini
    by_cases g : s.testBit t = true
    · rw [if_pos g, if_pos g, setS_ne (fun q => by rw [q, hsb] at g; exact nomatch g)]
    · rw [if_neg g, if_neg g]
  unfold P_X0_explainsByRoad
  refine c_inventIn hT hE (by omega) (fun w1 hw1 => c_spread ok hR hRO hE bd1k (fun t ht => by rw [iE t ht]; exact ini_le ok hx (by omega) t ht) hw1 (fun w2 Y hY hw2 => ⟨nI_in (by omega) (by omega), ?_⟩))
  have gY : GSol (S 0) (bdS S x) (rd S) (exT b) (ini S x s 1000) Y := GSol_b (ini_le ok hx (by omega)) (GSol_congr hY iE)
  have cap := GSol_cap (gs_sol S x (exT b) (ini S x s 100000)) gY (ini_cap ok hx)
  have yc : ∀ t, t < S 0 → Y t ≤ 1000 := fun t ht => by have q : Y t = min (co1 S x b s t) 1000 := cap t ht; omega
  have ya := yc a ha
  have ca : Y a = min (co1 S x b s a) 1000 := cap a ha
  rw [nI_clamp (by omega), hw2 a ha, nI_add]
  have main : ∀ sv, sv = max (Y a + rd S a b) (bdS S x b) → P_X0_explainsByRoad_b31 (nI (S 0)) (nI R) (nI (mk (kn S x) (S 0))) fr to ln e l w (nI s) (nI a) (nI b) (nI (rd S a b)) (nI (bdS S x b)) post w2 (nI sv) := fun sv hsv => by
    unfold P_X0_explainsByRoad_b31 P_X0_explainsByRoad_b72
    have le : (nI sv ≤ cY (hd S b x)) ↔ sv < hd S b x := by rw [i_le, cY_toInt (by omega), nI_toInt (by omega)]; omega
    rw [nI_clamp (by omega), hL b hb, propext le]
    refine ⟨nI_in (by omega) (by omega), br (fun q => ⟨nI_in (by omega) (by omega), ?_⟩) (fun q => ?_)⟩
    · have eS : coS S x a b s = sv := by unfold coS; omega
      have y2c : ∀ t, t < S 0 → setS Y b sv t ≤ 1000 := fun t ht => by
        unfold setS
        by_cases g : t = b
        · rw [if_pos g]; omega
        · rw [if_neg g]; exact yc t ht
      refine c_spread (y0 := setS Y b sv) ok hR hRO hE bd1k y2c (fun t ht => ?_) (fun w3 Y2 hY2 hw3 => ?_)
      · show (if t = b then nI sv else w2 t) = nI (if t = b then sv else Y t)
        by_cases g : t = b
        · rw [if_pos g, if_pos g]
        · rw [if_neg g, if_neg g]; exact hw2 t ht
      · have g2 := GSol_b y2c hY2
        have cap2 := GSol_cap (c := 1000) (gs_sol S x (exT b) (setS (co1 S x b s) b (coS S x a b s))) g2 (fun t ht => by
          unfold setS
          by_cases g : t = b
          · rw [if_pos g, if_pos g, eS]; omega
          · rw [if_neg g, if_neg g]; exact cap t ht)
        have y2l : ∀ t, t < S 0 → Y2 t ≤ 2000 := fun t ht => by have := hY2.1.1 t ht; have := y2c t ht; omega
        refine c_knownInTime ok hx hL hw3 y2l ?_
        have l1 := mk_1024 (fun t => decide (Y2 t < hd S t x)) hT
        have l2 := mk_1024 (kn S x) hT
        have eq : (mk (fun t => decide (Y2 t < hd S t x)) (S 0) = mk (kn S x) (S 0)) ↔ comesB S x a b s = true := by
          rw [mk_eq]
          constructor
          · intro hh
            refine decide_eq_true ⟨by omega, allB_iff.mpr (fun u hu => ?_)⟩
            have q1 := hh u hu
            have q2 : Y2 u = min (co2 S x a b s u) 1000 := cap2 u hu
            have q3 : hd S u x ≤ 1000 := ok.h1k (by omega) hx
            by_cases h0 : 0 < hd S u x
            · rw [show kn S x u = true from decide_eq_true h0] at q1
              have := of_decide_eq_true q1
              exact decide_eq_true (by omega)
            · exact decide_eq_true (by omega)
          · intro hh u hu
            have q1 := of_decide_eq_true (allB_iff.mp (of_decide_eq_true hh).2 u hu)
            have q2 : Y2 u = min (co2 S x a b s u) 1000 := cap2 u hu
            by_cases h0 : 0 < hd S u x
            · rw [show kn S x u = true from decide_eq_true h0]; exact decide_eq_true (by omega)
            · rw [show kn S x u = false from decide_eq_false h0]; exact decide_eq_false (by omega)
        rw [i_eqN (a := mk (fun t => decide (Y2 t < hd S t x)) (S 0)) (b := mk (kn S x) (S 0)) (by omega) (by omega), propext eq]
        have h' := h w3
        refine br (fun z => ⟨rfl, ?_⟩) (fun z => ⟨rfl, ?_⟩)
        · rw [z] at h'; exact h'
        · rw [show comesB S x a b s = false from by cases g : comesB S x a b s with
            | false => rfl
            | true => exact absurd g z] at h'; exact h'
    · have h' := h w2
      rw [show comesB S x a b s = false from decide_eq_false (fun z => by
        have q1 := of_decide_eq_true (allB_iff.mp z.2 b hb)
        rw [co2_b ok hb] at q1
        unfold coS at q1
        omega)] at h'
      exact h'
  refine fae ?_
  rw [i_leN (a := bdS S x b) (b := Y a + rd S a b) (by omega) (by omega)]
  exact br (fun q => main _ (by omega)) (fun q => main _ (by omega))
