/-! the class spreads a trait -/
def RO (S : Nat → Nat) (R : Nat) (fr to ln : Nat → Int32) : Prop :=
  (∀ i, i < R → ∃ a b, a < b ∧ b < S 0 ∧ 0 < rd S a b ∧ fr i = nI a ∧ to i = nI b ∧ ln i = nI (rd S a b)) ∧
  ∀ a b, a < b → b < S 0 → 0 < rd S a b → ∃ i, i < R ∧ fr i = nI a ∧ to i = nI b
theorem c_passOn {N a b l : Nat} {e w : Nat → Int32} {bd y : Nat → Nat} (hN : N ≤ 10) (hE : AgY e N bd) (hY : AgY w N y) (ha : a < N) (hb : b < N) (h1 : ∀ t, t < N → bd t ≤ 1000) (h2 : ∀ t, t < N → y t ≤ 1000) (hl : l ≤ 99) {post : Int32 → (Nat → Int32) → Prop}
    (h : ∀ w' y' c, AgY w' N y' → (∀ t, t < N → y' t ≤ y t) → y' b ≤ max (y a + l) (bd b) → (∀ t, t < N → t ≠ b → y' t = y t) → (y' b = y b ∨ y' b = max (y a + l) (bd b)) → ((c = 0 ∧ ∀ t, t < N → y' t = y t) ∨ c = 1) → post c w') :
    P_X0_passOn e w (nI a) (nI b) (nI l) post := by
  have ya := h2 a ha
  have yb := h2 b hb
  have eb := h1 b hb
  have tail : ∀ v, v = max (y a + l) (bd b) → P_X0_passOn_b29 e w (nI a) (nI b) (nI l) post (nI v) := fun v hv => by
    unfold P_X0_passOn_b29
    rw [nI_clamp (by omega), hY b hb, i_ltN (by omega) (by omega)]
    refine ⟨nI_in (by omega) (by omega), br (fun q => ⟨nI_in (by omega) (by omega), h _ (setS y b v) 1 (fun t ht => ?_) (fun t ht => ?_) ?_ (fun t ht hn => setS_ne hn) (Or.inr ?_) (Or.inr rfl)⟩) (fun q => h _ y 0 hY (fun _ _ => Nat.le_refl _) (by omega) (fun _ _ _ => rfl) (Or.inl rfl) (Or.inl ⟨rfl, fun _ _ => rfl⟩))⟩
    · show (if t = b then nI v else w t) = nI (if t = b then v else y t)
      by_cases g : t = b
      · rw [if_pos g, if_pos g]
      · rw [if_neg g, if_neg g]; exact hY t ht
    · unfold setS
      by_cases g : t = b
      · rw [if_pos g, g]; omega
      · rw [if_neg g]; exact Nat.le_refl _
    · rw [setS_eq]; omega
    · rw [setS_eq]; exact hv
  unfold P_X0_passOn
  rw [nI_clamp (by omega), nI_clamp (by omega), hY a ha, hE b hb, nI_add]
  refine ⟨nI_in (by omega) (by omega), fae ⟨nI_in (by omega) (by omega), ?_⟩⟩
  rw [i_leN (by omega) (by omega)]
  exact br (fun q => tail _ (by omega)) (fun q => ⟨nI_in (by omega) (by omega), fae (tail _ (by omega))⟩)
def CJ (N : Nat) (bd : Nat → Nat) (ln : Nat → Nat → Nat) (y0 ys : Nat → Nat) (pr : Nat → Nat → Prop) (w : Nat → Int32) (x1 : Int32) : Prop :=
  ∃ y, AgY w N y ∧ (∀ t, t < N → y t ≤ ys t) ∧ (∀ z, Sub N bd ln exN y0 z → ∀ t, t < N → z t ≤ y t) ∧
    (∀ a b, a < N → b < N → pr a b → 0 < ln a b → y b ≤ max (ys a + ln a b) (bd b)) ∧ ((x1 = 0 ∧ ∀ t, t < N → y t = ys t) ∨ x1 = 1)
theorem c_round {S : Nat → Nat} (ok : OK S) {R : Nat} {fr to ln e w0 w : Nat → Int32} {bd y0 ys : Nat → Nat} (hR : R ≤ 15) (hRO : RO S R fr to ln) (hE : AgY e (S 0) bd) (h1 : ∀ t, t < S 0 → bd t ≤ 1000) (h2 : ∀ t, t < S 0 → ys t ≤ 1000) {K : (Nat → Int32) → Int32 → Int32 → Prop} {x2 : Int32} {post : (Nat → Int32) → Prop}
    (hw : AgY w (S 0) ys) (hz : ∀ z, Sub (S 0) bd (rd S) exN y0 z → ∀ t, t < S 0 → z t ≤ ys t) (hk : ∀ w' x', CJ (S 0) bd (rd S) y0 ys (fun _ _ => True) w' x' → K w' x' (x2 + 1)) :
    ∃ n, P_X0_spread_l20 (nI (S 0)) (nI R) fr to ln e w0 post K n w 0 x2 0 := by
  have hT := ok.T
  have key := forN (fun n i => ∀ w' x', CJ (S 0) bd (rd S) y0 ys (fun a b => ∃ j, j < i ∧ ((fr j = nI a ∧ to j = nI b) ∨ (fr j = nI b ∧ to j = nI a))) w' x' → P_X0_spread_l20 (nI (S 0)) (nI R) fr to ln e w0 post K n w' x' x2 (nI i)) R ?_ ?_ 0 (Nat.zero_le _)
  · obtain ⟨n, hn⟩ := key
    refine ⟨n, hn w 0 ⟨ys, hw, fun _ _ => Nat.le_refl _, hz, fun a b _ _ hp => ?_, Or.inl ⟨rfl, fun _ _ => rfl⟩⟩⟩
    obtain ⟨j, hj, _⟩ := hp
    omega
  · intro n w' x' hJ
    show P_X0_spread_b20 _ _ _ _ _ _ _ _ _ _ _ _ _ _
    unfold P_X0_spread_b20
    refine brT (nI_le (Nat.le_refl _) (by omega)) (fae (hk w' x' ?_))
    obtain ⟨y, g1, g2, g3, g4, g5⟩ := hJ
    refine ⟨y, g1, g2, g3, fun a b ha hb _ hl => g4 a b ha hb ?_ hl, g5⟩
    by_cases c : a < b
    · obtain ⟨j, hj, q1, q2⟩ := hRO.2 a b c hb hl
      exact ⟨j, hj, Or.inl ⟨q1, q2⟩⟩
    · have ne : a ≠ b := fun q => by
        have : 0 < rd S a b := hl
        rw [q, ok.diag (by omega)] at this; omega
      obtain ⟨j, hj, q1, q2⟩ := hRO.2 b a (by omega) ha (by rw [ok.sym (by omega) (by omega)]; exact hl)
      exact ⟨j, hj, Or.inr ⟨q1, q2⟩⟩
  · intro n i hi hv w' x' hJ
    obtain ⟨a, b, hab, hb, hl, q1, q2, q3⟩ := hRO.1 i hi
    have r9 := ok.r99 (a := a) (b := b) (by omega) (by omega)
    have rs := ok.sym (a := a) (b := b) (by omega) (by omega)
    obtain ⟨y, g1, g2, g3, g4, g5⟩ := hJ
    show P_X0_spread_b20 _ _ _ _ _ _ _ _ _ _ _ _ _ _
    unfold P_X0_spread_b20
    rw [nI_clamp (by omega), q1, q2, q3]
    have iR : vp_in (nI i) 15 := nI_in (by omega) (by omega)
    refine brF (nI_ge hi (by omega)) ⟨iR, iR, iR, c_passOn hT hE g1 (by omega) hb h1 (fun t ht => Nat.le_trans (g2 t ht) (h2 t ht)) r9 (fun w1 y1 c1 k1 k2 k3 k4 k5 k6 => ⟨iR, iR, iR, c_passOn hT hE k1 hb (by omega) h1 (fun t ht => Nat.le_trans (k2 t ht) (Nat.le_trans (g2 t ht) (h2 t ht))) r9 (fun w2 y2 c2 m1 m2 m3 m4 m5 m6 => ?_)⟩)⟩
    have res : ∀ x'', ((x'' = 0 ∧ x' = 0 ∧ c1 = 0 ∧ c2 = 0) ∨ x'' = 1) → CJ (S 0) bd (rd S) y0 ys (fun a b => ∃ j, j < i + 1 ∧ ((fr j = nI a ∧ to j = nI b) ∨ (fr j = nI b ∧ to j = nI a))) w2 x'' := fun x'' hx => by
      refine ⟨y2, m1, fun t ht => Nat.le_trans (m2 t ht) (Nat.le_trans (k2 t ht) (g2 t ht)), fun z hsz t ht => ?_, fun a' b' ha' hb' hp hl' => ?_, ?_⟩
      · -- what the roads allow stays below
        have z1 : ∀ u, u < S 0 → z u ≤ y1 u := fun u hu => by
          by_cases eu : u = b
          · subst eu
            have hzab := hsz.2 a u (by omega) hb hl rfl
            have za := g3 z hsz a (by omega)
            have zb := g3 z hsz u hb
            rcases k5 with e | e <;> rw [e] <;> omega
          · rw [k4 u hu eu]; exact g3 z hsz u hu
        by_cases et : t = a
        · subst et
          have hzab := hsz.2 b t hb ht (by rw [← rs]; exact hl) rfl
          rw [← rs] at hzab
          have za := z1 b hb
          have zb := z1 t ht
          rcases m5 with e | e <;> rw [e] <;> omega
        · rw [m4 t ht et]; exact z1 t ht
      · obtain ⟨j, hj, hjj⟩ := hp
        have le12 := m2 b' hb'
        have le01 := k2 b' hb'
        by_cases ej : j = i
        · subst ej
          rw [q1, q2] at hjj
          rcases hjj with ⟨e1, e2⟩ | ⟨e1, e2⟩
          · rw [i_eqN (by omega) (by omega)] at e1 e2
            subst e1 e2
            have ga := g2 a (by omega)
            omega
          · rw [i_eqN (by omega) (by omega)] at e1 e2
            subst e1 e2
            have ga := g2 b hb
            have ka := k2 b hb
            rw [← rs]
            omega
        · have := g4 a' b' ha' hb' ⟨j, by omega, hjj⟩ hl'
          omega
      · rcases hx with ⟨e0, e1, e2, e3⟩ | e
        · refine Or.inl ⟨e0, fun t ht => ?_⟩
          rcases m6 with ⟨_, mm⟩ | mm
          · rcases k6 with ⟨_, kk⟩ | kk
            · rcases g5 with ⟨_, gg⟩ | gg
              · rw [mm t ht, kk t ht, gg t ht]
              · rw [e1] at gg; exact absurd gg (by decide)
            · rw [e2] at kk; exact absurd kk (by decide)
          · rw [e3] at mm; exact absurd mm (by decide)
        · exact Or.inr e
    unfold P_X0_spread_b90 P_X0_spread_b95
    refine br (fun e1 => br (fun e2 => br (fun e3 => fa1 (hv _ _ (res _ (Or.inl ⟨rfl, e1, e2, e3⟩)))) (fun _ => fa1 (hv _ _ (res _ (Or.inr rfl))))) (fun _ => fa1 (hv _ _ (res _ (Or.inr rfl))))) (fun _ => fa1 (hv _ _ (res _ (Or.inr rfl))))
def rank (N : Nat) (Y : Nat → Nat) (t : Nat) : Nat := sumTo N (fun u => b1 (decide (Y u < Y t)))
theorem rank_lt {N : Nat} {Y : Nat → Nat} {a t : Nat} (ha : a < N) (h : Y a < Y t) : rank N Y a < rank N Y t := by
  refine sumTo_lt (fun j _ => ?_) ha ?_
  · show b1 (decide (Y j < Y a)) ≤ b1 (decide (Y j < Y t))
    by_cases e : Y j < Y a
    · rw [decide_eq_true e, decide_eq_true (show Y j < Y t by omega)]; exact Nat.le_refl _
    · rw [decide_eq_false e]; exact Nat.zero_le _
  · show b1 (decide (Y a < Y a)) < b1 (decide (Y a < Y t))
    rw [decide_eq_false (Nat.lt_irrefl _), decide_eq_true h]; decide
theorem rank_N {N : Nat} {Y : Nat → Nat} {t : Nat} (ht : t < N) : rank N Y t < N := by
  have h1 := sumTo_lt (n := N) (f := fun u => b1 (decide (Y u < Y t))) (g := fun _ => 1) (fun j _ => b1_le _) ht (by show b1 (decide (Y t < Y t)) < 1; rw [decide_eq_false (Nat.lt_irrefl _)]; decide)
  have h2 := sumTo_le (n := N) (f := fun _ => 1) (c := 1) (fun _ _ => Nat.le_refl _)
  show sumTo N (fun u => b1 (decide (Y u < Y t))) < N
  omega
theorem c_spread {S : Nat → Nat} (ok : OK S) {R : Nat} {fr to ln e w : Nat → Int32} {bd y0 : Nat → Nat} (hR : R ≤ 15) (hRO : RO S R fr to ln) (hE : AgY e (S 0) bd) (h1 : ∀ t, t < S 0 → bd t ≤ 1000) (h2 : ∀ t, t < S 0 → y0 t ≤ 1000) (hw : AgY w (S 0) y0) {post : (Nat → Int32) → Prop}
    (h : ∀ w' Y, GSol (S 0) bd (rd S) exN y0 Y → AgY w' (S 0) Y → post w') : P_X0_spread (nI (S 0)) (nI R) fr to ln e w post := by
  have hT := ok.T
  obtain ⟨Y, hY⟩ := gs_ex (N := S 0) (bd := bd) (ln := rd S) (ex := exN) (y0 := y0)
  have hd0 : ∀ a, a < S 0 → rd S a a = 0 := fun a ha => ok.diag (by omega)
  unfold P_X0_spread
  let OUT : Nat → (Nat → Int32) → Int32 → Prop := fun k w' x1 => ∃ y, AgY w' (S 0) y ∧ (∀ t, t < S 0 → y t ≤ y0 t) ∧ (∀ z, Sub (S 0) bd (rd S) exN y0 z → ∀ t, t < S 0 → z t ≤ y t) ∧ ((x1 = 0 ∧ ∀ t, t < S 0 → y t = Y t) ∨ (x1 = 1 ∧ ∀ t, t < S 0 → rank (S 0) Y t ≤ k → y t = Y t))
  have key := forN (fun n k => ∀ w' x1, OUT k w' x1 → P_X0_spread_l4 (nI (S 0)) (nI R) fr to ln e w post n w' x1 (nI k)) (S 0) ?_ ?_ 0 (Nat.zero_le _)
  · obtain ⟨n, hn⟩ := key
    refine ⟨n, hn w 1 ⟨y0, hw, fun _ _ => Nat.le_refl _, fun z hz => hz.1, Or.inr ⟨rfl, fun t ht hr => ?_⟩⟩⟩
    rcases GSol_from hY hd0 ht with q | ⟨a, ha, hl, _, q⟩
    · exact q.symm
    · have := rank_lt (N := S 0) (Y := Y) (a := a) (t := t) ha (by omega)
      omega
  · intro n w' x1 ⟨y, g1, g2, g3, g4⟩
    show P_X0_spread_b4 _ _ _ _ _ _ _ _ _ _ _ _
    unfold P_X0_spread_b4 P_X0_spread_b108
    refine brT (nI_le (Nat.le_refl _) (by omega)) (h w' Y hY (fun t ht => ?_))
    rw [g1 t ht]
    rcases g4 with ⟨_, q⟩ | ⟨_, q⟩
    · rw [q t ht]
    · rw [q t ht (Nat.le_of_lt (rank_N ht))]
  · intro n k hk hv w' x1 ⟨y, g1, g2, g3, g4⟩
    show P_X0_spread_b4 _ _ _ _ _ _ _ _ _ _ _ _
    unfold P_X0_spread_b4 P_X0_spread_b108
    refine brF (nI_ge hk (by omega)) ?_
    rcases g4 with ⟨e0, q⟩ | ⟨e1, q⟩
    · exact brT e0 (h w' Y hY (fun t ht => by rw [g1 t ht, q t ht]))
    · refine brF (by rw [e1]; exact f10) (c_round ok (ys := y) (y0 := y0) hR hRO hE h1 (fun t ht => Nat.le_trans (g2 t ht) (h2 t ht)) g1 g3 (fun w2 x2 hJ => ?_))
      obtain ⟨y2, m1, m2, m3, m4, m5⟩ := hJ
      rw [nI_p1]
      refine hv w2 x2 ⟨y2, m1, fun t ht => Nat.le_trans (m2 t ht) (g2 t ht), m3, ?_⟩
      rcases m5 with ⟨e, m5⟩ | e
      · -- nothing changed: this is it
        refine Or.inl ⟨e, GSol_uniq ⟨⟨fun t ht => Nat.le_trans (m2 t ht) (g2 t ht), fun a b ha hb hl he => ?_⟩, m3⟩ hY⟩
        have := m4 a b ha hb trivial hl
        rw [← m5 a ha] at this; exact this
      · refine Or.inr ⟨e, fun t ht hr => Nat.le_antisymm ?_ (m3 Y hY.1 t ht)⟩
        rcases GSol_from hY hd0 ht with p | ⟨a, ha, hl, _, p⟩
        · rw [p]; exact Nat.le_trans (m2 t ht) (g2 t ht)
        · have l1 := rank_lt (N := S 0) (Y := Y) (a := a) (t := t) ha (by omega)
          have := m4 a t ha ht trivial hl
          rw [q a ha (by omega)] at this
          omega
