/-! the model spreads a trait -/
def AgY (w : Nat → Int32) (N : Nat) (y : Nat → Nat) : Prop := ∀ t, t < N → w t = nI (y t)
def bdS (S : Nat → Nat) (x t : Nat) : Nat := nt S t x
def MJ (N : Nat) (bd : Nat → Nat) (ln : Nat → Nat → Nat) (ex : Nat → Bool) (yi ys : Nat → Nat) (pr : Nat → Nat → Prop) (w : Nat → Int32) (x4 : Int32) : Prop :=
  ∃ y, AgY w N y ∧ (∀ t, t < N → y t ≤ yi t) ∧ (∀ z, Sub N bd ln ex yi z → ∀ t, t < N → z t ≤ y t) ∧
    ((x4 = 0 ∧ (∀ t, t < N → y t = ys t) ∧ ∀ a b, a < N → b < N → pr a b → 0 < ln a b → ex b = false → ys b ≤ max (ys a + ln a b) (bd b)) ∨ (x4 = 1 ∧ sumTo N y < sumTo N ys))
theorem x6_bound {r : Nat → Int32} {S : Nat → Nat} (hM : AgM r S) {t x : Nat} (ht : t < 10) (hx : x < 6) {post : Int32 → Prop} (h : post (nI (bdS S x t))) : P_X6_bound 221 r (nI t) (nI x) post := by
  unfold P_X6_bound P_X6_at
  obtain ⟨e3, e4⟩ := mxn ht hx
  refine ⟨e4, ?_⟩
  rw [e3, hM _ (by omega)]; exact h
theorem sumTo_le2 {n : Nat} {f g : Nat → Nat} (h : ∀ j, j < n → f j ≤ g j) : sumTo n f ≤ sumTo n g := by
  induction n with
  | zero => exact Nat.le_refl _
  | succ n ih =>
    have h1 := ih (fun j hj => h j (by omega))
    have h2 := h n (by omega)
    show sumTo n f + f n ≤ sumTo n g + g n
    omega
theorem x6_spread {r w : Nat → Int32} {S : Nat → Nat} {ex : Nat → Bool} {y : Nat → Nat} {x3 : Int32} (hM : AgM r S) (ok : OK S) {x : Nat} (hx : x < 6) (hex : ∀ b, b < S 0 → (nI b = x3 ↔ ex b = true)) (hY : AgY w (S 0) y) (hc : ∀ t, t < S 0 → y t ≤ 100000) {post : (Nat → Int32) → Prop}
    (h : ∀ w' Y, GSol (S 0) (bdS S x) (rd S) ex y Y → AgY w' (S 0) Y → post w') : P_X6_spread 221 w r (nI x) x3 post := by
  have hT := ok.T
  have bd1k : ∀ t, t < 10 → bdS S x t ≤ 1000 := fun t ht => ok.n1k ht hx
  unfold P_X6_spread
  -- one look at one road
  have step : ∀ (ys : Nat → Nat) (a b : Nat) (K3 : (Nat → Int32) → Int32 → Prop) (K14 : (Nat → Int32) → Int32 → Int32 → Prop) (K25 : (Nat → Int32) → Int32 → Int32 → Int32 → Prop) (pr pr' : Nat → Nat → Prop) (w1 : Nat → Int32) (x4 : Int32), a < S 0 → b < S 0 → (∀ a' b', pr' a' b' → pr a' b' ∨ (a' = a ∧ b' = b)) →
      (∀ w' x', MJ (S 0) (bdS S x) (rd S) ex y ys pr' w' x' → K25 w' x' (nI a) (nI (b + 1))) → MJ (S 0) (bdS S x) (rd S) ex y ys pr w1 x4 → P_X6_spread_b25 221 w r (nI x) x3 post K3 K14 K25 w1 x4 (nI a) (nI b) := by
    intro ys a b K3 K14 K25 pr pr' w1 x4 ha hb hpr hK hJ
    have r9 := ok.r99 (a := a) (b := b) (by omega) (by omega)
    have bdb := bd1k b (by omega)
    obtain ⟨y1, g1, g2, g3, g4⟩ := hJ
    have ya : y1 a ≤ 100000 := Nat.le_trans (g2 a ha) (hc a ha)
    have yb : y1 b ≤ 100000 := Nat.le_trans (g2 b hb) (hc b hb)
    have skip : (0 < rd S a b → ex b = false → y1 b ≤ max (y1 a + rd S a b) (bdS S x b)) → P_X6_spread_b130 221 w r (nI x) x3 post K3 K14 K25 w1 x4 (nI a) (nI b) := fun hs => by
      unfold P_X6_spread_b130
      refine fa1 (hK w1 x4 ⟨y1, g1, g2, g3, ?_⟩)
      rcases g4 with ⟨e, e1, e2⟩ | e
      · refine Or.inl ⟨e, e1, fun a' b' ha' hb' hp hl he => ?_⟩
        rcases hpr a' b' hp with q | ⟨q1, q2⟩
        · exact e2 a' b' ha' hb' q hl he
        · subst q1 q2
          have := hs hl he
          rw [e1 _ ha', e1 _ hb'] at this; exact this
      · exact Or.inr e
    have none : (rd S a b = 0 ∨ ex b = true) → P_X6_spread_b50 221 w r (nI x) x3 post K3 K14 K25 w1 x4 (nI a) (nI b) := fun hno => by
      unfold P_X6_spread_b50 P_X6_spread_b71
      refine x6_bound hM (by omega) hx (brT ?_ ?_)
      · rw [show (100000 : Int32) = nI 100000 from rfl, i_leN (by omega) (by omega)]; omega
      · unfold P_X6_spread_b97
        rw [nI_clamp (by omega), g1 b hb, show (100000 : Int32) = nI 100000 from rfl, i_leN (by omega) (by omega)]
        refine ⟨nI_in (by omega) (by omega), brT yb (skip (fun h1 h2 => ?_))⟩
        rcases hno with q | q
        · omega
        · rw [q] at h2; exact nomatch h2
    have some : 0 < rd S a b → ex b = false → ∀ sv, sv = max (y1 a + rd S a b) (bdS S x b) → P_X6_spread_b97 221 w r (nI x) x3 post K3 K14 K25 w1 x4 (nI a) (nI b) (nI sv) := fun hl he sv hsv => by
      unfold P_X6_spread_b97
      rw [nI_clamp (by omega), g1 b hb, show (100000 : Int32) = nI 100000 from rfl, i_leN (by omega) (by omega), i_leN (by omega) (by omega)]
      refine ⟨nI_in (by omega) (by omega), br (fun q => skip (fun _ _ => by omega)) (fun q => brF (by omega) ⟨nI_in (by omega) (by omega), ?_⟩)⟩
      unfold P_X6_spread_b130
      refine fa1 (hK _ _ ⟨setS y1 b sv, fun t ht => ?_, fun t ht => ?_, fun z hz t ht => ?_, Or.inr ⟨rfl, ?_⟩⟩)
      · show (if t = b then nI sv else w1 t) = nI (if t = b then sv else y1 t)
        by_cases e : t = b
        · rw [if_pos e, if_pos e]
        · rw [if_neg e, if_neg e]; exact g1 t ht
      · unfold setS
        by_cases e : t = b
        · rw [if_pos e, e]; have := g2 b hb; omega
        · rw [if_neg e]; exact g2 t ht
      · unfold setS
        by_cases e : t = b
        · rw [if_pos e, e]
          have h1 := hz.2 a b ha hb hl he
          have h2 := g3 z hz a ha
          omega
        · rw [if_neg e]; exact g3 z hz t ht
      · have k1 := sumTo_lt (n := S 0) (f := setS y1 b sv) (g := y1) (fun j _ => by
          unfold setS
          by_cases e : j = b
          · rw [if_pos e, e]; omega
          · rw [if_neg e]; exact Nat.le_refl _) hb (by rw [setS_eq]; omega)
        rcases g4 with ⟨_, e1, _⟩ | ⟨_, e⟩
        · rw [← sumTo_congr (f := y1) (g := ys) e1]; exact k1
        · omega
    unfold P_X6_spread_b25
    rw [m0 hM]
    refine ⟨nI_in (c := 0) (by omega) (by omega), brF (nI_ge hb (by omega)) (x6_length hM (by omega) (by omega) (brE0 (by omega) (fun z => none (Or.inl z)) (fun z => br (fun q => none (Or.inr ((hex b hb).mp q))) (fun q => ?_))))⟩
    have he : ex b = false := by
      cases e : ex b with
      | false => rfl
      | true => exact absurd ((hex b hb).mpr e) q
    refine ⟨nI_in (by omega) (by omega), x6_length hM (by omega) (by omega) ?_⟩
    unfold P_X6_spread_b71
    rw [nI_clamp (by omega), g1 a ha, nI_add]
    refine x6_bound hM (by omega) hx ?_
    rw [i_leN (by omega) (by omega)]
    refine br (fun w => ?_) (fun w => x6_bound hM (by omega) hx ?_)
    · exact some z he _ (by omega)
    · exact some z he _ (by omega)
  -- all roads, again and again
  have main : ∀ (m : Nat) (w1 : Nat → Int32) (ys : Nat → Nat), sumTo (S 0) ys ≤ m → AgY w1 (S 0) ys → (∀ t, t < S 0 → ys t ≤ y t) → (∀ z, Sub (S 0) (bdS S x) (rd S) ex y z → ∀ t, t < S 0 → z t ≤ ys t) → P_X6_spread_l3 221 w r (nI x) x3 post (m + 2) w1 1 := by
    intro m
    induction m using Nat.strongRecOn with
    | ind m ih =>
      intro w1 ys hs k1 k2 k3
      show P_X6_spread_b3 _ _ _ _ _ _ _ _ _
      unfold P_X6_spread_b3
      refine brF f10 ?_
      have outer := forN (fun n i => ∀ w' x', MJ (S 0) (bdS S x) (rd S) ex y ys (fun a _ => a < i) w' x' → P_X6_spread_l14 221 w r (nI x) x3 post (P_X6_spread_l3 221 w r (nI x) x3 post (m + 1)) n w' x' (nI i)) (S 0) ?_ ?_ 0 (Nat.zero_le _)
      · obtain ⟨n, hn⟩ := outer
        exact ⟨n, hn w1 0 ⟨ys, k1, k2, k3, Or.inl ⟨rfl, fun _ _ => rfl, fun a b _ _ hp => absurd hp (by omega)⟩⟩⟩
      · intro n w' x' hJ
        show P_X6_spread_b14 _ _ _ _ _ _ _ _ _ _ _
        unfold P_X6_spread_b14
        rw [m0 hM]
        refine ⟨nI_in (c := 0) (by omega) (by omega), brT (nI_le (Nat.le_refl _) (by omega)) ?_⟩
        obtain ⟨y1, g1, g2, g3, g4⟩ := hJ
        rcases g4 with ⟨e, e1, e2⟩ | ⟨e, e1⟩
        · rw [e]
          show P_X6_spread_b3 _ _ _ _ _ _ _ _ _
          unfold P_X6_spread_b3
          refine brT rfl (h w' ys ⟨⟨k2, fun a b ha hb hl he => e2 a b ha hb ha hl he⟩, k3⟩ (fun t ht => by rw [g1 t ht, e1 t ht]))
        · rw [e]
          have hm : 0 < m := by omega
          have := ih (m - 1) (by omega) w' y1 (by omega) g1 g2 g3
          rw [show m - 1 + 2 = m + 1 by omega] at this
          exact this
      · intro n a ha hv w' x' hJ
        show P_X6_spread_b14 _ _ _ _ _ _ _ _ _ _ _
        unfold P_X6_spread_b14
        rw [m0 hM]
        refine ⟨nI_in (c := 0) (by omega) (by omega), brF (nI_ge ha (by omega)) ?_⟩
        have inner := forN (fun k j => ∀ w2 x2, MJ (S 0) (bdS S x) (rd S) ex y ys (fun a' b' => a' < a ∨ (a' = a ∧ b' < j)) w2 x2 → P_X6_spread_l25 221 w r (nI x) x3 post (P_X6_spread_l3 221 w r (nI x) x3 post (m + 1)) (P_X6_spread_l14 221 w r (nI x) x3 post (P_X6_spread_l3 221 w r (nI x) x3 post (m + 1)) n) k w2 x2 (nI a) (nI j)) (S 0) ?_ ?_ 0 (Nat.zero_le _)
        · obtain ⟨k, hk⟩ := inner
          obtain ⟨y1, g1, g2, g3, g4⟩ := hJ
          refine ⟨k, hk w' x' ⟨y1, g1, g2, g3, ?_⟩⟩
          rcases g4 with ⟨e, e1, e2⟩ | e
          · exact Or.inl ⟨e, e1, fun a' b' h1 h2 hp => e2 a' b' h1 h2 (by omega)⟩
          · exact Or.inr e
        · intro k w2 x2 hJ2
          show P_X6_spread_b25 _ _ _ _ _ _ _ _ _ _ _ _ _
          unfold P_X6_spread_b25
          rw [m0 hM]
          refine ⟨nI_in (c := 0) (by omega) (by omega), brT (nI_le (Nat.le_refl _) (by omega)) (fa1 (hv _ _ ?_))⟩
          obtain ⟨y1, g1, g2, g3, g4⟩ := hJ2
          refine ⟨y1, g1, g2, g3, ?_⟩
          rcases g4 with ⟨e, e1, e2⟩ | e
          · exact Or.inl ⟨e, e1, fun a' b' h1 h2 hp => e2 a' b' h1 h2 (by omega)⟩
          · exact Or.inr e
        · intro k j hj hw w2 x2 hJ2
          exact step ys a j _ _ _ _ _ w2 x2 ha hj (fun a' b' hp => by omega) hw hJ2
  exact ⟨_, main (sumTo (S 0) y) w y (Nat.le_refl _) hY (fun _ _ => Nat.le_refl _) (fun _ hz => hz.1)⟩
