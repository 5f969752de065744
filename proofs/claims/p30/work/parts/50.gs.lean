/-! since when towns have a trait: the greatest years that the roads allow -/
def Sub (N : Nat) (bd : Nat → Nat) (ln : Nat → Nat → Nat) (ex : Nat → Bool) (y0 z : Nat → Nat) : Prop :=
  (∀ t, t < N → z t ≤ y0 t) ∧ ∀ a b, a < N → b < N → 0 < ln a b → ex b = false → z b ≤ max (z a + ln a b) (bd b)
def GSol (N : Nat) (bd : Nat → Nat) (ln : Nat → Nat → Nat) (ex : Nat → Bool) (y0 Y : Nat → Nat) : Prop :=
  Sub N bd ln ex y0 Y ∧ ∀ z, Sub N bd ln ex y0 z → ∀ t, t < N → z t ≤ Y t
section
variable {N : Nat} {bd : Nat → Nat} {ln : Nat → Nat → Nat} {ex : Nat → Bool} {y0 : Nat → Nat}
theorem GSol_uniq {Y Y' : Nat → Nat} (h : GSol N bd ln ex y0 Y) (h' : GSol N bd ln ex y0 Y') : ∀ t, t < N → Y t = Y' t := fun t ht =>
  Nat.le_antisymm (h'.2 _ h.1 t ht) (h.2 _ h'.1 t ht)
theorem sumTo_lt {n : Nat} {f g : Nat → Nat} (h : ∀ j, j < n → f j ≤ g j) {i : Nat} (hi : i < n) (hl : f i < g i) : sumTo n f < sumTo n g := by
  induction n with
  | zero => omega
  | succ n ih =>
    show sumTo n f + f n < sumTo n g + g n
    have hn := h n (by omega)
    by_cases e : i = n
    · subst e
      have : sumTo i f ≤ sumTo i g := by
        clear ih hl
        induction i with
        | zero => exact Nat.le_refl _
        | succ m im =>
          show sumTo m f + f m ≤ sumTo m g + g m
          have := im (fun j hj => h j (by omega)) (by omega) (h m (by omega))
          have := h m (by omega)
          omega
      omega
    · have := ih (fun j hj => h j (by omega)) (by omega)
      omega
theorem gs_desc : ∀ (m : Nat) (y : Nat → Nat), sumTo N y ≤ m → (∀ t, t < N → y t ≤ y0 t) → (∀ z, Sub N bd ln ex y0 z → ∀ t, t < N → z t ≤ y t) → ∃ Y, GSol N bd ln ex y0 Y := by
  intro m
  induction m with
  | zero =>
    intro y hs hy hz
    by_cases st : ∀ a b, a < N → b < N → 0 < ln a b → ex b = false → y b ≤ max (y a + ln a b) (bd b)
    · exact ⟨y, ⟨hy, st⟩, hz⟩
    · exfalso
      apply st
      intro a b ha hb _ _
      have h0 : y b = 0 := by
        have := sumTo_lt (n := N) (f := fun _ => 0) (g := y) (fun _ _ => Nat.zero_le _) hb
        rw [sumTo_0 (fun _ _ => rfl)] at this
        by_cases e : y b = 0
        · exact e
        · have := this (by omega); omega
      rw [h0]; exact Nat.zero_le _
  | succ m ih =>
    intro y hs hy hz
    by_cases st : ∀ a b, a < N → b < N → 0 < ln a b → ex b = false → y b ≤ max (y a + ln a b) (bd b)
    · exact ⟨y, ⟨hy, st⟩, hz⟩
    · have : ∃ a b, a < N ∧ b < N ∧ 0 < ln a b ∧ ex b = false ∧ ¬ y b ≤ max (y a + ln a b) (bd b) := by
        apply Classical.byContradiction
        intro c
        exact st (fun a b ha hb hl he => Classical.byContradiction (fun d => c ⟨a, b, ha, hb, hl, he, d⟩))
      obtain ⟨a, b, ha, hb, hl, he, d⟩ := this
      have key : ∀ t, setS y b (max (y a + ln a b) (bd b)) t ≤ y t := fun t => by
        unfold setS
        by_cases e : t = b
        · rw [if_pos e, e]; omega
        · rw [if_neg e]; exact Nat.le_refl _
      refine ih (setS y b (max (y a + ln a b) (bd b))) ?_ (fun t ht => Nat.le_trans (key t) (hy t ht)) (fun z hsz t ht => ?_)
      · have := sumTo_lt (n := N) (f := setS y b (max (y a + ln a b) (bd b))) (g := y) (fun j _ => key j) hb (by rw [setS_eq]; omega)
        omega
      · unfold setS
        by_cases e : t = b
        · rw [if_pos e, e]
          have h1 := hsz.2 a b ha hb hl he
          have h2 := hz z hsz a ha
          omega
        · rw [if_neg e]; exact hz z hsz t ht
theorem gs_ex : ∃ Y, GSol N bd ln ex y0 Y := gs_desc (sumTo N y0) y0 (Nat.le_refl _) (fun _ _ => Nat.le_refl _) (fun _ h => h.1)
/-- where the years come from -/
theorem GSol_from {Y : Nat → Nat} (h : GSol N bd ln ex y0 Y) (hd0 : ∀ a, a < N → ln a a = 0) {t : Nat} (ht : t < N) : Y t = y0 t ∨ ∃ a, a < N ∧ 0 < ln a t ∧ ex t = false ∧ Y t = max (Y a + ln a t) (bd t) := by
  apply Classical.byContradiction
  intro c
  have c1 : Y t < y0 t := by
    have := h.1.1 t ht
    by_cases e : Y t = y0 t
    · exact absurd (Or.inl e) c
    · omega
  have c2 : ∀ a, a < N → 0 < ln a t → ex t = false → Y t < max (Y a + ln a t) (bd t) := fun a ha hl he => by
    have := h.1.2 a t ha ht hl he
    by_cases e : Y t = max (Y a + ln a t) (bd t)
    · exact absurd (Or.inr ⟨a, ha, hl, he, e⟩) c
    · omega
  have hs : Sub N bd ln ex y0 (setS Y t (Y t + 1)) := by
    refine ⟨fun u hu => ?_, fun a b ha hb hl he => ?_⟩
    · unfold setS
      by_cases e : u = t
      · rw [if_pos e, e]; omega
      · rw [if_neg e]; exact h.1.1 u hu
    · unfold setS
      by_cases e : b = t
      · subst e
        have ne : a ≠ b := fun q => by rw [q, hd0 b hb] at hl; omega
        rw [if_pos rfl, if_neg ne]
        have := c2 a ha hl he
        omega
      · rw [if_neg e]
        have := h.1.2 a b ha hb hl he
        by_cases f : a = t
        · rw [if_pos f]; rw [f] at this ⊢; omega
        · rw [if_neg f]; exact this
  have := h.2 _ hs t ht
  rw [setS_eq] at this
  omega
/-- a cap on the years -/
theorem GSol_cap {Y Y' y1 : Nat → Nat} {c : Nat} (h : GSol N bd ln ex y0 Y) (h' : GSol N bd ln ex y1 Y') (hy : ∀ t, t < N → y1 t = min (y0 t) c) : ∀ t, t < N → Y' t = min (Y t) c := by
  intro t ht
  have s1 : Sub N bd ln ex y1 (fun u => min (Y u) c) := by
    refine ⟨fun u hu => ?_, fun a b ha hb hl he => ?_⟩
    · have := h.1.1 u hu
      rw [hy u hu]; show min (Y u) c ≤ _; omega
    · have := h.1.2 a b ha hb hl he
      show min (Y b) c ≤ max (min (Y a) c + ln a b) (bd b)
      omega
  have s2 : Sub N bd ln ex y0 Y' := ⟨fun u hu => by have := h'.1.1 u hu; rw [hy u hu] at this; omega, h'.1.2⟩
  have a1 : min (Y t) c ≤ Y' t := h'.2 _ s1 t ht
  have a2 := h.2 _ s2 t ht
  have a3 := h'.1.1 t ht
  rw [hy t ht] at a3
  omega
/-- the years from several beginnings together are the best of those from each -/
theorem GSol_sets {Y : Nat → Nat} {P : Nat → Prop} {Z : Nat → Nat → Nat} {yz : Nat → Nat → Nat} {c : Nat} (h : GSol N bd ln ex y0 Y) (hz : ∀ p, P p → GSol N bd ln ex (yz p) (Z p)) (hc : ∀ t, t < N → y0 t ≤ c) (h1 : ∀ p, P p → ∀ t, t < N → y0 t ≤ yz p t)
    (h2 : ∀ t, t < N → y0 t = c ∨ ∃ p, P p ∧ yz p t ≤ y0 t) {u L : Nat} (hu : u < N) (hL : L < c) : Y u ≤ L ↔ ∃ p, P p ∧ Z p u ≤ L := by
  constructor
  · intro hY
    apply Classical.byContradiction
    intro no
    have no' : ∀ p, P p → L < Z p u := fun p hp => Classical.byContradiction (fun q => no ⟨p, hp, by omega⟩)
    -- the best of all of them, as far as they go below c
    have low : ∀ t, ∃ v, (v = c ∨ ∃ p, P p ∧ v = min (Z p t) c) ∧ v ≤ c ∧ ∀ p, P p → v ≤ Z p t := fun t => by
      have : ∀ m, (∃ v, v ≤ m ∧ (v = c ∨ ∃ p, P p ∧ v = min (Z p t) c) ∧ v ≤ c) → ∃ v, (v = c ∨ ∃ p, P p ∧ v = min (Z p t) c) ∧ v ≤ c ∧ ∀ p, P p → v ≤ Z p t := by
        intro m
        induction m with
        | zero =>
          intro ⟨v, hv, h1, h2⟩
          exact ⟨v, h1, h2, fun p _ => by omega⟩
        | succ m ih =>
          intro ⟨v, hv, h1, h2⟩
          by_cases q : ∀ p, P p → v ≤ Z p t
          · exact ⟨v, h1, h2, q⟩
          · have : ∃ p, P p ∧ ¬ v ≤ Z p t := Classical.byContradiction (fun w => q (fun p hp => Classical.byContradiction (fun x => w ⟨p, hp, x⟩)))
            obtain ⟨p, hp, hlt⟩ := this
            exact ih ⟨min (Z p t) c, by omega, Or.inr ⟨p, hp, rfl⟩, by omega⟩
      exact this c ⟨c, Nat.le_refl _, Or.inl rfl, Nat.le_refl _⟩
    let W : Nat → Nat := fun t => Classical.choose (low t)
    have hW : ∀ t, (W t = c ∨ ∃ p, P p ∧ W t = min (Z p t) c) ∧ W t ≤ c ∧ ∀ p, P p → W t ≤ Z p t := fun t => Classical.choose_spec (low t)
    have sub : Sub N bd ln ex y0 W := by
      refine ⟨fun t ht => ?_, fun a b ha hb hl he => ?_⟩
      · rcases h2 t ht with e | ⟨p, hp, e⟩
        · rw [e]; exact (hW t).2.1
        · have q1 := (hW t).2.2 p hp
          have q2 := (hz p hp).1.1 t ht
          omega
      · rcases (hW a).1 with e | ⟨p, hp, e⟩
        · have := (hW b).2.1
          rw [e]; omega
        · have q1 := (hW b).2.2 p hp
          have q2 := (hz p hp).1.2 a b ha hb hl he
          have q3 := (hW b).2.1
          omega
    have le := h.2 _ sub u hu
    rcases (hW u).1 with e | ⟨p, hp, e⟩
    · omega
    · have := no' p hp
      omega
  · intro ⟨p, hp, hle⟩
    have sub : Sub N bd ln ex (yz p) Y := ⟨fun t ht => by have q1 := h.1.1 t ht; have q2 := h1 p hp t ht; omega, h.1.2⟩
    have := (hz p hp).2 _ sub u hu
    omega
end
