/-! what holds of the least histories, and what a road more does to them -/
theorem pc_eq10 {s : Nat} : pc s = sumTo 10 (fun t => b1 (s.testBit t)) := rfl
theorem pc_sum {N s : Nat} (hN : N ≤ 10) (hs : s < 2 ^ N) : pc s = sumTo N (fun t => b1 (s.testBit t)) := by
  unfold pc
  exact sumTo_ext hN (fun i h1 h2 => by
    rw [Nat.testBit_lt_two_pow (Nat.lt_of_lt_of_le hs (Nat.pow_le_pow_right (by omega) h1))]; rfl)
theorem pc_mk {N : Nat} (f : Nat → Bool) (hN : N ≤ 10) : pc (mk f N) = sumTo N (fun t => b1 (f t)) := by
  rw [pc_sum hN (mk_lt f N)]
  exact sumTo_congr (fun i hi => by rw [mk_bit, decide_eq_true hi, Bool.true_and])
theorem sumTo_pos {n i : Nat} {f : Nat → Nat} (hi : i < n) (h : 0 < f i) : 0 < sumTo n f := Nat.lt_of_lt_of_le h (by
  induction n with
  | zero => omega
  | succ n ih =>
    show f i ≤ sumTo n f + f n
    by_cases e : i = n
    · subst e; omega
    · have := ih (by omega); omega)
theorem fl_spec {E : Nat → Bool} : ∀ (n : Nat) {L o A B c : Nat}, fl E n = some (L, o, A, B, c) →
    E o = true ∧ pc o = L ∧ o < n ∧ 1 ≤ c ∧ (∀ s, s < n → E s = true → L ≤ pc s) ∧ (∀ s, s < n → E s = true → pc s = L → A &&& s = A ∧ B ||| s = B) ∧ (c = 1 → A = o ∧ B = o) := by
  intro n
  induction n with
  | zero => intro L o A B c e; exact nomatch e
  | succ n ih =>
    intro L o A B c e
    cases hE : E n with
    | false =>
      rw [fl_no hE] at e
      obtain ⟨h1, h2, h3, h4, h5, h6, h7⟩ := ih e
      have lt : ∀ s, s < n + 1 → E s = true → s < n := fun s hs hs2 => by
        by_cases g : s = n
        · rw [g, hE] at hs2; exact nomatch hs2
        · omega
      exact ⟨h1, h2, by omega, h4, fun s hs hs2 => h5 s (lt s hs hs2) hs2, fun s hs hs2 => h6 s (lt s hs hs2) hs2, h7⟩
    | true =>
      have new : (∀ s, s < n → E s = true → pc n < pc s) → fl E (n + 1) = some (pc n, n, n, n, 1) → some (pc n, n, n, n, 1) = some (L, o, A, B, c) →
          E o = true ∧ pc o = L ∧ o < n + 1 ∧ 1 ≤ c ∧ (∀ s, s < n + 1 → E s = true → L ≤ pc s) ∧ (∀ s, s < n + 1 → E s = true → pc s = L → A &&& s = A ∧ B ||| s = B) ∧ (c = 1 → A = o ∧ B = o) := fun hlt _ e2 => by
        cases e2
        refine ⟨hE, rfl, by omega, Nat.le_refl _, fun s hs hs2 => ?_, fun s hs hs2 hs3 => ?_, fun _ => ⟨rfl, rfl⟩⟩
        · by_cases g : s = n
          · rw [g]; exact Nat.le_refl _
          · exact Nat.le_of_lt (hlt s (by omega) hs2)
        · by_cases g : s = n
          · rw [g]; exact ⟨Nat.and_self n, Nat.or_self n⟩
          · have := hlt s (by omega) hs2; omega
      cases hq : fl E n with
      | none =>
        have en := fl_new hE (Or.inl hq)
        rw [en] at e
        exact new (fun s hs hs2 => absurd hq (fl_some hs hs2)) en e
      | some q =>
        obtain ⟨L', o', A', B', c'⟩ := q
        obtain ⟨h1, h2, h3, h4, h5, h6, h7⟩ := ih hq
        by_cases g1 : pc n < L'
        · have en := fl_new hE (Or.inr ⟨_, _, _, _, _, hq, g1⟩)
          rw [en] at e
          exact new (fun s hs hs2 => Nat.lt_of_lt_of_le g1 (h5 s hs hs2)) en e
        · by_cases g2 : pc n = L'
          · rw [fl_eq hE hq g2] at e
            cases e
            refine ⟨h1, h2, by omega, by omega, fun s hs hs2 => ?_, fun s hs hs2 hs3 => ?_, fun q => absurd q (by omega)⟩
            · by_cases g : s = n
              · rw [g]; omega
              · exact h5 s (by omega) hs2
            · by_cases g : s = n
              · subst g
                exact ⟨by rw [Nat.and_assoc, Nat.and_self], by rw [Nat.or_assoc, Nat.or_self]⟩
              · obtain ⟨k1, k2⟩ := h6 s (by omega) hs2 hs3
                exact ⟨by rw [Nat.and_assoc, Nat.and_comm n s, ← Nat.and_assoc, k1], by rw [Nat.or_assoc, Nat.or_comm n s, ← Nat.or_assoc, k2]⟩
          · rw [fl_more hq (by omega)] at e
            cases e
            refine ⟨h1, h2, by omega, h4, fun s hs hs2 => ?_, fun s hs hs2 hs3 => ?_, h7⟩
            · by_cases g : s = n
              · rw [g]; omega
              · exact h5 s (by omega) hs2
            · by_cases g : s = n
              · rw [g] at hs3; omega
              · exact h6 s (by omega) hs2 hs3
theorem FL_spec {S : Nat → Nat} {x L o A B c : Nat} (h : FL S x = some (L, o, A, B, c)) :
    hasH S x = true ∧ EX S x o = true ∧ pc o = L ∧ o < 2 ^ S 0 ∧ 1 ≤ c ∧ (∀ s, s < 2 ^ S 0 → EX S x s = true → L ≤ pc s) ∧ (∀ s, s < 2 ^ S 0 → EX S x s = true → pc s = L → A &&& s = A ∧ B ||| s = B) ∧ (c = 1 → A = o ∧ B = o) := by
  unfold FL at h
  by_cases hh : hasH S x = true
  · rw [if_pos hh] at h; exact ⟨hh, fl_spec _ h⟩
  · rw [if_neg hh] at h; exact nomatch h
theorem FL_hasH {S : Nat → Nat} (ok : OK S) {x : Nat} (hx : x < 6) : FL S x = none ↔ hasH S x = false := by
  constructor
  · intro h
    cases e : hasH S x with
    | false => rfl
    | true => exact absurd h (FL_some ok hx e)
  · intro h; unfold FL; rw [if_neg (by rw [h]; decide)]
theorem hasH_fights {S : Nat → Nat} {x : Nat} : hasH S x = false ↔ ∃ t, t < S 0 ∧ cond S t x = true := by
  constructor
  · intro h
    apply Classical.byContradiction
    intro no
    have : hasH S x = true := allB_iff.mpr (fun t ht => by
      cases e : cond S t x with
      | false => rfl
      | true => exact absurd ⟨t, ht, e⟩ no)
    rw [this] at h; exact nomatch h
  · intro ⟨t, ht, e⟩
    cases h : hasH S x with
    | false => rfl
    | true => have := allB_iff.mp h t ht; rw [e] at this; exact nomatch this
theorem bdS_1000 {S : Nat → Nat} (ok : OK S) {x t : Nat} (hx : x < 6) (ht : t < S 0) : bdS S x t ≤ 1000 := by
  have hT := ok.T
  exact ok.n1k (by omega) hx
theorem yrs_ge {S : Nat → Nat} (ok : OK S) {x t : Nat} (hx : x < 6) (ht : t < S 0) : nt S t x ≤ yrs S x t :=
  (gs_sol S x exN (ini S x (orgN (FL S x)) 1000)).2 (bdS S x) ⟨fun u hu => by
    have := bdS_1000 ok hx hu
    unfold ini; split
    · exact Nat.le_refl _
    · exact this, fun a b _ _ _ _ => Nat.le_max_right _ _⟩ t ht
theorem yrs_had {S : Nat → Nat} (ok : OK S) {x t L o A B c : Nat} (hx : x < 6) (ht : t < S 0) (h : FL S x = some (L, o, A, B, c)) (h0 : 0 < hd S t x) : yrs S x t < hd S t x := by
  have hE := (FL_spec h).2.1
  have h1 := of_decide_eq_true (allB_iff.mp hE t ht)
  have h2 : orgN (FL S x) = o := by rw [h]; rfl
  have h3 := GSol_cap (gs_sol S x exN (ini S x o 100000)) (gs_sol S x exN (ini S x o 1000)) (c := 1000) (ini_cap ok hx) t ht
  have h4 : yrs S x t = gs S x exN (ini S x o 1000) t := by unfold yrs; rw [h2]
  omega
theorem yrs_0 {S : Nat → Nat} {x t : Nat} (ht : t < S 0) (h : orgN (FL S x) = 0) : 1000 ≤ yrs S x t := by
  unfold yrs
  rw [h]
  exact (gs_sol S x exN (ini S x 0 1000)).2 (fun _ => 1000) ⟨fun u _ => by unfold ini; rw [Nat.zero_testBit, if_neg (by decide)]; exact Nat.le_refl _, fun a b _ _ _ _ => by show 1000 ≤ max (1000 + rd S a b) (bdS S x b); omega⟩ t ht
/-- how many towns are known to have had a trait -/
def knN (S : Nat → Nat) (x : Nat) : Nat := sumTo (S 0) (fun t => b1 (kn S x t))
theorem EX_known {S : Nat → Nat} {x : Nat} (hh : hasH S x = true) : EX S x (mk (kn S x) (S 0)) = true := by
  refine allB_iff.mpr (fun u hu => ?_)
  by_cases h0 : 0 < hd S u x
  · have h1 := (gs_sol S x exN (ini S x (mk (kn S x) (S 0)) 100000)).1.1 u hu
    have h2 : ini S x (mk (kn S x) (S 0)) 100000 u = nt S u x := by
      unfold ini; rw [mk_bit, decide_eq_true hu, show kn S x u = true from decide_eq_true h0]; exact if_pos rfl
    have h3 := allB_iff.mp hh u hu
    have h4 : ¬ (0 < hd S u x ∧ hd S u x ≤ nt S u x) := fun w => by
      rw [show cond S u x = true from decide_eq_true w] at h3; exact nomatch h3
    exact decide_eq_true (by omega)
  · exact decide_eq_true (by omega)
theorem FL_known {S : Nat → Nat} (ok : OK S) {x L o A B c : Nat} (h : FL S x = some (L, o, A, B, c)) : L ≤ knN S x := by
  obtain ⟨hh, _, _, _, _, h5, _⟩ := FL_spec h
  have := h5 _ (mk_lt _ _) (EX_known hh)
  rw [pc_mk _ ok.T] at this; exact this
theorem FL_0 {S : Nat → Nat} (ok : OK S) {x L o A B c : Nat} (hx : x < 6) (h : FL S x = some (L, o, A, B, c)) : L = 0 ↔ knN S x = 0 := by
  have hT := ok.T
  have p10 := pow10 hT
  have hk := FL_known ok h
  obtain ⟨hh, h1, h2, h3, _⟩ := FL_spec h
  refine ⟨fun e => ?_, fun e => by omega⟩
  have o0 : o = 0 := by
    apply Classical.byContradiction
    intro q
    have := pc_pos o (by omega) (by omega)
    omega
  refine sumTo_0 (fun t ht => ?_)
  cases q : kn S x t with
  | false => rfl
  | true =>
    have q2 := of_decide_eq_true q
    have a1 := yrs_had ok hx ht h q2
    have a2 := yrs_0 (S := S) (x := x) ht (by rw [h]; exact o0)
    have a3 := ok.h1k (t := t) (by omega) hx
    omega
theorem FL_ones {S : Nat → Nat} (ok : OK S) {x L o A B c : Nat} (h : FL S x = some (L, o, A, B, c)) : sumTo (S 0) (fun t => b1 (o.testBit t)) = L := by
  obtain ⟨_, _, h2, h3, _⟩ := FL_spec h
  rw [← pc_sum ok.T h3]; exact h2
theorem FL_sets {S : Nat → Nat} {x L o A B c : Nat} (h : FL S x = some (L, o, A, B, c)) : A &&& o = A ∧ B &&& o = o := by
  obtain ⟨_, h1, h2, h3, _, _, h6, _⟩ := FL_spec h
  obtain ⟨k1, k2⟩ := h6 o h3 h1 h2
  refine ⟨k1, ?_⟩
  rw [← k2]
  apply Nat.eq_of_testBit_eq
  intro i
  rw [Nat.testBit_and, Nat.testBit_or]
  cases B.testBit i <;> cases o.testBit i <;> rfl
theorem FL_without {S : Nat → Nat} {x L o A B c s b : Nat} (h : FL S x = some (L, o, A, B, c)) (hs : s < 2 ^ S 0) (hE : EX S x s = true) (hp : pc s = L) (hb : s.testBit b = false) : A.testBit b = false := by
  obtain ⟨_, _, _, _, _, _, h6, _⟩ := FL_spec h
  obtain ⟨k1, _⟩ := h6 s hs hE hp
  rw [← k1, Nat.testBit_and, hb, Bool.and_false]
theorem firstF_spec {P : Nat → Bool} : ∀ {n i : Nat}, firstF P n = some i → i < n ∧ P i = true := by
  intro n
  induction n with
  | zero => intro i h; exact nomatch h
  | succ n ih =>
    intro i h
    cases hq : firstF P n with
    | some j =>
      rw [firstF_up hq (n + 1) (by omega)] at h
      cases h
      exact ⟨Nat.lt_succ_of_lt (ih hq).1, (ih hq).2⟩
    | none =>
      cases hP : P n with
      | true => rw [firstF_hit hq hP] at h; cases h; exact ⟨by omega, hP⟩
      | false => rw [firstF_no hq hP] at h; exact nomatch h
theorem passV_why {S : Nat → Nat} {x a b : Nat} (ha : a < S 0) (hb : b < S 0) (h : ¬ passV S x a b = 0) : 0 < rd S a b ∧ 0 < hd S b x ∧ ∃ L o A B c, FL S x = some (L, o, A, B, c) ∧ A.testBit b = false := by
  by_cases q : 0 < rd S a b ∧ 0 < hd S b x
  · refine ⟨q.1, q.2, ?_⟩
    cases hF : FL S x with
    | none => exact absurd (passV_none hF) h
    | some w =>
      obtain ⟨L, o, A, B, c⟩ := w
      rw [passV_some q.1 q.2 hF] at h
      cases hq : firstF (passP S x a b L) (2 ^ S 0) with
      | none => rw [hq] at h; exact absurd rfl h
      | some s =>
        obtain ⟨k1, k2⟩ := firstF_spec hq
        obtain ⟨m1, m2, m3⟩ := of_decide_eq_true k2
        exact ⟨L, o, A, B, c, rfl, FL_without hF k1 (comes_EX ha hb q.1 m3) m1 m2⟩
  · exact absurd (passV_no q) h
-- ===== a road more, a road less
theorem EX_mono {S S' : Nat → Nat} {x s : Nat} (h0 : S' 0 = S 0) (hh : ∀ t, t < S 0 → hd S' t x = hd S t x) (hn : ∀ t, t < S 0 → nt S' t x = nt S t x) (hr : ∀ a b, a < S 0 → b < S 0 → 0 < rd S a b → 0 < rd S' a b ∧ rd S' a b ≤ rd S a b) (h : EX S x s = true) : EX S' x s = true := by
  have G' := gs_sol S' x exN (ini S' x s 100000)
  have G := gs_sol S x exN (ini S x s 100000)
  have sub : Sub (S 0) (bdS S x) (rd S) exN (ini S x s 100000) (gs S' x exN (ini S' x s 100000)) := by
    refine ⟨fun t ht => ?_, fun a b ha hb hl he => ?_⟩
    · have q := G'.1.1 t (by omega)
      have e : ini S' x s 100000 t = ini S x s 100000 t := by
        unfold ini bdS; rw [hn t ht]
      omega
    · obtain ⟨r1, r2⟩ := hr a b ha hb hl
      have q := G'.1.2 a b (by omega) (by omega) r1 he
      have e : bdS S' x b = bdS S x b := hn b hb
      omega
  have le := G.2 _ sub
  unfold EX inT at h ⊢
  rw [allB_iff] at h ⊢
  intro t ht
  rw [h0] at ht
  have q := of_decide_eq_true (h t ht)
  have l := le t ht
  have e := hh t ht
  exact decide_eq_true (by omega)
theorem hasH_same {S S' : Nat → Nat} {x : Nat} (h0 : S' 0 = S 0) (hh : ∀ t, t < S 0 → hd S' t x = hd S t x) (hn : ∀ t, t < S 0 → nt S' t x = nt S t x) : hasH S' x = hasH S x := by
  unfold hasH
  rw [h0]
  exact allB_congr (fun t ht => by unfold cond; rw [hh t ht, hn t ht])
theorem FL_mono {S S' : Nat → Nat} (ok' : OK S') {x : Nat} (hx : x < 6) (h0 : S' 0 = S 0) (hh : ∀ t, t < S 0 → hd S' t x = hd S t x) (hn : ∀ t, t < S 0 → nt S' t x = nt S t x) (hr : ∀ a b, a < S 0 → b < S 0 → 0 < rd S a b → 0 < rd S' a b ∧ rd S' a b ≤ rd S a b) : feN (FL S' x) ≤ feN (FL S x) := by
  cases hF : FL S x with
  | none =>
    have e' : FL S' x = none := by
      cases e : hasH S x with
      | false => rw [FL_hasH ok' hx, hasH_same h0 hh hn]; exact e
      | true =>
        exfalso
        unfold FL at hF
        rw [if_pos e] at hF
        exact fl_some (mk_lt _ _) (EX_known e) hF
    rw [e']; exact Nat.le_refl _
  | some q =>
    obtain ⟨L, o, A, B, c⟩ := q
    obtain ⟨_, h1, h2, h3, _⟩ := FL_spec hF
    cases hF' : FL S' x with
    | none => exact Nat.zero_le _
    | some q' =>
      obtain ⟨L', o', A', B', c'⟩ := q'
      obtain ⟨_, _, _, _, _, h5, _⟩ := FL_spec hF'
      have := h5 o (by rw [h0]; exact h3) (EX_mono h0 hh hn hr h1)
      show L' ≤ L
      omega
theorem allN_mono {S S' : Nat → Nat} (ok' : OK S') (h0 : S' 0 = S 0) (hk : ∀ k, 101 ≤ k → S' k = S k) (hr : ∀ a b, a < S 0 → b < S 0 → 0 < rd S a b → 0 < rd S' a b ∧ rd S' a b ≤ rd S a b) : allN S' ≤ allN S := by
  have key : ∀ x, x < 6 → feN (FL S' x) ≤ feN (FL S x) := fun x hx =>
    FL_mono ok' hx h0 (fun t _ => hk _ (by omega)) (fun t _ => hk _ (by omega)) hr
  unfold allN
  exact sumTo_le2 key
theorem allN_same {S S' : Nat → Nat} (h : ∀ k, k < 221 → S' k = S k) (hT : S 0 ≤ 10) : allN S' = allN S := by
  unfold allN
  exact sumTo_congr (fun x hx => by
    rw [FL_congr hT (h 0 (by omega)) (fun a b ha hb => h _ (by omega)) (fun t ht => h _ (by omega)) (fun t ht => h _ (by omega))])
theorem mono_new {S : Nat → Nat} (ok : OK S) {a b n : Nat} (ha : a < S 0) (hb : b < S 0) (hn : 1 ≤ n) (ok' : OK (setRd S a b n)) (h : rd S a b = 0 ∨ n ≤ rd S a b) : allN (setRd S a b n) ≤ allN S := by
  have hT := ok.T
  have sy := ok.sym (a := a) (b := b) (by omega) (by omega)
  refine allN_mono ok' setRd_0 (fun k hk => setRd_hi (by omega) (by omega) hk) (fun c d hc hd' hl => ?_)
  by_cases e1 : c = a ∧ d = b
  · obtain ⟨rfl, rfl⟩ := e1
    rw [setRd_at (by omega) (by omega)]; omega
  · by_cases e2 : c = b ∧ d = a
    · obtain ⟨rfl, rfl⟩ := e2
      rw [setRd_ta]; omega
    · rw [setRd_ne (by omega) (by omega) (by omega) (by omega) e1 e2]
      exact ⟨hl, Nat.le_refl _⟩
theorem mono_longer {S : Nat → Nat} (ok : OK S) {a b n : Nat} (ha : a < S 0) (hb : b < S 0) (h0 : 0 < rd S a b) (h : rd S a b ≤ n) : allN S ≤ allN (setRd S a b n) := by
  have hT := ok.T
  have sy := ok.sym (a := a) (b := b) (by omega) (by omega)
  refine allN_mono ok setRd_0.symm (fun k hk => (setRd_hi (by omega) (by omega) hk).symm) (fun c d hc hd' hl => ?_)
  rw [setRd_0] at hc hd'
  by_cases e1 : c = a ∧ d = b
  · obtain ⟨rfl, rfl⟩ := e1
    rw [setRd_at (by omega) (by omega)]; exact ⟨h0, h⟩
  · by_cases e2 : c = b ∧ d = a
    · obtain ⟨rfl, rfl⟩ := e2
      rw [setRd_ta]; omega
    · rw [setRd_ne (by omega) (by omega) (by omega) (by omega) e1 e2] at hl ⊢
      exact ⟨hl, Nat.le_refl _⟩
