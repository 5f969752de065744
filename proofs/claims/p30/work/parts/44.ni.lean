/-! the class takes the reports down -/
section
variable {s C0 : Nat → Int32} {n : Nat} {t : Nat → Nat} {post : Int32 → (Nat → Int32) → Prop}
def EN (s C0 : Nat → Int32) (n : Nat) (post : Int32 → (Nat → Int32) → Prop) (C : Nat → Int32) (l st y i : Nat) : Prop := P_X4_noteIn_l10 (nI n) s C0 post (n + 2 - i) C (nI l) (nI st) (nI y) (nI i)
theorem en_end {C : Nat → Int32} {l st y i : Nat} (hi : i = n + 1) (hn : n ≤ 100) (hp : post (nI l) C) : EN s C0 n post C l st y i := by
  unfold EN
  rw [show n + 2 - i = 0 + 1 by omega]
  show P_X4_noteIn_b10 _ _ _ _ _ _ _ _ _ _
  unfold P_X4_noteIn_b10
  exact brT (nI_lt (by omega) (by omega)) hp
theorem en_skip (hn : n ≤ 100) (hX : AgX s n t) {C : Nat → Int32} {l st y i : Nat} (hi : i < n) (h1 : t i ≠ 59) (h2 : i < st + 4) (hst : st < 1000) (h : EN s C0 n post C l st y (i + 1)) : EN s C0 n post C l st y i := by
  unfold EN at h ⊢
  rw [show n + 2 - i = (n + 2 - (i + 1)) + 1 by omega]
  show P_X4_noteIn_b10 _ _ _ _ _ _ _ _ _ _
  unfold P_X4_noteIn_b10 P_X4_noteIn_b118
  refine brF (nI_nlt (by omega) (by omega)) (x4_signAt hn hX hi ?_)
  have b := (hX i hi).2
  rw [show (59 : Int32) = nI 59 from rfl, i_eqN (by omega) (by omega), show nI st + (4 : Int32) = nI (st + 4) from nI_add st 4, i_ltN (by omega) (by omega)]
  exact brF h1 (brT h2 (fa1 h))
theorem en_dig (hn : n ≤ 100) (hX : AgX s n t) {C : Nat → Int32} {l st y i : Nat} (hi : i < n) (h1 : 48 ≤ t i ∧ t i ≤ 57) (h2 : st + 4 ≤ i) (hst : st < 1000) (hy : y < 1000) (h : EN s C0 n post C l st (10 * y + (t i - 48)) (i + 1)) : EN s C0 n post C l st y i := by
  unfold EN at h ⊢
  rw [show n + 2 - i = (n + 2 - (i + 1)) + 1 by omega]
  show P_X4_noteIn_b10 _ _ _ _ _ _ _ _ _ _
  unfold P_X4_noteIn_b10 P_X4_noteIn_b118
  refine brF (nI_nlt (by omega) (by omega)) (x4_signAt hn hX hi ?_)
  rw [show (59 : Int32) = nI 59 from rfl, i_eqN (by omega) (by omega), show nI st + (4 : Int32) = nI (st + 4) from nI_add st 4, i_ltN (by omega) (by omega)]
  refine brF (by omega) (brF (by omega) (fae (fa1 ?_)))
  rw [show (10 : Int32) = nI 10 from rfl, show (48 : Int32) = nI 48 from rfl, pk_mul, nI_add, nI_subN (by omega), show y * 10 + t i - 48 = 10 * y + (t i - 48) by omega]
  exact h
theorem en_semi (hn : n ≤ 100) (hX : AgX s n t) {C : Nat → Int32} {S : Nat → Nat} (hC : AgC C S) (ok : OK S) {l st y i : Nat} (hi : i ≤ n) (h1 : i < n → t i = 59) (hst : st + 2 < n) (d0 : 48 ≤ t st ∧ t st ≤ 57) (d2 : 48 ≤ t (st + 2) ∧ t (st + 2) ≤ 53) (hy : y < 1000)
    (h : ∀ C', AgC C' (repS S (t st - 48, t (st + 1), t (st + 2) - 48, y)) → EN s C0 n post C' (l + repO S (t st - 48, t (st + 1), t (st + 2) - 48, y)) (i + 1) 0 (i + 1)) : EN s C0 n post C l st y i := by
  have hT := ok.T
  have b1 := (hX (st + 1) (by omega)).2
  unfold EN at h ⊢
  rw [show n + 2 - i = (n + 2 - (i + 1)) + 1 by omega]
  generalize n + 2 - (i + 1) = m at h ⊢
  have step : P_X4_noteIn_b76 (nI n) s C0 post (P_X4_noteIn_l10 (nI n) s C0 post m) C (nI l) (nI i) (nI (t st - 48)) (nI (t (st + 2) - 48)) (nI y) (if t (st + 1) = 43 then 1 else 0) → P_X4_noteIn_l10 (nI n) s C0 post (m + 1) C (nI l) (nI st) (nI y) (nI i) := by
    intro hb
    show P_X4_noteIn_b10 _ _ _ _ _ _ _ _ _ _
    unfold P_X4_noteIn_b10
    refine brF (nI_nlt (by omega) (by omega)) ?_
    have inner : P_X4_signAt (nI n) s (nI st + (2 : Int32)) (fun r_12 => ∀ x7_13 : Int32, x7_13 = r_12 - (48 : Int32) → P_X4_signAt (nI n) s (nI st) (fun r_14 => P_X4_signAt (nI n) s (nI st + (1 : Int32)) (fun r_15 => (r_15 = (43 : Int32) → (P_X4_noteIn_b76 (nI n) s C0 post (P_X4_noteIn_l10 (nI n) s C0 post m) C (nI l) (nI i) (r_14 - (48 : Int32)) x7_13 (nI y) (1 : Int32))) ∧ (¬ (r_15 = (43 : Int32)) → (P_X4_noteIn_b76 (nI n) s C0 post (P_X4_noteIn_l10 (nI n) s C0 post m) C (nI l) (nI i) (r_14 - (48 : Int32)) x7_13 (nI y) (0 : Int32)))))) := by
      rw [show nI st + (2 : Int32) = nI (st + 2) from nI_add st 2, nI_p1]
      refine x4_signAt hn hX (by omega) (fae (x4_signAt hn hX (by omega) (x4_signAt hn hX (by omega) ?_)))
      rw [show (48 : Int32) = nI 48 from rfl, nI_subN (by omega), nI_subN (by omega), show (43 : Int32) = nI 43 from rfl, i_eqN (by omega) (by omega)]
      exact br (fun e => by rw [if_pos e] at hb; exact hb) (fun e => by rw [if_neg e] at hb; exact hb)
    by_cases e : i < n
    · refine x4_signAt hn hX e (brT (by rw [h1 e]; rfl) inner)
    · exact x4_signAt_end (by omega) (by omega) (brT rfl inner)
  refine step ?_
  have N1 : ∀ b : Bool, ¬ bI b = -1 := fun b => by cases b <;> decide
  unfold P_X4_noteIn_b76 P_X4_noteIn_b86 P_X4_noteIn_b118
  unfold repS repO at h
  by_cases tw : t st - 48 < S 0
  · have hno : isNote S (nI (t st - 48)) (nI (t (st + 2) - 48)) (nI y) = true := decide_eq_true ⟨isT_in (by omega) tw, isT_in (by omega) (by omega), decide_eq_true (by rw [nI_toInt (by omega)]; omega)⟩
    rw [if_pos tw, if_pos tw] at h
    refine s1_note hC ok (fun z => by rw [hno] at z; exact nomatch z) (fun _ C' hC' => ?_)
    rw [NN_nI (by omega), NN_nI (by omega), NN_nI (by omega)] at hC'
    exact brF (N1 _) (fa1 (fa1 (h C' hC')))
  · have hno : isNote S (nI (t st - 48)) (nI (t (st + 2) - 48)) (nI y) = false := decide_eq_false (fun z => by have := z.1; rw [isT_nI (by omega)] at this; exact tw (of_decide_eq_true this))
    rw [if_neg tw, if_neg tw] at h
    exact s1_note hC ok (fun _ => brT rfl (fa1 (fa1 (fa1 (h C hC))))) (fun z => by rw [hno] at z; exact nomatch z)
theorem en_year (hn : n ≤ 100) (hX : AgX s n t) {C : Nat → Int32} {l st q y : Nat} (hst : st + 4 ≤ n) (hy : yearAt t n (st + 4) = (q, some y)) (h : EN s C0 n post C l st y q) : EN s C0 n post C l st 0 (st + 4) := by
  unfold yearAt at hy
  cases e0 : dg (ch t n (st + 4)) with
  | false => rw [if_pos e0] at hy; cases hy
  | true =>
    have d0 := dgT e0
    have n0 := ch_in (t := t) (n := n) (i := st + 4) (by omega)
    rw [if_neg (by rw [e0]; decide)] at hy
    by_cases z : ch t n (st + 4) = 48
    · rw [if_pos z] at hy; cases hy
      refine en_dig hn hX n0.1 (by rw [← n0.2]; exact d0) (by omega) (by omega) (by omega) ?_
      rw [← n0.2, z]; exact h
    rw [if_neg z] at hy
    cases e1 : dg (ch t n (st + 4 + 1)) with
    | false =>
      rw [if_pos e1] at hy; cases hy
      refine en_dig hn hX n0.1 (by rw [← n0.2]; exact d0) (by omega) (by omega) (by omega) ?_
      rw [← n0.2, Nat.mul_zero, Nat.zero_add]; exact h
    | true =>
      have d1 := dgT e1
      have n1 := ch_in (t := t) (n := n) (i := st + 4 + 1) (by omega)
      rw [if_neg (by rw [e1]; decide)] at hy
      cases e2 : dg (ch t n (st + 4 + 2)) with
      | false =>
        rw [if_pos e2] at hy; cases hy
        refine en_dig hn hX n0.1 (by rw [← n0.2]; exact d0) (by omega) (by omega) (by omega) ?_
        rw [← n0.2, Nat.mul_zero, Nat.zero_add]
        refine en_dig hn hX n1.1 (by rw [← n1.2]; exact d1) (by omega) (by omega) (by omega) ?_
        rw [← n1.2]; exact h
      | true =>
        have d2 := dgT e2
        have n2 := ch_in (t := t) (n := n) (i := st + 4 + 2) (by omega)
        rw [if_neg (by rw [e2]; decide)] at hy; cases hy
        refine en_dig hn hX n0.1 (by rw [← n0.2]; exact d0) (by omega) (by omega) (by omega) ?_
        rw [← n0.2, Nat.mul_zero, Nat.zero_add]
        refine en_dig hn hX n1.1 (by rw [← n1.2]; exact d1) (by omega) (by omega) (by omega) ?_
        rw [← n1.2]
        refine en_dig (i := st + 4 + 2) hn hX n2.1 (by rw [← n2.2]; exact d2) (by omega) (by omega) (by omega) ?_
        rw [← n2.2]; exact h
theorem en_PR (hn : n ≤ 100) (hX : AgX s n t) {C : Nat → Int32} {S : Nat → Nat} (hC : AgC C S) (ok : OK S) {l p q : Nat} {x : Nat × Nat × Nat × Nat} (hp : PR t n p = (q, some x)) (hq : q < n → t q = 59)
    (h : ∀ C', AgC C' (repS S x) → EN s C0 n post C' (l + repO S x) (q + 1) 0 (q + 1)) : EN s C0 n post C l p 0 p := by
  unfold PR at hp
  by_cases e0 : dg (ch t n p) = false
  · rw [if_pos e0] at hp; cases hp
  rw [if_neg e0] at hp
  have d0 := dgT (dgn e0)
  have n0 := ch_in (t := t) (n := n) (i := p) (by omega)
  by_cases e1 : ¬ (ch t n (p + 1) = 43 ∨ ch t n (p + 1) = 45)
  · rw [if_pos e1] at hp; cases hp
  rw [if_neg e1] at hp
  have e1' : ch t n (p + 1) = 43 ∨ ch t n (p + 1) = 45 := Decidable.not_not.mp e1
  have n1 := ch_in (t := t) (n := n) (i := p + 1) (by omega)
  by_cases e2 : ¬ (48 ≤ ch t n (p + 2) ∧ ch t n (p + 2) ≤ 53)
  · rw [if_pos e2] at hp; cases hp
  rw [if_neg e2] at hp
  have e2' := Decidable.not_not.mp e2
  have n2 := ch_in (t := t) (n := n) (i := p + 2) (by omega)
  by_cases e3 : ¬ ch t n (p + 3) = 58
  · rw [if_pos e3] at hp; cases hp
  rw [if_neg e3] at hp
  have e3' := Decidable.not_not.mp e3
  have n3 := ch_in (t := t) (n := n) (i := p + 3) (by omega)
  generalize hy : yearAt t n (p + 4) = yy at hp
  obtain ⟨q4, b4⟩ := yy
  cases b4 with
  | none => cases hp
  | some y =>
    cases hp
    have hb := yearAt_lt hy
    rw [n0.2, n1.2, n2.2] at h
    refine en_skip hn hX n0.1 (by rw [← n0.2]; omega) (by omega) (by omega) ?_
    refine en_skip hn hX n1.1 (by rw [← n1.2]; omega) (by omega) (by omega) ?_
    refine en_skip (i := p + 2) hn hX n2.1 (by rw [← n2.2]; omega) (by omega) (by omega) ?_
    refine en_skip (i := p + 3) hn hX n3.1 (by rw [← n3.2]; omega) (by omega) (by omega) ?_
    refine en_year hn hX (by omega) hy ?_
    exact en_semi hn hX hC ok hb.2.2 hq (by omega) (by rw [← n0.2]; exact d0) (by rw [← n2.2]; exact e2') hb.1 h
theorem en_readF (hn : n ≤ 100) (hX : AgX s n t) : ∀ (f p : Nat) (C : Nat → Int32) (S : Nat → Nat) (o : Nat), AgC C S → OK S → p ≤ n → n - p < f → (readF t n f p S o).1 = none →
    (∀ C', AgC C' (readF t n f p S o).2.1 → post (nI (readF t n f p S o).2.2) C') → EN s C0 n post C o p 0 p
  | 0, p, C, S, o, _, _, _, hf, _, _ => by omega
  | f + 1, p, C, S, o, hC, ok, hp, hf, hr, h => by
    generalize hP : PR t n p = yy
    obtain ⟨q, b⟩ := yy
    cases b with
    | none => rw [readF_none hP] at hr; exact nomatch hr
    | some x =>
      have bb := PR_out hP
      rw [readF_some hP] at hr h
      by_cases z : ch t n q = 59
      · have nq := ch_in (t := t) (n := n) (i := q) (by omega)
        rw [if_pos z] at hr h
        exact en_PR hn hX hC ok hP (fun _ => by rw [← nq.2]; exact z) (fun C' hC' => en_readF hn hX f (q + 1) C' _ _ hC' (OK_repS ok hP) (by omega) (by omega) hr h)
      · rw [if_neg z] at hr h
        have hq : n ≤ q := by
          by_cases w : n ≤ q
          · exact w
          · rw [if_neg w] at hr; exact nomatch hr
        exact en_PR hn hX hC ok hP (fun w => by omega) (fun C' hC' => en_end (by omega) hn (h C' hC'))
theorem x4_noteIn (hn : n ≤ 100) (hX : AgX s n t) {S : Nat → Nat} (hC : AgC C0 S) (ok : OK S) (hr : (readF t n (n + 1) 0 S 0).1 = none) (h : ∀ C', AgC C' (readF t n (n + 1) 0 S 0).2.1 → post (nI (readF t n (n + 1) 0 S 0).2.2) C') : P_X4_noteIn (nI n) s C0 post := by
  unfold P_X4_noteIn
  exact ⟨_, en_readF hn hX (n + 1) 0 C0 S 0 hC ok (by omega) (by omega) hr h⟩
end
