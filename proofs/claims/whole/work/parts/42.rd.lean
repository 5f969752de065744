/-! a report read: one by one -/
def ch (t : Nat → Nat) (n i : Nat) : Nat := if i < n then t i else 300
theorem ch_in {t : Nat → Nat} {n i : Nat} (h : ch t n i < 256) : i < n ∧ ch t n i = t i := by
  unfold ch at h ⊢
  by_cases e : i < n
  · rw [if_pos e]; exact ⟨e, rfl⟩
  · rw [if_neg e] at h; omega
def yearAt (t : Nat → Nat) (n p : Nat) : Nat × Option Nat :=
  if dg (ch t n p) = false then (p, none)
  else if ch t n p = 48 then (p + 1, some 0)
  else if dg (ch t n (p + 1)) = false then (p + 1, some (ch t n p - 48))
  else if dg (ch t n (p + 2)) = false then (p + 2, some (10 * (ch t n p - 48) + (ch t n (p + 1) - 48)))
  else (p + 3, some (10 * (10 * (ch t n p - 48) + (ch t n (p + 1) - 48)) + (ch t n (p + 2) - 48)))
def PR (t : Nat → Nat) (n p : Nat) : Nat × Option (Nat × Nat × Nat × Nat) :=
  if dg (ch t n p) = false then (p, none)
  else if ¬ (ch t n (p + 1) = 43 ∨ ch t n (p + 1) = 45) then (p + 1, none)
  else if ¬ (48 ≤ ch t n (p + 2) ∧ ch t n (p + 2) ≤ 53) then (p + 2, none)
  else if ¬ ch t n (p + 3) = 58 then (p + 3, none)
  else ((yearAt t n (p + 4)).1, (yearAt t n (p + 4)).2.map (fun y => (ch t n p - 48, ch t n (p + 1), ch t n (p + 2) - 48, y)))
theorem dgT {c : Nat} (h : dg c = true) : 48 ≤ c ∧ c ≤ 57 := of_decide_eq_true h
theorem dgF {c : Nat} (h : dg c = false) : ¬ (48 ≤ c ∧ c ≤ 57) := of_decide_eq_false h
theorem dgn {c : Nat} (h : ¬ dg c = false) : dg c = true := by cases e : dg c with
  | true => rfl
  | false => exact absurd e h
section
variable {s : Nat → Int32} {n : Nat} {t : Nat → Nat} {sp : Int32}
theorem x6_sign (hn : n ≤ 100) (hX : AgX s n t) {p : Nat} (hp : p < 2 ^ 31) {post : Int32 → Prop} (h0 : n ≤ p → post (-1)) (h1 : p < n → ch t n p < 256 → post (nI (ch t n p))) : P_X6_sign (nI n) (nI p) s post := by
  unfold P_X6_sign P_X6_sign_b24
  rw [i_leN (by omega) hp, nI_clamp hp]
  refine br h0 (fun q => ⟨nI_in (by omega) (by omega), ?_⟩)
  have e : ch t n p = t p := if_pos (by omega)
  rw [e] at h1
  rw [(hX p (by omega)).1]; exact h1 (by omega) (hX p (by omega)).2
theorem nI_l64 {a : Nat} (h : a < 2 ^ 31) : (nI a).toInt64.toInt = (a : Int) := by rw [Int32.toInt_toInt64, nI_toInt h]
theorem x6_inS (hn : n ≤ 100) (hX : AgX s n t) {p lo hi : Nat} (hp : p < 2 ^ 31) (hlo : lo < 256) (hhi : hi < 256) {post : Int32 → Int32 → Prop} (h0 : ¬ (lo ≤ ch t n p ∧ ch t n p ≤ hi) → ∀ r, post r 0) (h1 : lo ≤ ch t n p ∧ ch t n p ≤ hi → p < n → post (nI (ch t n p)) 1) :
    P_X6_sign (nI n) (nI p) s (fun r => P_X6_in r.toInt64 (nI lo).toInt64 (nI hi).toInt64 (post r)) := by
  refine x6_sign hn hX hp (fun q => ?_) (fun q hc => ?_)
  · refine x6_in ?_
    rw [nI_l64 (by omega), nI_l64 (by omega), Int32.toInt_toInt64, show (-1 : Int32).toInt = -1 from rfl, decide_eq_false (by omega)]
    exact h0 (by unfold ch; rw [if_neg (by omega)]; omega) _
  · refine x6_in ?_
    rw [nI_l64 (by omega), nI_l64 (by omega), nI_l64 (by omega)]
    by_cases z : lo ≤ ch t n p ∧ ch t n p ≤ hi
    · rw [decide_eq_true (by omega)]; exact h1 z q
    · rw [decide_eq_false (by omega)]; exact h0 z _
theorem x6_taken (hn : n ≤ 100) (hX : AgX s n t) {p lo hi : Nat} (hp : p < 2 ^ 30) (hlo : lo < 256) (hhi : hi < 256) {post : Int32 → Int32 → Prop} (h0 : ¬ (lo ≤ ch t n p ∧ ch t n p ≤ hi) → post (-1) (nI p)) (h1 : lo ≤ ch t n p ∧ ch t n p ≤ hi → p < n → post (nI (ch t n p - lo)) (nI (p + 1))) :
    P_X6_taken (nI n) (nI p) s (nI lo) (nI hi) post := by
  unfold P_X6_taken
  refine x6_inS (post := fun r_1 r_2 => (r_2 = 0 → post (-1) (nI p)) ∧ (¬ (r_2 = 0) → (∀ f_spot_4 : Int32, f_spot_4 = nI p + (1 : Int32) → post (r_1 - nI lo) f_spot_4))) hn hX (by omega) hlo hhi (fun z r => brT rfl (h0 z)) (fun z q => brF f10 (fa1 ?_))
  rw [nI_subN z.1]; exact h1 z q
theorem yr_stop (hn : n ≤ 100) (hX : AgX s n t) {q v m : Nat} {post : Int32 → Int32 → Prop} (hq : q < 2 ^ 30) (hv0 : 0 < v) (hv : v < 1000) (hs : dg (ch t n q) = false ∨ 100 ≤ v) (h : post (nI v) (nI q)) : P_X6_readYear_l9 (nI n) sp s post (m + 1) (nI q) (nI v) := by
  show P_X6_readYear_b9 _ _ _ _ _ _ _
  unfold P_X6_readYear_b9 P_X6_readYear_b74
  refine brF (nI_nle hv0 (by omega)) ?_
  refine x6_inS (lo := 48) (hi := 57) (post := fun _ r_3 => (r_3 = 0 → post (nI v) (nI q)) ∧ (¬ (r_3 = 0) → (P_X6_sign (nI n) (nI q) s (fun r_5 => ((1000 : Int32) ≤ ((((10 : Int32) * nI v) + r_5) - (48 : Int32)) → post (nI v) (nI q)) ∧ (¬ ((1000 : Int32) ≤ ((((10 : Int32) * nI v) + r_5) - (48 : Int32))) → _))))) hn hX (by omega) (by omega) (by omega) (fun _ _ => brT rfl h) (fun z w => brF f10 ?_)
  have hv1 : 100 ≤ v := hs.resolve_left (fun e => dgF e z)
  refine x6_sign hn hX (by omega) (fun _ => by omega) (fun _ _ => brT ?_ h)
  rw [show (10 : Int32) = nI 10 from rfl, show (48 : Int32) = nI 48 from rfl, show (1000 : Int32) = nI 1000 from rfl, pk_mul, nI_add, nI_subN (by omega), i_leN (by omega) (by omega)]
  omega
theorem yr_go (hn : n ≤ 100) (hX : AgX s n t) {q v m : Nat} {post : Int32 → Int32 → Prop} (hq : q < 2 ^ 30) (hv0 : 0 < v) (hv : v < 100) (hs : dg (ch t n q) = true) (h : P_X6_readYear_l9 (nI n) sp s post m (nI (q + 1)) (nI (10 * v + (ch t n q - 48)))) : P_X6_readYear_l9 (nI n) sp s post (m + 1) (nI q) (nI v) := by
  show P_X6_readYear_b9 _ _ _ _ _ _ _
  unfold P_X6_readYear_b9 P_X6_readYear_b74
  have hd := dgT hs
  refine brF (nI_nle hv0 (by omega)) ?_
  have e : ((10 : Int32) * nI v) + nI (ch t n q) - (48 : Int32) = nI (10 * v + (ch t n q - 48)) := by
    rw [show (10 : Int32) = nI 10 from rfl, show (48 : Int32) = nI 48 from rfl, pk_mul, nI_add, nI_subN (by omega), show 10 * v + ch t n q - 48 = 10 * v + (ch t n q - 48) by omega]
  refine x6_sign hn hX (by omega) (fun z => absurd (ch_in (t := t) (n := n) (i := q) (by omega)).1 (by omega)) (fun w _ => x6_in ?_)
  rw [show (48 : Int64) = (nI 48).toInt64 from rfl, show (57 : Int64) = (nI 57).toInt64 from rfl, nI_l64 (by omega), nI_l64 (by omega), nI_l64 (by omega), decide_eq_true (by omega)]
  refine brF f10 (x6_sign hn hX (by omega) (fun z => by omega) (fun _ _ => brF ?_ (x6_sign hn hX (by omega) (fun z => by omega) (fun _ _ => fae (fa1 ?_)))))
  · rw [e, show (1000 : Int32) = nI 1000 from rfl, i_leN (by omega) (by omega)]; omega
  · rw [e]; exact h
theorem x6_readYear (hn : n ≤ 100) (hX : AgX s n t) {p : Nat} (hp : p < 2 ^ 29) {post : Int32 → Int32 → Prop} (h : post (awI (yearAt t n p).2) (nI (yearAt t n p).1)) : P_X6_readYear (nI n) (nI p) s post := by
  unfold P_X6_readYear
  unfold yearAt at h
  have stop0 : ∀ {q : Nat} {x : Int32}, x ≤ 0 → post x (nI q) → P_X6_readYear_l9 (nI n) (nI p) s post 1 (nI q) x := fun hx hp => by
    show P_X6_readYear_b9 _ _ _ _ _ _ _
    unfold P_X6_readYear_b9 P_X6_readYear_b74
    exact brT hx hp
  refine x6_taken (lo := 48) (hi := 57) hn hX (by omega) (by omega) (by omega) (fun z => ?_) (fun z w => ?_)
  · rw [if_pos (show dg (ch t n p) = false from decide_eq_false z)] at h
    exact ⟨1, stop0 (by decide) h⟩
  rw [if_neg (by rw [show dg (ch t n p) = true from decide_eq_true z]; decide)] at h
  by_cases e0 : ch t n p = 48
  · rw [if_pos e0] at h
    rw [e0]
    exact ⟨1, stop0 (by decide) h⟩
  rw [if_neg e0] at h
  cases e1 : dg (ch t n (p + 1)) with
  | false =>
    rw [if_pos e1] at h
    exact ⟨1, yr_stop hn hX (by omega) (by omega) (by omega) (Or.inl e1) h⟩
  | true =>
    rw [if_neg (by rw [e1]; decide)] at h
    have d1 := dgT e1
    cases e2 : dg (ch t n (p + 2)) with
    | false =>
      rw [if_pos e2] at h
      exact ⟨2, yr_go hn hX (by omega) (by omega) (by omega) e1 (yr_stop hn hX (by omega) (by omega) (by omega) (Or.inl e2) h)⟩
    | true =>
      rw [if_neg (by rw [e2]; decide)] at h
      have d2 : 48 ≤ ch t n (p + 1 + 1) ∧ ch t n (p + 1 + 1) ≤ 57 := dgT e2
      exact ⟨3, yr_go hn hX (by omega) (by omega) (by omega) e1 (yr_go hn hX (by omega) (by omega) (by omega) e2 (yr_stop hn hX (by omega) (by omega) (by omega) (Or.inr (by omega)) h))⟩
theorem yearAt_lt {p q y : Nat} (h : yearAt t n p = (q, some y)) : y < 1000 ∧ p + 1 ≤ q ∧ q ≤ n := by
  unfold yearAt at h
  cases e0 : dg (ch t n p) with
  | false => rw [if_pos e0] at h; cases h
  | true =>
    have d0 := dgT e0
    have n0 := ch_in (t := t) (n := n) (i := p) (by omega)
    rw [if_neg (by rw [e0]; decide)] at h
    by_cases z : ch t n p = 48
    · rw [if_pos z] at h; cases h; omega
    rw [if_neg z] at h
    cases e1 : dg (ch t n (p + 1)) with
    | false => rw [if_pos e1] at h; cases h; omega
    | true =>
      have d1 := dgT e1
      have n1 := ch_in (t := t) (n := n) (i := p + 1) (by omega)
      rw [if_neg (by rw [e1]; decide)] at h
      cases e2 : dg (ch t n (p + 2)) with
      | false => rw [if_pos e2] at h; cases h; omega
      | true =>
        have d2 := dgT e2
        have n2 := ch_in (t := t) (n := n) (i := p + 2) (by omega)
        rw [if_neg (by rw [e2]; decide)] at h; cases h; omega
end
def repS (S : Nat → Nat) (r : Nat × Nat × Nat × Nat) : Nat → Nat := if r.1 < S 0 then noteS S r.1 r.2.2.1 r.2.2.2 (if r.2.1 = 43 then 1 else 0) else S
def repO (S : Nat → Nat) (r : Nat × Nat × Nat × Nat) : Nat := if r.1 < S 0 then 0 else 1
theorem PR_out {t : Nat → Nat} {n p q : Nat} {x : Nat × Nat × Nat × Nat} (h : PR t n p = (q, some x)) : x.1 < 10 ∧ x.2.2.1 < 6 ∧ x.2.2.2 < 1000 ∧ p + 5 ≤ q ∧ q ≤ n := by
  unfold PR at h
  by_cases e0 : dg (ch t n p) = false
  · rw [if_pos e0] at h; cases h
  rw [if_neg e0] at h
  have d0 := dgT (dgn e0)
  by_cases e1 : ¬ (ch t n (p + 1) = 43 ∨ ch t n (p + 1) = 45)
  · rw [if_pos e1] at h; cases h
  rw [if_neg e1] at h
  by_cases e2 : ¬ (48 ≤ ch t n (p + 2) ∧ ch t n (p + 2) ≤ 53)
  · rw [if_pos e2] at h; cases h
  rw [if_neg e2] at h
  by_cases e3 : ¬ ch t n (p + 3) = 58
  · rw [if_pos e3] at h; cases h
  rw [if_neg e3] at h
  generalize hy : yearAt t n (p + 4) = yy at h
  obtain ⟨a, b⟩ := yy
  cases b with
  | none => cases h
  | some y =>
    cases h
    have := yearAt_lt hy
    show ch t n p - 48 < 10 ∧ ch t n (p + 2) - 48 < 6 ∧ y < 1000 ∧ _
    omega
theorem OK_repS {S : Nat → Nat} (ok : OK S) {t : Nat → Nat} {n p q : Nat} {x : Nat × Nat × Nat × Nat} (h : PR t n p = (q, some x)) : OK (repS S x) := by
  have b := PR_out h
  unfold repS
  by_cases e : x.1 < S 0
  · rw [if_pos e]; exact OK_noteS ok e b.2.1 b.2.2.1 _
  · rw [if_neg e]; exact ok
theorem x6_readReport {s : Nat → Int32} {n : Nat} {t : Nat → Nat} (hn : n ≤ 100) (hX : AgX s n t) {r : Nat → Int32} {S : Nat → Nat} (hM : AgM r S) (ok : OK S) {p o : Nat} (hp : p ≤ n) {post : Int32 → Int32 → Int32 → (Nat → Int32) → Prop}
    (h0 : ∀ q, PR t n p = (q, none) → post 0 (nI q) (nI o) r) (h1 : ∀ q x, PR t n p = (q, some x) → ∀ r', AgM r' (repS S x) → post 1 (nI q) (nI (o + repO S x)) r') : P_X6_readReport 221 (nI n) (nI p) (nI o) s r post := by
  have hT := ok.T
  have no : ∀ q, PR t n p = (q, none) → post 0 (nI q) (nI o) r := h0
  unfold P_X6_readReport P_X6_readReport_b31 P_X6_readReport_b33 P_X6_readReport_b71 P_X6_readReport_b112 P_X6_readReport_b129
  refine x6_taken (lo := 48) (hi := 57) hn hX (by omega) (by omega) (by omega) (fun z => ?_) (fun z w => ?_)
  · have e : PR t n p = (p, none) := by unfold PR; rw [if_pos (show dg (ch t n p) = false from decide_eq_false z)]
    exact x6_sign hn hX (by omega) (fun _ => brT rfl (no _ e)) (fun _ _ => brT rfl (no _ e))
  have e0 : ¬ dg (ch t n p) = false := by rw [show dg (ch t n p) = true from decide_eq_true z]; decide
  have ne : ¬ nI (ch t n p - 48) = -1 := fun q => by
    have := congrArg Int32.toInt q
    rw [nI_toInt (by omega), show (-1 : Int32).toInt = -1 from rfl] at this; omega
  have bad : ¬ (ch t n (p + 1) = 43 ∨ ch t n (p + 1) = 45) → post 0 (nI (p + 1)) (nI o) r := fun q => no _ (by unfold PR; rw [if_neg e0, if_pos q])
  refine x6_sign hn hX (by omega) (fun q => brF ne (brF (by decide) (brF (by decide) (bad ?_)))) (fun q hc => brF ne ?_)
  · unfold ch; rw [if_neg (by omega)]; omega
  have go : (ch t n (p + 1) = 43 ∨ ch t n (p + 1) = 45) → P_X6_taken (nI n) (nI (p + 1 + 1)) s (48 : Int32) (53 : Int32) (fun r_4 m_5 => (r_4 = (-1 : Int32) → post (0 : Int32) m_5 (nI o) r) ∧ (¬ (r_4 = (-1 : Int32)) → (P_X6_taken (nI n) m_5 s (58 : Int32) (58 : Int32) (fun r_7 m_8 => (r_7 = (-1 : Int32) → post (0 : Int32) m_8 (nI o) r) ∧ (¬ (r_7 = (-1 : Int32)) → (P_X6_readYear (nI n) m_8 s (fun r_10 m_11 => (r_10 = (-1 : Int32) → (post (0 : Int32) m_11 (nI o) r)) ∧ (¬ (r_10 = (-1 : Int32)) → (P_X6_isTown 221 r (nI (ch t n p - 48)) (fun r_13 => (r_13 = 0 → (∀ f_out_15 : Int32, f_out_15 = nI o + (1 : Int32) → post (1 : Int32) m_11 f_out_15 r)) ∧ (¬ (r_13 = 0) → ((nI (ch t n (p + 1)) = (43 : Int32) → (P_X6_seeOn 221 r (nI (ch t n p - 48)) r_4 r_10 (1 : Int32) (fun r_1 m_2 => post (1 : Int32) m_11 (nI o) m_2))) ∧ (¬ (nI (ch t n (p + 1)) = (43 : Int32)) → (P_X6_seeOn 221 r (nI (ch t n p - 48)) r_4 r_10 (0 : Int32) (fun r_1 m_2 => post (1 : Int32) m_11 (nI o) m_2))))))))))))))) := by
    intro hsg
    have e1 : ¬ ¬ (ch t n (p + 1) = 43 ∨ ch t n (p + 1) = 45) := fun q => q hsg
    refine x6_taken (lo := 48) (hi := 53) hn hX (by omega) (by omega) (by omega) (fun z2 => brT rfl (no _ (by unfold PR; rw [if_neg e0, if_neg e1, if_pos z2]))) (fun z2 w2 => ?_)
    have e2 : ¬ ¬ (48 ≤ ch t n (p + 2) ∧ ch t n (p + 2) ≤ 53) := fun q => q z2
    have ne2 : ¬ nI (ch t n (p + 1 + 1) - 48) = -1 := fun q => by
      have := congrArg Int32.toInt q
      rw [nI_toInt (by omega), show (-1 : Int32).toInt = -1 from rfl] at this; omega
    refine brF ne2 (x6_taken (lo := 58) (hi := 58) hn hX (by omega) (by omega) (by omega) (fun z3 => brT rfl (no _ (by unfold PR; rw [if_neg e0, if_neg e1, if_neg e2, if_pos (show ¬ ch t n (p + 3) = 58 from fun q => z3 (by rw [show p + 1 + 1 + 1 = p + 3 from rfl, q]; omega))]))) (fun z3 w3 => ?_))
    have z3' : ch t n (p + 3) = 58 := by have : 58 ≤ ch t n (p + 3) ∧ ch t n (p + 3) ≤ 58 := z3; omega
    have e3 : ¬ ¬ ch t n (p + 3) = 58 := fun q => q z3'
    have ne3 : ¬ nI (ch t n (p + 1 + 1 + 1) - 58) = -1 := by rw [show p + 1 + 1 + 1 = p + 3 from rfl, z3']; decide
    have pr : PR t n p = ((yearAt t n (p + 4)).1, (yearAt t n (p + 4)).2.map (fun y => (ch t n p - 48, ch t n (p + 1), ch t n (p + 2) - 48, y))) := by
      unfold PR; rw [if_neg e0, if_neg e1, if_neg e2, if_neg e3]
    refine brF ne3 (x6_readYear hn hX (by omega) ?_)
    show (awI (yearAt t n (p + 4)).2 = -1 → post 0 (nI (yearAt t n (p + 4)).1) (nI o) r) ∧ _
    generalize hy : yearAt t n (p + 4) = yy at pr
    obtain ⟨q4, b4⟩ := yy
    cases b4 with
    | none => exact brT rfl (no _ pr)
    | some y =>
      have hb := yearAt_lt hy
      have ney : ¬ awI (some y) = -1 := fun q => by
        have := congrArg Int32.toInt q
        rw [show awI (some y) = nI y from rfl, nI_toInt (by omega), show (-1 : Int32).toInt = -1 from rfl] at this; omega
      have h1' := h1 _ _ pr
      refine brF ney ?_
      apply x6_isTown hM ok
      rw [isT_nI (by omega)]
      unfold repS repO at h1'
      by_cases tw : ch t n p - 48 < S 0
      · rw [if_pos tw, if_pos tw] at h1'
        rw [decide_eq_true tw]
        refine brF f10 ?_
        rw [show (43 : Int32) = nI 43 from rfl, i_eqN (by omega) (by omega)]
        refine br (fun c => ?_) (fun c => ?_)
        · rw [if_pos (show (ch t n p - 48, ch t n (p + 1), ch t n (p + 2) - 48, y).2.1 = 43 from c)] at h1'
          exact x6_seeOn hM ok tw (by omega) (by omega) (fun r' hr' => h1' r' hr')
        · rw [if_neg (show ¬ (ch t n p - 48, ch t n (p + 1), ch t n (p + 2) - 48, y).2.1 = 43 from c)] at h1'
          exact x6_seeOn hM ok tw (by omega) (by omega) (fun r' hr' => h1' r' hr')
      · rw [if_neg tw, if_neg tw] at h1'
        rw [decide_eq_false tw]
        exact brT rfl (fa1 (h1' r hM))
  rw [show (43 : Int32) = nI 43 from rfl, show (45 : Int32) = nI 45 from rfl, i_eqN (by omega) (by omega), i_eqN (by omega) (by omega)] at *
  exact br (fun q => fa1 (go (Or.inl q))) (fun q => br (fun q2 => fa1 (go (Or.inr q2))) (fun q2 => bad (fun w => w.elim q q2)))
