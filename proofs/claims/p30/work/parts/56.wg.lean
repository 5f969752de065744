/-! the class weighs the sets -/
noncomputable def ex1 (S : Nat → Nat) (x t u : Nat) : Bool := decide (gs S x exN (ini S x (2 ^ t) 1000) u < hd S u x)
noncomputable def cv (S : Nat → Nat) (x s u : Nat) : Bool := !allB (S 0) (fun t => !(s.testBit t && ex1 S x t u))
theorem cv_iff {S : Nat → Nat} {x s u : Nat} : cv S x s u = true ↔ ∃ t, t < S 0 ∧ s.testBit t = true ∧ ex1 S x t u = true := by
  unfold cv
  constructor
  · intro h
    apply Classical.byContradiction
    intro no
    have : allB (S 0) (fun t => !(s.testBit t && ex1 S x t u)) = true := allB_iff.mpr (fun t ht => by
      cases h1 : s.testBit t with
      | false => rfl
      | true => cases h2 : ex1 S x t u with
        | false => rfl
        | true => exact absurd ⟨t, ht, h1, h2⟩ no)
    rw [this] at h; exact nomatch h
  · intro ⟨t, ht, h1, h2⟩
    cases h : allB (S 0) (fun t => !(s.testBit t && ex1 S x t u)) with
    | false => rfl
    | true =>
      have := allB_iff.mp h t ht
      rw [h1, h2] at this; exact nomatch this
theorem ini_1 {S : Nat → Nat} {x s : Nat} : inE (S 0) s (bdS S x) = ini S x s 1000 := rfl
theorem tb_pow {t u : Nat} : (2 ^ t).testBit u = decide (t = u) := Nat.testBit_two_pow
theorem cv_EX {S : Nat → Nat} (ok : OK S) {x s : Nat} (hx : x < 6) : (mk (cv S x s) (S 0) = mk (kn S x) (S 0)) ↔ EX S x s = true := by
  have hT := ok.T
  have one : ∀ u, u < S 0 → 0 < hd S u x → (cv S x s u = true ↔ gs S x exN (ini S x s 100000) u < hd S u x) := fun u hu h0 => by
    have h1k : hd S u x ≤ 1000 := ok.h1k (by omega) hx
    have A := GSol_sets (N := S 0) (Y := gs S x exN (ini S x s 1000)) (P := fun p => p < S 0 ∧ s.testBit p = true) (Z := fun p => gs S x exN (ini S x (2 ^ p) 1000)) (yz := fun p => ini S x (2 ^ p) 1000) (c := 1000)
      (gs_sol S x exN (ini S x s 1000)) (fun p _ => gs_sol S x exN (ini S x (2 ^ p) 1000)) (ini_le ok hx (Nat.le_refl _)) (fun p hp t ht => by
        have l1 := ini_le ok (s := s) (c := 1000) hx (Nat.le_refl _) t ht
        unfold ini at l1 ⊢
        rw [tb_pow]
        by_cases e : p = t
        · subst e; rw [decide_eq_true rfl, if_pos rfl, if_pos hp.2]; exact Nat.le_refl _
        · rw [decide_eq_false e, if_neg (show ¬ false = true by decide)]; exact l1) (fun t ht => by
        by_cases e : s.testBit t = true
        · refine Or.inr ⟨t, ⟨ht, e⟩, ?_⟩
          show ini S x (2 ^ t) 1000 t ≤ ini S x s 1000 t
          unfold ini
          rw [tb_pow, decide_eq_true rfl, if_pos rfl, if_pos e]; exact Nat.le_refl _
        · refine Or.inl ?_
          unfold ini; rw [if_neg e]) (u := u) (L := hd S u x - 1) hu (by omega)
    have B := GSol_cap (gs_sol S x exN (ini S x s 100000)) (gs_sol S x exN (ini S x s 1000)) (c := 1000) (fun t ht => by
      have := ini_le ok (s := s) (c := 1000) hx (Nat.le_refl _) t ht
      unfold ini at this ⊢
      split <;> rename_i q
      · rw [if_pos q] at this; omega
      · omega) u hu
    rw [cv_iff]
    constructor
    · intro ⟨t, ht, q1, q2⟩
      have := A.mpr ⟨t, ⟨ht, q1⟩, by have := of_decide_eq_true q2; omega⟩
      omega
    · intro q
      obtain ⟨t, ⟨ht, q1⟩, q2⟩ := A.mp (by omega)
      exact ⟨t, ht, q1, decide_eq_true (by omega)⟩
  rw [mk_eq]
  unfold EX inT
  rw [allB_iff]
  constructor
  · intro h u hu
    by_cases h0 : 0 < hd S u x
    · have := h u hu
      rw [show kn S x u = true from decide_eq_true h0] at this
      exact decide_eq_true (Or.inr ((one u hu h0).mp this))
    · exact decide_eq_true (Or.inl (by omega))
  · intro h u hu
    by_cases h0 : 0 < hd S u x
    · rw [show kn S x u = true from decide_eq_true h0]
      exact (one u hu h0).mpr ((of_decide_eq_true (h u hu)).resolve_left (by omega))
    · rw [show kn S x u = false from decide_eq_false h0]
      cases q : cv S x s u with
      | false => rfl
      | true =>
        obtain ⟨t, _, _, q2⟩ := cv_iff.mp q
        have := of_decide_eq_true q2
        omega
theorem cv_add {S : Nat → Nat} {x s t : Nat} (ht : t < S 0) (hs : s < 2 ^ t) (u : Nat) : cv S x (2 ^ t + s) u = (cv S x s u || ex1 S x t u) := by
  have e : 2 ^ t + s = 2 ^ t ||| s := by have := Nat.two_pow_add_eq_or_of_lt hs 1; rw [Nat.mul_one] at this; exact this
  have tb : ∀ i, (2 ^ t + s).testBit i = (decide (t = i) || s.testBit i) := fun i => by rw [e, Nat.testBit_or, tb_pow]
  rw [Bool.eq_iff_iff, Bool.or_eq_true, cv_iff, cv_iff]
  constructor
  · intro ⟨i, hi, q1, q2⟩
    rw [tb] at q1
    by_cases g : t = i
    · subst g; exact Or.inr q2
    · rw [decide_eq_false g, Bool.false_or] at q1; exact Or.inl ⟨i, hi, q1, q2⟩
  · intro h
    rcases h with ⟨i, hi, q1, q2⟩ | q2
    · exact ⟨i, hi, by rw [tb, q1, Bool.or_true], q2⟩
    · exact ⟨t, ht, by rw [tb, decide_eq_true rfl, Bool.true_or], q2⟩
theorem cv_0 {S : Nat → Nat} {x : Nat} : mk (cv S x 0) (S 0) = 0 := by
  have : mk (cv S x 0) (S 0) = mk (fun _ => false) (S 0) := (mk_eq _ _ _).mpr (fun u _ => by
    cases q : cv S x 0 u with
    | false => rfl
    | true =>
      obtain ⟨t, _, q1, _⟩ := cv_iff.mp q
      rw [Nat.zero_testBit] at q1; exact nomatch q1)
  rw [this]
  have : ∀ n, mk (fun _ => false) n = 0 := fun n => by
    induction n with
    | zero => rfl
    | succ n ih => show (if false = true then _ else mk (fun _ => false) n) = 0; rw [if_neg (by decide)]; exact ih
  exact this _
theorem pc_leN {N s : Nat} (hN : N ≤ 10) (hs : s < 2 ^ N) : pc s ≤ N := by
  unfold pc
  rw [sumTo_ext hN (fun i h1 h2 => by
    rw [Nat.testBit_lt_two_pow (Nat.lt_of_lt_of_le hs (Nat.pow_le_pow_right (by omega) h1))]; rfl)]
  have := sumTo_le (n := N) (f := fun t => b1 (s.testBit t)) (c := 1) (fun _ _ => b1_le _)
  omega
theorem pc_pos : ∀ s, s < 1024 → 0 < s → 0 < pc s := by decide +kernel
theorem fl_some {E : Nat → Bool} {n s : Nat} (hs : s < n) (h : E s = true) : fl E n ≠ none := by
  induction n with
  | zero => omega
  | succ n ih =>
    intro q
    cases hE : E n with
    | false =>
      rw [fl_no hE] at q
      by_cases e : s = n
      · rw [e] at h; rw [h] at hE; exact nomatch hE
      · exact ih (by omega) q
    | true =>
      cases hq : fl E n with
      | none => rw [fl_new hE (Or.inl hq)] at q; exact nomatch q
      | some w =>
        obtain ⟨L, o, A, B, c⟩ := w
        by_cases h1 : pc n < L
        · rw [fl_new hE (Or.inr ⟨_, _, _, _, _, hq, h1⟩)] at q; exact nomatch q
        · by_cases h2 : pc n = L
          · rw [fl_eq hE hq h2] at q; exact nomatch q
          · rw [fl_more hq (by omega)] at q; exact nomatch q
theorem EX_full {S : Nat → Nat} (ok : OK S) {x : Nat} (hx : x < 6) (hh : hasH S x = true) : ∃ s, s < 2 ^ S 0 ∧ EX S x s = true := by
  refine ⟨mk (fun _ => true) (S 0), mk_lt _ _, allB_iff.mpr (fun u hu => ?_)⟩
  have h1 := (gs_sol S x exN (ini S x (mk (fun _ => true) (S 0)) 100000)).1.1 u hu
  have h2 : ini S x (mk (fun _ => true) (S 0)) 100000 u = nt S u x := by
    unfold ini; rw [mk_bit, decide_eq_true hu]; exact if_pos rfl
  have h3 := allB_iff.mp hh u hu
  have h4 : ¬ (0 < hd S u x ∧ hd S u x ≤ nt S u x) := fun w => by
    rw [show cond S u x = true from decide_eq_true w] at h3; exact nomatch h3
  exact decide_eq_true (by omega)
theorem FL_some {S : Nat → Nat} (ok : OK S) {x : Nat} (hx : x < 6) (hh : hasH S x = true) : FL S x ≠ none := by
  obtain ⟨s, hs, hE⟩ := EX_full ok hx hh
  unfold FL; rw [if_pos hh]; exact fl_some hs hE
theorem fl_known0 {S : Nat → Nat} (ok : OK S) {x : Nat} (h : mk (kn S x) (S 0) = 0) : ∀ n, 1 ≤ n → n ≤ 1024 → fl (EX S x) n = fl (EX S x) 1 := by
  have h0 : ∀ u, u < S 0 → hd S u x = 0 := fun u hu => by
    have := congrArg (fun z => z.testBit u) h
    simp only [mk_bit, Nat.zero_testBit, decide_eq_true hu, Bool.true_and] at this
    have := of_decide_eq_false this
    omega
  have hE : EX S x 0 = true := allB_iff.mpr (fun u hu => decide_eq_true (Or.inl (h0 u hu)))
  have e1 : fl (EX S x) 1 = some (0, 0, 0, 0, 1) := fl_new hE (Or.inl rfl)
  intro n h1 h2
  induction n with
  | zero => omega
  | succ n ih =>
    by_cases e : n = 0
    · rw [e]
    · have i1 := ih (by omega) (by omega)
      have p := pc_pos n (by omega) (by omega)
      rw [e1] at i1 ⊢
      exact fl_more i1 p
/-- what the class keeps of the sets weighed so far -/
def WS (N : Nat) (q : Option (Nat × Nat × Nat × Nat × Nat)) (fw og al so ls : Int32) : Prop := match q with
  | none => fw = nI (N + 1)
  | some (L, o, A, B, c) => fw = nI L ∧ og = nI o ∧ al = nI A ∧ so = nI B ∧ ls = nI c
theorem c_weigh {S : Nat → Nat} (ok : OK S) {x s : Nat} (hx : x < 6) (hs : s < 2 ^ S 0) {fw og al so ls : Int32} {tg : Nat → Int32} (hW : WS (S 0) (fl (EX S x) s) fw og al so ls) (hg : tg s = nI (mk (cv S x s) (S 0))) {post : Int32 → Int32 → Int32 → Int32 → Int32 → Prop}
    (h : ∀ fw' og' al' so' ls', WS (S 0) (fl (EX S x) (s + 1)) fw' og' al' so' ls' → post fw' og' al' so' ls') : P_X0_weigh (nI (mk (kn S x) (S 0))) fw og al so ls tg (nI s) post := by
  have hT := ok.T
  have p10 := pow10 hT
  have l1 := mk_1024 (cv S x s) hT
  have l2 := mk_1024 (kn S x) hT
  have pN := pc_leN hT hs
  unfold P_X0_weigh P_X0_weigh_b93
  rw [nI_clamp (by omega), hg, i_eqN (by omega) (by omega), propext (cv_EX ok hx)]
  refine ⟨nI_in (by omega) (by omega), br (fun e => j6_bitCount (by omega) ?_) (fun e => h _ _ _ _ _ ?_)⟩
  · cases hq : fl (EX S x) s with
    | none =>
      rw [hq] at hW
      have hW' : fw = nI (S 0 + 1) := hW
      rw [hW', i_leN (by omega) (by omega)]
      refine brF (by omega) (h _ _ _ _ _ ?_)
      rw [fl_new e (Or.inl hq)]
      exact ⟨rfl, rfl, rfl, rfl, rfl⟩
    | some w =>
      obtain ⟨L, o, A, B, c⟩ := w
      rw [hq] at hW
      have lL := fl_le hq
      obtain ⟨w1, w2, w3, w4, w5⟩ := hW
      rw [w1, w2, w3, w4, w5, i_leN (by omega) (by omega), i_eqN (by omega) (by omega)]
      refine br (fun z => br (fun z2 => fae (fae (fae (h _ _ _ _ _ ?_)))) (fun z2 => h _ _ _ _ _ ?_)) (fun z => h _ _ _ _ _ ?_)
      · rw [fl_eq e hq z2, nI_and, nI_or, nI_p1]
        exact ⟨rfl, rfl, rfl, rfl, rfl⟩
      · rw [fl_more hq (by omega)]
        exact ⟨rfl, rfl, rfl, rfl, rfl⟩
      · rw [fl_new e (Or.inr ⟨_, _, _, _, _, hq, by omega⟩)]
        exact ⟨rfl, rfl, rfl, rfl, rfl⟩
  · rw [fl_no (by cases q : EX S x s with
      | false => rfl
      | true => exact absurd q e)]
    exact hW
theorem c_weighSets {S : Nat → Nat} (ok : OK S) {x : Nat} (hx : x < 6) {f0 og al so ls : Int32} {xp tg : Nat → Int32} (hX : mk (kn S x) (S 0) ≠ 0 → ∀ t, t < S 0 → xp t = nI (mk (ex1 S x t) (S 0))) {post : Int32 → Int32 → Int32 → Int32 → Int32 → (Nat → Int32) → Prop}
    (h : ∀ fw' og' al' so' ls' tg', WS (S 0) (fl (EX S x) (2 ^ S 0)) fw' og' al' so' ls' → (mk (kn S x) (S 0) ≠ 0 → ∀ s, s < 2 ^ S 0 → tg' s = nI (mk (cv S x s) (S 0))) → post fw' og' al' so' ls' tg') : P_X0_weighSets (nI (S 0)) (nI (mk (kn S x) (S 0))) f0 og al so ls xp tg post := by
  have hT := ok.T
  have p10 := pow10 hT
  have l2 := mk_1024 (kn S x) hT
  have ppos : 0 < 2 ^ S 0 := Nat.two_pow_pos _
  unfold P_X0_weighSets
  refine fa1 ?_
  have g0 : ∀ s, s < 1 → upd tg (0 : Int32).toNatClampNeg 0 s = nI (mk (cv S x s) (S 0)) := fun s hs => by
    rw [show s = 0 by omega, cv_0]; rfl
  refine c_weigh (s := 0) ok hx ppos (show WS (S 0) none _ _ _ _ _ from rfl) (g0 0 (by omega)) (fun fw' og' al' so' ls' hW => ?_)
  let V : Nat → Nat → Prop := fun n t => ∀ fw og' al' so' ls' tg', WS (S 0) (fl (EX S x) (2 ^ t)) fw og' al' so' ls' → (∀ s, s < 2 ^ t → tg' s = nI (mk (cv S x s) (S 0))) → P_X0_weighSets_l24 (nI (S 0)) (nI (mk (kn S x) (S 0))) f0 og al so ls xp tg post n fw og' al' so' ls' tg' (nI t)
  have key := forN V (S 0) ?_ ?_ 0 (Nat.zero_le _)
  · obtain ⟨n, hn⟩ := key
    exact ⟨n, hn _ _ _ _ _ _ hW g0⟩
  · intro n fw og' al' so' ls' tg' hW hg
    show P_X0_weighSets_b24 _ _ _ _ _ _ _ _ _ _ _ _ _ _ _ _ _ _
    unfold P_X0_weighSets_b24 P_X0_weighSets_b90
    exact brT (nI_le (Nat.le_refl _) (by omega)) (h _ _ _ _ _ _ hW (fun _ => hg))
  · intro n t ht hv fw og' al' so' ls' tg' hW hg
    show P_X0_weighSets_b24 _ _ _ _ _ _ _ _ _ _ _ _ _ _ _ _ _ _
    unfold P_X0_weighSets_b24 P_X0_weighSets_b90
    have pt : 2 ^ (t + 1) = 2 ^ t + 2 ^ t := by rw [Nat.pow_succ]; omega
    have ptN : 2 ^ (t + 1) ≤ 2 ^ S 0 := Nat.pow_le_pow_right (by omega) ht
    have pt0 : 0 < 2 ^ t := Nat.two_pow_pos _
    refine brF (nI_ge ht (by omega)) (brE0 (by omega) (fun k0 => ?_) (fun k0 => ?_))
    · refine h _ _ _ _ _ _ ?_ (fun w => absurd k0 w)
      rw [fl_known0 ok k0 _ pt0 (by omega)] at hW
      rw [fl_known0 ok k0 _ ppos p10]; exact hW
    · rw [nI_shl1 t (by omega)]
      refine fae ?_
      have inner := forN (fun k j => ∀ fw og' al' so' ls' tg', WS (S 0) (fl (EX S x) (2 ^ t + j)) fw og' al' so' ls' → (∀ s, s < 2 ^ t + j → tg' s = nI (mk (cv S x s) (S 0))) → P_X0_weighSets_l45 (nI (S 0)) (nI (mk (kn S x) (S 0))) f0 og al so ls xp tg post (P_X0_weighSets_l24 (nI (S 0)) (nI (mk (kn S x) (S 0))) f0 og al so ls xp tg post n) k fw og' al' so' ls' tg' (nI t) (nI (2 ^ t)) (nI j)) (2 ^ t) ?_ ?_ 0 (Nat.zero_le _)
      · obtain ⟨k, hk⟩ := inner
        exact ⟨k, hk _ _ _ _ _ _ hW hg⟩
      · intro k fw og' al' so' ls' tg' hW hg
        show P_X0_weighSets_b45 _ _ _ _ _ _ _ _ _ _ _ _ _ _ _ _ _ _ _ _ _
        unfold P_X0_weighSets_b45
        rw [← pt] at hW hg
        exact brT (nI_le (Nat.le_refl _) (by omega)) (fa1 (hv _ _ _ _ _ _ hW hg))
      · intro k j hj hw fw og' al' so' ls' tg' hW hg
        show P_X0_weighSets_b45 _ _ _ _ _ _ _ _ _ _ _ _ _ _ _ _ _ _ _ _ _
        unfold P_X0_weighSets_b45
        rw [nI_add, nI_clamp (by omega), nI_clamp (by omega), nI_clamp (by omega), hg j (by omega), hX (by omega) t ht, nI_or, mk_or]
        have e : mk (fun u => cv S x j u || ex1 S x t u) (S 0) = mk (cv S x (2 ^ t + j)) (S 0) := (mk_eq _ _ _).mpr (fun u _ => (cv_add ht hj u).symm)
        rw [e]
        have g2 : ∀ s, s < 2 ^ t + (j + 1) → upd tg' (2 ^ t + j) (nI (mk (cv S x (2 ^ t + j)) (S 0))) s = nI (mk (cv S x s) (S 0)) := fun s hs => by
          show (if s = 2 ^ t + j then _ else tg' s) = _
          by_cases g : s = 2 ^ t + j
          · rw [if_pos g, g]
          · rw [if_neg g]; exact hg s (by omega)
        refine brF (nI_ge hj (by omega)) ⟨nI_in (by omega) (by omega), nI_in (by omega) (by omega), nI_in (by omega) (by omega), c_weigh ok hx (by omega) hW (g2 _ (by omega)) (fun a1 a2 a3 a4 a5 hW2 => fa1 (hw _ _ _ _ _ _ hW2 g2))⟩
