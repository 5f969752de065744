/-! the text read: the class's automaton, the model's reader -/
def dg (c : Nat) : Bool := decide (48 ≤ c ∧ c ≤ 57)
def aw (s c : Nat) : Option Nat :=
  if s = 0 then (if dg c = true then some 1 else none)
  else if s = 1 then (if c = 43 ∨ c = 45 then some 2 else none)
  else if s = 2 then (if 48 ≤ c ∧ c ≤ 53 then some 3 else none)
  else if s = 3 then (if c = 58 then some 4 else none)
  else if s = 4 then (if c = 48 then some 7 else if dg c = true then some 5 else none)
  else if s = 5 then (if dg c = true then some 6 else if c = 59 then some 0 else none)
  else if s = 6 then (if dg c = true then some 7 else if c = 59 then some 0 else none)
  else (if c = 59 then some 0 else none)
def awI : Option Nat → Int32
  | none => -1
  | some s => nI s
theorem eqL {c : Nat} {k : Nat} (hc : c < 256) (hk : k < 256) : (nI c = nI k) = (c = k) := i_eqN (by omega) (by omega)
theorem x4_awaited {s c : Nat} (hs : s < 8) (hc : c < 256) {post : Int32 → Prop} (h : post (awI (aw s c))) : P_X4_awaitedBehind (nI s) (nI c) post := by
  unfold P_X4_awaitedBehind P_X4_awaitedBehind_b16
  have key : ∀ b : Bool, b = dg c → P_X4_awaitedBehind_b17 (nI s) (nI c) post (bI b) := by
    intro b hb
    unfold P_X4_awaitedBehind_b17 P_X4_awaitedBehind_b69 P_X4_awaitedBehind_b82 P_X4_awaitedBehind_b87 P_X4_awaitedBehind_b106 P_X4_awaitedBehind_b107 P_X4_awaitedBehind_b119 P_X4_awaitedBehind_b140 P_X4_awaitedBehind_b161 P_X4_awaitedBehind_b182 P_X4_awaitedBehind_b194
    have hcase : s = 0 ∨ s = 1 ∨ s = 2 ∨ s = 3 ∨ s = 4 ∨ s = 5 ∨ s = 6 ∨ s = 7 := by omega
    rw [show (43 : Int32) = nI 43 from rfl, show (45 : Int32) = nI 45 from rfl, show (58 : Int32) = nI 58 from rfl, show (59 : Int32) = nI 59 from rfl, show (48 : Int32) = nI 48 from rfl, eqL hc (by omega), eqL hc (by omega), eqL hc (by omega), eqL hc (by omega), eqL hc (by omega)]
    rcases hcase with rfl | rfl | rfl | rfl | rfl | rfl | rfl | rfl
    · unfold aw at h
      rw [if_pos rfl] at h
      refine ⟨fun _ => bI_br (fun e => by rw [← hb, if_neg (by rw [e]; decide)] at h; exact h) (fun e => by rw [← hb, if_pos e] at h; exact h), fun q => absurd q (by decide), fun q => absurd q (by decide), fun q => absurd q (by decide), fun q => absurd q (by decide), fun q => absurd q (by decide), fun q => absurd q (by decide), fun q _ _ _ _ _ _ => absurd rfl q⟩
    · unfold aw at h
      rw [if_neg (by decide), if_pos rfl] at h
      refine ⟨fun q => absurd q (by decide), fun _ => br (fun e => by rw [if_pos (Or.inl e)] at h; exact h) (fun e => br (fun f => by rw [if_pos (Or.inr f)] at h; exact h) (fun f => by rw [if_neg (fun w => w.elim e f)] at h; exact h)), fun q => absurd q (by decide), fun q => absurd q (by decide), fun q => absurd q (by decide), fun q => absurd q (by decide), fun q => absurd q (by decide), fun _ q _ _ _ _ _ => absurd rfl q⟩
    · unfold aw at h
      rw [if_neg (by decide), if_neg (by decide), if_pos rfl] at h
      refine ⟨fun q => absurd q (by decide), fun q => absurd q (by decide), fun _ => bI_br (fun e => by rw [if_neg (fun w => by rw [e] at hb; have := of_decide_eq_false hb.symm; omega)] at h; exact h) (fun e => s5_isTrait ?_), fun q => absurd q (by decide), fun q => absurd q (by decide), fun q => absurd q (by decide), fun q => absurd q (by decide), fun _ _ q _ _ _ _ => absurd rfl q⟩
      have hd := of_decide_eq_true (show decide (48 ≤ c ∧ c ≤ 57) = true by rw [e] at hb; exact hb.symm)
      rw [nI_subN hd.1, isT_nI (by omega)]
      by_cases w : c ≤ 53
      · rw [if_pos ⟨hd.1, w⟩] at h; rw [decide_eq_true (by omega)]; exact brF f10 h
      · rw [if_neg (fun z => w z.2)] at h; rw [decide_eq_false (by omega)]; exact brT rfl h
    · unfold aw at h
      rw [if_neg (by decide), if_neg (by decide), if_neg (by decide), if_pos rfl] at h
      refine ⟨fun q => absurd q (by decide), fun q => absurd q (by decide), fun q => absurd q (by decide), fun _ => br (fun e => by rw [if_pos e] at h; exact h) (fun e => by rw [if_neg e] at h; exact h), fun q => absurd q (by decide), fun q => absurd q (by decide), fun q => absurd q (by decide), fun _ _ _ q _ _ _ => absurd rfl q⟩
    · unfold aw at h
      rw [if_neg (by decide), if_neg (by decide), if_neg (by decide), if_neg (by decide), if_pos rfl] at h
      refine ⟨fun q => absurd q (by decide), fun q => absurd q (by decide), fun q => absurd q (by decide), fun q => absurd q (by decide), fun _ => br (fun e => by rw [if_pos e] at h; exact h) (fun e => bI_br (fun f => by rw [if_neg e, ← hb, if_neg (by rw [f]; decide)] at h; exact h) (fun f => by rw [if_neg e, ← hb, if_pos f] at h; exact h)), fun q => absurd q (by decide), fun q => absurd q (by decide), fun _ _ _ _ q _ _ => absurd rfl q⟩
    · unfold aw at h
      rw [if_neg (by decide), if_neg (by decide), if_neg (by decide), if_neg (by decide), if_neg (by decide), if_pos rfl] at h
      refine ⟨fun q => absurd q (by decide), fun q => absurd q (by decide), fun q => absurd q (by decide), fun q => absurd q (by decide), fun q => absurd q (by decide), fun _ => bI_br (fun e => br (fun f => by rw [← hb, if_neg (by rw [e]; decide), if_pos f] at h; exact h) (fun f => by rw [← hb, if_neg (by rw [e]; decide), if_neg f] at h; exact h)) (fun e => by rw [← hb, if_pos e] at h; exact h), fun q => absurd q (by decide), fun _ _ _ _ _ q _ => absurd rfl q⟩
    · unfold aw at h
      rw [if_neg (by decide), if_neg (by decide), if_neg (by decide), if_neg (by decide), if_neg (by decide), if_neg (by decide), if_pos rfl] at h
      refine ⟨fun q => absurd q (by decide), fun q => absurd q (by decide), fun q => absurd q (by decide), fun q => absurd q (by decide), fun q => absurd q (by decide), fun q => absurd q (by decide), fun _ => bI_br (fun e => br (fun f => by rw [← hb, if_neg (by rw [e]; decide), if_pos f] at h; exact h) (fun f => by rw [← hb, if_neg (by rw [e]; decide), if_neg f] at h; exact h)) (fun e => by rw [← hb, if_pos e] at h; exact h), fun _ _ _ _ _ _ q => absurd rfl q⟩
    · unfold aw at h
      rw [if_neg (by decide), if_neg (by decide), if_neg (by decide), if_neg (by decide), if_neg (by decide), if_neg (by decide), if_neg (by decide)] at h
      refine ⟨fun q => absurd q (by decide), fun q => absurd q (by decide), fun q => absurd q (by decide), fun q => absurd q (by decide), fun q => absurd q (by decide), fun q => absurd q (by decide), fun q => absurd q (by decide), fun _ _ _ _ _ _ _ => br (fun e => by rw [if_pos e] at h; exact h) (fun e => by rw [if_neg e] at h; exact h)⟩
  rw [show (48 : Int32) = nI 48 from rfl, show (57 : Int32) = nI 57 from rfl, i_ltN (by omega) (by omega), i_ltN (by omega) (by omega)]
  refine br (fun q => key false (decide_eq_false (by omega)).symm) (fun q => br (fun p => key false (decide_eq_false (by omega)).symm) (fun p => key true (decide_eq_true (by omega)).symm))
theorem x4_signAt {s : Nat → Int32} {n : Nat} {t : Nat → Nat} (hn : n ≤ 100) (hX : AgX s n t) {i : Nat} (hi : i < n) {post : Int32 → Prop} (h : post (nI (t i))) : P_X4_signAt (nI n) s (nI i) post := by
  unfold P_X4_signAt P_X4_signAt_b27 P_X4_signAt_b29
  rw [show (100 : Int32) = nI 100 from rfl, i_leN (by omega) (by omega), i_leN (by omega) (by omega), nI_clamp (by omega), (hX i hi).1]
  exact brF (nI_pos (by omega)) (brF (by omega) (brF (by omega) ⟨nI_in (by omega) (by omega), h⟩))
theorem x4_signAt_end {s : Nat → Int32} {n i : Nat} (hn : n ≤ i) (hi : i < 2 ^ 31) {post : Int32 → Prop} (h : post 59) : P_X4_signAt (nI n) s (nI i) post := by
  unfold P_X4_signAt P_X4_signAt_b27 P_X4_signAt_b29
  rw [i_leN (by omega) (by omega)]
  exact brF (nI_pos (by omega)) (brT hn h)
/-- where the class finds the first error, k signs before the end, s awaited -/
def feR (t : Nat → Nat) (n : Nat) : Nat → Nat → Option Nat
  | 0, s => if 5 ≤ s then none else some n
  | k + 1, s => match aw s (t (n - (k + 1))) with
    | none => some (n - (k + 1))
    | some s' => feR t n k s'
theorem aw_lt {s c s' : Nat} (h : aw s c = some s') : s' < 8 := by
  unfold aw at h
  repeat' split at h
  all_goals (cases h <;> decide)
theorem x4_firstError {s : Nat → Int32} {n : Nat} {t : Nat → Nat} (hn : n ≤ 100) (hX : AgX s n t) {post : Int32 → Prop} (h : post (awI (feR t n n 0))) : P_X4_firstError (nI n) s post := by
  unfold P_X4_firstError
  have key : ∀ k st, k ≤ n → st < 8 → post (awI (feR t n k st)) → P_X4_firstError_l4 (nI n) s post (k + 1) (nI st) (nI (n - k)) := by
    intro k
    induction k with
    | zero =>
      intro st _ hst hp
      show P_X4_firstError_b4 _ _ _ _ _ _
      unfold P_X4_firstError_b4 P_X4_firstError_b48
      refine brT (nI_le (by omega) (by omega)) ?_
      rw [show (5 : Int32) = nI 5 from rfl, i_leN (by omega) (by omega)]
      unfold feR at hp
      exact br (fun q => by rw [if_pos q] at hp; exact hp) (fun q => by rw [if_neg q] at hp; exact hp)
    | succ k ih =>
      intro st hk hst hp
      show P_X4_firstError_b4 _ _ _ _ _ _
      unfold P_X4_firstError_b4
      refine brF (nI_ge (by omega) (by omega)) ?_
      refine x4_signAt hn hX (by omega) (x4_awaited hst (hX _ (by omega)).2 ?_)
      unfold feR at hp
      cases e : aw st (t (n - (k + 1))) with
      | none => rw [e] at hp; exact brT rfl hp
      | some s' =>
        rw [e] at hp
        have l8 := aw_lt e
        refine brF (fun z => ?_) (fa1 ?_)
        · have := congrArg Int32.toInt z
          rw [show awI (some s') = nI s' from rfl, nI_toInt (by omega), show (-1 : Int32).toInt = -1 from rfl] at this
          omega
        · rw [show n - (k + 1) + 1 = n - k by omega]
          exact ih s' (by omega) l8 hp
  refine ⟨n + 1, ?_⟩
  have := key n 0 (Nat.le_refl _) (by omega) h
  rw [Nat.sub_self] at this
  exact this
