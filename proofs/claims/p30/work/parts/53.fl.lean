/-! the model finds the least histories -/
theorem nI_and {a b : Nat} : nI a &&& nI b = nI (a &&& b) := by
  have : ∀ x y : Int32, x.toBitVec = y.toBitVec → x = y := fun x y h => Int32.toBitVec_inj.mp h
  apply this
  show BitVec.ofNat 32 a &&& BitVec.ofNat 32 b = BitVec.ofNat 32 (a &&& b)
  apply BitVec.eq_of_toNat_eq
  rw [BitVec.toNat_and, BitVec.toNat_ofNat, BitVec.toNat_ofNat, BitVec.toNat_ofNat, Nat.and_mod_two_pow]
def allB : Nat → (Nat → Bool) → Bool
  | 0, _ => true
  | n + 1, f => allB n f && f n
theorem allB_iff {n : Nat} {f : Nat → Bool} : allB n f = true ↔ ∀ t, t < n → f t = true := by
  induction n with
  | zero => exact ⟨fun _ t ht => absurd ht (by omega), fun _ => rfl⟩
  | succ n ih =>
    show (allB n f && f n) = true ↔ _
    rw [Bool.and_eq_true_iff, ih]
    constructor
    · intro ⟨h1, h2⟩ t ht
      by_cases e : t = n
      · rw [e]; exact h2
      · exact h1 t (by omega)
    · exact fun h => ⟨fun t ht => h t (by omega), h n (by omega)⟩
theorem allB_congr {n : Nat} {f g : Nat → Bool} (h : ∀ t, t < n → f t = g t) : allB n f = allB n g := by
  induction n with
  | zero => rfl
  | succ n ih => show (allB n f && f n) = (allB n g && g n); rw [ih (fun t ht => h t (by omega)), h n (by omega)]
/-- the years at the beginning: those of the set's towns alone -/
def ini (S : Nat → Nat) (x s c : Nat) : Nat → Nat := fun t => if s.testBit t = true then bdS S x t else c
noncomputable def gs (S : Nat → Nat) (x : Nat) (ex : Nat → Bool) (y0 : Nat → Nat) : Nat → Nat := Classical.choose (gs_ex (N := S 0) (bd := bdS S x) (ln := rd S) (ex := ex) (y0 := y0))
theorem gs_sol (S : Nat → Nat) (x : Nat) (ex : Nat → Bool) (y0 : Nat → Nat) : GSol (S 0) (bdS S x) (rd S) ex y0 (gs S x ex y0) := Classical.choose_spec (gs_ex (N := S 0) (bd := bdS S x) (ln := rd S) (ex := ex) (y0 := y0))
def exN : Nat → Bool := fun _ => false
def inT (S : Nat → Nat) (x : Nat) (y : Nat → Nat) : Bool := allB (S 0) (fun t => decide (hd S t x = 0 ∨ y t < hd S t x))
noncomputable def EX (S : Nat → Nat) (x s : Nat) : Bool := inT S x (gs S x exN (ini S x s 100000))
def hasH (S : Nat → Nat) (x : Nat) : Bool := allB (S 0) (fun t => !cond S t x)
def fl (E : Nat → Bool) : Nat → Option (Nat × Nat × Nat × Nat × Nat)
  | 0 => none
  | n + 1 => match fl E n with
    | none => if E n = true then some (pc n, n, n, n, 1) else none
    | some (L, o, A, B, c) => if E n = true then (if pc n < L then some (pc n, n, n, n, 1) else if pc n = L then some (L, o, A &&& n, B ||| n, c + 1) else some (L, o, A, B, c)) else some (L, o, A, B, c)
noncomputable def FL (S : Nat → Nat) (x : Nat) : Option (Nat × Nat × Nat × Nat × Nat) := if hasH S x = true then fl (EX S x) (2 ^ S 0) else none
theorem fl_no {E : Nat → Bool} {n : Nat} (h : E n = false) : fl E (n + 1) = fl E n := by
  show (match fl E n with | none => _ | some (L, o, A, B, c) => _) = _
  cases fl E n with
  | none => show (if E n = true then _ else none) = none; rw [if_neg (by rw [h]; decide)]
  | some q => obtain ⟨L, o, A, B, c⟩ := q; show (if E n = true then _ else some (L, o, A, B, c)) = _; rw [if_neg (by rw [h]; decide)]
theorem fl_new {E : Nat → Bool} {n : Nat} (h : E n = true) (h2 : fl E n = none ∨ ∃ L o A B c, fl E n = some (L, o, A, B, c) ∧ pc n < L) : fl E (n + 1) = some (pc n, n, n, n, 1) := by
  show (match fl E n with | none => _ | some (L, o, A, B, c) => _) = _
  rcases h2 with e | ⟨L, o, A, B, c, e, hl⟩
  · rw [e]; exact if_pos h
  · rw [e]; show (if E n = true then (if pc n < L then _ else _) else _) = _; rw [if_pos h, if_pos hl]
theorem fl_eq {E : Nat → Bool} {n L o A B c : Nat} (h : E n = true) (e : fl E n = some (L, o, A, B, c)) (hl : pc n = L) : fl E (n + 1) = some (L, o, A &&& n, B ||| n, c + 1) := by
  show (match fl E n with | none => _ | some (L, o, A, B, c) => _) = _
  rw [e]; show (if E n = true then (if pc n < L then _ else if pc n = L then _ else _) else _) = _; rw [if_pos h, if_neg (by omega), if_pos hl]
theorem fl_more {E : Nat → Bool} {n L o A B c : Nat} (e : fl E n = some (L, o, A, B, c)) (hl : L < pc n) : fl E (n + 1) = some (L, o, A, B, c) := by
  show (match fl E n with | none => _ | some (L, o, A, B, c) => _) = _
  rw [e]; show (if E n = true then (if pc n < L then _ else if pc n = L then _ else _) else _) = _
  rw [if_neg (show ¬ pc n < L by omega), if_neg (show ¬ pc n = L by omega)]; split <;> rfl
theorem fl_le {E : Nat → Bool} {n L o A B c : Nat} (e : fl E n = some (L, o, A, B, c)) : L ≤ 10 := by
  induction n generalizing L o A B c with
  | zero => exact nomatch e
  | succ n ih =>
    cases hE : E n with
    | false => rw [fl_no hE] at e; exact ih e
    | true =>
      cases hq : fl E n with
      | none => rw [fl_new hE (Or.inl hq)] at e; cases e; exact pc_le n
      | some q =>
        obtain ⟨L', o', A', B', c'⟩ := q
        by_cases h1 : pc n < L'
        · rw [fl_new hE (Or.inr ⟨_, _, _, _, _, hq, h1⟩)] at e; cases e; exact pc_le n
        · by_cases h2 : pc n = L'
          · rw [fl_eq hE hq h2] at e; cases e; exact ih hq
          · rw [fl_more hq (by omega)] at e; cases e; exact ih hq
theorem ini_le {S : Nat → Nat} (ok : OK S) {x s c : Nat} (hx : x < 6) (hc : 1000 ≤ c) : ∀ t, t < S 0 → ini S x s c t ≤ c := fun t ht => by
  have hT := ok.T
  have : bdS S x t ≤ 1000 := ok.n1k (by omega) hx
  unfold ini; split <;> omega
theorem exN_m1 {N : Nat} (hN : N ≤ 10) : ∀ b, b < N → (nI b = -1 ↔ exN b = true) := fun b hb => by
  constructor
  · intro e
    have := congrArg Int32.toInt e
    rw [nI_toInt (by omega), show (-1 : Int32).toInt = -1 from rfl] at this; omega
  · exact fun e => nomatch e
theorem inT_congr {S : Nat → Nat} {x : Nat} {y z : Nat → Nat} (h : ∀ t, t < S 0 → y t = z t) : inT S x y = inT S x z := allB_congr (fun t ht => by rw [h t ht])
