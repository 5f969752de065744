/-! a command of a script: when it succeeds, what it makes of a land -/
theorem sumTo_get {n i : Nat} {f : Nat → Nat} (h : i < n) : f i ≤ sumTo n f := by
  induction n with
  | zero => omega
  | succ n ih =>
    show f i ≤ sumTo n f + f n
    by_cases e : i = n
    · subst e; omega
    · have := ih (by omega); omega
theorem cnt_get {S : Nat → Nat} {a b : Nat} (ha : a < 10) (hb : b < 10) (hab : a < b) (h : 0 < rd S a b) : 0 < cnt S := by
  have h1 : sumTo 10 (fun b => b1 (decide (a < b) && decide (0 < rd S a b))) ≤ cnt S := sumTo_get (n := 10) (f := fun a => sumTo 10 (fun b => b1 (decide (a < b) && decide (0 < rd S a b)))) ha
  have h2 : b1 (decide (a < b) && decide (0 < rd S a b)) ≤ sumTo 10 (fun b => b1 (decide (a < b) && decide (0 < rd S a b))) := sumTo_get (n := 10) (f := fun b => b1 (decide (a < b) && decide (0 < rd S a b))) hb
  rw [decide_eq_true hab, decide_eq_true h] at h2
  have h3 : b1 (true && true) = 1 := rfl
  omega
theorem cnt_pos {S : Nat → Nat} (ok : OK S) {a b : Nat} (ha : a < 10) (hb : b < 10) (hab : a ≠ b) (h : 0 < rd S a b) : 0 < cnt S := by
  by_cases e : a < b
  · exact cnt_get ha hb e h
  · refine cnt_get hb ha (by omega) ?_
    rw [ok.sym hb ha]; exact h
def upT (x y : Int32) : Prop := ¬ x = -1 ∧ ¬ y < x
def cmdP (S : Nat → Nat) : Nat → Nat → Nat → Nat → Prop
  | 1, a, b, c => a = 0 ∧ b = 0 ∧ c = 0 ∧ S 0 < 10
  | 2, a, b, c => canJ S (nI a) (nI b) (nI c) = true
  | 3, a, b, c => c = 0 ∧ 0 < rdX S (nI a) (nI b)
  | 4, a, b, c => isNote S (nI a) (nI b) (nI c) = true
  | 5, a, b, c => isNote S (nI a) (nI b) (nI c) = true
  | 6, a, b, c => c = 0 ∧ isPair S (nI a) (nI b) = true
  | 7, a, b, c => b = 0 ∧ c ≤ 99 ∧ a < 6 ∧ upT (feI (FL S a)) (nI c)
  | 8, a, b, c => a = 0 ∧ b = 0 ∧ c ≤ 99 ∧ ¬ nI c < nI (allN S)
  | 9, a, b, c => a < S 0 ∧ b < 6 ∧ upT (sinceI S a b) (nI c)
  | _, _, _, _ => False
def cmdS (S : Nat → Nat) : Nat → Nat → Nat → Nat → Nat → Nat
  | 1, _, _, _ => townS S
  | 2, a, b, c => joinS S (nI a) (nI b) (nI c)
  | 3, a, b, _ => cutS S (nI a) (nI b)
  | 4, a, b, c => noteS S a b c 1
  | 5, a, b, c => noteS S a b c 0
  | 6, a, b, _ => dropS S a b
  | _, _, _, _ => S
theorem isNote_n {S : Nat → Nat} {a b c : Nat} (ha : a < 2 ^ 31) (hb : b < 2 ^ 31) (hc : c < 1000) : isNote S (nI a) (nI b) (nI c) = true ↔ a < S 0 ∧ b < 6 := by
  constructor
  · intro h
    obtain ⟨h1, h2, _⟩ := of_decide_eq_true h
    rw [isT_nI ha] at h1
    rw [isT_nI hb] at h2
    exact ⟨of_decide_eq_true h1, of_decide_eq_true h2⟩
  · intro h
    refine decide_eq_true ⟨?_, ?_, ?_⟩
    · rw [isT_nI ha]; exact decide_eq_true h.1
    · rw [isT_nI hb]; exact decide_eq_true h.2
    · exact decide_eq_true (by rw [nI_toInt (by omega)]; omega)
theorem isPair_n {S : Nat → Nat} {a b : Nat} (ha : a < 2 ^ 31) (hb : b < 2 ^ 31) : isPair S (nI a) (nI b) = true ↔ a < S 0 ∧ b < 6 := by
  constructor
  · intro h
    obtain ⟨h1, h2⟩ := isPair_T h
    rw [isT_nI ha] at h1
    rw [isT_nI hb] at h2
    exact ⟨of_decide_eq_true h1, of_decide_eq_true h2⟩
  · intro h
    refine decide_eq_true ⟨?_, ?_⟩
    · rw [isT_nI ha]; exact decide_eq_true h.1
    · rw [isT_nI hb]; exact decide_eq_true h.2
theorem OK_cmdS {S : Nat → Nat} (ok : OK S) {k a b c : Nat} (hk : k < 10) (ha : a < 10) (hb : b < 10) (hc : c < 1000) (h : cmdP S k a b c) : OK (cmdS S k a b c) := by
  have hT := ok.T
  rcases (show k = 0 ∨ k = 1 ∨ k = 2 ∨ k = 3 ∨ k = 4 ∨ k = 5 ∨ k = 6 ∨ k = 7 ∨ k = 8 ∨ k = 9 by omega) with rfl | rfl | rfl | rfl | rfl | rfl | rfl | rfl | rfl | rfl
  · exact ok
  · have h : a = 0 ∧ b = 0 ∧ c = 0 ∧ S 0 < 10 := h
    exact OK_townS ok h.2.2.2
  · exact OK_joinS ok h
  · exact OK_cutS ok _ _
  · have h2 := (isNote_n (S := S) (a := a) (b := b) (c := c) (by omega) (by omega) hc).mp h
    exact OK_noteS ok h2.1 h2.2 hc _
  · have h2 := (isNote_n (S := S) (a := a) (b := b) (c := c) (by omega) (by omega) hc).mp h
    exact OK_noteS ok h2.1 h2.2 hc _
  · have h : c = 0 ∧ isPair S (nI a) (nI b) = true := h
    have h2 := (isPair_n (S := S) (a := a) (b := b) (by omega) (by omega)).mp h.2
    exact OK_dropS ok (by omega) h2.2
  · exact ok
  · exact ok
  · exact ok
theorem bI_nm1 (b : Bool) : ¬ bI b = -1 := by cases b <;> decide
theorem bI_nn (b : Bool) : ¬ bI b < 0 := by cases b <;> decide
theorem nI_nm1 {n : Nat} (hn : n < 2 ^ 31) : ¬ nI n = -1 := by
  intro e
  have := congrArg Int32.toInt e
  rw [nI_toInt hn, show (-1 : Int32).toInt = -1 from rfl] at this; omega
theorem s3_isUpTo {x y : Int32} {post : Int32 → Prop} (h0 : ¬ upT x y → post 0) (h1 : upT x y → post 1) : P_X3_isUpTo x y post := by
  unfold P_X3_isUpTo P_X3_isUpTo_b14 P_X3_isUpTo_b15
  exact br (fun q => ⟨rfl, h0 (fun w => w.1 q)⟩) (fun q => br (fun r => ⟨rfl, h0 (fun w => w.2 r)⟩) (fun r => ⟨rfl, h1 ⟨q, r⟩⟩))
