/-! the text taken and emptied; the places to save -/
theorem faN {e : Nat} {A : Nat → Prop} (h : A e) : ∀ j : Nat, j = e → A j := fun j hj => by rw [hj]; exact h
def AgX (s : Nat → Int32) (n : Nat) (t : Nat → Nat) : Prop := ∀ i, i < n → s i = nI (t i) ∧ t i < 256
def setT (t : Nat → Nat) (n c : Nat) : Nat → Nat := fun i => if i = n then c else t i
theorem AgX_upd {s : Nat → Int32} {n c : Nat} {t : Nat → Nat} {x : Int32} (h : AgX s n t) (hc : c < 256) (hx : x = nI c) : AgX (upd s n x) (n + 1) (setT t n c) := by
  intro i hi
  show (if i = n then x else s i) = nI (if i = n then c else t i) ∧ (if i = n then c else t i) < 256
  by_cases e : i = n
  · rw [if_pos e, if_pos e]; exact ⟨hx, hc⟩
  · rw [if_neg e, if_neg e]; exact h i (by omega)
def isSign (x : Int32) : Bool := decide (0 ≤ x.toInt ∧ x.toInt ≤ 255)
theorem isSign_ex {x : Int32} (h : isSign x = true) : ∃ c, c < 256 ∧ x = nI c := by
  have k2 := of_decide_eq_true h
  obtain ⟨n, hn, rfl⟩ := nI_of (x := x) (by rw [i_lt, show (0 : Int32).toInt = 0 from rfl]; omega)
  rw [nI_toInt hn] at k2
  exact ⟨n, by omega, rfl⟩
theorem my_nar_char {c : Nat} (hc : c < 256) : vp_nar .char (((nI c).toUInt32 % 65536).toInt32) = nI c := by
  rw [pk_char, show (nI c).toBitVec.toNat % 65536 = c by
    show (BitVec.ofNat 32 c).toNat % 65536 = c
    rw [BitVec.toNat_ofNat, Nat.mod_eq_of_lt (by omega), Nat.mod_eq_of_lt (by omega)]]
  unfold vp_nar; rw [(pk_charN (q := c) (by omega)).1]
theorem vp_nar_b1 : vp_nar .boolean (1 : Int32) = 1 := rfl
theorem isT2 {x : Int32} {A B : Prop} (h1 : isT 2 x = false → A) (h0 : isT 2 x = true → B) : (x < 0 → A) ∧ (¬ (x < 0) → ((x < (2 : Int32) → B) ∧ (¬ (x < (2 : Int32)) → A))) := by
  rw [i_lt, i_lt, show (0 : Int32).toInt = 0 from rfl, show (2 : Int32).toInt = 2 from rfl]
  exact br (fun q => h1 (decide_eq_false (by omega))) (fun q => br (fun p => h0 (decide_eq_true (by omega))) (fun p => h1 (decide_eq_false (by omega))))
