/-! sets of towns as numbers -/
theorem nI_bv {n : Nat} (h : n < 2 ^ 32) : (nI n).toBitVec.toNat = n := by
  show (BitVec.ofNat 32 n).toNat = n
  rw [BitVec.toNat_ofNat, Nat.mod_eq_of_lt h]
theorem nI_or {a b : Nat} : nI a ||| nI b = nI (a ||| b) := by
  have : ∀ x y : Int32, x.toBitVec = y.toBitVec → x = y := fun x y h => Int32.toBitVec_inj.mp h
  apply this
  show BitVec.ofNat 32 a ||| BitVec.ofNat 32 b = BitVec.ofNat 32 (a ||| b)
  apply BitVec.eq_of_toNat_eq
  rw [BitVec.toNat_or, BitVec.toNat_ofNat, BitVec.toNat_ofNat, BitVec.toNat_ofNat, Nat.or_mod_two_pow]
theorem smod32 : ∀ t, t < 32 → ((nI t &&& 31).toBitVec.smod 32).toNat = t := by decide +kernel
theorem nI_shr {s t : Nat} (hs : s < 2 ^ 31) (ht : t < 32) : nI s >>> (nI t &&& 31) = nI (s / 2 ^ t) := by
  rw [← Int32.toInt_inj, nI_toInt (Nat.lt_of_le_of_lt (Nat.div_le_self _ _) hs)]
  show ((nI s).toBitVec.sshiftRight' ((nI t &&& 31).toBitVec.smod 32)).toInt = _
  rw [BitVec.toInt_sshiftRight', Int.shiftRight_eq_div_pow, smod32 t ht, show (nI s).toBitVec.toInt = (s : Int) from nI_toInt hs]
  exact (Int.natCast_ediv s (2 ^ t)).symm
theorem nI_bit {s t : Nat} (hs : s < 2 ^ 31) (ht : t < 32) : ((nI s >>> (nI t &&& 31)) &&& (1 : Int32)) = bI (s.testBit t) := by
  rw [nI_shr hs ht, pk_andN (Nat.lt_of_le_of_lt (Nat.div_le_self _ _) (by omega)) 1 rfl, Nat.testBit_eq_decide_div_mod_eq]
  show nI (s / 2 ^ t % 2 ^ 1) = bI (decide (s / 2 ^ t % 2 ^ 1 = 1))
  have : s / 2 ^ t % 2 ^ 1 = 0 ∨ s / 2 ^ t % 2 ^ 1 = 1 := by have := Nat.mod_lt (s / 2 ^ t) (show 0 < 2 ^ 1 by decide); omega
  rcases this with e | e
  · rw [e, decide_eq_false (show ¬ 0 = 1 by decide)]; rfl
  · rw [e, decide_eq_true (show 1 = 1 from rfl)]; rfl
theorem nI_shl1 : ∀ t, t < 11 → (1 : Int32) <<< (nI t &&& 31) = nI (2 ^ t) := by decide +kernel
def pc (s : Nat) : Nat := sumTo 10 (fun t => b1 (s.testBit t))
theorem pc_le (s : Nat) : pc s ≤ 10 := sumTo_le (n := 10) (c := 1) (fun _ _ => b1_le _)
def bitc (x0 : Int32) : Int32 :=
  let a := x0 - (((x0.toUInt32 >>> ((1 : Int32).toUInt32 &&& Int32.toUInt32 31)).toInt32) &&& (1431655765 : Int32))
  let b := (a &&& (858993459 : Int32)) + (((a.toUInt32 >>> ((2 : Int32).toUInt32 &&& Int32.toUInt32 31)).toInt32) &&& (858993459 : Int32))
  let c := (b + ((b.toUInt32 >>> ((4 : Int32).toUInt32 &&& Int32.toUInt32 31)).toInt32)) &&& (252645135 : Int32)
  let d := c + ((c.toUInt32 >>> ((8 : Int32).toUInt32 &&& Int32.toUInt32 31)).toInt32)
  let e := d + ((d.toUInt32 >>> ((16 : Int32).toUInt32 &&& Int32.toUInt32 31)).toInt32)
  e &&& (63 : Int32)
theorem bitc_pc : ∀ s, s < 1024 → bitc (nI s) = nI (pc s) := by decide +kernel
theorem j6_bitCount {s : Nat} (hs : s < 1024) {post : Int32 → Prop} (h : post (nI (pc s))) : P_J6_bitCount_0f7a4 (nI s) post := by
  unfold P_J6_bitCount_0f7a4
  refine fae (fae (fae (fae (fae ?_))))
  have := bitc_pc s hs
  rw [← this] at h
  exact h
/-- a set out of its towns -/
def mk (f : Nat → Bool) : Nat → Nat
  | 0 => 0
  | n + 1 => if f n = true then mk f n ||| 2 ^ n else mk f n
theorem mk_bit (f : Nat → Bool) (n t : Nat) : (mk f n).testBit t = (decide (t < n) && f t) := by
  induction n with
  | zero => show (0 : Nat).testBit t = _; rw [Nat.zero_testBit, decide_eq_false (by omega)]; rfl
  | succ n ih =>
    show (if f n = true then mk f n ||| 2 ^ n else mk f n).testBit t = _
    by_cases e : f n = true
    · rw [if_pos e, Nat.testBit_or, ih, Nat.testBit_two_pow]
      by_cases g : n = t
      · subst g; rw [decide_eq_true rfl, decide_eq_true (show n < n + 1 by omega), e, Bool.or_true]; rfl
      · rw [decide_eq_false g, Bool.or_false]
        by_cases k : t < n
        · rw [decide_eq_true k, decide_eq_true (show t < n + 1 by omega)]
        · rw [decide_eq_false k, decide_eq_false (show ¬ t < n + 1 by omega)]
    · rw [if_neg e, ih]
      by_cases g : n = t
      · subst g
        have e' : f n = false := by cases q : f n with
          | true => exact absurd q e
          | false => rfl
        rw [e', Bool.and_false, Bool.and_false]
      · by_cases k : t < n
        · rw [decide_eq_true k, decide_eq_true (show t < n + 1 by omega)]
        · rw [decide_eq_false k, decide_eq_false (show ¬ t < n + 1 by omega)]
theorem mk_lt (f : Nat → Bool) (n : Nat) : mk f n < 2 ^ n := by
  induction n with
  | zero => exact Nat.lt_succ_self 0
  | succ n ih =>
    show (if f n = true then mk f n ||| 2 ^ n else mk f n) < 2 ^ (n + 1)
    have h2 : 2 ^ (n + 1) = 2 ^ n + 2 ^ n := by rw [Nat.pow_succ]; omega
    split
    · exact Nat.or_lt_two_pow (by omega) (Nat.pow_lt_pow_right (by omega) (by omega))
    · omega
theorem pow10 {n : Nat} (h : n ≤ 10) : 2 ^ n ≤ 1024 := Nat.pow_le_pow_right (by omega) h
theorem mk_1024 (f : Nat → Bool) {n : Nat} (h : n ≤ 10) : mk f n < 1024 := Nat.lt_of_lt_of_le (mk_lt f n) (pow10 h)
theorem mk_or (f g : Nat → Bool) (n : Nat) : mk f n ||| mk g n = mk (fun t => f t || g t) n := by
  apply Nat.eq_of_testBit_eq
  intro t
  rw [Nat.testBit_or, mk_bit, mk_bit, mk_bit]
  cases decide (t < n) <;> simp
theorem mk_eq (f g : Nat → Bool) (n : Nat) : mk f n = mk g n ↔ ∀ t, t < n → f t = g t := by
  constructor
  · intro h t ht
    have := congrArg (fun x => x.testBit t) h
    simp only [mk_bit, decide_eq_true ht, Bool.true_and] at this
    exact this
  · intro h
    apply Nat.eq_of_testBit_eq
    intro t
    rw [mk_bit, mk_bit]
    by_cases k : t < n
    · rw [h t k]
    · rw [decide_eq_false k]; rfl
theorem mk_or1 {f : Nat → Bool} {n : Nat} (hn : n < 10) : nI (mk f n) ||| ((1 : Int32) <<< (nI n &&& 31)) = nI (mk f n ||| 2 ^ n) := by
  rw [nI_shl1 n (by omega), nI_or]
