/-! simulate: the numbers drawn, both sides -/
theorem wb_tb (n : Nat) : (lN n).toBitVec = BitVec.ofNat 64 n := rfl
theorem wb_inj {a b : Int64} (h : a.toBitVec = b.toBitVec) : a = b := Int64.toBitVec_inj.mp h
theorem wb_tn {n : Nat} (h : n < 2 ^ 64) : (lN n).toBitVec.toNat = n := by rw [wb_tb, BitVec.toNat_ofNat, Nat.mod_eq_of_lt h]
theorem wb_of (x : Int64) : ∃ n, n < 2 ^ 64 ∧ x = lN n := ⟨x.toBitVec.toNat, x.toBitVec.isLt, wb_inj (by rw [wb_tb]; simp)⟩
theorem wb_cu : ∀ k, k < 64 → ((nI k).toInt64.toUInt64 &&& Int64.toUInt64 63) = UInt64.ofNat k := by decide +kernel
theorem wb_shr {n k : Nat} (hn : n < 2 ^ 64) (hk : k < 64) : ((lN n).toUInt64 >>> ((nI k).toInt64.toUInt64 &&& Int64.toUInt64 63)).toInt64 = lN (n / 2 ^ k) := by
  rw [wb_cu k hk]
  apply wb_inj
  apply BitVec.eq_of_toNat_eq
  show ((lN n).toUInt64 >>> UInt64.ofNat k).toNat = (BitVec.ofNat 64 _).toNat
  have h1 : (UInt64.ofNat k).toNat = k := by
    show (BitVec.ofNat 64 k).toNat = k
    rw [BitVec.toNat_ofNat, Nat.mod_eq_of_lt (by omega)]
  have h2 : (lN n).toUInt64.toNat = n := wb_tn hn
  rw [UInt64.toNat_shiftRight, h1, h2, Nat.mod_eq_of_lt hk, Nat.shiftRight_eq_div_pow, BitVec.toNat_ofNat, Nat.mod_eq_of_lt (Nat.lt_of_le_of_lt (Nat.div_le_self _ _) hn)]
def stX (x : Int64) : Int64 := (x * (6364136223846793005 : Int64)) + (1442695040888963407 : Int64)
def rX (x : Int64) : Int32 := ((x.toUInt64 >>> ((33 : Int32).toInt64.toUInt64 &&& Int64.toUInt64 63)).toInt64).toInt32
theorem rX_n (x : Int64) : ∃ p, p < 2 ^ 31 ∧ rX x = nI p := by
  obtain ⟨n, hn, rfl⟩ := wb_of x
  refine ⟨n / 2 ^ 33, by omega, ?_⟩
  unfold rX
  rw [show (33 : Int32) = nI 33 from rfl, wb_shr hn (by omega), lN_i]
def simG (f : Int64 → Int64) (g : (Nat → Nat) → Int64 → Nat → Nat) : Nat → Int64 → (Nat → Nat) → Nat → Nat
  | 0, _, S => S
  | n + 1, x, S => simG f g n (f x) (g S (f x))
theorem simG_0 {f : Int64 → Int64} {g : (Nat → Nat) → Int64 → Nat → Nat} {x : Int64} {S : Nat → Nat} : simG f g 0 x S = S := rfl
theorem simG_s {f : Int64 → Int64} {g : (Nat → Nat) → Int64 → Nat → Nat} {n i : Nat} {x : Int64} {S F : Nat → Nat} (hi : i < n) (h : simG f g (n - i) x S = F) : simG f g (n - (i + 1)) (f x) (g S (f x)) = F := by
  obtain ⟨k, hk⟩ : ∃ k, n - (i + 1) = k := ⟨_, rfl⟩
  rw [show n - i = k + 1 by omega] at h
  rw [hk]; exact h
def tuX (S : Nat → Nat) (y : Int64) : Nat → Nat := turnS S (NN (rX y))
def simS (n : Nat) (x : Int64) (S : Nat → Nat) : Nat → Nat := simG stX tuX n x S
theorem tuX_p {S : Nat → Nat} {y : Int64} {p : Nat} (hp : p < 2 ^ 31) (e : rX y = nI p) : tuX S y = turnS S p := by
  unfold tuX
  rw [e, NN_nI hp]
noncomputable def sumI (S : Nat → Nat) : Int32 := (((1000 : Int32) * nI (allN S)) + ((100 : Int32) * nI (conN S))) + nI (cnt S)
theorem isLen_ex {x : Int32} (h : isLen x = true) : ∃ n, 1 ≤ n ∧ n ≤ 99 ∧ x = nI n := by
  have k2 := of_decide_eq_true h
  obtain ⟨n, hn, rfl⟩ := nI_of (x := x) (by rw [i_lt, show (0 : Int32).toInt = 0 from rfl]; omega)
  rw [nI_toInt hn] at k2
  exact ⟨n, by omega, by omega, rfl⟩
theorem c_summary {C : Nat → Int32} {S : Nat → Nat} {b : BH} (hC : AgC C S) (ok : OK S) {post : Int32 → BH → Prop} (h : ∀ b', post (sumI S) b') : P_X3_summary C b post := by
  unfold P_X3_summary
  exact c_allInventions hC ok (fun b' => s1_contradictions hC ok (s1_roadCount hC ok (h b')))
theorem c_simulate {C rc : Nat → Int32} {S : Nat → Nat} {bh : BH} (hC : AgC C S) (ok : OK S) {x : Int64} {m : Int32} {post : Int32 → (Nat → Int32) → BH → Prop} {px : String → Prop} (h1 : isLen m = false → px "java/lang/IllegalArgumentException")
    (h0 : isLen m = true → ∀ m' b', post (sumI (simS (NN m) x S)) m' b') : P_X5_simulate C rc bh x m post px := by
  unfold P_X5_simulate P_X5_simulate_b11
  have k1 : (1 : Int32).toInt = 1 := rfl
  have k99 : (99 : Int32).toInt = 99 := rfl
  refine br (fun q => h1 (decide_eq_false (by rw [i_lt, k1] at q; omega))) (fun p => br (fun q => ?_) (fun q => h1 (decide_eq_false (by rw [i_le, k99] at q; omega))))
  rw [i_lt, k1] at p
  rw [i_le, k99] at q
  have e : isLen m = true := decide_eq_true (by omega)
  have h := h0 e
  obtain ⟨n, hn1, hn2, rfl⟩ := isLen_ex e
  rw [NN_nI (by omega)] at h
  refine x3_begin hC (fun w hw => ?_)
  have key := forN (fun k i => ∀ w y S', AgC w S' → OK S' → simG stX tuX (n - i) y S' = simS n x S → P_X5_simulate_l38 C rc bh x (nI n) post px k w y (nI i)) n ?_ ?_ 0 (Nat.zero_le _)
  · obtain ⟨k, hk⟩ := key; exact ⟨k, hk w x S hw ok rfl⟩
  · intro k w y S' hw' ok' hs
    show P_X5_simulate_b38 _ _ _ _ _ _ _ _ _ _ _
    unfold P_X5_simulate_b38
    rw [Nat.sub_self, simG_0] at hs
    refine brT (nI_le (Nat.le_refl _) (by omega)) (c_summary hw' ok' (fun b' => ?_))
    rw [hs]; exact h w b'
  · intro k i hi hv w y S' hw' ok' hs
    show P_X5_simulate_b38 _ _ _ _ _ _ _ _ _ _ _
    unfold P_X5_simulate_b38
    refine brF (nI_ge hi (by omega)) ?_
    intro y2 hy2
    subst hy2
    obtain ⟨p, hp, e2⟩ := rX_n (stX y)
    have e3 := e2
    unfold rX stX at e3
    rw [e3]
    have hs2 := simG_s hi hs
    rw [tuX_p hp e2] at hs2
    exact c_turn hw' ok' hp (fun w2 hw2 => fa1 (hv w2 (stX y) (turnS S' p) hw2 (OK_turnS ok' p) hs2))
