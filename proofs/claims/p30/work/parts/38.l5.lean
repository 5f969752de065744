/-! the class's past; the class's plain acts -/
theorem nI_subN {a b : Nat} (h : b ≤ a) : nI a - nI b = nI (a - b) := by
  rw [show nI a = nI (a - b) + nI b by rw [nI_add, Nat.sub_add_cancel h], Int32.add_sub_cancel]
theorem nI_mod {a d : Nat} (ha : a < 2 ^ 31) (h0 : 0 < d) (hd : d < 2 ^ 31) : nI a - nI a / nI d * nI d = nI (a % d) := by
  rw [pk_div ha h0 hd, pk_mul, nI_subN (Nat.div_mul_le_self a d)]
  have := Nat.div_add_mod a d
  rw [Nat.mul_comm] at this
  rw [show a - a / d * d = a % d by omega]
theorem nI_mod14 {a : Nat} (ha : a < 2 ^ 31) : nI a - nI a / (14 : Int32) * (14 : Int32) = nI (a % 14) := nI_mod (d := 14) ha (by omega) (by omega)
def PC (o : Nat) (st : Nat → Nat → Int32) (n : Nat) (PS : Nat → Nat → Nat) : Prop := o < 14 ∧ ∀ j, j < n → AgC (st ((o + j) % 14)) (PS j)
section
variable {C : Nat → Int32} {st : Nat → Nat → Int32} {S : Nat → Nat} {o n : Nat} {PS : Nat → Nat → Nat}
theorem x2_remember (hC : AgC C S) (hn : n ≤ 14) (hP : PC o st n PS) {post : Int32 → Int32 → (Nat → Nat → Int32) → Prop} (h : ∀ o' st', PC o' st' (pushN n) (pushP n PS S) → post (nI o') (nI (pushN n)) st') : P_X2_remember (nI o) (nI n) st C post := by
  obtain ⟨ho, hP⟩ := hP
  unfold P_X2_remember P_X2_remember_b56
  rw [nI_add, nI_mod14 (by omega), show nI o + (1 : Int32) = nI (o + 1) from nI_1 o, nI_mod14 (by omega), nI_clamp (by omega)]
  refine ⟨nI_in (Nat.mod_lt _ (by omega)) (by omega), ?_⟩
  intro j hj
  subst hj
  refine s1_writeTo (fun w hw => ?_)
  have hw' : AgC w S := AgC_eq hC hw
  rw [show (14 : Int32) = nI 14 from rfl, i_leN (by omega) (by omega)]
  refine br (fun q => fae ?_) (fun q => fa1 ?_)
  · have e : n = 14 := by omega
    subst e
    refine h _ _ ⟨Nat.mod_lt _ (by omega), fun j hj => ?_⟩
    rw [show pushN 14 = 14 from rfl] at hj
    show AgC (if ((o + 1) % 14 + j) % 14 = (o + 14) % 14 then w else st (((o + 1) % 14 + j) % 14)) (if j = 13 then S else PS (j + 1))
    by_cases g : j = 13
    · rw [if_pos g, if_pos (by omega)]; exact hw'
    · rw [if_neg g, if_neg (by omega), show ((o + 1) % 14 + j) % 14 = (o + (j + 1)) % 14 by omega]
      exact hP (j + 1) (by omega)
  · have hn' : pushN n = n + 1 := if_neg (by omega)
    rw [hn'] at h
    refine h _ _ ⟨ho, fun j hj => ?_⟩
    unfold pushP
    rw [if_neg (by omega)]
    show AgC (if (o + j) % 14 = (o + n) % 14 then w else st ((o + j) % 14)) (if j = n then S else PS j)
    by_cases g : j = n
    · rw [if_pos g, if_pos (by rw [g])]; exact hw'
    · rw [if_neg g, if_neg (by omega)]; exact hP j (by omega)
theorem x2_takeBack (hn : n ≤ 14) (hP : PC o st n PS) (h0 : 0 < n) {post : Int32 → Int32 → (Nat → Int32) → Prop} (h : ∀ C', AgC C' (PS (n - 1)) → post (nI (n - 1)) (nI (n - 1)) C') : P_X2_takeBack (nI o) (nI n) st C post := by
  obtain ⟨ho, hP⟩ := hP
  unfold P_X2_takeBack P_X2_takeBack_b38
  rw [show nI n - 1 = nI (n - 1) by rw [show n = (n - 1) + 1 by omega, nI_pred]; rfl]
  refine brF (nI_nle h0 (by omega)) (fae ?_)
  rw [nI_add, nI_mod14 (by omega), nI_clamp (by omega)]
  refine ⟨nI_in (Nat.mod_lt _ (by omega)) (by omega), ?_⟩
  intro j hj
  subst hj
  exact s1_readFrom (fun w hw => h w (AgC_eq (hP (n - 1) (by omega)) hw))
theorem x2_isEmpty (hn : n ≤ 14) {post : Int32 → Prop} (h0 : n = 0 → post 1) (h1 : 0 < n → post 0) : P_X2_isEmpty (nI n) post := by
  unfold P_X2_isEmpty P_X2_isEmpty_b12
  exact brE0 (by omega) (fun e => ⟨rfl, h0 e⟩) (fun e => ⟨rfl, h1 e⟩)
theorem x5_needTown (hC : AgC C S) (ok : OK S) {x : Int32} {post : Prop} {px : String → Prop} (h1 : isT (S 0) x = false → px "java/lang/IndexOutOfBoundsException") (h0 : isT (S 0) x = true → post) : P_X5_needTown C x post px := by
  unfold P_X5_needTown
  exact s1_isTown hC ok (bI_br h1 h0)
theorem x5_needTrait {x : Int32} {post : Prop} {px : String → Prop} (h1 : isT 6 x = false → px "java/lang/IllegalArgumentException") (h0 : isT 6 x = true → post) : P_X5_needTrait x post px := by
  unfold P_X5_needTrait
  exact s5_isTrait (bI_br h1 h0)
theorem in01 : vp_in (0 : Int32) 1 := nI_in (c := 0) (by omega) (by omega)
variable {a : Nat → Int64}
end
