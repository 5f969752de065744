/-! passed, as a whole -/
def pasI : Option Nat → Int32
  | none => 0
  | some _ => 1
noncomputable def passV (S : Nat → Nat) (x a b : Nat) : Int32 := if 0 < rd S a b ∧ 0 < hd S b x then (match FL S x with
  | none => 0
  | some (L, _, _, _, _) => pasI (firstF (passP S x a b L) (2 ^ S 0))) else 0
theorem passV_no {S : Nat → Nat} {x a b : Nat} (h : ¬ (0 < rd S a b ∧ 0 < hd S b x)) : passV S x a b = 0 := if_neg h
theorem passV_none {S : Nat → Nat} {x a b : Nat} (h : FL S x = none) : passV S x a b = 0 := by unfold passV; rw [h]; split <;> rfl
theorem passV_some {S : Nat → Nat} {x a b L o A B c : Nat} (h1 : 0 < rd S a b) (h2 : 0 < hd S b x) (h : FL S x = some (L, o, A, B, c)) : passV S x a b = pasI (firstF (passP S x a b L) (2 ^ S 0)) := by
  unfold passV; rw [if_pos ⟨h1, h2⟩, h]
theorem FL_lim {S : Nat → Nat} {x L o A B c : Nat} (h : FL S x = some (L, o, A, B, c)) : L ≤ 10 := by
  have := FL_le (S := S) (x := x)
  rw [h] at this; exact this
theorem c_canHavePassed {C : Nat → Int32} {S : Nat → Nat} {bh : BH} (hC : AgC C S) (ok : OK S) {x a b : Nat} (hx : x < 6) (ha : a < S 0) (hb : b < S 0) {post : Int32 → BH → Prop} (h : ∀ b', post (passV S x a b) b') : P_X0_canHavePassed bh C (nI a) (nI b) (nI x) post := by
  have hT := ok.T
  have r9 := ok.r99 (a := a) (b := b) (by omega) (by omega)
  have p10 := pow10 hT
  have l2 := mk_1024 (kn S x) hT
  unfold P_X0_canHavePassed
  refine s1_roadLengthN hC ok ha hb (brR (by omega) (fun q => ?_) (fun q => c_study hC ok hx (fun b' hb' => br (fun q2 => ?_) (fun q2 => ?_))))
  · unfold P_X0_canHavePassed_b36
    have := h bh
    rw [passV_no (by omega)] at this; exact this
  · unfold P_X0_canHavePassed_b36
    have := h b'
    rw [passV_none (feI_m1.mp q2)] at this; exact this
  obtain ⟨tw, ro, kk, fe, og, al, so, ls, fr, to, ln, ea, la, ye, xp, tg⟩ := b'
  obtain ⟨e1, ⟨R, e2, hR, hRO⟩, e3, hE, hL, _, hF, hg⟩ := hb'
  subst e1 e2 e3
  have fne : FL S x ≠ none := fun z => q2 (feI_m1.mpr z)
  cases hQ : FL S x with
  | none => exact absurd hQ fne
  | some v =>
    obtain ⟨L, o1, A, B, c⟩ := v
    have lL := FL_lim hQ
    rw [hQ] at hF
    have hfe : fe = nI L := hF.1
    subst hfe
    dsimp only
    rw [nI_bit (s := mk (kn S x) (S 0)) (by omega) (by omega), mk_bit, decide_eq_true hb, Bool.true_and]
    refine bI_br (fun z => ?_) (fun z => ⟨nI_in (by omega) (by omega), fae ⟨nI_in (by omega) (by omega), ?_⟩⟩)
    · unfold P_X0_canHavePassed_b36
      have := h (nI (S 0), nI R, nI (mk (kn S x) (S 0)), nI L, og, al, so, ls, fr, to, ln, ea, la, ye, xp, tg)
      rw [passV_no (fun w => of_decide_eq_false z w.2)] at this; exact this
    have hk : 0 < hd S b x := of_decide_eq_true z
    rw [cR_pos q, nI_clamp (by omega), hE b hb]
    rw [passV_some q hk hQ] at h
    have kne : mk (kn S x) (S 0) ≠ 0 := fun w => by
      have := congrArg (fun v => v.testBit b) w
      simp only [mk_bit, Nat.zero_testBit, decide_eq_true hb, Bool.true_and] at this
      exact of_decide_eq_false this hk
    have hg' := hg fne kne
    have hE' : AgY (upd ea b 1000) (S 0) (setS (bdS S x) b 1000) := fun t ht => by
      show (if t = b then (1000 : Int32) else ea t) = nI (if t = b then 1000 else bdS S x t)
      by_cases g : t = b
      · rw [if_pos g, if_pos g]; rfl
      · rw [if_neg g, if_neg g]; exact hE t ht
    have key := forN (fun n i => ∀ ye, firstF (passP S x a b L) i = none → P_X0_canHavePassed_l58 bh C (nI a) (nI b) (nI x) post n (nI (S 0), nI R, nI (mk (kn S x) (S 0)), nI L, og, al, so, ls, fr, to, ln, upd ea b 1000, la, ye, xp, tg) (nI (rd S a b)) (nI (bdS S x b)) (nI i)) (2 ^ S 0) ?_ ?_ 0 (Nat.zero_le _)
    · obtain ⟨n, hn⟩ := key; exact ⟨n, hn ye rfl⟩
    · intro n ye hno
      show P_X0_canHavePassed_b58 _ _ _ _ _ _ _ _ _ _ _
      unfold P_X0_canHavePassed_b58
      dsimp only
      rw [nI_shl1 _ (by omega)]
      rw [hno] at h
      exact brT (nI_le (Nat.le_refl _) (by omega)) (h _)
    · intro n i hi hv ye hno
      show P_X0_canHavePassed_b58 _ _ _ _ _ _ _ _ _ _ _
      have pl := pc_le i
      have l3 := mk_1024 (cv S x i) hT
      have next : passP S x a b L i = false → ∀ ye, P_X0_canHavePassed_b133 bh C (nI a) (nI b) (nI x) post (P_X0_canHavePassed_l58 bh C (nI a) (nI b) (nI x) post n) (nI (S 0), nI R, nI (mk (kn S x) (S 0)), nI L, og, al, so, ls, fr, to, ln, upd ea b 1000, la, ye, xp, tg) (nI (rd S a b)) (nI (bdS S x b)) (nI i) := fun g ye => by
        unfold P_X0_canHavePassed_b133
        exact fa1 (hv ye (firstF_no hno g))
      have noE : EX S x i ≠ true → passP S x a b L i = false := fun g => decide_eq_false (fun w => g (comes_EX ha hb q w.2.2))
      unfold P_X0_canHavePassed_b58 P_X0_canHavePassed_b99
      dsimp only
      rw [nI_shl1 _ (by omega), nI_clamp (by omega), hg' i hi, i_eqN (a := mk (cv S x i) (S 0)) (b := mk (kn S x) (S 0)) (by omega) (by omega), propext (cv_EX ok hx)]
      refine brF (nI_ge hi (by omega)) ⟨nI_in (by omega) (by omega), br (fun q5 => j6_bitCount (by omega) ?_) (fun q5 => ?_)⟩
      · rw [i_eqN (a := pc i) (b := L) (by omega) (by omega)]
        refine br (fun q6 => ?_) (fun q6 => ?_)
        · unfold P_X0_canHavePassed_b100
          dsimp only
          rw [nI_bit (s := i) (by omega) (by omega)]
          refine brF f10 (bI_br (fun q7 => c_explainsByRoad ok hx ha hb (by omega) q hk q7 hR hRO hE' hL (fun w' => bI_br (fun q8 => ?_) (fun q8 => ?_))) (fun q7 => ?_))
          · exact next (decide_eq_false (fun w => by rw [w.2.2] at q8; exact nomatch q8)) w'
          · rw [firstF_up (firstF_hit hno (decide_eq_true ⟨q6, q7, q8⟩)) (2 ^ S 0) hi] at h
            exact h _
          · exact next (decide_eq_false (fun w => by rw [w.2.1] at q7; exact nomatch q7)) ye
        · unfold P_X0_canHavePassed_b100
          exact brT rfl (next (decide_eq_false (fun w => q6 w.1)) ye)
      · unfold P_X0_canHavePassed_b100
        exact brT rfl (next (noE q5) ye)
theorem passV_01 {S : Nat → Nat} {x a b : Nat} : passV S x a b = 0 ∨ passV S x a b = 1 := by
  unfold passV
  split
  · cases FL S x with
    | none => exact Or.inl rfl
    | some v =>
      obtain ⟨L, o, A, B, c⟩ := v
      show pasI (firstF (passP S x a b L) (2 ^ S 0)) = 0 ∨ pasI (firstF (passP S x a b L) (2 ^ S 0)) = 1
      cases firstF (passP S x a b L) (2 ^ S 0) with
      | none => exact Or.inl rfl
      | some _ => exact Or.inr rfl
  · exact Or.inl rfl
