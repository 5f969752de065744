/-! what holds of a land: sets go together, years keep bounds, a road more explains no less -/
theorem fl_c {E : Nat → Bool} : ∀ (n : Nat) {L o A B c : Nat}, fl E n = some (L, o, A, B, c) → c ≤ n := by
  intro n
  induction n with
  | zero => intro L o A B c e; exact nomatch e
  | succ n ih =>
    intro L o A B c e
    cases hE : E n with
    | false => rw [fl_no hE] at e; exact Nat.le_succ_of_le (ih e)
    | true =>
      cases hq : fl E n with
      | none => rw [fl_new hE (Or.inl hq)] at e; cases e; omega
      | some q =>
        obtain ⟨L', o', A', B', c'⟩ := q
        have := ih hq
        by_cases h1 : pc n < L'
        · rw [fl_new hE (Or.inr ⟨_, _, _, _, _, hq, h1⟩)] at e; cases e; omega
        · by_cases h2 : pc n = L'
          · rw [fl_eq hE hq h2] at e; cases e; omega
          · rw [fl_more hq (by omega)] at e; cases e; omega
theorem FL_c {S : Nat → Nat} (ok : OK S) {x L o A B c : Nat} (h : FL S x = some (L, o, A, B, c)) : c ≤ 1024 := by
  have hh := (FL_spec h).1
  unfold FL at h
  rw [if_pos hh] at h
  exact Nat.le_trans (fl_c _ h) (pow10 ok.T)
theorem ivI_0 {L o A B c : Nat} : ivI (some (L, o, A, B, c)) 0 = nI o := by
  show (if (0 : Int32) = 0 then nI o else if (0 : Int32) = 1 then nI A else nI B) = _
  rw [if_pos rfl]
theorem ivI_1 {L o A B c : Nat} : ivI (some (L, o, A, B, c)) 1 = nI A := by
  show (if (1 : Int32) = 0 then nI o else if (1 : Int32) = 1 then nI A else nI B) = _
  rw [if_neg (by decide), if_pos rfl]
theorem ivI_2 {L o A B c : Nat} : ivI (some (L, o, A, B, c)) 2 = nI B := by
  show (if (2 : Int32) = 0 then nI o else if (2 : Int32) = 1 then nI A else nI B) = _
  rw [if_neg (by decide), if_neg (by decide)]
theorem nI_ne {a b : Nat} (ha : a < 2 ^ 31) (hb : b < 2 ^ 31) (h : a ≠ b) : ¬ nI a = nI b := fun e => by
  rw [i_eqN ha hb] at e; exact h e
theorem since_not {S : Nat → Nat} (ok : OK S) {t x : Nat} (ht : t < S 0) (hx : x < 6) (h : ¬ sinceI S t x = -1) : ¬ (sinceI S t x ≤ cY (nt S t x)) := by
  have hT := ok.T
  have n1 := ok.n1k (t := t) (by omega) hx
  have g := yrs_ge ok hx ht
  unfold sinceI at h ⊢
  by_cases e : yrs S x t < 1000
  · rw [if_pos e, i_le, nI_toInt (by omega), cY_toInt (by omega)]; omega
  · rw [if_neg e] at h; exact absurd rfl h
theorem since_had {S : Nat → Nat} (ok : OK S) {t x : Nat} (ht : t < S 0) (hx : x < 6) (h1 : ¬ feI (FL S x) = -1) (h2 : ¬ cY (hd S t x) = -1) : ¬ sinceI S t x = -1 ∧ ¬ (cY (hd S t x) < sinceI S t x) := by
  have hT := ok.T
  have k1 := ok.h1k (t := t) (by omega) hx
  rw [cY_m1 (by omega)] at h2
  cases hF : FL S x with
  | none => rw [hF] at h1; exact absurd rfl h1
  | some q =>
    obtain ⟨L, o, A, B, c⟩ := q
    have g := yrs_had ok hx ht hF (by omega)
    unfold sinceI
    rw [if_pos (by omega), i_lt, nI_toInt (by omega), cY_toInt (by omega)]
    exact ⟨nI_nm1 (by omega), by omega⟩
theorem since_0 {S : Nat → Nat} (ok : OK S) {t x : Nat} (ht : t < S 0) (hx : x < 6) (h : feI (FL S x) = 0) : sinceI S t x = -1 := by
  have hT := ok.T
  have p10 := pow10 hT
  cases hF : FL S x with
  | none => rw [hF] at h; exact absurd h (by decide)
  | some q =>
    obtain ⟨L, o, A, B, c⟩ := q
    have l := FL_lim hF
    rw [hF] at h
    have L0 : L = 0 := by
      have h : nI L = nI 0 := h
      rw [i_eqN (by omega) (by omega)] at h; exact h
    obtain ⟨_, _, h2, h3, _⟩ := FL_spec hF
    have o0 : o = 0 := by
      apply Classical.byContradiction
      intro q
      have := pc_pos o (by omega) (by omega)
      omega
    have g := yrs_0 (S := S) (x := x) ht (by rw [hF]; exact o0)
    unfold sinceI
    rw [if_neg (by omega)]
section
variable {σ : ST} {b : MO} {x : Int32} {post : Int32 → MO → Prop}
noncomputable def onN (S : Nat → Nat) (i j : Nat) : Nat := sumTo j (fun t => b1 ((orgN (FL S i)).testBit t))
def knJ (S : Nat → Nat) (i j : Nat) : Nat := sumTo j (fun t => b1 (kn S i t))
def fiB (S : Nat → Nat) (i j : Nat) : Bool := !allB j (fun t => !cond S t i)
theorem fiB_s {S : Nat → Nat} {i j : Nat} : fiB S i (j + 1) = (fiB S i j || cond S j i) := by
  show (!(allB j (fun t => !cond S t i) && !cond S j i)) = _
  unfold fiB
  cases allB j (fun t => !cond S t i) <;> cases cond S j i <;> rfl
theorem bI_nI (c : Bool) : bI c = nI (b1 c) := by cases c <;> rfl
theorem h_inner (w : WF σ) {K27 : MO → Int32 → Int32 → Int32 → Int32 → Int32 → Prop} {i : Nat} (hi : i < 6) {sumv allv : Int32}
    (hE : ∀ b', Ag b' σ → (feI (FL σ.1 i) ≤ 0 → P_L_holds_b294 b x post K27 b' (nI (σ.1 0)) allv 1 (nI i) (feI (FL σ.1 i)) (ivI (FL σ.1 i) 0) (ivI (FL σ.1 i) 1) (ivI (FL σ.1 i) 2) (chI (FL σ.1 i)) (nI (onN σ.1 i (σ.1 0))) (nI (knJ σ.1 i (σ.1 0))) (bI (fiB σ.1 i (σ.1 0))) sumv 0) ∧
      (¬ (feI (FL σ.1 i) ≤ 0) → P_L_holds_b294 b x post K27 b' (nI (σ.1 0)) allv 1 (nI i) (feI (FL σ.1 i)) (ivI (FL σ.1 i) 0) (ivI (FL σ.1 i) 1) (ivI (FL σ.1 i) 2) (chI (FL σ.1 i)) (nI (onN σ.1 i (σ.1 0))) (nI (knJ σ.1 i (σ.1 0))) (bI (fiB σ.1 i (σ.1 0))) sumv (feI (FL σ.1 i)))) :
    ∀ b', Ag b' σ → ∃ n, n ≤ 16 ∧ P_L_holds_l111 b x post K27 n b' (nI (σ.1 0)) allv sumv 1 (nI i) (feI (FL σ.1 i)) (ivI (FL σ.1 i) 0) (ivI (FL σ.1 i) 1) (ivI (FL σ.1 i) 2) (chI (FL σ.1 i)) 0 0 0 0 := by
  have ok := w.ok
  have hT := ok.T
  have hO := orgN_lt ok (x := i)
  intro b' hb'
  refine ⟨σ.1 0 - 0 + 1, by omega, ?_⟩
  refine forNb (fun n j => ∀ b', Ag b' σ → P_L_holds_l111 b x post K27 n b' (nI (σ.1 0)) allv sumv 1 (nI i) (feI (FL σ.1 i)) (ivI (FL σ.1 i) 0) (ivI (FL σ.1 i) 1) (ivI (FL σ.1 i) 2) (chI (FL σ.1 i)) (nI (onN σ.1 i j)) (nI (knJ σ.1 i j)) (bI (fiB σ.1 i j)) (nI j)) (σ.1 0) ?_ ?_ 0 (Nat.zero_le _) b' hb'
  · intro n b' hb'
    show P_L_holds_b111 _ _ _ _ _ _ _ _ _ _ _ _ _ _ _ _ _ _ _ _
    unfold P_L_holds_b111
    exact brT (nI_le (Nat.le_refl _) (by omega)) (hE b' hb')
  · intro n j hj hv b' hb'
    show P_L_holds_b111 _ _ _ _ _ _ _ _ _ _ _ _ _ _ _ _ _ _ _ _
    have k1 := ok.h1k (t := j) (by omega) hi
    have k2 := ok.n1k (t := j) (by omega) hi
    unfold P_L_holds_b111
    refine brF (nI_ge hj (by omega)) (k_hadN w hb' j i hj hi (k_notN w hb' j i hj hi (k_sinceN w hb' j i hj hi (fun b1' hb1 => ?_))))
    have hv := hv b1' hb1
    -- what is behind the counts
    have rest : ∀ ad : Int32, ad = nI (b1 ((orgN (FL σ.1 i)).testBit j)) → P_L_holds_b170 b x post K27 (P_L_holds_l111 b x post K27 n) b1' (nI (σ.1 0)) allv sumv 1 (nI i) (feI (FL σ.1 i)) (ivI (FL σ.1 i) 0) (ivI (FL σ.1 i) 1) (ivI (FL σ.1 i) 2) (chI (FL σ.1 i)) (nI (knJ σ.1 i j)) (bI (fiB σ.1 i j)) (nI j) (cY (hd σ.1 j i)) (cY (nt σ.1 j i)) (sinceI σ.1 j i) (nI (onN σ.1 i j)) ad := fun ad had => by
      subst had
      unfold P_L_holds_b170
      refine fae ?_
      rw [nI_add, show onN σ.1 i j + b1 ((orgN (FL σ.1 i)).testBit j) = onN σ.1 i (j + 1) from rfl]
      -- behind the known ones
      have rest2 : ∀ kd : Int32, kd = nI (b1 (kn σ.1 i j)) → P_L_holds_b186 b x post K27 (P_L_holds_l111 b x post K27 n) b1' (nI (σ.1 0)) allv sumv 1 (nI i) (feI (FL σ.1 i)) (ivI (FL σ.1 i) 0) (ivI (FL σ.1 i) 1) (ivI (FL σ.1 i) 2) (chI (FL σ.1 i)) (nI (onN σ.1 i (j + 1))) (bI (fiB σ.1 i j)) (nI j) (cY (hd σ.1 j i)) (cY (nt σ.1 j i)) (sinceI σ.1 j i) (nI (knJ σ.1 i j)) kd := fun kd hkd => by
        subst hkd
        unfold P_L_holds_b186
        refine fae ?_
        rw [nI_add, show knJ σ.1 i j + b1 (kn σ.1 i j) = knJ σ.1 i (j + 1) from rfl]
        -- the year since when
        have rest3 : ∀ f : Int32, f = bI (fiB σ.1 i (j + 1)) → P_L_holds_b212 b x post K27 (P_L_holds_l111 b x post K27 n) b1' (nI (σ.1 0)) allv sumv 1 (nI i) (feI (FL σ.1 i)) (ivI (FL σ.1 i) 0) (ivI (FL σ.1 i) 1) (ivI (FL σ.1 i) 2) (chI (FL σ.1 i)) (nI (onN σ.1 i (j + 1))) (nI (knJ σ.1 i (j + 1))) (nI j) (cY (hd σ.1 j i)) (cY (nt σ.1 j i)) (sinceI σ.1 j i) f := fun f hf => by
          subst hf
          have go : P_L_holds_b268 b x post K27 (P_L_holds_l111 b x post K27 n) b1' (nI (σ.1 0)) allv sumv (nI i) (feI (FL σ.1 i)) (ivI (FL σ.1 i) 0) (ivI (FL σ.1 i) 1) (ivI (FL σ.1 i) 2) (chI (FL σ.1 i)) (nI (onN σ.1 i (j + 1))) (nI (knJ σ.1 i (j + 1))) (bI (fiB σ.1 i (j + 1))) (nI j) := by
            unfold P_L_holds_b268 P_L_holds_b273
            exact fa1 hv
          have c3 : P_L_holds_b257 b x post K27 (P_L_holds_l111 b x post K27 n) b1' (nI (σ.1 0)) allv sumv (nI i) (feI (FL σ.1 i)) (ivI (FL σ.1 i) 0) (ivI (FL σ.1 i) 1) (ivI (FL σ.1 i) 2) (chI (FL σ.1 i)) (nI (onN σ.1 i (j + 1))) (nI (knJ σ.1 i (j + 1))) (bI (fiB σ.1 i (j + 1))) (nI j) (sinceI σ.1 j i) := by
            unfold P_L_holds_b257
            exact br (fun q => brT (since_0 ok hj hi q) go) (fun _ => go)
          have c2 : P_L_holds_b232 b x post K27 (P_L_holds_l111 b x post K27 n) b1' (nI (σ.1 0)) allv sumv (nI i) (feI (FL σ.1 i)) (ivI (FL σ.1 i) 0) (ivI (FL σ.1 i) 1) (ivI (FL σ.1 i) 2) (chI (FL σ.1 i)) (nI (onN σ.1 i (j + 1))) (nI (knJ σ.1 i (j + 1))) (bI (fiB σ.1 i (j + 1))) (nI j) (cY (hd σ.1 j i)) (sinceI σ.1 j i) := by
            unfold P_L_holds_b232
            exact br (fun _ => c3) (fun q1 => br (fun _ => c3) (fun q2 => brF (since_had ok hj hi q1 q2).1 (brF (since_had ok hj hi q1 q2).2 c3)))
          unfold P_L_holds_b212
          exact brF f1I (br (fun _ => c2) (fun q => brF (since_not ok hj hi q) c2))
        have T : fiB σ.1 i (j + 1) = true → P_L_holds_b207 b x post K27 (P_L_holds_l111 b x post K27 n) b1' (nI (σ.1 0)) allv sumv 1 (nI i) (feI (FL σ.1 i)) (ivI (FL σ.1 i) 0) (ivI (FL σ.1 i) 1) (ivI (FL σ.1 i) 2) (chI (FL σ.1 i)) (nI (onN σ.1 i (j + 1))) (nI (knJ σ.1 i (j + 1))) (nI j) (cY (hd σ.1 j i)) (cY (nt σ.1 j i)) (sinceI σ.1 j i) := fun e => rest3 1 (by rw [e]; rfl)
        have F : fiB σ.1 i (j + 1) = false → P_L_holds_b211 b x post K27 (P_L_holds_l111 b x post K27 n) b1' (nI (σ.1 0)) allv sumv 1 (nI i) (feI (FL σ.1 i)) (ivI (FL σ.1 i) 0) (ivI (FL σ.1 i) 1) (ivI (FL σ.1 i) 2) (chI (FL σ.1 i)) (nI (onN σ.1 i (j + 1))) (nI (knJ σ.1 i (j + 1))) (nI j) (cY (hd σ.1 j i)) (cY (nt σ.1 j i)) (sinceI σ.1 j i) := fun e => rest3 0 (by rw [e]; rfl)
        refine bI_br (fun e => brY (by omega) (fun z => F ?_) (fun z => br (fun q => F ?_) (fun q => T ?_))) (fun e => T ?_)
        · rw [fiB_s, e, show cond σ.1 j i = false from decide_eq_false (by omega)]; rfl
        · rw [cY_lt (by omega) (by omega)] at q
          rw [fiB_s, e, show cond σ.1 j i = false from decide_eq_false (by omega)]; rfl
        · rw [cY_lt (by omega) (by omega)] at q
          rw [fiB_s, e, show cond σ.1 j i = true from decide_eq_true (by omega)]; rfl
        · rw [fiB_s, e]; rfl
      refine brY (by omega) (fun z => rest2 0 ?_) (fun z => rest2 1 ?_)
      · rw [show kn σ.1 i j = false from decide_eq_false (by omega)]; rfl
      · rw [show kn σ.1 i j = true from decide_eq_true z]; rfl
    cases hF : FL σ.1 i with
    | none =>
      rw [hF] at rest
      refine brT (show ivI none 0 ≤ (0 : Int32) by decide) (rest 0 ?_)
      show (0 : Int32) = nI (b1 ((0 : Nat).testBit j))
      rw [Nat.zero_testBit]; rfl
    | some q =>
      obtain ⟨L, o, A, B, c⟩ := q
      rw [hF] at rest hO
      have hO : o < 1024 := hO
      rw [ivI_0] at rest ⊢
      refine br (fun z => rest 0 ?_) (fun z => rest _ ?_)
      · rw [show (0 : Int32) = nI 0 from rfl, i_leN (by omega) (by omega)] at z
        show (0 : Int32) = nI (b1 (o.testBit j))
        rw [show o = 0 by omega, Nat.zero_testBit]; rfl
      · rw [nI_bit (by omega) (by omega), bI_nI]; rfl
theorem h_trait (w : WF σ) {K27 : MO → Int32 → Int32 → Int32 → Int32 → Int32 → Prop} {i : Nat} (hi : i < 6) {allv s1 : Int32} (hs : s1 = nI (feN (FL σ.1 i))) {b' : MO}
    (hk : K27 b' (nI (σ.1 0)) allv (nI (sumTo (i + 1) (fun x => feN (FL σ.1 x)))) 1 (nI (i + 1))) :
    P_L_holds_b294 b x post K27 b' (nI (σ.1 0)) allv 1 (nI i) (feI (FL σ.1 i)) (ivI (FL σ.1 i) 0) (ivI (FL σ.1 i) 1) (ivI (FL σ.1 i) 2) (chI (FL σ.1 i)) (nI (onN σ.1 i (σ.1 0))) (nI (knJ σ.1 i (σ.1 0))) (bI (fiB σ.1 i (σ.1 0))) (nI (sumTo i (fun x => feN (FL σ.1 x)))) s1 := by
  have ok := w.ok
  have hT := ok.T
  subst hs
  unfold P_L_holds_b294
  refine fae ?_
  rw [nI_add, show sumTo i (fun x => feN (FL σ.1 x)) + feN (FL σ.1 i) = sumTo (i + 1) (fun x => feN (FL σ.1 x)) from rfl]
  have go : P_L_holds_b434 b x post K27 b' (nI (σ.1 0)) allv (nI (sumTo (i + 1) (fun x => feN (FL σ.1 x)))) (nI i) := by
    unfold P_L_holds_b434 P_L_holds_b439
    exact fa1 hk
  have fh : fiB σ.1 i (σ.1 0) = !hasH σ.1 i := rfl
  refine brF f1I ?_
  unfold P_L_holds_b315
  cases hF : FL σ.1 i with
  | none =>
    have e := (FL_hasH ok hi).mp hF
    rw [fh, e]
    exact brT rfl (brT rfl (brT rfl (brT rfl (brT rfl (brT rfl (brT rfl go))))))
  | some q =>
    obtain ⟨L, o, A, B, c⟩ := q
    have l := FL_lim hF
    have lc := FL_c ok hF
    obtain ⟨hh, _, _, _, c1, _, _, c7⟩ := FL_spec hF
    have e1 : onN σ.1 i (σ.1 0) = L := by
      unfold onN; rw [hF]; exact FL_ones ok hF
    have e2 : L ≤ knJ σ.1 i (σ.1 0) := FL_known ok hF
    have e3 : L = 0 ↔ knJ σ.1 i (σ.1 0) = 0 := FL_0 ok hi hF
    have e4 : knJ σ.1 i (σ.1 0) ≤ 10 := by
      have := sumTo_le (n := σ.1 0) (f := fun t => b1 (kn σ.1 i t)) (c := 1) (fun _ _ => b1_le _)
      show sumTo (σ.1 0) _ ≤ 10; omega
    obtain ⟨s1, s2⟩ := FL_sets hF
    rw [fh, hh, ivI_0, ivI_1, ivI_2, e1]
    show (nI L = -1 → _) ∧ (¬ nI L = -1 → _)
    refine brF (nI_nm1 (by omega)) (brT rfl (brF (nI_nm1 (by omega)) (brT rfl (brF (by rw [show feI (some (L, o, A, B, c)) = nI L from rfl, i_ltN (by omega) (by omega)]; omega) ?_))))
    have last : ∀ v : Int32, P_L_holds_b385 b x post K27 b' (nI (σ.1 0)) allv (nI (sumTo (i + 1) (fun x => feN (FL σ.1 x)))) (nI i) (nI o) (nI A) (nI B) (chI (some (L, o, A, B, c))) v v := fun v => by
      unfold P_L_holds_b385
      refine brT rfl (brT (by rw [nI_and, s1]) (brT (by rw [nI_and, s2]) (brF ?_ (br (fun _ => go) (fun q => ?_)))))
      · rw [show chI (some (L, o, A, B, c)) = nI c from rfl, show (1 : Int32) = nI 1 from rfl, i_ltN (by omega) (by omega)]; omega
      · rw [show chI (some (L, o, A, B, c)) = nI c from rfl, show (1 : Int32) = nI 1 from rfl, i_ltN (by omega) (by omega)] at q
        obtain ⟨k1, k2⟩ := c7 (by omega)
        exact brT (by rw [k1]) (brT (by rw [k2]) go)
    unfold P_L_holds_b375
    have z0 : feI (some (L, o, A, B, c)) = 0 ↔ L = 0 := by
      rw [show feI (some (L, o, A, B, c)) = nI L from rfl, show (0 : Int32) = nI 0 from rfl, i_eqN (by omega) (by omega)]
    have z1 : nI (knJ σ.1 i (σ.1 0)) = 0 ↔ knJ σ.1 i (σ.1 0) = 0 := by
      rw [show (0 : Int32) = nI 0 from rfl, i_eqN (by omega) (by omega)]
    exact br (fun q => brT (z1.mpr (e3.mp (z0.mp q))) (last 1)) (fun q => brF (fun p => q (z0.mpr (e3.mpr (z1.mp p)))) (last 0))
theorem h_traits (w : WF σ) (hk : ∀ b', Ag b' σ → P_L_holds_b463 b x post b' (nI (σ.1 0)) (nI (allN σ.1)) 1) : ∀ b', Ag b' σ → ∃ n, n ≤ 16 ∧ P_L_holds_l27 b x post n b' (nI (σ.1 0)) (nI (allN σ.1)) 0 1 0 := by
  have ok := w.ok
  have hT := ok.T
  intro b' hb'
  refine ⟨6 - 0 + 1, by omega, ?_⟩
  refine forNb (fun n i => ∀ b', Ag b' σ → P_L_holds_l27 b x post n b' (nI (σ.1 0)) (nI (allN σ.1)) (nI (sumTo i (fun x => feN (FL σ.1 x)))) 1 (nI i)) 6 ?_ ?_ 0 (by omega) b' hb'
  · intro n b' hb'
    show P_L_holds_b27 _ _ _ _ _ _ _ _ _ _
    unfold P_L_holds_b27 P_L_holds_b447
    exact brT (nI_le (a := 6) (Nat.le_refl _) (by omega)) (brF f1I (brT rfl (hk b' hb')))
  · intro n i hi hv b' hb'
    show P_L_holds_b27 _ _ _ _ _ _ _ _ _ _
    unfold P_L_holds_b27
    have l := FL_le (S := σ.1) (x := i)
    refine brF (nI_ge (b := 6) hi (by omega)) (brF f1I (k_inventionsN w hb' i hi (fun b1' h1 => k_inventedN w h1 i hi (by decide) (fun b2 h2 => k_inventedN w h2 i hi (by decide) (fun b3 h3 => k_inventedN w h3 i hi (by decide) (fun b4 h4 => k_choicesN w h4 i hi (fun b5 h5 => ?_)))))))
    refine h_inner w hi (fun b6 h6 => ?_) b5 h5
    refine br (fun q => h_trait w hi ?_ (hv b6 h6)) (fun q => h_trait w hi ?_ (hv b6 h6))
    · cases hF : FL σ.1 i with
      | none => rfl
      | some v =>
        obtain ⟨L, o, A, B, c⟩ := v
        have l := FL_lim hF
        rw [hF] at q
        have q : nI L ≤ nI 0 := q
        rw [i_leN (by omega) (by omega)] at q
        show (0 : Int32) = nI L
        rw [show L = 0 by omega]; rfl
    · refine feI_n (fun z => ?_)
      rw [z] at q; exact q (by decide)
end
