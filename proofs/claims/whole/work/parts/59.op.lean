/-! acts about histories -/
noncomputable def aboutN (S : Nat → Nat) (k : Nat) : Nat := if k = 0 then S 0 else if k = 1 then cnt S else if k = 2 then repN S else if k = 3 then conN S else if k = 4 then trN S else allN S
theorem eq6 {x : Int32} : (isT 6 x = false ∧ ¬ x = 0 ∧ ¬ x = 1 ∧ ¬ x = 2 ∧ ¬ x = 3 ∧ ¬ x = 4 ∧ ¬ x = 5) ∨ (isT 6 x = true ∧ (x = 0 ∨ x = 1 ∨ x = 2 ∨ x = 3 ∨ x = 4 ∨ x = 5)) := by
  cases h : isT 6 x with
  | true =>
    obtain ⟨k, hk, rfl⟩ := isT_ex (by omega) h
    refine Or.inr ⟨rfl, ?_⟩
    rcases (show k = 0 ∨ k = 1 ∨ k = 2 ∨ k = 3 ∨ k = 4 ∨ k = 5 by omega) with rfl | rfl | rfl | rfl | rfl | rfl <;> decide
  | false =>
    have : ∀ k, k < 6 → ¬ x = nI k := fun k hk e => by
      rw [e, isT_in (by omega) hk] at h; exact nomatch h
    exact Or.inl ⟨rfl, this 0 (by omega), this 1 (by omega), this 2 (by omega), this 3 (by omega), this 4 (by omega), this 5 (by omega)⟩
theorem l_about {C : Nat → Int32} {S : Nat → Nat} {a : Nat → Int64} {b : BH} (hC : AgC C S) (ok : OK S) {x : Int32} {post : Int32 → BH → (Nat → Int64) → Prop} (h1 : isT 6 x = false → post 1 b a) (h0 : ∀ k, k < 6 → x = nI k → ∀ b', post 0 b' (outA a (nI (aboutN S k)))) : P_L_about 1 C b a x post := by
  unfold P_L_about P_X5_about
  refine ⟨fun e => s1_townCount hC ⟨in01, h0 0 (by omega) e _⟩, fun e => s1_roadCount hC ok ⟨in01, h0 1 (by omega) e _⟩, fun e => s1_reportedPairs hC ok ⟨in01, h0 2 (by omega) e _⟩, fun e => s1_contradictions hC ok ⟨in01, h0 3 (by omega) e _⟩,
    fun e => c_inventedTraits hC ok (fun b' => ⟨in01, h0 4 (by omega) e _⟩), fun e => c_allInventions hC ok (fun b' => ⟨in01, h0 5 (by omega) e _⟩), fun e0 e1 e2 e3 e4 e5 => ⟨rfl, h1 ?_⟩⟩
  rcases eq6 (x := x) with q | ⟨_, q⟩
  · exact q.1
  · rcases q with q | q | q | q | q | q <;> contradiction
theorem x6_in05 {x : Int32} {post : Int32 → Prop} (h : post (bI (isT 6 x))) : P_X6_in x.toInt64 (0 : Int64) (5 : Int64) post := by
  refine x6_in' (f := isT 6 x) ?_ h
  unfold isT
  rw [show (0 : Int64).toInt = 0 from rfl, show (5 : Int64).toInt = 5 from rfl]
  exact decide_eq_decide.mpr (by omega)
theorem x6_about {o : Int32} {r : Nat → Int32} {S : Nat → Nat} {b : BM} (hM : AgM r S) (ok : OK S) {x : Int32} {post : Int32 → Int32 → BM → Prop} (h1 : isT 6 x = false → post 0 1 b) (h0 : ∀ k, k < 6 → x = nI k → ∀ b', post (nI (aboutN S k)) 0 b') : P_X6_about o b r x post := by
  unfold P_X6_about
  refine x6_in05 (bI_br (fun e => ?_) (fun e => ?_))
  · unfold P_X6_about_b18
    exact x6_no1 (brF f10 (h1 e))
  · obtain ⟨k, hk, rfl⟩ := isT_ex (by omega) e
    have h := h0 k hk rfl
    unfold P_X6_about_b18
    refine x6_ok (brT rfl ?_)
    unfold P_X6_about_b96 P_X6_about_b70 P_X6_about_b96
    rw [m0 hM]
    rcases (show k = 0 ∨ k = 1 ∨ k = 2 ∨ k = 3 ∨ k = 4 ∨ k = 5 by omega) with rfl | rfl | rfl | rfl | rfl | rfl
    · exact brT rfl (h _)
    · exact brF (by decide) (brT rfl (x6_roads hM ok (h _)))
    · exact brF (by decide) (brF (by decide) (brF (by decide) (brF (by decide) (x6_countRep hM ok (h _)))))
    · exact brF (by decide) (brF (by decide) (brF (by decide) (brT rfl (x6_countCon hM ok (h _)))))
    · exact brF (by decide) (brF (by decide) (brT (by decide) (brT rfl (x6_traitsInvented hM ok (fun b' => h b')))))
    · exact brF (by decide) (brF (by decide) (brT (by decide) (brF (by decide) (x6_inventionsInAll hM ok (fun b' => h b')))))
theorem l_inventions {C : Nat → Int32} {S : Nat → Nat} {a : Nat → Int64} {b : BH} (hC : AgC C S) (ok : OK S) {x : Int32} {post : Int32 → BH → (Nat → Int64) → Prop} (h1 : isT 6 x = false → post 1 b a) (h0 : ∀ k, k < 6 → x = nI k → ∀ b', post 0 b' (outA a (feI (FL S k)))) : P_L_inventions 1 C b a x post := by
  unfold P_L_inventions P_X5_inventions
  refine x5_needTrait (fun e => ⟨rfl, h1 e⟩) (fun e => ?_)
  obtain ⟨k, hk, rfl⟩ := isT_ex (by omega) e
  exact c_study hC ok hk (fun b' _ => ⟨in01, h0 k hk rfl b'⟩)
theorem x6_inventions {o : Int32} {r : Nat → Int32} {S : Nat → Nat} {b : BM} (hM : AgM r S) (ok : OK S) {x : Int32} {post : Int32 → Int32 → BM → Prop} (h1 : isT 6 x = false → post 0 1 b) (h0 : ∀ k, k < 6 → x = nI k → ∀ b', post (feI (FL S k)) 0 b') : P_X6_inventions o b r x post := by
  unfold P_X6_inventions P_X6_inventions_b13
  apply x6_isTrait; refine bI_br (fun e => x6_no1 (brF f10 (h1 e))) (fun e => x6_ok (brT rfl ?_))
  obtain ⟨k, hk, rfl⟩ := isT_ex (by omega) e
  exact x6_findLeast hM ok hk (fun w => by rw [BM1]; exact h0 k hk rfl _)
def ivI (q : Option (Nat × Nat × Nat × Nat × Nat)) (kind : Int32) : Int32 := match q with
  | none => -1
  | some (_, o, A, B, _) => if kind = 0 then nI o else if kind = 1 then nI A else nI B
def chI : Option (Nat × Nat × Nat × Nat × Nat) → Int32
  | none => -1
  | some (_, _, _, _, c) => nI c
theorem HS_q {S : Nat → Nat} {x : Nat} {b : BH} (h : HS S x b) : FLr (FL S x) b.2.2.2.1 b.2.2.2.2.1 b.2.2.2.2.2.1 b.2.2.2.2.2.2.1 b.2.2.2.2.2.2.2.1 := by
  obtain ⟨tw, ro, kk, fe, og, al, so, ls, fr, to, ln, ea, la, ye, xp, tg⟩ := b
  exact h.2.2.2.2.2.2.1
theorem isT3 {x : Int32} : (isT 3 x = true ↔ ¬ x < 0 ∧ x ≤ (2 : Int32)) := by
  rw [i_lt, i_le, show (0 : Int32).toInt = 0 from rfl, show (2 : Int32).toInt = 2 from rfl]
  constructor
  · intro h; have := of_decide_eq_true h; omega
  · intro h; exact decide_eq_true (by omega)
theorem l_invented {C : Nat → Int32} {S : Nat → Nat} {a : Nat → Int64} {b : BH} (hC : AgC C S) (ok : OK S) {x y : Int32} {post : Int32 → BH → (Nat → Int64) → Prop} (h1 : (isT 6 x && isT 3 y) = false → post 1 b a) (h0 : isT 3 y = true → ∀ k, k < 6 → x = nI k → ∀ b', post 0 b' (outA a (ivI (FL S k) y))) : P_L_invented 1 C b a x y post := by
  unfold P_L_invented P_X5_invented P_X5_invented_b13 P_X5_invented_b77
  refine x5_needTrait (fun e => ⟨rfl, h1 (by rw [e]; rfl)⟩) (fun e => ?_)
  refine br (fun q => ⟨rfl, h1 ?_⟩) (fun q => br (fun p => ?_) (fun p => ⟨rfl, h1 ?_⟩))
  · cases g : isT 3 y with
    | false => exact Bool.and_false _
    | true => exact absurd q (isT3.mp g).1
  · have h := h0 (isT3.mpr ⟨q, p⟩)
    obtain ⟨k, hk, rfl⟩ := isT_ex (by omega) e
    refine c_study hC ok hk (fun b' hb => ?_)
    have hq := HS_q hb
    have h' := h k hk rfl b'
    refine br (fun z => ?_) (fun z => ?_)
    · rw [feI_m1.mp z] at h'; exact ⟨in01, h'⟩
    · cases hF : FL S k with
      | none => rw [hF] at z; exact absurd rfl z
      | some w =>
        obtain ⟨L, o', A, B, c⟩ := w
        rw [hF] at hq h'
        obtain ⟨q1, q2, q3, q4, q5⟩ := hq
        rw [q2, q3, q4]
        unfold ivI at h'
        dsimp only at h'
        refine br (fun y0 => ⟨in01, ?_⟩) (fun y0 => br (fun y1 => ⟨in01, ?_⟩) (fun y1 => ⟨in01, ?_⟩))
        · rw [if_pos y0] at h'; exact h'
        · rw [if_neg y0, if_pos y1] at h'; exact h'
        · rw [if_neg y0, if_neg y1] at h'; exact h'
  · cases g : isT 3 y with
    | false => exact Bool.and_false _
    | true => exact absurd (isT3.mp g).2 p
theorem x6_in02 {x : Int32} {post : Int32 → Prop} (h : post (bI (isT 3 x))) : P_X6_in x.toInt64 (0 : Int64) (2 : Int64) post := by
  refine x6_in' (f := isT 3 x) ?_ h
  unfold isT
  rw [show (0 : Int64).toInt = 0 from rfl, show (2 : Int64).toInt = 2 from rfl]
  exact decide_eq_decide.mpr (by omega)
theorem x6_invented {o : Int32} {r : Nat → Int32} {S : Nat → Nat} {b : BM} (hM : AgM r S) (ok : OK S) {x y : Int32} {post : Int32 → Int32 → BM → Prop} (h1 : (isT 6 x && isT 3 y) = false → post 0 1 b) (h0 : isT 3 y = true → ∀ k, k < 6 → x = nI k → ∀ b', post (ivI (FL S k) y) 0 b') : P_X6_invented o b r x y post := by
  unfold P_X6_invented P_X6_invented_b24 P_X6_invented_b25 P_X6_invented_b69
  apply x6_isTrait; refine bI_br (fun e => x6_no1 (brF f10 (h1 (by rw [e]; rfl)))) (fun e => x6_in02 (bI_br (fun f => x6_no1 (brF f10 (h1 (by rw [f, Bool.and_false])))) (fun f => x6_ok (brT rfl ?_))))
  obtain ⟨k, hk, rfl⟩ := isT_ex (by omega) e
  refine x6_findLeast hM ok hk (fun w => ?_)
  have h' := h0 f k hk rfl (BMof (FL S k) w)
  cases hF : FL S k with
  | none =>
    rw [hF] at h'
    exact br (fun _ => h') (fun _ => br (fun _ => h') (fun _ => h'))
  | some v =>
    obtain ⟨L, o', A, B, c⟩ := v
    rw [hF] at h'
    unfold ivI at h'
    dsimp only at h'
    refine br (fun y0 => ?_) (fun y0 => br (fun y1 => ?_) (fun y1 => ?_))
    · rw [if_pos y0] at h'; exact h'
    · rw [if_neg y0, if_pos y1] at h'; exact h'
    · rw [if_neg y0, if_neg y1] at h'; exact h'
theorem l_choices {C : Nat → Int32} {S : Nat → Nat} {a : Nat → Int64} {b : BH} (hC : AgC C S) (ok : OK S) {x : Int32} {post : Int32 → BH → (Nat → Int64) → Prop} (h1 : isT 6 x = false → post 1 b a) (h0 : ∀ k, k < 6 → x = nI k → ∀ b', post 0 b' (outA a (chI (FL S k)))) : P_L_choices 1 C b a x post := by
  unfold P_L_choices P_X5_choices P_X5_choices_b31
  refine x5_needTrait (fun e => ⟨rfl, h1 e⟩) (fun e => ?_)
  obtain ⟨k, hk, rfl⟩ := isT_ex (by omega) e
  refine c_study hC ok hk (fun b' hb => ?_)
  have hq := HS_q hb
  have h' := h0 k hk rfl b'
  cases hF : FL S k with
  | none => rw [hF] at h'; exact brT rfl ⟨in01, h'⟩
  | some w =>
    obtain ⟨L, o', A, B, c⟩ := w
    have ne : ¬ feI (FL S k) = -1 := fun z => by rw [feI_m1.mp z] at hF; exact nomatch hF
    rw [hF] at hq h' ne
    rw [hq.2.2.2.2]
    exact brF ne ⟨in01, h'⟩
theorem x6_choices {o : Int32} {r : Nat → Int32} {S : Nat → Nat} {b : BM} (hM : AgM r S) (ok : OK S) {x : Int32} {post : Int32 → Int32 → BM → Prop} (h1 : isT 6 x = false → post 0 1 b) (h0 : ∀ k, k < 6 → x = nI k → ∀ b', post (chI (FL S k)) 0 b') : P_X6_choices o b r x post := by
  unfold P_X6_choices P_X6_choices_b13
  apply x6_isTrait; refine bI_br (fun e => x6_no1 (brF f10 (h1 e))) (fun e => x6_ok (brT rfl ?_))
  obtain ⟨k, hk, rfl⟩ := isT_ex (by omega) e
  refine x6_findLeast hM ok hk (fun w => ?_)
  have h' := h0 k hk rfl (BMof (FL S k) w)
  cases hF : FL S k with
  | none => rw [hF] at h'; exact h'
  | some v => obtain ⟨L, o', A, B, c⟩ := v; rw [hF] at h'; exact h'
