/-! the law's calls, one by one: what the class answers, what it throws -/
abbrev vI : Int32 := (-9999001 : Int32)
abbrev vA : Int32 := (-9999002 : Int32)
abbrev vS : Int32 := (-9999003 : Int32)
section
variable {C : Nat → Int32} {st : Nat → Nat → Int32} {S : Nat → Nat} {o n : Nat} {PS : Nat → Nat → Nat}
theorem t_road (hC : AgC C S) (ok : OK S) {x y : Int32} {post : Int32 → Prop} (h1 : bothT S x y = false → post vI) (h0 : bothT S x y = true → post (cR (rdX S x y))) : P_L_tryRoad C x y post := by
  unfold P_L_tryRoad P_X5_road
  refine x5_needTown hC ok (fun e => ⟨rfl, h1 (by unfold bothT; rw [e]; rfl)⟩) (fun e => x5_needTown hC ok (fun f => ⟨rfl, h1 (by unfold bothT; rw [f, Bool.and_false])⟩) (fun f => s1_roadLength hC ok (h0 (by unfold bothT; rw [e, f]; rfl))))
theorem t_neighbor (hC : AgC C S) (ok : OK S) {x y : Int32} {post : Int32 → Prop} (h1 : isT (S 0) x = false → post vI) (h2 : isT (S 0) x = true → y < 0 → post vA)
    (h0 : isT (S 0) x = true → ∀ k, k < 2 ^ 31 → y = nI k → post (besI (besF S (NN x) k (S 0)))) : P_L_tryNeighbor C x y post := by
  have hT := ok.T
  unfold P_L_tryNeighbor P_X5_neighbor
  refine x5_needTown hC ok (fun e => Or.inl ⟨rfl, h1 e⟩) (fun e => ?_)
  unfold P_X5_needCount
  refine br (fun q => ?_) (fun q => Or.inr ⟨rfl, h2 e ?_⟩)
  · obtain ⟨k, hk, rfl⟩ := nI_of (x := y) (by rw [i_lt]; rw [i_le] at q; omega)
    have h := h0 e k hk rfl
    obtain ⟨c, hc, rfl⟩ := isT_ex (by omega) e
    rw [NN_nI (by omega)] at h
    exact s1_townBeside hC ok hc hk h
  · rw [i_lt]; rw [i_le] at q; omega
theorem t_report (hC : AgC C S) (ok : OK S) {x t has : Int32} {post : Int32 → Prop} (h1 : isT (S 0) x = false → post vI) (h2 : isT (S 0) x = true → isT 6 t = false → post vA)
    (h0 : isT (S 0) x = true → isT 6 t = true → post (cY (yrX S x t has))) : P_L_tryReport C x t has post := by
  unfold P_L_tryReport P_X5_report
  exact x5_needTown hC ok (fun e => Or.inl ⟨rfl, h1 e⟩) (fun e => x5_needTrait (fun f => Or.inr ⟨rfl, h2 e f⟩) (fun f => s1_reportedYear hC ok (h0 e f)))
theorem t_found (hC : AgC C S) (ok : OK S) (hn : n ≤ 14) (hP : PC o st n PS) {post : Int32 → (Nat → Int32) → Int32 → Int32 → (Nat → Nat → Int32) → Prop} (h1 : S 0 = 10 → post vS C (nI o) (nI n) st)
    (h0 : S 0 < 10 → ∀ C' o' st', AgC C' (townS S) → PC o' st' (pushN n) (pushP n PS S) → post (nI (S 0)) C' (nI o') (nI (pushN n)) st') : P_L_tryFound C (nI o) (nI n) st post := by
  have hT := ok.T
  unfold P_L_tryFound P_X5_found
  refine s1_townCount hC ?_
  rw [show (10 : Int32) = nI 10 from rfl, i_ltN (by omega) (by omega)]
  exact br (fun q => x2_remember hC hn hP (fun o' st' hp => s1_addTown hC ok (fun e => absurd e (by omega)) (fun _ C' hC' => h0 q C' o' st' hC' hp))) (fun q => ⟨rfl, h1 (by omega)⟩)
theorem tt_lay (hC : AgC C S) (ok : OK S) (hn : n ≤ 14) (hP : PC o st n PS) {x y len : Int32} {post : Int32 → (Nat → Int32) → Int32 → Int32 → (Nat → Nat → Int32) → Prop}
    (h1 : ¬ (isT (S 0) x = true ∧ isT (S 0) y = true) → post vI C (nI o) (nI n) st) (h2 : isT (S 0) x = true → isT (S 0) y = true → (x = y ∨ isLen len = false) → post vA C (nI o) (nI n) st) (h3 : isT (S 0) x = true → isT (S 0) y = true → x ≠ y → isLen len = true → canJ S x y len = false → post vS C (nI o) (nI n) st)
    (h0 : canJ S x y len = true → ∀ C' o' st', AgC C' (joinS S x y len) → PC o' st' (pushN n) (pushP n PS S) → post (nI (cnt (joinS S x y len))) C' (nI o') (nI (pushN n)) st') : P_L_tryLay C (nI o) (nI n) st x y len post := by
  unfold P_L_tryLay P_X5_lay P_X5_needPossibleRoad P_X5_needPossibleRoad_b22
  refine x5_needTown hC ok (fun e => Or.inl ⟨rfl, h1 (fun q => by rw [e] at q; exact nomatch q.1)⟩) (fun e => x5_needTown hC ok (fun f => Or.inl ⟨rfl, h1 (fun q => by rw [f] at q; exact nomatch q.2)⟩) (fun f => ?_))
  exact br (fun g => Or.inr (Or.inl ⟨rfl, h2 e f (Or.inl g)⟩)) (fun g => s5_isLength (bI_br (fun k => Or.inr (Or.inl ⟨rfl, h2 e f (Or.inr k)⟩)) (fun k => s1_canJoin hC ok (bI_br (fun z => Or.inr (Or.inr ⟨rfl, h3 e f g k z⟩)) (fun z => x2_remember hC hn hP (fun o' st' hp => s1_join hC ok (fun e => by rw [e] at z; exact nomatch z) (fun _ C' hC' => s1_roadCount hC' (OK_joinS ok z) (h0 z C' o' st' hC' hp))))))))
theorem t_tear (hC : AgC C S) (ok : OK S) (hn : n ≤ 14) (hP : PC o st n PS) {x y : Int32} {post : Int32 → (Nat → Int32) → Int32 → Int32 → (Nat → Nat → Int32) → Prop} (h1 : bothT S x y = false → post vI C (nI o) (nI n) st) (h2 : bothT S x y = true → rdX S x y = 0 → post vS C (nI o) (nI n) st)
    (h0 : 0 < rdX S x y → ∀ C' o' st', AgC C' (cutS S x y) → PC o' st' (pushN n) (pushP n PS S) → post (cR (rdX S x y)) C' (nI o') (nI (pushN n)) st') : P_L_tryTear C (nI o) (nI n) st x y post := by
  have r9 := rdX_99 ok x y
  unfold P_L_tryTear P_X5_tear
  exact x5_needTown hC ok (fun e => Or.inl ⟨rfl, h1 (by unfold bothT; rw [e]; rfl)⟩) (fun e => x5_needTown hC ok (fun f => Or.inl ⟨rfl, h1 (by unfold bothT; rw [f, Bool.and_false])⟩) (fun f => s1_roadLength hC ok (brR (by omega)
    (fun z => Or.inr ⟨rfl, h2 (by unfold bothT; rw [e, f]; rfl) z⟩) (fun z => x2_remember hC hn hP (fun o' st' hp => s1_cut hC ok (fun C' hC' => h0 z C' o' st' hC' hp))))))
theorem t_see (hC : AgC C S) (ok : OK S) (hn : n ≤ 14) (hP : PC o st n PS) {x t y has : Int32} {post : Int32 → (Nat → Int32) → Int32 → Int32 → (Nat → Nat → Int32) → Prop} (h1 : isT (S 0) x = false → post vI C (nI o) (nI n) st) (h2 : isT (S 0) x = true → isNote S x t y = false → post vA C (nI o) (nI n) st)
    (h0 : isNote S x t y = true → ∀ C' o' st', AgC C' (noteS S (NN x) (NN t) (NN y) has) → PC o' st' (pushN n) (pushP n PS S) → post (bI (noteN S (NN x) (NN t) (NN y) has)) C' (nI o') (nI (pushN n)) st') : P_L_trySee C (nI o) (nI n) st x t y has post := by
  unfold P_L_trySee P_X5_see
  exact x5_needTown hC ok (fun e => Or.inl ⟨rfl, h1 e⟩) (fun e => x5_needTrait (fun f => Or.inr ⟨rfl, h2 e (decide_eq_false fun q => by rw [f] at q; exact nomatch q.2.1)⟩) (fun f => s5_isYear (bI_br
    (fun g => Or.inr ⟨rfl, h2 e (decide_eq_false fun q => by rw [g] at q; exact nomatch q.2.2)⟩)
    (fun g => x2_remember hC hn hP (fun o' st' hp => s1_note hC ok (fun z => (of_decide_eq_false z ⟨e, f, g⟩).elim) (fun z C' hC' => h0 z C' o' st' hC' hp))))))
theorem t_forget (hC : AgC C S) (ok : OK S) (hn : n ≤ 14) (hP : PC o st n PS) {x t : Int32} {post : Int32 → (Nat → Int32) → Int32 → Int32 → (Nat → Nat → Int32) → Prop} (h1 : isT (S 0) x = false → post vI C (nI o) (nI n) st) (h2 : isT (S 0) x = true → isT 6 t = false → post vA C (nI o) (nI n) st)
    (h0 : isPair S x t = true → ∀ C' o' st', AgC C' (dropS S (NN x) (NN t)) → PC o' st' (pushN n) (pushP n PS S) → post (bI (repd S (NN x) (NN t))) C' (nI o') (nI (pushN n)) st') : P_L_tryForget C (nI o) (nI n) st x t post := by
  unfold P_L_tryForget P_X5_forget
  exact x5_needTown hC ok (fun e => Or.inl ⟨rfl, h1 e⟩) (fun e => x5_needTrait (fun f => Or.inr ⟨rfl, h2 e f⟩) (fun f => x2_remember hC hn hP (fun o' st' hp => s1_drop hC ok (fun z => (of_decide_eq_false z ⟨e, f⟩).elim) (fun z C' hC' => h0 z C' o' st' hC' hp))))
theorem t_undo (hC : AgC C S) (hn : n ≤ 14) (hP : PC o st n PS) {post : Int32 → (Nat → Int32) → Int32 → Prop} (h1 : n = 0 → post vS C (nI n))
    (h0 : 0 < n → ∀ C', AgC C' (PS (n - 1)) → post (nI (n - 1)) C' (nI (n - 1))) : P_L_tryUndo C (nI o) (nI n) st post := by
  unfold P_L_tryUndo P_X5_undo
  exact x2_isEmpty hn (fun e => brF f10 ⟨rfl, h1 e⟩) (fun e => brT rfl (x2_takeBack hn hP e (fun C' hC' => h0 e C' hC')))
theorem t_seeAll {s : Nat → Int32} {tn : Nat} {t : Nat → Nat} (hC : AgC C S) (ok : OK S) (hn : n ≤ 14) (hP : PC o st n PS) (htn : tn ≤ 100) (hX : AgX s tn t) {post : Int32 → (Nat → Int32) → Int32 → Int32 → (Nat → Nat → Int32) → Prop} (h1 : ¬ feR t tn tn 0 = none → post vS C (nI o) (nI n) st)
    (h0 : feR t tn tn 0 = none → ∀ C' o' st', AgC C' (readF t tn (tn + 1) 0 S 0).2.1 → PC o' st' (pushN n) (pushP n PS S) → post (nI (readF t tn (tn + 1) 0 S 0).2.2) C' (nI o') (nI (pushN n)) st') : P_L_trySeeAll C (nI o) (nI n) st (nI tn) s post := by
  unfold P_L_trySeeAll P_X5_seeAll
  have E := readF_fe (t := t) (n := tn) S
  refine x4_firstError htn hX ?_
  cases e : feR t tn tn 0 with
  | none =>
    rw [e] at E
    exact brT rfl (x2_remember hC hn hP (fun o' st' hp => x4_noteIn htn hX hC ok E.symm (fun C' hc => h0 e C' o' st' hc hp)))
  | some q =>
    have ne := awI_n1 htn e
    exact brF ne ⟨rfl, h1 (by rw [e]; exact fun z => nomatch z)⟩
theorem t_append {s : Nat → Int32} {tn : Nat} {t : Nat → Nat} (htn : tn ≤ 100) (hX : AgX s tn t) {x : Int32} {post : Int32 → Int32 → (Nat → Int32) → Prop} (h1 : isSign x = false → post vA (nI tn) s) (h2 : isSign x = true → tn = 100 → post vS (nI tn) s)
    (h0 : isSign x = true → tn < 100 → ∀ s', AgX s' (tn + 1) (setT t tn (NN x)) → post (nI (tn + 1)) (nI (tn + 1)) s') : P_L_tryAppend (nI tn) s x post := by
  unfold P_L_tryAppend P_X5_append P_X5_append_b11
  refine br (fun q => Or.inl ⟨rfl, h1 (decide_eq_false ?_)⟩) (fun q => br (fun p => ?_) (fun p => Or.inl ⟨rfl, h1 (decide_eq_false ?_)⟩))
  · rw [i_lt, show (0 : Int32).toInt = 0 from rfl] at q; omega
  · have e : isSign x = true := decide_eq_true (by rw [i_lt, show (0 : Int32).toInt = 0 from rfl] at q; rw [i_le, show (255 : Int32).toInt = 255 from rfl] at p; omega)
    have h0' := h0 e
    obtain ⟨c, hc, rfl⟩ := isSign_ex e
    rw [NN_nI (by omega)] at h0'
    unfold P_X4_isFull P_X4_isFull_b14 P_X4_add P_X4_add_b30
    rw [show (100 : Int32) = nI 100 from rfl, i_ltN (by omega) (by omega), i_leN (by omega) (by omega), my_nar_char hc, nI_clamp (by omega)]
    refine br (fun z => ⟨rfl, brT rfl (brF (by omega) ⟨nI_in z (by omega), fa1 (h0' z _ (AgX_upd hX hc rfl))⟩)⟩) (fun z => ⟨rfl, brF f10 (Or.inr ⟨rfl, h2 e (by omega)⟩)⟩)
  · rw [i_le, show (255 : Int32).toInt = 255 from rfl] at p; omega
theorem t_about {b : BH} (hC : AgC C S) (ok : OK S) {x : Int32} {post : Int32 → BH → Prop} (h1 : isT 6 x = false → post vA b) (h0 : ∀ k, k < 6 → x = nI k → ∀ b', post (nI (aboutN S k)) b') : P_L_tryAbout C b x post := by
  unfold P_L_tryAbout P_X5_about
  refine ⟨fun e => s1_townCount hC (h0 0 (by omega) e _), fun e => s1_roadCount hC ok (h0 1 (by omega) e _), fun e => s1_reportedPairs hC ok (h0 2 (by omega) e _), fun e => s1_contradictions hC ok (h0 3 (by omega) e _),
    fun e => c_inventedTraits hC ok (fun b' => h0 4 (by omega) e _), fun e => c_allInventions hC ok (fun b' => h0 5 (by omega) e _), fun e0 e1 e2 e3 e4 e5 => ⟨rfl, h1 ?_⟩⟩
  rcases eq6 (x := x) with q | ⟨_, q⟩
  · exact q.1
  · rcases q with q | q | q | q | q | q <;> contradiction
theorem t_inventions {b : BH} (hC : AgC C S) (ok : OK S) {x : Int32} {post : Int32 → BH → Prop} (h1 : isT 6 x = false → post vA b) (h0 : ∀ k, k < 6 → x = nI k → ∀ b', post (feI (FL S k)) b') : P_L_tryInventions C b x post := by
  unfold P_L_tryInventions P_X5_inventions
  refine x5_needTrait (fun e => ⟨rfl, h1 e⟩) (fun e => ?_)
  obtain ⟨k, hk, rfl⟩ := isT_ex (by omega) e
  exact c_study hC ok hk (fun b' _ => h0 k hk rfl b')
theorem t_invented {b : BH} (hC : AgC C S) (ok : OK S) {x y : Int32} {post : Int32 → BH → Prop} (h1 : (isT 6 x && isT 3 y) = false → post vA b) (h0 : isT 3 y = true → ∀ k, k < 6 → x = nI k → ∀ b', post (ivI (FL S k) y) b') : P_L_tryInvented C b x y post := by
  unfold P_L_tryInvented P_X5_invented P_X5_invented_b13 P_X5_invented_b77
  refine x5_needTrait (fun e => ⟨rfl, h1 (by rw [e]; rfl)⟩) (fun e => ?_)
  refine br (fun q => ⟨rfl, h1 ?_⟩) (fun q => br (fun p => ?_) (fun p => ⟨rfl, h1 ?_⟩))
  · cases g : isT 3 y with
    | false => exact Bool.and_false _
    | true => exact absurd q (isT3.mp g).1
  · have h := h0 (isT3.mpr ⟨q, p⟩)
    obtain ⟨k, hk, rfl⟩ := isT_ex (by omega) e
    refine c_study hC ok hk (fun b' hb => ?_)
    have hq := HS_q hb
    have h' := h k hk rfl b'
    refine br (fun z => ?_) (fun z => ?_)
    · rw [feI_m1.mp z] at h'; exact h'
    · cases hF : FL S k with
      | none => rw [hF] at z; exact absurd rfl z
      | some w =>
        obtain ⟨L, o', A, B, c⟩ := w
        rw [hF] at hq h'
        obtain ⟨q1, q2, q3, q4, q5⟩ := hq
        rw [q2, q3, q4]
        unfold ivI at h'
        dsimp only at h'
        refine br (fun y0 => ?_) (fun y0 => br (fun y1 => ?_) (fun y1 => ?_))
        · rw [if_pos y0] at h'; exact h'
        · rw [if_neg y0, if_pos y1] at h'; exact h'
        · rw [if_neg y0, if_neg y1] at h'; exact h'
  · cases g : isT 3 y with
    | false => exact Bool.and_false _
    | true => exact absurd (isT3.mp g).2 p
theorem t_choices {b : BH} (hC : AgC C S) (ok : OK S) {x : Int32} {post : Int32 → BH → Prop} (h1 : isT 6 x = false → post vA b) (h0 : ∀ k, k < 6 → x = nI k → ∀ b', post (chI (FL S k)) b') : P_L_tryChoices C b x post := by
  unfold P_L_tryChoices P_X5_choices P_X5_choices_b31
  refine x5_needTrait (fun e => ⟨rfl, h1 e⟩) (fun e => ?_)
  obtain ⟨k, hk, rfl⟩ := isT_ex (by omega) e
  refine c_study hC ok hk (fun b' hb => ?_)
  have hq := HS_q hb
  have h' := h0 k hk rfl b'
  cases hF : FL S k with
  | none => rw [hF] at h'; exact brT rfl h'
  | some w =>
    obtain ⟨L, o', A, B, c⟩ := w
    have ne : ¬ feI (FL S k) = -1 := fun z => by rw [feI_m1.mp z] at hF; exact nomatch hF
    rw [hF] at hq h' ne
    rw [hq.2.2.2.2]
    exact brF ne h'
theorem t_since {b : BH} (hC : AgC C S) (ok : OK S) {x y : Int32} {post : Int32 → BH → Prop} (h1 : isT (S 0) x = false → post vI b) (h2 : isT (S 0) x = true → isT 6 y = false → post vA b)
    (h0 : isT (S 0) x = true → isT 6 y = true → ∀ b', post (sinceI S (NN x) (NN y)) b') : P_L_trySince C b x y post := by
  have hT := ok.T
  unfold P_L_trySince P_X5_since
  refine x5_needTown hC ok (fun e => Or.inl ⟨rfl, h1 e⟩) (fun e => x5_needTrait (fun f => Or.inr ⟨rfl, h2 e f⟩) (fun f => ?_))
  have h := h0 e f
  obtain ⟨t, ht, rfl⟩ := isT_ex (by omega) e
  obtain ⟨k, hk, rfl⟩ := isT_ex (by omega) f
  rw [NN_nI (by omega), NN_nI (by omega)] at h
  exact c_sinceWhen hC ok ht hk (fun b' => h b')
theorem t_reached {b : BH} (hC : AgC C S) (ok : OK S) {x y : Int32} {post : Int32 → BH → Prop} (h1 : isT 6 x = false ∨ y < 0 → post vA b)
    (h0 : ∀ j k, j < 6 → k < 2 ^ 31 → x = nI j → y = nI k → ∀ b', post (besI (firstF (ordP (S 0) (yrs S j) k) (S 0))) b') : P_L_tryReached C b x y post := by
  unfold P_L_tryReached P_X5_reached
  refine x5_needTrait (fun e => ⟨rfl, h1 (Or.inl e)⟩) (fun e => ?_)
  unfold P_X5_needCount
  refine br (fun q => ?_) (fun q => ⟨rfl, h1 (Or.inr ?_)⟩)
  · obtain ⟨j, hj, rfl⟩ := isT_ex (by omega) e
    obtain ⟨k, hk, rfl⟩ := nI_of (x := y) (by rw [i_lt]; rw [i_le] at q; omega)
    exact c_townInOrder hC ok hj hk (fun b' => h0 j k hj hk rfl rfl b')
  · rw [i_lt]; rw [i_le] at q; omega
theorem t_passed {bh : BH} (hC : AgC C S) (ok : OK S) {x y z : Int32} {post : Int32 → BH → Prop} (h1 : bothT S x y = false → post vI bh) (h2 : bothT S x y = true → isT 6 z = false → post vA bh)
    (h0 : ∀ a b k, a < S 0 → b < S 0 → k < 6 → x = nI a → y = nI b → z = nI k → ∀ b', post (passV S k a b) b') : P_L_tryPassed C bh x y z post := by
  have hT := ok.T
  unfold P_L_tryPassed P_X5_passed P_X5_passed_b36
  refine x5_needTown hC ok (fun e => Or.inl ⟨rfl, h1 (by unfold bothT; rw [e]; rfl)⟩) (fun e => x5_needTown hC ok (fun f => Or.inl ⟨rfl, h1 (by unfold bothT; rw [f, Bool.and_false])⟩) (fun f => x5_needTrait (fun g => Or.inr ⟨rfl, h2 (by unfold bothT; rw [e, f]; rfl) g⟩) (fun g => ?_)))
  obtain ⟨a, ha, rfl⟩ := isT_ex (by omega) e
  obtain ⟨b, hb, rfl⟩ := isT_ex (by omega) f
  obtain ⟨k, hk, rfl⟩ := isT_ex (by omega) g
  refine c_canHavePassed hC ok hk ha hb (fun b' => ?_)
  have h := h0 a b k ha hb hk rfl rfl rfl b'
  rcases passV_01 (S := S) (x := k) (a := a) (b := b) with e | e <;> rw [e] at h ⊢
  · exact brT rfl h
  · exact brF f10 h
theorem t_ifLaid {rc : Nat → Int32} {bh : BH} (hC : AgC C S) (ok : OK S) {x y len : Int32} {post : Int32 → (Nat → Int32) → BH → Prop}
    (h1 : ¬ (isT (S 0) x = true ∧ isT (S 0) y = true) → post vI rc bh) (h2 : isT (S 0) x = true → isT (S 0) y = true → (x = y ∨ isLen len = false) → post vA rc bh) (h3 : isT (S 0) x = true → isT (S 0) y = true → x ≠ y → isLen len = true → canJ S x y len = false → post vS rc bh)
    (h0 : canJ S x y len = true → ∀ m' b', post (nI (allN (joinS S x y len))) m' b') : P_L_tryIfLaid C rc bh x y len post := by
  unfold P_L_tryIfLaid P_X5_ifLaid P_X5_needPossibleRoad P_X5_needPossibleRoad_b22
  refine x5_needTown hC ok (fun e => Or.inl ⟨rfl, h1 (fun q => by rw [e] at q; exact nomatch q.1)⟩) (fun e => x5_needTown hC ok (fun f => Or.inl ⟨rfl, h1 (fun q => by rw [f] at q; exact nomatch q.2)⟩) (fun f => ?_))
  refine br (fun g => Or.inr (Or.inl ⟨rfl, h2 e f (Or.inl g)⟩)) (fun g => s5_isLength (bI_br (fun k => Or.inr (Or.inl ⟨rfl, h2 e f (Or.inr k)⟩)) (fun k => s1_canJoin hC ok (bI_br (fun z => Or.inr (Or.inr ⟨rfl, h3 e f g k z⟩)) (fun z => x3_begin hC (fun m hm => ?_))))))
  unfold P_X3_inventionsWithRoad
  exact s1_join hm ok (fun e => by rw [e] at z; exact nomatch z) (fun _ C' hC' => c_allInventions hC' (OK_joinS ok z) (fun b' => h0 z C' b'))
theorem t_bestRoad {rc : Nat → Int32} {bh : BH} (hC : AgC C S) (ok : OK S) {len : Int32} {post : Int32 → (Nat → Int32) → BH → Prop} (h1 : isLen len = false → post vA rc bh) (h0 : isLen len = true → ∀ m' b', post (brI (brOut S len (S 0))) m' b') : P_L_tryBestRoad C rc bh len post := by
  unfold P_L_tryBestRoad P_X5_bestRoad
  exact s5_isLength (bI_br (fun e => ⟨rfl, h1 e⟩) (fun e => x3_begin hC (fun m hm => c_newRoad hm ok (fun m' b' => h0 e m' b'))))
theorem t_dearest {rc : Nat → Int32} {bh : BH} (hC : AgC C S) (ok : OK S) {post : Int32 → (Nat → Int32) → BH → Prop} (h : ∀ m b', post (besI (deOut S (S 0)).1) m b') : P_X5_dearest C rc bh post := by
  unfold P_X5_dearest
  exact x3_begin hC (fun m hm => c_costliest hm ok (fun m' b' => h m' b'))
theorem t_simulate {rc : Nat → Int32} {bh : BH} (hC : AgC C S) (ok : OK S) {x : Int64} {m : Int32} {post : Int32 → (Nat → Int32) → BH → Prop} (h1 : isLen m = false → post vA rc bh)
    (h0 : isLen m = true → ∀ m' b', post (sumI (simS (NN m) x S)) m' b') : P_L_trySimulate C rc bh x m post := by
  unfold P_L_trySimulate
  exact c_simulate hC ok (fun e => ⟨rfl, h1 e⟩) (fun e m' b' => h0 e m' b')
theorem t_script {rc : Nat → Int32} {bh : BH} (hC : AgC C S) (ok : OK S) {x : Int32} {y : Int64} {post : Int32 → (Nat → Int32) → BH → Prop} (h1 : okR x y = false → post vA rc bh)
    (h0 : okR x y = true → ∀ m' b', post (runI y.toInt.toNat (NN x) (NN x) S) m' b') : P_L_tryScript C rc bh x y post := by
  unfold P_L_tryScript
  exact c_runScript hC ok (fun e => ⟨rfl, h1 e⟩) (fun e m' b' => h0 e m' b')
def SlA (slots : Nat → Nat → Int32) (saved : Nat → Int32) (sl : Nat → Option (Nat → Nat)) : Prop := ∀ j, j < 2 → (saved j = 0 ∧ sl j = none) ∨ ∃ S', saved j = 1 ∧ sl j = some S' ∧ AgC (slots j) S'
theorem t_keep {slots : Nat → Nat → Int32} {saved : Nat → Int32} {sl : Nat → Option (Nat → Nat)} (hC : AgC C S) (hS : SlA slots saved sl) {x : Int32} {post : Int32 → (Nat → Nat → Int32) → (Nat → Int32) → Prop} (h1 : isT 2 x = false → post vI slots saved)
    (h0 : isT 2 x = true → ∀ s' v', SlA s' v' (fun i => if i = NN x then some S else sl i) → post (nI (S 0)) s' v') : P_L_tryKeep C slots saved x post := by
  unfold P_L_tryKeep P_X5_save P_X5_needSlot P_X5_needSlot_b9
  refine isT2 (fun e => ⟨rfl, h1 e⟩) (fun e => ?_)
  have h := h0 e
  obtain ⟨j, hj, rfl⟩ := isT_ex (by omega) e
  rw [NN_nI (by omega)] at h
  rw [nI_clamp (by omega)]
  refine ⟨nI_in hj (by omega), faN ?_⟩
  refine s1_writeTo (fun w hw => ⟨nI_in hj (by omega), s1_townCount hC (h _ _ (fun i hi => ?_))⟩)
  show ((if i = j then vp_nar .boolean (1 : Int32) else saved i) = 0 ∧ (if i = j then some S else sl i) = none) ∨ ∃ S', (if i = j then vp_nar .boolean (1 : Int32) else saved i) = 1 ∧ (if i = j then some S else sl i) = some S' ∧ AgC (if i = j then w else slots i) S'
  rw [vp_nar_b1]
  by_cases g : i = j
  · rw [if_pos g, if_pos g, if_pos g]
    exact Or.inr ⟨S, rfl, rfl, AgC_eq hC hw⟩
  · rw [if_neg g, if_neg g, if_neg g]
    exact hS i hi
theorem t_back {slots : Nat → Nat → Int32} {saved : Nat → Int32} {sl : Nat → Option (Nat → Nat)} {pc : Int32} (hS : SlA slots saved sl) {x : Int32} {post : Int32 → (Nat → Int32) → Int32 → Prop} (h1 : isT 2 x = false → post vI C pc) (h2 : isT 2 x = true → sl (NN x) = none → post vS C pc)
    (h0 : isT 2 x = true → ∀ S' C', sl (NN x) = some S' → AgC C' S' → post (nI (S' 0)) C' 0) : P_L_tryBack C pc slots saved x post := by
  unfold P_L_tryBack P_X5_restore P_X5_needSlot P_X5_needSlot_b9 P_X2_clear
  refine isT2 (fun e => Or.inl ⟨rfl, h1 e⟩) (fun e => ?_)
  have h := h0 e
  have h2' := h2 e
  obtain ⟨j, hj, rfl⟩ := isT_ex (by omega) e
  rw [NN_nI (by omega)] at h h2'
  rw [nI_clamp (by omega)]
  refine ⟨nI_in hj (by omega), ?_⟩
  rcases hS j hj with ⟨z1, z2⟩ | ⟨S', z1, z2, z3⟩
  · exact brT z1 (Or.inr ⟨rfl, h2' z2⟩)
  · refine brF (by rw [z1]; exact f10) ⟨nI_in hj (by omega), faN ?_⟩
    refine s1_readFrom (fun w hw => ?_)
    have hw' := AgC_eq z3 hw
    exact s1_townCount hw' (h S' w z2 hw')
end
