/-! the class's past; the class's plain acts -/
theorem nI_subN {a b : Nat} (h : b ≤ a) : nI a - nI b = nI (a - b) := by
  rw [show nI a = nI (a - b) + nI b by rw [nI_add, Nat.sub_add_cancel h], Int32.add_sub_cancel]
theorem nI_mod {a d : Nat} (ha : a < 2 ^ 31) (h0 : 0 < d) (hd : d < 2 ^ 31) : nI a - nI a / nI d * nI d = nI (a % d) := by
  rw [pk_div ha h0 hd, pk_mul, nI_subN (Nat.div_mul_le_self a d)]
  have := Nat.div_add_mod a d
  rw [Nat.mul_comm] at this
  rw [show a - a / d * d = a % d by omega]
theorem nI_mod14 {a : Nat} (ha : a < 2 ^ 31) : nI a - nI a / (14 : Int32) * (14 : Int32) = nI (a % 14) := nI_mod (d := 14) ha (by omega) (by omega)
def PC (o : Nat) (st : Nat → Nat → Int32) (n : Nat) (PS : Nat → Nat → Nat) : Prop := o < 14 ∧ ∀ j, j < n → AgC (st ((o + j) % 14)) (PS j)
section
variable {C : Nat → Int32} {st : Nat → Nat → Int32} {S : Nat → Nat} {o n : Nat} {PS : Nat → Nat → Nat}
theorem x2_remember (hC : AgC C S) (hn : n ≤ 14) (hP : PC o st n PS) {post : Int32 → Int32 → (Nat → Nat → Int32) → Prop} (h : ∀ o' st', PC o' st' (pushN n) (pushP n PS S) → post (nI o') (nI (pushN n)) st') : P_X2_remember (nI o) (nI n) st C post := by
  obtain ⟨ho, hP⟩ := hP
  unfold P_X2_remember P_X2_remember_b56
  rw [nI_add, nI_mod14 (by omega), show nI o + (1 : Int32) = nI (o + 1) from nI_1 o, nI_mod14 (by omega), nI_clamp (by omega)]
  refine ⟨nI_in (Nat.mod_lt _ (by omega)) (by omega), ?_⟩
  intro j hj
  subst hj
  refine s1_writeTo (fun w hw => ?_)
  have hw' : AgC w S := AgC_eq hC hw
  rw [show (14 : Int32) = nI 14 from rfl, i_leN (by omega) (by omega)]
  refine br (fun q => fae ?_) (fun q => fa1 ?_)
  · have e : n = 14 := by omega
    subst e
    refine h _ _ ⟨Nat.mod_lt _ (by omega), fun j hj => ?_⟩
    rw [show pushN 14 = 14 from rfl] at hj
    show AgC (if ((o + 1) % 14 + j) % 14 = (o + 14) % 14 then w else st (((o + 1) % 14 + j) % 14)) (if j = 13 then S else PS (j + 1))
    by_cases g : j = 13
    · rw [if_pos g, if_pos (by omega)]; exact hw'
    · rw [if_neg g, if_neg (by omega), show ((o + 1) % 14 + j) % 14 = (o + (j + 1)) % 14 by omega]
      exact hP (j + 1) (by omega)
  · have hn' : pushN n = n + 1 := if_neg (by omega)
    rw [hn'] at h
    refine h _ _ ⟨ho, fun j hj => ?_⟩
    unfold pushP
    rw [if_neg (by omega)]
    show AgC (if (o + j) % 14 = (o + n) % 14 then w else st ((o + j) % 14)) (if j = n then S else PS j)
    by_cases g : j = n
    · rw [if_pos g, if_pos (by rw [g])]; exact hw'
    · rw [if_neg g, if_neg (by omega)]; exact hP j (by omega)
theorem x2_takeBack (hn : n ≤ 14) (hP : PC o st n PS) (h0 : 0 < n) {post : Int32 → Int32 → (Nat → Int32) → Prop} (h : ∀ C', AgC C' (PS (n - 1)) → post (nI (n - 1)) (nI (n - 1)) C') : P_X2_takeBack (nI o) (nI n) st C post := by
  obtain ⟨ho, hP⟩ := hP
  unfold P_X2_takeBack P_X2_takeBack_b38
  rw [show nI n - 1 = nI (n - 1) by rw [show n = (n - 1) + 1 by omega, nI_pred]; rfl]
  refine brF (nI_nle h0 (by omega)) (fae ?_)
  rw [nI_add, nI_mod14 (by omega), nI_clamp (by omega)]
  refine ⟨nI_in (Nat.mod_lt _ (by omega)) (by omega), ?_⟩
  intro j hj
  subst hj
  exact s1_readFrom (fun w hw => h w (AgC_eq (hP (n - 1) (by omega)) hw))
theorem x2_isEmpty (hn : n ≤ 14) {post : Int32 → Prop} (h0 : n = 0 → post 1) (h1 : 0 < n → post 0) : P_X2_isEmpty (nI n) post := by
  unfold P_X2_isEmpty P_X2_isEmpty_b12
  exact brE0 (by omega) (fun e => ⟨rfl, h0 e⟩) (fun e => ⟨rfl, h1 e⟩)
theorem x5_needTown (hC : AgC C S) (ok : OK S) {x : Int32} {post : Prop} {px : String → Prop} (h1 : isT (S 0) x = false → px "java/lang/IndexOutOfBoundsException") (h0 : isT (S 0) x = true → post) : P_X5_needTown C x post px := by
  unfold P_X5_needTown
  exact s1_isTown hC ok (bI_br h1 h0)
theorem x5_needTrait {x : Int32} {post : Prop} {px : String → Prop} (h1 : isT 6 x = false → px "java/lang/IllegalArgumentException") (h0 : isT 6 x = true → post) : P_X5_needTrait x post px := by
  unfold P_X5_needTrait
  exact s5_isTrait (bI_br h1 h0)
/-- the answer laid out -/
abbrev outA (a : Nat → Int64) (r : Int32) : Nat → Int64 := vp_updL a (0 : Int32).toNatClampNeg r.toInt64
theorem in01 : vp_in (0 : Int32) 1 := nI_in (c := 0) (by omega) (by omega)
variable {a : Nat → Int64}
theorem l_road (hC : AgC C S) (ok : OK S) {x y : Int32} {post : Int32 → (Nat → Int64) → Prop} (h1 : bothT S x y = false → post 1 a) (h0 : bothT S x y = true → post 0 (outA a (cR (rdX S x y)))) : P_L_road 1 C a x y post := by
  unfold P_L_road P_X5_road
  refine x5_needTown hC ok (fun e => ⟨rfl, h1 (by unfold bothT; rw [e]; rfl)⟩) (fun e => x5_needTown hC ok (fun f => ⟨rfl, h1 (by unfold bothT; rw [f, Bool.and_false])⟩) (fun f => s1_roadLength hC ok ⟨in01, h0 (by unfold bothT; rw [e, f]; rfl)⟩))
theorem l_neighbor (hC : AgC C S) (ok : OK S) {x y : Int32} {post : Int32 → (Nat → Int64) → Prop} (h1 : isT (S 0) x = false → post 1 a) (h2 : isT (S 0) x = true → y < 0 → post 2 a)
    (h0 : isT (S 0) x = true → ∀ k, k < 2 ^ 31 → y = nI k → post 0 (outA a (besI (besF S (NN x) k (S 0))))) : P_L_neighbor 1 C a x y post := by
  have hT := ok.T
  unfold P_L_neighbor P_X5_neighbor
  refine x5_needTown hC ok (fun e => Or.inl ⟨rfl, h1 e⟩) (fun e => ?_)
  unfold P_X5_needCount
  refine br (fun q => ?_) (fun q => Or.inr ⟨rfl, h2 e ?_⟩)
  · obtain ⟨k, hk, rfl⟩ := nI_of (x := y) (by rw [i_lt]; rw [i_le] at q; omega)
    have h := h0 e k hk rfl
    obtain ⟨c, hc, rfl⟩ := isT_ex (by omega) e
    rw [NN_nI (by omega)] at h
    exact s1_townBeside hC ok hc hk ⟨in01, h⟩
  · rw [i_lt]; rw [i_le] at q; omega
theorem l_report (hC : AgC C S) (ok : OK S) {x t has : Int32} {post : Int32 → (Nat → Int64) → Prop} (h1 : isT (S 0) x = false → post 1 a) (h2 : isT (S 0) x = true → isT 6 t = false → post 2 a)
    (h0 : isT (S 0) x = true → isT 6 t = true → post 0 (outA a (cY (yrX S x t has)))) : P_L_report 1 C a x t has post := by
  unfold P_L_report P_X5_report
  exact x5_needTown hC ok (fun e => Or.inl ⟨rfl, h1 e⟩) (fun e => x5_needTrait (fun f => Or.inr ⟨rfl, h2 e f⟩) (fun f => s1_reportedYear hC ok ⟨in01, h0 e f⟩))
theorem l_found (hC : AgC C S) (ok : OK S) (hn : n ≤ 14) (hP : PC o st n PS) {post : Int32 → (Nat → Int32) → Int32 → Int32 → (Nat → Nat → Int32) → (Nat → Int64) → Prop} (h1 : S 0 = 10 → post 1 C (nI o) (nI n) st a)
    (h0 : S 0 < 10 → ∀ C' o' st', AgC C' (townS S) → PC o' st' (pushN n) (pushP n PS S) → post 0 C' (nI o') (nI (pushN n)) st' (outA a (nI (S 0)))) : P_L_found 1 C (nI o) (nI n) st a post := by
  have hT := ok.T
  unfold P_L_found P_X5_found
  refine s1_townCount hC ?_
  rw [show (10 : Int32) = nI 10 from rfl, i_ltN (by omega) (by omega)]
  exact br (fun q => x2_remember hC hn hP (fun o' st' hp => s1_addTown hC ok (fun e => absurd e (by omega)) (fun _ C' hC' => ⟨in01, h0 q C' o' st' hC' hp⟩))) (fun q => ⟨rfl, h1 (by omega)⟩)
theorem l_lay (hC : AgC C S) (ok : OK S) (hn : n ≤ 14) (hP : PC o st n PS) {x y len : Int32} {post : Int32 → (Nat → Int32) → Int32 → Int32 → (Nat → Nat → Int32) → (Nat → Int64) → Prop} (h1 : ¬ whyL S x y len = 0 → post (whyL S x y len) C (nI o) (nI n) st a)
    (h0 : canJ S x y len = true → ∀ C' o' st', AgC C' (joinS S x y len) → PC o' st' (pushN n) (pushP n PS S) → post 0 C' (nI o') (nI (pushN n)) st' (outA a (nI (cnt (joinS S x y len))))) : P_L_lay 1 C (nI o) (nI n) st a x y len post := by
  unfold P_L_lay P_X5_lay P_X5_needPossibleRoad P_X5_needPossibleRoad_b22
  have w1 : ¬ (isT (S 0) x = true ∧ isT (S 0) y = true) → post 1 C (nI o) (nI n) st a := fun z => by
    have e : whyL S x y len = 1 := if_neg z
    rw [e] at h1; exact h1 (by decide)
  refine x5_needTown hC ok (fun e => Or.inl ⟨rfl, w1 (fun q => by rw [e] at q; exact nomatch q.1)⟩) (fun e => x5_needTown hC ok (fun f => Or.inl ⟨rfl, w1 (fun q => by rw [f] at q; exact nomatch q.2)⟩) (fun f => ?_))
  have w2 : (x = y ∨ isLen len = false) → post 2 C (nI o) (nI n) st a := fun z => by
    have e : whyL S x y len = 2 := by unfold whyL; rw [if_pos ⟨e, f⟩, if_pos z]
    rw [e] at h1; exact h1 (by decide)
  refine br (fun g => Or.inr (Or.inl ⟨rfl, w2 (Or.inl g)⟩)) (fun g => s5_isLength (bI_br (fun k => Or.inr (Or.inl ⟨rfl, w2 (Or.inr k)⟩)) (fun k => s1_canJoin hC ok (bI_br (fun z => Or.inr (Or.inr ⟨rfl, ?_⟩)) (fun z => x2_remember hC hn hP (fun o' st' hp => s1_join hC ok (fun e => by rw [e] at z; exact nomatch z) (fun _ C' hC' => s1_roadCount hC' (OK_joinS ok z) ⟨in01, h0 z C' o' st' hC' hp⟩)))))))
  have e : whyL S x y len = 3 := by unfold whyL; rw [if_pos ⟨e, f⟩, if_neg (fun w => w.elim g (fun w => by rw [w] at k; exact nomatch k)), if_neg (by rw [z]; decide)]
  rw [e] at h1; exact h1 (by decide)
theorem l_tear (hC : AgC C S) (ok : OK S) (hn : n ≤ 14) (hP : PC o st n PS) {x y : Int32} {post : Int32 → (Nat → Int32) → Int32 → Int32 → (Nat → Nat → Int32) → (Nat → Int64) → Prop} (h1 : bothT S x y = false → post 1 C (nI o) (nI n) st a) (h2 : bothT S x y = true → rdX S x y = 0 → post 2 C (nI o) (nI n) st a)
    (h0 : 0 < rdX S x y → ∀ C' o' st', AgC C' (cutS S x y) → PC o' st' (pushN n) (pushP n PS S) → post 0 C' (nI o') (nI (pushN n)) st' (outA a (cR (rdX S x y)))) : P_L_tear 1 C (nI o) (nI n) st a x y post := by
  have r9 := rdX_99 ok x y
  unfold P_L_tear P_X5_tear
  exact x5_needTown hC ok (fun e => Or.inl ⟨rfl, h1 (by unfold bothT; rw [e]; rfl)⟩) (fun e => x5_needTown hC ok (fun f => Or.inl ⟨rfl, h1 (by unfold bothT; rw [f, Bool.and_false])⟩) (fun f => s1_roadLength hC ok (brR (by omega)
    (fun z => Or.inr ⟨rfl, h2 (by unfold bothT; rw [e, f]; rfl) z⟩) (fun z => x2_remember hC hn hP (fun o' st' hp => s1_cut hC ok (fun C' hC' => ⟨in01, h0 z C' o' st' hC' hp⟩))))))
theorem l_see (hC : AgC C S) (ok : OK S) (hn : n ≤ 14) (hP : PC o st n PS) {x t y has : Int32} {post : Int32 → (Nat → Int32) → Int32 → Int32 → (Nat → Nat → Int32) → (Nat → Int64) → Prop} (h1 : isT (S 0) x = false → post 1 C (nI o) (nI n) st a) (h2 : isT (S 0) x = true → isNote S x t y = false → post 2 C (nI o) (nI n) st a)
    (h0 : isNote S x t y = true → ∀ C' o' st', AgC C' (noteS S (NN x) (NN t) (NN y) has) → PC o' st' (pushN n) (pushP n PS S) → post 0 C' (nI o') (nI (pushN n)) st' (outA a (bI (noteN S (NN x) (NN t) (NN y) has)))) : P_L_see 1 C (nI o) (nI n) st a x t y has post := by
  unfold P_L_see P_X5_see
  exact x5_needTown hC ok (fun e => Or.inl ⟨rfl, h1 e⟩) (fun e => x5_needTrait (fun f => Or.inr ⟨rfl, h2 e (decide_eq_false fun q => by rw [f] at q; exact nomatch q.2.1)⟩) (fun f => s5_isYear (bI_br
    (fun g => Or.inr ⟨rfl, h2 e (decide_eq_false fun q => by rw [g] at q; exact nomatch q.2.2)⟩)
    (fun g => x2_remember hC hn hP (fun o' st' hp => s1_note hC ok (fun z => (of_decide_eq_false z ⟨e, f, g⟩).elim) (fun z C' hC' => ⟨in01, h0 z C' o' st' hC' hp⟩))))))
theorem l_forget (hC : AgC C S) (ok : OK S) (hn : n ≤ 14) (hP : PC o st n PS) {x t : Int32} {post : Int32 → (Nat → Int32) → Int32 → Int32 → (Nat → Nat → Int32) → (Nat → Int64) → Prop} (h1 : isT (S 0) x = false → post 1 C (nI o) (nI n) st a) (h2 : isT (S 0) x = true → isT 6 t = false → post 2 C (nI o) (nI n) st a)
    (h0 : isPair S x t = true → ∀ C' o' st', AgC C' (dropS S (NN x) (NN t)) → PC o' st' (pushN n) (pushP n PS S) → post 0 C' (nI o') (nI (pushN n)) st' (outA a (bI (repd S (NN x) (NN t))))) : P_L_forget 1 C (nI o) (nI n) st a x t post := by
  unfold P_L_forget P_X5_forget
  exact x5_needTown hC ok (fun e => Or.inl ⟨rfl, h1 e⟩) (fun e => x5_needTrait (fun f => Or.inr ⟨rfl, h2 e f⟩) (fun f => x2_remember hC hn hP (fun o' st' hp => s1_drop hC ok (fun z => (of_decide_eq_false z ⟨e, f⟩).elim) (fun z C' hC' => ⟨in01, h0 z C' o' st' hC' hp⟩))))
theorem l_undo (hC : AgC C S) (hn : n ≤ 14) (hP : PC o st n PS) {post : Int32 → (Nat → Int32) → Int32 → (Nat → Int64) → Prop} (h1 : n = 0 → post 1 C (nI n) a)
    (h0 : 0 < n → ∀ C', AgC C' (PS (n - 1)) → post 0 C' (nI (n - 1)) (outA a (nI (n - 1)))) : P_L_undo 1 C (nI o) (nI n) st a post := by
  unfold P_L_undo P_X5_undo
  exact x2_isEmpty hn (fun e => brF f10 ⟨rfl, h1 e⟩) (fun e => brT rfl (x2_takeBack hn hP e (fun C' hC' => ⟨in01, h0 e C' hC'⟩)))
end
