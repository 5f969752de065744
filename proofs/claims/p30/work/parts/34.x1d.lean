/-! the class's land: dropping a report, a new town, copies, a land's beginning -/
def dropS (S : Nat → Nat) (a t : Nat) : Nat → Nat := setS (setS S (101 + 6 * a + t) 0) (161 + 6 * a + t) 0
theorem OK_dropS {S : Nat → Nat} (ok : OK S) {a t : Nat} (ha : a < 10) (ht : t < 6) : OK (dropS S a t) := by
  have lo : ∀ k, k < 101 → dropS S a t k = S k := fun k h => by unfold dropS; rw [setS_ne (by omega), setS_ne (by omega)]
  have lr : ∀ c d, c < 10 → d < 10 → rd (dropS S a t) c d = rd S c d := fun c d h1 h2 => lo _ (by omega)
  have dg : ∀ c, c < 10 → deg (dropS S a t) c = deg S c := fun c h1 => sumTo_congr (fun d h2 => by show b1 _ = b1 _; rw [lr c d h1 h2])
  have ct : cnt (dropS S a t) = cnt S := sumTo_congr (fun c h1 => sumTo_congr (fun d h2 => by show b1 _ = b1 _; rw [lr c d h1 h2]))
  have le : ∀ k, dropS S a t k = S k ∨ dropS S a t k = 0 := fun k => by
    unfold dropS setS
    split
    · right; rfl
    · split
      · right; rfl
      · left; rfl
  refine ⟨by rw [lo 0 (by omega)]; exact ok.T, fun c d hc hd => by rw [lr c d hc hd, lr d c hd hc]; exact ok.sym hc hd, fun c d hc hd => by rw [lr c d hc hd]; exact ok.r99 hc hd, fun c d hc hd hs => ?_, fun c hc => by rw [lr c c hc hc]; exact ok.diag hc, fun u x hu hx => ?_, fun u x hu hx hs => ?_, fun c hc => by rw [dg c hc]; exact ok.deg3 hc, by rw [ct]; exact ok.cnt15⟩
  · rw [lo 0 (by omega)] at hs; rw [lr c d hc hd]; exact ok.rz hc hd hs
  · have : S (101 + 6 * u + x) ≤ 1000 ∧ S (161 + 6 * u + x) ≤ 1000 := ok.2.2.2.2.2.1 u x hu hx
    have l1 := le (101 + 6 * u + x)
    have l2 := le (161 + 6 * u + x)
    show dropS S a t _ ≤ 1000 ∧ dropS S a t _ ≤ 1000
    constructor <;> omega
  · rw [lo 0 (by omega)] at hs
    have : S (101 + 6 * u + x) = 0 ∧ S (161 + 6 * u + x) = 0 := ok.hz hu hx hs
    have l1 := le (101 + 6 * u + x)
    have l2 := le (161 + 6 * u + x)
    show dropS S a t _ = 0 ∧ dropS S a t _ = 0
    constructor <;> omega
theorem AgC_drop {C : Nat → Int32} {S : Nat → Nat} (hC : AgC C S) {a t : Nat} (ha : a < 10) (ht : t < 6) : AgC (upd (upd C (101 + 6 * a + t) (-1)) (161 + 6 * a + t) (-1)) (dropS S a t) :=
  AgC_upd (AgC_upd hC (by rw [if_neg (by omega), if_neg (by omega)]; rfl)) (by rw [if_neg (by omega), if_neg (by omega)]; rfl)
def isPair (S : Nat → Nat) (x t : Int32) : Bool := decide (isT (S 0) x = true ∧ isT 6 t = true)
theorem s1_drop {C : Nat → Int32} {S : Nat → Nat} (hC : AgC C S) (ok : OK S) {x t : Int32} {post : Int32 → (Nat → Int32) → Prop} (h0 : isPair S x t = false → post (-1) C)
    (h1 : isPair S x t = true → ∀ C', AgC C' (dropS S (NN x) (NN t)) → post (bI (repd S (NN x) (NN t))) C') : P_X1_drop C x t post := by
  have hT := ok.T
  unfold P_X1_drop P_X1_drop_b15 P_X1_drop_b64
  apply s1_isTown hC ok; refine bI_br (fun e => h0 (decide_eq_false fun q => by rw [e] at q; exact nomatch q.1)) (fun e => ?_)
  apply s5_isTrait; refine bI_br (fun f => h0 (decide_eq_false fun q => by rw [f] at q; exact nomatch q.2)) (fun f => ?_)
  have h := h1 (decide_eq_true ⟨e, f⟩)
  obtain ⟨a, ha, rfl⟩ := isT_ex (by omega) e
  obtain ⟨b, hb, rfl⟩ := isT_ex (by omega) f
  rw [NN_nI (by omega), NN_nI (by omega)] at h
  obtain ⟨e1, e2⟩ := ixh (a := a) (b := b) (by omega) (by omega)
  obtain ⟨e3, e4⟩ := ixn (a := a) (b := b) (by omega) (by omega)
  apply s1_isReported hC ok
  rw [show repX S (nI a) (nI b) = repd S a b by unfold repX; rw [yrX_h ha hb hT, yrX_n ha hb hT]; rfl]
  refine ⟨e2, e4, ?_⟩
  rw [e1, e3]
  have h' := h _ (AgC_drop hC (by omega) hb)
  refine bI_br (fun z => ?_) (fun z => ?_)
  · rw [z] at h'; exact h'
  · rw [z] at h'; exact h'
def townS (S : Nat → Nat) : Nat → Nat := setS S 0 (S 0 + 1)
theorem OK_townS {S : Nat → Nat} (ok : OK S) (h : S 0 < 10) : OK (townS S) := by
  have hi : ∀ k, 0 < k → townS S k = S k := fun k hk => setS_ne (by omega)
  have lr : ∀ c d, rd (townS S) c d = rd S c d := fun c d => hi _ (by omega)
  have dg : ∀ c, deg (townS S) c = deg S c := fun c => sumTo_congr (fun d h2 => by show b1 _ = b1 _; rw [lr c d])
  have ct : cnt (townS S) = cnt S := sumTo_congr (fun c h1 => sumTo_congr (fun d h2 => by show b1 _ = b1 _; rw [lr c d]))
  have e0 : townS S 0 = S 0 + 1 := setS_eq
  refine ⟨by rw [e0]; omega, fun c d hc hd => by rw [lr c d, lr d c]; exact ok.sym hc hd, fun c d hc hd => by rw [lr c d]; exact ok.r99 hc hd, fun c d hc hd hs => ?_, fun c hc => by rw [lr c c]; exact ok.diag hc, fun u x hu hx => ?_, fun u x hu hx hs => ?_, fun c hc => by rw [dg c]; exact ok.deg3 hc, by rw [ct]; exact ok.cnt15⟩
  · rw [lr c d]; exact ok.rz hc hd (by omega)
  · show townS S _ ≤ 1000 ∧ townS S _ ≤ 1000
    rw [hi _ (by omega), hi _ (by omega)]; exact ok.2.2.2.2.2.1 u x hu hx
  · show townS S _ = 0 ∧ townS S _ = 0
    rw [hi _ (by omega), hi _ (by omega)]; exact ok.hz hu hx (by omega)
theorem s1_addTown {C : Nat → Int32} {S : Nat → Nat} (hC : AgC C S) (ok : OK S) {post : Int32 → (Nat → Int32) → Prop} (h0 : S 0 = 10 → post (-1) C) (h1 : S 0 < 10 → ∀ C', AgC C' (townS S) → post (nI (S 0)) C') : P_X1_addTown C post := by
  have hT := ok.T
  unfold P_X1_addTown
  refine fae ?_
  rw [c0 hC]
  refine br (fun q => ?_) (fun q => h0 ?_)
  · rw [show (10 : Int32) = nI 10 from rfl, nI_ltI (by omega) (by omega)] at q
    refine h1 q _ ?_
    rw [nI_p1]
    exact AgC_upd (k := 0) hC (if_pos rfl).symm
  · rw [show (10 : Int32) = nI 10 from rfl, nI_ltI (by omega) (by omega)] at q; omega
theorem s1_townCount {C : Nat → Int32} {S : Nat → Nat} (hC : AgC C S) {post : Int32 → Prop} (h : post (nI (S 0))) : P_X1_townCount C post := by
  unfold P_X1_townCount; rw [c0 hC]; exact h
theorem cpy221 {f g : Nat → Int32} {k : Nat} (hk : k < 221) : va_cpy f g (0 : Int32).toNatClampNeg (0 : Int32).toNatClampNeg (221 : Int32).toNatClampNeg k = f k := by
  rw [pk_cpy_in (show (0 : Int32).toNatClampNeg ≤ k from Nat.zero_le _) (by show k < 0 + 221; omega)]
  show f (0 + (k - 0)) = f k
  rw [Nat.zero_add]; rfl
theorem s1_writeTo {C v : Nat → Int32} {post : (Nat → Int32) → Prop} (h : ∀ w, (∀ k, k < 221 → w k = C k) → post w) : P_X1_writeTo 221 C v post := by
  unfold P_X1_writeTo P_X1_writeTo_b21
  exact brT rfl ⟨by decide, h _ (fun k hk => cpy221 hk)⟩
theorem s1_readFrom {C v : Nat → Int32} {post : (Nat → Int32) → Prop} (h : ∀ w, (∀ k, k < 221 → w k = v k) → post w) : P_X1_readFrom 221 C v post := by
  unfold P_X1_readFrom P_X1_readFrom_b21
  exact brT rfl ⟨by decide, h _ (fun k hk => cpy221 hk)⟩
theorem s1_takeOver {C v : Nat → Int32} {post : (Nat → Int32) → Prop} (h : ∀ w, (∀ k, k < 221 → w k = v k) → post w) : P_X1_takeOver C v post := by
  unfold P_X1_takeOver
  exact s1_writeTo h
theorem AgC_eq {C D : Nat → Int32} {S : Nat → Nat} (hC : AgC C S) (h : ∀ k, k < 221 → D k = C k) : AgC D S := fun k hk => by rw [h k hk]; exact hC k hk
theorem j7_fill {n : Nat} {v : Nat → Int32} {x : Int32} (hn : n < 2 ^ 31) {post : (Nat → Int32) → Prop} (h : ∀ w, (∀ k, k < n → w k = x) → (∀ k, n ≤ k → w k = v k) → post w) : P_J7_fill_53178 n v x post := by
  unfold P_J7_fill_53178
  refine fae ?_
  let W : Nat → Nat → Int32 := fun i k => if k < i then x else v k
  have key := forN (fun m i => P_J7_fill_53178_l5 n v x post m (W i) (nI i) (nI n)) n ?_ ?_ 0 (Nat.zero_le _)
  · obtain ⟨m, hm⟩ := key
    rw [show W 0 = v from funext fun k => if_neg (Nat.not_lt_zero k)] at hm
    exact ⟨m, hm⟩
  · intro m
    show P_J7_fill_53178_b5 _ _ _ _ _ _ _ _
    unfold P_J7_fill_53178_b5
    exact brT (nI_le (Nat.le_refl _) hn) (h _ (fun k hk => if_pos hk) (fun k hk => if_neg (by omega)))
  · intro m i hi hv
    show P_J7_fill_53178_b5 _ _ _ _ _ _ _ _
    unfold P_J7_fill_53178_b5
    refine brF (nI_ge hi hn) ⟨nI_in hi hn, fa1 ?_⟩
    rw [nI_clamp (by omega), show upd (W i) i x = W (i + 1) from funext fun k => by
      show (if k = i then x else if k < i then x else v k) = if k < i + 1 then x else v k
      by_cases e : k = i
      · rw [if_pos e, if_pos (by omega)]
      · by_cases g : k < i
        · rw [if_neg e, if_pos g, if_pos (by omega)]
        · rw [if_neg e, if_neg g, if_neg (by omega)]]
    exact hv
def S0 : Nat → Nat := fun _ => 0
theorem OK_S0 : OK S0 := by
  refine ⟨by decide, fun _ _ _ _ => rfl, fun _ _ _ _ => Nat.zero_le _, fun _ _ _ _ _ => rfl, fun _ _ => rfl, fun _ _ _ _ => ⟨Nat.zero_le _, Nat.zero_le _⟩, fun _ _ _ _ _ => ⟨rfl, rfl⟩, fun _ _ => ?_, ?_⟩
  · exact Nat.le_trans (Nat.le_of_eq (sumTo_0 (fun _ _ => rfl))) (Nat.zero_le _)
  · exact Nat.le_trans (Nat.le_of_eq (sumTo_0 (fun a _ => sumTo_0 (fun b _ => by show b1 (decide (a < b) && false) = 0; rw [Bool.and_false]; rfl)))) (Nat.zero_le _)
theorem s1_init {post : (Nat → Int32) → Prop} (h : ∀ C, AgC C S0 → post C) : P_X1_init post := by
  unfold P_X1_init
  refine j7_fill (by decide) (fun w hw _ => h _ (fun k hk => ?_))
  show (if k = 0 then (0 : Int32) else w k) = cC S0 k
  unfold cC
  by_cases e : k = 0
  · rw [if_pos e, if_pos e]; rfl
  · rw [if_neg e, if_neg e, hw k hk]
    by_cases g : k ≤ 100
    · rw [if_pos g]; rfl
    · rw [if_neg g]; rfl
