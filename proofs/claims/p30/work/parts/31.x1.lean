/-! the class's land, method by method -/
theorem i_ltN {a b : Nat} (ha : a < 2 ^ 31 := by omega) (hb : b < 2 ^ 31 := by omega) : (nI a < nI b) = (a < b) := propext (nI_ltI ha hb)
theorem i_leN {a b : Nat} (ha : a < 2 ^ 31 := by omega) (hb : b < 2 ^ 31 := by omega) : (nI a ≤ nI b) = (a ≤ b) := propext (nI_leI ha hb)
theorem i_eqN {a b : Nat} (ha : a < 2 ^ 31 := by omega) (hb : b < 2 ^ 31 := by omega) : (nI a = nI b) = (a = b) := propext (nI_eq ha hb)
theorem br {c : Prop} {A B : Prop} (h0 : c → A) (h1 : ¬ c → B) : (c → A) ∧ (¬ (c) → B) := ⟨h0, h1⟩
theorem brT {c : Prop} {A B : Prop} (hc : c) (h : A) : (c → A) ∧ (¬ (c) → B) := ⟨fun _ => h, fun q => absurd hc q⟩
theorem brF {c : Prop} {A B : Prop} (hc : ¬ c) (h : B) : (c → A) ∧ (¬ (c) → B) := ⟨fun q => absurd q hc, fun _ => h⟩
/-- a loop's head `N ≤ i` -/
theorem brLe {i N : Nat} {A B : Prop} (hi : i < 2 ^ 31) (hN : N < 2 ^ 31) (h0 : N ≤ i → A) (h1 : i < N → B) : (nI N ≤ nI i → A) ∧ (¬ (nI N ≤ nI i) → B) := by
  rw [i_leN hN hi]; exact ⟨h0, fun q => h1 (by omega)⟩
theorem brR {n : Nat} {A B : Prop} (hn : n < 2 ^ 31) (h0 : n = 0 → A) (h1 : 0 < n → B) : (cR n = -1 → A) ∧ (¬ (cR n = -1) → B) := by
  rw [cR_m1 hn]; exact ⟨h0, fun q => h1 (by omega)⟩
theorem brY {n : Nat} {A B : Prop} (hn : n < 2 ^ 31) (h0 : n = 0 → A) (h1 : 0 < n → B) : (cY n = -1 → A) ∧ (¬ (cY n = -1) → B) := by
  rw [cY_m1 hn]; exact ⟨h0, fun q => h1 (by omega)⟩
theorem nI_p1 (a : Nat) : nI a + (1 : Int32) = nI (a + 1) := nI_1 a
theorem fa1 {a : Nat} {A : Int32 → Prop} (h : A (nI (a + 1))) : ∀ x : Int32, x = nI a + (1 : Int32) → A x := fun x hx => by rw [hx, nI_p1]; exact h
theorem fae {e : Int32} {A : Int32 → Prop} (h : A e) : ∀ x : Int32, x = e → A x := fun x hx => by rw [hx]; exact h
theorem ixr {a b : Nat} (ha : a < 10) (hb : b < 10) : (((1 : Int32) + (nI a * (10 : Int32))) + nI b).toNatClampNeg = 1 + 10 * a + b ∧ vp_in (((1 : Int32) + (nI a * (10 : Int32))) + nI b) 221 := by
  rw [ix10]; exact ⟨nI_clamp (by omega), nI_in (by omega) (by omega)⟩
theorem ixh {a b : Nat} (ha : a < 10) (hb : b < 6) : (((101 : Int32) + (nI a * (6 : Int32))) + nI b).toNatClampNeg = 101 + 6 * a + b ∧ vp_in (((101 : Int32) + (nI a * (6 : Int32))) + nI b) 221 := by
  rw [ix101]; exact ⟨nI_clamp (by omega), nI_in (by omega) (by omega)⟩
theorem ixn {a b : Nat} (ha : a < 10) (hb : b < 6) : (((161 : Int32) + (nI a * (6 : Int32))) + nI b).toNatClampNeg = 161 + 6 * a + b ∧ vp_in (((161 : Int32) + (nI a * (6 : Int32))) + nI b) 221 := by
  rw [ix161]; exact ⟨nI_clamp (by omega), nI_in (by omega) (by omega)⟩
/-- the road between any two numbers, 0 where there is none -/
def rdX (S : Nat → Nat) (x y : Int32) : Nat := if isT (S 0) x = true ∧ isT (S 0) y = true then rd S (NN x) (NN y) else 0
theorem rdX_n {S : Nat → Nat} {a b : Nat} (ha : a < S 0) (hb : b < S 0) (hT : S 0 ≤ 10) : rdX S (nI a) (nI b) = rd S a b := by
  unfold rdX; rw [if_pos ⟨isT_in (by omega) ha, isT_in (by omega) hb⟩, NN_nI (by omega), NN_nI (by omega)]
theorem rdX_99 {S} (ok : OK S) (x y : Int32) : rdX S x y ≤ 99 := by
  have hT := ok.T
  unfold rdX
  by_cases h : isT (S 0) x = true ∧ isT (S 0) y = true
  · rw [if_pos h]
    obtain ⟨a, ha, rfl⟩ := isT_ex (by omega) h.1
    obtain ⟨b, hb, rfl⟩ := isT_ex (by omega) h.2
    rw [NN_nI (by omega), NN_nI (by omega)]
    exact ok.r99 (by omega) (by omega)
  · rw [if_neg h]; omega
/-- the year a report gives, 0 where there is none -/
def yrX (S : Nat → Nat) (x t : Int32) (has : Int32) : Nat :=
  if isT (S 0) x = true ∧ isT 6 t = true then (if has = 0 then nt S (NN x) (NN t) else hd S (NN x) (NN t)) else 0
theorem yrX_1000 {S} (ok : OK S) (x t has : Int32) : yrX S x t has ≤ 1000 := by
  have hT := ok.T
  unfold yrX
  by_cases h : isT (S 0) x = true ∧ isT 6 t = true
  · rw [if_pos h]
    obtain ⟨a, ha, rfl⟩ := isT_ex (by omega) h.1
    obtain ⟨b, hb, rfl⟩ := isT_ex (by omega) h.2
    rw [NN_nI (by omega), NN_nI (by omega)]
    split
    · exact ok.n1k (by omega) (by omega)
    · exact ok.h1k (by omega) (by omega)
  · rw [if_neg h]; omega
theorem yrX_h {S : Nat → Nat} {a b : Nat} (ha : a < S 0) (hb : b < 6) (hT : S 0 ≤ 10) : yrX S (nI a) (nI b) 1 = hd S a b := by
  unfold yrX; rw [if_pos ⟨isT_in (by omega) ha, isT_in (by omega) hb⟩, NN_nI (by omega), NN_nI (by omega), if_neg (by decide)]
theorem yrX_n {S : Nat → Nat} {a b : Nat} (ha : a < S 0) (hb : b < 6) (hT : S 0 ≤ 10) : yrX S (nI a) (nI b) 0 = nt S a b := by
  unfold yrX; rw [if_pos ⟨isT_in (by omega) ha, isT_in (by omega) hb⟩, NN_nI (by omega), NN_nI (by omega), if_pos rfl]
def repd (S : Nat → Nat) (a t : Nat) : Bool := decide (0 < hd S a t ∨ 0 < nt S a t)
def cond (S : Nat → Nat) (a t : Nat) : Bool := decide (0 < hd S a t ∧ hd S a t ≤ nt S a t)
def repX (S : Nat → Nat) (x t : Int32) : Bool := decide (0 < yrX S x t 1 ∨ 0 < yrX S x t 0)
def repN (S : Nat → Nat) : Nat := sumTo 10 (fun a => sumTo 6 (fun t => b1 (repd S a t)))
def conN (S : Nat → Nat) : Nat := sumTo 10 (fun a => sumTo 6 (fun t => b1 (cond S a t)))
theorem c0 {C : Nat → Int32} {S : Nat → Nat} (hC : AgC C S) : C (0 : Int32).toNatClampNeg = nI (S 0) := hC.towns
theorem s1_roadLength {C : Nat → Int32} {S : Nat → Nat} (hC : AgC C S) (ok : OK S) {x y : Int32} {post : Int32 → Prop} (h : post (cR (rdX S x y))) : P_X1_roadLength C x y post := by
  have hT := ok.T
  unfold P_X1_roadLength P_X1_roadLength_b32 P_X1_roadLength_b33
  apply s1_isTown hC ok; refine bI_br (fun e => ?_) (fun e => ?_)
  · unfold rdX at h; rw [if_neg (by rw [e]; exact fun q => nomatch q.1)] at h; exact h
  apply s1_isTown hC ok; refine bI_br (fun f => ?_) (fun f => ?_)
  · unfold rdX at h; rw [if_neg (by rw [f]; exact fun q => nomatch q.2)] at h; exact h
  obtain ⟨a, ha, rfl⟩ := isT_ex (by omega) e
  obtain ⟨b, hb, rfl⟩ := isT_ex (by omega) f
  obtain ⟨e1, e2⟩ := ixr (a := a) (b := b) (by omega) (by omega)
  rw [rdX_n ha hb hT] at h
  refine ⟨e2, ?_⟩
  rw [e1, hC.crd (by omega) (by omega)]; exact h
theorem s1_roadLengthN {C : Nat → Int32} {S : Nat → Nat} (hC : AgC C S) (ok : OK S) {a b : Nat} (ha : a < S 0) (hb : b < S 0) {post : Int32 → Prop} (h : post (cR (rd S a b))) : P_X1_roadLength C (nI a) (nI b) post :=
  s1_roadLength hC ok (by rw [rdX_n ha hb ok.T]; exact h)
theorem s1_reportedYear {C : Nat → Int32} {S : Nat → Nat} (hC : AgC C S) (ok : OK S) {x t has : Int32} {post : Int32 → Prop} (h : post (cY (yrX S x t has))) : P_X1_reportedYear C x t has post := by
  have hT := ok.T
  unfold P_X1_reportedYear P_X1_reportedYear_b15 P_X1_reportedYear_b33
  apply s1_isTown hC ok; refine bI_br (fun e => ?_) (fun e => ?_)
  · unfold yrX at h; rw [if_neg (by rw [e]; exact fun q => nomatch q.1)] at h; exact h
  apply s5_isTrait; refine bI_br (fun f => ?_) (fun f => ?_)
  · unfold yrX at h; rw [if_neg (by rw [f]; exact fun q => nomatch q.2)] at h; exact h
  unfold yrX at h
  rw [if_pos ⟨e, f⟩] at h
  obtain ⟨a, ha, rfl⟩ := isT_ex (by omega) e
  obtain ⟨b, hb, rfl⟩ := isT_ex (by omega) f
  obtain ⟨e1, e2⟩ := ixh (a := a) (b := b) (by omega) (by omega)
  obtain ⟨e3, e4⟩ := ixn (a := a) (b := b) (by omega) (by omega)
  rw [NN_nI (by omega), NN_nI (by omega)] at h
  refine br (fun q => ⟨e4, ?_⟩) (fun q => ⟨e2, ?_⟩)
  · rw [if_pos q] at h
    rw [e3, hC.cnt_ (by omega) (by omega)]; exact h
  · rw [if_neg q] at h
    rw [e1, hC.chd (by omega) (by omega)]; exact h
theorem s1_isReported {C : Nat → Int32} {S : Nat → Nat} (hC : AgC C S) (ok : OK S) {x t : Int32} {post : Int32 → Prop} (h : post (bI (repX S x t))) : P_X1_isReported C x t post := by
  have y1 := yrX_1000 ok x t 1
  have y0 := yrX_1000 ok x t 0
  unfold P_X1_isReported P_X1_isReported_b22 P_X1_isReported_b27
  apply s1_reportedYear hC ok; refine brY (by omega) (fun e => ?_) (fun e => ?_)
  · apply s1_reportedYear hC ok; refine brY (by omega) (fun f => ⟨rfl, ?_⟩) (fun f => ⟨rfl, ?_⟩)
    · rw [show repX S x t = false from decide_eq_false (by omega)] at h; exact h
    · rw [show repX S x t = true from decide_eq_true (by omega)] at h; exact h
  · refine ⟨rfl, ?_⟩
    rw [show repX S x t = true from decide_eq_true (by omega)] at h; exact h
theorem s1_isContradicted {C : Nat → Int32} {S : Nat → Nat} (hC : AgC C S) (ok : OK S) {a t : Nat} (ha : a < S 0) (ht : t < 6) {post : Int32 → Prop} (h : post (bI (cond S a t))) : P_X1_isContradicted C (nI a) (nI t) post := by
  have hT := ok.T
  have y1 := ok.h1k (t := a) (x := t) (by omega) ht
  have y0 := ok.n1k (t := a) (x := t) (by omega) ht
  unfold P_X1_isContradicted P_X1_isContradicted_b28 P_X1_isContradicted_b29
  apply s1_reportedYear hC ok
  rw [yrX_h ha ht hT]
  refine brY (by omega) (fun e => ⟨rfl, ?_⟩) (fun e => ?_)
  · rw [show cond S a t = false from decide_eq_false (by omega)] at h; exact h
  · apply s1_reportedYear hC ok
    rw [yrX_n ha ht hT, propext (cY_lt (m := nt S a t) (n := hd S a t) (by omega) (by omega))]
    refine br (fun f => ⟨rfl, ?_⟩) (fun f => ⟨rfl, ?_⟩)
    · rw [show cond S a t = false from decide_eq_false (by omega)] at h; exact h
    · rw [show cond S a t = true from decide_eq_true (by omega)] at h; exact h
theorem s1_roadsAt {C : Nat → Int32} {S : Nat → Nat} (hC : AgC C S) (ok : OK S) {a : Nat} (ha : a < S 0) {post : Int32 → Prop} (h : post (nI (deg S a))) : P_X1_roadsAt C (nI a) post := by
  have hT := ok.T
  unfold P_X1_roadsAt
  refine forN (fun n i => P_X1_roadsAt_l4 C (nI a) post n (nI (sumTo i (fun b => b1 (0 < rd S a b)))) (nI i)) (S 0) ?_ ?_ 0 (Nat.zero_le _)
  · intro n
    show P_X1_roadsAt_b4 _ _ _ _ _ _
    unfold P_X1_roadsAt_b4
    rw [c0 hC]
    refine brT (nI_le (Nat.le_refl _) (by omega)) ?_
    rw [← sumTo_ext hT (fun b h1 h2 => by rw [ok.rz2 (by omega) h2 h1]; rfl)]; exact h
  · intro n i hi hv
    show P_X1_roadsAt_b4 _ _ _ _ _ _
    unfold P_X1_roadsAt_b4 P_X1_roadsAt_b27
    rw [c0 hC]
    refine brF (nI_ge hi (by omega)) ?_
    have r9 := ok.r99 (a := a) (b := i) (by omega) (by omega)
    apply s1_roadLengthN hC ok ha hi
    refine brR (by omega) (fun e => fa1 ?_) (fun e => fa1 (fa1 ?_))
    · have : sumTo (i + 1) (fun b => b1 (0 < rd S a b)) = sumTo i (fun b => b1 (0 < rd S a b)) := by
        show _ + b1 (decide (0 < rd S a i)) = _; rw [e]; rfl
      rw [this] at hv; exact hv
    · have : sumTo (i + 1) (fun b => b1 (0 < rd S a b)) = sumTo i (fun b => b1 (0 < rd S a b)) + 1 := by
        show _ + b1 (decide (0 < rd S a i)) = _; rw [decide_eq_true e]; rfl
      rw [this] at hv; exact hv
