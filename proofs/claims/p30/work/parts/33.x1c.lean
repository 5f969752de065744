/-! the class's land: what it changes, what it looks up -/
def besF (S : Nat → Nat) (a k : Nat) : Nat → Option Nat
  | 0 => none
  | n + 1 => match besF S a k n with
    | some i => some i
    | none => if 0 < rd S a n ∧ sumTo n (fun b => b1 (0 < rd S a b)) = k then some n else none
def besI : Option Nat → Int32
  | none => -1
  | some i => nI i
theorem besF_up {S : Nat → Nat} {a k n i : Nat} (h : besF S a k n = some i) : ∀ m, n ≤ m → besF S a k m = some i
  | 0, hm => by rw [show n = 0 by omega] at h; exact h
  | m + 1, hm => by
    by_cases e : n = m + 1
    · rw [← e]; exact h
    · show (match besF S a k m with | some i => some i | none => _) = _
      rw [besF_up h m (by omega)]
theorem besF_hit {S : Nat → Nat} {a k i : Nat} (h : besF S a k i = none) (h1 : 0 < rd S a i) (h2 : sumTo i (fun b => b1 (0 < rd S a b)) = k) : besF S a k (i + 1) = some i := by
  show (match besF S a k i with | some i => some i | none => _) = _
  rw [h]; exact if_pos ⟨h1, h2⟩
theorem besF_no {S : Nat → Nat} {a k i : Nat} (h : besF S a k i = none) (h1 : ¬ (0 < rd S a i ∧ sumTo i (fun b => b1 (0 < rd S a b)) = k)) : besF S a k (i + 1) = none := by
  show (match besF S a k i with | some i => some i | none => _) = _
  rw [h]; exact if_neg h1
theorem s1_townBeside {C : Nat → Int32} {S : Nat → Nat} (hC : AgC C S) (ok : OK S) {a k : Nat} (ha : a < S 0) (hk : k < 2 ^ 31) {post : Int32 → Prop} (h : post (besI (besF S a k (S 0)))) : P_X1_townBeside C (nI a) (nI k) post := by
  have hT := ok.T
  unfold P_X1_townBeside
  let f : Nat → Nat := fun b => b1 (0 < rd S a b)
  have hf : ∀ i, i ≤ 10 → sumTo i f ≤ 10 := fun i hi => by
    have := sumTo_le (n := i) (f := f) (c := 1) (fun j _ => b1_le _); omega
  have key := forN (fun n i => besF S a k i = none → P_X1_townBeside_l5 C (nI a) (nI k) post n (nI (sumTo i f)) (nI i)) (S 0) ?_ ?_ 0 (Nat.zero_le _)
  · obtain ⟨n, hn⟩ := key; exact ⟨n, hn rfl⟩
  · intro n hno
    show P_X1_townBeside_b5 _ _ _ _ _ _ _
    unfold P_X1_townBeside_b5
    rw [c0 hC]
    refine brT (nI_le (Nat.le_refl _) (by omega)) ?_
    rw [hno] at h; exact h
  · intro n i hi hv hno
    show P_X1_townBeside_b5 _ _ _ _ _ _ _
    unfold P_X1_townBeside_b5 P_X1_townBeside_b38
    rw [c0 hC]
    refine brF (nI_ge hi (by omega)) ?_
    have r9 := ok.r99 (a := a) (b := i) (by omega) (by omega)
    apply s1_roadLengthN hC ok ha hi
    have h10 := hf i (by omega)
    refine brR (by omega) (fun e => fa1 ?_) (fun e => ?_)
    · have := hv (besF_no hno (by omega))
      rw [show sumTo (i + 1) f = sumTo i f by show _ + b1 (decide (0 < rd S a i)) = _; rw [e]; rfl] at this
      exact this
    · rw [i_eqN (a := sumTo i f) (b := k)]
      refine br (fun q => ?_) (fun q => fa1 (fa1 ?_))
      · rw [besF_up (besF_hit hno e q) (S 0) hi] at h; exact h
      · have := hv (besF_no hno (fun z => q z.2))
        rw [show sumTo (i + 1) f = sumTo i f + 1 by show _ + b1 (decide (0 < rd S a i)) = _; rw [decide_eq_true e]; rfl] at this
        exact this
theorem canJ_out {S : Nat → Nat} (ok : OK S) {x y len : Int32} (h : canJ S x y len = true) : ∃ a b n, a < S 0 ∧ b < S 0 ∧ a ≠ b ∧ 1 ≤ n ∧ n ≤ 99 ∧ x = nI a ∧ y = nI b ∧ len = nI n ∧ (0 < rd S a b ∨ (deg S a < 3 ∧ deg S b < 3 ∧ cnt S < 15)) := by
  have hT := ok.T
  obtain ⟨e, f, g, k, z⟩ := of_decide_eq_true h
  obtain ⟨a, ha, rfl⟩ := isT_ex (by omega) e
  obtain ⟨b, hb, rfl⟩ := isT_ex (by omega) f
  have k2 := of_decide_eq_true k
  obtain ⟨n, hn, rfl⟩ := nI_of (x := len) (by rw [i_lt, show (0 : Int32).toInt = 0 from rfl]; omega)
  rw [nI_toInt hn] at k2
  rw [rdX_n ha hb hT, NN_nI (by omega), NN_nI (by omega)] at z
  exact ⟨a, b, n, ha, hb, fun q => g (by rw [q]), by omega, by omega, rfl, rfl, rfl, z⟩
def joinS (S : Nat → Nat) (x y len : Int32) : Nat → Nat := setRd S (NN x) (NN y) (NN len)
theorem joinS_n {S : Nat → Nat} {a b n : Nat} (ha : a < 2 ^ 31) (hb : b < 2 ^ 31) (hn : n < 2 ^ 31) : joinS S (nI a) (nI b) (nI n) = setRd S a b n := by
  unfold joinS; rw [NN_nI ha, NN_nI hb, NN_nI hn]
theorem OK_joinS {S : Nat → Nat} (ok : OK S) {x y len : Int32} (h : canJ S x y len = true) : OK (joinS S x y len) := by
  have hT := ok.T
  obtain ⟨a, b, n, ha, hb, hab, h1, h2, rfl, rfl, rfl, z⟩ := canJ_out ok h
  rw [joinS_n (by omega) (by omega) (by omega)]
  exact OK_setRd ok ha hb hab h2 (Or.inr z)
theorem s1_join {C : Nat → Int32} {S : Nat → Nat} (hC : AgC C S) (ok : OK S) {x y len : Int32} {post : Int32 → (Nat → Int32) → Prop} (h0 : canJ S x y len = false → post 0 C) (h1 : canJ S x y len = true → ∀ C', AgC C' (joinS S x y len) → post 1 C') : P_X1_join C x y len post := by
  have hT := ok.T
  unfold P_X1_join
  apply s1_canJoin hC ok; refine bI_br h0 (fun e => ?_)
  have h1' := h1 e
  obtain ⟨a, b, n, ha, hb, hab, k1, k2, rfl, rfl, rfl, z⟩ := canJ_out ok e
  rw [joinS_n (by omega) (by omega) (by omega)] at h1'
  exact s1_setRoad hC ok ha hb (cR_pos (by omega)).symm h1'
def cutS (S : Nat → Nat) (x y : Int32) : Nat → Nat := if 0 < rdX S x y then setRd S (NN x) (NN y) 0 else S
theorem rdX_out {S : Nat → Nat} (ok : OK S) {x y : Int32} (h : 0 < rdX S x y) : ∃ a b, a < S 0 ∧ b < S 0 ∧ a ≠ b ∧ x = nI a ∧ y = nI b ∧ 0 < rd S a b := by
  have hT := ok.T
  by_cases q : isT (S 0) x = true ∧ isT (S 0) y = true
  · obtain ⟨a, ha, rfl⟩ := isT_ex (by omega) q.1
    obtain ⟨b, hb, rfl⟩ := isT_ex (by omega) q.2
    rw [rdX_n ha hb hT] at h
    refine ⟨a, b, ha, hb, fun e => ?_, rfl, rfl, h⟩
    rw [e, ok.diag (by omega)] at h; omega
  · unfold rdX at h; rw [if_neg q] at h; omega
theorem OK_cutS {S : Nat → Nat} (ok : OK S) (x y : Int32) : OK (cutS S x y) := by
  have hT := ok.T
  unfold cutS
  by_cases h : 0 < rdX S x y
  · rw [if_pos h]
    obtain ⟨a, b, ha, hb, hab, rfl, rfl, z⟩ := rdX_out ok h
    rw [NN_nI (by omega), NN_nI (by omega)]
    exact OK_setRd ok ha hb hab (by omega) (Or.inl rfl)
  · rw [if_neg h]; exact ok
theorem s1_cut {C : Nat → Int32} {S : Nat → Nat} (hC : AgC C S) (ok : OK S) {x y : Int32} {post : Int32 → (Nat → Int32) → Prop} (h : ∀ C', AgC C' (cutS S x y) → post (cR (rdX S x y)) C') : P_X1_cut C x y post := by
  have hT := ok.T
  have r9 := rdX_99 ok x y
  unfold P_X1_cut P_X1_cut_b19
  apply s1_roadLength hC ok
  refine brR (by omega) (fun e => h C ?_) (fun e => ?_)
  · unfold cutS; rw [if_neg (by omega)]; exact hC
  · unfold cutS at h
    rw [if_pos e] at h
    obtain ⟨a, b, ha, hb, hab, rfl, rfl, z⟩ := rdX_out ok e
    rw [NN_nI (by omega), NN_nI (by omega)] at h
    exact s1_setRoad hC ok ha hb (n := 0) rfl h
/-- noting a year: what stands afterwards, and whether that is new -/
theorem cY_succ (n : Nat) : cY (n + 1) = nI n := cY_pos (Nat.succ_pos n)
def noteN (S : Nat → Nat) (a t y : Nat) (has : Int32) : Bool := if has = 0 then decide (nt S a t < y + 1) else decide (hd S a t = 0 ∨ y + 1 < hd S a t)
def noteK (a t : Nat) (has : Int32) : Nat := (if has = 0 then 161 else 101) + 6 * a + t
def noteS (S : Nat → Nat) (a t y : Nat) (has : Int32) : Nat → Nat := if noteN S a t y has = true then setS S (noteK a t has) (y + 1) else S
theorem noteS_0 {S : Nat → Nat} {a t y : Nat} {has : Int32} : noteS S a t y has 0 = S 0 := by
  unfold noteS noteK
  by_cases q : noteN S a t y has = true
  · rw [if_pos q, setS_ne (by split <;> omega)]
  · rw [if_neg q]
theorem OK_noteS {S : Nat → Nat} (ok : OK S) {a t y : Nat} (ha : a < S 0) (ht : t < 6) (hy : y < 1000) (has : Int32) : OK (noteS S a t y has) := by
  have hT := ok.T
  unfold noteS
  by_cases q : noteN S a t y has = true
  · rw [if_pos q]
    have hk : 101 ≤ noteK a t has := by unfold noteK; split <;> omega
    have lo : ∀ k, k < 101 → setS S (noteK a t has) (y + 1) k = S k := fun k h => setS_ne (by omega)
    have lr : ∀ c d, c < 10 → d < 10 → rd (setS S (noteK a t has) (y + 1)) c d = rd S c d := fun c d h1 h2 => lo _ (by omega)
    have dg : ∀ c, c < 10 → deg (setS S (noteK a t has) (y + 1)) c = deg S c := fun c h1 => sumTo_congr (fun d h2 => by show b1 _ = b1 _; rw [lr c d h1 h2])
    have ct : cnt (setS S (noteK a t has) (y + 1)) = cnt S := sumTo_congr (fun c h1 => sumTo_congr (fun d h2 => by show b1 _ = b1 _; rw [lr c d h1 h2]))
    refine ⟨by rw [lo 0 (by omega)]; exact hT, fun c d hc hd => by rw [lr c d hc hd, lr d c hd hc]; exact ok.sym hc hd, fun c d hc hd => by rw [lr c d hc hd]; exact ok.r99 hc hd, fun c d hc hd hs => ?_, fun c hc => by rw [lr c c hc hc]; exact ok.diag hc, fun u x hu hx => ?_, fun u x hu hx hs => ?_, fun c hc => by rw [dg c hc]; exact ok.deg3 hc, by rw [ct]; exact ok.cnt15⟩
    · rw [lo 0 (by omega)] at hs; rw [lr c d hc hd]; exact ok.rz hc hd hs
    · have : S (101 + 6 * u + x) ≤ 1000 ∧ S (161 + 6 * u + x) ≤ 1000 := ok.2.2.2.2.2.1 u x hu hx
      show setS S _ _ _ ≤ 1000 ∧ setS S _ _ _ ≤ 1000
      unfold setS
      constructor <;> split <;> omega
    · rw [lo 0 (by omega)] at hs
      show setS S _ _ _ = 0 ∧ setS S _ _ _ = 0
      have := ok.hz hu hx hs
      unfold noteK
      rw [setS_ne (by split <;> omega), setS_ne (by split <;> omega)]; exact this
  · rw [if_neg q]; exact ok
def isNote (S : Nat → Nat) (x t y : Int32) : Bool := decide (isT (S 0) x = true ∧ isT 6 t = true ∧ isYr y = true)
theorem isYr_ex {y : Int32} (h : isYr y = true) : ∃ n, n < 1000 ∧ y = nI n := by
  have k2 := of_decide_eq_true h
  obtain ⟨n, hn, rfl⟩ := nI_of (x := y) (by rw [i_lt, show (0 : Int32).toInt = 0 from rfl]; omega)
  rw [nI_toInt hn] at k2
  exact ⟨n, by omega, rfl⟩
theorem s1_note {C : Nat → Int32} {S : Nat → Nat} (hC : AgC C S) (ok : OK S) {x t y has : Int32} {post : Int32 → (Nat → Int32) → Prop} (h0 : isNote S x t y = false → post (-1) C)
    (h1 : isNote S x t y = true → ∀ C', AgC C' (noteS S (NN x) (NN t) (NN y) has) → post (bI (noteN S (NN x) (NN t) (NN y) has)) C') : P_X1_note C x t y has post := by
  have hT := ok.T
  unfold P_X1_note P_X1_note_b22
  apply s1_isTown hC ok; refine bI_br (fun e => h0 (decide_eq_false fun q => by rw [e] at q; exact nomatch q.1)) (fun e => ?_)
  apply s5_isTrait; refine bI_br (fun f => h0 (decide_eq_false fun q => by rw [f] at q; exact nomatch q.2.1)) (fun f => ?_)
  apply s5_isYear; refine bI_br (fun g => h0 (decide_eq_false fun q => by rw [g] at q; exact nomatch q.2.2)) (fun g => ?_)
  have h := h1 (decide_eq_true ⟨e, f, g⟩)
  obtain ⟨a, ha, rfl⟩ := isT_ex (by omega) e
  obtain ⟨b, hb, rfl⟩ := isT_ex (by omega) f
  obtain ⟨n, hn, rfl⟩ := isYr_ex g
  rw [NN_nI (by omega), NN_nI (by omega), NN_nI (by omega)] at h
  obtain ⟨e1, e2⟩ := ixh (a := a) (b := b) (by omega) (by omega)
  obtain ⟨e3, e4⟩ := ixn (a := a) (b := b) (by omega) (by omega)
  have b1k := ok.h1k (t := a) (x := b) (by omega) (by omega)
  have n1k := ok.n1k (t := a) (x := b) (by omega) (by omega)
  have yn : nI n = cY (n + 1) := (cY_succ n).symm
  have fin0 : noteN S a b n has = false → post 0 C := fun z => by
    have := h C (by unfold noteS; rw [if_neg (by rw [z]; decide)]; exact hC)
    rw [z] at this; exact this
  unfold P_X1_note_b37 P_X1_note_b81 P_X1_note_b85 P_X1_note_b86 P_X1_note_b101 P_X1_note_b111
  refine br (fun q => fae ?_) (fun q => fae ?_)
  · rw [e3]
    have fin1 : noteN S a b n has = true → post 1 (upd C (161 + 6 * a + b) (nI n)) := fun z => by
      have := h (upd C (161 + 6 * a + b) (nI n)) (by
        unfold noteS noteK; rw [if_pos z, if_pos q]
        exact AgC_upd hC (by rw [if_neg (by omega), if_neg (by omega)]; exact yn))
      rw [z] at this; exact this
    unfold noteN at fin0 fin1
    rw [if_pos q] at fin0 fin1
    refine ⟨e4, fae ?_⟩
    rw [hC.cnt_ (by omega) hb]
    have F1 : nt S a b < n + 1 → post 1 (upd C (161 + 6 * a + b) (nI n)) := fun z => fin1 (decide_eq_true z)
    have F0 : ¬ nt S a b < n + 1 → post 0 C := fun z => fin0 (decide_eq_false z)
    refine brY (by omega) (fun z => brF (by decide) ⟨e4, brF (by decide) (F1 (by omega))⟩) (fun z => brT q ?_)
    rw [yn, propext (cY_le (m := n + 1) (n := nt S a b) (by omega) (by omega)), ← yn]
    exact br (fun w => brT rfl (brT rfl (F0 (by omega)))) (fun w => brF (by decide) ⟨e4, brF (by decide) (F1 (by omega))⟩)
  · rw [e1]
    have fin1 : noteN S a b n has = true → post 1 (upd C (101 + 6 * a + b) (nI n)) := fun z => by
      have := h (upd C (101 + 6 * a + b) (nI n)) (by
        unfold noteS noteK; rw [if_pos z, if_neg q]
        exact AgC_upd hC (by rw [if_neg (by omega), if_neg (by omega)]; exact yn))
      rw [z] at this; exact this
    unfold noteN at fin0 fin1
    rw [if_neg q] at fin0 fin1
    refine ⟨e2, fae ?_⟩
    rw [hC.chd (by omega) hb]
    have F1 : (hd S a b = 0 ∨ n + 1 < hd S a b) → post 1 (upd C (101 + 6 * a + b) (nI n)) := fun z => fin1 (decide_eq_true z)
    have F0 : ¬ (hd S a b = 0 ∨ n + 1 < hd S a b) → post 0 C := fun z => fin0 (decide_eq_false z)
    refine brY (by omega) (fun z => brF (by decide) ⟨e2, brF (by decide) (F1 (by omega))⟩) (fun z => brF q ?_)
    rw [yn, propext (cY_le (m := hd S a b) (n := n + 1) (by omega) (by omega)), ← yn]
    exact br (fun w => brT rfl (brT rfl (F0 (by omega)))) (fun w => brF (by decide) ⟨e2, brF (by decide) (F1 (by omega))⟩)
