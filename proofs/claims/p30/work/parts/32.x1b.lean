/-! the class's land: its counts, and what changes it -/
theorem forNl (V : Nat → Nat → Prop) (N i0 : Nat) (h0 : i0 ≤ N) (hend : ∀ n, V (n + 1) N) (hstep : ∀ n i, i0 ≤ i → i < N → V n (i + 1) → V (n + 1) i) : ∃ n, V n i0 := by
  obtain ⟨n, h⟩ := forN (fun n i => i0 ≤ i → V n i) N (fun n _ => hend n) (fun n i hi hv h => hstep n i h hi (hv (by omega))) i0 h0
  exact ⟨n, h (Nat.le_refl _)⟩
theorem sumTo_upd {n : Nat} {f g : Nat → Nat} {i : Nat} (h : ∀ j, j < n → j ≠ i → g j = f j) (hi : i < n) : sumTo n g + f i = sumTo n f + g i := by
  induction n with
  | zero => omega
  | succ n ih =>
    show sumTo n g + g n + f i = sumTo n f + f n + g i
    by_cases e : i = n
    · subst e
      rw [sumTo_congr (f := g) (g := f) (fun j hj => h j (by omega) (by omega))]; omega
    · have := ih (fun j hj hn => h j (by omega) hn) (by omega)
      rw [h n (by omega) (fun q => e q.symm)]; omega
def setS (S : Nat → Nat) (k v : Nat) : Nat → Nat := fun j => if j = k then v else S j
theorem setS_eq {S : Nat → Nat} {k v : Nat} : setS S k v k = v := if_pos rfl
theorem setS_ne {S : Nat → Nat} {k v j : Nat} (h : j ≠ k) : setS S k v j = S j := if_neg h
def setRd (S : Nat → Nat) (a b n : Nat) : Nat → Nat := setS (setS S (1 + 10 * a + b) n) (1 + 10 * b + a) n
theorem setRd_0 {S : Nat → Nat} {a b n : Nat} : setRd S a b n 0 = S 0 := by
  unfold setRd; rw [setS_ne (by omega), setS_ne (by omega)]
theorem setRd_hi {S : Nat → Nat} {a b n k : Nat} (ha : a < 10) (hb : b < 10) (hk : 101 ≤ k) : setRd S a b n k = S k := by
  unfold setRd; rw [setS_ne (by omega), setS_ne (by omega)]
theorem setRd_at {S : Nat → Nat} {a b n : Nat} (ha : a < 10) (hb : b < 10) : rd (setRd S a b n) a b = n := by
  show setRd S a b n (1 + 10 * a + b) = n
  unfold setRd
  by_cases h : 1 + 10 * a + b = 1 + 10 * b + a
  · rw [h, setS_eq]
  · rw [setS_ne h, setS_eq]
theorem setRd_ta {S : Nat → Nat} {a b n : Nat} : rd (setRd S a b n) b a = n := by
  show setRd S a b n (1 + 10 * b + a) = n
  unfold setRd; rw [setS_eq]
theorem setRd_ne {S : Nat → Nat} {a b n c d : Nat} (ha : a < 10) (hb : b < 10) (hc : c < 10) (hd : d < 10) (h1 : ¬ (c = a ∧ d = b)) (h2 : ¬ (c = b ∧ d = a)) : rd (setRd S a b n) c d = rd S c d := by
  show setRd S a b n (1 + 10 * c + d) = S (1 + 10 * c + d)
  unfold setRd; rw [setS_ne (by omega), setS_ne (by omega)]
theorem deg_at {S : Nat → Nat} {a b n : Nat} (ha : a < 10) (hb : b < 10) (hab : a ≠ b) : deg (setRd S a b n) a + b1 (0 < rd S a b) = deg S a + b1 (0 < n) := by
  unfold deg
  have := sumTo_upd (n := 10) (f := fun d => b1 (0 < rd S a d)) (g := fun d => b1 (0 < rd (setRd S a b n) a d)) (i := b) (fun d hd hn => by
    show b1 _ = b1 _
    rw [setRd_ne ha hb ha hd (fun q => hn q.2) (fun q => hab q.1)]) hb
  rw [show b1 (0 < rd (setRd S a b n) a b) = b1 (0 < n) by rw [setRd_at ha hb]] at this
  exact this
theorem deg_ne {S : Nat → Nat} {a b n c : Nat} (ha : a < 10) (hb : b < 10) (hc : c < 10) (h1 : c ≠ a) (h2 : c ≠ b) : deg (setRd S a b n) c = deg S c := by
  unfold deg
  exact sumTo_congr (fun d hd => by
    show b1 _ = b1 _
    rw [setRd_ne ha hb hc hd (fun q => h1 q.1) (fun q => h2 q.1)])
theorem setRd_sw {S : Nat → Nat} {a b n : Nat} (k : Nat) : setRd S a b n k = setRd S b a n k := by
  unfold setRd setS
  by_cases h : k = 1 + 10 * b + a
  · by_cases h2 : k = 1 + 10 * a + b
    · rw [if_pos h, if_pos h2]
    · rw [if_pos h, if_neg h2, if_pos h]
  · by_cases h2 : k = 1 + 10 * a + b
    · rw [if_neg h, if_pos h2, if_pos h2]
    · rw [if_neg h, if_neg h2, if_neg h2, if_neg h]
theorem setRd_sw' {S : Nat → Nat} {a b n : Nat} : setRd S a b n = setRd S b a n := funext setRd_sw
theorem cnt_lt {S : Nat → Nat} {a b n : Nat} (ha : a < 10) (hb : b < 10) (hab : a < b) : cnt (setRd S a b n) + b1 (0 < rd S a b) = cnt S + b1 (0 < n) := by
  have inner := sumTo_upd (n := 10) (f := fun d => b1 (a < d && 0 < rd S a d)) (g := fun d => b1 (a < d && 0 < rd (setRd S a b n) a d)) (i := b) (fun d hd hn => by
    show b1 _ = b1 _
    rw [setRd_ne ha hb ha hd (fun q => hn q.2) (fun q => by omega)]) hb
  rw [show b1 (a < b && 0 < rd (setRd S a b n) a b) = b1 (0 < n) by rw [setRd_at ha hb, decide_eq_true hab, Bool.true_and],
    show b1 (a < b && 0 < rd S a b) = b1 (0 < rd S a b) by rw [decide_eq_true hab, Bool.true_and]] at inner
  have outer := sumTo_upd (n := 10) (f := fun c => sumTo 10 (fun d => b1 (c < d && 0 < rd S c d))) (g := fun c => sumTo 10 (fun d => b1 (c < d && 0 < rd (setRd S a b n) c d))) (i := a) (fun c hc hn => sumTo_congr (fun d hd => by
    show b1 _ = b1 _
    by_cases q : c = b ∧ d = a
    · rw [decide_eq_false (show ¬ c < d by omega), Bool.false_and, Bool.false_and]
    · rw [setRd_ne ha hb hc hd (fun q => hn q.1) q])) ha
  unfold cnt
  omega
theorem cnt_at {S : Nat → Nat} (ok : OK S) {a b n : Nat} (ha : a < 10) (hb : b < 10) (hab : a ≠ b) : cnt (setRd S a b n) + b1 (0 < rd S a b) = cnt S + b1 (0 < n) := by
  by_cases h : a < b
  · exact cnt_lt ha hb h
  · rw [setRd_sw', ok.sym ha hb]; exact cnt_lt hb ha (by omega)
theorem b1_le (p : Bool) : b1 p ≤ 1 := by cases p <;> decide
theorem OK_setRd {S : Nat → Nat} (ok : OK S) {a b n : Nat} (ha : a < S 0) (hb : b < S 0) (hab : a ≠ b) (hn : n ≤ 99) (h : n = 0 ∨ 0 < rd S a b ∨ (deg S a < 3 ∧ deg S b < 3 ∧ cnt S < 15)) : OK (setRd S a b n) := by
  have hT := ok.T
  have ha' : a < 10 := by omega
  have hb' : b < 10 := by omega
  have le : b1 (0 < n) ≤ b1 (0 < rd S a b) ∨ (deg S a < 3 ∧ deg S b < 3 ∧ cnt S < 15) := by
    rcases h with h | h | h
    · left; rw [h]; exact Nat.zero_le _
    · left; rw [decide_eq_true h]; exact b1_le _
    · right; exact h
  have l1 := b1_le (0 < n)
  refine ⟨by rw [setRd_0]; exact hT, fun c d hc hd => ?_, fun c d hc hd => ?_, fun c d hc hd hs => ?_, fun c hc => ?_, fun t x ht hx => ?_, fun t x ht hx hs => ?_, fun c hc => ?_, ?_⟩
  · by_cases q : c = a ∧ d = b
    · rw [q.1, q.2, setRd_at ha' hb', setRd_ta]
    by_cases r : c = b ∧ d = a
    · rw [r.1, r.2, setRd_at ha' hb', setRd_ta]
    · rw [setRd_ne ha' hb' hc hd q r, setRd_ne ha' hb' hd hc (fun z => r ⟨z.2, z.1⟩) (fun z => q ⟨z.2, z.1⟩)]; exact ok.sym hc hd
  · by_cases q : c = a ∧ d = b
    · rw [q.1, q.2, setRd_at ha' hb']; exact hn
    by_cases r : c = b ∧ d = a
    · rw [r.1, r.2, setRd_ta]; exact hn
    · rw [setRd_ne ha' hb' hc hd q r]; exact ok.r99 hc hd
  · rw [setRd_0] at hs
    rw [setRd_ne ha' hb' hc hd (by omega) (by omega)]; exact ok.rz hc hd hs
  · rw [setRd_ne ha' hb' hc hc (by omega) (by omega)]; exact ok.diag hc
  · show setRd S a b n _ ≤ 1000 ∧ setRd S a b n _ ≤ 1000
    rw [setRd_hi ha' hb' (by omega), setRd_hi ha' hb' (by omega)]; exact ok.2.2.2.2.2.1 t x ht hx
  · show setRd S a b n _ = 0 ∧ setRd S a b n _ = 0
    rw [setRd_0] at hs
    rw [setRd_hi ha' hb' (by omega), setRd_hi ha' hb' (by omega)]; exact ok.hz ht hx hs
  · have d1 := deg_at (S := S) (n := n) ha' hb' hab
    have d2 := deg_at (S := S) (n := n) hb' ha' (fun q => hab q.symm)
    rw [setRd_sw', ok.sym hb' ha'] at d2
    have k1 := ok.deg3 ha'
    have k2 := ok.deg3 hb'
    by_cases q : c = a
    · rw [q]; rcases le with le | le <;> omega
    by_cases r : c = b
    · rw [r]; rcases le with le | le <;> omega
    · rw [deg_ne ha' hb' hc q r]; exact ok.deg3 hc
  · have := cnt_at ok (n := n) ha' hb' hab
    have k := ok.cnt15
    rcases le with le | le <;> omega
theorem cC_rd {S : Nat → Nat} {a b : Nat} (ha : a < 10) (hb : b < 10) : cC S (1 + 10 * a + b) = cR (rd S a b) := by
  unfold cC; rw [if_neg (by omega), if_pos (by omega)]
theorem AgC_upd {C : Nat → Int32} {S : Nat → Nat} (hC : AgC C S) {k v : Nat} {x : Int32} (hx : x = if k = 0 then nI v else if k ≤ 100 then cR v else cY v) : AgC (upd C k x) (setS S k v) := by
  intro j hj
  show (if j = k then x else C j) = _
  by_cases e : j = k
  · rw [if_pos e, hx, e]; unfold cC
    by_cases z : k = 0
    · subst z; rw [if_pos rfl, if_pos rfl, setS_eq]
    · rw [if_neg z, if_neg z, setS_eq]
  · rw [if_neg e, hC j hj]; unfold cC
    by_cases z : j = 0
    · subst z; rw [if_pos rfl, if_pos rfl, setS_ne e]
    · rw [if_neg z, if_neg z, setS_ne e]
theorem AgC_rd {C : Nat → Int32} {S : Nat → Nat} (hC : AgC C S) {a b n : Nat} (ha : a < 10) (hb : b < 10) : AgC (upd C (1 + 10 * a + b) (cR n)) (setS S (1 + 10 * a + b) n) :=
  AgC_upd hC (by rw [if_neg (by omega), if_pos (by omega)])
theorem s1_setRoad {C : Nat → Int32} {S : Nat → Nat} (hC : AgC C S) (ok : OK S) {a b n : Nat} {x3 : Int32} (ha : a < S 0) (hb : b < S 0) (hx : x3 = cR n) {post : (Nat → Int32) → Prop} (h : ∀ C', AgC C' (setRd S a b n) → post C') : P_X1_setRoad C (nI a) (nI b) x3 post := by
  have hT := ok.T
  unfold P_X1_setRoad P_X1_setRoad_b44
  apply s1_isTown hC ok; rw [isT_in (by omega) ha]; refine brF (by decide) ?_
  apply s1_isTown hC ok; rw [isT_in (by omega) hb]; refine brF (by decide) ?_
  obtain ⟨e1, e2⟩ := ixr (a := a) (b := b) (by omega) (by omega)
  obtain ⟨e3, e4⟩ := ixr (a := b) (b := a) (by omega) (by omega)
  refine ⟨e2, e4, ?_⟩
  rw [e1, e3, hx]
  exact h _ (AgC_rd (AgC_rd hC (by omega) (by omega)) (by omega) (by omega))
theorem s1_roadCount {C : Nat → Int32} {S : Nat → Nat} (hC : AgC C S) (ok : OK S) {post : Int32 → Prop} (h : post (nI (cnt S))) : P_X1_roadCount C post := by
  have hT := ok.T
  unfold P_X1_roadCount
  let F : Nat → Nat → Nat := fun a b => b1 (a < b && 0 < rd S a b)
  let G : Nat → Nat := fun a => sumTo 10 (F a)
  have hF0 : ∀ a b, a < 10 → S 0 ≤ b → b < 10 → F a b = 0 := fun a b h1 h2 h3 => by
    show b1 _ = 0; rw [ok.rz2 h1 h3 h2]; simp
  have hFl : ∀ a b, b ≤ a → F a b = 0 := fun a b h1 => by
    show b1 _ = 0; rw [decide_eq_false (show ¬ a < b by omega), Bool.false_and]; rfl
  refine forN (fun n i => P_X1_roadCount_l4 C post n (nI (sumTo i G)) (nI i)) (S 0) ?_ ?_ 0 (Nat.zero_le _)
  · intro n
    show P_X1_roadCount_b4 _ _ _ _ _
    unfold P_X1_roadCount_b4
    rw [c0 hC]
    refine brT (nI_le (Nat.le_refl _) (by omega)) ?_
    rw [← sumTo_ext hT (fun a h1 h2 => sumTo_0 (fun b hb => by show b1 _ = 0; rw [ok.rz h2 hb h1]; simp))]; exact h
  · intro n i hi hv
    show P_X1_roadCount_b4 _ _ _ _ _
    unfold P_X1_roadCount_b4
    rw [c0 hC]
    refine brF (nI_ge hi (by omega)) (fa1 ?_)
    have start : sumTo i G = sumTo i G + sumTo (i + 1) (F i) := by rw [sumTo_0 (fun j hj => hFl i j (by omega))]; rfl
    rw [start]
    refine forNl (fun m j => P_X1_roadCount_l18 C post (P_X1_roadCount_l4 C post n) m (nI (sumTo i G + sumTo j (F i))) (nI i) (nI j)) (S 0) (i + 1) hi ?_ ?_
    · intro m
      show P_X1_roadCount_b18 _ _ _ _ _ _ _
      unfold P_X1_roadCount_b18
      rw [c0 hC]
      refine brT (nI_le (Nat.le_refl _) (by omega)) (fa1 ?_)
      rw [show sumTo i G + sumTo (S 0) (F i) = sumTo (i + 1) G by
        show _ = sumTo i G + sumTo 10 (F i)
        rw [sumTo_ext hT (fun b h1 h2 => hF0 i b (by omega) h1 h2)]]
      exact hv
    · intro m j hij hj hw
      show P_X1_roadCount_b18 _ _ _ _ _ _ _
      unfold P_X1_roadCount_b18 P_X1_roadCount_b41
      rw [c0 hC]
      refine brF (nI_ge hj (by omega)) ?_
      have r9 := ok.r99 (a := i) (b := j) (by omega) (by omega)
      apply s1_roadLengthN hC ok hi hj
      refine brR (by omega) (fun e => fa1 ?_) (fun e => fa1 (fa1 ?_))
      · have : sumTo (j + 1) (F i) = sumTo j (F i) := by
          show _ + b1 (decide (i < j) && decide (0 < rd S i j)) = _; rw [e, Bool.and_comm]; rfl
        rw [this] at hw; exact hw
      · have : sumTo (j + 1) (F i) = sumTo j (F i) + 1 := by
          show _ + b1 (decide (i < j) && decide (0 < rd S i j)) = _; rw [decide_eq_true e, decide_eq_true (show i < j by omega)]; rfl
        rw [this, ← Nat.add_assoc] at hw; exact hw
/-- a double count over towns and traits -/
theorem sum2 {S : Nat → Nat} (F : Nat → Nat → Nat) (hT : S 0 ≤ 10) (h0 : ∀ a t, a < 10 → S 0 ≤ a → t < 6 → F a t = 0) : sumTo (S 0) (fun a => sumTo 6 (F a)) = sumTo 10 (fun a => sumTo 6 (F a)) :=
  (sumTo_ext hT (fun a h1 h2 => sumTo_0 (fun t ht => h0 a t h2 h1 ht))).symm
theorem s1_reportedPairs {C : Nat → Int32} {S : Nat → Nat} (hC : AgC C S) (ok : OK S) {post : Int32 → Prop} (h : post (nI (repN S))) : P_X1_reportedPairs C post := by
  have hT := ok.T
  unfold P_X1_reportedPairs
  let F : Nat → Nat → Nat := fun a t => b1 (repd S a t)
  let G : Nat → Nat := fun a => sumTo 6 (F a)
  refine forN (fun n i => P_X1_reportedPairs_l4 C post n (nI (sumTo i G)) (nI i)) (S 0) ?_ ?_ 0 (Nat.zero_le _)
  · intro n
    show P_X1_reportedPairs_b4 _ _ _ _ _
    unfold P_X1_reportedPairs_b4
    rw [c0 hC]
    refine brT (nI_le (Nat.le_refl _) (by omega)) ?_
    rw [show sumTo (S 0) G = repN S from sum2 F hT (fun a t h1 h2 h3 => by
      have := ok.hz h1 h3 h2
      show b1 (repd S a t) = 0
      rw [show repd S a t = false from decide_eq_false (by omega)]; rfl)]
    exact h
  · intro n i hi hv
    show P_X1_reportedPairs_b4 _ _ _ _ _
    unfold P_X1_reportedPairs_b4
    rw [c0 hC]
    refine brF (nI_ge hi (by omega)) ?_
    refine forN (fun m j => P_X1_reportedPairs_l16 C post (P_X1_reportedPairs_l4 C post n) m (nI (sumTo i G + sumTo j (F i))) (nI i) (nI j)) 6 ?_ ?_ 0 (by omega)
    · intro m
      show P_X1_reportedPairs_b16 _ _ _ _ _ _ _
      unfold P_X1_reportedPairs_b16
      exact brT (nI_le (a := 6) (Nat.le_refl _) (by omega)) (fa1 hv)
    · intro m j hj hw
      show P_X1_reportedPairs_b16 _ _ _ _ _ _ _
      unfold P_X1_reportedPairs_b16 P_X1_reportedPairs_b34
      refine brF (nI_ge (b := 6) hj (by omega)) ?_
      apply s1_isReported hC ok
      rw [show repX S (nI i) (nI j) = repd S i j by unfold repX; rw [yrX_h hi hj hT, yrX_n hi hj hT]; rfl]
      refine bI_br (fun e => fa1 ?_) (fun e => fa1 (fa1 ?_))
      · rw [show sumTo (j + 1) (F i) = sumTo j (F i) by show _ + b1 (repd S i j) = _; rw [e]; rfl] at hw; exact hw
      · rw [show sumTo (j + 1) (F i) = sumTo j (F i) + 1 by show _ + b1 (repd S i j) = _; rw [e]; rfl, ← Nat.add_assoc] at hw; exact hw
theorem s1_contradictions {C : Nat → Int32} {S : Nat → Nat} (hC : AgC C S) (ok : OK S) {post : Int32 → Prop} (h : post (nI (conN S))) : P_X1_contradictions C post := by
  have hT := ok.T
  unfold P_X1_contradictions
  let F : Nat → Nat → Nat := fun a t => b1 (cond S a t)
  let G : Nat → Nat := fun a => sumTo 6 (F a)
  refine forN (fun n i => P_X1_contradictions_l4 C post n (nI (sumTo i G)) (nI i)) (S 0) ?_ ?_ 0 (Nat.zero_le _)
  · intro n
    show P_X1_contradictions_b4 _ _ _ _ _
    unfold P_X1_contradictions_b4
    rw [c0 hC]
    refine brT (nI_le (Nat.le_refl _) (by omega)) ?_
    rw [show sumTo (S 0) G = conN S from sum2 F hT (fun a t h1 h2 h3 => by
      have := ok.hz h1 h3 h2
      show b1 (cond S a t) = 0
      rw [show cond S a t = false from decide_eq_false (by omega)]; rfl)]
    exact h
  · intro n i hi hv
    show P_X1_contradictions_b4 _ _ _ _ _
    unfold P_X1_contradictions_b4
    rw [c0 hC]
    refine brF (nI_ge hi (by omega)) ?_
    refine forN (fun m j => P_X1_contradictions_l16 C post (P_X1_contradictions_l4 C post n) m (nI (sumTo i G + sumTo j (F i))) (nI i) (nI j)) 6 ?_ ?_ 0 (by omega)
    · intro m
      show P_X1_contradictions_b16 _ _ _ _ _ _ _
      unfold P_X1_contradictions_b16
      exact brT (nI_le (a := 6) (Nat.le_refl _) (by omega)) (fa1 hv)
    · intro m j hj hw
      show P_X1_contradictions_b16 _ _ _ _ _ _ _
      unfold P_X1_contradictions_b16 P_X1_contradictions_b34
      refine brF (nI_ge (b := 6) hj (by omega)) ?_
      apply s1_isContradicted hC ok hi hj
      refine bI_br (fun e => fa1 ?_) (fun e => fa1 (fa1 ?_))
      · rw [show sumTo (j + 1) (F i) = sumTo j (F i) by show _ + b1 (cond S i j) = _; rw [e]; rfl] at hw; exact hw
      · rw [show sumTo (j + 1) (F i) = sumTo j (F i) + 1 by show _ + b1 (cond S i j) = _; rw [e]; rfl, ← Nat.add_assoc] at hw; exact hw
/-- whether a road of this length may join the two -/
def canJ (S : Nat → Nat) (x y len : Int32) : Bool :=
  decide (isT (S 0) x = true ∧ isT (S 0) y = true ∧ x ≠ y ∧ isLen len = true ∧ (0 < rdX S x y ∨ (deg S (NN x) < 3 ∧ deg S (NN y) < 3 ∧ cnt S < 15)))
theorem nI_3le {a : Nat} (ha : a < 2 ^ 31) : ((3 : Int32) ≤ nI a) = (3 ≤ a) := i_leN (a := 3) (by omega) ha
theorem nI_15le {a : Nat} (ha : a < 2 ^ 31) : ((15 : Int32) ≤ nI a) = (15 ≤ a) := i_leN (a := 15) (by omega) ha
theorem s1_canJoin {C : Nat → Int32} {S : Nat → Nat} (hC : AgC C S) (ok : OK S) {x y len : Int32} {post : Int32 → Prop} (h : post (bI (canJ S x y len))) : P_X1_canJoin C x y len post := by
  have hT := ok.T
  have no : (canJ S x y len = false) → post 0 := fun e => by rw [e] at h; exact h
  have ye : (canJ S x y len = true) → post 1 := fun e => by rw [e] at h; exact h
  unfold P_X1_canJoin P_X1_canJoin_b28 P_X1_canJoin_b73 P_X1_canJoin_b74
  apply s1_isTown hC ok; refine bI_br (fun e => no (decide_eq_false fun q => by rw [e] at q; exact nomatch q.1)) (fun e => ?_)
  apply s1_isTown hC ok; refine bI_br (fun f => no (decide_eq_false fun q => by rw [f] at q; exact nomatch q.2.1)) (fun f => ?_)
  refine br (fun g => no (decide_eq_false fun q => q.2.2.1 g)) (fun g => ?_)
  apply s5_isLength; refine bI_br (fun k => no (decide_eq_false fun q => by rw [k] at q; exact nomatch q.2.2.2.1)) (fun k => ?_)
  obtain ⟨a, ha, rfl⟩ := isT_ex (by omega) e
  obtain ⟨b, hb, rfl⟩ := isT_ex (by omega) f
  have d1 := ok.deg3 (a := a) (by omega)
  have d2 := ok.deg3 (a := b) (by omega)
  have d3 := ok.cnt15
  have r9 := ok.r99 (a := a) (b := b) (by omega) (by omega)
  have E : canJ S (nI a) (nI b) len = decide (0 < rd S a b ∨ (deg S a < 3 ∧ deg S b < 3 ∧ cnt S < 15)) := by
    unfold canJ
    rw [rdX_n ha hb hT, NN_nI (by omega), NN_nI (by omega)]
    by_cases z : 0 < rd S a b ∨ (deg S a < 3 ∧ deg S b < 3 ∧ cnt S < 15)
    · rw [decide_eq_true z, decide_eq_true ⟨e, f, g, k, z⟩]
    · rw [decide_eq_false z, decide_eq_false (fun q => z q.2.2.2.2)]
  rw [E] at no ye
  apply s1_roadLengthN hC ok ha hb
  refine brR (by omega) (fun z => ?_) (fun z => ye (decide_eq_true (Or.inl z)))
  apply s1_roadsAt hC ok ha
  rw [nI_3le (by omega)]
  refine br (fun q => ⟨rfl, no (decide_eq_false (by omega))⟩) (fun q => ?_)
  apply s1_roadsAt hC ok hb
  rw [nI_3le (by omega)]
  refine br (fun q => ⟨rfl, no (decide_eq_false (by omega))⟩) (fun q => ?_)
  apply s1_roadCount hC ok
  rw [nI_15le (by omega)]
  exact br (fun q => ⟨rfl, no (decide_eq_false (by omega))⟩) (fun q => ⟨rfl, ye (decide_eq_true (by omega))⟩)
