/-! the class takes down roads and reports, and looks at one town alone -/
theorem sumTo_mono {n m : Nat} {f : Nat → Nat} (h : n ≤ m) : sumTo n f ≤ sumTo m f := by
  induction m with
  | zero => rw [show n = 0 by omega]; exact Nat.le_refl _
  | succ m ih =>
    by_cases e : n = m + 1
    · rw [e]; exact Nat.le_refl _
    · have := ih (by omega)
      show _ ≤ sumTo m f + f m
      omega
def pF (S : Nat → Nat) (a b : Nat) : Nat := b1 (a < b && 0 < rd S a b)
def pR (S : Nat → Nat) (a b : Nat) : Nat := sumTo a (fun c => sumTo 10 (pF S c)) + sumTo b (pF S a)
theorem pR_le {S : Nat → Nat} {a b : Nat} (ha : a < 10) (hb : b ≤ 10) : pR S a b ≤ cnt S := by
  have h1 : sumTo b (pF S a) ≤ sumTo 10 (pF S a) := sumTo_mono hb
  have h2 : sumTo (a + 1) (fun c => sumTo 10 (pF S c)) ≤ sumTo 10 (fun c => sumTo 10 (pF S c)) := sumTo_mono (by omega)
  have h3 : sumTo (a + 1) (fun c => sumTo 10 (pF S c)) = sumTo a (fun c => sumTo 10 (pF S c)) + sumTo 10 (pF S a) := rfl
  show sumTo a (fun c => sumTo 10 (pF S c)) + sumTo b (pF S a) ≤ sumTo 10 (fun c => sumTo 10 (pF S c))
  omega
def TR (S : Nat → Nat) (a j R : Nat) (fr to ln : Nat → Int32) : Prop :=
  R = pR S a j ∧ (∀ i, i < R → ∃ a b, a < b ∧ b < S 0 ∧ 0 < rd S a b ∧ fr i = nI a ∧ to i = nI b ∧ ln i = nI (rd S a b)) ∧
  ∀ a' b', a' < b' → b' < S 0 → 0 < rd S a' b' → (a' < a ∨ (a' = a ∧ b' < j)) → ∃ i, i < R ∧ fr i = nI a' ∧ to i = nI b'
theorem c_takeRoads {C : Nat → Int32} {S : Nat → Nat} (hC : AgC C S) (ok : OK S) {x0 : Int32} {f0 t0 l0 : Nat → Int32} {post : Int32 → (Nat → Int32) → (Nat → Int32) → (Nat → Int32) → Prop} (h : ∀ R fr to ln, R ≤ 15 → RO S R fr to ln → post (nI R) fr to ln) : P_X0_takeRoads (nI (S 0)) x0 f0 t0 l0 C post := by
  have hT := ok.T
  have c15 := ok.cnt15
  unfold P_X0_takeRoads
  have key := forN (fun n a => ∀ R fr to ln, TR S a (a + 1) R fr to ln → P_X0_takeRoads_l7 (nI (S 0)) x0 f0 t0 l0 C post n (nI R) fr to ln (nI a)) (S 0) ?_ ?_ 0 (Nat.zero_le _)
  · obtain ⟨n, hn⟩ := key
    refine ⟨n, hn 0 f0 t0 l0 ⟨?_, fun i hi => absurd hi (by omega), fun a' b' h1 _ _ h4 => by omega⟩⟩
    show 0 = 0 + (0 + pF S 0 0)
    unfold pF; rw [decide_eq_false (show ¬ 0 < 0 by omega)]; rfl
  · intro n R fr to ln hTR
    show P_X0_takeRoads_b7 _ _ _ _ _ _ _ _ _ _ _ _ _
    unfold P_X0_takeRoads_b7
    refine brT (nI_le (Nat.le_refl _) (by omega)) (h R fr to ln ?_ ⟨hTR.2.1, fun a b h1 h2 h3 => hTR.2.2 a b h1 h2 h3 (by omega)⟩)
    rw [hTR.1]
    by_cases e : S 0 < 10
    · exact Nat.le_trans (pR_le (by omega) (by omega)) c15
    · have e' : S 0 = 10 := by omega
      rw [e']
      have : sumTo 11 (pF S 10) = 0 := sumTo_0 (fun i hi => by unfold pF; rw [decide_eq_false (show ¬ 10 < i by omega)]; rfl)
      show sumTo 10 (fun c => sumTo 10 (pF S c)) + sumTo 11 (pF S 10) ≤ 15
      rw [this]; exact c15
  · intro n a ha hv R fr to ln hTR
    show P_X0_takeRoads_b7 _ _ _ _ _ _ _ _ _ _ _ _ _
    unfold P_X0_takeRoads_b7
    refine brF (nI_ge ha (by omega)) (fa1 ?_)
    have inner := forNl (fun k j => ∀ R fr to ln, TR S a j R fr to ln → P_X0_takeRoads_l19 (nI (S 0)) x0 f0 t0 l0 C post (P_X0_takeRoads_l7 (nI (S 0)) x0 f0 t0 l0 C post n) k (nI R) fr to ln (nI a) (nI j)) (S 0) (a + 1) ha ?_ ?_
    · obtain ⟨k, hk⟩ := inner; exact ⟨k, hk R fr to ln hTR⟩
    · intro k R fr to ln hT2
      show P_X0_takeRoads_b19 _ _ _ _ _ _ _ _ _ _ _ _ _ _ _
      unfold P_X0_takeRoads_b19
      refine brT (nI_le (Nat.le_refl _) (by omega)) (fa1 (hv R fr to ln ⟨?_, hT2.2.1, fun a' b' q1 q2 q3 q4 => hT2.2.2 a' b' q1 q2 q3 (by omega)⟩))
      rw [hT2.1]
      have e1 : sumTo 10 (pF S a) = sumTo (S 0) (pF S a) := sumTo_ext hT (fun i h1 h2 => by unfold pF; rw [ok.rz2 (by omega) h2 h1]; simp)
      have e2 : sumTo (a + 1 + 1) (pF S (a + 1)) = 0 := sumTo_0 (fun i hi => by unfold pF; rw [decide_eq_false (show ¬ a + 1 < i by omega)]; rfl)
      show sumTo a (fun c => sumTo 10 (pF S c)) + sumTo (S 0) (pF S a) = (sumTo a (fun c => sumTo 10 (pF S c)) + sumTo 10 (pF S a)) + sumTo (a + 1 + 1) (pF S (a + 1))
      rw [e1, e2]; rfl
    · intro k j hj1 hj hw R fr to ln hT2
      show P_X0_takeRoads_b19 _ _ _ _ _ _ _ _ _ _ _ _ _ _ _
      unfold P_X0_takeRoads_b19 P_X0_takeRoads_b91
      have r9 := ok.r99 (a := a) (b := j) (by omega) (by omega)
      have hP := pR_le (S := S) (a := a) (b := j + 1) (by omega) (by omega)
      have pj : pR S a (j + 1) = pR S a j + pF S a j := by
        show sumTo a _ + (sumTo j _ + pF S a j) = sumTo a _ + sumTo j _ + pF S a j
        omega
      have hR := hT2.1
      refine brF (nI_ge hj (by omega)) (s1_roadLengthN hC ok ha hj (brR (by omega) (fun z => fa1 (hw R fr to ln ⟨?_, hT2.2.1, fun a' b' q1 q2 q3 q4 => ?_⟩)) (fun z => ?_)))
      · rw [pj, show pF S a j = 0 by unfold pF; rw [z]; simp]; exact hR
      · by_cases e : a' = a ∧ b' = j
        · rw [e.1, e.2, z] at q3; omega
        · exact hT2.2.2 a' b' q1 q2 q3 (by omega)
      · have p1 : pF S a j = 1 := by unfold pF; rw [decide_eq_true z, decide_eq_true (show a < j by omega)]; rfl
        rw [show (15 : Int32) = nI 15 from rfl, i_leN (by omega) (by omega), nI_clamp (by omega), cR_pos z]
        have iR : vp_in (nI R) 15 := nI_in (by omega) (by omega)
        refine brF (by omega) ⟨iR, iR, iR, fa1 (fa1 (hw (R + 1) _ _ _ ⟨by omega, fun i hi => ?_, fun a' b' q1 q2 q3 q4 => ?_⟩))⟩
        · show ∃ a' b', a' < b' ∧ b' < S 0 ∧ 0 < rd S a' b' ∧ (if i = R then nI a else fr i) = nI a' ∧ (if i = R then nI j else to i) = nI b' ∧ (if i = R then nI (rd S a j) else ln i) = nI (rd S a' b')
          by_cases e : i = R
          · rw [if_pos e, if_pos e, if_pos e]; exact ⟨a, j, by omega, hj, z, rfl, rfl, rfl⟩
          · rw [if_neg e, if_neg e, if_neg e]; exact hT2.2.1 i (by omega)
        · show ∃ i, i < R + 1 ∧ (if i = R then nI a else fr i) = nI a' ∧ (if i = R then nI j else to i) = nI b'
          by_cases e : a' = a ∧ b' = j
          · exact ⟨R, by omega, by rw [if_pos rfl, e.1], by rw [if_pos rfl, e.2]⟩
          · obtain ⟨i, hi, q5, q6⟩ := hT2.2.2 a' b' q1 q2 q3 (by omega)
            exact ⟨i, by omega, by rw [if_neg (by omega)]; exact q5, by rw [if_neg (by omega)]; exact q6⟩
def AgL (w : Nat → Int32) (S : Nat → Nat) (x N : Nat) : Prop := ∀ t, t < N → w t = cY (hd S t x)
def kn (S : Nat → Nat) (x t : Nat) : Bool := decide (0 < hd S t x)
theorem cY_p1 {n : Nat} (h : n < 2 ^ 31) : cY n + (1 : Int32) = nI n := by
  cases n with
  | zero => rfl
  | succ n => rw [cY_succ, nI_p1]
theorem c_takeReports {C : Nat → Int32} {S : Nat → Nat} (hC : AgC C S) (ok : OK S) {x : Nat} (hx : x < 6) {k0 : Int32} {e0 l0 : Nat → Int32} {post : Int32 → Int32 → (Nat → Int32) → (Nat → Int32) → Prop}
    (h : ∀ e l, AgY e (S 0) (bdS S x) → AgL l S x (S 0) → post (bI (hasH S x)) (nI (mk (kn S x) (S 0))) e l) : P_X0_takeReports (nI (S 0)) k0 e0 l0 C (nI x) post := by
  have hT := ok.T
  unfold P_X0_takeReports
  let f : Nat → Bool := fun t => !cond S t x
  have key := forN (fun n i => ∀ e l, AgY e i (bdS S x) → AgL l S x i → P_X0_takeReports_l10 (nI (S 0)) k0 e0 l0 C (nI x) post n (nI (mk (kn S x) i)) e l (bI (allB i f)) (nI i)) (S 0) ?_ ?_ 0 (Nat.zero_le _)
  · obtain ⟨n, hn⟩ := key; exact ⟨n, hn e0 l0 (fun t ht => absurd ht (by omega)) (fun t ht => absurd ht (by omega))⟩
  · intro n e l he hl
    show P_X0_takeReports_b10 _ _ _ _ _ _ _ _ _ _ _ _ _
    unfold P_X0_takeReports_b10
    exact brT (nI_le (Nat.le_refl _) (by omega)) ⟨bI_nb _, h e l he hl⟩
  · intro n i hi hv e l he hl
    show P_X0_takeReports_b10 _ _ _ _ _ _ _ _ _ _ _ _ _
    have y1 : hd S i x ≤ 1000 := ok.h1k (by omega) hx
    have y0 : nt S i x ≤ 1000 := ok.n1k (by omega) hx
    have iN : vp_in (nI i) 10 := nI_in (by omega) (by omega)
    unfold P_X0_takeReports_b10 P_X0_takeReports_b100 P_X0_takeReports_b101 P_X0_takeReports_b102
    refine brF (nI_ge hi (by omega)) (s1_reportedYear hC ok ⟨iN, s1_reportedYear hC ok ⟨iN, iN, ?_⟩⟩)
    rw [yrX_h hi hx hT, yrX_n hi hx hT, cY_p1 (by omega), nI_clamp (by omega)]
    have ue : ∀ v, upd l i v i = v := fun v => if_pos rfl
    have ue2 : ∀ v, upd e i v i = v := fun v => if_pos rfl
    rw [ue, ue2]
    have E' : AgY (upd e i (nI (nt S i x))) (i + 1) (bdS S x) := fun t ht => by
      show (if t = i then nI (nt S i x) else e t) = nI (bdS S x t)
      by_cases g : t = i
      · rw [if_pos g, g]; rfl
      · rw [if_neg g]; exact he t (by omega)
    have L' : AgL (upd l i (cY (hd S i x))) S x (i + 1) := fun t ht => by
      show (if t = i then cY (hd S i x) else l t) = cY (hd S t x)
      by_cases g : t = i
      · rw [if_pos g, g]
      · rw [if_neg g]; exact hl t (by omega)
    have hv' := hv _ _ E' L'
    refine brY (by omega) (fun z => fa1 ?_) (fun z => fae ?_)
    · have ek : mk (kn S x) (i + 1) = mk (kn S x) i := if_neg (by unfold kn; rw [decide_eq_false (by omega)]; decide)
      have ef : allB (i + 1) f = allB i f := by
        show (allB i f && !cond S i x) = _
        rw [show cond S i x = false from decide_eq_false (by omega)]; simp
      rw [ek, ef] at hv'; exact hv'
    · have ek : mk (kn S x) (i + 1) = mk (kn S x) i ||| 2 ^ i := if_pos (decide_eq_true z)
      rw [mk_or1 (by omega), ← ek]
      have t1 : (allB i f && !cond S i x) = true → P_X0_takeReports_l10 (nI (S 0)) k0 e0 l0 C (nI x) post n (nI (mk (kn S x) (i + 1))) (upd e i (nI (nt S i x))) (upd l i (cY (hd S i x))) 1 (nI (i + 1)) := fun g => by
        rw [show allB (i + 1) f = true from g] at hv'; exact hv'
      have t0 : (allB i f && !cond S i x) = false → P_X0_takeReports_l10 (nI (S 0)) k0 e0 l0 C (nI x) post n (nI (mk (kn S x) (i + 1))) (upd e i (nI (nt S i x))) (upd l i (cY (hd S i x))) 0 (nI (i + 1)) := fun g => by
        rw [show allB (i + 1) f = false from g] at hv'; exact hv'
      refine bI_br (fun g => fa1 (t0 (by rw [g]; rfl))) (fun g => ⟨iN, iN, ?_⟩)
      have lt : (cY (hd S i x) < nI (nt S i x)) ↔ hd S i x ≤ nt S i x := by
        rw [i_lt, cY_toInt (by omega), nI_toInt (by omega)]; omega
      rw [propext lt]
      refine br (fun q => fa1 (t0 ?_)) (fun q => fa1 (t1 ?_))
      · rw [g, show cond S i x = true from decide_eq_true ⟨z, q⟩]; rfl
      · rw [g, show cond S i x = false from decide_eq_false (fun w => q w.2)]; rfl
def inE (N : Nat) (s : Nat) (e : Nat → Nat) : Nat → Nat := fun t => if s.testBit t = true then e t else 1000
theorem c_inventIn {N s : Nat} {e w : Nat → Int32} {bd : Nat → Nat} (hN : N ≤ 10) (hE : AgY e N bd) (hs : s < 2 ^ 31) {post : (Nat → Int32) → Prop} (h : ∀ w', AgY w' N (inE N s bd) → post w') : P_X0_inventIn (nI N) e w (nI s) post := by
  unfold P_X0_inventIn
  have key := forN (fun n i => ∀ w', AgY w' i (inE N s bd) → P_X0_inventIn_l2 (nI N) e w (nI s) post n w' (nI i)) N ?_ ?_ 0 (Nat.zero_le _)
  · obtain ⟨n, hn⟩ := key; exact ⟨n, hn w (fun t ht => absurd ht (by omega))⟩
  · intro n w' hw
    show P_X0_inventIn_b2 _ _ _ _ _ _ _ _
    unfold P_X0_inventIn_b2
    exact brT (nI_le (Nat.le_refl _) (by omega)) (h w' hw)
  · intro n i hi hv w' hw
    show P_X0_inventIn_b2 _ _ _ _ _ _ _ _
    unfold P_X0_inventIn_b2 P_X0_inventIn_b36
    rw [nI_bit hs (by omega), nI_clamp (by omega), hE i hi]
    have iN : vp_in (nI i) 10 := nI_in (by omega) (by omega)
    have put : ∀ v, v = inE N s bd i → AgY (upd w' i (nI v)) (i + 1) (inE N s bd) := fun v hv t ht => by
      show (if t = i then nI v else w' t) = _
      by_cases e : t = i
      · rw [if_pos e, e, hv]
      · rw [if_neg e]; exact hw t (by omega)
    refine brF (nI_ge hi (by omega)) (br (fun q => ⟨iN, iN, fa1 (hv _ (put _ ?_))⟩) (fun q => ⟨iN, fa1 (hv _ (put 1000 ?_))⟩))
    · have e : s.testBit i = true := by cases z : s.testBit i with
        | true => rfl
        | false => rw [z] at q; exact absurd q (by decide)
      unfold inE; rw [if_pos e]
    · have e : ¬ s.testBit i = true := fun z => by rw [z] at q; exact q rfl
      unfold inE; rw [if_neg e]
theorem c_knownInTime {S : Nat → Nat} (ok : OK S) {x : Nat} (hx : x < 6) {l w : Nat → Int32} {y : Nat → Nat} (hL : AgL l S x (S 0)) (hY : AgY w (S 0) y) (hc : ∀ t, t < S 0 → y t ≤ 2000) {post : Int32 → Prop} (h : post (nI (mk (fun t => decide (y t < hd S t x)) (S 0)))) : P_X0_knownInTime (nI (S 0)) l w post := by
  have hT := ok.T
  unfold P_X0_knownInTime
  refine forN (fun n i => P_X0_knownInTime_l4 (nI (S 0)) l w post n (nI (mk (fun t => decide (y t < hd S t x)) i)) (nI i)) (S 0) ?_ ?_ 0 (Nat.zero_le _)
  · intro n
    show P_X0_knownInTime_b4 _ _ _ _ _ _ _
    unfold P_X0_knownInTime_b4
    exact brT (nI_le (Nat.le_refl _) (by omega)) h
  · intro n i hi hv
    show P_X0_knownInTime_b4 _ _ _ _ _ _ _
    unfold P_X0_knownInTime_b4 P_X0_knownInTime_b33
    have y1 : hd S i x ≤ 1000 := ok.h1k (by omega) hx
    have yc := hc i hi
    have iN : vp_in (nI i) 10 := nI_in (by omega) (by omega)
    have lt : (cY (hd S i x) < nI (y i)) ↔ hd S i x ≤ y i := by
      rw [i_lt, cY_toInt (by omega), nI_toInt (by omega)]; omega
    rw [nI_clamp (by omega), hL i hi, hY i hi, propext lt, mk_or1 (by omega)]
    refine brF (nI_ge hi (by omega)) ⟨iN, iN, br (fun q => fa1 ?_) (fun q => fae (fa1 ?_))⟩
    · rw [show mk (fun t => decide (y t < hd S t x)) (i + 1) = mk (fun t => decide (y t < hd S t x)) i from if_neg (fun w => by have := of_decide_eq_true w; omega)] at hv; exact hv
    · rw [show mk (fun t => decide (y t < hd S t x)) (i + 1) = mk (fun t => decide (y t < hd S t x)) i ||| 2 ^ i from if_pos (decide_eq_true (by omega))] at hv; exact hv
