/-! the dearest report, the class's side -/
noncomputable def deS (S : Nat → Nat) (q : Option Nat × Nat) (t x : Nat) : Option Nat × Nat :=
  if repd S t x = true ∧ allN (dropS S t x) < q.2 then (some (10 * t + x), allN (dropS S t x)) else q
noncomputable def deIn (S : Nat → Nat) (t : Nat) (q : Option Nat × Nat) : Nat → Option Nat × Nat
  | 0 => q
  | x + 1 => deS S (deIn S t q x) t x
noncomputable def deOut (S : Nat → Nat) : Nat → Option Nat × Nat
  | 0 => (none, allN S)
  | t + 1 => deIn S t (deOut S t) 6
theorem note_back {C : Nat → Int32} {S : Nat → Nat} (hC : AgC C S) (ok : OK S) {t x v : Nat} {has : Int32} (ht : t < S 0) (hx : x < 6) (hv : v ≤ 1000) (hz : S (noteK t x has) = 0) {post : Int32 → (Nat → Int32) → Prop} (h : ∀ r m, AgC m (setS S (noteK t x has) v) → post r m) : P_X1_note C (nI t) (nI x) (cY v) has post := by
  have hT := ok.T
  have zh : has ≠ 0 → hd S t x = 0 := fun q => by unfold noteK at hz; rw [if_neg q] at hz; exact hz
  have zn : has = 0 → nt S t x = 0 := fun q => by unfold noteK at hz; rw [if_pos q] at hz; exact hz
  by_cases e : v = 0
  · have hno : isNote S (nI t) (nI x) (cY v) = false := decide_eq_false (fun w => by
      have := of_decide_eq_true w.2.2
      rw [e, show (cY 0).toInt = -1 from rfl] at this; omega)
    refine s1_note hC ok (fun _ => h _ _ (AgC_congr hC (fun k _ => ?_))) (fun z => by rw [hno] at z; exact nomatch z)
    unfold setS
    by_cases g : k = noteK t x has
    · rw [if_pos g, g, hz, e]
    · rw [if_neg g]
  · obtain ⟨y, rfl⟩ : ∃ y, v = y + 1 := ⟨v - 1, by omega⟩
    rw [cY_succ]
    have hno : isNote S (nI t) (nI x) (nI y) = true := decide_eq_true ⟨isT_in (by omega) ht, isT_in (by omega) hx, decide_eq_true (by rw [nI_toInt (by omega)]; omega)⟩
    refine s1_note hC ok (fun z => by rw [hno] at z; exact nomatch z) (fun _ C' hC' => h _ _ ?_)
    rw [NN_nI (by omega), NN_nI (by omega), NN_nI (by omega)] at hC'
    have nn : noteN S t x y has = true := by
      unfold noteN
      by_cases q : has = 0
      · rw [if_pos q]; exact decide_eq_true (by rw [zn q]; omega)
      · rw [if_neg q]; exact decide_eq_true (Or.inl (zh q))
    unfold noteS at hC'
    rw [if_pos nn] at hC'
    exact hC'
theorem OK_set {S : Nat → Nat} (ok : OK S) {t x v : Nat} {has : Int32} (ht : t < S 0) (hx : x < 6) (hv : v ≤ 1000) (hz : S (noteK t x has) = 0) : OK (setS S (noteK t x has) v) := by
  by_cases e : v = 0
  · have : setS S (noteK t x has) v = S := funext fun k => by
      unfold setS
      by_cases g : k = noteK t x has
      · rw [if_pos g, g, hz, e]
      · rw [if_neg g]
    rw [this]; exact ok
  · obtain ⟨y, rfl⟩ : ∃ y, v = y + 1 := ⟨v - 1, by omega⟩
    have zh : has ≠ 0 → hd S t x = 0 := fun q => by unfold noteK at hz; rw [if_neg q] at hz; exact hz
    have zn : has = 0 → nt S t x = 0 := fun q => by unfold noteK at hz; rw [if_pos q] at hz; exact hz
    have nn : noteN S t x y has = true := by
      unfold noteN
      by_cases q : has = 0
      · rw [if_pos q]; exact decide_eq_true (by rw [zn q]; omega)
      · rw [if_neg q]; exact decide_eq_true (Or.inl (zh q))
    have := OK_noteS ok ht hx (show y < 1000 by omega) has
    unfold noteS at this
    rw [if_pos nn] at this; exact this
theorem mx0 (S : Nat → Nat) (x : Nat) : (if feI (FL S x) < (0 : Int32) then (0 : Int32) else feI (FL S x)) = nI (feN (FL S x)) := by
  have l := FL_le (S := S) (x := x)
  cases hq : FL S x with
  | none => rfl
  | some v => rw [← hq, feI_n (by rw [hq]; exact fun z => nomatch z), if_neg (nI_pos (by omega))]
theorem c_costOfReport {C : Nat → Int32} {S : Nat → Nat} {bh : BH} (hC : AgC C S) (ok : OK S) {t x : Nat} (ht : t < S 0) (hx : x < 6) {post : Int32 → (Nat → Int32) → BH → Prop} (h : ∀ m b', AgC m S → post (nI (feN (FL S x)) - nI (feN (FL (dropS S t x) x))) m b') : P_X3_costOfReport C bh (nI t) (nI x) post := by
  have hT := ok.T
  have okd := OK_dropS ok (a := t) (t := x) (by omega) hx
  have h1k : hd S t x ≤ 1000 := ok.h1k (by omega) hx
  have n1k : nt S t x ≤ 1000 := ok.n1k (by omega) hx
  have d0 : dropS S t x 0 = S 0 := by unfold dropS; rw [setS_ne (by omega), setS_ne (by omega)]
  have dh : dropS S t x (101 + 6 * t + x) = 0 := by unfold dropS; rw [setS_ne (by omega), setS_eq]
  have dn : dropS S t x (161 + 6 * t + x) = 0 := by unfold dropS; rw [setS_eq]
  have k1 : noteK t x 1 = 101 + 6 * t + x := by unfold noteK; rw [if_neg (by decide)]
  have k0 : noteK t x 0 = 161 + 6 * t + x := by unfold noteK; rw [if_pos rfl]
  unfold P_X3_costOfReport
  refine s1_reportedYear hC ok (s1_reportedYear hC ok ?_)
  rw [yrX_h ht hx hT, yrX_n ht hx hT]
  refine c_study hC ok hx (fun b1 _ => fae ?_)
  refine s1_drop hC ok (fun z => (of_decide_eq_false z ⟨isT_in (by omega) ht, isT_in (by omega) hx⟩).elim) (fun _ C' hC' => ?_)
  rw [NN_nI (by omega), NN_nI (by omega)] at hC'
  refine c_study hC' okd hx (fun b2 _ => fae ?_)
  rw [mx0, mx0]
  refine note_back hC' okd (by rw [d0]; exact ht) hx h1k (by rw [k1]; exact dh) (fun r m hm => ?_)
  have ok2 := OK_set okd (has := 1) (v := hd S t x) (by rw [d0]; exact ht) hx h1k (by rw [k1]; exact dh)
  rw [k1] at hm ok2
  refine note_back hm ok2 (by rw [setS_ne (by omega), d0]; exact ht) hx n1k (by rw [k0, setS_ne (by omega)]; exact dn) (fun r2 m2 hm2 => h m2 b2 (AgC_congr hm2 (fun k _ => ?_)))
  rw [k0]
  unfold dropS setS
  by_cases g : k = 161 + 6 * t + x
  · rw [if_pos g, g]
  · rw [if_neg g]
    by_cases f : k = 101 + 6 * t + x
    · rw [if_pos f, f]
    · rw [if_neg f, if_neg g, if_neg f]
