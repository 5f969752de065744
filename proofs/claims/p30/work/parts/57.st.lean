/-! the class studies a trait -/
theorem c_explainAlone {S : Nat → Nat} (ok : OK S) {x : Nat} (hx : x < 6) {R : Nat} {fr to ln e l w0 x0 : Nat → Int32} (hR : R ≤ 15) (hRO : RO S R fr to ln) (hE : AgY e (S 0) (bdS S x)) (hL : AgL l S x (S 0)) {post : (Nat → Int32) → (Nat → Int32) → Prop}
    (h : ∀ w xp, (mk (kn S x) (S 0) ≠ 0 → ∀ t, t < S 0 → xp t = nI (mk (ex1 S x t) (S 0))) → post w xp) : P_X0_explainAlone (nI (S 0)) (nI R) (nI (mk (kn S x) (S 0))) fr to ln e l w0 x0 post := by
  have hT := ok.T
  have l2 := mk_1024 (kn S x) hT
  have bd1k : ∀ t, t < S 0 → bdS S x t ≤ 1000 := fun t ht => ok.n1k (by omega) hx
  unfold P_X0_explainAlone
  have key := forN (fun n i => ∀ w xp, (∀ t, t < i → xp t = nI (mk (ex1 S x t) (S 0))) → P_X0_explainAlone_l2 (nI (S 0)) (nI R) (nI (mk (kn S x) (S 0))) fr to ln e l w0 x0 post n w xp (nI i)) (S 0) ?_ ?_ 0 (Nat.zero_le _)
  · obtain ⟨n, hn⟩ := key; exact ⟨n, hn _ _ (fun t ht => absurd ht (by omega))⟩
  · intro n w xp hxp
    show P_X0_explainAlone_b2 _ _ _ _ _ _ _ _ _ _ _ _ _ _ _
    unfold P_X0_explainAlone_b2 P_X0_explainAlone_b44
    exact brT (nI_le (Nat.le_refl _) (by omega)) (h _ _ (fun _ => hxp))
  · intro n i hi hv w xp hxp
    show P_X0_explainAlone_b2 _ _ _ _ _ _ _ _ _ _ _ _ _ _ _
    unfold P_X0_explainAlone_b2 P_X0_explainAlone_b44
    refine brF (nI_ge hi (by omega)) (brE0 (by omega) (fun k0 => h _ _ (fun q => absurd k0 q)) (fun _ => ?_))
    rw [nI_shl1 i (by omega)]
    have p10 : 2 ^ i ≤ 1024 := pow10 (by omega)
    refine c_inventIn hT hE (by omega) (fun w1 hw1 => c_spread ok hR hRO hE bd1k (ini_le ok (s := 2 ^ i) (c := 1000) hx (Nat.le_refl _)) hw1 (fun w2 Y hY hw2 => ?_))
    have hYc : ∀ t, t < S 0 → Y t ≤ 2000 := fun t ht => by have q1 := hY.1.1 t ht; have q2 := ini_le ok (s := 2 ^ i) (c := 1000) hx (by omega) t ht; have q3 : Y t ≤ ini S x (2 ^ i) 1000 t := q1; omega
    refine c_knownInTime ok hx hL hw2 hYc ⟨nI_in (by omega) (by omega), fa1 (hv _ _ (fun t ht => ?_))⟩
    rw [nI_clamp (by omega)]
    have e1 : mk (fun t => decide (Y t < hd S t x)) (S 0) = mk (ex1 S x i) (S 0) := (mk_eq _ _ _).mpr (fun u hu => by
      have := GSol_uniq hY (gs_sol S x exN (ini S x (2 ^ i) 1000)) u hu
      unfold ex1
      rw [← this])
    show (if t = i then nI (mk (fun t => decide (Y t < hd S t x)) (S 0)) else xp t) = _
    by_cases g : t = i
    · rw [if_pos g, g, e1]
    · rw [if_neg g]; exact hxp t (by omega)
def orgN : Option (Nat × Nat × Nat × Nat × Nat) → Nat
  | none => 0
  | some (_, o, _, _, _) => o
def feI : Option (Nat × Nat × Nat × Nat × Nat) → Int32
  | none => -1
  | some (L, _, _, _, _) => nI L
def FLr (q : Option (Nat × Nat × Nat × Nat × Nat)) (fe og al so ls : Int32) : Prop := match q with
  | none => fe = -1
  | some (L, o, A, B, c) => fe = nI L ∧ og = nI o ∧ al = nI A ∧ so = nI B ∧ ls = nI c
theorem fl_o {E : Nat → Bool} {n L o A B c : Nat} (e : fl E n = some (L, o, A, B, c)) : o < n := by
  induction n generalizing L o A B c with
  | zero => exact nomatch e
  | succ n ih =>
    cases hE : E n with
    | false => rw [fl_no hE] at e; exact Nat.lt_succ_of_lt (ih e)
    | true =>
      cases hq : fl E n with
      | none => rw [fl_new hE (Or.inl hq)] at e; cases e; omega
      | some q =>
        obtain ⟨L', o', A', B', c'⟩ := q
        by_cases h1 : pc n < L'
        · rw [fl_new hE (Or.inr ⟨_, _, _, _, _, hq, h1⟩)] at e; cases e; omega
        · by_cases h2 : pc n = L'
          · rw [fl_eq hE hq h2] at e; cases e; exact Nat.lt_succ_of_lt (ih hq)
          · rw [fl_more hq (by omega)] at e; cases e; exact Nat.lt_succ_of_lt (ih hq)
theorem orgN_lt {S : Nat → Nat} (ok : OK S) {x : Nat} : orgN (FL S x) < 1024 := by
  have p10 := pow10 ok.T
  unfold FL
  split
  · cases hq : fl (EX S x) (2 ^ S 0) with
    | none => show 0 < 1024; omega
    | some q =>
      obtain ⟨L, o, A, B, c⟩ := q
      have := fl_o hq
      show o < 1024; omega
  · show 0 < 1024; omega
def HS (S : Nat → Nat) (x : Nat) : BH → Prop
  | (tw, ro, kk, fe, og, al, so, ls, fr, to, ln, ea, la, ye, _, tg) =>
    tw = nI (S 0) ∧ (∃ R, ro = nI R ∧ R ≤ 15 ∧ RO S R fr to ln) ∧ kk = nI (mk (kn S x) (S 0)) ∧ AgY ea (S 0) (bdS S x) ∧ AgL la S x (S 0) ∧
    (∃ Y, GSol (S 0) (bdS S x) (rd S) exN (ini S x (orgN (FL S x)) 1000) Y ∧ AgY ye (S 0) Y) ∧ FLr (FL S x) fe og al so ls ∧ (FL S x ≠ none → mk (kn S x) (S 0) ≠ 0 → ∀ s, s < 2 ^ S 0 → tg s = nI (mk (cv S x s) (S 0)))
theorem c_study {C : Nat → Int32} {S : Nat → Nat} (hC : AgC C S) (ok : OK S) {x : Nat} (hx : x < 6) {b : BH} {post : Int32 → BH → Prop} (h : ∀ b', HS S x b' → post (feI (FL S x)) b') : P_X0_study b C (nI x) post := by
  have hT := ok.T
  have bd1k : ∀ t, t < S 0 → bdS S x t ≤ 1000 := fun t ht => ok.n1k (by omega) hx
  unfold P_X0_study
  refine s1_townCount hC (fae ?_)
  rw [show (if (10 : Int32) < nI (S 0) then (10 : Int32) else nI (S 0)) = nI (S 0) from if_neg (by rw [show (10 : Int32) = nI 10 from rfl, i_ltN (by omega) (by omega)]; omega)]
  refine c_takeRoads hC ok (fun R fr to ln hR hRO => c_takeReports hC ok hx (fun e l hE hL => bI_br (fun hh => ?_) (fun hh => ?_)))
  · have hF : FL S x = none := if_neg (by rw [hh]; decide)
    unfold P_X0_study_b45
    refine c_inventIn (s := 0) hT hE (by omega) (fun w1 hw1 => c_spread ok hR hRO hE bd1k (ini_le ok (s := 0) (c := 1000) hx (Nat.le_refl _)) hw1 (fun w2 Y hY hw2 => ?_))
    have := h (nI (S 0), nI R, nI (mk (kn S x) (S 0)), -1, 0, b.2.2.2.2.2.1, b.2.2.2.2.2.2.1, b.2.2.2.2.2.2.2.1, fr, to, ln, e, l, w2, b.2.2.2.2.2.2.2.2.2.2.2.2.2.2.1, b.2.2.2.2.2.2.2.2.2.2.2.2.2.2.2)
      ⟨rfl, ⟨R, rfl, hR, hRO⟩, rfl, hE, hL, ⟨Y, by rw [hF]; exact hY, hw2⟩, by rw [hF]; exact rfl, fun q => absurd hF q⟩
    rw [hF] at this
    exact this
  · have hF : FL S x = fl (EX S x) (2 ^ S 0) := if_pos hh
    have ne := FL_some ok hx hh
    have hO := orgN_lt ok (x := x)
    refine c_explainAlone ok hx hR hRO hE hL (fun w xp hX => c_weighSets ok hx hX (fun fw og al so ls tg hW hg => ?_))
    unfold P_X0_study_b45
    rw [← hF] at hW
    cases hq : FL S x with
    | none => exact absurd hq ne
    | some q =>
      obtain ⟨L, o, A, B, c⟩ := q
      rw [hq] at hW hO h
      have w := hW
      obtain ⟨w1, w2, w3, w4, w5⟩ := w
      rw [w2]
      refine c_inventIn (s := o) hT hE (Nat.lt_trans hO (by omega)) (fun v1 hv1 => c_spread ok hR hRO hE bd1k (ini_le ok (s := o) (c := 1000) hx (Nat.le_refl _)) hv1 (fun v2 Y hY hv2 => ?_))
      have := h (nI (S 0), nI R, nI (mk (kn S x) (S 0)), fw, nI o, al, so, ls, fr, to, ln, e, l, v2, xp, tg)
        ⟨rfl, ⟨R, rfl, hR, hRO⟩, rfl, hE, hL, ⟨Y, by rw [hq]; exact hY, hv2⟩, by rw [hq]; exact ⟨w1, rfl, w3, w4, w5⟩, fun _ => hg⟩
      rw [show feI (some (L, o, A, B, c)) = fw from w1.symm] at this
      exact this
