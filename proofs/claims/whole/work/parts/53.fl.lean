/-! the model finds the least histories -/
theorem nI_and {a b : Nat} : nI a &&& nI b = nI (a &&& b) := by
  have : ∀ x y : Int32, x.toBitVec = y.toBitVec → x = y := fun x y h => Int32.toBitVec_inj.mp h
  apply this
  show BitVec.ofNat 32 a &&& BitVec.ofNat 32 b = BitVec.ofNat 32 (a &&& b)
  apply BitVec.eq_of_toNat_eq
  rw [BitVec.toNat_and, BitVec.toNat_ofNat, BitVec.toNat_ofNat, BitVec.toNat_ofNat, Nat.and_mod_two_pow]
def allB : Nat → (Nat → Bool) → Bool
  | 0, _ => true
  | n + 1, f => allB n f && f n
theorem allB_iff {n : Nat} {f : Nat → Bool} : allB n f = true ↔ ∀ t, t < n → f t = true := by
  induction n with
  | zero => exact ⟨fun _ t ht => absurd ht (by omega), fun _ => rfl⟩
  | succ n ih =>
    show (allB n f && f n) = true ↔ _
    rw [Bool.and_eq_true_iff, ih]
    constructor
    · intro ⟨h1, h2⟩ t ht
      by_cases e : t = n
      · rw [e]; exact h2
      · exact h1 t (by omega)
    · exact fun h => ⟨fun t ht => h t (by omega), h n (by omega)⟩
theorem allB_congr {n : Nat} {f g : Nat → Bool} (h : ∀ t, t < n → f t = g t) : allB n f = allB n g := by
  induction n with
  | zero => rfl
  | succ n ih => show (allB n f && f n) = (allB n g && g n); rw [ih (fun t ht => h t (by omega)), h n (by omega)]
/-- the years at the beginning: those of the set's towns alone -/
def ini (S : Nat → Nat) (x s c : Nat) : Nat → Nat := fun t => if s.testBit t = true then bdS S x t else c
noncomputable def gs (S : Nat → Nat) (x : Nat) (ex : Nat → Bool) (y0 : Nat → Nat) : Nat → Nat := Classical.choose (gs_ex (N := S 0) (bd := bdS S x) (ln := rd S) (ex := ex) (y0 := y0))
theorem gs_sol (S : Nat → Nat) (x : Nat) (ex : Nat → Bool) (y0 : Nat → Nat) : GSol (S 0) (bdS S x) (rd S) ex y0 (gs S x ex y0) := Classical.choose_spec (gs_ex (N := S 0) (bd := bdS S x) (ln := rd S) (ex := ex) (y0 := y0))
def exN : Nat → Bool := fun _ => false
def inT (S : Nat → Nat) (x : Nat) (y : Nat → Nat) : Bool := allB (S 0) (fun t => decide (hd S t x = 0 ∨ y t < hd S t x))
noncomputable def EX (S : Nat → Nat) (x s : Nat) : Bool := inT S x (gs S x exN (ini S x s 100000))
def hasH (S : Nat → Nat) (x : Nat) : Bool := allB (S 0) (fun t => !cond S t x)
def fl (E : Nat → Bool) : Nat → Option (Nat × Nat × Nat × Nat × Nat)
  | 0 => none
  | n + 1 => match fl E n with
    | none => if E n = true then some (pc n, n, n, n, 1) else none
    | some (L, o, A, B, c) => if E n = true then (if pc n < L then some (pc n, n, n, n, 1) else if pc n = L then some (L, o, A &&& n, B ||| n, c + 1) else some (L, o, A, B, c)) else some (L, o, A, B, c)
noncomputable def FL (S : Nat → Nat) (x : Nat) : Option (Nat × Nat × Nat × Nat × Nat) := if hasH S x = true then fl (EX S x) (2 ^ S 0) else none
def BMof (q : Option (Nat × Nat × Nat × Nat × Nat)) (w : Nat → Int32) : BM := match q with
  | none => (-1, -1, -1, -1, -1, w)
  | some (L, o, A, B, c) => (nI L, nI o, nI A, nI B, nI c, w)
theorem fl_no {E : Nat → Bool} {n : Nat} (h : E n = false) : fl E (n + 1) = fl E n := by
  show (match fl E n with | none => _ | some (L, o, A, B, c) => _) = _
  cases fl E n with
  | none => show (if E n = true then _ else none) = none; rw [if_neg (by rw [h]; decide)]
  | some q => obtain ⟨L, o, A, B, c⟩ := q; show (if E n = true then _ else some (L, o, A, B, c)) = _; rw [if_neg (by rw [h]; decide)]
theorem fl_new {E : Nat → Bool} {n : Nat} (h : E n = true) (h2 : fl E n = none ∨ ∃ L o A B c, fl E n = some (L, o, A, B, c) ∧ pc n < L) : fl E (n + 1) = some (pc n, n, n, n, 1) := by
  show (match fl E n with | none => _ | some (L, o, A, B, c) => _) = _
  rcases h2 with e | ⟨L, o, A, B, c, e, hl⟩
  · rw [e]; exact if_pos h
  · rw [e]; show (if E n = true then (if pc n < L then _ else _) else _) = _; rw [if_pos h, if_pos hl]
theorem fl_eq {E : Nat → Bool} {n L o A B c : Nat} (h : E n = true) (e : fl E n = some (L, o, A, B, c)) (hl : pc n = L) : fl E (n + 1) = some (L, o, A &&& n, B ||| n, c + 1) := by
  show (match fl E n with | none => _ | some (L, o, A, B, c) => _) = _
  rw [e]; show (if E n = true then (if pc n < L then _ else if pc n = L then _ else _) else _) = _; rw [if_pos h, if_neg (by omega), if_pos hl]
theorem fl_more {E : Nat → Bool} {n L o A B c : Nat} (e : fl E n = some (L, o, A, B, c)) (hl : L < pc n) : fl E (n + 1) = some (L, o, A, B, c) := by
  show (match fl E n with | none => _ | some (L, o, A, B, c) => _) = _
  rw [e]; show (if E n = true then (if pc n < L then _ else if pc n = L then _ else _) else _) = _
  rw [if_neg (show ¬ pc n < L by omega), if_neg (show ¬ pc n = L by omega)]; split <;> rfl
theorem fl_le {E : Nat → Bool} {n L o A B c : Nat} (e : fl E n = some (L, o, A, B, c)) : L ≤ 10 := by
  induction n generalizing L o A B c with
  | zero => exact nomatch e
  | succ n ih =>
    cases hE : E n with
    | false => rw [fl_no hE] at e; exact ih e
    | true =>
      cases hq : fl E n with
      | none => rw [fl_new hE (Or.inl hq)] at e; cases e; exact pc_le n
      | some q =>
        obtain ⟨L', o', A', B', c'⟩ := q
        by_cases h1 : pc n < L'
        · rw [fl_new hE (Or.inr ⟨_, _, _, _, _, hq, h1⟩)] at e; cases e; exact pc_le n
        · by_cases h2 : pc n = L'
          · rw [fl_eq hE hq h2] at e; cases e; exact ih hq
          · rw [fl_more hq (by omega)] at e; cases e; exact ih hq
theorem x6_layOrigins {r w : Nat → Int32} {S : Nat → Nat} (hM : AgM r S) (ok : OK S) {x s : Nat} (hx : x < 6) (hs : s < 2 ^ 31) {post : (Nat → Int32) → Prop} (h : ∀ w', AgY w' (S 0) (ini S x s 100000) → post w') : P_X6_layOrigins 221 w r (nI x) (nI s) post := by
  have hT := ok.T
  unfold P_X6_layOrigins
  have key := forN (fun n i => ∀ w', AgY w' i (ini S x s 100000) → P_X6_layOrigins_l3 221 w r (nI x) (nI s) post n w' (nI i)) (S 0) ?_ ?_ 0 (Nat.zero_le _)
  · obtain ⟨n, hn⟩ := key; exact ⟨n, hn w (fun t ht => absurd ht (by omega))⟩
  · intro n w' hw
    show P_X6_layOrigins_b3 _ _ _ _ _ _ _ _ _
    unfold P_X6_layOrigins_b3
    rw [m0 hM]
    exact ⟨nI_in (c := 0) (by omega) (by omega), brT (nI_le (Nat.le_refl _) (by omega)) (h w' hw)⟩
  · intro n i hi hv w' hw
    show P_X6_layOrigins_b3 _ _ _ _ _ _ _ _ _
    unfold P_X6_layOrigins_b3 P_X6_layOrigins_b39
    rw [m0 hM, nI_bit hs (by omega), nI_clamp (by omega)]
    have put : ∀ v, v = ini S x s 100000 i → AgY (upd w' i (nI v)) (i + 1) (ini S x s 100000) := fun v hv t ht => by
      show (if t = i then nI v else w' t) = _
      by_cases e : t = i
      · rw [if_pos e, e, hv]
      · rw [if_neg e]; exact hw t (by omega)
    refine ⟨nI_in (c := 0) (by omega) (by omega), brF (nI_ge hi (by omega)) (br (fun q => ?_) (fun q => ?_))⟩
    · have e : s.testBit i = true := by cases z : s.testBit i with
        | true => rfl
        | false => rw [z] at q; exact absurd q (by decide)
      exact x6_bound hM (by omega) hx ⟨nI_in (by omega) (by omega), fa1 (hv _ (put _ (by unfold ini; rw [if_pos e])))⟩
    · have e : ¬ s.testBit i = true := fun z => by rw [z] at q; exact q rfl
      exact ⟨nI_in (by omega) (by omega), fa1 (hv _ (put 100000 (by unfold ini; rw [if_neg e])))⟩
theorem x6_allInTime {r w : Nat → Int32} {S : Nat → Nat} (hM : AgM r S) (ok : OK S) {x : Nat} (hx : x < 6) {y : Nat → Nat} (hY : AgY w (S 0) y) (hc : ∀ t, t < S 0 → y t ≤ 200000) {post : Int32 → Prop} (h : post (bI (inT S x y))) : P_X6_allInTime 221 w r (nI x) post := by
  have hT := ok.T
  unfold P_X6_allInTime
  let f : Nat → Bool := fun t => decide (hd S t x = 0 ∨ y t < hd S t x)
  refine forN (fun n i => P_X6_allInTime_l5 221 w r (nI x) post n (bI (allB i f)) (nI i)) (S 0) ?_ ?_ 0 (Nat.zero_le _)
  · intro n
    show P_X6_allInTime_b5 _ _ _ _ _ _ _ _
    unfold P_X6_allInTime_b5
    rw [m0 hM]
    exact ⟨nI_in (c := 0) (by omega) (by omega), brT (nI_le (Nat.le_refl _) (by omega)) ⟨bI_nb _, h⟩⟩
  · intro n i hi hv
    show P_X6_allInTime_b5 _ _ _ _ _ _ _ _
    have y1 : S (101 + 6 * i + x) ≤ 1000 := ok.h1k (by omega) hx
    have yc := hc i hi
    obtain ⟨e1, e2⟩ := mxh (a := i) (b := x) (by omega) hx
    have h1 : (allB i f && f i) = true → P_X6_allInTime_l5 221 w r (nI x) post n 1 (nI (i + 1)) := fun e => by
      rw [show allB (i + 1) f = true from e] at hv; exact hv
    have h0 : (allB i f && f i) = false → P_X6_allInTime_l5 221 w r (nI x) post n 0 (nI (i + 1)) := fun e => by
      rw [show allB (i + 1) f = false from e] at hv; exact hv
    unfold P_X6_allInTime_b5 P_X6_allInTime_b49 P_X6_allInTime_b53 P_X6_allInTime_b54 P_X6_at
    rw [m0 hM]
    refine ⟨nI_in (c := 0) (by omega) (by omega), brF (nI_ge hi (by omega)) ⟨e2, fae ?_⟩⟩
    rw [e1, hM _ (by omega)]
    refine bI_br (fun e => fa1 (h0 (by rw [e]; rfl))) (fun e => brE0 (by omega) (fun z => fa1 (h1 ?_)) (fun z => ?_))
    · rw [e]; exact decide_eq_true (Or.inl z)
    · rw [nI_clamp (by omega), hY i hi, show nI (S (101 + 6 * i + x)) - (1 : Int32) = nI (S (101 + 6 * i + x) - 1) from nI_subN (b := 1) z, i_ltN (by omega) (by omega)]
      refine ⟨nI_in (by omega) (by omega), br (fun q => fa1 (h0 ?_)) (fun q => fa1 (h1 ?_))⟩
      · rw [e]; exact decide_eq_false (by show ¬ (S (101 + 6 * i + x) = 0 ∨ y i < S (101 + 6 * i + x)); omega)
      · rw [e]; exact decide_eq_true (by show (S (101 + 6 * i + x) = 0 ∨ y i < S (101 + 6 * i + x)); omega)
theorem x6_hasHistory {r : Nat → Int32} {S : Nat → Nat} (hM : AgM r S) (ok : OK S) {x : Nat} (hx : x < 6) {post : Int32 → Prop} (h : post (bI (hasH S x))) : P_X6_hasHistory 221 r (nI x) post := by
  have hT := ok.T
  unfold P_X6_hasHistory
  let f : Nat → Bool := fun t => !cond S t x
  refine forN (fun n i => P_X6_hasHistory_l4 221 r (nI x) post n (bI (allB i f)) (nI i)) (S 0) ?_ ?_ 0 (Nat.zero_le _)
  · intro n
    show P_X6_hasHistory_b4 _ _ _ _ _ _ _
    unfold P_X6_hasHistory_b4
    rw [m0 hM]
    exact ⟨nI_in (c := 0) (by omega) (by omega), brT (nI_le (Nat.le_refl _) (by omega)) ⟨bI_nb _, h⟩⟩
  · intro n i hi hv
    show P_X6_hasHistory_b4 _ _ _ _ _ _ _
    have h1 : (allB i f && f i) = true → P_X6_hasHistory_l4 221 r (nI x) post n 1 (nI (i + 1)) := fun e => by
      rw [show allB (i + 1) f = true from e] at hv; exact hv
    have h0 : (allB i f && f i) = false → P_X6_hasHistory_l4 221 r (nI x) post n 0 (nI (i + 1)) := fun e => by
      rw [show allB (i + 1) f = false from e] at hv; exact hv
    unfold P_X6_hasHistory_b4 P_X6_hasHistory_b28 P_X6_hasHistory_b29
    rw [m0 hM]
    refine ⟨nI_in (c := 0) (by omega) (by omega), brF (nI_ge hi (by omega)) (bI_br (fun e => fa1 (h0 (by rw [e]; rfl))) (fun e => x6_areAgainst hM ok (by omega) hx (bI_br (fun z => fa1 (h1 ?_)) (fun z => fa1 (h0 ?_)))))⟩
    · rw [e]; show (true && !cond S i x) = true; rw [z]; rfl
    · rw [e]; show (true && !cond S i x) = false; rw [z]; rfl
theorem ini_le {S : Nat → Nat} (ok : OK S) {x s c : Nat} (hx : x < 6) (hc : 1000 ≤ c) : ∀ t, t < S 0 → ini S x s c t ≤ c := fun t ht => by
  have hT := ok.T
  have : bdS S x t ≤ 1000 := ok.n1k (by omega) hx
  unfold ini; split <;> omega
theorem exN_m1 {N : Nat} (hN : N ≤ 10) : ∀ b, b < N → (nI b = -1 ↔ exN b = true) := fun b hb => by
  constructor
  · intro e
    have := congrArg Int32.toInt e
    rw [nI_toInt (by omega), show (-1 : Int32).toInt = -1 from rfl] at this; omega
  · exact fun e => nomatch e
theorem inT_congr {S : Nat → Nat} {x : Nat} {y z : Nat → Nat} (h : ∀ t, t < S 0 → y t = z t) : inT S x y = inT S x z := allB_congr (fun t ht => by rw [h t ht])
theorem fl_ch1 {r : Nat → Int32} {b : BM} {x x4 : Int32} {i : Nat} {post : BM → Prop} {K : BM → Int32 → Prop} {d : BM} (h : K (x4, nI i, nI i, nI i, 1, d.2.2.2.2.2) (nI (i + 1))) : P_X6_findLeast_b107 221 b r x post K d (nI i) x4 := by
  unfold P_X6_findLeast_b107 P_X6_findLeast_b112
  refine brF f10 ?_
  unfold P_X6_findLeast_b128
  refine brF f10 ?_
  unfold P_X6_findLeast_b147
  refine brF f10 ?_
  unfold P_X6_findLeast_b166
  refine brF f10 ?_
  unfold P_X6_findLeast_b185 P_X6_findLeast_b194
  exact fa1 h
theorem fl_ch0 {r : Nat → Int32} {b : BM} {x x4 : Int32} {i : Nat} {post : BM → Prop} {K : BM → Int32 → Prop} {d : BM} (h : K (x4, d.2.1, d.2.2.1 &&& nI i, d.2.2.2.1 ||| nI i, d.2.2.2.2.1 + (1 : Int32), d.2.2.2.2.2) (nI (i + 1))) : P_X6_findLeast_b112 221 b r x post K d (nI i) x4 (0 : Int32) := by
  unfold P_X6_findLeast_b112
  refine brT rfl ?_
  unfold P_X6_findLeast_b128
  refine brT rfl ?_
  unfold P_X6_findLeast_b147
  refine brT rfl ?_
  unfold P_X6_findLeast_b166
  refine brT rfl ?_
  unfold P_X6_findLeast_b185 P_X6_findLeast_b194
  exact fa1 h
theorem x6_findLeast {r : Nat → Int32} {S : Nat → Nat} (hM : AgM r S) (ok : OK S) {x : Nat} (hx : x < 6) {b : BM} {post : BM → Prop} (h : ∀ w, post (BMof (FL S x) w)) : P_X6_findLeast 221 b r (nI x) post := by
  have hT := ok.T
  unfold P_X6_findLeast
  have p10 := pow10 hT
  have shl : (1 : Int32) <<< (nI (S 0) &&& 31) = nI (2 ^ S 0) := nI_shl1 _ (by omega)
  have ppos : 0 < 2 ^ S 0 := Nat.two_pow_pos _
  cases hh : hasH S x with
  | false =>
    refine ⟨1, ?_⟩
    show P_X6_findLeast_b27 _ _ _ _ _ _ _ _
    unfold P_X6_findLeast_b27 P_X6_findLeast_b200
    rw [m0 hM, shl]
    refine ⟨nI_in (c := 0) (by omega) (by omega), brF (nI_ge (a := 0) ppos (by omega)) (x6_hasHistory hM ok hx (bI_br (fun _ => ?_) (fun e => absurd e (by rw [hh]; decide))))⟩
    have := h b.2.2.2.2.2
    unfold FL at this
    rw [if_neg (by rw [hh]; decide)] at this
    exact this
  | true =>
    unfold FL at h
    rw [if_pos hh] at h
    have key := forN (fun n i => ∀ w, P_X6_findLeast_l27 221 b r (nI x) post n (BMof (fl (EX S x) i) w) (nI i)) (2 ^ S 0) ?_ ?_ 0 (Nat.zero_le _)
    · obtain ⟨n, hn⟩ := key; exact ⟨n, hn _⟩
    · intro n w
      show P_X6_findLeast_b27 _ _ _ _ _ _ _ _
      unfold P_X6_findLeast_b27 P_X6_findLeast_b200
      rw [m0 hM, shl]
      exact ⟨nI_in (c := 0) (by omega) (by omega), brT (nI_le (Nat.le_refl _) (by omega)) (h w)⟩
    · intro n i hi hv w
      show P_X6_findLeast_b27 _ _ _ _ _ _ _ _
      have p1 := pc_le i
      -- the set looked at
      have look : (∀ L o A B c, fl (EX S x) i = some (L, o, A, B, c) → pc i ≤ L) → P_X6_findLeast_b67 221 b r (nI x) post (P_X6_findLeast_l27 221 b r (nI x) post n) (BMof (fl (EX S x) i) w) (nI i) (nI (pc i)) := fun hle => by
        unfold P_X6_findLeast_b67
        refine x6_layOrigins hM ok hx (by omega) (fun w1 hw1 => x6_spread hM ok hx (exN_m1 hT) hw1 (ini_le ok hx (by omega)) (fun w2 Y hY hw2 => ?_))
        have hYc : ∀ t, t < S 0 → Y t ≤ 200000 := fun t ht => by have q1 := hY.1.1 t ht; have q2 := ini_le ok (s := i) (c := 100000) hx (by omega) t ht; omega
        have hE : inT S x Y = EX S x i := inT_congr (GSol_uniq hY (gs_sol S x exN (ini S x i 100000)))
        refine x6_allInTime hM ok hx hw2 hYc ?_
        rw [hE]
        have hv2 := hv w2
        refine bI_br (fun e => ?_) (fun e => ?_)
        · rw [fl_no e] at hv2
          cases hq : fl (EX S x) i with
          | none => rw [hq] at hv2; exact fa1 hv2
          | some q => rw [hq] at hv2; obtain ⟨L, o, A, B, c⟩ := q; exact fa1 hv2
        · cases hq : fl (EX S x) i with
          | none =>
            rw [fl_new e (Or.inl hq)] at hv2
            exact brT rfl (fl_ch1 (d := (_, _, _, _, _, _)) hv2)
          | some q =>
            obtain ⟨L, o, A, B, c⟩ := q
            have lL := fl_le hq
            have hl := hle _ _ _ _ _ hq
            have ne : ¬ nI L = -1 := fun z => by
              have := congrArg Int32.toInt z
              rw [nI_toInt (by omega), show (-1 : Int32).toInt = -1 from rfl] at this; omega
            refine brF ne (br (c := nI L ≤ nI (pc i)) (fun z => ?_) (fun z => ?_))
            · rw [i_leN (by omega) (by omega)] at z
              rw [fl_eq e hq (by omega)] at hv2
              refine fl_ch0 (d := (_, _, _, _, _, _)) ?_
              show P_X6_findLeast_l27 221 b r (nI x) post n (nI (pc i), nI o, nI A &&& nI i, nI B ||| nI i, nI c + 1, w2) (nI (i + 1))
              rw [nI_and, nI_or, nI_p1, show pc i = L by omega]
              exact hv2
            · rw [i_leN (by omega) (by omega)] at z
              rw [fl_new e (Or.inr ⟨_, _, _, _, _, hq, by omega⟩)] at hv2
              exact fl_ch1 (d := (_, _, _, _, _, _)) hv2
      unfold P_X6_findLeast_b27
      rw [m0 hM, shl]
      refine ⟨nI_in (c := 0) (by omega) (by omega), brF (nI_ge hi (by omega)) (x6_hasHistory hM ok hx (bI_br (fun e => absurd e (by rw [hh]; decide)) (fun _ => x6_ones (by omega) ?_)))⟩
      cases hq : fl (EX S x) i with
      | none =>
        rw [hq] at look
        exact brT rfl (look (fun L o A B c z => nomatch z))
      | some q =>
        obtain ⟨L, o, A, B, c⟩ := q
        have lL := fl_le hq
        have ne : ¬ nI L = -1 := fun z => by
          have := congrArg Int32.toInt z
          rw [nI_toInt (by omega), show (-1 : Int32).toInt = -1 from rfl] at this; omega
        refine brF ne (br (c := nI L < nI (pc i)) (fun z => ?_) (fun z => ?_))
        · rw [i_ltN (by omega) (by omega)] at z
          unfold P_X6_findLeast_b194
          have hv2 := hv w
          rw [fl_more hq z] at hv2
          exact fa1 hv2
        · rw [i_ltN (by omega) (by omega)] at z
          rw [hq] at look
          exact look (fun L' o' A' B' c' z' => by cases z'; omega)
