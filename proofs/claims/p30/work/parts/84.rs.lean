/-! runScript, both sides -/
def mm (j : Nat) : Nat := 1000000 ^ j
theorem mm_s (j : Nat) : mm (j + 1) = mm j * 1000000 := Nat.pow_succ 1000000 j
theorem mm_pos (j : Nat) : 0 < mm j := Nat.pow_pos (by omega)
theorem mm_le {j : Nat} (h : j ≤ 3) : mm j ≤ 1000000000000000000 := by
  have m0 : mm 0 = 1 := rfl
  have m1 : mm 1 = mm 0 * 1000000 := mm_s 0
  have m2 : mm 2 = mm 1 * 1000000 := mm_s 1
  have m3 : mm 3 = mm 2 * 1000000 := mm_s 2
  rcases (show j = 0 ∨ j = 1 ∨ j = 2 ∨ j = 3 by omega) with rfl | rfl | rfl | rfl <;> omega
theorem fl6 {e : Int64} {A : Int64 → Prop} (h : A e) : ∀ x : Int64, x = e → A x := fun x hx => by rw [hx]; exact h
theorem mm_mul (j : Nat) : lN (mm j) * (1000000 : Int64) = lN (mm (j + 1)) := by
  rw [show (1000000 : Int64) = lN 1000000 from rfl, lN_mul, mm_s]
theorem mm_div {n i : Nat} (hi : i < n) (hn : n ≤ 3) : lN (mm (n - i)) / (1000000 : Int64) = lN (mm (n - (i + 1))) := by
  have h1 := mm_le (j := n - i) (by omega)
  have h2 := mm_s (n - (i + 1))
  rw [show n - (i + 1) + 1 = n - i by omega] at h2
  rw [show (1000000 : Int64) = lN 1000000 from rfl, pk_lDiv (by omega) (by omega) (by omega)]
  congr 1
  omega
def grp (s j : Nat) : Nat := s / mm j % 1000000
theorem grp_lt (s j : Nat) : grp s j < 1000000 := Nat.mod_lt _ (by omega)
theorem grp_n {s j : Nat} (hs : s < 2 ^ 63) (hj : j ≤ 3) : ((lN s / lN (mm j)) - (lN s / lN (mm j)) / (1000000 : Int64) * (1000000 : Int64)).toInt32 = nI (grp s j) := by
  have h1 := mm_le hj
  have h2 := mm_pos j
  have h3 := Nat.div_le_self s (mm j)
  show _ = nI (s / mm j % 1000000)
  rw [show (1000000 : Int64) = lN 1000000 from rfl, pk_lDiv (a := s) (by omega) (by omega) (by omega), pk_lRem (by omega) (by omega) (by omega), lN_i]
def cmP (S : Nat → Nat) (g : Nat) : Prop := cmdP S (g / 100000) (g / 10000 % 10) (g / 1000 % 10) (g % 1000)
def cmS (S : Nat → Nat) (g : Nat) : Nat → Nat := cmdS S (g / 100000) (g / 10000 % 10) (g / 1000 % 10) (g % 1000)
theorem OK_cmS {S : Nat → Nat} (ok : OK S) {g : Nat} (hg : g < 1000000) (h : cmP S g) : OK (cmS S g) := OK_cmdS ok (by omega) (by omega) (by omega) (by omega) h
noncomputable def runI (s n : Nat) : Nat → (Nat → Nat) → Int32
  | 0, _ => -1
  | j + 1, S => @ite Int32 (cmP S (grp s j)) (Classical.propDecidable _) (runI s n j (cmS S (grp s j))) (nI (n - (j + 1)))
theorem runI_y {s n i : Nat} {S : Nat → Nat} {F : Int32} (hi : i < n) (h : cmP S (grp s (n - (i + 1)))) (hF : runI s n (n - i) S = F) : runI s n (n - (i + 1)) (cmS S (grp s (n - (i + 1)))) = F := by
  rw [show n - i = (n - (i + 1)) + 1 by omega] at hF
  have h2 : @ite Int32 (cmP S (grp s (n - (i + 1)))) (Classical.propDecidable _) (runI s n (n - (i + 1)) (cmS S (grp s (n - (i + 1))))) (nI (n - (n - (i + 1) + 1))) = F := hF
  rw [if_pos h] at h2
  exact h2
theorem runI_n {s n i : Nat} {S : Nat → Nat} {F : Int32} (hi : i < n) (h : ¬ cmP S (grp s (n - (i + 1)))) (hF : runI s n (n - i) S = F) : nI i = F := by
  rw [show n - i = (n - (i + 1)) + 1 by omega] at hF
  have h2 : @ite Int32 (cmP S (grp s (n - (i + 1)))) (Classical.propDecidable _) (runI s n (n - (i + 1)) (cmS S (grp s (n - (i + 1))))) (nI (n - (n - (i + 1) + 1))) = F := hF
  rw [if_neg h, show n - (n - (i + 1) + 1) = i by omega] at h2
  exact h2
def is13 (x : Int32) : Bool := decide (1 ≤ x.toInt ∧ x.toInt ≤ 3)
def okS (n : Nat) (x : Int64) : Bool := decide (0 ≤ x.toInt ∧ x.toInt < mm n)
def okR (x : Int32) (y : Int64) : Bool := is13 x && okS (NN x) y
theorem is13_ex {x : Int32} (h : is13 x = true) : ∃ n, 1 ≤ n ∧ n ≤ 3 ∧ x = nI n := by
  have k2 := of_decide_eq_true h
  obtain ⟨n, hn, rfl⟩ := nI_of (x := x) (by rw [i_lt, show (0 : Int32).toInt = 0 from rfl]; omega)
  rw [nI_toInt hn] at k2
  exact ⟨n, by omega, by omega, rfl⟩
theorem okS_ex {n : Nat} (hn : n ≤ 3) {y : Int64} (h : okS n y = true) : y.toInt.toNat < mm n ∧ y = lN y.toInt.toNat := by
  have k2 := of_decide_eq_true h
  have m := mm_le hn
  refine ⟨by omega, ?_⟩
  apply Int64.toInt_inj.mp
  rw [pk_lT (by omega)]
  omega
theorem c_runLoop {C rc : Nat → Int32} {bh : BH} {s n : Nat} (hn : n ≤ 3) (hs : s < mm n) {post : Int32 → (Nat → Int32) → BH → Prop} {px : String → Prop} {F : Int32} (h : ∀ m' b', post F m' b') {w : Nat → Int32} {d : BH} {S : Nat → Nat} (hw : AgC w S) (ok : OK S) (hF : runI s n n S = F) :
    ∃ k, P_X5_runScript_l83 C rc bh (nI n) (lN s) post px k w d (lN (mm n)) (0 : Int32) := by
  have hmn := mm_le hn
  have key := forN (fun k i => ∀ w d S, AgC w S → OK S → runI s n (n - i) S = F → P_X5_runScript_l83 C rc bh (nI n) (lN s) post px k w d (lN (mm (n - i))) (nI i)) n ?_ ?_ 0 (Nat.zero_le _)
  · obtain ⟨k, hk⟩ := key; exact ⟨k, hk w d S hw ok hF⟩
  · intro k w d S hw ok hF
    show P_X5_runScript_b83 _ _ _ _ _ _ _ _ _ _ _ _
    unfold P_X5_runScript_b83
    rw [Nat.sub_self] at hF
    have hF' : (-1 : Int32) = F := hF
    refine brT (nI_le (Nat.le_refl _) (by omega)) ?_
    rw [hF']; exact h w d
  · intro k i hi hv w d S hw ok hF
    show P_X5_runScript_b83 _ _ _ _ _ _ _ _ _ _ _ _
    unfold P_X5_runScript_b83 P_X5_runScript_b123
    refine brF (nI_ge hi (by omega)) ?_
    rw [mm_div hi hn]
    have m1 := mm_le (j := n - (i + 1)) (by omega)
    have m2 := mm_pos (n - (i + 1))
    have e1 : (lN (mm (n - (i + 1)))).toInt = (mm (n - (i + 1)) : Int) := pk_lT (by omega)
    refine fl6 (brF ?_ ⟨?_, ?_⟩)
    · rw [lg_cmp_lt, l_lt, e1, show (1 : Int64).toInt = 1 from rfl]; omega
    · intro e
      have := congrArg Int64.toInt e
      rw [e1, show (0 : Int64).toInt = 0 from rfl] at this; omega
    · rw [grp_n (by omega) (by omega)]
      have hg := grp_lt s (n - (i + 1))
      refine c_obeys hw ok hg (fun z m' b' => brT rfl ?_) (fun z m' b' hm' => brF f10 (fa1 (hv m' b' (cmS S (grp s (n - (i + 1)))) hm' (OK_cmS ok hg z) (runI_y hi z hF))))
      rw [runI_n hi z hF]; exact h m' b'
theorem c_runScript {C rc : Nat → Int32} {S : Nat → Nat} {bh : BH} (hC : AgC C S) (ok : OK S) {x : Int32} {y : Int64} {post : Int32 → (Nat → Int32) → BH → Prop} {px : String → Prop} (h1 : okR x y = false → px "java/lang/IllegalArgumentException")
    (h0 : okR x y = true → ∀ m' b', post (runI y.toInt.toNat (NN x) (NN x) S) m' b') : P_X5_runScript C rc bh x y post px := by
  unfold P_X5_runScript P_X5_runScript_b10
  have k1 : (1 : Int32).toInt = 1 := rfl
  have k3 : (3 : Int32).toInt = 3 := rfl
  have no : is13 x = false → px "java/lang/IllegalArgumentException" := fun e => h1 (by unfold okR; rw [e]; rfl)
  refine br (fun q => no (decide_eq_false (by rw [i_lt, k1] at q; omega))) (fun p => br (fun q => ?_) (fun q => no (decide_eq_false (by rw [i_le, k3] at q; omega))))
  rw [i_lt, k1] at p
  rw [i_le, k3] at q
  have e : is13 x = true := decide_eq_true (by omega)
  obtain ⟨n, hn1, hn3, rfl⟩ := is13_ex e
  have en : NN (nI n) = n := NN_nI (by omega)
  unfold okR at h0 h1
  rw [e, Bool.true_and, en] at h0 h1
  have hmn := mm_le hn3
  have ei : (lN (mm n)).toInt = (mm n : Int) := pk_lT (by omega)
  have key := forN (fun k i => P_X5_runScript_l26 C rc bh (nI n) y post px k (lN (mm i)) (nI i)) n ?_ ?_ 0 (Nat.zero_le _)
  · exact key
  · intro k
    show P_X5_runScript_b26 _ _ _ _ _ _ _ _ _ _
    unfold P_X5_runScript_b26 P_X5_runScript_b59
    refine brT (nI_le (Nat.le_refl _) (by omega)) ?_
    rw [lg_cmp_lt, lg_cmp_lt, l_lt, l_lt, ei, show (0 : Int64).toInt = 0 from rfl]
    refine br (fun z => h1 (decide_eq_false (by omega))) (fun z => br (fun u => x3_begin hC (fun w hw => ?_)) (fun u => h1 (decide_eq_false (by omega))))
    have e2 : okS n y = true := decide_eq_true (by omega)
    have h := h0 e2
    obtain ⟨hs, ey⟩ := okS_ex hn3 e2
    obtain ⟨s, es⟩ : ∃ s, y.toInt.toNat = s := ⟨_, rfl⟩
    rw [es] at h hs ey
    subst ey
    exact c_runLoop hn3 hs h hw ok rfl
  · intro k i hi hv
    show P_X5_runScript_b26 _ _ _ _ _ _ _ _ _ _
    unfold P_X5_runScript_b26
    refine brF (nI_ge hi (by omega)) ?_
    rw [mm_mul]
    exact fl6 (fa1 hv)
