/-! a road laid and torn up, and all of it undone -/
def undI : Nat → ST → ST
  | 0, τ => τ
  | i + 1, τ => und (undI i τ)
theorem undI_n : ∀ (i : Nat) (τ : ST), (undI i τ).2.1 = τ.2.1 - i
  | 0, τ => rfl
  | i + 1, τ => by
    show (undI i τ).2.1 - 1 = τ.2.1 - (i + 1)
    rw [undI_n i τ]; omega
theorem undI_PS : ∀ (i : Nat) (τ : ST), (undI i τ).2.2.1 = τ.2.2.1
  | 0, τ => rfl
  | i + 1, τ => undI_PS i τ
theorem WF_undI {τ : ST} (w : WF τ) : ∀ i, i ≤ τ.2.1 → WF (undI i τ)
  | 0, _ => w
  | i + 1, h => WF_und (WF_undI w i (by omega)) (by rw [undI_n]; omega)
theorem undI_S {τ : ST} (i : Nat) : (undI (i + 1) τ).1 = τ.2.2.1 (τ.2.1 - (i + 1)) := by
  show (undI i τ).2.2.1 ((undI i τ).2.1 - 1) = _
  rw [undI_PS, undI_n, Nat.sub_sub]
theorem WF.n14 {σ : ST} (w : WF σ) : σ.2.1 ≤ 14 := by
  obtain ⟨S, n, PS, tn, t, s2⟩ := σ; exact w.2.1
theorem push_last {n : Nat} {PS : Nat → Nat → Nat} {S : Nat → Nat} : pushP n PS S (pushN n - 1) = S := by
  unfold pushP pushN
  by_cases e : n = 14
  · rw [if_pos e, if_pos e]; exact if_pos rfl
  · rw [if_neg e, if_neg e]; exact if_pos (by omega)
theorem push_last2 {n : Nat} {PS : Nat → Nat → Nat} {S S' : Nat → Nat} : pushP (pushN n) (pushP n PS S) S' (pushN (pushN n) - 2) = S := by
  have h1 : 1 ≤ pushN n := by unfold pushN; split <;> omega
  have key := push_last (n := n) (PS := PS) (S := S)
  generalize pushN n = m at h1 key
  generalize pushP n PS S = Q at key
  unfold pushP pushN
  by_cases e : m = 14
  · rw [if_pos e, if_pos e]
    show (if 14 - 2 = 13 then S' else Q (14 - 2 + 1)) = S
    rw [if_neg (by decide)]
    rw [e] at key; exact key
  · rw [if_neg e, if_neg e]
    show (if m + 1 - 2 = m then S' else Q (m + 1 - 2)) = S
    rw [if_neg (by omega), show m + 1 - 2 = m - 1 by omega]; exact key
theorem und1 {σ : ST} {S1 : Nat → Nat} : (undI 1 (psh σ S1)).1 = σ.1 := by
  rw [undI_S 0]; exact push_last
theorem und2 {σ : ST} {S1 S2 : Nat → Nat} : (undI 2 (psh (psh σ S1) S2)).1 = σ.1 := by
  rw [undI_S 1]; exact push_last2
theorem psh_1 {σ : ST} {S1 : Nat → Nat} : 1 ≤ (psh σ S1).2.1 := by
  show 1 ≤ pushN σ.2.1
  unfold pushN; split <;> omega
theorem psh_2 {σ : ST} {S1 S2 : Nat → Nat} : 2 ≤ (psh (psh σ S1) S2).2.1 := by
  show 2 ≤ pushN (pushN σ.2.1)
  unfold pushN; split <;> split <;> omega
theorem a5 (S : Nat → Nat) : aboutN S 5 = allN S := by
  unfold aboutN
  rw [if_neg (by decide), if_neg (by decide), if_neg (by decide), if_neg (by decide), if_neg (by decide)]
theorem nI_nS {k : Nat} (hk : k < 2 ^ 31) : ¬ nI k = (-9999003 : Int32) := fun e => by
  have := congrArg Int32.toInt e
  rw [nI_toInt hk, show (-9999003 : Int32).toInt = -9999003 from rfl] at this
  omega
section
variable {b : MO} {x : Int32} {post : Int32 → MO → Prop}
theorem h_end {τ : ST} (w : WF τ) {k v : Nat} (hk : k ≤ τ.2.1) (hk2 : k ≤ 2) (hall : allN (undI k τ).1 = v) (h : ∀ b', Ag b' (undI k τ) → post 1 b') : ∀ b', Ag b' τ → P_L_holds_b813 b x post b' (nI v) 1 (nI k) := by
  intro b' hb'
  have n14 := w.n14
  unfold P_L_holds_b813
  refine ⟨k - 0 + 1, by omega, ?_⟩
  refine forNb (fun n i => ∀ b', Ag b' (undI i τ) → P_L_holds_l816 b x post n b' (nI v) 1 (nI k) (nI i)) k ?_ ?_ 0 (Nat.zero_le _) b' hb'
  · intro n b' hb'
    show P_L_holds_b816 _ _ _ _ _ _ _ _ _
    unfold P_L_holds_b816 P_L_holds_b853
    refine brT (nI_le (Nat.le_refl _) (by omega)) (brF f1I (k_aboutN (WF_undI w k hk) hb' 5 (by omega) (fun b1 h1 => ?_)))
    rw [a5, hall]
    exact brT rfl ⟨rfl, h _ h1⟩
  · intro n i hi hv b' hb'
    show P_L_holds_b816 _ _ _ _ _ _ _ _ _
    unfold P_L_holds_b816
    have en := undI_n i τ
    refine brF (nI_ge hi (by omega)) (brF f1I (k_undo (WF_undI w i (by omega)) hb' (fun q => absurd q (by omega)) (fun q b1 h1 => brF (nI_pos (by omega)) ?_)))
    unfold P_L_holds_b845
    exact fa1 (hv b1 h1)
theorem h_passed {τ : ST} (w : WF τ) {p a c : Nat} (hp : p < 2 ^ 31) (ha : a < τ.1 0) (hc : c < τ.1 0) {v s0 s1 : Int32} {k : Nat} (hk : s0 + s1 = nI k) (h : ∀ b', Ag b' τ → P_L_holds_b813 b (nI p) post b' v 1 (nI k)) : ∀ b', Ag b' τ → P_L_holds_b728 b (nI p) post b' v 1 (nI a) (nI c) s0 s1 := by
  intro b' hb'
  have ok := w.ok
  have hT := ok.T
  have e6 : nI p - nI p / (6 : Int32) * (6 : Int32) = nI (p % 6) := md (d := 6) hp (by omega) (by omega)
  have l6 : p % 6 < 6 := Nat.mod_lt _ (by omega)
  unfold P_L_holds_b728
  rw [e6, hk]
  refine fae (k_passedN w hb' a c (p % 6) ha hc l6 (fun b1 h1 => brF f1I (br (fun _ => h b1 h1) (fun q => ?_))))
  obtain ⟨r1, r2, L, o, A, B, cc, hF, hA⟩ := passV_why ha hc q
  have r9 := ok.r99 (a := a) (b := c) (by omega) (by omega)
  have k1 := ok.h1k (t := c) (by omega) l6
  have p10 := pow10 hT
  have A1 : A < 1024 := by
    have h1 := (FL_sets hF).1
    have h2 := (FL_spec hF).2.2.2.1
    have h3 : A &&& o ≤ o := Nat.and_le_right
    omega
  refine k_roadN w h1 a c ha hc (fun b2 h2 => brF (fun z => ?_) (k_hadN w h2 c (p % 6) hc l6 (brF (fun z => ?_) (k_inventedN w h2 (p % 6) l6 (by decide) (fun b3 h3 => brT ?_ (h b3 h3))))))
  · rw [cR_m1 (by omega)] at z; omega
  · rw [cY_m1 (by omega)] at z; omega
  · rw [hF, ivI_1, nI_bit (by omega) (by omega), hA]; rfl
theorem h_677 {τ : ST} (w : WF τ) {p a c : Nat} (hp : p < 2 ^ 31) (ha : a < τ.1 0) (hc : c < τ.1 0) {v x9 : Int32} {k : Nat} (h : ∀ b', Ag b' τ → P_L_holds_b813 b (nI p) post b' v 1 (nI k)) : ∀ b', Ag b' τ → P_L_holds_b677 b (nI p) post b' v 1 (nI k) (nI a) (nI c) x9 := by
  intro b' hb'
  unfold P_L_holds_b677 P_L_holds_b678
  refine brF f1I (brT rfl ?_)
  unfold P_L_holds_b709 P_L_holds_b714
  exact brT (by decide) (h_passed w hp ha hc (by rw [show (0 : Int32) = nI 0 from rfl, nI_add, Nat.add_zero]) h b' hb')
end
theorem isLen_n {n : Nat} (h1 : 1 ≤ n) (h2 : n ≤ 99) : isLen (nI n) = true := decide_eq_true (by rw [nI_toInt (by omega)]; omega)
theorem other {T a d : Nat} (ha : a < T) (h1 : 1 ≤ d) (h2 : d < T) : (a + d) % T ≠ a := by
  by_cases e : a + d < T
  · rw [Nat.mod_eq_of_lt e]; omega
  · rw [Nat.mod_eq_sub_mod (by omega), Nat.mod_eq_of_lt (by omega)]; omega
theorem e_463 {σ : ST} (w : WF σ) {p : Nat} (hp : p < 2 ^ 31) : ∃ σ', WF σ' ∧ ∀ (b : MO) (post : Int32 → MO → Prop), (∀ b', Ag b' σ' → post 1 b') → ∀ b', Ag b' σ → P_L_holds_b463 b (nI p) post b' (nI (σ.1 0)) (nI (allN σ.1)) 1 := by
  have ok := w.ok
  have hT := ok.T
  have n14 := w.n14
  by_cases T1 : σ.1 0 ≤ 1
  · refine ⟨σ, w, fun b post h b' hb' => ?_⟩
    unfold P_L_holds_b463
    exact brT (by rw [show (1 : Int32) = nI 1 from rfl, i_leN (by omega) (by omega)]; exact T1) (h_end w (k := 0) (Nat.zero_le _) (by omega) rfl h b' hb')
  -- two towns and a length
  have nz : ¬ nI (σ.1 0) = 0 := nI_ne (b := 0) (by omega) (by omega) (by omega)
  have nle : ¬ (nI (σ.1 0) ≤ (1 : Int32)) := by rw [show (1 : Int32) = nI 1 from rfl, i_leN (by omega) (by omega)]; exact T1
  have em1 : nI (σ.1 0) - (1 : Int32) = nI (σ.1 0 - 1) := nI_subN (b := 1) (by omega)
  have nz1 : ¬ nI (σ.1 0 - 1) = 0 := nI_ne (b := 0) (by omega) (by omega) (by omega)
  have ea : nI p - nI p / nI (σ.1 0) * nI (σ.1 0) = nI (p % σ.1 0) := md hp (by omega) (by omega)
  have e16 : nI p / (16 : Int32) = nI (p / 16) := dv (d := 16) hp (by omega) (by omega)
  have e256 : nI p / (256 : Int32) = nI (p / 256) := dv (d := 256) hp (by omega) (by omega)
  have l16 : p / 16 < 2 ^ 31 := Nat.lt_of_le_of_lt (Nat.div_le_self _ _) hp
  have l256 : p / 256 < 2 ^ 31 := Nat.lt_of_le_of_lt (Nat.div_le_self _ _) hp
  have ha : p % σ.1 0 < σ.1 0 := Nat.mod_lt _ (by omega)
  have ed : nI (p / 16) - nI (p / 16) / nI (σ.1 0 - 1) * nI (σ.1 0 - 1) = nI (p / 16 % (σ.1 0 - 1)) := md l16 (by omega) (by omega)
  have ld : p / 16 % (σ.1 0 - 1) < σ.1 0 - 1 := Nat.mod_lt _ (by omega)
  obtain ⟨a, hae⟩ : ∃ a, a = p % σ.1 0 := ⟨_, rfl⟩
  obtain ⟨c, hce⟩ : ∃ c, c = (a + 1 + p / 16 % (σ.1 0 - 1)) % σ.1 0 := ⟨_, rfl⟩
  obtain ⟨n, hne⟩ : ∃ n, n = 1 + p / 256 % 99 := ⟨_, rfl⟩
  rw [← hae] at ea ha
  have hc : c < σ.1 0 := by rw [hce]; exact Nat.mod_lt _ (by omega)
  have n1 : 1 ≤ n := by omega
  have n99 : n ≤ 99 := by have : p / 256 % 99 < 99 := Nat.mod_lt _ (by omega); omega
  have hac : a ≠ c := by
    have := other ha (d := 1 + p / 16 % (σ.1 0 - 1)) (by omega) (by omega)
    rw [← Nat.add_assoc, ← hce] at this
    exact fun q => this q.symm
  have ec : ((nI a + (1 : Int32)) + nI (p / 16 % (σ.1 0 - 1))) - ((nI a + (1 : Int32)) + nI (p / 16 % (σ.1 0 - 1))) / nI (σ.1 0) * nI (σ.1 0) = nI c := by
    rw [nI_p1, nI_add, hce]; exact md (by omega) (by omega) (by omega)
  have en : (1 : Int32) + (nI (p / 256) - nI (p / 256) / (99 : Int32) * (99 : Int32)) = nI n := by
    rw [show nI (p / 256) - nI (p / 256) / (99 : Int32) * (99 : Int32) = nI (p / 256 % 99) from md (d := 99) l256 (by omega) (by omega), show (1 : Int32) = nI 1 from rfl, nI_add, hne]
  clear hae hce hne
  have ia : isT (σ.1 0) (nI a) = true := isT_in (by omega) ha
  have ic : isT (σ.1 0) (nI c) = true := isT_in (by omega) hc
  have nac : ¬ nI a = nI c := nI_ne (by omega) (by omega) hac
  have ilen := isLen_n n1 n99
  have r9 := ok.r99 (a := a) (b := c) (by omega) (by omega)
  have al := allN_le σ.1
  cases cj : canJ σ.1 (nI a) (nI c) (nI n) with
  | false =>
    refine ⟨σ, w, fun b post h b' hb' => ?_⟩
    unfold P_L_holds_b463
    rw [em1, ea, e16, e256, ed]
    refine brF nle (brF f1I ⟨nz, fae ⟨nz1, nz, ?_⟩⟩)
    rw [ec]
    refine fae ?_
    rw [en]
    refine fae (k_roadN w hb' a c ha hc (fun b1 h1 => ?_))
    refine k_ifLaid w h1 (fun q => absurd ⟨ia, ic⟩ q) (fun _ _ q => (q.elim nac (fun q => by rw [ilen] at q; exact nomatch q)).elim) (fun _ _ _ _ _ b2 h2 => ?_) (fun q => by rw [cj] at q; exact nomatch q)
    refine k_lay w h2 (fun q => absurd ⟨ia, ic⟩ q) (fun _ _ q => (q.elim nac (fun q => by rw [ilen] at q; exact nomatch q)).elim) (fun _ _ _ _ _ b3 h3 => ?_) (fun q => by rw [cj] at q; exact nomatch q)
    have fin : P_L_holds_b677 b (nI p) post b3 (nI (allN σ.1)) 1 (nI 0) (nI a) (nI c) (nI n) := h_677 w hp ha hc (h_end w (k := 0) (Nat.zero_le _) (by omega) rfl h) b3 h3
    refine brT rfl ?_
    unfold P_L_holds_b563
    refine brT rfl ?_
    unfold P_L_holds_b575
    refine brT rfl (brT (by decide) ?_)
    unfold P_L_holds_b633 P_L_holds_b638
    refine brF (by decide) ?_
    unfold P_L_holds_b650
    exact br (fun _ => brT (by decide) fin) (fun _ => fin)
  | true =>
    have ok1 := OK_joinS ok cj
    have eS : joinS σ.1 (nI a) (nI c) (nI n) = setRd σ.1 a c n := joinS_n (by omega) (by omega) (by omega)
    rw [eS] at ok1
    have w1 := WF_psh w ok1
    have z0 : setRd σ.1 a c n 0 = σ.1 0 := setRd_0
    have rt : rd (setRd σ.1 a c n) c a = n := setRd_ta
    have cp : 0 < cnt (setRd σ.1 a c n) := cnt_pos ok1 (a := c) (b := a) (by omega) (by omega) (fun q => hac q.symm) (by rw [rt]; omega)
    have c15 := ok1.cnt15
    have al1 := allN_le (setRd σ.1 a c n)
    -- to the answer of lay, and behind it
    have pre : ∀ (b : MO) (post : Int32 → MO → Prop), (∀ b4, Ag b4 (psh σ (setRd σ.1 a c n)) → P_L_holds_b650 b (nI p) post b4 (nI (allN σ.1)) 1 (nI a) (nI c) (nI n) (cR (rd σ.1 a c)) (nI (cnt (setRd σ.1 a c n))) 1) → ∀ b', Ag b' σ → P_L_holds_b463 b (nI p) post b' (nI (σ.1 0)) (nI (allN σ.1)) 1 := fun b post h b' hb' => by
      unfold P_L_holds_b463
      rw [em1, ea, e16, e256, ed]
      refine brF nle (brF f1I ⟨nz, fae ⟨nz1, nz, ?_⟩⟩)
      rw [ec]
      refine fae ?_
      rw [en]
      refine fae (k_roadN w hb' a c ha hc (fun b1 h1 => ?_))
      refine k_ifLaid w h1 (fun q => absurd ⟨ia, ic⟩ q) (fun _ _ q => (q.elim nac (fun q => by rw [ilen] at q; exact nomatch q)).elim) (fun _ _ _ _ q => by rw [cj] at q; exact nomatch q) (fun _ b2 h2 => ?_)
      refine k_lay w h2 (fun q => absurd ⟨ia, ic⟩ q) (fun _ _ q => (q.elim nac (fun q => by rw [ilen] at q; exact nomatch q)).elim) (fun _ _ _ _ q => by rw [cj] at q; exact nomatch q) (fun _ b3 h3 => ?_)
      rw [eS] at h3 ⊢
      refine brF (nI_nS (by omega)) ?_
      unfold P_L_holds_b563
      refine brF (nI_nS (by omega)) ?_
      unfold P_L_holds_b575
      refine brT rfl (brF (nI_pos (by omega)) (k_aboutN w1 h3 5 (by omega) (fun b4 h4 => ?_)))
      rw [a5, show allN (psh σ (setRd σ.1 a c n)).1 = allN (setRd σ.1 a c n) from rfl]
      have go : P_L_holds_b633 b (nI p) post b4 (nI (allN σ.1)) (nI a) (nI c) (nI n) (cR (rd σ.1 a c)) (nI (cnt (setRd σ.1 a c n))) := by
        unfold P_L_holds_b633 P_L_holds_b638
        exact brT (by rw [show (0 : Int32) = nI 0 from rfl, i_leN (by omega) (by omega)]; omega) (h b4 h4)
      refine brT rfl (brR (by omega) (fun z => brF ?_ go) (fun z => ?_))
      · have m := mono_new ok ha hc n1 ok1 (Or.inl z)
        rw [i_ltN (by omega) (by omega)]; omega
      · rw [cR_pos z] at go ⊢
        refine br (fun q => brF ?_ go) (fun q => brF ?_ go)
        · rw [i_leN (by omega) (by omega)] at q
          have m := mono_new ok ha hc n1 ok1 (Or.inr q)
          rw [i_ltN (by omega) (by omega)]; omega
        · rw [i_leN (by omega) (by omega)] at q
          have m := mono_longer ok ha hc z (n := n) (by omega)
          rw [i_ltN (by omega) (by omega)]; omega
    have npos : ¬ (nI (cnt (setRd σ.1 a c n)) ≤ (0 : Int32)) := by
      rw [show (0 : Int32) = nI 0 from rfl, i_leN (by omega) (by omega)]; omega
    by_cases z : rd σ.1 a c = 0
    · have zs : rd σ.1 c a = 0 := by rw [ok.sym (by omega) (by omega)]; exact z
      have eX : rdX (setRd σ.1 a c n) (nI c) (nI a) = n := by
        rw [rdX_n (by rw [z0]; exact hc) (by rw [z0]; exact ha) (by rw [z0]; exact hT)]; exact rt
      have eC : cutS (setRd σ.1 a c n) (nI c) (nI a) = setRd (setRd σ.1 a c n) a c 0 := by
        unfold cutS
        rw [if_pos (by rw [eX]; omega), NN_nI (by omega), NN_nI (by omega), setRd_sw']
      have ok2 : OK (setRd (setRd σ.1 a c n) a c 0) := by rw [← eC]; exact OK_cutS ok1 _ _
      have w2 := WF_psh w1 ok2
      have same : allN (setRd (setRd σ.1 a c n) a c 0) = allN σ.1 := allN_same (fun k _ => back (by omega) (by omega) hac z zs k) hT
      have z02 : setRd (setRd σ.1 a c n) a c 0 0 = σ.1 0 := by rw [setRd_0]; exact z0
      refine ⟨undI 2 (psh (psh σ (setRd σ.1 a c n)) (setRd (setRd σ.1 a c n) a c 0)), WF_undI w2 2 psh_2, fun b post h => pre b post (fun b4 h4 => ?_)⟩
      unfold P_L_holds_b650
      rw [z]
      refine brT rfl (brF npos ?_)
      refine k_tear w1 h4 (fun q => ?_) (fun _ q => ?_) (fun _ b5 h5 => ?_)
      · exact absurd q (by rw [rdX_both (S := (psh σ (setRd σ.1 a c n)).1) (by show 0 < rdX (setRd σ.1 a c n) (nI c) (nI a); rw [eX]; omega)]; decide)
      · have q : rdX (setRd σ.1 a c n) (nI c) (nI a) = 0 := q
        rw [eX] at q; omega
      · rw [show rdX (psh σ (setRd σ.1 a c n)).1 (nI c) (nI a) = n from eX, cR_pos (by omega)]
        rw [show cutS (psh σ (setRd σ.1 a c n)).1 (nI c) (nI a) = setRd (setRd σ.1 a c n) a c 0 from eC] at h5
        unfold P_L_holds_b678
        refine brF f1I (brF (nI_ne (b := 0) (by omega) (by omega) (by omega)) (brT rfl (k_aboutN w2 h5 5 (by omega) (fun b6 h6 => ?_))))
        rw [a5, show allN (psh (psh σ (setRd σ.1 a c n)) (setRd (setRd σ.1 a c n) a c 0)).1 = allN σ.1 from same]
        refine brT rfl ?_
        unfold P_L_holds_b709 P_L_holds_b714
        refine brF (by rw [show (0 : Int32) = nI 0 from rfl, i_leN (by omega) (by omega)]; omega) ?_
        exact h_passed w2 hp (show a < setRd (setRd σ.1 a c n) a c 0 0 by rw [z02]; exact ha) (show c < setRd (setRd σ.1 a c n) a c 0 0 by rw [z02]; exact hc) (k := 2) (by decide) (h_end w2 psh_2 (by omega) (by rw [und2]) h) b6 h6
    · refine ⟨undI 1 (psh σ (setRd σ.1 a c n)), WF_undI w1 1 psh_1, fun b post h => pre b post (fun b4 h4 => ?_)⟩
      unfold P_L_holds_b650
      rw [cR_pos (by omega)]
      refine brF (nI_nm1 (by omega)) ?_
      exact h_677 w1 hp (show a < setRd σ.1 a c n 0 by rw [z0]; exact ha) (show c < setRd σ.1 a c n 0 by rw [z0]; exact hc) (k := 1) (h_end w1 psh_1 (by omega) (by rw [und1]) h) b4 h4
theorem e_holds {σ : ST} (w : WF σ) {x : Int32} (hx : ¬ x < 0) : ∃ σ', WF σ' ∧ ∀ b : MO, Ag b σ → ∀ post : Int32 → MO → Prop, (∀ b', Ag b' σ' → post 1 b') → P_L_holds b x post := by
  obtain ⟨p, hp, rfl⟩ := nI_of hx
  obtain ⟨σ', w', d⟩ := e_463 w hp
  refine ⟨σ', w', fun b hb post h => ?_⟩
  have a0 : aboutN σ.1 0 = σ.1 0 := if_pos rfl
  unfold P_L_holds
  refine k_aboutN w hb 0 (by omega) (fun b1 h1 => k_aboutN w h1 5 (by omega) (fun b2 h2 => ?_))
  rw [a0, a5]
  exact h_traits w (d b post h) b2 h2
