/-! what the law's calls refuse, whatever the land is like -/
theorem forNb (V : Nat → Nat → Prop) (N : Nat) (hend : ∀ n, V (n + 1) N) (hstep : ∀ n i, i < N → V n (i + 1) → V (n + 1) i) (i0 : Nat) (h0 : i0 ≤ N) : V (N - i0 + 1) i0 := by
  obtain ⟨k, hk⟩ : ∃ k, k = N - i0 := ⟨_, rfl⟩
  induction k generalizing i0 with
  | zero => have : i0 = N := by omega
            subst this; exact hend _
  | succ k ih =>
    have q := ih (i0 + 1) (by omega) (by omega)
    rw [show N - (i0 + 1) + 1 = N - i0 by omega] at q
    exact hstep _ i0 (by omega) q
theorem isT_out {T j : Nat} (hj : j < 2 ^ 31) (h : T ≤ j) : isT T (nI j) = false := by rw [isT_nI hj, decide_eq_false (by omega)]
theorem isT_neg {T : Nat} {x : Int32} (h : x < 0) : isT T x = false := by
  rw [i_lt, show (0 : Int32).toInt = 0 from rfl] at h
  exact decide_eq_false (by omega)
theorem nine6 : ∀ j, j < 9 → isT 6 ((6 : Int32) + nI j) = false := by decide +kernel
theorem nineN : ∀ j, j < 9 → ((-1 : Int32) - nI j) < 0 := by decide +kernel
theorem nine3 : ∀ j, j < 9 → isT 3 ((3 : Int32) + nI j) = false := by decide +kernel
theorem nineL : ∀ j, j < 9 → isLen ((100 : Int32) + nI j) = false := by decide +kernel
theorem nineS : ∀ j, j < 9 → isSign ((256 : Int32) + nI j) = false := by decide +kernel
theorem nineY : ∀ j, j < 9 → isYr ((1000 : Int32) + nI j) = false := by decide +kernel
theorem bothT_l {S : Nat → Nat} {x y : Int32} (h : isT (S 0) x = false) : bothT S x y = false := by unfold bothT; rw [h]; rfl
section
variable {b : MO} {σ : ST} {x y z : Int32} {post : Int32 → MO → Prop}
theorem k_aboutN (w : WF σ) (hb : Ag b σ) (k : Nat) (hk : k < 6) (h : ∀ b', Ag b' σ → post (nI (aboutN σ.1 k)) b') : P_L_call b (1 : Int32) (nI k) y z post :=
  k_about w hb (fun e => by rw [isT_in (by omega) hk] at e; exact nomatch e) (fun j hj e b' hb' => by
    rw [i_eqN (by omega) (by omega)] at e
    subst e; exact h b' hb')
theorem no6 {k : Nat} (e : isT 6 x = false) (hk : k < 6) (q : x = nI k) : False := by rw [q, isT_in (by omega) hk] at e; exact nomatch e
theorem r_about (w : WF σ) (hb : Ag b σ) (e : isT 6 x = false) (h : ∀ b', Ag b' σ → post vA b') : P_L_call b (1 : Int32) x y z post := k_about w hb (fun _ => h) (fun _ hk q => (no6 e hk q).elim)
theorem r_road (w : WF σ) (hb : Ag b σ) (e : isT (σ.1 0) x = false) (h : ∀ b', Ag b' σ → post vI b') : P_L_call b (2 : Int32) x y z post := k_road w hb (fun _ => h) (fun q => by rw [bothT_l e] at q; exact nomatch q)
theorem r_neighborI (w : WF σ) (hb : Ag b σ) (e : isT (σ.1 0) x = false) (h : ∀ b', Ag b' σ → post vI b') : P_L_call b (3 : Int32) x y z post := k_neighbor w hb (fun _ => h) (fun q => by rw [e] at q; exact nomatch q) (fun q => by rw [e] at q; exact nomatch q)
theorem r_neighborA (w : WF σ) (hb : Ag b σ) (e : isT (σ.1 0) x = true) (f : y < 0) (h : ∀ b', Ag b' σ → post vA b') : P_L_call b (3 : Int32) x y z post := k_neighbor w hb (fun q => by rw [e] at q; exact nomatch q) (fun _ _ => h) (fun _ k hk q => by rw [q] at f; exact absurd f (nI_pos hk))
theorem r_layI (w : WF σ) (hb : Ag b σ) (e : ¬ (isT (σ.1 0) x = true ∧ isT (σ.1 0) y = true)) (h : ∀ b', Ag b' σ → post vI b') : P_L_call b (5 : Int32) x y z post := k_lay w hb (fun _ => h) (fun q r => absurd ⟨q, r⟩ e) (fun q r => absurd ⟨q, r⟩ e) (fun q => absurd ⟨(of_decide_eq_true q).1, (of_decide_eq_true q).2.1⟩ e)
theorem r_layA (w : WF σ) (hb : Ag b σ) (e1 : isT (σ.1 0) x = true) (e2 : isT (σ.1 0) y = true) (e : x = y ∨ isLen z = false) (h : ∀ b', Ag b' σ → post vA b') : P_L_call b (5 : Int32) x y z post := k_lay w hb (fun q => absurd ⟨e1, e2⟩ q) (fun _ _ _ => h) (fun _ _ q r => by
    rcases e with e | e
    · exact absurd e q
    · rw [e] at r; exact nomatch r) (fun q => by
    have q := of_decide_eq_true q
    rcases e with e | e
    · exact absurd e q.2.2.1
    · rw [e] at q; exact nomatch q.2.2.2.1)
theorem r_ifLaidI (w : WF σ) (hb : Ag b σ) (e : ¬ (isT (σ.1 0) x = true ∧ isT (σ.1 0) y = true)) (h : ∀ b', Ag b' σ → post vI b') : P_L_call b (16 : Int32) x y z post := k_ifLaid w hb (fun _ => h) (fun q r => absurd ⟨q, r⟩ e) (fun q r => absurd ⟨q, r⟩ e) (fun q => absurd ⟨(of_decide_eq_true q).1, (of_decide_eq_true q).2.1⟩ e)
theorem r_ifLaidA (w : WF σ) (hb : Ag b σ) (e1 : isT (σ.1 0) x = true) (e2 : isT (σ.1 0) y = true) (e : x = y ∨ isLen z = false) (h : ∀ b', Ag b' σ → post vA b') : P_L_call b (16 : Int32) x y z post := k_ifLaid w hb (fun q => absurd ⟨e1, e2⟩ q) (fun _ _ _ => h) (fun _ _ q r => by
    rcases e with e | e
    · exact absurd e q
    · rw [e] at r; exact nomatch r) (fun q => by
    have q := of_decide_eq_true q
    rcases e with e | e
    · exact absurd e q.2.2.1
    · rw [e] at q; exact nomatch q.2.2.2.1)
theorem r_tearI (w : WF σ) (hb : Ag b σ) (e : isT (σ.1 0) x = false) (h : ∀ b', Ag b' σ → post vI b') : P_L_call b (6 : Int32) x y z post := k_tear w hb (fun _ => h) (fun q => by rw [bothT_l e] at q; exact nomatch q) (fun q => by have := bothT_l (y := y) e; rw [rdX_both q] at this; exact nomatch this)
theorem r_tearS (w : WF σ) (hb : Ag b σ) (e : bothT σ.1 x y = true) (f : rdX σ.1 x y = 0) (h : ∀ b', Ag b' σ → post vS b') : P_L_call b (6 : Int32) x y z post := k_tear w hb (fun q => by rw [e] at q; exact nomatch q) (fun _ _ => h) (fun q => absurd q (by omega))
theorem r_forgetI (w : WF σ) (hb : Ag b σ) (e : isT (σ.1 0) x = false) (h : ∀ b', Ag b' σ → post vI b') : P_L_call b (8 : Int32) x y z post := k_forget w hb (fun _ => h) (fun q => by rw [e] at q; exact nomatch q) (fun q => by rw [(isPair_T q).1] at e; exact nomatch e)
theorem r_forgetA (w : WF σ) (hb : Ag b σ) (e : isT (σ.1 0) x = true) (f : isT 6 y = false) (h : ∀ b', Ag b' σ → post vA b') : P_L_call b (8 : Int32) x y z post := k_forget w hb (fun q => by rw [e] at q; exact nomatch q) (fun _ _ => h) (fun q => by rw [(isPair_T q).2] at f; exact nomatch f)
theorem r_inventions (w : WF σ) (hb : Ag b σ) (e : isT 6 x = false) (h : ∀ b', Ag b' σ → post vA b') : P_L_call b (10 : Int32) x y z post := k_inventions w hb (fun _ => h) (fun _ hk q => (no6 e hk q).elim)
theorem r_invented (w : WF σ) (hb : Ag b σ) (e : isT 3 y = false) (h : ∀ b', Ag b' σ → post vA b') : P_L_call b (11 : Int32) x y z post := k_invented w hb (fun _ => h) (fun q => by rw [e] at q; exact nomatch q)
theorem r_choices (w : WF σ) (hb : Ag b σ) (e : isT 6 x = false) (h : ∀ b', Ag b' σ → post vA b') : P_L_call b (12 : Int32) x y z post := k_choices w hb (fun _ => h) (fun _ hk q => (no6 e hk q).elim)
theorem r_sinceI (w : WF σ) (hb : Ag b σ) (e : isT (σ.1 0) x = false) (h : ∀ b', Ag b' σ → post vI b') : P_L_call b (13 : Int32) x y z post := k_since w hb (fun _ => h) (fun q => by rw [e] at q; exact nomatch q) (fun q => by rw [e] at q; exact nomatch q)
theorem r_sinceA (w : WF σ) (hb : Ag b σ) (e : isT (σ.1 0) x = true) (f : isT 6 y = false) (h : ∀ b', Ag b' σ → post vA b') : P_L_call b (13 : Int32) x y z post := k_since w hb (fun q => by rw [e] at q; exact nomatch q) (fun _ _ => h) (fun _ q => by rw [f] at q; exact nomatch q)
theorem r_reached (w : WF σ) (hb : Ag b σ) (e : isT 6 x = false ∨ y < 0) (h : ∀ b', Ag b' σ → post vA b') : P_L_call b (14 : Int32) x y z post := k_reached w hb (fun _ => h) (fun j k hj hk q r => by
    rcases e with e | e
    · exact (no6 e hj q).elim
    · rw [r] at e; exact absurd e (nI_pos hk))
theorem r_passedI (w : WF σ) (hb : Ag b σ) (e : isT (σ.1 0) x = false) (h : ∀ b', Ag b' σ → post vI b') : P_L_call b (15 : Int32) x y z post := k_passed w hb (fun _ => h) (fun q => by rw [bothT_l e] at q; exact nomatch q) (fun a c k ha _ _ q => by
    have hT := w.ok.T
    rw [q, isT_in (by omega) ha] at e; exact nomatch e)
theorem r_passedA (w : WF σ) (hb : Ag b σ) (e : bothT σ.1 x y = true) (f : isT 6 z = false) (h : ∀ b', Ag b' σ → post vA b') : P_L_call b (15 : Int32) x y z post := k_passed w hb (fun q => by rw [e] at q; exact nomatch q) (fun _ _ => h) (fun a c k _ _ hk _ _ q => (no6 f hk q).elim)
theorem r_bestRoad (w : WF σ) (hb : Ag b σ) (e : isLen x = false) (h : ∀ b', Ag b' σ → post vA b') : P_L_call b (17 : Int32) x y z post := k_bestRoad w hb (fun _ => h) (fun q => by rw [e] at q; exact nomatch q)
theorem r_keep (w : WF σ) (hb : Ag b σ) (e : isT 2 x = false) (h : ∀ b', Ag b' σ → post vI b') : P_L_call b (18 : Int32) x y z post := k_keep w hb (fun _ => h) (fun q => by rw [e] at q; exact nomatch q)
theorem r_back (w : WF σ) (hb : Ag b σ) (e : isT 2 x = false) (h : ∀ b', Ag b' σ → post vI b') : P_L_call b (19 : Int32) x y z post := k_back w hb (fun _ => h) (fun q => by rw [e] at q; exact nomatch q) (fun q => by rw [e] at q; exact nomatch q)
theorem r_append (w : WF σ) (hb : Ag b σ) (e : isSign x = false) (h : ∀ b', Ag b' σ → post vA b') : P_L_call b (0 : Int32) x y z post := k_append w hb (fun _ => h) (fun q => by rw [e] at q; exact nomatch q) (fun q => by rw [e] at q; exact nomatch q)
theorem r_seeAll (w : WF σ) (hb : Ag b σ) (e : ¬ feS σ = none) (h : ∀ b', Ag b' σ → post vS b') : P_L_call b (7 : Int32) x y z post := k_seeAll w hb (fun _ => h) (fun q => absurd q e)
theorem r_reportI {t has : Int32} {post : Int32 → Prop} (w : WF σ) (hb : Ag b σ) (e : isT (σ.1 0) x = false) (h : post vI) : P_L_tryReport b.1 x t has post := k_report w hb (fun _ => h) (fun q => by rw [e] at q; exact nomatch q) (fun q => by rw [e] at q; exact nomatch q)
theorem r_reportA {t has : Int32} {post : Int32 → Prop} (w : WF σ) (hb : Ag b σ) (e : isT (σ.1 0) x = true) (f : isT 6 t = false) (h : post vA) : P_L_tryReport b.1 x t has post := k_report w hb (fun q => by rw [e] at q; exact nomatch q) (fun _ _ => h) (fun _ q => by rw [f] at q; exact nomatch q)
theorem r_seeI {t has : Int32} {post : Int32 → (Nat → Int32) → Int32 → Int32 → (Nat → Nat → Int32) → Prop} (w : WF σ) (hb : Ag b σ) (e : isT (σ.1 0) x = false) (h : ∀ m1 m2 m3 m4, Ag (wth b m1 m2 m3 m4) σ → post vI m1 m2 m3 m4) : P_L_trySee b.1 b.2.1 b.2.2.1 b.2.2.2.1 x t y has post := k_see w hb (fun _ => h) (fun q => by rw [e] at q; exact nomatch q) (fun q => by rw [isNote_T q] at e; exact nomatch e)
theorem r_seeA {t has : Int32} {post : Int32 → (Nat → Int32) → Int32 → Int32 → (Nat → Nat → Int32) → Prop} (w : WF σ) (hb : Ag b σ) (e : isT (σ.1 0) x = true) (f : isNote σ.1 x t y = false) (h : ∀ m1 m2 m3 m4, Ag (wth b m1 m2 m3 m4) σ → post vA m1 m2 m3 m4) : P_L_trySee b.1 b.2.1 b.2.2.1 b.2.2.2.1 x t y has post := k_see w hb (fun q => by rw [e] at q; exact nomatch q) (fun _ _ => h) (fun q => by rw [f] at q; exact nomatch q)
end
theorem l64_big {p : Nat} (hp : p < 2 ^ 31) : ((1000000 : Int64) + (nI p).toInt64).toInt = 1000000 + (p : Int) := by
  rw [Int64.toInt_add, nI_l64 hp, show (1000000 : Int64).toInt = 1000000 from rfl]
  exact Int.bmod_eq_of_le (by omega) (by omega)
theorem l64_neg {p : Nat} (hp : p < 2 ^ 31) : ((-1 : Int64) - (nI p).toInt64).toInt = -1 - (p : Int) := by
  rw [Int64.toInt_sub, nI_l64 hp, show (-1 : Int64).toInt = -1 from rfl]
  exact Int.bmod_eq_of_le (by omega) (by omega)
theorem bad4 : okR (4 : Int32) (0 : Int64) = false := by decide +kernel
theorem bad1 {p : Nat} (hp : p < 2 ^ 31) : okR (1 : Int32) ((1000000 : Int64) + (nI p).toInt64) = false := by
  unfold okR
  have e : okS (NN (1 : Int32)) ((1000000 : Int64) + (nI p).toInt64) = false := by
    rw [show NN (1 : Int32) = 1 from NN_nI (j := 1) (by omega)]
    unfold okS
    rw [l64_big hp]
    exact decide_eq_false (fun q => by have := q.2; rw [show mm 1 = 1000000 from rfl] at this; omega)
  rw [e, Bool.and_false]
theorem bad2 {p : Nat} (hp : p < 2 ^ 31) : okR (2 : Int32) ((-1 : Int64) - (nI p).toInt64) = false := by
  unfold okR
  have e : okS (NN (2 : Int32)) ((-1 : Int64) - (nI p).toInt64) = false := by
    unfold okS
    rw [l64_neg hp]
    exact decide_eq_false (fun q => by have := q.1; omega)
  rw [e, Bool.and_false]
theorem f1I : ¬ ((1 : Int32) = 0) := by decide
theorem k_refuses {b : MO} {σ : ST} (w : WF σ) (hb : Ag b σ) {x : Int32} (hx : ¬ x < 0) {post : Int32 → MO → Prop} (h : ∀ b', Ag b' σ → post 1 b') : P_L_refuses b x post := by
  obtain ⟨p, hp, rfl⟩ := nI_of hx
  have ok := w.ok
  have hT := ok.T
  have j9 : p % 9 < 9 := Nat.mod_lt _ (by omega)
  have e9 : nI p - nI p / (9 : Int32) * (9 : Int32) = nI (p % 9) := md (d := 9) hp (by omega) (by omega)
  have e6 : nI p - nI p / (6 : Int32) * (6 : Int32) = nI (p % 6) := md (d := 6) hp (by omega) (by omega)
  have a0 : aboutN σ.1 0 = σ.1 0 := if_pos rfl
  have out : isT (σ.1 0) (nI (σ.1 0)) = false := isT_out (by omega) (Nat.le_refl _)
  have neg : isT (σ.1 0) (-1 : Int32) = false := isT_neg (by decide)
  have neg9 : isT (σ.1 0) ((-1 : Int32) - nI (p % 9)) = false := isT_neg (nineN _ j9)
  have NB : ∀ b', Ag b' σ → narrow .boolean (.int (1 : Int32)) = .int (1 : Int32) ∧ post 1 b' := fun b' hb' => ⟨rfl, h b' hb'⟩
  -- the last ones
  have last : ∀ b', Ag b' σ → P_L_refuses_b600 b (nI p) post b' 1 := fun d hd => by
    unfold P_L_refuses_b600
    refine brF f1I (k_script w hd (fun _ m1 m2 => brT rfl (k_script w (Ag_rhs hd m1 m2) (fun _ m3 m4 => brT rfl (k_script w (Ag_rhs hd m3 m4) (fun _ m5 m6 => brT rfl (k_simulate w (Ag_rhs hd m5 m6) (fun _ m7 m8 => brT rfl ?_) (fun q => ?_))) (fun q => ?_))) (fun q => ?_))) (fun q => ?_))
    · refine k_error w hd (br (fun _ => ?_) (fun q => ?_))
      · exact NB _ (Ag_rhs hd m7 m8)
      · refine r_seeAll w (Ag_rhs hd m7 m8) (fun z => q (by rw [z]; rfl)) (fun b' hb' => brT rfl (NB _ hb'))
    · rw [show isLen (100 : Int32) = false from by decide +kernel] at q; exact nomatch q
    · rw [bad2 hp] at q; exact nomatch q
    · rw [bad1 hp] at q; exact nomatch q
    · rw [bad4] at q; exact nomatch q
  -- those of a town that there is
  have town : ∀ b', Ag b' σ → P_L_refuses_b377 b (nI p) post b' (nI (σ.1 0)) 1 := fun d hd => by
    unfold P_L_refuses_b377
    rw [e9, e6]
    refine br (fun _ => last d hd) (fun q => ?_)
    have T0 : 0 < σ.1 0 := by
      apply Classical.byContradiction
      intro z
      exact q (by rw [show σ.1 0 = 0 by omega]; decide)
    have nz : ¬ nI (σ.1 0) = 0 := fun z => by
      rw [show (0 : Int32) = nI 0 from rfl, i_eqN (by omega) (by omega)] at z; omega
    have em : nI p - nI p / nI (σ.1 0) * nI (σ.1 0) = nI (p % σ.1 0) := md hp T0 (by omega)
    have ht : p % σ.1 0 < σ.1 0 := Nat.mod_lt _ T0
    refine ⟨nz, ?_⟩
    rw [em]
    refine fae ?_
    have ht1 : (p % σ.1 0 + 1) % σ.1 0 < σ.1 0 := Nat.mod_lt _ T0
    have em1 : (nI (p % σ.1 0) + (1 : Int32)) - (nI (p % σ.1 0) + (1 : Int32)) / nI (σ.1 0) * nI (σ.1 0) = nI ((p % σ.1 0 + 1) % σ.1 0) := by
      rw [nI_p1]; exact md (by omega) T0 (by omega)
    rw [em1]
    have it : isT (σ.1 0) (nI (p % σ.1 0)) = true := isT_in (by omega) ht
    have it1 : isT (σ.1 0) (nI ((p % σ.1 0 + 1) % σ.1 0)) = true := isT_in (by omega) ht1
    have bo : bothT σ.1 (nI (p % σ.1 0)) (nI (p % σ.1 0)) = true := by unfold bothT; rw [it]; rfl
    have rz : rdX σ.1 (nI (p % σ.1 0)) (nI (p % σ.1 0)) = 0 := by rw [rdX_n ht ht hT]; exact ok.diag (by omega)
    refine brF f1I (r_neighborA w hd it (nineN _ j9) (fun b1 h1 => brT rfl (r_reportA w h1 it (nine6 _ j9) (brT rfl (r_layA w h1 it it (Or.inl rfl) (fun b2 h2 => brT rfl ⟨nz, ?_⟩))))))
    refine r_layA w h2 it it1 (Or.inr (nineL _ j9)) (fun b3 h3 => brT rfl (r_tearS w h3 bo rz (fun b4 h4 => brT rfl ?_)))
    refine r_seeA w h4 it (decide_eq_false (fun q => by rw [nineY _ j9] at q; exact nomatch q.2.2)) (fun m1 m2 m3 m4 h5 => brT rfl ?_)
    refine r_seeA (b := wth b4 m1 m2 m3 m4) w h5 it (decide_eq_false (fun q => by rw [show isT 6 (6 : Int32) = false from by decide +kernel] at q; exact nomatch q.2.1)) (fun n1 n2 n3 n4 h6 => brT rfl ?_)
    have six : isT 6 (6 : Int32) = false := by decide +kernel
    refine r_forgetA w h6 it six (fun b7 h7 => brT rfl (r_sinceA w h7 it six (fun b8 h8 => brT rfl (r_passedA w h8 bo (nine6 _ j9) (fun b9 h9 => brT rfl (r_ifLaidA w h9 it it (Or.inl rfl) (fun b10 h10 => brT rfl (last b10 h10))))))))
  have mid : ∀ b', Ag b' σ → P_L_refuses_b190 b (nI p) post b' (nI (σ.1 0)) 1 := fun d hd => by
    unfold P_L_refuses_b190
    rw [e9, e6]
    have noI : ∀ v : Int32, ¬ (isT (σ.1 0) (nI (σ.1 0)) = true ∧ isT (σ.1 0) v = true) := fun v q => by rw [out] at q; exact nomatch q.1
    refine brF f1I (r_choices w hd (isT_neg (nineN _ j9)) (fun b1 h1 => brT rfl (r_sinceI w h1 out (fun b2 h2 => brT rfl (r_reached w h2 (Or.inr (by decide)) (fun b3 h3 => brT rfl (r_reached w h3 (Or.inl (by decide +kernel)) (fun b4 h4 => brT rfl (r_passedI w h4 out (fun b5 h5 => brT rfl ?_))))))))))
    refine r_ifLaidI w h5 (noI _) (fun b6 h6 => brT rfl (r_bestRoad w h6 (nineL _ j9) (fun b7 h7 => brT rfl (r_bestRoad w h7 (by decide +kernel) (fun b8 h8 => brT rfl (r_keep w h8 (by decide +kernel) (fun b9 h9 => brT rfl (r_back w h9 (isT_neg (by decide)) (fun b10 h10 => brT rfl (r_append w h10 (nineS _ j9) (fun b11 h11 => brT rfl (town b11 h11))))))))))))
  have see : ∀ (has : Int32) b', Ag b' σ → P_L_refuses_b115 b (nI p) post b' (nI (σ.1 0)) (nI (σ.1 0)) 9 (-1) has := fun has d hd => by
    unfold P_L_refuses_b115
    rw [e9, e6]
    refine r_seeI w hd out (fun m1 m2 m3 m4 h1 => brT rfl (r_forgetI w h1 neg9 (fun b2 h2 => brT rfl (r_inventions w h2 (nine6 _ j9) (fun b3 h3 => brT rfl (r_invented w h3 (nine3 _ j9) (fun b4 h4 => brT rfl (mid b4 h4))))))))
  unfold P_L_refuses
  rw [e9]
  refine k_aboutN w hb 0 (by omega) (fun b1 h1 => ?_)
  rw [a0]
  refine r_about w h1 (nine6 _ j9) (fun b2 h2 => brT rfl (r_road w h2 out (fun b3 h3 => brT rfl (r_neighborI w h3 out (fun b4 h4 => brT rfl (r_reportI w h4 ?_ (brT rfl ?_)))))))
  · rw [nI_add]; exact isT_out (by omega) (by omega)
  · refine r_layI w h4 (fun q => by rw [out] at q; exact nomatch q.2) (fun b5 h5 => brT rfl (r_tearI w h5 neg (fun b6 h6 => brT rfl (br (fun _ => see _ b6 h6) (fun _ => see _ b6 h6)))))
