/-! the same calls on both lands answer alike -/
def Da (k x y z : Int32) (σ : ST) (r : Int32) (σ' : ST) : Prop := ∀ b : MO, Ag b σ → ∀ post : Int32 → MO → Prop, (∀ b', Ag b' σ' → post r b') → P_L_call b k x y z post
section
variable {σ : ST} {b : MO} {post : Int32 → MO → Prop}
theorem k_inventionsN (w : WF σ) (hb : Ag b σ) {y z : Int32} (k : Nat) (hk : k < 6) (h : ∀ b', Ag b' σ → post (feI (FL σ.1 k)) b') : P_L_call b (10 : Int32) (nI k) y z post :=
  k_inventions w hb (fun e => by rw [isT_in (by omega) hk] at e; exact nomatch e) (fun j hj e b' hb' => by
    rw [i_eqN (by omega) (by omega)] at e
    subst e; exact h b' hb')
theorem k_inventedN (w : WF σ) (hb : Ag b σ) {y z : Int32} (k : Nat) (hk : k < 6) (hy : isT 3 y = true) (h : ∀ b', Ag b' σ → post (ivI (FL σ.1 k) y) b') : P_L_call b (11 : Int32) (nI k) y z post :=
  k_invented w hb (fun e => by rw [isT_in (by omega) hk, hy] at e; exact nomatch e) (fun _ j hj e b' hb' => by
    rw [i_eqN (by omega) (by omega)] at e
    subst e; exact h b' hb')
theorem k_choicesN (w : WF σ) (hb : Ag b σ) {y z : Int32} (k : Nat) (hk : k < 6) (h : ∀ b', Ag b' σ → post (chI (FL σ.1 k)) b') : P_L_call b (12 : Int32) (nI k) y z post :=
  k_choices w hb (fun e => by rw [isT_in (by omega) hk] at e; exact nomatch e) (fun j hj e b' hb' => by
    rw [i_eqN (by omega) (by omega)] at e
    subst e; exact h b' hb')
theorem k_passedN (w : WF σ) (hb : Ag b σ) (a c k : Nat) (ha : a < σ.1 0) (hc : c < σ.1 0) (hk : k < 6) (h : ∀ b', Ag b' σ → post (passV σ.1 k a c) b') : P_L_call b (15 : Int32) (nI a) (nI c) (nI k) post := by
  have hT := w.ok.T
  have bo : bothT σ.1 (nI a) (nI c) = true := by unfold bothT; rw [isT_in (by omega) ha, isT_in (by omega) hc]; rfl
  refine k_passed w hb (fun e => by rw [bo] at e; exact nomatch e) (fun _ e => by rw [isT_in (by omega) hk] at e; exact nomatch e) (fun a' c' k' ha' hc' hk' e1 e2 e3 b' hb' => ?_)
  rw [i_eqN (by omega) (by omega)] at e1 e2 e3
  subst e1 e2 e3; exact h b' hb'
theorem k_roadN (w : WF σ) (hb : Ag b σ) {z : Int32} (a c : Nat) (ha : a < σ.1 0) (hc : c < σ.1 0) (h : ∀ b', Ag b' σ → post (cR (rd σ.1 a c)) b') : P_L_call b (2 : Int32) (nI a) (nI c) z post := by
  have hT := w.ok.T
  have bo : bothT σ.1 (nI a) (nI c) = true := by unfold bothT; rw [isT_in (by omega) ha, isT_in (by omega) hc]; rfl
  refine k_road w hb (fun e => by rw [bo] at e; exact nomatch e) (fun _ b' hb' => ?_)
  rw [rdX_n ha hc hT]; exact h b' hb'
theorem k_sinceN (w : WF σ) (hb : Ag b σ) {z : Int32} (t k : Nat) (ht : t < σ.1 0) (hk : k < 6) (h : ∀ b', Ag b' σ → post (sinceI σ.1 t k) b') : P_L_call b (13 : Int32) (nI t) (nI k) z post := by
  have hT := w.ok.T
  refine k_since w hb (fun e => by rw [isT_in (by omega) ht] at e; exact nomatch e) (fun _ e => by rw [isT_in (by omega) hk] at e; exact nomatch e) (fun _ _ b' hb' => ?_)
  rw [NN_nI (by omega), NN_nI (by omega)]; exact h b' hb'
theorem k_hadN (w : WF σ) (hb : Ag b σ) (t k : Nat) (ht : t < σ.1 0) (hk : k < 6) {post : Int32 → Prop} (h : post (cY (hd σ.1 t k))) : P_L_tryReport b.1 (nI t) (nI k) (1 : Int32) post := by
  have hT := w.ok.T
  refine k_report w hb (fun e => by rw [isT_in (by omega) ht] at e; exact nomatch e) (fun _ e => by rw [isT_in (by omega) hk] at e; exact nomatch e) (fun _ _ => ?_)
  rw [yrX_h ht hk hT]; exact h
theorem k_notN (w : WF σ) (hb : Ag b σ) (t k : Nat) (ht : t < σ.1 0) (hk : k < 6) {post : Int32 → Prop} (h : post (cY (nt σ.1 t k))) : P_L_tryReport b.1 (nI t) (nI k) (0 : Int32) post := by
  have hT := w.ok.T
  refine k_report w hb (fun e => by rw [isT_in (by omega) ht] at e; exact nomatch e) (fun _ e => by rw [isT_in (by omega) hk] at e; exact nomatch e) (fun _ _ => ?_)
  rw [yrX_n ht hk hT]; exact h
-- whatever is asked, there is one answer
theorem d_about (w : WF σ) (x y z : Int32) : ∃ r, Da 1 x y z σ r σ := by
  cases e : isT 6 x with
  | false => exact ⟨vA, fun b hb post h => r_about w hb e h⟩
  | true =>
    obtain ⟨k, hk, rfl⟩ := isT_ex (by omega) e
    exact ⟨_, fun b hb post h => k_aboutN w hb k hk h⟩
theorem d_road (w : WF σ) (x y z : Int32) : ∃ r, Da 2 x y z σ r σ := by
  cases e : bothT σ.1 x y with
  | false => exact ⟨vI, fun b hb post h => k_road w hb (fun _ => h) (fun q => by rw [e] at q; exact nomatch q)⟩
  | true => exact ⟨_, fun b hb post h => k_road w hb (fun q => by rw [e] at q; exact nomatch q) (fun _ => h)⟩
theorem d_neighbor (w : WF σ) (x y z : Int32) : ∃ r, Da 3 x y z σ r σ := by
  cases e : isT (σ.1 0) x with
  | false => exact ⟨vI, fun b hb post h => r_neighborI w hb e h⟩
  | true =>
    by_cases f : y < 0
    · exact ⟨vA, fun b hb post h => r_neighborA w hb e f h⟩
    · obtain ⟨k, hk, rfl⟩ := nI_of f
      exact ⟨_, fun b hb post h => k_neighbor w hb (fun q => by rw [e] at q; exact nomatch q) (fun _ q => absurd q f) (fun _ j hj q b' hb' => by
        rw [i_eqN hk hj] at q
        subst q; exact h b' hb')⟩
theorem d_report (w : WF σ) (x y has : Int32) : ∃ r, ∀ b : MO, Ag b σ → ∀ post : Int32 → Prop, post r → P_L_tryReport b.1 x y has post := by
  cases e : isT (σ.1 0) x with
  | false => exact ⟨vI, fun b hb post h => r_reportI w hb e h⟩
  | true =>
    cases f : isT 6 y with
    | false => exact ⟨vA, fun b hb post h => r_reportA w hb e f h⟩
    | true => exact ⟨_, fun b hb post h => k_report w hb (fun q => by rw [e] at q; exact nomatch q) (fun _ q => by rw [f] at q; exact nomatch q) (fun _ _ => h)⟩
theorem d_since (w : WF σ) (x y z : Int32) : ∃ r, Da 13 x y z σ r σ := by
  cases e : isT (σ.1 0) x with
  | false => exact ⟨vI, fun b hb post h => r_sinceI w hb e h⟩
  | true =>
    cases f : isT 6 y with
    | false => exact ⟨vA, fun b hb post h => r_sinceA w hb e f h⟩
    | true => exact ⟨_, fun b hb post h => k_since w hb (fun q => by rw [e] at q; exact nomatch q) (fun _ q => by rw [f] at q; exact nomatch q) (fun _ _ => h)⟩
theorem d_invented (w : WF σ) (x y z : Int32) : ∃ r, Da 11 x y z σ r σ := by
  cases f : isT 3 y with
  | false => exact ⟨vA, fun b hb post h => r_invented w hb f h⟩
  | true =>
    cases e : isT 6 x with
    | false => exact ⟨vA, fun b hb post h => k_invented w hb (fun _ => h) (fun _ k hk q => (no6 e hk q).elim)⟩
    | true =>
      obtain ⟨k, hk, rfl⟩ := isT_ex (by omega) e
      exact ⟨_, fun b hb post h => k_inventedN w hb k hk f h⟩
theorem d_choices (w : WF σ) (x y z : Int32) : ∃ r, Da 12 x y z σ r σ := by
  cases e : isT 6 x with
  | false => exact ⟨vA, fun b hb post h => r_choices w hb e h⟩
  | true =>
    obtain ⟨k, hk, rfl⟩ := isT_ex (by omega) e
    exact ⟨_, fun b hb post h => k_choicesN w hb k hk h⟩
theorem d_reached (w : WF σ) (x y z : Int32) : ∃ r, Da 14 x y z σ r σ := by
  by_cases e : isT 6 x = false ∨ y < 0
  · exact ⟨vA, fun b hb post h => r_reached w hb e h⟩
  · have e1 : isT 6 x = true := by
      cases q : isT 6 x with
      | false => exact absurd (Or.inl q) e
      | true => rfl
    obtain ⟨j, hj, rfl⟩ := isT_ex (by omega) e1
    obtain ⟨k, hk, rfl⟩ := nI_of (x := y) (fun q => e (Or.inr q))
    exact ⟨_, fun b hb post h => k_reached w hb (fun q => absurd q e) (fun j' k' hj' hk' q1 q2 b' hb' => by
      rw [i_eqN (by omega) (by omega)] at q1
      rw [i_eqN hk hk'] at q2
      subst q1 q2; exact h b' hb')⟩
theorem d_passed (w : WF σ) (x y z : Int32) : ∃ r, Da 15 x y z σ r σ := by
  have hT := w.ok.T
  cases e : bothT σ.1 x y with
  | false =>
    cases e1 : isT (σ.1 0) x with
    | false => exact ⟨vI, fun b hb post h => r_passedI w hb e1 h⟩
    | true => exact ⟨vI, fun b hb post h => k_passed w hb (fun _ => h) (fun q => by rw [e] at q; exact nomatch q) (fun a c k ha hc hk q1 q2 _ => by
        exfalso
        have : bothT σ.1 x y = true := by unfold bothT; rw [q1, q2, isT_in (by omega) ha, isT_in (by omega) hc]; rfl
        rw [e] at this; exact nomatch this)⟩
  | true =>
    cases f : isT 6 z with
    | false => exact ⟨vA, fun b hb post h => r_passedA w hb e f h⟩
    | true =>
      have e2 : isT (σ.1 0) x = true ∧ isT (σ.1 0) y = true := by
        unfold bothT at e; exact Bool.and_eq_true_iff.mp e
      obtain ⟨a, ha, rfl⟩ := isT_ex (by omega) e2.1
      obtain ⟨c, hc, rfl⟩ := isT_ex (by omega) e2.2
      obtain ⟨k, hk, rfl⟩ := isT_ex (by omega) f
      exact ⟨_, fun b hb post h => k_passedN w hb a c k ha hc hk h⟩
theorem d_bestRoad (w : WF σ) (x y z : Int32) : ∃ r, Da 17 x y z σ r σ := by
  cases e : isLen x with
  | false => exact ⟨vA, fun b hb post h => r_bestRoad w hb e h⟩
  | true => exact ⟨_, fun b hb post h => k_bestRoad w hb (fun q => by rw [e] at q; exact nomatch q) (fun _ => h)⟩
-- whatever is done, there is one state behind it
theorem e_found (w : WF σ) (x y z : Int32) : ∃ r σ', WF σ' ∧ Da 4 x y z σ r σ' := by
  have hT := w.ok.T
  by_cases e : σ.1 0 = 10
  · exact ⟨vS, σ, w, fun b hb post h => k_found w hb (fun _ => h) (fun q => absurd q (by omega))⟩
  · exact ⟨_, _, WF_psh w (OK_townS w.ok (by omega)), fun b hb post h => k_found w hb (fun q => absurd q e) (fun _ => h)⟩
theorem e_undo (w : WF σ) (x y z : Int32) : ∃ r σ', WF σ' ∧ Da 9 x y z σ r σ' := by
  by_cases e : σ.2.1 = 0
  · exact ⟨vS, σ, w, fun b hb post h => k_undo w hb (fun _ => h) (fun q => absurd q (by omega))⟩
  · exact ⟨_, _, WF_und w (by omega), fun b hb post h => k_undo w hb (fun q => absurd q e) (fun _ => h)⟩
theorem e_lay (w : WF σ) (x y z : Int32) : ∃ r σ', WF σ' ∧ Da 5 x y z σ r σ' := by
  cases e : canJ σ.1 x y z with
  | true => exact ⟨_, _, WF_psh w (OK_joinS w.ok e), fun b hb post h => k_lay w hb (fun q => absurd ⟨(of_decide_eq_true e).1, (of_decide_eq_true e).2.1⟩ q) (fun _ _ q => by
      have e := of_decide_eq_true e
      rcases q with q | q
      · exact absurd q e.2.2.1
      · rw [q] at e; exact nomatch e.2.2.2.1) (fun _ _ _ _ q => by rw [e] at q; exact nomatch q) (fun _ => h)⟩
  | false =>
    by_cases e1 : isT (σ.1 0) x = true ∧ isT (σ.1 0) y = true
    · by_cases e2 : x = y ∨ isLen z = false
      · exact ⟨vA, σ, w, fun b hb post h => r_layA w hb e1.1 e1.2 e2 h⟩
      · exact ⟨vS, σ, w, fun b hb post h => k_lay w hb (fun q => absurd e1 q) (fun _ _ q => absurd q e2) (fun _ _ _ _ _ => h) (fun q => by rw [e] at q; exact nomatch q)⟩
    · exact ⟨vI, σ, w, fun b hb post h => r_layI w hb e1 h⟩
theorem e_tear (w : WF σ) (x y z : Int32) : ∃ r σ', WF σ' ∧ Da 6 x y z σ r σ' := by
  cases e : bothT σ.1 x y with
  | false => exact ⟨vI, σ, w, fun b hb post h => k_tear w hb (fun _ => h) (fun q => by rw [e] at q; exact nomatch q) (fun q => by rw [rdX_both q] at e; exact nomatch e)⟩
  | true =>
    by_cases f : rdX σ.1 x y = 0
    · exact ⟨vS, σ, w, fun b hb post h => r_tearS w hb e f h⟩
    · exact ⟨_, _, WF_psh w (OK_cutS w.ok x y), fun b hb post h => k_tear w hb (fun q => by rw [e] at q; exact nomatch q) (fun _ q => absurd q f) (fun _ => h)⟩
theorem e_forget (w : WF σ) (x y z : Int32) : ∃ r σ', WF σ' ∧ Da 8 x y z σ r σ' := by
  cases e : isT (σ.1 0) x with
  | false => exact ⟨vI, σ, w, fun b hb post h => r_forgetI w hb e h⟩
  | true =>
    cases f : isT 6 y with
    | false => exact ⟨vA, σ, w, fun b hb post h => r_forgetA w hb e f h⟩
    | true => exact ⟨_, _, WF_psh w (OK_dropS2 w.ok (decide_eq_true ⟨e, f⟩)), fun b hb post h => k_forget w hb (fun q => by rw [e] at q; exact nomatch q) (fun _ q => by rw [f] at q; exact nomatch q) (fun _ => h)⟩
theorem e_keep (w : WF σ) (x y z : Int32) : ∃ r σ', WF σ' ∧ Da 18 x y z σ r σ' := by
  cases e : isT 2 x with
  | false => exact ⟨vI, σ, w, fun b hb post h => r_keep w hb e h⟩
  | true => exact ⟨_, _, WF_kep w, fun b hb post h => k_keep w hb (fun q => by rw [e] at q; exact nomatch q) (fun _ => h)⟩
theorem e_back (w : WF σ) (x y z : Int32) : ∃ r σ', WF σ' ∧ Da 19 x y z σ r σ' := by
  cases e : isT 2 x with
  | false => exact ⟨vI, σ, w, fun b hb post h => r_back w hb e h⟩
  | true =>
    cases f : σ.2.2.2.2.2 (NN x) with
    | none => exact ⟨vS, σ, w, fun b hb post h => k_back w hb (fun q => by rw [e] at q; exact nomatch q) (fun _ _ => h) (fun _ S' q => by rw [f] at q; exact nomatch q)⟩
    | some S1 => exact ⟨_, bak σ S1, WF_bak w f, fun b hb post h => k_back w hb (fun q => by rw [e] at q; exact nomatch q) (fun _ q => by rw [f] at q; exact nomatch q) (fun _ S' q => by rw [f] at q; cases q; exact h)⟩
theorem e_append (w : WF σ) (x y z : Int32) : ∃ r σ', WF σ' ∧ Da 0 x y z σ r σ' := by
  cases e : isSign x with
  | false => exact ⟨vA, σ, w, fun b hb post h => r_append w hb e h⟩
  | true =>
    by_cases f : σ.2.2.2.1 < 100
    · exact ⟨_, _, WF_apd w f, fun b hb post h => k_append w hb (fun q => by rw [e] at q; exact nomatch q) (fun _ q => absurd q (by omega)) (fun _ _ => h)⟩
    · exact ⟨vS, σ, w, fun b hb post h => k_append w hb (fun q => by rw [e] at q; exact nomatch q) (fun _ _ => h) (fun _ q => absurd q f)⟩
theorem e_seeAll (w : WF σ) (x y z : Int32) : ∃ r σ', WF σ' ∧ Da 7 x y z σ r σ' := by
  by_cases e : feS σ = none
  · exact ⟨_, _, WF_psh w (OK_red w), fun b hb post h => k_seeAll w hb (fun q => absurd e q) (fun _ => h)⟩
  · exact ⟨vS, σ, w, fun b hb post h => r_seeAll w hb e h⟩
theorem e_see (w : WF σ) (x y z has : Int32) : ∃ r σ', WF σ' ∧ ∀ b : MO, Ag b σ → ∀ post : Int32 → (Nat → Int32) → Int32 → Int32 → (Nat → Nat → Int32) → Prop, (∀ m1 m2 m3 m4, Ag (wth b m1 m2 m3 m4) σ' → post r m1 m2 m3 m4) → P_L_trySee b.1 b.2.1 b.2.2.1 b.2.2.2.1 x y z has post := by
  cases e : isT (σ.1 0) x with
  | false => exact ⟨vI, σ, w, fun b hb post h => r_seeI w hb e h⟩
  | true =>
    cases f : isNote σ.1 x y z with
    | false => exact ⟨vA, σ, w, fun b hb post h => r_seeA w hb e f h⟩
    | true => exact ⟨_, _, WF_psh w (OK_noteS2 w.ok f has), fun b hb post h => k_see w hb (fun q => by rw [e] at q; exact nomatch q) (fun _ q => by rw [f] at q; exact nomatch q) (fun _ => h)⟩
end
-- ===== alike
section
variable {a b : MO} {σ : ST}
theorem twice {k x y z : Int32} (d : ∃ r, Da k x y z σ r σ) (h1 : Ag a σ) (h2 : Ag b σ) {K : Int32 → MO → Int32 → MO → Prop} (h : ∀ r a1 b1, Ag a1 σ → Ag b1 σ → K r a1 r b1) : P_L_call a k x y z (fun r m => P_L_call b k x y z (fun r' m' => K r m r' m')) := by
  obtain ⟨r, d⟩ := d
  exact d _ h1 _ (fun a1 g1 => d _ h2 _ (fun b1 g2 => h r a1 b1 g1 g2))
theorem twice1 {k x y z : Int32} {Z : Prop} (hz : Z) (d : ∃ r, Da k x y z σ r σ) (h1 : Ag a σ) (h2 : Ag b σ) {K : Int32 → MO → Int32 → MO → Prop} (h : ∀ r a1 b1, Ag a1 σ → Ag b1 σ → K r a1 r b1) : P_L_call a k x y z (fun r m => Z ∧ P_L_call b k x y z (fun r' m' => K r m r' m')) := by
  obtain ⟨r, d⟩ := d
  exact d _ h1 _ (fun a1 g1 => ⟨hz, d _ h2 _ (fun b1 g2 => h r a1 b1 g1 g2)⟩)
theorem twiceR {x y has : Int32} (d : ∃ r, ∀ b : MO, Ag b σ → ∀ post : Int32 → Prop, post r → P_L_tryReport b.1 x y has post) (h1 : Ag a σ) (h2 : Ag b σ) {K : Int32 → Int32 → Prop} (h : ∀ r, K r r) : P_L_tryReport a.1 x y has (fun r => P_L_tryReport b.1 x y has (fun r' => K r r')) := by
  obtain ⟨r, d⟩ := d
  exact d _ h1 _ (d _ h2 _ (h r))
theorem k_alike (w : WF σ) (ha : Ag a σ) (hb : Ag b σ) {x : Int32} {post : Int32 → MO → MO → Prop} (h : ∀ a' b', Ag a' σ → Ag b' σ → post 1 a' b') : P_L_alike a b x post := by
  have hT := w.ok.T
  have a0 : aboutN σ.1 0 = σ.1 0 := if_pos rfl
  have NB : ∀ a' b', Ag a' σ → Ag b' σ → narrow .boolean (.int (1 : Int32)) = .int (1 : Int32) ∧ post 1 a' b' := fun a' b' g1 g2 => ⟨rfl, h a' b' g1 g2⟩
  have fin : ∀ a' b', Ag a' σ → Ag b' σ → P_L_alike_b231 a b x post a' b' 1 (nI (σ.1 0)) := fun a' b' g1 g2 => by
    unfold P_L_alike_b231
    refine brF f1I (twice (d_invented w _ _ _) g1 g2 (fun r a1 b1 g1 g2 => brT rfl (twice (d_choices w _ _ _) g1 g2 (fun r a2 b2 g1 g2 => brT rfl (twice (d_reached w _ _ _) g1 g2 (fun r a3 b3 g1 g2 => brT rfl (br (fun _ => NB _ _ g1 g2) (fun q => ⟨q, q, ?_⟩))))))))
    obtain ⟨r, d⟩ := d_passed w (x - x / nI (σ.1 0) * nI (σ.1 0)) ((x / (16 : Int32)) - (x / (16 : Int32)) / nI (σ.1 0) * nI (σ.1 0)) (x - x / (6 : Int32) * (6 : Int32))
    exact d _ g1 _ (fun a4 g1 => ⟨q, q, d _ g2 _ (fun b4 g2 => brT rfl (NB _ _ g1 g2))⟩)
  have towns : ∀ a' b', Ag a' σ → Ag b' σ → P_L_alike_b64 a b x post a' b' 1 := fun a' b' g1 g2 => by
    unfold P_L_alike_b64
    refine k_aboutN w g1 0 (by omega) (fun a1 g1 => ?_)
    rw [a0]
    refine ⟨σ.1 0 - 0 + 1, by omega, ?_⟩
    refine forNb (fun n i => ∀ a' b', Ag a' σ → Ag b' σ → P_L_alike_l77 a b x post n a' b' 1 (nI (σ.1 0)) (nI i)) (σ.1 0) ?_ ?_ 0 (Nat.zero_le _) _ _ g1 g2
    · intro n a' b' g1 g2
      show P_L_alike_b77 _ _ _ _ _ _ _ _ _ _
      unfold P_L_alike_b77
      exact brT (nI_le (Nat.le_refl _) (by omega)) (fin _ _ g1 g2)
    · intro n i hi hv a' b' g1 g2
      show P_L_alike_b77 _ _ _ _ _ _ _ _ _ _
      unfold P_L_alike_b77
      have nz : ¬ nI (σ.1 0) = 0 := fun z => by
        rw [show (0 : Int32) = nI 0 from rfl, i_eqN (by omega) (by omega)] at z; omega
      refine brF (nI_ge hi (by omega)) (brF f1I ⟨nz, twice1 nz (d_road w _ _ _) g1 g2 (fun r a1 b1 g1 g2 => brT rfl (twice (d_neighbor w _ _ _) g1 g2 (fun r a2 b2 g1 g2 => brT rfl (twiceR (d_report w _ _ _) g1 g2 (fun r => brT rfl (twiceR (d_report w _ _ _) g1 g2 (fun r => brT rfl (twice (d_since w _ _ _) g1 g2 (fun r a3 b3 g1 g2 => brT rfl (fa1 (hv _ _ g1 g2))))))))))) ⟩)
  have start : P_L_alike_b16 a b x post 1 := by
    unfold P_L_alike_b16
    refine ⟨6 - 0 + 1, by omega, ?_⟩
    refine forNb (fun n i => ∀ a' b', Ag a' σ → Ag b' σ → P_L_alike_l20 a b x post n a' b' 1 (nI i)) 6 ?_ ?_ 0 (by omega) _ _ ha hb
    · intro n a' b' g1 g2
      show P_L_alike_b20 _ _ _ _ _ _ _ _ _
      unfold P_L_alike_b20
      exact brT (nI_le (a := 6) (Nat.le_refl _) (by omega)) (towns _ _ g1 g2)
    · intro n i hi hv a' b' g1 g2
      show P_L_alike_b20 _ _ _ _ _ _ _ _ _
      unfold P_L_alike_b20
      exact brF (nI_ge (b := 6) hi (by omega)) (brF f1I (twice (d_about w _ _ _) g1 g2 (fun r a1 b1 g1 g2 => brT rfl (fa1 (hv _ _ g1 g2)))))
  unfold P_L_alike
  exact k_error w ha (k_error w hb (brT rfl start))
end
theorem ab36_0 {b_a0 : MO} {x1 x2 : Int32} {post : Int32 → MO → Prop} {d_a0 : MO} {x3 x4 s0 : Int32} (hv : x1 - x1 / (16 : Int32) * (16 : Int32) = (0 : Int32)) (h : ((x3 ≤ (5 : Int32) → (P_L_call d_a0 (4 : Int32) (0 : Int32) (0 : Int32) (0 : Int32) (fun r_22 m_23 => P_L_act_b133 b_a0 x1 x2 post m_23 r_22))) ∧ (¬ (x3 ≤ (5 : Int32)) → (P_L_call d_a0 (9 : Int32) (0 : Int32) (0 : Int32) (0 : Int32) (fun r_24 m_25 => P_L_act_b133 b_a0 x1 x2 post m_25 r_24))))) : P_L_act_b36 b_a0 x1 x2 post d_a0 x3 x4 s0 := by
  unfold P_L_act_b36
  rw [hv]
  exact fae ⟨fun _ => h, fun e => absurd e (by decide), fun e => absurd e (by decide), fun e => absurd e (by decide), fun e => absurd e (by decide), fun e => absurd e (by decide), fun e => absurd e (by decide), fun e => absurd e (by decide), fun e => absurd e (by decide), fun e => absurd e (by decide), fun e => absurd e (by decide), fun e => absurd e (by decide), fun e => absurd e (by decide), fun n0 n1 n2 n3 n4 n5 n6 n7 n8 n9 n10 n11 n12 => absurd rfl n0⟩
theorem ab36_1 {b_a0 : MO} {x1 x2 : Int32} {post : Int32 → MO → Prop} {d_a0 : MO} {x3 x4 s0 : Int32} (hv : x1 - x1 / (16 : Int32) * (16 : Int32) = (1 : Int32)) (h : ((x3 ≤ (5 : Int32) → (P_L_call d_a0 (4 : Int32) (0 : Int32) (0 : Int32) (0 : Int32) (fun r_28 m_29 => P_L_act_b133 b_a0 x1 x2 post m_29 r_28))) ∧ (¬ (x3 ≤ (5 : Int32)) → (P_L_call d_a0 (9 : Int32) (0 : Int32) (0 : Int32) (0 : Int32) (fun r_30 m_31 => P_L_act_b133 b_a0 x1 x2 post m_31 r_30))))) : P_L_act_b36 b_a0 x1 x2 post d_a0 x3 x4 s0 := by
  unfold P_L_act_b36
  rw [hv]
  exact fae ⟨fun e => absurd e (by decide), fun _ => h, fun e => absurd e (by decide), fun e => absurd e (by decide), fun e => absurd e (by decide), fun e => absurd e (by decide), fun e => absurd e (by decide), fun e => absurd e (by decide), fun e => absurd e (by decide), fun e => absurd e (by decide), fun e => absurd e (by decide), fun e => absurd e (by decide), fun e => absurd e (by decide), fun n0 n1 n2 n3 n4 n5 n6 n7 n8 n9 n10 n11 n12 => absurd rfl n1⟩
theorem ab36_2 {b_a0 : MO} {x1 x2 : Int32} {post : Int32 → MO → Prop} {d_a0 : MO} {x3 x4 s0 : Int32} (hv : x1 - x1 / (16 : Int32) * (16 : Int32) = (2 : Int32)) (h : (P_L_call d_a0 (5 : Int32) x4 s0 ((1 : Int32) + ((x2 / (64 : Int32)) - (x2 / (64 : Int32)) / (99 : Int32) * (99 : Int32))) (fun r_33 m_34 => post r_33 m_34))) : P_L_act_b36 b_a0 x1 x2 post d_a0 x3 x4 s0 := by
  unfold P_L_act_b36
  rw [hv]
  exact fae ⟨fun e => absurd e (by decide), fun e => absurd e (by decide), fun _ => h, fun e => absurd e (by decide), fun e => absurd e (by decide), fun e => absurd e (by decide), fun e => absurd e (by decide), fun e => absurd e (by decide), fun e => absurd e (by decide), fun e => absurd e (by decide), fun e => absurd e (by decide), fun e => absurd e (by decide), fun e => absurd e (by decide), fun n0 n1 n2 n3 n4 n5 n6 n7 n8 n9 n10 n11 n12 => absurd rfl n2⟩
theorem ab36_3 {b_a0 : MO} {x1 x2 : Int32} {post : Int32 → MO → Prop} {d_a0 : MO} {x3 x4 s0 : Int32} (hv : x1 - x1 / (16 : Int32) * (16 : Int32) = (3 : Int32)) (h : (P_L_call d_a0 (5 : Int32) x4 s0 ((1 : Int32) + ((x2 / (64 : Int32)) - (x2 / (64 : Int32)) / (99 : Int32) * (99 : Int32))) (fun r_36 m_37 => post r_36 m_37))) : P_L_act_b36 b_a0 x1 x2 post d_a0 x3 x4 s0 := by
  unfold P_L_act_b36
  rw [hv]
  exact fae ⟨fun e => absurd e (by decide), fun e => absurd e (by decide), fun e => absurd e (by decide), fun _ => h, fun e => absurd e (by decide), fun e => absurd e (by decide), fun e => absurd e (by decide), fun e => absurd e (by decide), fun e => absurd e (by decide), fun e => absurd e (by decide), fun e => absurd e (by decide), fun e => absurd e (by decide), fun e => absurd e (by decide), fun n0 n1 n2 n3 n4 n5 n6 n7 n8 n9 n10 n11 n12 => absurd rfl n3⟩
theorem ab36_4 {b_a0 : MO} {x1 x2 : Int32} {post : Int32 → MO → Prop} {d_a0 : MO} {x3 x4 s0 : Int32} (hv : x1 - x1 / (16 : Int32) * (16 : Int32) = (4 : Int32)) (h : (P_L_call d_a0 (5 : Int32) x4 s0 ((1 : Int32) + ((x2 / (64 : Int32)) - (x2 / (64 : Int32)) / (99 : Int32) * (99 : Int32))) (fun r_39 m_40 => post r_39 m_40))) : P_L_act_b36 b_a0 x1 x2 post d_a0 x3 x4 s0 := by
  unfold P_L_act_b36
  rw [hv]
  exact fae ⟨fun e => absurd e (by decide), fun e => absurd e (by decide), fun e => absurd e (by decide), fun e => absurd e (by decide), fun _ => h, fun e => absurd e (by decide), fun e => absurd e (by decide), fun e => absurd e (by decide), fun e => absurd e (by decide), fun e => absurd e (by decide), fun e => absurd e (by decide), fun e => absurd e (by decide), fun e => absurd e (by decide), fun n0 n1 n2 n3 n4 n5 n6 n7 n8 n9 n10 n11 n12 => absurd rfl n4⟩
theorem ab36_5 {b_a0 : MO} {x1 x2 : Int32} {post : Int32 → MO → Prop} {d_a0 : MO} {x3 x4 s0 : Int32} (hv : x1 - x1 / (16 : Int32) * (16 : Int32) = (5 : Int32)) (h : (P_L_call d_a0 (6 : Int32) x4 s0 (0 : Int32) (fun r_42 m_43 => post r_42 m_43))) : P_L_act_b36 b_a0 x1 x2 post d_a0 x3 x4 s0 := by
  unfold P_L_act_b36
  rw [hv]
  exact fae ⟨fun e => absurd e (by decide), fun e => absurd e (by decide), fun e => absurd e (by decide), fun e => absurd e (by decide), fun e => absurd e (by decide), fun _ => h, fun e => absurd e (by decide), fun e => absurd e (by decide), fun e => absurd e (by decide), fun e => absurd e (by decide), fun e => absurd e (by decide), fun e => absurd e (by decide), fun e => absurd e (by decide), fun n0 n1 n2 n3 n4 n5 n6 n7 n8 n9 n10 n11 n12 => absurd rfl n5⟩
theorem ab36_6 {b_a0 : MO} {x1 x2 : Int32} {post : Int32 → MO → Prop} {d_a0 : MO} {x3 x4 s0 : Int32} (hv : x1 - x1 / (16 : Int32) * (16 : Int32) = (6 : Int32)) (h : (P_L_call d_a0 (8 : Int32) x4 ((x2 / (64 : Int32)) - (x2 / (64 : Int32)) / (6 : Int32) * (6 : Int32)) (0 : Int32) (fun r_45 m_46 => post r_45 m_46))) : P_L_act_b36 b_a0 x1 x2 post d_a0 x3 x4 s0 := by
  unfold P_L_act_b36
  rw [hv]
  exact fae ⟨fun e => absurd e (by decide), fun e => absurd e (by decide), fun e => absurd e (by decide), fun e => absurd e (by decide), fun e => absurd e (by decide), fun e => absurd e (by decide), fun _ => h, fun e => absurd e (by decide), fun e => absurd e (by decide), fun e => absurd e (by decide), fun e => absurd e (by decide), fun e => absurd e (by decide), fun e => absurd e (by decide), fun n0 n1 n2 n3 n4 n5 n6 n7 n8 n9 n10 n11 n12 => absurd rfl n6⟩
theorem ab36_7 {b_a0 : MO} {x1 x2 : Int32} {post : Int32 → MO → Prop} {d_a0 : MO} {x3 x4 s0 : Int32} (hv : x1 - x1 / (16 : Int32) * (16 : Int32) = (7 : Int32)) (h : (P_L_call d_a0 (9 : Int32) (0 : Int32) (0 : Int32) (0 : Int32) (fun r_48 m_49 => post r_48 m_49))) : P_L_act_b36 b_a0 x1 x2 post d_a0 x3 x4 s0 := by
  unfold P_L_act_b36
  rw [hv]
  exact fae ⟨fun e => absurd e (by decide), fun e => absurd e (by decide), fun e => absurd e (by decide), fun e => absurd e (by decide), fun e => absurd e (by decide), fun e => absurd e (by decide), fun e => absurd e (by decide), fun _ => h, fun e => absurd e (by decide), fun e => absurd e (by decide), fun e => absurd e (by decide), fun e => absurd e (by decide), fun e => absurd e (by decide), fun n0 n1 n2 n3 n4 n5 n6 n7 n8 n9 n10 n11 n12 => absurd rfl n7⟩
theorem ab36_8 {b_a0 : MO} {x1 x2 : Int32} {post : Int32 → MO → Prop} {d_a0 : MO} {x3 x4 s0 : Int32} (hv : x1 - x1 / (16 : Int32) * (16 : Int32) = (8 : Int32)) (h : (P_L_call d_a0 (18 : Int32) (x2 - x2 / (2 : Int32) * (2 : Int32)) (0 : Int32) (0 : Int32) (fun r_51 m_52 => post r_51 m_52))) : P_L_act_b36 b_a0 x1 x2 post d_a0 x3 x4 s0 := by
  unfold P_L_act_b36
  rw [hv]
  exact fae ⟨fun e => absurd e (by decide), fun e => absurd e (by decide), fun e => absurd e (by decide), fun e => absurd e (by decide), fun e => absurd e (by decide), fun e => absurd e (by decide), fun e => absurd e (by decide), fun e => absurd e (by decide), fun _ => h, fun e => absurd e (by decide), fun e => absurd e (by decide), fun e => absurd e (by decide), fun e => absurd e (by decide), fun n0 n1 n2 n3 n4 n5 n6 n7 n8 n9 n10 n11 n12 => absurd rfl n8⟩
theorem ab36_9 {b_a0 : MO} {x1 x2 : Int32} {post : Int32 → MO → Prop} {d_a0 : MO} {x3 x4 s0 : Int32} (hv : x1 - x1 / (16 : Int32) * (16 : Int32) = (9 : Int32)) (h : (P_L_call d_a0 (19 : Int32) (x2 - x2 / (2 : Int32) * (2 : Int32)) (0 : Int32) (0 : Int32) (fun r_54 m_55 => post r_54 m_55))) : P_L_act_b36 b_a0 x1 x2 post d_a0 x3 x4 s0 := by
  unfold P_L_act_b36
  rw [hv]
  exact fae ⟨fun e => absurd e (by decide), fun e => absurd e (by decide), fun e => absurd e (by decide), fun e => absurd e (by decide), fun e => absurd e (by decide), fun e => absurd e (by decide), fun e => absurd e (by decide), fun e => absurd e (by decide), fun e => absurd e (by decide), fun _ => h, fun e => absurd e (by decide), fun e => absurd e (by decide), fun e => absurd e (by decide), fun n0 n1 n2 n3 n4 n5 n6 n7 n8 n9 n10 n11 n12 => absurd rfl n9⟩
theorem ab36_10 {b_a0 : MO} {x1 x2 : Int32} {post : Int32 → MO → Prop} {d_a0 : MO} {x3 x4 s0 : Int32} (hv : x1 - x1 / (16 : Int32) * (16 : Int32) = (10 : Int32)) (h : (P_X5_clearText d_a0.2.2.2.2.1 (fun r_57 m_58 => P_L_call (d_a0.1, d_a0.2.1, d_a0.2.2.1, d_a0.2.2.2.1, m_58, d_a0.2.2.2.2.2.1, d_a0.2.2.2.2.2.2.1, d_a0.2.2.2.2.2.2.2.1, d_a0.2.2.2.2.2.2.2.2.1, d_a0.2.2.2.2.2.2.2.2.2.1, d_a0.2.2.2.2.2.2.2.2.2.2) (0 : Int32) ((48 : Int32) + x4) (0 : Int32) (0 : Int32) (fun r_59 m_60 => (x2 - x2 / (5 : Int32) * (5 : Int32) = 0 → (P_L_act_b248 b_a0 x1 x2 post m_60 r_59 (0 : Int32) (45 : Int32))) ∧ (¬ (x2 - x2 / (5 : Int32) * (5 : Int32) = 0) → (P_L_act_b248 b_a0 x1 x2 post m_60 r_59 (0 : Int32) (43 : Int32))))))) : P_L_act_b36 b_a0 x1 x2 post d_a0 x3 x4 s0 := by
  unfold P_L_act_b36
  rw [hv]
  exact fae ⟨fun e => absurd e (by decide), fun e => absurd e (by decide), fun e => absurd e (by decide), fun e => absurd e (by decide), fun e => absurd e (by decide), fun e => absurd e (by decide), fun e => absurd e (by decide), fun e => absurd e (by decide), fun e => absurd e (by decide), fun e => absurd e (by decide), fun _ => h, fun e => absurd e (by decide), fun e => absurd e (by decide), fun n0 n1 n2 n3 n4 n5 n6 n7 n8 n9 n10 n11 n12 => absurd rfl n10⟩
theorem ab36_11 {b_a0 : MO} {x1 x2 : Int32} {post : Int32 → MO → Prop} {d_a0 : MO} {x3 x4 s0 : Int32} (hv : x1 - x1 / (16 : Int32) * (16 : Int32) = (11 : Int32)) (h : (P_L_trySee d_a0.1 d_a0.2.1 d_a0.2.2.1 d_a0.2.2.2.1 x4 ((x2 / (64 : Int32)) - (x2 / (64 : Int32)) / (3 : Int32) * (3 : Int32)) ((x2 / (512 : Int32)) - (x2 / (512 : Int32)) / (120 : Int32) * (120 : Int32)) (0 : Int32) (fun r_63 m_64 m_65 m_66 m_67 => post r_63 (m_64, m_65, m_66, m_67, d_a0.2.2.2.2.1, d_a0.2.2.2.2.2.1, d_a0.2.2.2.2.2.2.1, d_a0.2.2.2.2.2.2.2.1, d_a0.2.2.2.2.2.2.2.2.1, d_a0.2.2.2.2.2.2.2.2.2.1, d_a0.2.2.2.2.2.2.2.2.2.2)))) : P_L_act_b36 b_a0 x1 x2 post d_a0 x3 x4 s0 := by
  unfold P_L_act_b36
  rw [hv]
  exact fae ⟨fun e => absurd e (by decide), fun e => absurd e (by decide), fun e => absurd e (by decide), fun e => absurd e (by decide), fun e => absurd e (by decide), fun e => absurd e (by decide), fun e => absurd e (by decide), fun e => absurd e (by decide), fun e => absurd e (by decide), fun e => absurd e (by decide), fun e => absurd e (by decide), fun _ => h, fun e => absurd e (by decide), fun n0 n1 n2 n3 n4 n5 n6 n7 n8 n9 n10 n11 n12 => absurd rfl n11⟩
theorem ab36_12 {b_a0 : MO} {x1 x2 : Int32} {post : Int32 → MO → Prop} {d_a0 : MO} {x3 x4 s0 : Int32} (hv : x1 - x1 / (16 : Int32) * (16 : Int32) = (12 : Int32)) (h : (P_L_trySee d_a0.1 d_a0.2.1 d_a0.2.2.1 d_a0.2.2.2.1 x4 ((x2 / (64 : Int32)) - (x2 / (64 : Int32)) / (3 : Int32) * (3 : Int32)) ((x2 / (512 : Int32)) - (x2 / (512 : Int32)) / (120 : Int32) * (120 : Int32)) (0 : Int32) (fun r_69 m_70 m_71 m_72 m_73 => post r_69 (m_70, m_71, m_72, m_73, d_a0.2.2.2.2.1, d_a0.2.2.2.2.2.1, d_a0.2.2.2.2.2.2.1, d_a0.2.2.2.2.2.2.2.1, d_a0.2.2.2.2.2.2.2.2.1, d_a0.2.2.2.2.2.2.2.2.2.1, d_a0.2.2.2.2.2.2.2.2.2.2)))) : P_L_act_b36 b_a0 x1 x2 post d_a0 x3 x4 s0 := by
  unfold P_L_act_b36
  rw [hv]
  exact fae ⟨fun e => absurd e (by decide), fun e => absurd e (by decide), fun e => absurd e (by decide), fun e => absurd e (by decide), fun e => absurd e (by decide), fun e => absurd e (by decide), fun e => absurd e (by decide), fun e => absurd e (by decide), fun e => absurd e (by decide), fun e => absurd e (by decide), fun e => absurd e (by decide), fun e => absurd e (by decide), fun _ => h, fun n0 n1 n2 n3 n4 n5 n6 n7 n8 n9 n10 n11 n12 => absurd rfl n12⟩
theorem ab36_d {b_a0 : MO} {x1 x2 : Int32} {post : Int32 → MO → Prop} {d_a0 : MO} {x3 x4 s0 : Int32} (h0 : ¬ x1 - x1 / (16 : Int32) * (16 : Int32) = (0 : Int32)) (h1 : ¬ x1 - x1 / (16 : Int32) * (16 : Int32) = (1 : Int32)) (h2 : ¬ x1 - x1 / (16 : Int32) * (16 : Int32) = (2 : Int32)) (h3 : ¬ x1 - x1 / (16 : Int32) * (16 : Int32) = (3 : Int32)) (h4 : ¬ x1 - x1 / (16 : Int32) * (16 : Int32) = (4 : Int32)) (h5 : ¬ x1 - x1 / (16 : Int32) * (16 : Int32) = (5 : Int32)) (h6 : ¬ x1 - x1 / (16 : Int32) * (16 : Int32) = (6 : Int32)) (h7 : ¬ x1 - x1 / (16 : Int32) * (16 : Int32) = (7 : Int32)) (h8 : ¬ x1 - x1 / (16 : Int32) * (16 : Int32) = (8 : Int32)) (h9 : ¬ x1 - x1 / (16 : Int32) * (16 : Int32) = (9 : Int32)) (h10 : ¬ x1 - x1 / (16 : Int32) * (16 : Int32) = (10 : Int32)) (h11 : ¬ x1 - x1 / (16 : Int32) * (16 : Int32) = (11 : Int32)) (h12 : ¬ x1 - x1 / (16 : Int32) * (16 : Int32) = (12 : Int32)) (h : ((x2 - x2 / (2 : Int32) * (2 : Int32) = 0 → (P_L_act_b382 b_a0 x1 x2 post d_a0 x4 ((x2 / (64 : Int32)) - (x2 / (64 : Int32)) / (3 : Int32) * (3 : Int32)) (x2 / (512 : Int32)) (1000 : Int32))) ∧ (¬ (x2 - x2 / (2 : Int32) * (2 : Int32) = 0) → (P_L_act_b382 b_a0 x1 x2 post d_a0 x4 ((x2 / (64 : Int32)) - (x2 / (64 : Int32)) / (3 : Int32) * (3 : Int32)) (x2 / (512 : Int32)) (200 : Int32))))) : P_L_act_b36 b_a0 x1 x2 post d_a0 x3 x4 s0 := by
  unfold P_L_act_b36
  exact fae ⟨fun e => absurd e h0, fun e => absurd e h1, fun e => absurd e h2, fun e => absurd e h3, fun e => absurd e h4, fun e => absurd e h5, fun e => absurd e h6, fun e => absurd e h7, fun e => absurd e h8, fun e => absurd e h9, fun e => absurd e h10, fun e => absurd e h11, fun e => absurd e h12, fun _ _ _ _ _ _ _ _ _ _ _ _ _ => h⟩
theorem e_act36 {σ : ST} (w : WF σ) (x1 x2 x3 x4 s0 : Int32) : ∃ r σ', WF σ' ∧ ∀ b : MO, Ag b σ → ∀ post : Int32 → MO → Prop, (∀ b', Ag b' σ' → post r b') → ∀ b_a0 : MO, P_L_act_b36 b_a0 x1 x2 post b x3 x4 s0 := by
  by_cases v0 : x1 - x1 / (16 : Int32) * (16 : Int32) = (0 : Int32)
  · by_cases c : x3 ≤ (5 : Int32)
    · obtain ⟨r, σ', w', d⟩ := e_found w 0 0 0
      exact ⟨r, σ', w', fun b hb post h b_a0 => ab36_0 v0 (brT c (d b hb _ h))⟩
    · obtain ⟨r, σ', w', d⟩ := e_undo w 0 0 0
      exact ⟨r, σ', w', fun b hb post h b_a0 => ab36_0 v0 (brF c (d b hb _ h))⟩
  by_cases v1 : x1 - x1 / (16 : Int32) * (16 : Int32) = (1 : Int32)
  · by_cases c : x3 ≤ (5 : Int32)
    · obtain ⟨r, σ', w', d⟩ := e_found w 0 0 0
      exact ⟨r, σ', w', fun b hb post h b_a0 => ab36_1 v1 (brT c (d b hb _ h))⟩
    · obtain ⟨r, σ', w', d⟩ := e_undo w 0 0 0
      exact ⟨r, σ', w', fun b hb post h b_a0 => ab36_1 v1 (brF c (d b hb _ h))⟩
  by_cases v2 : x1 - x1 / (16 : Int32) * (16 : Int32) = (2 : Int32)
  · obtain ⟨r, σ', w', d⟩ := e_lay w x4 s0 ((1 : Int32) + ((x2 / (64 : Int32)) - (x2 / (64 : Int32)) / (99 : Int32) * (99 : Int32)))
    exact ⟨r, σ', w', fun b hb post h b_a0 => ab36_2 v2 (d b hb _ h)⟩
  by_cases v3 : x1 - x1 / (16 : Int32) * (16 : Int32) = (3 : Int32)
  · obtain ⟨r, σ', w', d⟩ := e_lay w x4 s0 ((1 : Int32) + ((x2 / (64 : Int32)) - (x2 / (64 : Int32)) / (99 : Int32) * (99 : Int32)))
    exact ⟨r, σ', w', fun b hb post h b_a0 => ab36_3 v3 (d b hb _ h)⟩
  by_cases v4 : x1 - x1 / (16 : Int32) * (16 : Int32) = (4 : Int32)
  · obtain ⟨r, σ', w', d⟩ := e_lay w x4 s0 ((1 : Int32) + ((x2 / (64 : Int32)) - (x2 / (64 : Int32)) / (99 : Int32) * (99 : Int32)))
    exact ⟨r, σ', w', fun b hb post h b_a0 => ab36_4 v4 (d b hb _ h)⟩
  by_cases v5 : x1 - x1 / (16 : Int32) * (16 : Int32) = (5 : Int32)
  · obtain ⟨r, σ', w', d⟩ := e_tear w x4 s0 (0 : Int32)
    exact ⟨r, σ', w', fun b hb post h b_a0 => ab36_5 v5 (d b hb _ h)⟩
  by_cases v6 : x1 - x1 / (16 : Int32) * (16 : Int32) = (6 : Int32)
  · obtain ⟨r, σ', w', d⟩ := e_forget w x4 ((x2 / (64 : Int32)) - (x2 / (64 : Int32)) / (6 : Int32) * (6 : Int32)) (0 : Int32)
    exact ⟨r, σ', w', fun b hb post h b_a0 => ab36_6 v6 (d b hb _ h)⟩
  by_cases v7 : x1 - x1 / (16 : Int32) * (16 : Int32) = (7 : Int32)
  · obtain ⟨r, σ', w', d⟩ := e_undo w (0 : Int32) (0 : Int32) (0 : Int32)
    exact ⟨r, σ', w', fun b hb post h b_a0 => ab36_7 v7 (d b hb _ h)⟩
  by_cases v8 : x1 - x1 / (16 : Int32) * (16 : Int32) = (8 : Int32)
  · obtain ⟨r, σ', w', d⟩ := e_keep w (x2 - x2 / (2 : Int32) * (2 : Int32)) (0 : Int32) (0 : Int32)
    exact ⟨r, σ', w', fun b hb post h b_a0 => ab36_8 v8 (d b hb _ h)⟩
  by_cases v9 : x1 - x1 / (16 : Int32) * (16 : Int32) = (9 : Int32)
  · obtain ⟨r, σ', w', d⟩ := e_back w (x2 - x2 / (2 : Int32) * (2 : Int32)) (0 : Int32) (0 : Int32)
    exact ⟨r, σ', w', fun b hb post h b_a0 => ab36_9 v9 (d b hb _ h)⟩
  by_cases v10 : x1 - x1 / (16 : Int32) * (16 : Int32) = (10 : Int32)
  · obtain ⟨r1, σ1, w1, d1⟩ := e_append (WF_clr w) ((48 : Int32) + x4) 0 0
    obtain ⟨r2, σ2, w2, d2⟩ := e_append w1 (if x2 - x2 / (5 : Int32) * (5 : Int32) = 0 then (45 : Int32) else (43 : Int32)) 0 0
    obtain ⟨r3, σ3, w3, d3⟩ := e_append w2 ((48 : Int32) + ((x2 / (64 : Int32)) - (x2 / (64 : Int32)) / (7 : Int32) * (7 : Int32))) 0 0
    obtain ⟨r4, σ4, w4, d4⟩ := e_append w3 (58 : Int32) 0 0
    obtain ⟨r5, σ5, w5, d5⟩ := e_append w4 ((49 : Int32) + ((x2 / (512 : Int32)) - (x2 / (512 : Int32)) / (9 : Int32) * (9 : Int32))) 0 0
    obtain ⟨r6, σ6, w6, d6⟩ := e_append w5 ((48 : Int32) + ((x2 / (8192 : Int32)) - (x2 / (8192 : Int32)) / (10 : Int32) * (10 : Int32))) 0 0
    obtain ⟨r7, σ7, w7, d7⟩ := e_seeAll w6 0 0 0
    refine ⟨((((((r1 + r2) + r3) + r4) + r5) + r6) + r7), σ7, w7, fun b hb post h b_a0 => ab36_10 v10 (k_clear w hb (fun r m hm => d1 _ hm _ (fun b1 g1 => ?_)))⟩
    have tail : ∀ c : Int32, c = (if x2 - x2 / (5 : Int32) * (5 : Int32) = 0 then (45 : Int32) else (43 : Int32)) → P_L_act_b248 b_a0 x1 x2 post b1 r1 0 c := fun c hc => by
      subst hc
      unfold P_L_act_b248
      exact d2 _ g1 _ (fun b2 g2 => d3 _ g2 _ (fun b3 g3 => d4 _ g3 _ (fun b4 g4 => d5 _ g4 _ (fun b5 g5 => d6 _ g5 _ (fun b6 g6 => d7 _ g6 _ (fun b7 g7 => h _ g7))))))
    exact br (fun c => tail _ (by rw [if_pos c])) (fun c => tail _ (by rw [if_neg c]))
  by_cases v11 : x1 - x1 / (16 : Int32) * (16 : Int32) = (11 : Int32)
  · obtain ⟨r, σ', w', d⟩ := e_see w x4 ((x2 / (64 : Int32)) - (x2 / (64 : Int32)) / (3 : Int32) * (3 : Int32)) ((x2 / (512 : Int32)) - (x2 / (512 : Int32)) / (120 : Int32) * (120 : Int32)) (0 : Int32)
    exact ⟨r, σ', w', fun b hb post h b_a0 => ab36_11 v11 (d b hb _ (fun m1 m2 m3 m4 g => h _ g))⟩
  by_cases v12 : x1 - x1 / (16 : Int32) * (16 : Int32) = (12 : Int32)
  · obtain ⟨r, σ', w', d⟩ := e_see w x4 ((x2 / (64 : Int32)) - (x2 / (64 : Int32)) / (3 : Int32) * (3 : Int32)) ((x2 / (512 : Int32)) - (x2 / (512 : Int32)) / (120 : Int32) * (120 : Int32)) (0 : Int32)
    exact ⟨r, σ', w', fun b hb post h b_a0 => ab36_12 v12 (d b hb _ (fun m1 m2 m3 m4 g => h _ g))⟩
  by_cases c : x2 - x2 / (2 : Int32) * (2 : Int32) = 0
  · obtain ⟨r, σ', w', d⟩ := e_see w x4 ((x2 / (64 : Int32)) - (x2 / (64 : Int32)) / (3 : Int32) * (3 : Int32)) ((x2 / (512 : Int32)) - (x2 / (512 : Int32)) / (1000 : Int32) * (1000 : Int32)) (1 : Int32)
    refine ⟨r, σ', w', fun b hb post h b_a0 => ab36_d v0 v1 v2 v3 v4 v5 v6 v7 v8 v9 v10 v11 v12 (brT c ?_)⟩
    unfold P_L_act_b382
    exact ⟨by decide, d b hb _ (fun m1 m2 m3 m4 g => h _ g)⟩
  · obtain ⟨r, σ', w', d⟩ := e_see w x4 ((x2 / (64 : Int32)) - (x2 / (64 : Int32)) / (3 : Int32) * (3 : Int32)) ((x2 / (512 : Int32)) - (x2 / (512 : Int32)) / (200 : Int32) * (200 : Int32)) (1 : Int32)
    refine ⟨r, σ', w', fun b hb post h b_a0 => ab36_d v0 v1 v2 v3 v4 v5 v6 v7 v8 v9 v10 v11 v12 (brF c ?_)⟩
    unfold P_L_act_b382
    exact ⟨by decide, d b hb _ (fun m1 m2 m3 m4 g => h _ g)⟩
theorem e_act {σ : ST} (w : WF σ) (x1 x2 : Int32) : ∃ r σ', WF σ' ∧ ∀ b : MO, Ag b σ → ∀ post : Int32 → MO → Prop, (∀ b', Ag b' σ' → post r b') → P_L_act b x1 x2 post := by
  have a0 : aboutN σ.1 0 = σ.1 0 := if_pos rfl
  by_cases c : nI (σ.1 0) = 0
  · obtain ⟨r, σ', w', d⟩ := e_act36 w x1 x2 (nI (σ.1 0)) 0 0
    refine ⟨r, σ', w', fun b hb post h => ?_⟩
    unfold P_L_act
    refine k_aboutN w hb 0 (by omega) (fun b1 g1 => ?_)
    rw [a0]
    refine brT c ?_
    unfold P_L_act_b20
    exact brT c (d b1 g1 post h b)
  · obtain ⟨r, σ', w', d⟩ := e_act36 w x1 x2 (nI (σ.1 0)) (x2 - x2 / nI (σ.1 0) * nI (σ.1 0)) ((x2 / (8 : Int32)) - (x2 / (8 : Int32)) / nI (σ.1 0) * nI (σ.1 0))
    refine ⟨r, σ', w', fun b hb post h => ?_⟩
    unfold P_L_act
    refine k_aboutN w hb 0 (by omega) (fun b1 g1 => ?_)
    rw [a0]
    refine brF c ⟨c, ?_⟩
    unfold P_L_act_b20
    exact brF c ⟨c, d b1 g1 post h b⟩
