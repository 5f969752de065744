/-! a turn of the law -/
theorem and_pos (v : Int32) : ¬ (v &&& (2147483647 : Int32)) < 0 := by
  rw [i_lt, show (0 : Int32).toInt = 0 from rfl]
  have hm : (v &&& (2147483647 : Int32)).toBitVec.msb = false := by
    rw [Int32.toBitVec_and, BitVec.msb_and, show ((2147483647 : Int32).toBitVec).msb = false from by decide, Bool.and_false]
  have e : (v &&& (2147483647 : Int32)).toInt = ((v &&& (2147483647 : Int32)).toBitVec).toInt := rfl
  rw [e, BitVec.toInt_eq_msb_cond, hm, if_neg (by decide)]
  omega
theorem cellF_pos (L : Nat) (xs : Nat → Int32) (k : Int32) : ¬ cellF L xs k < 0 := and_pos _
def RELp (g : GS) : Prop := ∃ σ, WF σ ∧ Ag g.1 σ ∧ Ag g.2 σ
theorem d_simulate {σ : ST} (w : WF σ) (x : Int64) (m : Int32) : ∃ r, ∀ b : MO, Ag b σ → ∀ (m1 : Nat → Int32) (m2 : BH) (post : Int32 → (Nat → Int32) → BH → Prop), (∀ m' b', post r m' b') → P_L_trySimulate b.1 m1 m2 x m post := by
  cases e : isLen m with
  | false => exact ⟨vA, fun b hb m1 m2 post h => k_simulate w hb (fun _ => h) (fun q => by rw [e] at q; exact nomatch q)⟩
  | true => exact ⟨_, fun b hb m1 m2 post h => k_simulate w hb (fun q => by rw [e] at q; exact nomatch q) (fun _ => h)⟩
theorem d_script {σ : ST} (w : WF σ) (x : Int32) (y : Int64) : ∃ r, ∀ b : MO, Ag b σ → ∀ (m1 : Nat → Int32) (m2 : BH) (post : Int32 → (Nat → Int32) → BH → Prop), (∀ m' b', post r m' b') → P_L_tryScript b.1 m1 m2 x y post := by
  cases e : okR x y with
  | false => exact ⟨vA, fun b hb m1 m2 post h => k_script w hb (fun _ => h) (fun q => by rw [e] at q; exact nomatch q)⟩
  | true => exact ⟨_, fun b hb m1 m2 post h => k_script w hb (fun q => by rw [e] at q; exact nomatch q) (fun _ => h)⟩
theorem t_checks {xs : Nat → Int32} {L : Nat} {g : GS} {x4 : Int32} {σ : ST} (w : WF σ) {d : GS} (h1 : Ag d.1 σ) (h2 : Ag d.2 σ) (x y : Int32) : P_Ls32_b142 xs L g x4 (fun g' x3 => x3 = 1 ∧ RELp g') d x y 1 := by
  unfold P_Ls32_b142
  refine fl6 ?_
  obtain ⟨r1, d1⟩ := d_simulate w ((x.toInt64 * (3434254022 : Int64)) - (821 : Int64)) ((1 : Int32) + (y - y / (12 : Int32) * (12 : Int32)))
  obtain ⟨r2, d2⟩ := d_script w (2 : Int32) (y.toInt64 * (400 : Int64))
  obtain ⟨r3, d3⟩ := d_bestRoad w ((1 : Int32) + (y - y / (99 : Int32) * (99 : Int32))) 0 0
  refine d1 _ h1 _ _ _ (fun m1 n1 => brF f1I (d1 _ h2 _ _ _ (fun m2 n2 => brT rfl (d2 _ h1 _ _ _ (fun m3 n3 => d2 _ h2 _ _ _ (fun m4 n4 => brT rfl (k_dearest w h1 (fun m5 n5 => k_dearest w h2 (fun m6 n6 => brT rfl ?_)))))))))
  refine d3 (rhs d.1 m5 n5) (Ag_rhs h1 m5 n5) _ (fun a1 g1 => d3 (rhs d.2 m6 n6) (Ag_rhs h2 m6 n6) _ (fun b1 g2 => brT rfl (k_alike w g1 g2 (fun a2 b2 g3 g4 => brF f1I ⟨rfl, σ, w, g3, g4⟩))))
theorem t_turn {xs : Nat → Int32} {L : Nat} {g : GS} (hR : RELp g) {j : Nat} (hj : j < 28) : P_Ls32 xs L g (nI j) (fun g' x3 => x3 = 1 ∧ RELp g') := by
  obtain ⟨σ, w, h1, h2⟩ := hR
  have e2 : (2 : Int32) * nI j = nI (2 * j) := by rw [show (2 : Int32) = nI 2 from rfl, pk_mul]
  have e3 : nI (2 * j) + (1 : Int32) = nI (2 * j + 1) := nI_p1 _
  unfold P_Ls32
  rw [e2, e3]
  refine ⟨nI_pos (by omega), fae ⟨nI_pos (by omega), fae ?_⟩⟩
  have hx := cellF_pos L xs (nI (2 * j))
  have hy := cellF_pos L xs (nI (2 * j + 1))
  generalize cellF L xs (nI (2 * j)) = x at hx ⊢
  generalize cellF L xs (nI (2 * j + 1)) = y at hy ⊢
  obtain ⟨r, σ1, w1, da⟩ := e_act w x y
  refine k_refuses w h1 hx (fun b1 g1 => brF f1I (da _ g1 _ (fun b2 g2 => da _ h2 _ (fun b3 g3 => brT rfl (k_refuses w1 g2 hy (fun b4 g4 => brF f1I (k_alike w1 g4 g3 (fun a5 b5 g5 g6 => brF f1I ?_))))))))
  unfold P_Ls32_b106
  refine br (fun _ => brF f1I ?_) (fun _ => ⟨rfl, σ1, w1, g5, g6⟩)
  obtain ⟨σ2, w2, dh⟩ := e_holds w1 hy
  exact dh _ g5 _ (fun b6 g7 => brF f1I (dh _ g6 _ (fun b7 g8 => brF f1I (t_checks w2 (d := (b6, b7)) g7 g8 x y))))
