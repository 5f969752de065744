/-! a turn, the class's side -/
theorem dv {p d : Nat} (hp : p < 2 ^ 31) (h0 : 0 < d) (hd : d < 2 ^ 31) : nI p / nI d = nI (p / d) := pk_div hp h0 hd
theorem md {p d : Nat} (hp : p < 2 ^ 31) (h0 : 0 < d) (hd : d < 2 ^ 31) : nI p - nI p / nI d * nI d = nI (p % d) := nI_mod hp h0 hd
theorem c_turn {C : Nat → Int32} {S : Nat → Nat} (hC : AgC C S) (ok : OK S) {p : Nat} (hp : p < 2 ^ 31) {post : (Nat → Int32) → Prop} (h : ∀ m, AgC m (turnS S p) → post m) : P_X3_turn C (nI p) post := by
  have hT := ok.T
  have d16 : p / 16 < 2 ^ 31 := by omega
  have d256 : p / 256 < 2 ^ 31 := by omega
  have d64 : p / 64 < 2 ^ 31 := by omega
  have d512 : p / 512 < 2 ^ 31 := by omega
  have d4096 : p / 4096 < 2 ^ 31 := by omega
  unfold P_X3_turn
  have main : P_X3_turn_b21 C (nI p) post (nI (tN S)) := by
    have t0 : 0 < tN S := by unfold tN; split <;> omega
    have t10 : tN S ≤ 10 := by unfold tN; split <;> omega
    have m1 := Nat.mod_lt (p / 16) t0
    have m2 := Nat.mod_lt (p / 256) t0
    have m6 := Nat.mod_lt (p / 64) (show 0 < 6 by omega)
    have mk1 := Nat.mod_lt (p / 512) (show 0 < 1000 by omega)
    have mk2 := Nat.mod_lt (p / 512) (show 0 < 200 by omega)
    have m60 := Nat.mod_lt (p / 4096) (show 0 < 60 by omega)
    have k16 := Nat.mod_lt p (show 0 < 16 by omega)
    unfold P_X3_turn_b21
    rw [show (16 : Int32) = nI 16 from rfl, show (256 : Int32) = nI 256 from rfl, show (64 : Int32) = nI 64 from rfl, show (512 : Int32) = nI 512 from rfl, show (4096 : Int32) = nI 4096 from rfl, show (6 : Int32) = nI 6 from rfl, show (1000 : Int32) = nI 1000 from rfl, show (200 : Int32) = nI 200 from rfl, show (60 : Int32) = nI 60 from rfl]
    rw [md hp (by omega) (by omega), dv hp (by omega) (by omega), dv hp (by omega) (by omega), dv hp (by omega) (by omega), dv hp (by omega) (by omega), dv hp (by omega) (by omega)]
    rw [md d16 t0 (by omega), md d256 t0 (by omega), md d64 (by omega) (by omega), md d512 (by omega) (by omega), md d512 (by omega) (by omega), md d4096 (by omega) (by omega)]
    refine ⟨nI_ne0 t0 (by omega), fae ⟨nI_ne0 t0 (by omega), fae (fae ?_)⟩⟩
    unfold P_X3_turn_b172
    unfold turnS at h
    refine brE0 (by omega) (fun q0 => ?_) (fun q0 => ?_)
    · rw [if_pos q0] at h
      exact s1_addTown hC ok (fun e => h C (by rw [if_neg (by omega)]; exact hC)) (fun e C' hC' => h C' (by rw [if_pos e]; exact hC'))
    · rw [if_neg (by omega)] at h
      rw [show (4 : Int32) = nI 4 from rfl, i_ltN (by omega) (by omega), show (5 : Int32) = nI 5 from rfl, i_eqN (by omega) (by omega), show (12 : Int32) = nI 12 from rfl, i_ltN (by omega) (by omega), show (1 : Int32) + nI (p / 4096 % 60) = nI (1 + p / 4096 % 60) from nI_add 1 _]
      refine br (fun q4 => ?_) (fun q4 => ?_)
      · rw [if_neg (by omega)] at h
        refine br (fun q5 => ?_) (fun q5 => ?_)
        · rw [if_pos q5] at h
          exact s1_cut hC ok (fun C' hC' => h C' hC')
        · rw [if_neg q5] at h
          have no : ∀ {t y : Int32}, isNote S (nI (p / 16 % tN S)) t y = false ∨ isNote S (nI (p / 16 % tN S)) t y = true := fun {t y} => by cases isNote S (nI (p / 16 % tN S)) t y <;> simp
          have tw : ∀ y, y < 1000 → (isNote S (nI (p / 16 % tN S)) (nI (p / 64 % 6)) (nI y) = true ↔ p / 16 % tN S < S 0) := fun y hy => by
            constructor
            · intro w
              have := isNote_T w
              rw [isT_nI (by omega)] at this
              exact of_decide_eq_true this
            · intro w
              exact decide_eq_true ⟨isT_in (by omega) w, isT_in (by omega) m6, decide_eq_true (by rw [nI_toInt (by omega)]; omega)⟩
          refine br (fun q12 => ?_) (fun q12 => ?_)
          · refine s1_note hC ok (fun e => h C ?_) (fun e C' hC' => h C' ?_)
            · rw [if_neg (fun w => by rw [(tw _ (by omega)).mpr w] at e; exact nomatch e)]; exact hC
            · rw [if_pos ((tw _ (by omega)).mp e), if_neg (by omega)]
              rw [NN_nI (by omega), NN_nI (by omega), NN_nI (by omega)] at hC'; exact hC'
          · refine s1_note hC ok (fun e => h C ?_) (fun e C' hC' => h C' ?_)
            · rw [if_neg (fun w => by rw [(tw _ (by omega)).mpr w] at e; exact nomatch e)]; exact hC
            · rw [if_pos ((tw _ (by omega)).mp e), if_pos (by omega)]
              rw [NN_nI (by omega), NN_nI (by omega), NN_nI (by omega)] at hC'; exact hC'
      · rw [if_pos (by omega)] at h
        exact s1_join hC ok (fun e => h C (by rw [if_neg (by rw [e]; decide)]; exact hC)) (fun e C' hC' => h C' (by rw [if_pos e]; exact hC'))
  refine s1_townCount hC (brN0 (by omega) (fun z => ?_) (fun z => s1_townCount hC ?_))
  · have := main
    rw [show tN S = 1 from if_pos z] at this; exact this
  · have := main
    rw [show tN S = S 0 from if_neg (by omega)] at this; exact this
