/-! a turn, the model's side -/
theorem x6_turn {r : Nat → Int32} {S : Nat → Nat} (hM : AgM r S) (ok : OK S) {p : Nat} (hp : p < 2 ^ 31) {post : (Nat → Int32) → Prop} (h : ∀ m, AgM m (turnS S p) → post m) : P_X6_turn r (nI p) post := by
  have hT := ok.T
  have okt := OK_turnS ok p
  have d16 : p / 16 < 2 ^ 31 := by omega
  have d256 : p / 256 < 2 ^ 31 := by omega
  have d64 : p / 64 < 2 ^ 31 := by omega
  have d512 : p / 512 < 2 ^ 31 := by omega
  have d4096 : p / 4096 < 2 ^ 31 := by omega
  have main : P_X6_turn_b19 r (nI p) post (nI (tN S)) := by
    have t0 : 0 < tN S := by unfold tN; split <;> omega
    have t10 : tN S ≤ 10 := by unfold tN; split <;> omega
    have m1 := Nat.mod_lt (p / 16) t0
    have m2 := Nat.mod_lt (p / 256) t0
    have m6 := Nat.mod_lt (p / 64) (show 0 < 6 by omega)
    have mk1 := Nat.mod_lt (p / 512) (show 0 < 1000 by omega)
    have mk2 := Nat.mod_lt (p / 512) (show 0 < 200 by omega)
    have m60 := Nat.mod_lt (p / 4096) (show 0 < 60 by omega)
    have k16 := Nat.mod_lt p (show 0 < 16 by omega)
    unfold P_X6_turn_b19 P_X6_turn_b213 P_X6_turn_b225
    rw [show (16 : Int32) = nI 16 from rfl, show (256 : Int32) = nI 256 from rfl, show (64 : Int32) = nI 64 from rfl, show (512 : Int32) = nI 512 from rfl, show (4096 : Int32) = nI 4096 from rfl, show (6 : Int32) = nI 6 from rfl, show (1000 : Int32) = nI 1000 from rfl, show (200 : Int32) = nI 200 from rfl, show (60 : Int32) = nI 60 from rfl]
    rw [md hp (by omega) (by omega), dv hp (by omega) (by omega), dv hp (by omega) (by omega), dv hp (by omega) (by omega), dv hp (by omega) (by omega), dv hp (by omega) (by omega)]
    rw [md d16 t0 (by omega), md d256 t0 (by omega), md d64 (by omega) (by omega), md d512 (by omega) (by omega), md d512 (by omega) (by omega), md d4096 (by omega) (by omega), m0 hM]
    refine ⟨nI_ne0 t0 (by omega), fae ⟨nI_ne0 t0 (by omega), fae (fae ?_)⟩⟩
    unfold P_X6_turn_b70 P_X6_turn_b229
    unfold turnS at h okt
    refine brE0 (by omega) (fun q0 => ?_) (fun q0 => ?_)
    · rw [if_pos q0] at h
      rw [show (10 : Int32) = nI 10 from rfl, i_leN (by omega) (by omega)]
      refine br (fun e => ⟨nI_in (c := 0) (by omega) (by omega), h _ ?_⟩) (fun e => ⟨nI_in (c := 0) (by omega) (by omega), h _ ?_⟩)
      · rw [if_neg (by omega)]
        exact AgM_eq hM (fun k hk => by
          show (if k = 0 then nI (S 0) + (0 : Int32) else r k) = r k
          by_cases g : k = 0
          · rw [if_pos g, g, hM 0 (by omega), Int32.add_zero]
          · rw [if_neg g])
      · rw [if_pos (by omega), nI_p1]
        exact AgM_upd (k := 0) hM rfl
    · rw [if_neg (by omega)] at h okt
      rw [show (5 : Int32) = nI 5 from rfl, i_leN (by omega) (by omega), i_eqN (by omega) (by omega), show (13 : Int32) = nI 13 from rfl, i_leN (by omega) (by omega), show (1 : Int32) + nI (p / 4096 % 60) = nI (1 + p / 4096 % 60) from nI_add 1 _]
      refine br (fun q5 => ?_) (fun q5 => ?_)
      · rw [if_neg (by omega)] at h okt
        refine br (fun q6 => ?_) (fun q6 => ?_)
        · rw [if_pos q6] at h okt
          apply x6_areTowns hM ok
          refine bI_br (fun e => h r ?_) (fun e => ?_)
          · unfold cutS
            rw [if_neg (fun w => by have := rdX_both w; unfold bothT at this; rw [this] at e; exact nomatch e)]; exact hM
          · have e' := Bool.and_eq_true_iff.mp e
            have ea := e'.1
            have eb := e'.2
            rw [isT_nI (by omega)] at ea eb
            have ha := of_decide_eq_true ea
            have hb := of_decide_eq_true eb
            unfold cutS at h okt
            rw [rdX_n ha hb hT, NN_nI (by omega), NN_nI (by omega)] at h okt
            by_cases z : 0 < rd S (p / 16 % tN S) (p / 256 % tN S)
            · rw [if_pos z] at h okt
              exact x6_layOn hM (n := 0) (by omega) (by omega) okt (fun r' hr' => h r' hr')
            · rw [if_neg z] at h okt
              have zs := ok.sym (a := p / 16 % tN S) (b := p / 256 % tN S) (by omega) (by omega)
              have z1 : S (1 + 10 * (p / 16 % tN S) + (p / 256 % tN S)) = 0 := Nat.eq_zero_of_not_pos z
              have z2 : S (1 + 10 * (p / 256 % tN S) + (p / 16 % tN S)) = 0 := zs.symm.trans z1
              have same : setRd S (p / 16 % tN S) (p / 256 % tN S) 0 = S := funext fun k => by
                unfold setRd setS
                by_cases g : k = 1 + 10 * (p / 256 % tN S) + (p / 16 % tN S)
                · rw [if_pos g, g, z2]
                · rw [if_neg g]
                  by_cases f : k = 1 + 10 * (p / 16 % tN S) + (p / 256 % tN S)
                  · rw [if_pos f, f, z1]
                  · rw [if_neg f]
              exact x6_layOn hM (n := 0) (by omega) (by omega) (by rw [same]; exact ok) (fun r' hr' => h r' (by rw [same] at hr'; exact hr'))
        · rw [if_neg q6] at h okt
          apply x6_isTown hM ok
          rw [isT_nI (by omega)]
          by_cases tw : p / 16 % tN S < S 0
          · rw [if_pos tw] at h
            rw [decide_eq_true tw]
            refine brF f10 (br (fun q13 => brT q13 ?_) (fun q13 => brF q13 ?_))
            · rw [if_neg (by omega)] at h
              exact x6_seeOn hM ok tw m6 (by omega) (fun r' hr' => h r' hr')
            · rw [if_pos (by omega)] at h
              exact x6_seeOn hM ok tw m6 mk1 (fun r' hr' => h r' hr')
          · rw [if_neg tw] at h
            rw [decide_eq_false tw]
            exact brT rfl (h r hM)
      · rw [if_pos (by omega)] at h okt
        apply x6_whyNotLay hM ok
        refine br (fun g => ?_) (fun g => h r ?_)
        · have e := whyL_c.mp g
          rw [if_pos e, joinS_n (by omega) (by omega) (by omega)] at h okt
          exact x6_layOn hM (by omega) (by omega) okt (fun r' hr' => h r' hr')
        · rw [if_neg (fun w => g (whyL_0 w))]; exact hM
  unfold P_X6_turn
  rw [m0 hM]
  refine brE0 (by omega) (fun z => ?_) (fun z => ?_)
  · have := main
    rw [show tN S = 1 from if_pos z] at this; exact this
  · have := main
    rw [show tN S = S 0 from if_neg (by omega)] at this; exact this
