set_option maxHeartbeats 4000000 in
set_option maxRecDepth 100000 in
theorem c_X6_lay (l : Launch) (D : va_G) (Cs : Nat → ClassId) (q_o : Nat) (q_o_text : Nat) (q_o_now : Nat) (q_o_trial : Nat) (q_o_diary : Nat) (q_o_kept : Nat) (q_o_isKept : Nat) (q_o_years : Nat) (sz : Nat) (v_o_refusal : Int32) (v_o_acts : Int32) (v_o_now : (Nat → Int32)) (v_o_diary : (Nat → Int32)) (v_o_size : Int32) (v_o_least : Int32) (v_o_origins : Int32) (v_o_ofAll : Int32) (v_o_ofSome : Int32) (v_o_sets : Int32) (v_o_spot : Int32) (v_o_out : Int32) (x1 : Int32) (x2 : Int32) (x3 : Int32) {post : Int32 → Int32 → Int32 → (Nat → Int32) → (Nat → Int32) → Prop} (h : P_X6_lay v_o_refusal v_o_acts v_o_now v_o_diary x1 x2 x3 post) : Met l yX6_lay wsX6_lay ({ frames := 4, cells := 0, slots := 0, locals := 92 } : Room) (va_Pc [.ref q_o, .int x1, .int x2, .int x3] (gM D Cs [(q_o, .inr (6, [.int v_o_refusal, .ref q_o_text, .int v_o_size, .ref q_o_now, .ref q_o_trial, .ref q_o_diary, .int v_o_acts, .ref q_o_kept, .ref q_o_isKept, .ref q_o_years, .int v_o_least, .int v_o_origins, .int v_o_ofAll, .int v_o_ofSome, .int v_o_sets, .int v_o_spot, .int v_o_out])), (q_o_now, gI Cs 221 v_o_now), (q_o_diary, gI Cs 3094 v_o_diary)] sz)) (va_Qi (fun (r : Int32) (u : Int32 × Int32 × (Nat → Int32) × (Nat → Int32)) => post r u.1 u.2.1 u.2.2.1 u.2.2.2) (gB D (va_A [(q_o, .inr (6, [.int v_o_refusal, .ref q_o_text, .int v_o_size, .ref q_o_now, .ref q_o_trial, .ref q_o_diary, .int v_o_acts, .ref q_o_kept, .ref q_o_isKept, .ref q_o_years, .int v_o_least, .int v_o_origins, .int v_o_ofAll, .int v_o_ofSome, .int v_o_sets, .int v_o_spot, .int v_o_out])), (q_o_now, gI Cs 221 v_o_now), (q_o_diary, gI Cs 3094 v_o_diary)] sz) (fun u : Int32 × Int32 × (Nat → Int32) × (Nat → Int32) => [(q_o, .inr (6, [.int u.1, .ref q_o_text, .int v_o_size, .ref q_o_now, .ref q_o_trial, .ref q_o_diary, .int u.2.1, .ref q_o_kept, .ref q_o_isKept, .ref q_o_years, .int v_o_least, .int v_o_origins, .int v_o_ofAll, .int v_o_ofSome, .int v_o_sets, .int v_o_spot, .int v_o_out])), (q_o_now, gI Cs 221 u.2.2.1), (q_o_diary, gI Cs 3094 u.2.2.2)])) (va_A [(q_o, .inr (6, [.int v_o_refusal, .ref q_o_text, .int v_o_size, .ref q_o_now, .ref q_o_trial, .ref q_o_diary, .int v_o_acts, .ref q_o_kept, .ref q_o_isKept, .ref q_o_years, .int v_o_least, .int v_o_origins, .int v_o_ofAll, .int v_o_ofSome, .int v_o_sets, .int v_o_spot, .int v_o_out])), (q_o_now, gI Cs 221 v_o_now), (q_o_diary, gI Cs 3094 v_o_diary)] sz)) 0 0 (va_A [(q_o, .inr (6, [.int v_o_refusal, .ref q_o_text, .int v_o_size, .ref q_o_now, .ref q_o_trial, .ref q_o_diary, .int v_o_acts, .ref q_o_kept, .ref q_o_isKept, .ref q_o_years, .int v_o_least, .int v_o_origins, .int v_o_ofAll, .int v_o_ofSome, .int v_o_sets, .int v_o_spot, .int v_o_out])), (q_o_now, gI Cs 221 v_o_now), (q_o_diary, gI Cs 3094 v_o_diary)] sz) := by
  refine Met.ofW (cc := cX6_lay) (maxL := 4) (ret := (some .int)) (by decide) rfl ?_
  intro p e s m args below meth c s₁ B hml hv
  obtain ⟨ha, hsz, hP, hK, hD0, hN⟩ := hv
  have hx := B.exec
  have hb := B.bytes
  have hr := B.returns
  have hts := atoms_spec (ws := wsX6_lay) B.pre
  have htb : ∀ w ∈ TB, w.before args s = true := fun w h9 => hts w (List.mem_cons_of_mem _ h9)
  have hown : s.vm.findClass RX6 = some m.cls := findClass_of_methodNamed B.named
  have hlocks := B.notSynchronized
  subst hsz
  have hD := hD0.self (sz := s.heap.size)
  generalize hAe : va_A [(q_o, .inr (6, [.int v_o_refusal, .ref q_o_text, .int v_o_size, .ref q_o_now, .ref q_o_trial, .ref q_o_diary, .int v_o_acts, .ref q_o_kept, .ref q_o_isKept, .ref q_o_years, .int v_o_least, .int v_o_origins, .int v_o_ofAll, .int v_o_ofSome, .int v_o_sets, .int v_o_spot, .int v_o_out])), (q_o_now, gI Cs 221 v_o_now), (q_o_diary, gI Cs 3094 v_o_diary)] s.heap.size = A at hD ⊢
  have hA : ∀ q : Nat, s.heap.size ≤ q → A q := fun q h9 => by rw [← hAe]; exact Or.inr h9
  obtain ⟨H, hH⟩ : ∃ z : Heap, z = s.heap := ⟨_, rfl⟩
  have hS : va_S A s.heap H [] := by rw [hH]; exact va_S.rf
  have hP : va_P D vwCl [(q_o, .inr (6, [.int v_o_refusal, .ref q_o_text, .int v_o_size, .ref q_o_now, .ref q_o_trial, .ref q_o_diary, .int v_o_acts, .ref q_o_kept, .ref q_o_isKept, .ref q_o_years, .int v_o_least, .int v_o_origins, .int v_o_ofAll, .int v_o_ofSome, .int v_o_sets, .int v_o_spot, .int v_o_out])), (q_o_now, gI Cs 221 v_o_now), (q_o_diary, gI Cs 3094 v_o_diary)] H := by rw [hH]; exact hP
  generalize hQ : MQ below _ args s _ _ _ = Q
  show W p l e ({ frames := 4, cells := 0, slots := 0, locals := 92 } : Room) s m args below meth c s.heap [] 0 0 Q (entryFrame m args 4)
  have hent : entryFrame m args 4 = F0 m 0 ((lg_sl ([.ref q_o, .int x1, .int x2, .int x3]) ++ List.replicate (4 - (lg_sl ([.ref q_o, .int x1, .int x2, .int x3])).length) Slot.unset).toArray) [] := by rw [ha]; exact lg_entry_eq m ([.ref q_o, .int x1, .int x2, .int x3]) 4
  rw [hent]; clear hent
  rw [← hH]
  have hl := lv_entry ([.ref q_o, .int x1, .int x2, .int x3]) (n := 4) (Nat.le_of_ble_eq_true rfl)
  generalize (lg_sl ([.ref q_o, .int x1, .int x2, .int x3]) ++ List.replicate (4 - (lg_sl ([.ref q_o, .int x1, .int x2, .int x3])).length) Slot.unset).toArray = ls at hl ⊢
  have hl : lv_has ls 4 [(0, .ref q_o), (1, .int x1), (2, .int x2), (3, .int x3)] := hl
  unfold P_X6_lay at h
  refine lv_aload_n hx hb dX6_lay_0 rfl (lv_at hl 0 rfl) ?_
  refine lv_aload_n hx hb dX6_lay_1 rfl (lv_at hl 0 rfl) ?_
  refine va_get (D := D) (ci := 6) (v := .ref q_o_now) (C := RX6) (T := TX6) (N := 17) hx hb htb inT_X6 hown hK hP 0 rfl rfl 3 (by decide) (htb _ tb_90) (fun _ h9 => h9) rfl dX6_lay_2 ?_
  refine lv_iload_n hx hb dX6_lay_5 rfl (lv_at hl 1 rfl) ?_
  refine lv_iload_n hx hb dX6_lay_6 rfl (lv_at hl 2 rfl) ?_
  refine lv_iload_n hx hb dX6_lay_7 rfl (lv_at hl 3 rfl) ?_
  refine gSR (As := [.ref q_o_now, .int x1, .int x2, .int x3]) (rest := [.ref q_o]) ⟨hx, hb, hml, hown, htb⟩ hK hP hN [1] rfl (c_X6_whyNotLay l D Cs q_o_now 221 v_o_now x1 x2 x3 h) (va_cwS 4 htb (TB_s tb_506 tb_507 tb_5 (TB_self tb_508)) rfl rfl rfl z_X6_whyNotLay.2 ⟨Nat.le_of_ble_eq_true rfl, Nat.le_of_ble_eq_true rfl⟩) rfl hl.1 rfl (Nat.le_of_ble_eq_true rfl) ⟨Nat.le_of_ble_eq_true rfl, Nat.le_of_ble_eq_true rfl⟩ dX6_lay_8 (fun r_1 h => ?_)
  refine gVM (wr := [(q_o_now, gI Cs 221 v_o_now), (q_o_diary, gI Cs 3094 v_o_diary)]) (As := [.int r_1]) (rest := []) ⟨hx, hb, hml, hown, htb⟩ hK hP hD hS hA hN [0] [1, 2] rfl (by decide) rfl (by decide) (by decide) (c_X6_refused l D Cs q_o q_o_text q_o_now q_o_trial q_o_diary q_o_kept q_o_isKept q_o_years H.size v_o_refusal v_o_size v_o_acts v_o_least v_o_origins v_o_ofAll v_o_ofSome v_o_sets v_o_spot v_o_out r_1 h) (cwV 1 htb (TB_v tb_128 tb_129 tb_130 tb_5 (TB_self tb_131)) rfl rfl rfl z_X6_refused ⟨Nat.le_of_ble_eq_true rfl, Nat.le_of_ble_eq_true rfl⟩) 0 rfl rfl rfl rfl hl.1 rfl (Nat.le_of_ble_eq_true rfl) ⟨Nat.le_of_ble_eq_true rfl, Nat.le_of_ble_eq_true rfl⟩ dX6_lay_11 (fun r_2 m_3 H locs h hP hD hS => ?_)
  have hP : va_P D vwCl [(q_o_now, gI Cs 221 v_o_now), (q_o_diary, gI Cs 3094 v_o_diary), (q_o, .inr (6, [.int m_3, .ref q_o_text, .int v_o_size, .ref q_o_now, .ref q_o_trial, .ref q_o_diary, .int v_o_acts, .ref q_o_kept, .ref q_o_isKept, .ref q_o_years, .int v_o_least, .int v_o_origins, .int v_o_ofAll, .int v_o_ofSome, .int v_o_sets, .int v_o_spot, .int v_o_out]))] H := hP
  have hD : va_D A [(q_o_now, gI Cs 221 v_o_now), (q_o_diary, gI Cs 3094 v_o_diary), (q_o, .inr (6, [.int m_3, .ref q_o_text, .int v_o_size, .ref q_o_now, .ref q_o_trial, .ref q_o_diary, .int v_o_acts, .ref q_o_kept, .ref q_o_isKept, .ref q_o_years, .int v_o_least, .int v_o_origins, .int v_o_ofAll, .int v_o_ofSome, .int v_o_sets, .int v_o_spot, .int v_o_out]))] := hD
  refine lv_if_eq (tgt := 19) hx hb dX6_lay_14 (by decide) (fun c_4 => ?_) (fun c_4 => ?_)
  · have h := h.1 c_4
    refine lv_aload_n hx hb dX6_lay_19 rfl (lv_at hl 0 rfl) ?_
    refine gVMv (wr := []) (As := []) (rest := []) ⟨hx, hb, hml, hown, htb⟩ hK hP hD hS hA hN [2, 0, 1] [] rfl (by decide) rfl (by decide) (by decide) (c_X6_remember l D Cs q_o q_o_text q_o_now q_o_trial q_o_diary q_o_kept q_o_isKept q_o_years H.size v_o_acts v_o_now v_o_diary m_3 v_o_size v_o_least v_o_origins v_o_ofAll v_o_ofSome v_o_sets v_o_spot v_o_out h) (cwV 0 htb (TB_v tb_466 tb_467 tb_468 tb_5 (TB_self tb_469)) rfl rfl rfl z_X6_remember ⟨Nat.le_of_ble_eq_true rfl, Nat.le_of_ble_eq_true rfl⟩) 2 rfl rfl rfl rfl hl.1 rfl (Nat.le_of_ble_eq_true rfl) ⟨Nat.le_of_ble_eq_true rfl, Nat.le_of_ble_eq_true rfl⟩ dX6_lay_20 (fun u H locs h hP hD hS => ?_)
    obtain ⟨m_6, m_7⟩ := u
    try dsimp only at h
    have hP : va_P D vwCl [(q_o, .inr (6, [.int m_3, .ref q_o_text, .int v_o_size, .ref q_o_now, .ref q_o_trial, .ref q_o_diary, .int m_6, .ref q_o_kept, .ref q_o_isKept, .ref q_o_years, .int v_o_least, .int v_o_origins, .int v_o_ofAll, .int v_o_ofSome, .int v_o_sets, .int v_o_spot, .int v_o_out])), (q_o_now, gI Cs 221 v_o_now), (q_o_diary, gI Cs 3094 m_7)] H := hP
    have hD : va_D A [(q_o, .inr (6, [.int m_3, .ref q_o_text, .int v_o_size, .ref q_o_now, .ref q_o_trial, .ref q_o_diary, .int m_6, .ref q_o_kept, .ref q_o_isKept, .ref q_o_years, .int v_o_least, .int v_o_origins, .int v_o_ofAll, .int v_o_ofSome, .int v_o_sets, .int v_o_spot, .int v_o_out])), (q_o_now, gI Cs 221 v_o_now), (q_o_diary, gI Cs 3094 m_7)] := hD
    refine lv_aload_n hx hb dX6_lay_23 rfl (lv_at hl 0 rfl) ?_
    refine va_get (D := D) (ci := 6) (v := .ref q_o_now) (C := RX6) (T := TX6) (N := 17) hx hb htb inT_X6 hown hK hP 0 rfl rfl 3 (by decide) (htb _ tb_90) (fun _ h9 => h9) rfl dX6_lay_24 ?_
    refine lv_iload_n hx hb dX6_lay_27 rfl (lv_at hl 1 rfl) ?_
    refine lv_iload_n hx hb dX6_lay_28 rfl (lv_at hl 2 rfl) ?_
    refine lv_iload_n hx hb dX6_lay_29 rfl (lv_at hl 3 rfl) ?_
    refine gSM (wr := [(q_o, .inr (6, [.int m_3, .ref q_o_text, .int v_o_size, .ref q_o_now, .ref q_o_trial, .ref q_o_diary, .int m_6, .ref q_o_kept, .ref q_o_isKept, .ref q_o_years, .int v_o_least, .int v_o_origins, .int v_o_ofAll, .int v_o_ofSome, .int v_o_sets, .int v_o_spot, .int v_o_out])), (q_o_diary, gI Cs 3094 m_7)]) (As := [.ref q_o_now, .int x1, .int x2, .int x3]) (rest := []) ⟨hx, hb, hml, hown, htb⟩ hK hP hD hS hA hN [1] [0, 2] rfl (by decide) rfl (by decide) (by decide) (c_X6_layOn l D Cs q_o_now 221 H.size v_o_now x1 x2 x3 h) (va_cwS 4 htb (TB_s tb_513 tb_514 tb_5 (TB_self tb_515)) rfl rfl rfl z_X6_layOn.2 ⟨Nat.le_of_ble_eq_true rfl, Nat.le_of_ble_eq_true rfl⟩) rfl hl.1 rfl (Nat.le_of_ble_eq_true rfl) ⟨Nat.le_of_ble_eq_true rfl, Nat.le_of_ble_eq_true rfl⟩ dX6_lay_30 (fun r_8 m_9 H locs h hP hD hS => ?_)
    have hP : va_P D vwCl [(q_o, .inr (6, [.int m_3, .ref q_o_text, .int v_o_size, .ref q_o_now, .ref q_o_trial, .ref q_o_diary, .int m_6, .ref q_o_kept, .ref q_o_isKept, .ref q_o_years, .int v_o_least, .int v_o_origins, .int v_o_ofAll, .int v_o_ofSome, .int v_o_sets, .int v_o_spot, .int v_o_out])), (q_o_diary, gI Cs 3094 m_7), (q_o_now, gI Cs 221 m_9)] H := hP
    have hD : va_D A [(q_o, .inr (6, [.int m_3, .ref q_o_text, .int v_o_size, .ref q_o_now, .ref q_o_trial, .ref q_o_diary, .int m_6, .ref q_o_kept, .ref q_o_isKept, .ref q_o_years, .int v_o_least, .int v_o_origins, .int v_o_ofAll, .int v_o_ofSome, .int v_o_sets, .int v_o_spot, .int v_o_out])), (q_o_diary, gI Cs 3094 m_7), (q_o_now, gI Cs 221 m_9)] := hD
    rw [← hQ]
    exact gRetI (u := (m_3, m_6, m_9, m_7)) hx hb hr rfl h (hP.sub [0, 2, 1] rfl) (hD.sub [0, 2, 1] (by decide) rfl) hS dX6_lay_33 hlocks
  · have h := h.2 c_4
    refine lv_iconst (v := (0 : Int32)) hx hb dX6_lay_17 (by decide) ?_
    rw [← hQ]
    exact gRetI (u := (m_3, v_o_acts, v_o_now, v_o_diary)) hx hb hr rfl h (hP.sub [2, 0, 1] rfl) (hD.sub [2, 0, 1] (by decide) rfl) hS dX6_lay_18 hlocks
set_option maxHeartbeats 4000000 in
set_option maxRecDepth 100000 in
theorem c_X6_tearOn (l : Launch) (D : va_G) (Cs : Nat → ClassId) (q_a0 : Nat) (n_a0 : Nat) (sz : Nat) (v_a0 : (Nat → Int32)) (x1 : Int32) (x2 : Int32) {post : Int32 → (Nat → Int32) → Prop} (h : P_X6_tearOn n_a0 v_a0 x1 x2 post) : Met l yX6_tearOn wsX6_tearOn ({ frames := 2, cells := 0, slots := 0, locals := 45 } : Room) (va_Pc [.ref q_a0, .int x1, .int x2] (gM D Cs [(q_a0, gI Cs n_a0 v_a0)] sz)) (va_Qi (fun (r : Int32) (u : (Nat → Int32)) => post r u) (gB D (va_A [(q_a0, gI Cs n_a0 v_a0)] sz) (fun u : (Nat → Int32) => [(q_a0, gI Cs n_a0 u)])) (va_A [(q_a0, gI Cs n_a0 v_a0)] sz)) 0 0 (va_A [(q_a0, gI Cs n_a0 v_a0)] sz) := by
  refine Met.ofW (cc := cX6_tearOn) (maxL := 4) (ret := (some .int)) (by decide) rfl ?_
  intro p e s m args below meth c s₁ B hml hv
  obtain ⟨ha, hsz, hP, hK, hD0, hN⟩ := hv
  have hx := B.exec
  have hb := B.bytes
  have hr := B.returns
  have hts := atoms_spec (ws := wsX6_tearOn) B.pre
  have htb : ∀ w ∈ TB, w.before args s = true := fun w h9 => hts w (List.mem_cons_of_mem _ h9)
  have hown : s.vm.findClass RX6 = some m.cls := findClass_of_methodNamed B.named
  have hlocks := B.notSynchronized
  subst hsz
  have hD := hD0.self (sz := s.heap.size)
  generalize hAe : va_A [(q_a0, gI Cs n_a0 v_a0)] s.heap.size = A at hD ⊢
  have hA : ∀ q : Nat, s.heap.size ≤ q → A q := fun q h9 => by rw [← hAe]; exact Or.inr h9
  obtain ⟨H, hH⟩ : ∃ z : Heap, z = s.heap := ⟨_, rfl⟩
  have hS : va_S A s.heap H [] := by rw [hH]; exact va_S.rf
  have hP : va_P D vwCl [(q_a0, gI Cs n_a0 v_a0)] H := by rw [hH]; exact hP
  generalize hQ : MQ below _ args s _ _ _ = Q
  show W p l e ({ frames := 2, cells := 0, slots := 0, locals := 45 } : Room) s m args below meth c s.heap [] 0 0 Q (entryFrame m args 4)
  have hent : entryFrame m args 4 = F0 m 0 ((lg_sl ([.ref q_a0, .int x1, .int x2]) ++ List.replicate (4 - (lg_sl ([.ref q_a0, .int x1, .int x2])).length) Slot.unset).toArray) [] := by rw [ha]; exact lg_entry_eq m ([.ref q_a0, .int x1, .int x2]) 4
  rw [hent]; clear hent
  rw [← hH]
  have hl := lv_entry ([.ref q_a0, .int x1, .int x2]) (n := 4) (Nat.le_of_ble_eq_true rfl)
  generalize (lg_sl ([.ref q_a0, .int x1, .int x2]) ++ List.replicate (4 - (lg_sl ([.ref q_a0, .int x1, .int x2])).length) Slot.unset).toArray = ls at hl ⊢
  have hl : lv_has ls 4 [(0, .ref q_a0), (1, .int x1), (2, .int x2)] := hl
  unfold P_X6_tearOn at h
  refine lv_aload_n hx hb dX6_tearOn_0 rfl (lv_at hl 0 rfl) ?_
  refine lv_iload_n hx hb dX6_tearOn_1 rfl (lv_at hl 1 rfl) ?_
  refine lv_iload_n hx hb dX6_tearOn_2 rfl (lv_at hl 2 rfl) ?_
  refine gSR (As := [.ref q_a0, .int x1, .int x2]) (rest := []) ⟨hx, hb, hml, hown, htb⟩ hK hP hN [0] rfl (c_X6_length l D Cs q_a0 n_a0 v_a0 x1 x2 h) (va_cwS 3 htb (TB_s tb_368 tb_369 tb_5 (TB_self tb_370)) rfl rfl rfl z_X6_length.2 ⟨Nat.le_of_ble_eq_true rfl, Nat.le_of_ble_eq_true rfl⟩) rfl hl.1 rfl (Nat.le_of_ble_eq_true rfl) ⟨Nat.le_of_ble_eq_true rfl, Nat.le_of_ble_eq_true rfl⟩ dX6_tearOn_3 (fun r_1 h => ?_)
  refine lv_istore_n (lv' := [(3, .int r_1), (0, .ref q_a0), (1, .int x1), (2, .int x2)]) hx hb dX6_tearOn_6 rfl hl (by decide) rfl (fun ls hl => ?_)
  refine lv_aload_n hx hb dX6_tearOn_7 rfl (lv_at hl 1 rfl) ?_
  refine lv_iload_n hx hb dX6_tearOn_8 rfl (lv_at hl 2 rfl) ?_
  refine lv_iload_n hx hb dX6_tearOn_9 rfl (lv_at hl 3 rfl) ?_
  refine lv_iconst (v := (0 : Int32)) hx hb dX6_tearOn_10 (by decide) ?_
  refine gSM (wr := []) (As := [.ref q_a0, .int x1, .int x2, .int (0 : Int32)]) (rest := []) ⟨hx, hb, hml, hown, htb⟩ hK hP hD hS hA hN [0] [] rfl (by decide) rfl (by decide) (by decide) (c_X6_layOn l D Cs q_a0 n_a0 H.size v_a0 x1 x2 (0 : Int32) h) (va_cwS 4 htb (TB_s tb_513 tb_514 tb_5 (TB_self tb_515)) rfl rfl rfl z_X6_layOn.2 ⟨Nat.le_of_ble_eq_true rfl, Nat.le_of_ble_eq_true rfl⟩) rfl hl.1 rfl (Nat.le_of_ble_eq_true rfl) ⟨Nat.le_of_ble_eq_true rfl, Nat.le_of_ble_eq_true rfl⟩ dX6_tearOn_11 (fun r_2 m_3 H locs h hP hD hS => ?_)
  have hP : va_P D vwCl [(q_a0, gI Cs n_a0 m_3)] H := hP
  have hD : va_D A [(q_a0, gI Cs n_a0 m_3)] := hD
  refine lv_pop hx hb dX6_tearOn_14 rfl ?_
  refine lv_iload_n hx hb dX6_tearOn_15 rfl (lv_at hl 0 rfl) ?_
  rw [← hQ]
  exact gRetI (u := m_3) hx hb hr rfl h hP hD hS dX6_tearOn_16 hlocks
set_option maxHeartbeats 4000000 in
set_option maxRecDepth 100000 in
theorem c_X6_tear (l : Launch) (D : va_G) (Cs : Nat → ClassId) (q_o : Nat) (q_o_text : Nat) (q_o_now : Nat) (q_o_trial : Nat) (q_o_diary : Nat) (q_o_kept : Nat) (q_o_isKept : Nat) (q_o_years : Nat) (sz : Nat) (v_o_refusal : Int32) (v_o_acts : Int32) (v_o_now : (Nat → Int32)) (v_o_diary : (Nat → Int32)) (v_o_size : Int32) (v_o_least : Int32) (v_o_origins : Int32) (v_o_ofAll : Int32) (v_o_ofSome : Int32) (v_o_sets : Int32) (v_o_spot : Int32) (v_o_out : Int32) (x1 : Int32) (x2 : Int32) {post : Int32 → Int32 → Int32 → (Nat → Int32) → (Nat → Int32) → Prop} (h : P_X6_tear v_o_refusal v_o_acts v_o_now v_o_diary x1 x2 post) : Met l yX6_tear wsX6_tear ({ frames := 3, cells := 0, slots := 0, locals := 68 } : Room) (va_Pc [.ref q_o, .int x1, .int x2] (gM D Cs [(q_o, .inr (6, [.int v_o_refusal, .ref q_o_text, .int v_o_size, .ref q_o_now, .ref q_o_trial, .ref q_o_diary, .int v_o_acts, .ref q_o_kept, .ref q_o_isKept, .ref q_o_years, .int v_o_least, .int v_o_origins, .int v_o_ofAll, .int v_o_ofSome, .int v_o_sets, .int v_o_spot, .int v_o_out])), (q_o_now, gI Cs 221 v_o_now), (q_o_diary, gI Cs 3094 v_o_diary)] sz)) (va_Qi (fun (r : Int32) (u : Int32 × Int32 × (Nat → Int32) × (Nat → Int32)) => post r u.1 u.2.1 u.2.2.1 u.2.2.2) (gB D (va_A [(q_o, .inr (6, [.int v_o_refusal, .ref q_o_text, .int v_o_size, .ref q_o_now, .ref q_o_trial, .ref q_o_diary, .int v_o_acts, .ref q_o_kept, .ref q_o_isKept, .ref q_o_years, .int v_o_least, .int v_o_origins, .int v_o_ofAll, .int v_o_ofSome, .int v_o_sets, .int v_o_spot, .int v_o_out])), (q_o_now, gI Cs 221 v_o_now), (q_o_diary, gI Cs 3094 v_o_diary)] sz) (fun u : Int32 × Int32 × (Nat → Int32) × (Nat → Int32) => [(q_o, .inr (6, [.int u.1, .ref q_o_text, .int v_o_size, .ref q_o_now, .ref q_o_trial, .ref q_o_diary, .int u.2.1, .ref q_o_kept, .ref q_o_isKept, .ref q_o_years, .int v_o_least, .int v_o_origins, .int v_o_ofAll, .int v_o_ofSome, .int v_o_sets, .int v_o_spot, .int v_o_out])), (q_o_now, gI Cs 221 u.2.2.1), (q_o_diary, gI Cs 3094 u.2.2.2)])) (va_A [(q_o, .inr (6, [.int v_o_refusal, .ref q_o_text, .int v_o_size, .ref q_o_now, .ref q_o_trial, .ref q_o_diary, .int v_o_acts, .ref q_o_kept, .ref q_o_isKept, .ref q_o_years, .int v_o_least, .int v_o_origins, .int v_o_ofAll, .int v_o_ofSome, .int v_o_sets, .int v_o_spot, .int v_o_out])), (q_o_now, gI Cs 221 v_o_now), (q_o_diary, gI Cs 3094 v_o_diary)] sz)) 0 0 (va_A [(q_o, .inr (6, [.int v_o_refusal, .ref q_o_text, .int v_o_size, .ref q_o_now, .ref q_o_trial, .ref q_o_diary, .int v_o_acts, .ref q_o_kept, .ref q_o_isKept, .ref q_o_years, .int v_o_least, .int v_o_origins, .int v_o_ofAll, .int v_o_ofSome, .int v_o_sets, .int v_o_spot, .int v_o_out])), (q_o_now, gI Cs 221 v_o_now), (q_o_diary, gI Cs 3094 v_o_diary)] sz) := by
  refine Met.ofW (cc := cX6_tear) (maxL := 3) (ret := (some .int)) (by decide) rfl ?_
  intro p e s m args below meth c s₁ B hml hv
  obtain ⟨ha, hsz, hP, hK, hD0, hN⟩ := hv
  have hx := B.exec
  have hb := B.bytes
  have hr := B.returns
  have hts := atoms_spec (ws := wsX6_tear) B.pre
  have htb : ∀ w ∈ TB, w.before args s = true := fun w h9 => hts w (List.mem_cons_of_mem _ h9)
  have hown : s.vm.findClass RX6 = some m.cls := findClass_of_methodNamed B.named
  have hlocks := B.notSynchronized
  subst hsz
  have hD := hD0.self (sz := s.heap.size)
  generalize hAe : va_A [(q_o, .inr (6, [.int v_o_refusal, .ref q_o_text, .int v_o_size, .ref q_o_now, .ref q_o_trial, .ref q_o_diary, .int v_o_acts, .ref q_o_kept, .ref q_o_isKept, .ref q_o_years, .int v_o_least, .int v_o_origins, .int v_o_ofAll, .int v_o_ofSome, .int v_o_sets, .int v_o_spot, .int v_o_out])), (q_o_now, gI Cs 221 v_o_now), (q_o_diary, gI Cs 3094 v_o_diary)] s.heap.size = A at hD ⊢
  have hA : ∀ q : Nat, s.heap.size ≤ q → A q := fun q h9 => by rw [← hAe]; exact Or.inr h9
  obtain ⟨H, hH⟩ : ∃ z : Heap, z = s.heap := ⟨_, rfl⟩
  have hS : va_S A s.heap H [] := by rw [hH]; exact va_S.rf
  have hP : va_P D vwCl [(q_o, .inr (6, [.int v_o_refusal, .ref q_o_text, .int v_o_size, .ref q_o_now, .ref q_o_trial, .ref q_o_diary, .int v_o_acts, .ref q_o_kept, .ref q_o_isKept, .ref q_o_years, .int v_o_least, .int v_o_origins, .int v_o_ofAll, .int v_o_ofSome, .int v_o_sets, .int v_o_spot, .int v_o_out])), (q_o_now, gI Cs 221 v_o_now), (q_o_diary, gI Cs 3094 v_o_diary)] H := by rw [hH]; exact hP
  generalize hQ : MQ below _ args s _ _ _ = Q
  show W p l e ({ frames := 3, cells := 0, slots := 0, locals := 68 } : Room) s m args below meth c s.heap [] 0 0 Q (entryFrame m args 3)
  have hent : entryFrame m args 3 = F0 m 0 ((lg_sl ([.ref q_o, .int x1, .int x2]) ++ List.replicate (3 - (lg_sl ([.ref q_o, .int x1, .int x2])).length) Slot.unset).toArray) [] := by rw [ha]; exact lg_entry_eq m ([.ref q_o, .int x1, .int x2]) 3
  rw [hent]; clear hent
  rw [← hH]
  have hl := lv_entry ([.ref q_o, .int x1, .int x2]) (n := 3) (Nat.le_of_ble_eq_true rfl)
  generalize (lg_sl ([.ref q_o, .int x1, .int x2]) ++ List.replicate (3 - (lg_sl ([.ref q_o, .int x1, .int x2])).length) Slot.unset).toArray = ls at hl ⊢
  have hl : lv_has ls 3 [(0, .ref q_o), (1, .int x1), (2, .int x2)] := hl
  have B34 : ∀ (H : Heap) (locs : List Loc) (ls : Array Slot) (s1 : Int32), va_P D vwCl [(q_o, .inr (6, [.int v_o_refusal, .ref q_o_text, .int v_o_size, .ref q_o_now, .ref q_o_trial, .ref q_o_diary, .int v_o_acts, .ref q_o_kept, .ref q_o_isKept, .ref q_o_years, .int v_o_least, .int v_o_origins, .int v_o_ofAll, .int v_o_ofSome, .int v_o_sets, .int v_o_spot, .int v_o_out])), (q_o_now, gI Cs 221 v_o_now), (q_o_diary, gI Cs 3094 v_o_diary)] H → va_D A [(q_o, .inr (6, [.int v_o_refusal, .ref q_o_text, .int v_o_size, .ref q_o_now, .ref q_o_trial, .ref q_o_diary, .int v_o_acts, .ref q_o_kept, .ref q_o_isKept, .ref q_o_years, .int v_o_least, .int v_o_origins, .int v_o_ofAll, .int v_o_ofSome, .int v_o_sets, .int v_o_spot, .int v_o_out])), (q_o_now, gI Cs 221 v_o_now), (q_o_diary, gI Cs 3094 v_o_diary)] → va_S A s.heap H locs → lv_has ls 3 [(0, .ref q_o), (1, .int x1), (2, .int x2)] → P_X6_tear_b34 v_o_refusal v_o_acts v_o_now v_o_diary x1 x2 post s1 → W p l e ({ frames := 3, cells := 0, slots := 0, locals := 68 } : Room) s m args below meth c H locs 0 0 Q (F0 m 34 ls [.int s1, .ref q_o]) := by
    intro H locs ls s1 hP hD hS hl h
    unfold P_X6_tear_b34 at h
    refine gVM (wr := [(q_o_now, gI Cs 221 v_o_now), (q_o_diary, gI Cs 3094 v_o_diary)]) (As := [.int s1]) (rest := []) ⟨hx, hb, hml, hown, htb⟩ hK hP hD hS hA hN [0] [1, 2] rfl (by decide) rfl (by decide) (by decide) (c_X6_refused l D Cs q_o q_o_text q_o_now q_o_trial q_o_diary q_o_kept q_o_isKept q_o_years H.size v_o_refusal v_o_size v_o_acts v_o_least v_o_origins v_o_ofAll v_o_ofSome v_o_sets v_o_spot v_o_out s1 h) (cwV 1 htb (TB_v tb_128 tb_129 tb_130 tb_5 (TB_self tb_131)) rfl rfl rfl z_X6_refused ⟨Nat.le_of_ble_eq_true rfl, Nat.le_of_ble_eq_true rfl⟩) 0 rfl rfl rfl rfl hl.1 rfl (Nat.le_of_ble_eq_true rfl) ⟨Nat.le_of_ble_eq_true rfl, Nat.le_of_ble_eq_true rfl⟩ dX6_tear_34 (fun r_1 m_2 H locs h hP hD hS => ?_)
    have hP : va_P D vwCl [(q_o_now, gI Cs 221 v_o_now), (q_o_diary, gI Cs 3094 v_o_diary), (q_o, .inr (6, [.int m_2, .ref q_o_text, .int v_o_size, .ref q_o_now, .ref q_o_trial, .ref q_o_diary, .int v_o_acts, .ref q_o_kept, .ref q_o_isKept, .ref q_o_years, .int v_o_least, .int v_o_origins, .int v_o_ofAll, .int v_o_ofSome, .int v_o_sets, .int v_o_spot, .int v_o_out]))] H := hP
    have hD : va_D A [(q_o_now, gI Cs 221 v_o_now), (q_o_diary, gI Cs 3094 v_o_diary), (q_o, .inr (6, [.int m_2, .ref q_o_text, .int v_o_size, .ref q_o_now, .ref q_o_trial, .ref q_o_diary, .int v_o_acts, .ref q_o_kept, .ref q_o_isKept, .ref q_o_years, .int v_o_least, .int v_o_origins, .int v_o_ofAll, .int v_o_ofSome, .int v_o_sets, .int v_o_spot, .int v_o_out]))] := hD
    refine lv_if_eq (tgt := 42) hx hb dX6_tear_37 (by decide) (fun c_3 => ?_) (fun c_3 => ?_)
    · have h := h.1 c_3
      refine lv_aload_n hx hb dX6_tear_42 rfl (lv_at hl 0 rfl) ?_
      refine gVMv (wr := []) (As := []) (rest := []) ⟨hx, hb, hml, hown, htb⟩ hK hP hD hS hA hN [2, 0, 1] [] rfl (by decide) rfl (by decide) (by decide) (c_X6_remember l D Cs q_o q_o_text q_o_now q_o_trial q_o_diary q_o_kept q_o_isKept q_o_years H.size v_o_acts v_o_now v_o_diary m_2 v_o_size v_o_least v_o_origins v_o_ofAll v_o_ofSome v_o_sets v_o_spot v_o_out h) (cwV 0 htb (TB_v tb_466 tb_467 tb_468 tb_5 (TB_self tb_469)) rfl rfl rfl z_X6_remember ⟨Nat.le_of_ble_eq_true rfl, Nat.le_of_ble_eq_true rfl⟩) 2 rfl rfl rfl rfl hl.1 rfl (Nat.le_of_ble_eq_true rfl) ⟨Nat.le_of_ble_eq_true rfl, Nat.le_of_ble_eq_true rfl⟩ dX6_tear_43 (fun u H locs h hP hD hS => ?_)
      obtain ⟨m_5, m_6⟩ := u
      try dsimp only at h
      have hP : va_P D vwCl [(q_o, .inr (6, [.int m_2, .ref q_o_text, .int v_o_size, .ref q_o_now, .ref q_o_trial, .ref q_o_diary, .int m_5, .ref q_o_kept, .ref q_o_isKept, .ref q_o_years, .int v_o_least, .int v_o_origins, .int v_o_ofAll, .int v_o_ofSome, .int v_o_sets, .int v_o_spot, .int v_o_out])), (q_o_now, gI Cs 221 v_o_now), (q_o_diary, gI Cs 3094 m_6)] H := hP
      have hD : va_D A [(q_o, .inr (6, [.int m_2, .ref q_o_text, .int v_o_size, .ref q_o_now, .ref q_o_trial, .ref q_o_diary, .int m_5, .ref q_o_kept, .ref q_o_isKept, .ref q_o_years, .int v_o_least, .int v_o_origins, .int v_o_ofAll, .int v_o_ofSome, .int v_o_sets, .int v_o_spot, .int v_o_out])), (q_o_now, gI Cs 221 v_o_now), (q_o_diary, gI Cs 3094 m_6)] := hD
      refine lv_aload_n hx hb dX6_tear_46 rfl (lv_at hl 0 rfl) ?_
      refine va_get (D := D) (ci := 6) (v := .ref q_o_now) (C := RX6) (T := TX6) (N := 17) hx hb htb inT_X6 hown hK hP 0 rfl rfl 3 (by decide) (htb _ tb_90) (fun _ h9 => h9) rfl dX6_tear_47 ?_
      refine lv_iload_n hx hb dX6_tear_50 rfl (lv_at hl 1 rfl) ?_
      refine lv_iload_n hx hb dX6_tear_51 rfl (lv_at hl 2 rfl) ?_
      refine gSM (wr := [(q_o, .inr (6, [.int m_2, .ref q_o_text, .int v_o_size, .ref q_o_now, .ref q_o_trial, .ref q_o_diary, .int m_5, .ref q_o_kept, .ref q_o_isKept, .ref q_o_years, .int v_o_least, .int v_o_origins, .int v_o_ofAll, .int v_o_ofSome, .int v_o_sets, .int v_o_spot, .int v_o_out])), (q_o_diary, gI Cs 3094 m_6)]) (As := [.ref q_o_now, .int x1, .int x2]) (rest := []) ⟨hx, hb, hml, hown, htb⟩ hK hP hD hS hA hN [1] [0, 2] rfl (by decide) rfl (by decide) (by decide) (c_X6_tearOn l D Cs q_o_now 221 H.size v_o_now x1 x2 h) (va_cwS 3 htb (TB_s tb_531 tb_532 tb_5 (TB_self tb_533)) rfl rfl rfl z_X6_tearOn.2 ⟨Nat.le_of_ble_eq_true rfl, Nat.le_of_ble_eq_true rfl⟩) rfl hl.1 rfl (Nat.le_of_ble_eq_true rfl) ⟨Nat.le_of_ble_eq_true rfl, Nat.le_of_ble_eq_true rfl⟩ dX6_tear_52 (fun r_7 m_8 H locs h hP hD hS => ?_)
      have hP : va_P D vwCl [(q_o, .inr (6, [.int m_2, .ref q_o_text, .int v_o_size, .ref q_o_now, .ref q_o_trial, .ref q_o_diary, .int m_5, .ref q_o_kept, .ref q_o_isKept, .ref q_o_years, .int v_o_least, .int v_o_origins, .int v_o_ofAll, .int v_o_ofSome, .int v_o_sets, .int v_o_spot, .int v_o_out])), (q_o_diary, gI Cs 3094 m_6), (q_o_now, gI Cs 221 m_8)] H := hP
      have hD : va_D A [(q_o, .inr (6, [.int m_2, .ref q_o_text, .int v_o_size, .ref q_o_now, .ref q_o_trial, .ref q_o_diary, .int m_5, .ref q_o_kept, .ref q_o_isKept, .ref q_o_years, .int v_o_least, .int v_o_origins, .int v_o_ofAll, .int v_o_ofSome, .int v_o_sets, .int v_o_spot, .int v_o_out])), (q_o_diary, gI Cs 3094 m_6), (q_o_now, gI Cs 221 m_8)] := hD
      rw [← hQ]
      exact gRetI (u := (m_2, m_5, m_8, m_6)) hx hb hr rfl h (hP.sub [0, 2, 1] rfl) (hD.sub [0, 2, 1] (by decide) rfl) hS dX6_tear_55 hlocks
    · have h := h.2 c_3
      refine lv_iconst (v := (0 : Int32)) hx hb dX6_tear_40 (by decide) ?_
      rw [← hQ]
      exact gRetI (u := (m_2, v_o_acts, v_o_now, v_o_diary)) hx hb hr rfl h (hP.sub [2, 0, 1] rfl) (hD.sub [2, 0, 1] (by decide) rfl) hS dX6_tear_41 hlocks
  unfold P_X6_tear at h
  refine lv_aload_n hx hb dX6_tear_0 rfl (lv_at hl 0 rfl) ?_
  refine lv_aload_n hx hb dX6_tear_1 rfl (lv_at hl 0 rfl) ?_
  refine va_get (D := D) (ci := 6) (v := .ref q_o_now) (C := RX6) (T := TX6) (N := 17) hx hb htb inT_X6 hown hK hP 0 rfl rfl 3 (by decide) (htb _ tb_90) (fun _ h9 => h9) rfl dX6_tear_2 ?_
  refine lv_iload_n hx hb dX6_tear_5 rfl (lv_at hl 1 rfl) ?_
  refine lv_iload_n hx hb dX6_tear_6 rfl (lv_at hl 2 rfl) ?_
  refine gSR (As := [.ref q_o_now, .int x1, .int x2]) (rest := [.ref q_o]) ⟨hx, hb, hml, hown, htb⟩ hK hP hN [1] rfl (c_X6_areTowns l D Cs q_o_now 221 v_o_now x1 x2 h) (va_cwS 3 htb (TB_s tb_399 tb_400 tb_5 (TB_self tb_401)) rfl rfl rfl z_X6_areTowns.2 ⟨Nat.le_of_ble_eq_true rfl, Nat.le_of_ble_eq_true rfl⟩) rfl hl.1 rfl (Nat.le_of_ble_eq_true rfl) ⟨Nat.le_of_ble_eq_true rfl, Nat.le_of_ble_eq_true rfl⟩ dX6_tear_7 (fun r_9 h => ?_)
  refine lv_if_ne (tgt := 17) hx hb dX6_tear_10 (by decide) (fun c_10 => ?_) (fun c_10 => ?_)
  · have h := h.2 c_10
    refine lv_aload_n hx hb dX6_tear_17 rfl (lv_at hl 0 rfl) ?_
    refine va_get (D := D) (ci := 6) (v := .ref q_o_now) (C := RX6) (T := TX6) (N := 17) hx hb htb inT_X6 hown hK hP 0 rfl rfl 3 (by decide) (htb _ tb_90) (fun _ h9 => h9) rfl dX6_tear_18 ?_
    refine lv_iload_n hx hb dX6_tear_21 rfl (lv_at hl 1 rfl) ?_
    refine lv_iload_n hx hb dX6_tear_22 rfl (lv_at hl 2 rfl) ?_
    refine gSR (As := [.ref q_o_now, .int x1, .int x2]) (rest := [.ref q_o]) ⟨hx, hb, hml, hown, htb⟩ hK hP hN [1] rfl (c_X6_length l D Cs q_o_now 221 v_o_now x1 x2 h) (va_cwS 3 htb (TB_s tb_368 tb_369 tb_5 (TB_self tb_370)) rfl rfl rfl z_X6_length.2 ⟨Nat.le_of_ble_eq_true rfl, Nat.le_of_ble_eq_true rfl⟩) rfl hl.1 rfl (Nat.le_of_ble_eq_true rfl) ⟨Nat.le_of_ble_eq_true rfl, Nat.le_of_ble_eq_true rfl⟩ dX6_tear_23 (fun r_11 h => ?_)
    refine lv_if_ne (tgt := 33) hx hb dX6_tear_26 (by decide) (fun c_12 => ?_) (fun c_12 => ?_)
    · have h := h.2 c_12
      refine lv_iconst (v := (0 : Int32)) hx hb dX6_tear_33 (by decide) ?_
      exact B34 _ _ _ (0 : Int32) hP hD hS (lv_sub hl [0, 1, 2] rfl) h
    · have h := h.1 c_12
      refine lv_iconst (v := (2 : Int32)) hx hb dX6_tear_29 (by decide) ?_
      refine lv_goto (tgt := 34) hx hb dX6_tear_30 (by decide) ?_
      exact B34 _ _ _ (2 : Int32) hP hD hS (lv_sub hl [0, 1, 2] rfl) h
  · have h := h.1 c_10
    refine lv_iconst (v := (1 : Int32)) hx hb dX6_tear_13 (by decide) ?_
    refine lv_goto (tgt := 34) hx hb dX6_tear_14 (by decide) ?_
    exact B34 _ _ _ (1 : Int32) hP hD hS (lv_sub hl [0, 1, 2] rfl) h
set_option maxHeartbeats 4000000 in
set_option maxRecDepth 100000 in
theorem c_X6_isYear (l : Launch) (D : va_G) (Cs : Nat → ClassId) (x0 : Int32) {post : Int32 → Prop} (h : P_X6_isYear x0 post) : Met l yX6_isYear wsX6_isYear ({ frames := 1, cells := 0, slots := 0, locals := 25 } : Room) (va_Pc [.int x0] (gR D Cs [])) (vp_Si post) 0 0 (fun _ => False) := by
  refine Met.ofW (cc := cX6_isYear) (maxL := 1) (ret := (some .boolean)) (by decide) rfl ?_
  intro p e s m args below meth c s₁ B hml hv
  obtain ⟨ha, hP, hK, hN⟩ := hv
  have hx := B.exec
  have hb := B.bytes
  have hr := B.returns
  have hts := atoms_spec (ws := wsX6_isYear) B.pre
  have htb : ∀ w ∈ TB, w.before args s = true := fun w h9 => hts w (List.mem_cons_of_mem _ h9)
  have hown : s.vm.findClass RX6 = some m.cls := findClass_of_methodNamed B.named
  have hlocks := B.notSynchronized
  generalize hQ : MQ below _ args s _ _ _ = Q
  show W p l e ({ frames := 1, cells := 0, slots := 0, locals := 25 } : Room) s m args below meth c s.heap [] 0 0 Q (entryFrame m args 1)
  have hent : entryFrame m args 1 = F0 m 0 ((lg_sl ([.int x0]) ++ List.replicate (1 - (lg_sl ([.int x0])).length) Slot.unset).toArray) [] := by rw [ha]; exact lg_entry_eq m ([.int x0]) 1
  rw [hent]; clear hent
  have hl := lv_entry ([.int x0]) (n := 1) (Nat.le_of_ble_eq_true rfl)
  generalize (lg_sl ([.int x0]) ++ List.replicate (1 - (lg_sl ([.int x0])).length) Slot.unset).toArray = ls at hl ⊢
  have hl : lv_has ls 1 [(0, .int x0)] := hl
  unfold P_X6_isYear at h
  refine lv_iload_n hx hb dX6_isYear_0 rfl (lv_at hl 0 rfl) ?_
  refine lv_i2l (v := x0.toInt64) hx hb dX6_isYear_1 rfl ?_
  refine lv_lconst (v := (0 : Int64)) hx hb dX6_isYear_2 rfl ?_
  refine lv_ldc2 (v := (999 : Int64)) hx hb hown (htb _ tb_555) dX6_isYear_3 ?_
  refine gSR (As := [.long x0.toInt64, .long (0 : Int64), .long (999 : Int64)]) (rest := []) ⟨hx, hb, hml, hown, htb⟩ hK hP hN [] rfl (c_X6_in l D Cs x0.toInt64 (0 : Int64) (999 : Int64) h) (va_cwS 3 htb (TB_s tb_125 tb_126 tb_5 (TB_self tb_127)) rfl rfl rfl z_X6_in.2 ⟨Nat.le_of_ble_eq_true rfl, Nat.le_of_ble_eq_true rfl⟩) rfl hl.1 rfl (Nat.le_of_ble_eq_true rfl) ⟨Nat.le_of_ble_eq_true rfl, Nat.le_of_ble_eq_true rfl⟩ dX6_isYear_6 (fun r_1 h => ?_)
  obtain ⟨hnb, h⟩ := h
  rw [← hQ]
  exact gRetR hx hb hr hnb h dX6_isYear_9 hlocks
set_option maxHeartbeats 4000000 in
set_option maxRecDepth 100000 in
theorem c_X6_see (l : Launch) (D : va_G) (Cs : Nat → ClassId) (q_o : Nat) (q_o_text : Nat) (q_o_now : Nat) (q_o_trial : Nat) (q_o_diary : Nat) (q_o_kept : Nat) (q_o_isKept : Nat) (q_o_years : Nat) (sz : Nat) (v_o_refusal : Int32) (v_o_acts : Int32) (v_o_now : (Nat → Int32)) (v_o_diary : (Nat → Int32)) (v_o_size : Int32) (v_o_least : Int32) (v_o_origins : Int32) (v_o_ofAll : Int32) (v_o_ofSome : Int32) (v_o_sets : Int32) (v_o_spot : Int32) (v_o_out : Int32) (x1 : Int32) (x2 : Int32) (x3 : Int32) (x4 : Int32) {post : Int32 → Int32 → Int32 → (Nat → Int32) → (Nat → Int32) → Prop} (h : P_X6_see v_o_refusal v_o_acts v_o_now v_o_diary x1 x2 x3 x4 post) : Met l yX6_see wsX6_see ({ frames := 2, cells := 0, slots := 0, locals := 47 } : Room) (va_Pc [.ref q_o, .int x1, .int x2, .int x3, .int x4] (gM D Cs [(q_o, .inr (6, [.int v_o_refusal, .ref q_o_text, .int v_o_size, .ref q_o_now, .ref q_o_trial, .ref q_o_diary, .int v_o_acts, .ref q_o_kept, .ref q_o_isKept, .ref q_o_years, .int v_o_least, .int v_o_origins, .int v_o_ofAll, .int v_o_ofSome, .int v_o_sets, .int v_o_spot, .int v_o_out])), (q_o_now, gI Cs 221 v_o_now), (q_o_diary, gI Cs 3094 v_o_diary)] sz)) (va_Qi (fun (r : Int32) (u : Int32 × Int32 × (Nat → Int32) × (Nat → Int32)) => post r u.1 u.2.1 u.2.2.1 u.2.2.2) (gB D (va_A [(q_o, .inr (6, [.int v_o_refusal, .ref q_o_text, .int v_o_size, .ref q_o_now, .ref q_o_trial, .ref q_o_diary, .int v_o_acts, .ref q_o_kept, .ref q_o_isKept, .ref q_o_years, .int v_o_least, .int v_o_origins, .int v_o_ofAll, .int v_o_ofSome, .int v_o_sets, .int v_o_spot, .int v_o_out])), (q_o_now, gI Cs 221 v_o_now), (q_o_diary, gI Cs 3094 v_o_diary)] sz) (fun u : Int32 × Int32 × (Nat → Int32) × (Nat → Int32) => [(q_o, .inr (6, [.int u.1, .ref q_o_text, .int v_o_size, .ref q_o_now, .ref q_o_trial, .ref q_o_diary, .int u.2.1, .ref q_o_kept, .ref q_o_isKept, .ref q_o_years, .int v_o_least, .int v_o_origins, .int v_o_ofAll, .int v_o_ofSome, .int v_o_sets, .int v_o_spot, .int v_o_out])), (q_o_now, gI Cs 221 u.2.2.1), (q_o_diary, gI Cs 3094 u.2.2.2)])) (va_A [(q_o, .inr (6, [.int v_o_refusal, .ref q_o_text, .int v_o_size, .ref q_o_now, .ref q_o_trial, .ref q_o_diary, .int v_o_acts, .ref q_o_kept, .ref q_o_isKept, .ref q_o_years, .int v_o_least, .int v_o_origins, .int v_o_ofAll, .int v_o_ofSome, .int v_o_sets, .int v_o_spot, .int v_o_out])), (q_o_now, gI Cs 221 v_o_now), (q_o_diary, gI Cs 3094 v_o_diary)] sz)) 0 0 (va_A [(q_o, .inr (6, [.int v_o_refusal, .ref q_o_text, .int v_o_size, .ref q_o_now, .ref q_o_trial, .ref q_o_diary, .int v_o_acts, .ref q_o_kept, .ref q_o_isKept, .ref q_o_years, .int v_o_least, .int v_o_origins, .int v_o_ofAll, .int v_o_ofSome, .int v_o_sets, .int v_o_spot, .int v_o_out])), (q_o_now, gI Cs 221 v_o_now), (q_o_diary, gI Cs 3094 v_o_diary)] sz) := by
  refine Met.ofW (cc := cX6_see) (maxL := 5) (ret := (some .int)) (by decide) rfl ?_
  intro p e s m args below meth c s₁ B hml hv
  obtain ⟨ha, hsz, hP, hK, hD0, hN⟩ := hv
  have hx := B.exec
  have hb := B.bytes
  have hr := B.returns
  have hts := atoms_spec (ws := wsX6_see) B.pre
  have htb : ∀ w ∈ TB, w.before args s = true := fun w h9 => hts w (List.mem_cons_of_mem _ h9)
  have hown : s.vm.findClass RX6 = some m.cls := findClass_of_methodNamed B.named
  have hlocks := B.notSynchronized
  subst hsz
  have hD := hD0.self (sz := s.heap.size)
  generalize hAe : va_A [(q_o, .inr (6, [.int v_o_refusal, .ref q_o_text, .int v_o_size, .ref q_o_now, .ref q_o_trial, .ref q_o_diary, .int v_o_acts, .ref q_o_kept, .ref q_o_isKept, .ref q_o_years, .int v_o_least, .int v_o_origins, .int v_o_ofAll, .int v_o_ofSome, .int v_o_sets, .int v_o_spot, .int v_o_out])), (q_o_now, gI Cs 221 v_o_now), (q_o_diary, gI Cs 3094 v_o_diary)] s.heap.size = A at hD ⊢
  have hA : ∀ q : Nat, s.heap.size ≤ q → A q := fun q h9 => by rw [← hAe]; exact Or.inr h9
  obtain ⟨H, hH⟩ : ∃ z : Heap, z = s.heap := ⟨_, rfl⟩
  have hS : va_S A s.heap H [] := by rw [hH]; exact va_S.rf
  have hP : va_P D vwCl [(q_o, .inr (6, [.int v_o_refusal, .ref q_o_text, .int v_o_size, .ref q_o_now, .ref q_o_trial, .ref q_o_diary, .int v_o_acts, .ref q_o_kept, .ref q_o_isKept, .ref q_o_years, .int v_o_least, .int v_o_origins, .int v_o_ofAll, .int v_o_ofSome, .int v_o_sets, .int v_o_spot, .int v_o_out])), (q_o_now, gI Cs 221 v_o_now), (q_o_diary, gI Cs 3094 v_o_diary)] H := by rw [hH]; exact hP
  generalize hQ : MQ below _ args s _ _ _ = Q
  show W p l e ({ frames := 2, cells := 0, slots := 0, locals := 47 } : Room) s m args below meth c s.heap [] 0 0 Q (entryFrame m args 5)
  have hent : entryFrame m args 5 = F0 m 0 ((lg_sl ([.ref q_o, .int x1, .int x2, .int x3, .int x4]) ++ List.replicate (5 - (lg_sl ([.ref q_o, .int x1, .int x2, .int x3, .int x4])).length) Slot.unset).toArray) [] := by rw [ha]; exact lg_entry_eq m ([.ref q_o, .int x1, .int x2, .int x3, .int x4]) 5
  rw [hent]; clear hent
  rw [← hH]
  have hl := lv_entry ([.ref q_o, .int x1, .int x2, .int x3, .int x4]) (n := 5) (Nat.le_of_ble_eq_true rfl)
  generalize (lg_sl ([.ref q_o, .int x1, .int x2, .int x3, .int x4]) ++ List.replicate (5 - (lg_sl ([.ref q_o, .int x1, .int x2, .int x3, .int x4])).length) Slot.unset).toArray = ls at hl ⊢
  have hl : lv_has ls 5 [(0, .ref q_o), (1, .int x1), (2, .int x2), (3, .int x3), (4, .int x4)] := hl
  have B35 : ∀ (H : Heap) (locs : List Loc) (ls : Array Slot) (s1 : Int32), va_P D vwCl [(q_o, .inr (6, [.int v_o_refusal, .ref q_o_text, .int v_o_size, .ref q_o_now, .ref q_o_trial, .ref q_o_diary, .int v_o_acts, .ref q_o_kept, .ref q_o_isKept, .ref q_o_years, .int v_o_least, .int v_o_origins, .int v_o_ofAll, .int v_o_ofSome, .int v_o_sets, .int v_o_spot, .int v_o_out])), (q_o_now, gI Cs 221 v_o_now), (q_o_diary, gI Cs 3094 v_o_diary)] H → va_D A [(q_o, .inr (6, [.int v_o_refusal, .ref q_o_text, .int v_o_size, .ref q_o_now, .ref q_o_trial, .ref q_o_diary, .int v_o_acts, .ref q_o_kept, .ref q_o_isKept, .ref q_o_years, .int v_o_least, .int v_o_origins, .int v_o_ofAll, .int v_o_ofSome, .int v_o_sets, .int v_o_spot, .int v_o_out])), (q_o_now, gI Cs 221 v_o_now), (q_o_diary, gI Cs 3094 v_o_diary)] → va_S A s.heap H locs → lv_has ls 5 [(0, .ref q_o), (1, .int x1), (2, .int x2), (3, .int x3), (4, .int x4)] → P_X6_see_b35 v_o_refusal v_o_acts v_o_now v_o_diary x1 x2 x3 x4 post s1 → W p l e ({ frames := 2, cells := 0, slots := 0, locals := 47 } : Room) s m args below meth c H locs 0 0 Q (F0 m 35 ls [.int s1, .ref q_o]) := by
    intro H locs ls s1 hP hD hS hl h
    unfold P_X6_see_b35 at h
    refine gVM (wr := [(q_o_now, gI Cs 221 v_o_now), (q_o_diary, gI Cs 3094 v_o_diary)]) (As := [.int s1]) (rest := []) ⟨hx, hb, hml, hown, htb⟩ hK hP hD hS hA hN [0] [1, 2] rfl (by decide) rfl (by decide) (by decide) (c_X6_refused l D Cs q_o q_o_text q_o_now q_o_trial q_o_diary q_o_kept q_o_isKept q_o_years H.size v_o_refusal v_o_size v_o_acts v_o_least v_o_origins v_o_ofAll v_o_ofSome v_o_sets v_o_spot v_o_out s1 h) (cwV 1 htb (TB_v tb_128 tb_129 tb_130 tb_5 (TB_self tb_131)) rfl rfl rfl z_X6_refused ⟨Nat.le_of_ble_eq_true rfl, Nat.le_of_ble_eq_true rfl⟩) 0 rfl rfl rfl rfl hl.1 rfl (Nat.le_of_ble_eq_true rfl) ⟨Nat.le_of_ble_eq_true rfl, Nat.le_of_ble_eq_true rfl⟩ dX6_see_35 (fun r_1 m_2 H locs h hP hD hS => ?_)
    have hP : va_P D vwCl [(q_o_now, gI Cs 221 v_o_now), (q_o_diary, gI Cs 3094 v_o_diary), (q_o, .inr (6, [.int m_2, .ref q_o_text, .int v_o_size, .ref q_o_now, .ref q_o_trial, .ref q_o_diary, .int v_o_acts, .ref q_o_kept, .ref q_o_isKept, .ref q_o_years, .int v_o_least, .int v_o_origins, .int v_o_ofAll, .int v_o_ofSome, .int v_o_sets, .int v_o_spot, .int v_o_out]))] H := hP
    have hD : va_D A [(q_o_now, gI Cs 221 v_o_now), (q_o_diary, gI Cs 3094 v_o_diary), (q_o, .inr (6, [.int m_2, .ref q_o_text, .int v_o_size, .ref q_o_now, .ref q_o_trial, .ref q_o_diary, .int v_o_acts, .ref q_o_kept, .ref q_o_isKept, .ref q_o_years, .int v_o_least, .int v_o_origins, .int v_o_ofAll, .int v_o_ofSome, .int v_o_sets, .int v_o_spot, .int v_o_out]))] := hD
    refine lv_if_eq (tgt := 43) hx hb dX6_see_38 (by decide) (fun c_3 => ?_) (fun c_3 => ?_)
    · have h := h.1 c_3
      refine lv_aload_n hx hb dX6_see_43 rfl (lv_at hl 0 rfl) ?_
      refine gVMv (wr := []) (As := []) (rest := []) ⟨hx, hb, hml, hown, htb⟩ hK hP hD hS hA hN [2, 0, 1] [] rfl (by decide) rfl (by decide) (by decide) (c_X6_remember l D Cs q_o q_o_text q_o_now q_o_trial q_o_diary q_o_kept q_o_isKept q_o_years H.size v_o_acts v_o_now v_o_diary m_2 v_o_size v_o_least v_o_origins v_o_ofAll v_o_ofSome v_o_sets v_o_spot v_o_out h) (cwV 0 htb (TB_v tb_466 tb_467 tb_468 tb_5 (TB_self tb_469)) rfl rfl rfl z_X6_remember ⟨Nat.le_of_ble_eq_true rfl, Nat.le_of_ble_eq_true rfl⟩) 2 rfl rfl rfl rfl hl.1 rfl (Nat.le_of_ble_eq_true rfl) ⟨Nat.le_of_ble_eq_true rfl, Nat.le_of_ble_eq_true rfl⟩ dX6_see_44 (fun u H locs h hP hD hS => ?_)
      obtain ⟨m_5, m_6⟩ := u
      try dsimp only at h
      have hP : va_P D vwCl [(q_o, .inr (6, [.int m_2, .ref q_o_text, .int v_o_size, .ref q_o_now, .ref q_o_trial, .ref q_o_diary, .int m_5, .ref q_o_kept, .ref q_o_isKept, .ref q_o_years, .int v_o_least, .int v_o_origins, .int v_o_ofAll, .int v_o_ofSome, .int v_o_sets, .int v_o_spot, .int v_o_out])), (q_o_now, gI Cs 221 v_o_now), (q_o_diary, gI Cs 3094 m_6)] H := hP
      have hD : va_D A [(q_o, .inr (6, [.int m_2, .ref q_o_text, .int v_o_size, .ref q_o_now, .ref q_o_trial, .ref q_o_diary, .int m_5, .ref q_o_kept, .ref q_o_isKept, .ref q_o_years, .int v_o_least, .int v_o_origins, .int v_o_ofAll, .int v_o_ofSome, .int v_o_sets, .int v_o_spot, .int v_o_out])), (q_o_now, gI Cs 221 v_o_now), (q_o_diary, gI Cs 3094 m_6)] := hD
      refine lv_aload_n hx hb dX6_see_47 rfl (lv_at hl 0 rfl) ?_
      refine va_get (D := D) (ci := 6) (v := .ref q_o_now) (C := RX6) (T := TX6) (N := 17) hx hb htb inT_X6 hown hK hP 0 rfl rfl 3 (by decide) (htb _ tb_90) (fun _ h9 => h9) rfl dX6_see_48 ?_
      refine lv_iload_n hx hb dX6_see_51 rfl (lv_at hl 1 rfl) ?_
      refine lv_iload_n hx hb dX6_see_52 rfl (lv_at hl 2 rfl) ?_
      refine lv_iload_n hx hb dX6_see_53 rfl (lv_at hl 3 rfl) ?_
      refine lv_iload hx hb dX6_see_54 (lv_at hl 4 rfl) ?_
      refine gSM (wr := [(q_o, .inr (6, [.int m_2, .ref q_o_text, .int v_o_size, .ref q_o_now, .ref q_o_trial, .ref q_o_diary, .int m_5, .ref q_o_kept, .ref q_o_isKept, .ref q_o_years, .int v_o_least, .int v_o_origins, .int v_o_ofAll, .int v_o_ofSome, .int v_o_sets, .int v_o_spot, .int v_o_out])), (q_o_diary, gI Cs 3094 m_6)]) (As := [.ref q_o_now, .int x1, .int x2, .int x3, .int x4]) (rest := []) ⟨hx, hb, hml, hown, htb⟩ hK hP hD hS hA hN [1] [0, 2] rfl (by decide) rfl (by decide) (by decide) (c_X6_seeOn l D Cs q_o_now 221 H.size v_o_now x1 x2 x3 x4 h) (va_cwS 5 htb (TB_s tb_200 tb_201 tb_5 (TB_self tb_202)) rfl rfl rfl z_X6_seeOn.2 ⟨Nat.le_of_ble_eq_true rfl, Nat.le_of_ble_eq_true rfl⟩) rfl hl.1 rfl (Nat.le_of_ble_eq_true rfl) ⟨Nat.le_of_ble_eq_true rfl, Nat.le_of_ble_eq_true rfl⟩ dX6_see_56 (fun r_7 m_8 H locs h hP hD hS => ?_)
      have hP : va_P D vwCl [(q_o, .inr (6, [.int m_2, .ref q_o_text, .int v_o_size, .ref q_o_now, .ref q_o_trial, .ref q_o_diary, .int m_5, .ref q_o_kept, .ref q_o_isKept, .ref q_o_years, .int v_o_least, .int v_o_origins, .int v_o_ofAll, .int v_o_ofSome, .int v_o_sets, .int v_o_spot, .int v_o_out])), (q_o_diary, gI Cs 3094 m_6), (q_o_now, gI Cs 221 m_8)] H := hP
      have hD : va_D A [(q_o, .inr (6, [.int m_2, .ref q_o_text, .int v_o_size, .ref q_o_now, .ref q_o_trial, .ref q_o_diary, .int m_5, .ref q_o_kept, .ref q_o_isKept, .ref q_o_years, .int v_o_least, .int v_o_origins, .int v_o_ofAll, .int v_o_ofSome, .int v_o_sets, .int v_o_spot, .int v_o_out])), (q_o_diary, gI Cs 3094 m_6), (q_o_now, gI Cs 221 m_8)] := hD
      rw [← hQ]
      exact gRetI (u := (m_2, m_5, m_8, m_6)) hx hb hr rfl h (hP.sub [0, 2, 1] rfl) (hD.sub [0, 2, 1] (by decide) rfl) hS dX6_see_59 hlocks
    · have h := h.2 c_3
      refine lv_iconst (v := (0 : Int32)) hx hb dX6_see_41 (by decide) ?_
      rw [← hQ]
      exact gRetI (u := (m_2, v_o_acts, v_o_now, v_o_diary)) hx hb hr rfl h (hP.sub [2, 0, 1] rfl) (hD.sub [2, 0, 1] (by decide) rfl) hS dX6_see_42 hlocks
  have B34 : ∀ (H : Heap) (locs : List Loc) (ls : Array Slot), va_P D vwCl [(q_o, .inr (6, [.int v_o_refusal, .ref q_o_text, .int v_o_size, .ref q_o_now, .ref q_o_trial, .ref q_o_diary, .int v_o_acts, .ref q_o_kept, .ref q_o_isKept, .ref q_o_years, .int v_o_least, .int v_o_origins, .int v_o_ofAll, .int v_o_ofSome, .int v_o_sets, .int v_o_spot, .int v_o_out])), (q_o_now, gI Cs 221 v_o_now), (q_o_diary, gI Cs 3094 v_o_diary)] H → va_D A [(q_o, .inr (6, [.int v_o_refusal, .ref q_o_text, .int v_o_size, .ref q_o_now, .ref q_o_trial, .ref q_o_diary, .int v_o_acts, .ref q_o_kept, .ref q_o_isKept, .ref q_o_years, .int v_o_least, .int v_o_origins, .int v_o_ofAll, .int v_o_ofSome, .int v_o_sets, .int v_o_spot, .int v_o_out])), (q_o_now, gI Cs 221 v_o_now), (q_o_diary, gI Cs 3094 v_o_diary)] → va_S A s.heap H locs → lv_has ls 5 [(0, .ref q_o), (1, .int x1), (2, .int x2), (3, .int x3), (4, .int x4)] → P_X6_see_b34 v_o_refusal v_o_acts v_o_now v_o_diary x1 x2 x3 x4 post → W p l e ({ frames := 2, cells := 0, slots := 0, locals := 47 } : Room) s m args below meth c H locs 0 0 Q (F0 m 34 ls [.ref q_o]) := by
    intro H locs ls hP hD hS hl h
    unfold P_X6_see_b34 at h
    refine lv_iconst (v := (2 : Int32)) hx hb dX6_see_34 (by decide) ?_
    exact B35 _ _ _ (2 : Int32) hP hD hS (lv_sub hl [0, 1, 2, 3, 4] rfl) h
  unfold P_X6_see at h
  refine lv_aload_n hx hb dX6_see_0 rfl (lv_at hl 0 rfl) ?_
  refine lv_aload_n hx hb dX6_see_1 rfl (lv_at hl 0 rfl) ?_
  refine va_get (D := D) (ci := 6) (v := .ref q_o_now) (C := RX6) (T := TX6) (N := 17) hx hb htb inT_X6 hown hK hP 0 rfl rfl 3 (by decide) (htb _ tb_90) (fun _ h9 => h9) rfl dX6_see_2 ?_
  refine lv_iload_n hx hb dX6_see_5 rfl (lv_at hl 1 rfl) ?_
  refine gSR (As := [.ref q_o_now, .int x1]) (rest := [.ref q_o]) ⟨hx, hb, hml, hown, htb⟩ hK hP hN [1] rfl (c_X6_isTown l D Cs q_o_now 221 v_o_now x1 h) (va_cwS 2 htb (TB_s tb_197 tb_198 tb_5 (TB_self tb_199)) rfl rfl rfl z_X6_isTown.2 ⟨Nat.le_of_ble_eq_true rfl, Nat.le_of_ble_eq_true rfl⟩) rfl hl.1 rfl (Nat.le_of_ble_eq_true rfl) ⟨Nat.le_of_ble_eq_true rfl, Nat.le_of_ble_eq_true rfl⟩ dX6_see_6 (fun r_9 h => ?_)
  refine lv_if_ne (tgt := 16) hx hb dX6_see_9 (by decide) (fun c_10 => ?_) (fun c_10 => ?_)
  · have h := h.2 c_10
    refine lv_iload_n hx hb dX6_see_16 rfl (lv_at hl 2 rfl) ?_
    refine gSR (As := [.int x2]) (rest := [.ref q_o]) ⟨hx, hb, hml, hown, htb⟩ hK hP hN [] rfl (c_X6_isTrait l D Cs x2 h) (va_cwS 1 htb (TB_s tb_436 tb_437 tb_5 (TB_self tb_438)) rfl rfl rfl z_X6_isTrait.2 ⟨Nat.le_of_ble_eq_true rfl, Nat.le_of_ble_eq_true rfl⟩) rfl hl.1 rfl (Nat.le_of_ble_eq_true rfl) ⟨Nat.le_of_ble_eq_true rfl, Nat.le_of_ble_eq_true rfl⟩ dX6_see_17 (fun r_11 h => ?_)
    refine lv_if_eq (tgt := 34) hx hb dX6_see_20 (by decide) (fun c_12 => ?_) (fun c_12 => ?_)
    · have h := h.1 c_12
      exact B34 _ _ _ hP hD hS (lv_sub hl [0, 1, 2, 3, 4] rfl) h
    · have h := h.2 c_12
      refine lv_iload_n hx hb dX6_see_23 rfl (lv_at hl 3 rfl) ?_
      refine gSR (As := [.int x3]) (rest := [.ref q_o]) ⟨hx, hb, hml, hown, htb⟩ hK hP hN [] rfl (c_X6_isYear l D Cs x3 h) (va_cwS 1 htb (TB_s tb_552 tb_553 tb_5 (TB_self tb_554)) rfl rfl rfl z_X6_isYear.2 ⟨Nat.le_of_ble_eq_true rfl, Nat.le_of_ble_eq_true rfl⟩) rfl hl.1 rfl (Nat.le_of_ble_eq_true rfl) ⟨Nat.le_of_ble_eq_true rfl, Nat.le_of_ble_eq_true rfl⟩ dX6_see_24 (fun r_13 h => ?_)
      refine lv_if_eq (tgt := 34) hx hb dX6_see_27 (by decide) (fun c_14 => ?_) (fun c_14 => ?_)
      · have h := h.1 c_14
        exact B34 _ _ _ hP hD hS (lv_sub hl [0, 1, 2, 3, 4] rfl) h
      · have h := h.2 c_14
        refine lv_iconst (v := (0 : Int32)) hx hb dX6_see_30 (by decide) ?_
        refine lv_goto (tgt := 35) hx hb dX6_see_31 (by decide) ?_
        exact B35 _ _ _ (0 : Int32) hP hD hS (lv_sub hl [0, 1, 2, 3, 4] rfl) h
  · have h := h.1 c_10
    refine lv_iconst (v := (1 : Int32)) hx hb dX6_see_12 (by decide) ?_
    refine lv_goto (tgt := 35) hx hb dX6_see_13 (by decide) ?_
    exact B35 _ _ _ (1 : Int32) hP hD hS (lv_sub hl [0, 1, 2, 3, 4] rfl) h
set_option maxHeartbeats 4000000 in
set_option maxRecDepth 100000 in
theorem c_X6_seeAll (l : Launch) (D : va_G) (Cs : Nat → ClassId) (q_o : Nat) (q_o_text : Nat) (q_o_now : Nat) (q_o_trial : Nat) (q_o_diary : Nat) (q_o_kept : Nat) (q_o_isKept : Nat) (q_o_years : Nat) (sz : Nat) (v_o_refusal : Int32) (v_o_size : Int32) (v_o_acts : Int32) (v_o_spot : Int32) (v_o_out : Int32) (v_o_text : (Nat → Int32)) (v_o_now : (Nat → Int32)) (v_o_trial : (Nat → Int32)) (v_o_diary : (Nat → Int32)) (v_o_least : Int32) (v_o_origins : Int32) (v_o_ofAll : Int32) (v_o_ofSome : Int32) (v_o_sets : Int32) {post : Int32 → Int32 → Int32 → Int32 → Int32 → (Nat → Int32) → (Nat → Int32) → (Nat → Int32) → Prop} (h : P_X6_seeAll v_o_refusal v_o_size v_o_acts v_o_spot v_o_out v_o_text v_o_now v_o_trial v_o_diary post) : Met l yX6_seeAll wsX6_seeAll ({ frames := 5, cells := 0, slots := 0, locals := 116 } : Room) (va_Pc [.ref q_o] (gM D Cs [(q_o, .inr (6, [.int v_o_refusal, .ref q_o_text, .int v_o_size, .ref q_o_now, .ref q_o_trial, .ref q_o_diary, .int v_o_acts, .ref q_o_kept, .ref q_o_isKept, .ref q_o_years, .int v_o_least, .int v_o_origins, .int v_o_ofAll, .int v_o_ofSome, .int v_o_sets, .int v_o_spot, .int v_o_out])), (q_o_text, gI Cs 100 v_o_text), (q_o_now, gI Cs 221 v_o_now), (q_o_trial, gI Cs 221 v_o_trial), (q_o_diary, gI Cs 3094 v_o_diary)] sz)) (va_Qi (fun (r : Int32) (u : Int32 × Int32 × Int32 × Int32 × (Nat → Int32) × (Nat → Int32) × (Nat → Int32)) => post r u.1 u.2.1 u.2.2.1 u.2.2.2.1 u.2.2.2.2.1 u.2.2.2.2.2.1 u.2.2.2.2.2.2) (gB D (va_A [(q_o, .inr (6, [.int v_o_refusal, .ref q_o_text, .int v_o_size, .ref q_o_now, .ref q_o_trial, .ref q_o_diary, .int v_o_acts, .ref q_o_kept, .ref q_o_isKept, .ref q_o_years, .int v_o_least, .int v_o_origins, .int v_o_ofAll, .int v_o_ofSome, .int v_o_sets, .int v_o_spot, .int v_o_out])), (q_o_text, gI Cs 100 v_o_text), (q_o_now, gI Cs 221 v_o_now), (q_o_trial, gI Cs 221 v_o_trial), (q_o_diary, gI Cs 3094 v_o_diary)] sz) (fun u : Int32 × Int32 × Int32 × Int32 × (Nat → Int32) × (Nat → Int32) × (Nat → Int32) => [(q_o, .inr (6, [.int u.1, .ref q_o_text, .int v_o_size, .ref q_o_now, .ref q_o_trial, .ref q_o_diary, .int u.2.1, .ref q_o_kept, .ref q_o_isKept, .ref q_o_years, .int v_o_least, .int v_o_origins, .int v_o_ofAll, .int v_o_ofSome, .int v_o_sets, .int u.2.2.1, .int u.2.2.2.1])), (q_o_text, gI Cs 100 v_o_text), (q_o_now, gI Cs 221 u.2.2.2.2.1), (q_o_trial, gI Cs 221 u.2.2.2.2.2.1), (q_o_diary, gI Cs 3094 u.2.2.2.2.2.2)])) (va_A [(q_o, .inr (6, [.int v_o_refusal, .ref q_o_text, .int v_o_size, .ref q_o_now, .ref q_o_trial, .ref q_o_diary, .int v_o_acts, .ref q_o_kept, .ref q_o_isKept, .ref q_o_years, .int v_o_least, .int v_o_origins, .int v_o_ofAll, .int v_o_ofSome, .int v_o_sets, .int v_o_spot, .int v_o_out])), (q_o_text, gI Cs 100 v_o_text), (q_o_now, gI Cs 221 v_o_now), (q_o_trial, gI Cs 221 v_o_trial), (q_o_diary, gI Cs 3094 v_o_diary)] sz)) 0 0 (va_A [(q_o, .inr (6, [.int v_o_refusal, .ref q_o_text, .int v_o_size, .ref q_o_now, .ref q_o_trial, .ref q_o_diary, .int v_o_acts, .ref q_o_kept, .ref q_o_isKept, .ref q_o_years, .int v_o_least, .int v_o_origins, .int v_o_ofAll, .int v_o_ofSome, .int v_o_sets, .int v_o_spot, .int v_o_out])), (q_o_text, gI Cs 100 v_o_text), (q_o_now, gI Cs 221 v_o_now), (q_o_trial, gI Cs 221 v_o_trial), (q_o_diary, gI Cs 3094 v_o_diary)] sz) := by
  refine Met.ofW (cc := cX6_seeAll) (maxL := 1) (ret := (some .int)) (by decide) rfl ?_
  intro p e s m args below meth c s₁ B hml hv
  obtain ⟨ha, hsz, hP, hK, hD0, hN⟩ := hv
  have hx := B.exec
  have hb := B.bytes
  have hr := B.returns
  have hts := atoms_spec (ws := wsX6_seeAll) B.pre
  have htb : ∀ w ∈ TB, w.before args s = true := fun w h9 => hts w (List.mem_cons_of_mem _ h9)
  have hown : s.vm.findClass RX6 = some m.cls := findClass_of_methodNamed B.named
  have hlocks := B.notSynchronized
  subst hsz
  have hD := hD0.self (sz := s.heap.size)
  generalize hAe : va_A [(q_o, .inr (6, [.int v_o_refusal, .ref q_o_text, .int v_o_size, .ref q_o_now, .ref q_o_trial, .ref q_o_diary, .int v_o_acts, .ref q_o_kept, .ref q_o_isKept, .ref q_o_years, .int v_o_least, .int v_o_origins, .int v_o_ofAll, .int v_o_ofSome, .int v_o_sets, .int v_o_spot, .int v_o_out])), (q_o_text, gI Cs 100 v_o_text), (q_o_now, gI Cs 221 v_o_now), (q_o_trial, gI Cs 221 v_o_trial), (q_o_diary, gI Cs 3094 v_o_diary)] s.heap.size = A at hD ⊢
  have hA : ∀ q : Nat, s.heap.size ≤ q → A q := fun q h9 => by rw [← hAe]; exact Or.inr h9
  obtain ⟨H, hH⟩ : ∃ z : Heap, z = s.heap := ⟨_, rfl⟩
  have hS : va_S A s.heap H [] := by rw [hH]; exact va_S.rf
  have hP : va_P D vwCl [(q_o, .inr (6, [.int v_o_refusal, .ref q_o_text, .int v_o_size, .ref q_o_now, .ref q_o_trial, .ref q_o_diary, .int v_o_acts, .ref q_o_kept, .ref q_o_isKept, .ref q_o_years, .int v_o_least, .int v_o_origins, .int v_o_ofAll, .int v_o_ofSome, .int v_o_sets, .int v_o_spot, .int v_o_out])), (q_o_text, gI Cs 100 v_o_text), (q_o_now, gI Cs 221 v_o_now), (q_o_trial, gI Cs 221 v_o_trial), (q_o_diary, gI Cs 3094 v_o_diary)] H := by rw [hH]; exact hP
  generalize hQ : MQ below _ args s _ _ _ = Q
  show W p l e ({ frames := 5, cells := 0, slots := 0, locals := 116 } : Room) s m args below meth c s.heap [] 0 0 Q (entryFrame m args 1)
  have hent : entryFrame m args 1 = F0 m 0 ((lg_sl ([.ref q_o]) ++ List.replicate (1 - (lg_sl ([.ref q_o])).length) Slot.unset).toArray) [] := by rw [ha]; exact lg_entry_eq m ([.ref q_o]) 1
  rw [hent]; clear hent
  rw [← hH]
  have hl := lv_entry ([.ref q_o]) (n := 1) (Nat.le_of_ble_eq_true rfl)
  generalize (lg_sl ([.ref q_o]) ++ List.replicate (1 - (lg_sl ([.ref q_o])).length) Slot.unset).toArray = ls at hl ⊢
  have hl : lv_has ls 1 [(0, .ref q_o)] := hl
  have B31 : ∀ (H : Heap) (locs : List Loc) (ls : Array Slot) (w_o_spot : Int32) (w_o_out : Int32) (w_o_trial : (Nat → Int32)) (s1 : Int32), va_P D vwCl [(q_o, .inr (6, [.int v_o_refusal, .ref q_o_text, .int v_o_size, .ref q_o_now, .ref q_o_trial, .ref q_o_diary, .int v_o_acts, .ref q_o_kept, .ref q_o_isKept, .ref q_o_years, .int v_o_least, .int v_o_origins, .int v_o_ofAll, .int v_o_ofSome, .int v_o_sets, .int w_o_spot, .int w_o_out])), (q_o_text, gI Cs 100 v_o_text), (q_o_now, gI Cs 221 v_o_now), (q_o_trial, gI Cs 221 w_o_trial), (q_o_diary, gI Cs 3094 v_o_diary)] H → va_D A [(q_o, .inr (6, [.int v_o_refusal, .ref q_o_text, .int v_o_size, .ref q_o_now, .ref q_o_trial, .ref q_o_diary, .int v_o_acts, .ref q_o_kept, .ref q_o_isKept, .ref q_o_years, .int v_o_least, .int v_o_origins, .int v_o_ofAll, .int v_o_ofSome, .int v_o_sets, .int w_o_spot, .int w_o_out])), (q_o_text, gI Cs 100 v_o_text), (q_o_now, gI Cs 221 v_o_now), (q_o_trial, gI Cs 221 w_o_trial), (q_o_diary, gI Cs 3094 v_o_diary)] → va_S A s.heap H locs → lv_has ls 1 [(0, .ref q_o)] → P_X6_seeAll_b31 v_o_refusal v_o_size v_o_acts v_o_spot v_o_out v_o_text v_o_now v_o_trial v_o_diary post w_o_spot w_o_out w_o_trial s1 → W p l e ({ frames := 5, cells := 0, slots := 0, locals := 116 } : Room) s m args below meth c H locs 0 0 Q (F0 m 31 ls [.int s1, .ref q_o]) := by
    intro H locs ls w_o_spot w_o_out w_o_trial s1 hP hD hS hl h
    unfold P_X6_seeAll_b31 at h
    refine gVM (wr := [(q_o_text, gI Cs 100 v_o_text), (q_o_now, gI Cs 221 v_o_now), (q_o_trial, gI Cs 221 w_o_trial), (q_o_diary, gI Cs 3094 v_o_diary)]) (As := [.int s1]) (rest := []) ⟨hx, hb, hml, hown, htb⟩ hK hP hD hS hA hN [0] [1, 2, 3, 4] rfl (by decide) rfl (by decide) (by decide) (c_X6_refused l D Cs q_o q_o_text q_o_now q_o_trial q_o_diary q_o_kept q_o_isKept q_o_years H.size v_o_refusal v_o_size v_o_acts v_o_least v_o_origins v_o_ofAll v_o_ofSome v_o_sets w_o_spot w_o_out s1 h) (cwV 1 htb (TB_v tb_128 tb_129 tb_130 tb_5 (TB_self tb_131)) rfl rfl rfl z_X6_refused ⟨Nat.le_of_ble_eq_true rfl, Nat.le_of_ble_eq_true rfl⟩) 0 rfl rfl rfl rfl hl.1 rfl (Nat.le_of_ble_eq_true rfl) ⟨Nat.le_of_ble_eq_true rfl, Nat.le_of_ble_eq_true rfl⟩ dX6_seeAll_31 (fun r_1 m_2 H locs h hP hD hS => ?_)
    have hP : va_P D vwCl [(q_o_text, gI Cs 100 v_o_text), (q_o_now, gI Cs 221 v_o_now), (q_o_trial, gI Cs 221 w_o_trial), (q_o_diary, gI Cs 3094 v_o_diary), (q_o, .inr (6, [.int m_2, .ref q_o_text, .int v_o_size, .ref q_o_now, .ref q_o_trial, .ref q_o_diary, .int v_o_acts, .ref q_o_kept, .ref q_o_isKept, .ref q_o_years, .int v_o_least, .int v_o_origins, .int v_o_ofAll, .int v_o_ofSome, .int v_o_sets, .int w_o_spot, .int w_o_out]))] H := hP
    have hD : va_D A [(q_o_text, gI Cs 100 v_o_text), (q_o_now, gI Cs 221 v_o_now), (q_o_trial, gI Cs 221 w_o_trial), (q_o_diary, gI Cs 3094 v_o_diary), (q_o, .inr (6, [.int m_2, .ref q_o_text, .int v_o_size, .ref q_o_now, .ref q_o_trial, .ref q_o_diary, .int v_o_acts, .ref q_o_kept, .ref q_o_isKept, .ref q_o_years, .int v_o_least, .int v_o_origins, .int v_o_ofAll, .int v_o_ofSome, .int v_o_sets, .int w_o_spot, .int w_o_out]))] := hD
    refine lv_if_eq (tgt := 39) hx hb dX6_seeAll_34 (by decide) (fun c_3 => ?_) (fun c_3 => ?_)
    · have h := h.1 c_3
      refine lv_aload_n hx hb dX6_seeAll_39 rfl (lv_at hl 0 rfl) ?_
      refine gVMv (wr := [(q_o_text, gI Cs 100 v_o_text), (q_o_trial, gI Cs 221 w_o_trial)]) (As := []) (rest := []) ⟨hx, hb, hml, hown, htb⟩ hK hP hD hS hA hN [4, 1, 3] [0, 2] rfl (by decide) rfl (by decide) (by decide) (c_X6_remember l D Cs q_o q_o_text q_o_now q_o_trial q_o_diary q_o_kept q_o_isKept q_o_years H.size v_o_acts v_o_now v_o_diary m_2 v_o_size v_o_least v_o_origins v_o_ofAll v_o_ofSome v_o_sets w_o_spot w_o_out h) (cwV 0 htb (TB_v tb_466 tb_467 tb_468 tb_5 (TB_self tb_469)) rfl rfl rfl z_X6_remember ⟨Nat.le_of_ble_eq_true rfl, Nat.le_of_ble_eq_true rfl⟩) 4 rfl rfl rfl rfl hl.1 rfl (Nat.le_of_ble_eq_true rfl) ⟨Nat.le_of_ble_eq_true rfl, Nat.le_of_ble_eq_true rfl⟩ dX6_seeAll_40 (fun u H locs h hP hD hS => ?_)
      obtain ⟨m_5, m_6⟩ := u
      try dsimp only at h
      have hP : va_P D vwCl [(q_o_text, gI Cs 100 v_o_text), (q_o_trial, gI Cs 221 w_o_trial), (q_o, .inr (6, [.int m_2, .ref q_o_text, .int v_o_size, .ref q_o_now, .ref q_o_trial, .ref q_o_diary, .int m_5, .ref q_o_kept, .ref q_o_isKept, .ref q_o_years, .int v_o_least, .int v_o_origins, .int v_o_ofAll, .int v_o_ofSome, .int v_o_sets, .int w_o_spot, .int w_o_out])), (q_o_now, gI Cs 221 v_o_now), (q_o_diary, gI Cs 3094 m_6)] H := hP
      have hD : va_D A [(q_o_text, gI Cs 100 v_o_text), (q_o_trial, gI Cs 221 w_o_trial), (q_o, .inr (6, [.int m_2, .ref q_o_text, .int v_o_size, .ref q_o_now, .ref q_o_trial, .ref q_o_diary, .int m_5, .ref q_o_kept, .ref q_o_isKept, .ref q_o_years, .int v_o_least, .int v_o_origins, .int v_o_ofAll, .int v_o_ofSome, .int v_o_sets, .int w_o_spot, .int w_o_out])), (q_o_now, gI Cs 221 v_o_now), (q_o_diary, gI Cs 3094 m_6)] := hD
      refine lv_aload_n hx hb dX6_seeAll_43 rfl (lv_at hl 0 rfl) ?_
      refine va_get (D := D) (ci := 6) (v := .ref q_o_trial) (C := RX6) (T := TX6) (N := 17) hx hb htb inT_X6 hown hK hP 2 rfl rfl 4 (by decide) (htb _ tb_91) (fun _ h9 => h9) rfl dX6_seeAll_44 ?_
      refine lv_iconst (v := (0 : Int32)) hx hb dX6_seeAll_47 (by decide) ?_
      refine lv_aload_n hx hb dX6_seeAll_48 rfl (lv_at hl 0 rfl) ?_
      refine va_get (D := D) (ci := 6) (v := .ref q_o_now) (C := RX6) (T := TX6) (N := 17) hx hb htb inT_X6 hown hK hP 2 rfl rfl 3 (by decide) (htb _ tb_90) (fun _ h9 => h9) rfl dX6_seeAll_49 ?_
      refine lv_iconst (v := (0 : Int32)) hx hb dX6_seeAll_52 (by decide) ?_
      refine gSMv (wr := [(q_o_text, gI Cs 100 v_o_text), (q_o, .inr (6, [.int m_2, .ref q_o_text, .int v_o_size, .ref q_o_now, .ref q_o_trial, .ref q_o_diary, .int m_5, .ref q_o_kept, .ref q_o_isKept, .ref q_o_years, .int v_o_least, .int v_o_origins, .int v_o_ofAll, .int v_o_ofSome, .int v_o_sets, .int w_o_spot, .int w_o_out])), (q_o_diary, gI Cs 3094 m_6)]) (As := [.ref q_o_trial, .int (0 : Int32), .ref q_o_now, .int (0 : Int32)]) (rest := []) ⟨hx, hb, hml, hown, htb⟩ hK hP hD hS hA hN [1, 3] [0, 2, 4] rfl (by decide) rfl (by decide) (by decide) (c_X6_copyState l D Cs q_o_trial q_o_now 221 221 H.size w_o_trial v_o_now (0 : Int32) (0 : Int32) h) (va_cwS 4 htb (TB_s tb_170 tb_171 tb_5 (TB_self tb_172)) rfl rfl rfl z_X6_copyState.2 ⟨Nat.le_of_ble_eq_true rfl, Nat.le_of_ble_eq_true rfl⟩) rfl hl.1 rfl (Nat.le_of_ble_eq_true rfl) ⟨Nat.le_of_ble_eq_true rfl, Nat.le_of_ble_eq_true rfl⟩ dX6_seeAll_53 (fun m_8 H locs h hP hD hS => ?_)
      have hP : va_P D vwCl [(q_o_text, gI Cs 100 v_o_text), (q_o, .inr (6, [.int m_2, .ref q_o_text, .int v_o_size, .ref q_o_now, .ref q_o_trial, .ref q_o_diary, .int m_5, .ref q_o_kept, .ref q_o_isKept, .ref q_o_years, .int v_o_least, .int v_o_origins, .int v_o_ofAll, .int v_o_ofSome, .int v_o_sets, .int w_o_spot, .int w_o_out])), (q_o_diary, gI Cs 3094 m_6), (q_o_trial, gI Cs 221 w_o_trial), (q_o_now, gI Cs 221 m_8)] H := hP
      have hD : va_D A [(q_o_text, gI Cs 100 v_o_text), (q_o, .inr (6, [.int m_2, .ref q_o_text, .int v_o_size, .ref q_o_now, .ref q_o_trial, .ref q_o_diary, .int m_5, .ref q_o_kept, .ref q_o_isKept, .ref q_o_years, .int v_o_least, .int v_o_origins, .int v_o_ofAll, .int v_o_ofSome, .int v_o_sets, .int w_o_spot, .int w_o_out])), (q_o_diary, gI Cs 3094 m_6), (q_o_trial, gI Cs 221 w_o_trial), (q_o_now, gI Cs 221 m_8)] := hD
      refine lv_aload_n hx hb dX6_seeAll_56 rfl (lv_at hl 0 rfl) ?_
      refine va_get (D := D) (ci := 6) (v := .int w_o_out) (C := RX6) (T := TX6) (N := 17) hx hb htb inT_X6 hown hK hP 1 rfl rfl 16 (by decide) (htb _ tb_178) (fun _ h9 => h9) rfl dX6_seeAll_57 ?_
      rw [← hQ]
      exact gRetI (u := (m_2, m_5, w_o_spot, w_o_out, m_8, w_o_trial, m_6)) hx hb hr rfl h (hP.sub [1, 0, 4, 3, 2] rfl) (hD.sub [1, 0, 4, 3, 2] (by decide) rfl) hS dX6_seeAll_60 hlocks
    · have h := h.2 c_3
      refine lv_iconst (v := (0 : Int32)) hx hb dX6_seeAll_37 (by decide) ?_
      rw [← hQ]
      exact gRetI (u := (m_2, v_o_acts, w_o_spot, w_o_out, v_o_now, w_o_trial, v_o_diary)) hx hb hr rfl h (hP.sub [4, 0, 1, 2, 3] rfl) (hD.sub [4, 0, 1, 2, 3] (by decide) rfl) hS dX6_seeAll_38 hlocks
  unfold P_X6_seeAll at h
  refine lv_aload_n hx hb dX6_seeAll_0 rfl (lv_at hl 0 rfl) ?_
  refine va_get (D := D) (ci := 6) (v := .ref q_o_now) (C := RX6) (T := TX6) (N := 17) hx hb htb inT_X6 hown hK hP 0 rfl rfl 3 (by decide) (htb _ tb_90) (fun _ h9 => h9) rfl dX6_seeAll_1 ?_
  refine lv_iconst (v := (0 : Int32)) hx hb dX6_seeAll_4 (by decide) ?_
  refine lv_aload_n hx hb dX6_seeAll_5 rfl (lv_at hl 0 rfl) ?_
  refine va_get (D := D) (ci := 6) (v := .ref q_o_trial) (C := RX6) (T := TX6) (N := 17) hx hb htb inT_X6 hown hK hP 0 rfl rfl 4 (by decide) (htb _ tb_91) (fun _ h9 => h9) rfl dX6_seeAll_6 ?_
  refine lv_iconst (v := (0 : Int32)) hx hb dX6_seeAll_9 (by decide) ?_
  refine gSMv (wr := [(q_o, .inr (6, [.int v_o_refusal, .ref q_o_text, .int v_o_size, .ref q_o_now, .ref q_o_trial, .ref q_o_diary, .int v_o_acts, .ref q_o_kept, .ref q_o_isKept, .ref q_o_years, .int v_o_least, .int v_o_origins, .int v_o_ofAll, .int v_o_ofSome, .int v_o_sets, .int v_o_spot, .int v_o_out])), (q_o_text, gI Cs 100 v_o_text), (q_o_diary, gI Cs 3094 v_o_diary)]) (As := [.ref q_o_now, .int (0 : Int32), .ref q_o_trial, .int (0 : Int32)]) (rest := []) ⟨hx, hb, hml, hown, htb⟩ hK hP hD hS hA hN [2, 3] [0, 1, 4] rfl (by decide) rfl (by decide) (by decide) (c_X6_copyState l D Cs q_o_now q_o_trial 221 221 H.size v_o_now v_o_trial (0 : Int32) (0 : Int32) h) (va_cwS 4 htb (TB_s tb_170 tb_171 tb_5 (TB_self tb_172)) rfl rfl rfl z_X6_copyState.2 ⟨Nat.le_of_ble_eq_true rfl, Nat.le_of_ble_eq_true rfl⟩) rfl hl.1 rfl (Nat.le_of_ble_eq_true rfl) ⟨Nat.le_of_ble_eq_true rfl, Nat.le_of_ble_eq_true rfl⟩ dX6_seeAll_10 (fun m_10 H locs h hP hD hS => ?_)
  have hP : va_P D vwCl [(q_o, .inr (6, [.int v_o_refusal, .ref q_o_text, .int v_o_size, .ref q_o_now, .ref q_o_trial, .ref q_o_diary, .int v_o_acts, .ref q_o_kept, .ref q_o_isKept, .ref q_o_years, .int v_o_least, .int v_o_origins, .int v_o_ofAll, .int v_o_ofSome, .int v_o_sets, .int v_o_spot, .int v_o_out])), (q_o_text, gI Cs 100 v_o_text), (q_o_diary, gI Cs 3094 v_o_diary), (q_o_now, gI Cs 221 v_o_now), (q_o_trial, gI Cs 221 m_10)] H := hP
  have hD : va_D A [(q_o, .inr (6, [.int v_o_refusal, .ref q_o_text, .int v_o_size, .ref q_o_now, .ref q_o_trial, .ref q_o_diary, .int v_o_acts, .ref q_o_kept, .ref q_o_isKept, .ref q_o_years, .int v_o_least, .int v_o_origins, .int v_o_ofAll, .int v_o_ofSome, .int v_o_sets, .int v_o_spot, .int v_o_out])), (q_o_text, gI Cs 100 v_o_text), (q_o_diary, gI Cs 3094 v_o_diary), (q_o_now, gI Cs 221 v_o_now), (q_o_trial, gI Cs 221 m_10)] := hD
  refine lv_aload_n hx hb dX6_seeAll_13 rfl (lv_at hl 0 rfl) ?_
  refine lv_aload_n hx hb dX6_seeAll_14 rfl (lv_at hl 0 rfl) ?_
  refine lv_aload_n hx hb dX6_seeAll_15 rfl (lv_at hl 0 rfl) ?_
  refine va_get (D := D) (ci := 6) (v := .ref q_o_trial) (C := RX6) (T := TX6) (N := 17) hx hb htb inT_X6 hown hK hP 0 rfl rfl 4 (by decide) (htb _ tb_91) (fun _ h9 => h9) rfl dX6_seeAll_16 ?_
  refine gVM (wr := [(q_o_diary, gI Cs 3094 v_o_diary), (q_o_now, gI Cs 221 v_o_now)]) (As := [.ref q_o_trial]) (rest := [.ref q_o]) ⟨hx, hb, hml, hown, htb⟩ hK hP hD hS hA hN [0, 1, 4] [2, 3] rfl (by decide) rfl (by decide) (by decide) (c_X6_readAll l D Cs q_o q_o_trial q_o_text q_o_now q_o_trial q_o_diary q_o_kept q_o_isKept q_o_years 221 H.size v_o_size v_o_spot v_o_out v_o_text m_10 v_o_refusal v_o_acts v_o_least v_o_origins v_o_ofAll v_o_ofSome v_o_sets h) (cwV 1 htb (TB_v tb_173 tb_174 tb_175 tb_5 (TB_self tb_176)) rfl rfl rfl z_X6_readAll ⟨Nat.le_of_ble_eq_true rfl, Nat.le_of_ble_eq_true rfl⟩) 0 rfl rfl rfl rfl hl.1 rfl (Nat.le_of_ble_eq_true rfl) ⟨Nat.le_of_ble_eq_true rfl, Nat.le_of_ble_eq_true rfl⟩ dX6_seeAll_19 (fun r_11 u H locs h hP hD hS => ?_)
  obtain ⟨m_12, m_13, m_14⟩ := u
  try dsimp only at h
  have hP : va_P D vwCl [(q_o_diary, gI Cs 3094 v_o_diary), (q_o_now, gI Cs 221 v_o_now), (q_o, .inr (6, [.int v_o_refusal, .ref q_o_text, .int v_o_size, .ref q_o_now, .ref q_o_trial, .ref q_o_diary, .int v_o_acts, .ref q_o_kept, .ref q_o_isKept, .ref q_o_years, .int v_o_least, .int v_o_origins, .int v_o_ofAll, .int v_o_ofSome, .int v_o_sets, .int m_12, .int m_13])), (q_o_text, gI Cs 100 v_o_text), (q_o_trial, gI Cs 221 m_14)] H := hP
  have hD : va_D A [(q_o_diary, gI Cs 3094 v_o_diary), (q_o_now, gI Cs 221 v_o_now), (q_o, .inr (6, [.int v_o_refusal, .ref q_o_text, .int v_o_size, .ref q_o_now, .ref q_o_trial, .ref q_o_diary, .int v_o_acts, .ref q_o_kept, .ref q_o_isKept, .ref q_o_years, .int v_o_least, .int v_o_origins, .int v_o_ofAll, .int v_o_ofSome, .int v_o_sets, .int m_12, .int m_13])), (q_o_text, gI Cs 100 v_o_text), (q_o_trial, gI Cs 221 m_14)] := hD
  refine lv_iconst (v := (-1 : Int32)) hx hb dX6_seeAll_22 (by decide) ?_
  refine lv_icmp_ne (tgt := 30) hx hb dX6_seeAll_23 (by decide) (fun c_15 => ?_) (fun c_15 => ?_)
  · have h := h.2 c_15
    refine lv_iconst (v := (1 : Int32)) hx hb dX6_seeAll_30 (by decide) ?_
    exact B31 _ _ _ m_12 m_13 m_14 (1 : Int32) (hP.sub [2, 3, 1, 4, 0] rfl) (hD.sub [2, 3, 1, 4, 0] (by decide) rfl) hS (lv_sub hl [0] rfl) h
  · have h := h.1 c_15
    refine lv_iconst (v := (0 : Int32)) hx hb dX6_seeAll_26 (by decide) ?_
    refine lv_goto (tgt := 31) hx hb dX6_seeAll_27 (by decide) ?_
    exact B31 _ _ _ m_12 m_13 m_14 (0 : Int32) (hP.sub [2, 3, 1, 4, 0] rfl) (hD.sub [2, 3, 1, 4, 0] (by decide) rfl) hS (lv_sub hl [0] rfl) h
set_option maxHeartbeats 4000000 in
set_option maxRecDepth 100000 in
theorem c_X6_forgetOn (l : Launch) (D : va_G) (Cs : Nat → ClassId) (q_a0 : Nat) (n_a0 : Nat) (sz : Nat) (v_a0 : (Nat → Int32)) (x1 : Int32) (x2 : Int32) {post : Int32 → (Nat → Int32) → Prop} (h : P_X6_forgetOn n_a0 v_a0 x1 x2 post) : Met l yX6_forgetOn wsX6_forgetOn ({ frames := 1, cells := 0, slots := 0, locals := 21 } : Room) (va_Pc [.ref q_a0, .int x1, .int x2] (gM D Cs [(q_a0, gI Cs n_a0 v_a0)] sz)) (va_Qi (fun (r : Int32) (u : (Nat → Int32)) => post r u) (gB D (va_A [(q_a0, gI Cs n_a0 v_a0)] sz) (fun u : (Nat → Int32) => [(q_a0, gI Cs n_a0 u)])) (va_A [(q_a0, gI Cs n_a0 v_a0)] sz)) 0 0 (va_A [(q_a0, gI Cs n_a0 v_a0)] sz) := by
  refine Met.ofW (cc := cX6_forgetOn) (maxL := 4) (ret := (some .int)) (by decide) rfl ?_
  intro p e s m args below meth c s₁ B hml hv
  obtain ⟨ha, hsz, hP, hK, hD0, hN⟩ := hv
  have hx := B.exec
  have hb := B.bytes
  have hr := B.returns
  have hts := atoms_spec (ws := wsX6_forgetOn) B.pre
  have htb : ∀ w ∈ TB, w.before args s = true := fun w h9 => hts w (List.mem_cons_of_mem _ h9)
  have hown : s.vm.findClass RX6 = some m.cls := findClass_of_methodNamed B.named
  have hlocks := B.notSynchronized
  subst hsz
  have hD := hD0.self (sz := s.heap.size)
  generalize hAe : va_A [(q_a0, gI Cs n_a0 v_a0)] s.heap.size = A at hD ⊢
  have hA : ∀ q : Nat, s.heap.size ≤ q → A q := fun q h9 => by rw [← hAe]; exact Or.inr h9
  obtain ⟨H, hH⟩ : ∃ z : Heap, z = s.heap := ⟨_, rfl⟩
  have hS : va_S A s.heap H [] := by rw [hH]; exact va_S.rf
  have hP : va_P D vwCl [(q_a0, gI Cs n_a0 v_a0)] H := by rw [hH]; exact hP
  generalize hQ : MQ below _ args s _ _ _ = Q
  show W p l e ({ frames := 1, cells := 0, slots := 0, locals := 21 } : Room) s m args below meth c s.heap [] 0 0 Q (entryFrame m args 4)
  have hent : entryFrame m args 4 = F0 m 0 ((lg_sl ([.ref q_a0, .int x1, .int x2]) ++ List.replicate (4 - (lg_sl ([.ref q_a0, .int x1, .int x2])).length) Slot.unset).toArray) [] := by rw [ha]; exact lg_entry_eq m ([.ref q_a0, .int x1, .int x2]) 4
  rw [hent]; clear hent
  rw [← hH]
  have hl := lv_entry ([.ref q_a0, .int x1, .int x2]) (n := 4) (Nat.le_of_ble_eq_true rfl)
  generalize (lg_sl ([.ref q_a0, .int x1, .int x2]) ++ List.replicate (4 - (lg_sl ([.ref q_a0, .int x1, .int x2])).length) Slot.unset).toArray = ls at hl ⊢
  have hl : lv_has ls 4 [(0, .ref q_a0), (1, .int x1), (2, .int x2)] := hl
  have B55 : ∀ (H : Heap) (locs : List Loc) (ls : Array Slot) (w_a0 : (Nat → Int32)) (s0 : Int32), va_P D vwCl [(q_a0, gI Cs n_a0 w_a0)] H → va_D A [(q_a0, gI Cs n_a0 w_a0)] → va_S A s.heap H locs → lv_has ls 4 [(0, .ref q_a0), (1, .int x1), (2, .int x2)] → P_X6_forgetOn_b55 n_a0 v_a0 x1 x2 post w_a0 s0 → W p l e ({ frames := 1, cells := 0, slots := 0, locals := 21 } : Room) s m args below meth c H locs 0 0 Q (F0 m 55 ls [.int s0]) := by
    intro H locs ls w_a0 s0 hP hD hS hl h
    unfold P_X6_forgetOn_b55 at h
    rw [← hQ]
    exact gRetI (u := w_a0) hx hb hr rfl h hP hD hS dX6_forgetOn_55 hlocks
  unfold P_X6_forgetOn at h
  refine lv_aload_n hx hb dX6_forgetOn_0 rfl (lv_at hl 0 rfl) ?_
  refine lv_bipush (v := (101 : Int32)) hx hb dX6_forgetOn_1 (by decide) ?_
  refine lv_iload_n hx hb dX6_forgetOn_3 rfl (lv_at hl 1 rfl) ?_
  refine lv_iload_n hx hb dX6_forgetOn_4 rfl (lv_at hl 2 rfl) ?_
  refine gSR (As := [.int x1, .int x2]) (rest := [.int (101 : Int32), .ref q_a0]) ⟨hx, hb, hml, hown, htb⟩ hK hP hN [] rfl (c_X6_at l D Cs x1 x2 h) (va_cwS 2 htb (TB_s tb_203 tb_204 tb_5 (TB_self tb_205)) rfl rfl rfl z_X6_at.2 ⟨Nat.le_of_ble_eq_true rfl, Nat.le_of_ble_eq_true rfl⟩) rfl hl.1 rfl (Nat.le_of_ble_eq_true rfl) ⟨Nat.le_of_ble_eq_true rfl, Nat.le_of_ble_eq_true rfl⟩ dX6_forgetOn_5 (fun r_1 h => ?_)
  refine lv_iadd hx hb dX6_forgetOn_8 ?_
  obtain ⟨hi_2, h⟩ := h
  refine va_iald hx hb hK hP 0 0 rfl rfl hi_2 dX6_forgetOn_9 ?_
  refine lv_aload_n hx hb dX6_forgetOn_10 rfl (lv_at hl 0 rfl) ?_
  refine lv_sipush (v := (161 : Int32)) hx hb dX6_forgetOn_11 (by decide) ?_
  refine lv_iload_n hx hb dX6_forgetOn_14 rfl (lv_at hl 1 rfl) ?_
  refine lv_iload_n hx hb dX6_forgetOn_15 rfl (lv_at hl 2 rfl) ?_
  refine gSR (As := [.int x1, .int x2]) (rest := [.int (161 : Int32), .ref q_a0, .int (v_a0 ((101 : Int32) + r_1).toNatClampNeg)]) ⟨hx, hb, hml, hown, htb⟩ hK hP hN [] rfl (c_X6_at l D Cs x1 x2 h) (va_cwS 2 htb (TB_s tb_203 tb_204 tb_5 (TB_self tb_205)) rfl rfl rfl z_X6_at.2 ⟨Nat.le_of_ble_eq_true rfl, Nat.le_of_ble_eq_true rfl⟩) rfl hl.1 rfl (Nat.le_of_ble_eq_true rfl) ⟨Nat.le_of_ble_eq_true rfl, Nat.le_of_ble_eq_true rfl⟩ dX6_forgetOn_16 (fun r_3 h => ?_)
  refine lv_iadd hx hb dX6_forgetOn_19 ?_
  obtain ⟨hi_4, h⟩ := h
  refine va_iald hx hb hK hP 0 0 rfl rfl hi_4 dX6_forgetOn_20 ?_
  refine lv_iadd hx hb dX6_forgetOn_21 ?_
  refine lv_topi (fun x3_5 ex3_5 => ?_)
  have h := h _ ex3_5
  refine lv_istore_n (lv' := [(3, .int x3_5), (0, .ref q_a0), (1, .int x1), (2, .int x2)]) hx hb dX6_forgetOn_22 rfl hl (by decide) rfl (fun ls hl => ?_)
  refine lv_aload_n hx hb dX6_forgetOn_23 rfl (lv_at hl 1 rfl) ?_
  refine lv_bipush (v := (101 : Int32)) hx hb dX6_forgetOn_24 (by decide) ?_
  refine lv_iload_n hx hb dX6_forgetOn_26 rfl (lv_at hl 2 rfl) ?_
  refine lv_iload_n hx hb dX6_forgetOn_27 rfl (lv_at hl 3 rfl) ?_
  refine gSR (As := [.int x1, .int x2]) (rest := [.int (101 : Int32), .ref q_a0]) ⟨hx, hb, hml, hown, htb⟩ hK hP hN [] rfl (c_X6_at l D Cs x1 x2 h) (va_cwS 2 htb (TB_s tb_203 tb_204 tb_5 (TB_self tb_205)) rfl rfl rfl z_X6_at.2 ⟨Nat.le_of_ble_eq_true rfl, Nat.le_of_ble_eq_true rfl⟩) rfl hl.1 rfl (Nat.le_of_ble_eq_true rfl) ⟨Nat.le_of_ble_eq_true rfl, Nat.le_of_ble_eq_true rfl⟩ dX6_forgetOn_28 (fun r_6 h => ?_)
  refine lv_iadd hx hb dX6_forgetOn_31 ?_
  refine lv_iconst (v := (0 : Int32)) hx hb dX6_forgetOn_32 (by decide) ?_
  obtain ⟨hi_7, h⟩ := h
  refine va_iast hx hb hK hP hD hS 0 0 rfl rfl hi_7 dX6_forgetOn_33 (fun H locs hP hD hS => ?_)
  have hP : va_P D vwCl [(q_a0, gI Cs n_a0 (upd v_a0 ((101 : Int32) + r_6).toNatClampNeg (0 : Int32)))] H := hP
  have hD : va_D A [(q_a0, gI Cs n_a0 (upd v_a0 ((101 : Int32) + r_6).toNatClampNeg (0 : Int32)))] := hD
  refine lv_aload_n hx hb dX6_forgetOn_34 rfl (lv_at hl 1 rfl) ?_
  refine lv_sipush (v := (161 : Int32)) hx hb dX6_forgetOn_35 (by decide) ?_
  refine lv_iload_n hx hb dX6_forgetOn_38 rfl (lv_at hl 2 rfl) ?_
  refine lv_iload_n hx hb dX6_forgetOn_39 rfl (lv_at hl 3 rfl) ?_
  refine gSR (As := [.int x1, .int x2]) (rest := [.int (161 : Int32), .ref q_a0]) ⟨hx, hb, hml, hown, htb⟩ hK hP hN [] rfl (c_X6_at l D Cs x1 x2 h) (va_cwS 2 htb (TB_s tb_203 tb_204 tb_5 (TB_self tb_205)) rfl rfl rfl z_X6_at.2 ⟨Nat.le_of_ble_eq_true rfl, Nat.le_of_ble_eq_true rfl⟩) rfl hl.1 rfl (Nat.le_of_ble_eq_true rfl) ⟨Nat.le_of_ble_eq_true rfl, Nat.le_of_ble_eq_true rfl⟩ dX6_forgetOn_40 (fun r_8 h => ?_)
  refine lv_iadd hx hb dX6_forgetOn_43 ?_
  refine lv_iconst (v := (0 : Int32)) hx hb dX6_forgetOn_44 (by decide) ?_
  obtain ⟨hi_9, h⟩ := h
  refine va_iast hx hb hK hP hD hS 0 0 rfl rfl hi_9 dX6_forgetOn_45 (fun H locs hP hD hS => ?_)
  have hP : va_P D vwCl [(q_a0, gI Cs n_a0 (upd (upd v_a0 ((101 : Int32) + r_6).toNatClampNeg (0 : Int32)) ((161 : Int32) + r_8).toNatClampNeg (0 : Int32)))] H := hP
  have hD : va_D A [(q_a0, gI Cs n_a0 (upd (upd v_a0 ((101 : Int32) + r_6).toNatClampNeg (0 : Int32)) ((161 : Int32) + r_8).toNatClampNeg (0 : Int32)))] := hD
  refine lv_iload_n hx hb dX6_forgetOn_46 rfl (lv_at hl 0 rfl) ?_
  refine lv_if_le (tgt := 54) hx hb dX6_forgetOn_47 (by decide) (fun c_10 => ?_) (fun c_10 => ?_)
  · have h := h.1 c_10
    refine lv_iconst (v := (0 : Int32)) hx hb dX6_forgetOn_54 (by decide) ?_
    exact B55 _ _ _ (upd (upd v_a0 ((101 : Int32) + r_6).toNatClampNeg (0 : Int32)) ((161 : Int32) + r_8).toNatClampNeg (0 : Int32)) (0 : Int32) hP hD hS (lv_sub hl [1, 2, 3] rfl) h
  · have h := h.2 c_10
    refine lv_iconst (v := (1 : Int32)) hx hb dX6_forgetOn_50 (by decide) ?_
    refine lv_goto (tgt := 55) hx hb dX6_forgetOn_51 (by decide) ?_
    exact B55 _ _ _ (upd (upd v_a0 ((101 : Int32) + r_6).toNatClampNeg (0 : Int32)) ((161 : Int32) + r_8).toNatClampNeg (0 : Int32)) (1 : Int32) hP hD hS (lv_sub hl [1, 2, 3] rfl) h
set_option maxHeartbeats 4000000 in
set_option maxRecDepth 100000 in
theorem c_X6_forget (l : Launch) (D : va_G) (Cs : Nat → ClassId) (q_o : Nat) (q_o_text : Nat) (q_o_now : Nat) (q_o_trial : Nat) (q_o_diary : Nat) (q_o_kept : Nat) (q_o_isKept : Nat) (q_o_years : Nat) (sz : Nat) (v_o_refusal : Int32) (v_o_acts : Int32) (v_o_now : (Nat → Int32)) (v_o_diary : (Nat → Int32)) (v_o_size : Int32) (v_o_least : Int32) (v_o_origins : Int32) (v_o_ofAll : Int32) (v_o_ofSome : Int32) (v_o_sets : Int32) (v_o_spot : Int32) (v_o_out : Int32) (x1 : Int32) (x2 : Int32) {post : Int32 → Int32 → Int32 → (Nat → Int32) → (Nat → Int32) → Prop} (h : P_X6_forget v_o_refusal v_o_acts v_o_now v_o_diary x1 x2 post) : Met l yX6_forget wsX6_forget ({ frames := 2, cells := 0, slots := 0, locals := 46 } : Room) (va_Pc [.ref q_o, .int x1, .int x2] (gM D Cs [(q_o, .inr (6, [.int v_o_refusal, .ref q_o_text, .int v_o_size, .ref q_o_now, .ref q_o_trial, .ref q_o_diary, .int v_o_acts, .ref q_o_kept, .ref q_o_isKept, .ref q_o_years, .int v_o_least, .int v_o_origins, .int v_o_ofAll, .int v_o_ofSome, .int v_o_sets, .int v_o_spot, .int v_o_out])), (q_o_now, gI Cs 221 v_o_now), (q_o_diary, gI Cs 3094 v_o_diary)] sz)) (va_Qi (fun (r : Int32) (u : Int32 × Int32 × (Nat → Int32) × (Nat → Int32)) => post r u.1 u.2.1 u.2.2.1 u.2.2.2) (gB D (va_A [(q_o, .inr (6, [.int v_o_refusal, .ref q_o_text, .int v_o_size, .ref q_o_now, .ref q_o_trial, .ref q_o_diary, .int v_o_acts, .ref q_o_kept, .ref q_o_isKept, .ref q_o_years, .int v_o_least, .int v_o_origins, .int v_o_ofAll, .int v_o_ofSome, .int v_o_sets, .int v_o_spot, .int v_o_out])), (q_o_now, gI Cs 221 v_o_now), (q_o_diary, gI Cs 3094 v_o_diary)] sz) (fun u : Int32 × Int32 × (Nat → Int32) × (Nat → Int32) => [(q_o, .inr (6, [.int u.1, .ref q_o_text, .int v_o_size, .ref q_o_now, .ref q_o_trial, .ref q_o_diary, .int u.2.1, .ref q_o_kept, .ref q_o_isKept, .ref q_o_years, .int v_o_least, .int v_o_origins, .int v_o_ofAll, .int v_o_ofSome, .int v_o_sets, .int v_o_spot, .int v_o_out])), (q_o_now, gI Cs 221 u.2.2.1), (q_o_diary, gI Cs 3094 u.2.2.2)])) (va_A [(q_o, .inr (6, [.int v_o_refusal, .ref q_o_text, .int v_o_size, .ref q_o_now, .ref q_o_trial, .ref q_o_diary, .int v_o_acts, .ref q_o_kept, .ref q_o_isKept, .ref q_o_years, .int v_o_least, .int v_o_origins, .int v_o_ofAll, .int v_o_ofSome, .int v_o_sets, .int v_o_spot, .int v_o_out])), (q_o_now, gI Cs 221 v_o_now), (q_o_diary, gI Cs 3094 v_o_diary)] sz)) 0 0 (va_A [(q_o, .inr (6, [.int v_o_refusal, .ref q_o_text, .int v_o_size, .ref q_o_now, .ref q_o_trial, .ref q_o_diary, .int v_o_acts, .ref q_o_kept, .ref q_o_isKept, .ref q_o_years, .int v_o_least, .int v_o_origins, .int v_o_ofAll, .int v_o_ofSome, .int v_o_sets, .int v_o_spot, .int v_o_out])), (q_o_now, gI Cs 221 v_o_now), (q_o_diary, gI Cs 3094 v_o_diary)] sz) := by
  refine Met.ofW (cc := cX6_forget) (maxL := 3) (ret := (some .int)) (by decide) rfl ?_
  intro p e s m args below meth c s₁ B hml hv
  obtain ⟨ha, hsz, hP, hK, hD0, hN⟩ := hv
  have hx := B.exec
  have hb := B.bytes
  have hr := B.returns
  have hts := atoms_spec (ws := wsX6_forget) B.pre
  have htb : ∀ w ∈ TB, w.before args s = true := fun w h9 => hts w (List.mem_cons_of_mem _ h9)
  have hown : s.vm.findClass RX6 = some m.cls := findClass_of_methodNamed B.named
  have hlocks := B.notSynchronized
  subst hsz
  have hD := hD0.self (sz := s.heap.size)
  generalize hAe : va_A [(q_o, .inr (6, [.int v_o_refusal, .ref q_o_text, .int v_o_size, .ref q_o_now, .ref q_o_trial, .ref q_o_diary, .int v_o_acts, .ref q_o_kept, .ref q_o_isKept, .ref q_o_years, .int v_o_least, .int v_o_origins, .int v_o_ofAll, .int v_o_ofSome, .int v_o_sets, .int v_o_spot, .int v_o_out])), (q_o_now, gI Cs 221 v_o_now), (q_o_diary, gI Cs 3094 v_o_diary)] s.heap.size = A at hD ⊢
  have hA : ∀ q : Nat, s.heap.size ≤ q → A q := fun q h9 => by rw [← hAe]; exact Or.inr h9
  obtain ⟨H, hH⟩ : ∃ z : Heap, z = s.heap := ⟨_, rfl⟩
  have hS : va_S A s.heap H [] := by rw [hH]; exact va_S.rf
  have hP : va_P D vwCl [(q_o, .inr (6, [.int v_o_refusal, .ref q_o_text, .int v_o_size, .ref q_o_now, .ref q_o_trial, .ref q_o_diary, .int v_o_acts, .ref q_o_kept, .ref q_o_isKept, .ref q_o_years, .int v_o_least, .int v_o_origins, .int v_o_ofAll, .int v_o_ofSome, .int v_o_sets, .int v_o_spot, .int v_o_out])), (q_o_now, gI Cs 221 v_o_now), (q_o_diary, gI Cs 3094 v_o_diary)] H := by rw [hH]; exact hP
  generalize hQ : MQ below _ args s _ _ _ = Q
  show W p l e ({ frames := 2, cells := 0, slots := 0, locals := 46 } : Room) s m args below meth c s.heap [] 0 0 Q (entryFrame m args 3)
  have hent : entryFrame m args 3 = F0 m 0 ((lg_sl ([.ref q_o, .int x1, .int x2]) ++ List.replicate (3 - (lg_sl ([.ref q_o, .int x1, .int x2])).length) Slot.unset).toArray) [] := by rw [ha]; exact lg_entry_eq m ([.ref q_o, .int x1, .int x2]) 3
  rw [hent]; clear hent
  rw [← hH]
  have hl := lv_entry ([.ref q_o, .int x1, .int x2]) (n := 3) (Nat.le_of_ble_eq_true rfl)
  generalize (lg_sl ([.ref q_o, .int x1, .int x2]) ++ List.replicate (3 - (lg_sl ([.ref q_o, .int x1, .int x2])).length) Slot.unset).toArray = ls at hl ⊢
  have hl : lv_has ls 3 [(0, .ref q_o), (1, .int x1), (2, .int x2)] := hl
  have B28 : ∀ (H : Heap) (locs : List Loc) (ls : Array Slot) (s1 : Int32), va_P D vwCl [(q_o, .inr (6, [.int v_o_refusal, .ref q_o_text, .int v_o_size, .ref q_o_now, .ref q_o_trial, .ref q_o_diary, .int v_o_acts, .ref q_o_kept, .ref q_o_isKept, .ref q_o_years, .int v_o_least, .int v_o_origins, .int v_o_ofAll, .int v_o_ofSome, .int v_o_sets, .int v_o_spot, .int v_o_out])), (q_o_now, gI Cs 221 v_o_now), (q_o_diary, gI Cs 3094 v_o_diary)] H → va_D A [(q_o, .inr (6, [.int v_o_refusal, .ref q_o_text, .int v_o_size, .ref q_o_now, .ref q_o_trial, .ref q_o_diary, .int v_o_acts, .ref q_o_kept, .ref q_o_isKept, .ref q_o_years, .int v_o_least, .int v_o_origins, .int v_o_ofAll, .int v_o_ofSome, .int v_o_sets, .int v_o_spot, .int v_o_out])), (q_o_now, gI Cs 221 v_o_now), (q_o_diary, gI Cs 3094 v_o_diary)] → va_S A s.heap H locs → lv_has ls 3 [(0, .ref q_o), (1, .int x1), (2, .int x2)] → P_X6_forget_b28 v_o_refusal v_o_acts v_o_now v_o_diary x1 x2 post s1 → W p l e ({ frames := 2, cells := 0, slots := 0, locals := 46 } : Room) s m args below meth c H locs 0 0 Q (F0 m 28 ls [.int s1, .ref q_o]) := by
    intro H locs ls s1 hP hD hS hl h
    unfold P_X6_forget_b28 at h
    refine gVM (wr := [(q_o_now, gI Cs 221 v_o_now), (q_o_diary, gI Cs 3094 v_o_diary)]) (As := [.int s1]) (rest := []) ⟨hx, hb, hml, hown, htb⟩ hK hP hD hS hA hN [0] [1, 2] rfl (by decide) rfl (by decide) (by decide) (c_X6_refused l D Cs q_o q_o_text q_o_now q_o_trial q_o_diary q_o_kept q_o_isKept q_o_years H.size v_o_refusal v_o_size v_o_acts v_o_least v_o_origins v_o_ofAll v_o_ofSome v_o_sets v_o_spot v_o_out s1 h) (cwV 1 htb (TB_v tb_128 tb_129 tb_130 tb_5 (TB_self tb_131)) rfl rfl rfl z_X6_refused ⟨Nat.le_of_ble_eq_true rfl, Nat.le_of_ble_eq_true rfl⟩) 0 rfl rfl rfl rfl hl.1 rfl (Nat.le_of_ble_eq_true rfl) ⟨Nat.le_of_ble_eq_true rfl, Nat.le_of_ble_eq_true rfl⟩ dX6_forget_28 (fun r_1 m_2 H locs h hP hD hS => ?_)
    have hP : va_P D vwCl [(q_o_now, gI Cs 221 v_o_now), (q_o_diary, gI Cs 3094 v_o_diary), (q_o, .inr (6, [.int m_2, .ref q_o_text, .int v_o_size, .ref q_o_now, .ref q_o_trial, .ref q_o_diary, .int v_o_acts, .ref q_o_kept, .ref q_o_isKept, .ref q_o_years, .int v_o_least, .int v_o_origins, .int v_o_ofAll, .int v_o_ofSome, .int v_o_sets, .int v_o_spot, .int v_o_out]))] H := hP
    have hD : va_D A [(q_o_now, gI Cs 221 v_o_now), (q_o_diary, gI Cs 3094 v_o_diary), (q_o, .inr (6, [.int m_2, .ref q_o_text, .int v_o_size, .ref q_o_now, .ref q_o_trial, .ref q_o_diary, .int v_o_acts, .ref q_o_kept, .ref q_o_isKept, .ref q_o_years, .int v_o_least, .int v_o_origins, .int v_o_ofAll, .int v_o_ofSome, .int v_o_sets, .int v_o_spot, .int v_o_out]))] := hD
    refine lv_if_eq (tgt := 36) hx hb dX6_forget_31 (by decide) (fun c_3 => ?_) (fun c_3 => ?_)
    · have h := h.1 c_3
      refine lv_aload_n hx hb dX6_forget_36 rfl (lv_at hl 0 rfl) ?_
      refine gVMv (wr := []) (As := []) (rest := []) ⟨hx, hb, hml, hown, htb⟩ hK hP hD hS hA hN [2, 0, 1] [] rfl (by decide) rfl (by decide) (by decide) (c_X6_remember l D Cs q_o q_o_text q_o_now q_o_trial q_o_diary q_o_kept q_o_isKept q_o_years H.size v_o_acts v_o_now v_o_diary m_2 v_o_size v_o_least v_o_origins v_o_ofAll v_o_ofSome v_o_sets v_o_spot v_o_out h) (cwV 0 htb (TB_v tb_466 tb_467 tb_468 tb_5 (TB_self tb_469)) rfl rfl rfl z_X6_remember ⟨Nat.le_of_ble_eq_true rfl, Nat.le_of_ble_eq_true rfl⟩) 2 rfl rfl rfl rfl hl.1 rfl (Nat.le_of_ble_eq_true rfl) ⟨Nat.le_of_ble_eq_true rfl, Nat.le_of_ble_eq_true rfl⟩ dX6_forget_37 (fun u H locs h hP hD hS => ?_)
      obtain ⟨m_5, m_6⟩ := u
      try dsimp only at h
      have hP : va_P D vwCl [(q_o, .inr (6, [.int m_2, .ref q_o_text, .int v_o_size, .ref q_o_now, .ref q_o_trial, .ref q_o_diary, .int m_5, .ref q_o_kept, .ref q_o_isKept, .ref q_o_years, .int v_o_least, .int v_o_origins, .int v_o_ofAll, .int v_o_ofSome, .int v_o_sets, .int v_o_spot, .int v_o_out])), (q_o_now, gI Cs 221 v_o_now), (q_o_diary, gI Cs 3094 m_6)] H := hP
      have hD : va_D A [(q_o, .inr (6, [.int m_2, .ref q_o_text, .int v_o_size, .ref q_o_now, .ref q_o_trial, .ref q_o_diary, .int m_5, .ref q_o_kept, .ref q_o_isKept, .ref q_o_years, .int v_o_least, .int v_o_origins, .int v_o_ofAll, .int v_o_ofSome, .int v_o_sets, .int v_o_spot, .int v_o_out])), (q_o_now, gI Cs 221 v_o_now), (q_o_diary, gI Cs 3094 m_6)] := hD
      refine lv_aload_n hx hb dX6_forget_40 rfl (lv_at hl 0 rfl) ?_
      refine va_get (D := D) (ci := 6) (v := .ref q_o_now) (C := RX6) (T := TX6) (N := 17) hx hb htb inT_X6 hown hK hP 0 rfl rfl 3 (by decide) (htb _ tb_90) (fun _ h9 => h9) rfl dX6_forget_41 ?_
      refine lv_iload_n hx hb dX6_forget_44 rfl (lv_at hl 1 rfl) ?_
      refine lv_iload_n hx hb dX6_forget_45 rfl (lv_at hl 2 rfl) ?_
      refine gSM (wr := [(q_o, .inr (6, [.int m_2, .ref q_o_text, .int v_o_size, .ref q_o_now, .ref q_o_trial, .ref q_o_diary, .int m_5, .ref q_o_kept, .ref q_o_isKept, .ref q_o_years, .int v_o_least, .int v_o_origins, .int v_o_ofAll, .int v_o_ofSome, .int v_o_sets, .int v_o_spot, .int v_o_out])), (q_o_diary, gI Cs 3094 m_6)]) (As := [.ref q_o_now, .int x1, .int x2]) (rest := []) ⟨hx, hb, hml, hown, htb⟩ hK hP hD hS hA hN [1] [0, 2] rfl (by decide) rfl (by decide) (by decide) (c_X6_forgetOn l D Cs q_o_now 221 H.size v_o_now x1 x2 h) (va_cwS 3 htb (TB_s tb_587 tb_588 tb_5 (TB_self tb_589)) rfl rfl rfl z_X6_forgetOn.2 ⟨Nat.le_of_ble_eq_true rfl, Nat.le_of_ble_eq_true rfl⟩) rfl hl.1 rfl (Nat.le_of_ble_eq_true rfl) ⟨Nat.le_of_ble_eq_true rfl, Nat.le_of_ble_eq_true rfl⟩ dX6_forget_46 (fun r_7 m_8 H locs h hP hD hS => ?_)
      have hP : va_P D vwCl [(q_o, .inr (6, [.int m_2, .ref q_o_text, .int v_o_size, .ref q_o_now, .ref q_o_trial, .ref q_o_diary, .int m_5, .ref q_o_kept, .ref q_o_isKept, .ref q_o_years, .int v_o_least, .int v_o_origins, .int v_o_ofAll, .int v_o_ofSome, .int v_o_sets, .int v_o_spot, .int v_o_out])), (q_o_diary, gI Cs 3094 m_6), (q_o_now, gI Cs 221 m_8)] H := hP
      have hD : va_D A [(q_o, .inr (6, [.int m_2, .ref q_o_text, .int v_o_size, .ref q_o_now, .ref q_o_trial, .ref q_o_diary, .int m_5, .ref q_o_kept, .ref q_o_isKept, .ref q_o_years, .int v_o_least, .int v_o_origins, .int v_o_ofAll, .int v_o_ofSome, .int v_o_sets, .int v_o_spot, .int v_o_out])), (q_o_diary, gI Cs 3094 m_6), (q_o_now, gI Cs 221 m_8)] := hD
      rw [← hQ]
      exact gRetI (u := (m_2, m_5, m_8, m_6)) hx hb hr rfl h (hP.sub [0, 2, 1] rfl) (hD.sub [0, 2, 1] (by decide) rfl) hS dX6_forget_49 hlocks
    · have h := h.2 c_3
      refine lv_iconst (v := (0 : Int32)) hx hb dX6_forget_34 (by decide) ?_
      rw [← hQ]
      exact gRetI (u := (m_2, v_o_acts, v_o_now, v_o_diary)) hx hb hr rfl h (hP.sub [2, 0, 1] rfl) (hD.sub [2, 0, 1] (by decide) rfl) hS dX6_forget_35 hlocks
  unfold P_X6_forget at h
  refine lv_aload_n hx hb dX6_forget_0 rfl (lv_at hl 0 rfl) ?_
  refine lv_aload_n hx hb dX6_forget_1 rfl (lv_at hl 0 rfl) ?_
  refine va_get (D := D) (ci := 6) (v := .ref q_o_now) (C := RX6) (T := TX6) (N := 17) hx hb htb inT_X6 hown hK hP 0 rfl rfl 3 (by decide) (htb _ tb_90) (fun _ h9 => h9) rfl dX6_forget_2 ?_
  refine lv_iload_n hx hb dX6_forget_5 rfl (lv_at hl 1 rfl) ?_
  refine gSR (As := [.ref q_o_now, .int x1]) (rest := [.ref q_o]) ⟨hx, hb, hml, hown, htb⟩ hK hP hN [1] rfl (c_X6_isTown l D Cs q_o_now 221 v_o_now x1 h) (va_cwS 2 htb (TB_s tb_197 tb_198 tb_5 (TB_self tb_199)) rfl rfl rfl z_X6_isTown.2 ⟨Nat.le_of_ble_eq_true rfl, Nat.le_of_ble_eq_true rfl⟩) rfl hl.1 rfl (Nat.le_of_ble_eq_true rfl) ⟨Nat.le_of_ble_eq_true rfl, Nat.le_of_ble_eq_true rfl⟩ dX6_forget_6 (fun r_9 h => ?_)
  refine lv_if_ne (tgt := 16) hx hb dX6_forget_9 (by decide) (fun c_10 => ?_) (fun c_10 => ?_)
  · have h := h.2 c_10
    refine lv_iload_n hx hb dX6_forget_16 rfl (lv_at hl 2 rfl) ?_
    refine gSR (As := [.int x2]) (rest := [.ref q_o]) ⟨hx, hb, hml, hown, htb⟩ hK hP hN [] rfl (c_X6_isTrait l D Cs x2 h) (va_cwS 1 htb (TB_s tb_436 tb_437 tb_5 (TB_self tb_438)) rfl rfl rfl z_X6_isTrait.2 ⟨Nat.le_of_ble_eq_true rfl, Nat.le_of_ble_eq_true rfl⟩) rfl hl.1 rfl (Nat.le_of_ble_eq_true rfl) ⟨Nat.le_of_ble_eq_true rfl, Nat.le_of_ble_eq_true rfl⟩ dX6_forget_17 (fun r_11 h => ?_)
    refine lv_if_eq (tgt := 27) hx hb dX6_forget_20 (by decide) (fun c_12 => ?_) (fun c_12 => ?_)
    · have h := h.1 c_12
      refine lv_iconst (v := (2 : Int32)) hx hb dX6_forget_27 (by decide) ?_
      exact B28 _ _ _ (2 : Int32) hP hD hS (lv_sub hl [0, 1, 2] rfl) h
    · have h := h.2 c_12
      refine lv_iconst (v := (0 : Int32)) hx hb dX6_forget_23 (by decide) ?_
      refine lv_goto (tgt := 28) hx hb dX6_forget_24 (by decide) ?_
      exact B28 _ _ _ (0 : Int32) hP hD hS (lv_sub hl [0, 1, 2] rfl) h
  · have h := h.1 c_10
    refine lv_iconst (v := (1 : Int32)) hx hb dX6_forget_12 (by decide) ?_
    refine lv_goto (tgt := 28) hx hb dX6_forget_13 (by decide) ?_
    exact B28 _ _ _ (1 : Int32) hP hD hS (lv_sub hl [0, 1, 2] rfl) h
set_option maxHeartbeats 4000000 in
set_option maxRecDepth 100000 in
theorem c_X6_undo (l : Launch) (D : va_G) (Cs : Nat → ClassId) (q_o : Nat) (q_o_text : Nat) (q_o_now : Nat) (q_o_trial : Nat) (q_o_diary : Nat) (q_o_kept : Nat) (q_o_isKept : Nat) (q_o_years : Nat) (sz : Nat) (v_o_refusal : Int32) (v_o_acts : Int32) (v_o_now : (Nat → Int32)) (v_o_diary : (Nat → Int32)) (v_o_size : Int32) (v_o_least : Int32) (v_o_origins : Int32) (v_o_ofAll : Int32) (v_o_ofSome : Int32) (v_o_sets : Int32) (v_o_spot : Int32) (v_o_out : Int32) {post : Int32 → Int32 → Int32 → (Nat → Int32) → Prop} (h : P_X6_undo v_o_refusal v_o_acts v_o_now v_o_diary post) : Met l yX6_undo wsX6_undo ({ frames := 1, cells := 0, slots := 0, locals := 24 } : Room) (va_Pc [.ref q_o] (gM D Cs [(q_o, .inr (6, [.int v_o_refusal, .ref q_o_text, .int v_o_size, .ref q_o_now, .ref q_o_trial, .ref q_o_diary, .int v_o_acts, .ref q_o_kept, .ref q_o_isKept, .ref q_o_years, .int v_o_least, .int v_o_origins, .int v_o_ofAll, .int v_o_ofSome, .int v_o_sets, .int v_o_spot, .int v_o_out])), (q_o_now, gI Cs 221 v_o_now), (q_o_diary, gI Cs 3094 v_o_diary)] sz)) (va_Qi (fun (r : Int32) (u : Int32 × Int32 × (Nat → Int32)) => post r u.1 u.2.1 u.2.2) (gB D (va_A [(q_o, .inr (6, [.int v_o_refusal, .ref q_o_text, .int v_o_size, .ref q_o_now, .ref q_o_trial, .ref q_o_diary, .int v_o_acts, .ref q_o_kept, .ref q_o_isKept, .ref q_o_years, .int v_o_least, .int v_o_origins, .int v_o_ofAll, .int v_o_ofSome, .int v_o_sets, .int v_o_spot, .int v_o_out])), (q_o_now, gI Cs 221 v_o_now), (q_o_diary, gI Cs 3094 v_o_diary)] sz) (fun u : Int32 × Int32 × (Nat → Int32) => [(q_o, .inr (6, [.int u.1, .ref q_o_text, .int v_o_size, .ref q_o_now, .ref q_o_trial, .ref q_o_diary, .int u.2.1, .ref q_o_kept, .ref q_o_isKept, .ref q_o_years, .int v_o_least, .int v_o_origins, .int v_o_ofAll, .int v_o_ofSome, .int v_o_sets, .int v_o_spot, .int v_o_out])), (q_o_now, gI Cs 221 u.2.2), (q_o_diary, gI Cs 3094 v_o_diary)])) (va_A [(q_o, .inr (6, [.int v_o_refusal, .ref q_o_text, .int v_o_size, .ref q_o_now, .ref q_o_trial, .ref q_o_diary, .int v_o_acts, .ref q_o_kept, .ref q_o_isKept, .ref q_o_years, .int v_o_least, .int v_o_origins, .int v_o_ofAll, .int v_o_ofSome, .int v_o_sets, .int v_o_spot, .int v_o_out])), (q_o_now, gI Cs 221 v_o_now), (q_o_diary, gI Cs 3094 v_o_diary)] sz)) 0 0 (va_A [(q_o, .inr (6, [.int v_o_refusal, .ref q_o_text, .int v_o_size, .ref q_o_now, .ref q_o_trial, .ref q_o_diary, .int v_o_acts, .ref q_o_kept, .ref q_o_isKept, .ref q_o_years, .int v_o_least, .int v_o_origins, .int v_o_ofAll, .int v_o_ofSome, .int v_o_sets, .int v_o_spot, .int v_o_out])), (q_o_now, gI Cs 221 v_o_now), (q_o_diary, gI Cs 3094 v_o_diary)] sz) := by
  refine Met.ofW (cc := cX6_undo) (maxL := 1) (ret := (some .int)) (by decide) rfl ?_
  intro p e s m args below meth c s₁ B hml hv
  obtain ⟨ha, hsz, hP, hK, hD0, hN⟩ := hv
  have hx := B.exec
  have hb := B.bytes
  have hr := B.returns
  have hts := atoms_spec (ws := wsX6_undo) B.pre
  have htb : ∀ w ∈ TB, w.before args s = true := fun w h9 => hts w (List.mem_cons_of_mem _ h9)
  have hown : s.vm.findClass RX6 = some m.cls := findClass_of_methodNamed B.named
  have hlocks := B.notSynchronized
  subst hsz
  have hD := hD0.self (sz := s.heap.size)
  generalize hAe : va_A [(q_o, .inr (6, [.int v_o_refusal, .ref q_o_text, .int v_o_size, .ref q_o_now, .ref q_o_trial, .ref q_o_diary, .int v_o_acts, .ref q_o_kept, .ref q_o_isKept, .ref q_o_years, .int v_o_least, .int v_o_origins, .int v_o_ofAll, .int v_o_ofSome, .int v_o_sets, .int v_o_spot, .int v_o_out])), (q_o_now, gI Cs 221 v_o_now), (q_o_diary, gI Cs 3094 v_o_diary)] s.heap.size = A at hD ⊢
  have hA : ∀ q : Nat, s.heap.size ≤ q → A q := fun q h9 => by rw [← hAe]; exact Or.inr h9
  obtain ⟨H, hH⟩ : ∃ z : Heap, z = s.heap := ⟨_, rfl⟩
  have hS : va_S A s.heap H [] := by rw [hH]; exact va_S.rf
  have hP : va_P D vwCl [(q_o, .inr (6, [.int v_o_refusal, .ref q_o_text, .int v_o_size, .ref q_o_now, .ref q_o_trial, .ref q_o_diary, .int v_o_acts, .ref q_o_kept, .ref q_o_isKept, .ref q_o_years, .int v_o_least, .int v_o_origins, .int v_o_ofAll, .int v_o_ofSome, .int v_o_sets, .int v_o_spot, .int v_o_out])), (q_o_now, gI Cs 221 v_o_now), (q_o_diary, gI Cs 3094 v_o_diary)] H := by rw [hH]; exact hP
  generalize hQ : MQ below _ args s _ _ _ = Q
  show W p l e ({ frames := 1, cells := 0, slots := 0, locals := 24 } : Room) s m args below meth c s.heap [] 0 0 Q (entryFrame m args 1)
  have hent : entryFrame m args 1 = F0 m 0 ((lg_sl ([.ref q_o]) ++ List.replicate (1 - (lg_sl ([.ref q_o])).length) Slot.unset).toArray) [] := by rw [ha]; exact lg_entry_eq m ([.ref q_o]) 1
  rw [hent]; clear hent
  rw [← hH]
  have hl := lv_entry ([.ref q_o]) (n := 1) (Nat.le_of_ble_eq_true rfl)
  generalize (lg_sl ([.ref q_o]) ++ List.replicate (1 - (lg_sl ([.ref q_o])).length) Slot.unset).toArray = ls at hl ⊢
  have hl : lv_has ls 1 [(0, .ref q_o)] := hl
  have B13 : ∀ (H : Heap) (locs : List Loc) (ls : Array Slot) (s1 : Int32), va_P D vwCl [(q_o, .inr (6, [.int v_o_refusal, .ref q_o_text, .int v_o_size, .ref q_o_now, .ref q_o_trial, .ref q_o_diary, .int v_o_acts, .ref q_o_kept, .ref q_o_isKept, .ref q_o_years, .int v_o_least, .int v_o_origins, .int v_o_ofAll, .int v_o_ofSome, .int v_o_sets, .int v_o_spot, .int v_o_out])), (q_o_now, gI Cs 221 v_o_now), (q_o_diary, gI Cs 3094 v_o_diary)] H → va_D A [(q_o, .inr (6, [.int v_o_refusal, .ref q_o_text, .int v_o_size, .ref q_o_now, .ref q_o_trial, .ref q_o_diary, .int v_o_acts, .ref q_o_kept, .ref q_o_isKept, .ref q_o_years, .int v_o_least, .int v_o_origins, .int v_o_ofAll, .int v_o_ofSome, .int v_o_sets, .int v_o_spot, .int v_o_out])), (q_o_now, gI Cs 221 v_o_now), (q_o_diary, gI Cs 3094 v_o_diary)] → va_S A s.heap H locs → lv_has ls 1 [(0, .ref q_o)] → P_X6_undo_b13 v_o_refusal v_o_acts v_o_now v_o_diary post s1 → W p l e ({ frames := 1, cells := 0, slots := 0, locals := 24 } : Room) s m args below meth c H locs 0 0 Q (F0 m 13 ls [.int s1, .ref q_o]) := by
    intro H locs ls s1 hP hD hS hl h
    unfold P_X6_undo_b13 at h
    refine gVM (wr := [(q_o_now, gI Cs 221 v_o_now), (q_o_diary, gI Cs 3094 v_o_diary)]) (As := [.int s1]) (rest := []) ⟨hx, hb, hml, hown, htb⟩ hK hP hD hS hA hN [0] [1, 2] rfl (by decide) rfl (by decide) (by decide) (c_X6_refused l D Cs q_o q_o_text q_o_now q_o_trial q_o_diary q_o_kept q_o_isKept q_o_years H.size v_o_refusal v_o_size v_o_acts v_o_least v_o_origins v_o_ofAll v_o_ofSome v_o_sets v_o_spot v_o_out s1 h) (cwV 1 htb (TB_v tb_128 tb_129 tb_130 tb_5 (TB_self tb_131)) rfl rfl rfl z_X6_refused ⟨Nat.le_of_ble_eq_true rfl, Nat.le_of_ble_eq_true rfl⟩) 0 rfl rfl rfl rfl hl.1 rfl (Nat.le_of_ble_eq_true rfl) ⟨Nat.le_of_ble_eq_true rfl, Nat.le_of_ble_eq_true rfl⟩ dX6_undo_13 (fun r_1 m_2 H locs h hP hD hS => ?_)
    have hP : va_P D vwCl [(q_o_now, gI Cs 221 v_o_now), (q_o_diary, gI Cs 3094 v_o_diary), (q_o, .inr (6, [.int m_2, .ref q_o_text, .int v_o_size, .ref q_o_now, .ref q_o_trial, .ref q_o_diary, .int v_o_acts, .ref q_o_kept, .ref q_o_isKept, .ref q_o_years, .int v_o_least, .int v_o_origins, .int v_o_ofAll, .int v_o_ofSome, .int v_o_sets, .int v_o_spot, .int v_o_out]))] H := hP
    have hD : va_D A [(q_o_now, gI Cs 221 v_o_now), (q_o_diary, gI Cs 3094 v_o_diary), (q_o, .inr (6, [.int m_2, .ref q_o_text, .int v_o_size, .ref q_o_now, .ref q_o_trial, .ref q_o_diary, .int v_o_acts, .ref q_o_kept, .ref q_o_isKept, .ref q_o_years, .int v_o_least, .int v_o_origins, .int v_o_ofAll, .int v_o_ofSome, .int v_o_sets, .int v_o_spot, .int v_o_out]))] := hD
    refine lv_if_eq (tgt := 21) hx hb dX6_undo_16 (by decide) (fun c_3 => ?_) (fun c_3 => ?_)
    · have h := h.1 c_3
      refine lv_aload_n hx hb dX6_undo_21 rfl (lv_at hl 0 rfl) ?_
      refine lv_dup hx hb dX6_undo_22 rfl ?_
      refine va_get (D := D) (ci := 6) (v := .int v_o_acts) (C := RX6) (T := TX6) (N := 17) hx hb htb inT_X6 hown hK hP 2 rfl rfl 6 (by decide) (htb _ tb_96) (fun _ h9 => h9) rfl dX6_undo_23 ?_
      refine lv_iconst (v := (1 : Int32)) hx hb dX6_undo_26 (by decide) ?_
      refine lv_isub hx hb dX6_undo_27 ?_
      refine lv_topi (fun f_acts_4 ef_acts_4 => ?_)
      have h := h _ ef_acts_4
      refine va_put (D := D) (ci := 6) (v := .int f_acts_4) (ty := .int) (C := RX6) (T := TX6) (N := 17) hx hb htb inT_X6 tyX6 tyX6_ok nmX6 hown hK hP hD hS 2 rfl rfl 6 (by decide) (htb _ tb_96) (fun _ h9 => h9) rfl (tyX6_ok 6 (by decide)) rfl rfl (Nat.le_of_ble_eq_true rfl) dX6_undo_28 (fun H locs hP hD hS => ?_)
      have hP : va_P D vwCl [(q_o_now, gI Cs 221 v_o_now), (q_o_diary, gI Cs 3094 v_o_diary), (q_o, .inr (6, [.int m_2, .ref q_o_text, .int v_o_size, .ref q_o_now, .ref q_o_trial, .ref q_o_diary, .int f_acts_4, .ref q_o_kept, .ref q_o_isKept, .ref q_o_years, .int v_o_least, .int v_o_origins, .int v_o_ofAll, .int v_o_ofSome, .int v_o_sets, .int v_o_spot, .int v_o_out]))] H := hP
      have hD : va_D A [(q_o_now, gI Cs 221 v_o_now), (q_o_diary, gI Cs 3094 v_o_diary), (q_o, .inr (6, [.int m_2, .ref q_o_text, .int v_o_size, .ref q_o_now, .ref q_o_trial, .ref q_o_diary, .int f_acts_4, .ref q_o_kept, .ref q_o_isKept, .ref q_o_years, .int v_o_least, .int v_o_origins, .int v_o_ofAll, .int v_o_ofSome, .int v_o_sets, .int v_o_spot, .int v_o_out]))] := hD
      refine lv_aload_n hx hb dX6_undo_31 rfl (lv_at hl 0 rfl) ?_
      refine va_get (D := D) (ci := 6) (v := .ref q_o_diary) (C := RX6) (T := TX6) (N := 17) hx hb htb inT_X6 hown hK hP 2 rfl rfl 5 (by decide) (htb _ tb_92) (fun _ h9 => h9) rfl dX6_undo_32 ?_
      refine lv_sipush (v := (221 : Int32)) hx hb dX6_undo_35 (by decide) ?_
      refine lv_aload_n hx hb dX6_undo_38 rfl (lv_at hl 0 rfl) ?_
      refine va_get (D := D) (ci := 6) (v := .int f_acts_4) (C := RX6) (T := TX6) (N := 17) hx hb htb inT_X6 hown hK hP 2 rfl rfl 6 (by decide) (htb _ tb_96) (fun _ h9 => h9) rfl dX6_undo_39 ?_
      refine lv_imul hx hb dX6_undo_42 ?_
      refine lv_aload_n hx hb dX6_undo_43 rfl (lv_at hl 0 rfl) ?_
      refine va_get (D := D) (ci := 6) (v := .ref q_o_now) (C := RX6) (T := TX6) (N := 17) hx hb htb inT_X6 hown hK hP 2 rfl rfl 3 (by decide) (htb _ tb_90) (fun _ h9 => h9) rfl dX6_undo_44 ?_
      refine lv_iconst (v := (0 : Int32)) hx hb dX6_undo_47 (by decide) ?_
      refine gSMv (wr := [(q_o, .inr (6, [.int m_2, .ref q_o_text, .int v_o_size, .ref q_o_now, .ref q_o_trial, .ref q_o_diary, .int f_acts_4, .ref q_o_kept, .ref q_o_isKept, .ref q_o_years, .int v_o_least, .int v_o_origins, .int v_o_ofAll, .int v_o_ofSome, .int v_o_sets, .int v_o_spot, .int v_o_out]))]) (As := [.ref q_o_diary, .int ((221 : Int32) * f_acts_4), .ref q_o_now, .int (0 : Int32)]) (rest := []) ⟨hx, hb, hml, hown, htb⟩ hK hP hD hS hA hN [1, 0] [2] rfl (by decide) rfl (by decide) (by decide) (c_X6_copyState l D Cs q_o_diary q_o_now 3094 221 H.size v_o_diary v_o_now ((221 : Int32) * f_acts_4) (0 : Int32) h) (va_cwS 4 htb (TB_s tb_170 tb_171 tb_5 (TB_self tb_172)) rfl rfl rfl z_X6_copyState.2 ⟨Nat.le_of_ble_eq_true rfl, Nat.le_of_ble_eq_true rfl⟩) rfl hl.1 rfl (Nat.le_of_ble_eq_true rfl) ⟨Nat.le_of_ble_eq_true rfl, Nat.le_of_ble_eq_true rfl⟩ dX6_undo_48 (fun m_6 H locs h hP hD hS => ?_)
      have hP : va_P D vwCl [(q_o, .inr (6, [.int m_2, .ref q_o_text, .int v_o_size, .ref q_o_now, .ref q_o_trial, .ref q_o_diary, .int f_acts_4, .ref q_o_kept, .ref q_o_isKept, .ref q_o_years, .int v_o_least, .int v_o_origins, .int v_o_ofAll, .int v_o_ofSome, .int v_o_sets, .int v_o_spot, .int v_o_out])), (q_o_diary, gI Cs 3094 v_o_diary), (q_o_now, gI Cs 221 m_6)] H := hP
      have hD : va_D A [(q_o, .inr (6, [.int m_2, .ref q_o_text, .int v_o_size, .ref q_o_now, .ref q_o_trial, .ref q_o_diary, .int f_acts_4, .ref q_o_kept, .ref q_o_isKept, .ref q_o_years, .int v_o_least, .int v_o_origins, .int v_o_ofAll, .int v_o_ofSome, .int v_o_sets, .int v_o_spot, .int v_o_out])), (q_o_diary, gI Cs 3094 v_o_diary), (q_o_now, gI Cs 221 m_6)] := hD
      refine lv_aload_n hx hb dX6_undo_51 rfl (lv_at hl 0 rfl) ?_
      refine va_get (D := D) (ci := 6) (v := .int f_acts_4) (C := RX6) (T := TX6) (N := 17) hx hb htb inT_X6 hown hK hP 0 rfl rfl 6 (by decide) (htb _ tb_96) (fun _ h9 => h9) rfl dX6_undo_52 ?_
      rw [← hQ]
      exact gRetI (u := (m_2, f_acts_4, m_6)) hx hb hr rfl h (hP.sub [0, 2, 1] rfl) (hD.sub [0, 2, 1] (by decide) rfl) hS dX6_undo_55 hlocks
    · have h := h.2 c_3
      refine lv_iconst (v := (0 : Int32)) hx hb dX6_undo_19 (by decide) ?_
      rw [← hQ]
      exact gRetI (u := (m_2, v_o_acts, v_o_now)) hx hb hr rfl h (hP.sub [2, 0, 1] rfl) (hD.sub [2, 0, 1] (by decide) rfl) hS dX6_undo_20 hlocks
  unfold P_X6_undo at h
  refine lv_aload_n hx hb dX6_undo_0 rfl (lv_at hl 0 rfl) ?_
  refine lv_aload_n hx hb dX6_undo_1 rfl (lv_at hl 0 rfl) ?_
  refine va_get (D := D) (ci := 6) (v := .int v_o_acts) (C := RX6) (T := TX6) (N := 17) hx hb htb inT_X6 hown hK hP 0 rfl rfl 6 (by decide) (htb _ tb_96) (fun _ h9 => h9) rfl dX6_undo_2 ?_
  refine lv_if_ne (tgt := 12) hx hb dX6_undo_5 (by decide) (fun c_7 => ?_) (fun c_7 => ?_)
  · have h := h.2 c_7
    refine lv_iconst (v := (0 : Int32)) hx hb dX6_undo_12 (by decide) ?_
    exact B13 _ _ _ (0 : Int32) hP hD hS (lv_sub hl [0] rfl) h
  · have h := h.1 c_7
    refine lv_iconst (v := (1 : Int32)) hx hb dX6_undo_8 (by decide) ?_
    refine lv_goto (tgt := 13) hx hb dX6_undo_9 (by decide) ?_
    exact B13 _ _ _ (1 : Int32) hP hD hS (lv_sub hl [0] rfl) h
set_option maxHeartbeats 4000000 in
set_option maxRecDepth 100000 in
theorem c_X6_inventions (l : Launch) (D : va_G) (Cs : Nat → ClassId) (q_o : Nat) (q_o_text : Nat) (q_o_now : Nat) (q_o_trial : Nat) (q_o_diary : Nat) (q_o_kept : Nat) (q_o_isKept : Nat) (q_o_years : Nat) (sz : Nat) (v_o_refusal : Int32) (b_o : BM) (v_o_now : (Nat → Int32)) (v_o_size : Int32) (v_o_acts : Int32) (v_o_spot : Int32) (v_o_out : Int32) (x1 : Int32) {post : Int32 → Int32 → BM → Prop} (h : P_X6_inventions v_o_refusal b_o v_o_now x1 post) : Met l yX6_inventions wsX6_inventions ({ frames := 4, cells := 0, slots := 0, locals := 95 } : Room) (va_Pc [.ref q_o, .int x1] (gM D Cs [(q_o, .inr (6, [.int v_o_refusal, .ref q_o_text, .int v_o_size, .ref q_o_now, .ref q_o_trial, .ref q_o_diary, .int v_o_acts, .ref q_o_kept, .ref q_o_isKept, .ref q_o_years, .int b_o.1, .int b_o.2.1, .int b_o.2.2.1, .int b_o.2.2.2.1, .int b_o.2.2.2.2.1, .int v_o_spot, .int v_o_out])), (q_o_now, gI Cs 221 v_o_now), (q_o_years, gI Cs 10 b_o.2.2.2.2.2)] sz)) (va_Qi (fun (r : Int32) (u : Int32 × BM) => post r u.1 u.2) (gB D (va_A [(q_o, .inr (6, [.int v_o_refusal, .ref q_o_text, .int v_o_size, .ref q_o_now, .ref q_o_trial, .ref q_o_diary, .int v_o_acts, .ref q_o_kept, .ref q_o_isKept, .ref q_o_years, .int b_o.1, .int b_o.2.1, .int b_o.2.2.1, .int b_o.2.2.2.1, .int b_o.2.2.2.2.1, .int v_o_spot, .int v_o_out])), (q_o_now, gI Cs 221 v_o_now), (q_o_years, gI Cs 10 b_o.2.2.2.2.2)] sz) (fun u : Int32 × BM => [(q_o, .inr (6, [.int u.1, .ref q_o_text, .int v_o_size, .ref q_o_now, .ref q_o_trial, .ref q_o_diary, .int v_o_acts, .ref q_o_kept, .ref q_o_isKept, .ref q_o_years, .int u.2.1, .int u.2.2.1, .int u.2.2.2.1, .int u.2.2.2.2.1, .int u.2.2.2.2.2.1, .int v_o_spot, .int v_o_out])), (q_o_now, gI Cs 221 v_o_now), (q_o_years, gI Cs 10 u.2.2.2.2.2.2)])) (va_A [(q_o, .inr (6, [.int v_o_refusal, .ref q_o_text, .int v_o_size, .ref q_o_now, .ref q_o_trial, .ref q_o_diary, .int v_o_acts, .ref q_o_kept, .ref q_o_isKept, .ref q_o_years, .int b_o.1, .int b_o.2.1, .int b_o.2.2.1, .int b_o.2.2.2.1, .int b_o.2.2.2.2.1, .int v_o_spot, .int v_o_out])), (q_o_now, gI Cs 221 v_o_now), (q_o_years, gI Cs 10 b_o.2.2.2.2.2)] sz)) 0 0 (va_A [(q_o, .inr (6, [.int v_o_refusal, .ref q_o_text, .int v_o_size, .ref q_o_now, .ref q_o_trial, .ref q_o_diary, .int v_o_acts, .ref q_o_kept, .ref q_o_isKept, .ref q_o_years, .int b_o.1, .int b_o.2.1, .int b_o.2.2.1, .int b_o.2.2.2.1, .int b_o.2.2.2.2.1, .int v_o_spot, .int v_o_out])), (q_o_now, gI Cs 221 v_o_now), (q_o_years, gI Cs 10 b_o.2.2.2.2.2)] sz) := by
  refine Met.ofW (cc := cX6_inventions) (maxL := 2) (ret := (some .int)) (by decide) rfl ?_
  intro p e s m args below meth c s₁ B hml hv
  obtain ⟨ha, hsz, hP, hK, hD0, hN⟩ := hv
  have hx := B.exec
  have hb := B.bytes
  have hr := B.returns
  have hts := atoms_spec (ws := wsX6_inventions) B.pre
  have htb : ∀ w ∈ TB, w.before args s = true := fun w h9 => hts w (List.mem_cons_of_mem _ h9)
  have hown : s.vm.findClass RX6 = some m.cls := findClass_of_methodNamed B.named
  have hlocks := B.notSynchronized
  subst hsz
  have hD := hD0.self (sz := s.heap.size)
  generalize hAe : va_A [(q_o, .inr (6, [.int v_o_refusal, .ref q_o_text, .int v_o_size, .ref q_o_now, .ref q_o_trial, .ref q_o_diary, .int v_o_acts, .ref q_o_kept, .ref q_o_isKept, .ref q_o_years, .int b_o.1, .int b_o.2.1, .int b_o.2.2.1, .int b_o.2.2.2.1, .int b_o.2.2.2.2.1, .int v_o_spot, .int v_o_out])), (q_o_now, gI Cs 221 v_o_now), (q_o_years, gI Cs 10 b_o.2.2.2.2.2)] s.heap.size = A at hD ⊢
  have hA : ∀ q : Nat, s.heap.size ≤ q → A q := fun q h9 => by rw [← hAe]; exact Or.inr h9
  obtain ⟨H, hH⟩ : ∃ z : Heap, z = s.heap := ⟨_, rfl⟩
  have hS : va_S A s.heap H [] := by rw [hH]; exact va_S.rf
  have hP : va_P D vwCl [(q_o, .inr (6, [.int v_o_refusal, .ref q_o_text, .int v_o_size, .ref q_o_now, .ref q_o_trial, .ref q_o_diary, .int v_o_acts, .ref q_o_kept, .ref q_o_isKept, .ref q_o_years, .int b_o.1, .int b_o.2.1, .int b_o.2.2.1, .int b_o.2.2.2.1, .int b_o.2.2.2.2.1, .int v_o_spot, .int v_o_out])), (q_o_now, gI Cs 221 v_o_now), (q_o_years, gI Cs 10 b_o.2.2.2.2.2)] H := by rw [hH]; exact hP
  generalize hQ : MQ below _ args s _ _ _ = Q
  show W p l e ({ frames := 4, cells := 0, slots := 0, locals := 95 } : Room) s m args below meth c s.heap [] 0 0 Q (entryFrame m args 2)
  have hent : entryFrame m args 2 = F0 m 0 ((lg_sl ([.ref q_o, .int x1]) ++ List.replicate (2 - (lg_sl ([.ref q_o, .int x1])).length) Slot.unset).toArray) [] := by rw [ha]; exact lg_entry_eq m ([.ref q_o, .int x1]) 2
  rw [hent]; clear hent
  rw [← hH]
  have hl := lv_entry ([.ref q_o, .int x1]) (n := 2) (Nat.le_of_ble_eq_true rfl)
  generalize (lg_sl ([.ref q_o, .int x1]) ++ List.replicate (2 - (lg_sl ([.ref q_o, .int x1])).length) Slot.unset).toArray = ls at hl ⊢
  have hl : lv_has ls 2 [(0, .ref q_o), (1, .int x1)] := hl
  have B13 : ∀ (H : Heap) (locs : List Loc) (ls : Array Slot) (s1 : Int32), va_P D vwCl [(q_o, .inr (6, [.int v_o_refusal, .ref q_o_text, .int v_o_size, .ref q_o_now, .ref q_o_trial, .ref q_o_diary, .int v_o_acts, .ref q_o_kept, .ref q_o_isKept, .ref q_o_years, .int b_o.1, .int b_o.2.1, .int b_o.2.2.1, .int b_o.2.2.2.1, .int b_o.2.2.2.2.1, .int v_o_spot, .int v_o_out])), (q_o_now, gI Cs 221 v_o_now), (q_o_years, gI Cs 10 b_o.2.2.2.2.2)] H → va_D A [(q_o, .inr (6, [.int v_o_refusal, .ref q_o_text, .int v_o_size, .ref q_o_now, .ref q_o_trial, .ref q_o_diary, .int v_o_acts, .ref q_o_kept, .ref q_o_isKept, .ref q_o_years, .int b_o.1, .int b_o.2.1, .int b_o.2.2.1, .int b_o.2.2.2.1, .int b_o.2.2.2.2.1, .int v_o_spot, .int v_o_out])), (q_o_now, gI Cs 221 v_o_now), (q_o_years, gI Cs 10 b_o.2.2.2.2.2)] → va_S A s.heap H locs → lv_has ls 2 [(0, .ref q_o), (1, .int x1)] → P_X6_inventions_b13 v_o_refusal b_o v_o_now x1 post s1 → W p l e ({ frames := 4, cells := 0, slots := 0, locals := 95 } : Room) s m args below meth c H locs 0 0 Q (F0 m 13 ls [.int s1, .ref q_o]) := by
    intro H locs ls s1 hP hD hS hl h
    unfold P_X6_inventions_b13 at h
    refine gVM (wr := [(q_o_now, gI Cs 221 v_o_now), (q_o_years, gI Cs 10 b_o.2.2.2.2.2)]) (As := [.int s1]) (rest := []) ⟨hx, hb, hml, hown, htb⟩ hK hP hD hS hA hN [0] [1, 2] rfl (by decide) rfl (by decide) (by decide) (c_X6_refused l D Cs q_o q_o_text q_o_now q_o_trial q_o_diary q_o_kept q_o_isKept q_o_years H.size v_o_refusal v_o_size v_o_acts b_o.1 b_o.2.1 b_o.2.2.1 b_o.2.2.2.1 b_o.2.2.2.2.1 v_o_spot v_o_out s1 h) (cwV 1 htb (TB_v tb_128 tb_129 tb_130 tb_5 (TB_self tb_131)) rfl rfl rfl z_X6_refused ⟨Nat.le_of_ble_eq_true rfl, Nat.le_of_ble_eq_true rfl⟩) 0 rfl rfl rfl rfl hl.1 rfl (Nat.le_of_ble_eq_true rfl) ⟨Nat.le_of_ble_eq_true rfl, Nat.le_of_ble_eq_true rfl⟩ dX6_inventions_13 (fun r_1 m_2 H locs h hP hD hS => ?_)
    have hP : va_P D vwCl [(q_o_now, gI Cs 221 v_o_now), (q_o_years, gI Cs 10 b_o.2.2.2.2.2), (q_o, .inr (6, [.int m_2, .ref q_o_text, .int v_o_size, .ref q_o_now, .ref q_o_trial, .ref q_o_diary, .int v_o_acts, .ref q_o_kept, .ref q_o_isKept, .ref q_o_years, .int b_o.1, .int b_o.2.1, .int b_o.2.2.1, .int b_o.2.2.2.1, .int b_o.2.2.2.2.1, .int v_o_spot, .int v_o_out]))] H := hP
    have hD : va_D A [(q_o_now, gI Cs 221 v_o_now), (q_o_years, gI Cs 10 b_o.2.2.2.2.2), (q_o, .inr (6, [.int m_2, .ref q_o_text, .int v_o_size, .ref q_o_now, .ref q_o_trial, .ref q_o_diary, .int v_o_acts, .ref q_o_kept, .ref q_o_isKept, .ref q_o_years, .int b_o.1, .int b_o.2.1, .int b_o.2.2.1, .int b_o.2.2.2.1, .int b_o.2.2.2.2.1, .int v_o_spot, .int v_o_out]))] := hD
    refine lv_if_eq (tgt := 21) hx hb dX6_inventions_16 (by decide) (fun c_3 => ?_) (fun c_3 => ?_)
    · have h := h.1 c_3
      refine lv_aload_n hx hb dX6_inventions_21 rfl (lv_at hl 0 rfl) ?_
      refine lv_aload_n hx hb dX6_inventions_22 rfl (lv_at hl 0 rfl) ?_
      refine va_get (D := D) (ci := 6) (v := .ref q_o_now) (C := RX6) (T := TX6) (N := 17) hx hb htb inT_X6 hown hK hP 2 rfl rfl 3 (by decide) (htb _ tb_90) (fun _ h9 => h9) rfl dX6_inventions_23 ?_
      refine lv_iload_n hx hb dX6_inventions_26 rfl (lv_at hl 1 rfl) ?_
      refine gVMv (wr := []) (As := [.ref q_o_now, .int x1]) (rest := []) ⟨hx, hb, hml, hown, htb⟩ hK hP hD hS hA hN [2, 1, 0] [] rfl (by decide) rfl (by decide) (by decide) (c_X6_findLeast l D Cs q_o q_o_now q_o_text q_o_now q_o_trial q_o_diary q_o_kept q_o_isKept q_o_years 221 H.size b_o v_o_now m_2 v_o_size v_o_acts v_o_spot v_o_out x1 h) (cwV 2 htb (TB_v tb_342 tb_343 tb_344 tb_5 (TB_self tb_345)) rfl rfl rfl z_X6_findLeast ⟨Nat.le_of_ble_eq_true rfl, Nat.le_of_ble_eq_true rfl⟩) 2 rfl rfl rfl rfl hl.1 rfl (Nat.le_of_ble_eq_true rfl) ⟨Nat.le_of_ble_eq_true rfl, Nat.le_of_ble_eq_true rfl⟩ dX6_inventions_27 (fun m_5 H locs h hP hD hS => ?_)
      have hP : va_P D vwCl [(q_o, .inr (6, [.int m_2, .ref q_o_text, .int v_o_size, .ref q_o_now, .ref q_o_trial, .ref q_o_diary, .int v_o_acts, .ref q_o_kept, .ref q_o_isKept, .ref q_o_years, .int m_5.1, .int m_5.2.1, .int m_5.2.2.1, .int m_5.2.2.2.1, .int m_5.2.2.2.2.1, .int v_o_spot, .int v_o_out])), (q_o_years, gI Cs 10 m_5.2.2.2.2.2), (q_o_now, gI Cs 221 v_o_now)] H := hP
      have hD : va_D A [(q_o, .inr (6, [.int m_2, .ref q_o_text, .int v_o_size, .ref q_o_now, .ref q_o_trial, .ref q_o_diary, .int v_o_acts, .ref q_o_kept, .ref q_o_isKept, .ref q_o_years, .int m_5.1, .int m_5.2.1, .int m_5.2.2.1, .int m_5.2.2.2.1, .int m_5.2.2.2.2.1, .int v_o_spot, .int v_o_out])), (q_o_years, gI Cs 10 m_5.2.2.2.2.2), (q_o_now, gI Cs 221 v_o_now)] := hD
      refine lv_aload_n hx hb dX6_inventions_30 rfl (lv_at hl 0 rfl) ?_
      refine va_get (D := D) (ci := 6) (v := .int m_5.1) (C := RX6) (T := TX6) (N := 17) hx hb htb inT_X6 hown hK hP 0 rfl rfl 10 (by decide) (htb _ tb_341) (fun _ h9 => h9) rfl dX6_inventions_31 ?_
      rw [← hQ]
      exact gRetI (u := (m_2, m_5)) hx hb hr rfl h (hP.sub [0, 2, 1] rfl) (hD.sub [0, 2, 1] (by decide) rfl) hS dX6_inventions_34 hlocks
    · have h := h.2 c_3
      refine lv_iconst (v := (0 : Int32)) hx hb dX6_inventions_19 (by decide) ?_
      rw [← hQ]
      exact gRetI (u := (m_2, b_o)) hx hb hr rfl h (hP.sub [2, 0, 1] rfl) (hD.sub [2, 0, 1] (by decide) rfl) hS dX6_inventions_20 hlocks
  unfold P_X6_inventions at h
  refine lv_aload_n hx hb dX6_inventions_0 rfl (lv_at hl 0 rfl) ?_
  refine lv_iload_n hx hb dX6_inventions_1 rfl (lv_at hl 1 rfl) ?_
  refine gSR (As := [.int x1]) (rest := [.ref q_o]) ⟨hx, hb, hml, hown, htb⟩ hK hP hN [] rfl (c_X6_isTrait l D Cs x1 h) (va_cwS 1 htb (TB_s tb_436 tb_437 tb_5 (TB_self tb_438)) rfl rfl rfl z_X6_isTrait.2 ⟨Nat.le_of_ble_eq_true rfl, Nat.le_of_ble_eq_true rfl⟩) rfl hl.1 rfl (Nat.le_of_ble_eq_true rfl) ⟨Nat.le_of_ble_eq_true rfl, Nat.le_of_ble_eq_true rfl⟩ dX6_inventions_2 (fun r_6 h => ?_)
  refine lv_if_eq (tgt := 12) hx hb dX6_inventions_5 (by decide) (fun c_7 => ?_) (fun c_7 => ?_)
  · have h := h.1 c_7
    refine lv_iconst (v := (1 : Int32)) hx hb dX6_inventions_12 (by decide) ?_
    exact B13 _ _ _ (1 : Int32) hP hD hS (lv_sub hl [0, 1] rfl) h
  · have h := h.2 c_7
    refine lv_iconst (v := (0 : Int32)) hx hb dX6_inventions_8 (by decide) ?_
    refine lv_goto (tgt := 13) hx hb dX6_inventions_9 (by decide) ?_
    exact B13 _ _ _ (0 : Int32) hP hD hS (lv_sub hl [0, 1] rfl) h
set_option maxHeartbeats 4000000 in
set_option maxRecDepth 100000 in
theorem c_X6_invented (l : Launch) (D : va_G) (Cs : Nat → ClassId) (q_o : Nat) (q_o_text : Nat) (q_o_now : Nat) (q_o_trial : Nat) (q_o_diary : Nat) (q_o_kept : Nat) (q_o_isKept : Nat) (q_o_years : Nat) (sz : Nat) (v_o_refusal : Int32) (b_o : BM) (v_o_now : (Nat → Int32)) (v_o_size : Int32) (v_o_acts : Int32) (v_o_spot : Int32) (v_o_out : Int32) (x1 : Int32) (x2 : Int32) {post : Int32 → Int32 → BM → Prop} (h : P_X6_invented v_o_refusal b_o v_o_now x1 x2 post) : Met l yX6_invented wsX6_invented ({ frames := 4, cells := 0, slots := 0, locals := 95 } : Room) (va_Pc [.ref q_o, .int x1, .int x2] (gM D Cs [(q_o, .inr (6, [.int v_o_refusal, .ref q_o_text, .int v_o_size, .ref q_o_now, .ref q_o_trial, .ref q_o_diary, .int v_o_acts, .ref q_o_kept, .ref q_o_isKept, .ref q_o_years, .int b_o.1, .int b_o.2.1, .int b_o.2.2.1, .int b_o.2.2.2.1, .int b_o.2.2.2.2.1, .int v_o_spot, .int v_o_out])), (q_o_now, gI Cs 221 v_o_now), (q_o_years, gI Cs 10 b_o.2.2.2.2.2)] sz)) (va_Qi (fun (r : Int32) (u : Int32 × BM) => post r u.1 u.2) (gB D (va_A [(q_o, .inr (6, [.int v_o_refusal, .ref q_o_text, .int v_o_size, .ref q_o_now, .ref q_o_trial, .ref q_o_diary, .int v_o_acts, .ref q_o_kept, .ref q_o_isKept, .ref q_o_years, .int b_o.1, .int b_o.2.1, .int b_o.2.2.1, .int b_o.2.2.2.1, .int b_o.2.2.2.2.1, .int v_o_spot, .int v_o_out])), (q_o_now, gI Cs 221 v_o_now), (q_o_years, gI Cs 10 b_o.2.2.2.2.2)] sz) (fun u : Int32 × BM => [(q_o, .inr (6, [.int u.1, .ref q_o_text, .int v_o_size, .ref q_o_now, .ref q_o_trial, .ref q_o_diary, .int v_o_acts, .ref q_o_kept, .ref q_o_isKept, .ref q_o_years, .int u.2.1, .int u.2.2.1, .int u.2.2.2.1, .int u.2.2.2.2.1, .int u.2.2.2.2.2.1, .int v_o_spot, .int v_o_out])), (q_o_now, gI Cs 221 v_o_now), (q_o_years, gI Cs 10 u.2.2.2.2.2.2)])) (va_A [(q_o, .inr (6, [.int v_o_refusal, .ref q_o_text, .int v_o_size, .ref q_o_now, .ref q_o_trial, .ref q_o_diary, .int v_o_acts, .ref q_o_kept, .ref q_o_isKept, .ref q_o_years, .int b_o.1, .int b_o.2.1, .int b_o.2.2.1, .int b_o.2.2.2.1, .int b_o.2.2.2.2.1, .int v_o_spot, .int v_o_out])), (q_o_now, gI Cs 221 v_o_now), (q_o_years, gI Cs 10 b_o.2.2.2.2.2)] sz)) 0 0 (va_A [(q_o, .inr (6, [.int v_o_refusal, .ref q_o_text, .int v_o_size, .ref q_o_now, .ref q_o_trial, .ref q_o_diary, .int v_o_acts, .ref q_o_kept, .ref q_o_isKept, .ref q_o_years, .int b_o.1, .int b_o.2.1, .int b_o.2.2.1, .int b_o.2.2.2.1, .int b_o.2.2.2.2.1, .int v_o_spot, .int v_o_out])), (q_o_now, gI Cs 221 v_o_now), (q_o_years, gI Cs 10 b_o.2.2.2.2.2)] sz) := by
  refine Met.ofW (cc := cX6_invented) (maxL := 3) (ret := (some .int)) (by decide) rfl ?_
  intro p e s m args below meth c s₁ B hml hv
  obtain ⟨ha, hsz, hP, hK, hD0, hN⟩ := hv
  have hx := B.exec
  have hb := B.bytes
  have hr := B.returns
  have hts := atoms_spec (ws := wsX6_invented) B.pre
  have htb : ∀ w ∈ TB, w.before args s = true := fun w h9 => hts w (List.mem_cons_of_mem _ h9)
  have hown : s.vm.findClass RX6 = some m.cls := findClass_of_methodNamed B.named
  have hlocks := B.notSynchronized
  subst hsz
  have hD := hD0.self (sz := s.heap.size)
  generalize hAe : va_A [(q_o, .inr (6, [.int v_o_refusal, .ref q_o_text, .int v_o_size, .ref q_o_now, .ref q_o_trial, .ref q_o_diary, .int v_o_acts, .ref q_o_kept, .ref q_o_isKept, .ref q_o_years, .int b_o.1, .int b_o.2.1, .int b_o.2.2.1, .int b_o.2.2.2.1, .int b_o.2.2.2.2.1, .int v_o_spot, .int v_o_out])), (q_o_now, gI Cs 221 v_o_now), (q_o_years, gI Cs 10 b_o.2.2.2.2.2)] s.heap.size = A at hD ⊢
  have hA : ∀ q : Nat, s.heap.size ≤ q → A q := fun q h9 => by rw [← hAe]; exact Or.inr h9
  obtain ⟨H, hH⟩ : ∃ z : Heap, z = s.heap := ⟨_, rfl⟩
  have hS : va_S A s.heap H [] := by rw [hH]; exact va_S.rf
  have hP : va_P D vwCl [(q_o, .inr (6, [.int v_o_refusal, .ref q_o_text, .int v_o_size, .ref q_o_now, .ref q_o_trial, .ref q_o_diary, .int v_o_acts, .ref q_o_kept, .ref q_o_isKept, .ref q_o_years, .int b_o.1, .int b_o.2.1, .int b_o.2.2.1, .int b_o.2.2.2.1, .int b_o.2.2.2.2.1, .int v_o_spot, .int v_o_out])), (q_o_now, gI Cs 221 v_o_now), (q_o_years, gI Cs 10 b_o.2.2.2.2.2)] H := by rw [hH]; exact hP
  generalize hQ : MQ below _ args s _ _ _ = Q
  show W p l e ({ frames := 4, cells := 0, slots := 0, locals := 95 } : Room) s m args below meth c s.heap [] 0 0 Q (entryFrame m args 3)
  have hent : entryFrame m args 3 = F0 m 0 ((lg_sl ([.ref q_o, .int x1, .int x2]) ++ List.replicate (3 - (lg_sl ([.ref q_o, .int x1, .int x2])).length) Slot.unset).toArray) [] := by rw [ha]; exact lg_entry_eq m ([.ref q_o, .int x1, .int x2]) 3
  rw [hent]; clear hent
  rw [← hH]
  have hl := lv_entry ([.ref q_o, .int x1, .int x2]) (n := 3) (Nat.le_of_ble_eq_true rfl)
  generalize (lg_sl ([.ref q_o, .int x1, .int x2]) ++ List.replicate (3 - (lg_sl ([.ref q_o, .int x1, .int x2])).length) Slot.unset).toArray = ls at hl ⊢
  have hl : lv_has ls 3 [(0, .ref q_o), (1, .int x1), (2, .int x2)] := hl
  have B69 : ∀ (H : Heap) (locs : List Loc) (ls : Array Slot) (w_o_refusal : Int32) (d_o : BM) (s0 : Int32), va_P D vwCl [(q_o, .inr (6, [.int w_o_refusal, .ref q_o_text, .int v_o_size, .ref q_o_now, .ref q_o_trial, .ref q_o_diary, .int v_o_acts, .ref q_o_kept, .ref q_o_isKept, .ref q_o_years, .int d_o.1, .int d_o.2.1, .int d_o.2.2.1, .int d_o.2.2.2.1, .int d_o.2.2.2.2.1, .int v_o_spot, .int v_o_out])), (q_o_now, gI Cs 221 v_o_now), (q_o_years, gI Cs 10 d_o.2.2.2.2.2)] H → va_D A [(q_o, .inr (6, [.int w_o_refusal, .ref q_o_text, .int v_o_size, .ref q_o_now, .ref q_o_trial, .ref q_o_diary, .int v_o_acts, .ref q_o_kept, .ref q_o_isKept, .ref q_o_years, .int d_o.1, .int d_o.2.1, .int d_o.2.2.1, .int d_o.2.2.2.1, .int d_o.2.2.2.2.1, .int v_o_spot, .int v_o_out])), (q_o_now, gI Cs 221 v_o_now), (q_o_years, gI Cs 10 d_o.2.2.2.2.2)] → va_S A s.heap H locs → lv_has ls 3 [(0, .ref q_o), (1, .int x1), (2, .int x2)] → P_X6_invented_b69 v_o_refusal b_o v_o_now x1 x2 post w_o_refusal d_o s0 → W p l e ({ frames := 4, cells := 0, slots := 0, locals := 95 } : Room) s m args below meth c H locs 0 0 Q (F0 m 69 ls [.int s0]) := by
    intro H locs ls w_o_refusal d_o s0 hP hD hS hl h
    unfold P_X6_invented_b69 at h
    rw [← hQ]
    exact gRetI (u := (w_o_refusal, d_o)) hx hb hr rfl h hP hD hS dX6_invented_69 hlocks
  have B25 : ∀ (H : Heap) (locs : List Loc) (ls : Array Slot) (s1 : Int32), va_P D vwCl [(q_o, .inr (6, [.int v_o_refusal, .ref q_o_text, .int v_o_size, .ref q_o_now, .ref q_o_trial, .ref q_o_diary, .int v_o_acts, .ref q_o_kept, .ref q_o_isKept, .ref q_o_years, .int b_o.1, .int b_o.2.1, .int b_o.2.2.1, .int b_o.2.2.2.1, .int b_o.2.2.2.2.1, .int v_o_spot, .int v_o_out])), (q_o_now, gI Cs 221 v_o_now), (q_o_years, gI Cs 10 b_o.2.2.2.2.2)] H → va_D A [(q_o, .inr (6, [.int v_o_refusal, .ref q_o_text, .int v_o_size, .ref q_o_now, .ref q_o_trial, .ref q_o_diary, .int v_o_acts, .ref q_o_kept, .ref q_o_isKept, .ref q_o_years, .int b_o.1, .int b_o.2.1, .int b_o.2.2.1, .int b_o.2.2.2.1, .int b_o.2.2.2.2.1, .int v_o_spot, .int v_o_out])), (q_o_now, gI Cs 221 v_o_now), (q_o_years, gI Cs 10 b_o.2.2.2.2.2)] → va_S A s.heap H locs → lv_has ls 3 [(0, .ref q_o), (1, .int x1), (2, .int x2)] → P_X6_invented_b25 v_o_refusal b_o v_o_now x1 x2 post s1 → W p l e ({ frames := 4, cells := 0, slots := 0, locals := 95 } : Room) s m args below meth c H locs 0 0 Q (F0 m 25 ls [.int s1, .ref q_o]) := by
    intro H locs ls s1 hP hD hS hl h
    unfold P_X6_invented_b25 at h
    refine gVM (wr := [(q_o_now, gI Cs 221 v_o_now), (q_o_years, gI Cs 10 b_o.2.2.2.2.2)]) (As := [.int s1]) (rest := []) ⟨hx, hb, hml, hown, htb⟩ hK hP hD hS hA hN [0] [1, 2] rfl (by decide) rfl (by decide) (by decide) (c_X6_refused l D Cs q_o q_o_text q_o_now q_o_trial q_o_diary q_o_kept q_o_isKept q_o_years H.size v_o_refusal v_o_size v_o_acts b_o.1 b_o.2.1 b_o.2.2.1 b_o.2.2.2.1 b_o.2.2.2.2.1 v_o_spot v_o_out s1 h) (cwV 1 htb (TB_v tb_128 tb_129 tb_130 tb_5 (TB_self tb_131)) rfl rfl rfl z_X6_refused ⟨Nat.le_of_ble_eq_true rfl, Nat.le_of_ble_eq_true rfl⟩) 0 rfl rfl rfl rfl hl.1 rfl (Nat.le_of_ble_eq_true rfl) ⟨Nat.le_of_ble_eq_true rfl, Nat.le_of_ble_eq_true rfl⟩ dX6_invented_25 (fun r_1 m_2 H locs h hP hD hS => ?_)
    have hP : va_P D vwCl [(q_o_now, gI Cs 221 v_o_now), (q_o_years, gI Cs 10 b_o.2.2.2.2.2), (q_o, .inr (6, [.int m_2, .ref q_o_text, .int v_o_size, .ref q_o_now, .ref q_o_trial, .ref q_o_diary, .int v_o_acts, .ref q_o_kept, .ref q_o_isKept, .ref q_o_years, .int b_o.1, .int b_o.2.1, .int b_o.2.2.1, .int b_o.2.2.2.1, .int b_o.2.2.2.2.1, .int v_o_spot, .int v_o_out]))] H := hP
    have hD : va_D A [(q_o_now, gI Cs 221 v_o_now), (q_o_years, gI Cs 10 b_o.2.2.2.2.2), (q_o, .inr (6, [.int m_2, .ref q_o_text, .int v_o_size, .ref q_o_now, .ref q_o_trial, .ref q_o_diary, .int v_o_acts, .ref q_o_kept, .ref q_o_isKept, .ref q_o_years, .int b_o.1, .int b_o.2.1, .int b_o.2.2.1, .int b_o.2.2.2.1, .int b_o.2.2.2.2.1, .int v_o_spot, .int v_o_out]))] := hD
    refine lv_if_eq (tgt := 33) hx hb dX6_invented_28 (by decide) (fun c_3 => ?_) (fun c_3 => ?_)
    · have h := h.1 c_3
      refine lv_aload_n hx hb dX6_invented_33 rfl (lv_at hl 0 rfl) ?_
      refine lv_aload_n hx hb dX6_invented_34 rfl (lv_at hl 0 rfl) ?_
      refine va_get (D := D) (ci := 6) (v := .ref q_o_now) (C := RX6) (T := TX6) (N := 17) hx hb htb inT_X6 hown hK hP 2 rfl rfl 3 (by decide) (htb _ tb_90) (fun _ h9 => h9) rfl dX6_invented_35 ?_
      refine lv_iload_n hx hb dX6_invented_38 rfl (lv_at hl 1 rfl) ?_
      refine gVMv (wr := []) (As := [.ref q_o_now, .int x1]) (rest := []) ⟨hx, hb, hml, hown, htb⟩ hK hP hD hS hA hN [2, 1, 0] [] rfl (by decide) rfl (by decide) (by decide) (c_X6_findLeast l D Cs q_o q_o_now q_o_text q_o_now q_o_trial q_o_diary q_o_kept q_o_isKept q_o_years 221 H.size b_o v_o_now m_2 v_o_size v_o_acts v_o_spot v_o_out x1 h) (cwV 2 htb (TB_v tb_342 tb_343 tb_344 tb_5 (TB_self tb_345)) rfl rfl rfl z_X6_findLeast ⟨Nat.le_of_ble_eq_true rfl, Nat.le_of_ble_eq_true rfl⟩) 2 rfl rfl rfl rfl hl.1 rfl (Nat.le_of_ble_eq_true rfl) ⟨Nat.le_of_ble_eq_true rfl, Nat.le_of_ble_eq_true rfl⟩ dX6_invented_39 (fun m_5 H locs h hP hD hS => ?_)
      have hP : va_P D vwCl [(q_o, .inr (6, [.int m_2, .ref q_o_text, .int v_o_size, .ref q_o_now, .ref q_o_trial, .ref q_o_diary, .int v_o_acts, .ref q_o_kept, .ref q_o_isKept, .ref q_o_years, .int m_5.1, .int m_5.2.1, .int m_5.2.2.1, .int m_5.2.2.2.1, .int m_5.2.2.2.2.1, .int v_o_spot, .int v_o_out])), (q_o_years, gI Cs 10 m_5.2.2.2.2.2), (q_o_now, gI Cs 221 v_o_now)] H := hP
      have hD : va_D A [(q_o, .inr (6, [.int m_2, .ref q_o_text, .int v_o_size, .ref q_o_now, .ref q_o_trial, .ref q_o_diary, .int v_o_acts, .ref q_o_kept, .ref q_o_isKept, .ref q_o_years, .int m_5.1, .int m_5.2.1, .int m_5.2.2.1, .int m_5.2.2.2.1, .int m_5.2.2.2.2.1, .int v_o_spot, .int v_o_out])), (q_o_years, gI Cs 10 m_5.2.2.2.2.2), (q_o_now, gI Cs 221 v_o_now)] := hD
      refine lv_iload_n hx hb dX6_invented_42 rfl (lv_at hl 2 rfl) ?_
      refine lv_if_ne (tgt := 53) hx hb dX6_invented_43 (by decide) (fun c_6 => ?_) (fun c_6 => ?_)
      · have h := h.2 c_6
        refine lv_iload_n hx hb dX6_invented_53 rfl (lv_at hl 2 rfl) ?_
        refine lv_iconst (v := (1 : Int32)) hx hb dX6_invented_54 (by decide) ?_
        refine lv_icmp_ne (tgt := 65) hx hb dX6_invented_55 (by decide) (fun c_7 => ?_) (fun c_7 => ?_)
        · have h := h.2 c_7
          refine lv_aload_n hx hb dX6_invented_65 rfl (lv_at hl 0 rfl) ?_
          refine va_get (D := D) (ci := 6) (v := .int m_5.2.2.2.1) (C := RX6) (T := TX6) (N := 17) hx hb htb inT_X6 hown hK hP 0 rfl rfl 13 (by decide) (htb _ tb_348) (fun _ h9 => h9) rfl dX6_invented_66 ?_
          exact B69 _ _ _ m_2 m_5 m_5.2.2.2.1 (hP.sub [0, 2, 1] rfl) (hD.sub [0, 2, 1] (by decide) rfl) hS (lv_sub hl [0, 1, 2] rfl) h
        · have h := h.1 c_7
          refine lv_aload_n hx hb dX6_invented_58 rfl (lv_at hl 0 rfl) ?_
          refine va_get (D := D) (ci := 6) (v := .int m_5.2.2.1) (C := RX6) (T := TX6) (N := 17) hx hb htb inT_X6 hown hK hP 0 rfl rfl 12 (by decide) (htb _ tb_347) (fun _ h9 => h9) rfl dX6_invented_59 ?_
          refine lv_goto (tgt := 69) hx hb dX6_invented_62 (by decide) ?_
          exact B69 _ _ _ m_2 m_5 m_5.2.2.1 (hP.sub [0, 2, 1] rfl) (hD.sub [0, 2, 1] (by decide) rfl) hS (lv_sub hl [0, 1, 2] rfl) h
      · have h := h.1 c_6
        refine lv_aload_n hx hb dX6_invented_46 rfl (lv_at hl 0 rfl) ?_
        refine va_get (D := D) (ci := 6) (v := .int m_5.2.1) (C := RX6) (T := TX6) (N := 17) hx hb htb inT_X6 hown hK hP 0 rfl rfl 11 (by decide) (htb _ tb_346) (fun _ h9 => h9) rfl dX6_invented_47 ?_
        refine lv_goto (tgt := 69) hx hb dX6_invented_50 (by decide) ?_
        exact B69 _ _ _ m_2 m_5 m_5.2.1 (hP.sub [0, 2, 1] rfl) (hD.sub [0, 2, 1] (by decide) rfl) hS (lv_sub hl [0, 1, 2] rfl) h
    · have h := h.2 c_3
      refine lv_iconst (v := (0 : Int32)) hx hb dX6_invented_31 (by decide) ?_
      rw [← hQ]
      exact gRetI (u := (m_2, b_o)) hx hb hr rfl h (hP.sub [2, 0, 1] rfl) (hD.sub [2, 0, 1] (by decide) rfl) hS dX6_invented_32 hlocks
  have B24 : ∀ (H : Heap) (locs : List Loc) (ls : Array Slot), va_P D vwCl [(q_o, .inr (6, [.int v_o_refusal, .ref q_o_text, .int v_o_size, .ref q_o_now, .ref q_o_trial, .ref q_o_diary, .int v_o_acts, .ref q_o_kept, .ref q_o_isKept, .ref q_o_years, .int b_o.1, .int b_o.2.1, .int b_o.2.2.1, .int b_o.2.2.2.1, .int b_o.2.2.2.2.1, .int v_o_spot, .int v_o_out])), (q_o_now, gI Cs 221 v_o_now), (q_o_years, gI Cs 10 b_o.2.2.2.2.2)] H → va_D A [(q_o, .inr (6, [.int v_o_refusal, .ref q_o_text, .int v_o_size, .ref q_o_now, .ref q_o_trial, .ref q_o_diary, .int v_o_acts, .ref q_o_kept, .ref q_o_isKept, .ref q_o_years, .int b_o.1, .int b_o.2.1, .int b_o.2.2.1, .int b_o.2.2.2.1, .int b_o.2.2.2.2.1, .int v_o_spot, .int v_o_out])), (q_o_now, gI Cs 221 v_o_now), (q_o_years, gI Cs 10 b_o.2.2.2.2.2)] → va_S A s.heap H locs → lv_has ls 3 [(0, .ref q_o), (1, .int x1), (2, .int x2)] → P_X6_invented_b24 v_o_refusal b_o v_o_now x1 x2 post → W p l e ({ frames := 4, cells := 0, slots := 0, locals := 95 } : Room) s m args below meth c H locs 0 0 Q (F0 m 24 ls [.ref q_o]) := by
    intro H locs ls hP hD hS hl h
    unfold P_X6_invented_b24 at h
    refine lv_iconst (v := (1 : Int32)) hx hb dX6_invented_24 (by decide) ?_
    exact B25 _ _ _ (1 : Int32) hP hD hS (lv_sub hl [0, 1, 2] rfl) h
  unfold P_X6_invented at h
  refine lv_aload_n hx hb dX6_invented_0 rfl (lv_at hl 0 rfl) ?_
  refine lv_iload_n hx hb dX6_invented_1 rfl (lv_at hl 1 rfl) ?_
  refine gSR (As := [.int x1]) (rest := [.ref q_o]) ⟨hx, hb, hml, hown, htb⟩ hK hP hN [] rfl (c_X6_isTrait l D Cs x1 h) (va_cwS 1 htb (TB_s tb_436 tb_437 tb_5 (TB_self tb_438)) rfl rfl rfl z_X6_isTrait.2 ⟨Nat.le_of_ble_eq_true rfl, Nat.le_of_ble_eq_true rfl⟩) rfl hl.1 rfl (Nat.le_of_ble_eq_true rfl) ⟨Nat.le_of_ble_eq_true rfl, Nat.le_of_ble_eq_true rfl⟩ dX6_invented_2 (fun r_8 h => ?_)
  refine lv_if_eq (tgt := 24) hx hb dX6_invented_5 (by decide) (fun c_9 => ?_) (fun c_9 => ?_)
  · have h := h.1 c_9
    exact B24 _ _ _ hP hD hS (lv_sub hl [0, 1, 2] rfl) h
  · have h := h.2 c_9
    refine lv_iload_n hx hb dX6_invented_8 rfl (lv_at hl 2 rfl) ?_
    refine lv_i2l (v := x2.toInt64) hx hb dX6_invented_9 rfl ?_
    refine lv_lconst (v := (0 : Int64)) hx hb dX6_invented_10 rfl ?_
    refine lv_ldc2 (v := (2 : Int64)) hx hb hown (htb _ tb_636) dX6_invented_11 ?_
    refine gSR (As := [.long x2.toInt64, .long (0 : Int64), .long (2 : Int64)]) (rest := [.ref q_o]) ⟨hx, hb, hml, hown, htb⟩ hK hP hN [] rfl (c_X6_in l D Cs x2.toInt64 (0 : Int64) (2 : Int64) h) (va_cwS 3 htb (TB_s tb_125 tb_126 tb_5 (TB_self tb_127)) rfl rfl rfl z_X6_in.2 ⟨Nat.le_of_ble_eq_true rfl, Nat.le_of_ble_eq_true rfl⟩) rfl hl.1 rfl (Nat.le_of_ble_eq_true rfl) ⟨Nat.le_of_ble_eq_true rfl, Nat.le_of_ble_eq_true rfl⟩ dX6_invented_14 (fun r_10 h => ?_)
    refine lv_if_eq (tgt := 24) hx hb dX6_invented_17 (by decide) (fun c_11 => ?_) (fun c_11 => ?_)
    · have h := h.1 c_11
      exact B24 _ _ _ hP hD hS (lv_sub hl [0, 1, 2] rfl) h
    · have h := h.2 c_11
      refine lv_iconst (v := (0 : Int32)) hx hb dX6_invented_20 (by decide) ?_
      refine lv_goto (tgt := 25) hx hb dX6_invented_21 (by decide) ?_
      exact B25 _ _ _ (0 : Int32) hP hD hS (lv_sub hl [0, 1, 2] rfl) h
set_option maxHeartbeats 4000000 in
set_option maxRecDepth 100000 in
theorem c_X6_choices (l : Launch) (D : va_G) (Cs : Nat → ClassId) (q_o : Nat) (q_o_text : Nat) (q_o_now : Nat) (q_o_trial : Nat) (q_o_diary : Nat) (q_o_kept : Nat) (q_o_isKept : Nat) (q_o_years : Nat) (sz : Nat) (v_o_refusal : Int32) (b_o : BM) (v_o_now : (Nat → Int32)) (v_o_size : Int32) (v_o_acts : Int32) (v_o_spot : Int32) (v_o_out : Int32) (x1 : Int32) {post : Int32 → Int32 → BM → Prop} (h : P_X6_choices v_o_refusal b_o v_o_now x1 post) : Met l yX6_choices wsX6_choices ({ frames := 4, cells := 0, slots := 0, locals := 95 } : Room) (va_Pc [.ref q_o, .int x1] (gM D Cs [(q_o, .inr (6, [.int v_o_refusal, .ref q_o_text, .int v_o_size, .ref q_o_now, .ref q_o_trial, .ref q_o_diary, .int v_o_acts, .ref q_o_kept, .ref q_o_isKept, .ref q_o_years, .int b_o.1, .int b_o.2.1, .int b_o.2.2.1, .int b_o.2.2.2.1, .int b_o.2.2.2.2.1, .int v_o_spot, .int v_o_out])), (q_o_now, gI Cs 221 v_o_now), (q_o_years, gI Cs 10 b_o.2.2.2.2.2)] sz)) (va_Qi (fun (r : Int32) (u : Int32 × BM) => post r u.1 u.2) (gB D (va_A [(q_o, .inr (6, [.int v_o_refusal, .ref q_o_text, .int v_o_size, .ref q_o_now, .ref q_o_trial, .ref q_o_diary, .int v_o_acts, .ref q_o_kept, .ref q_o_isKept, .ref q_o_years, .int b_o.1, .int b_o.2.1, .int b_o.2.2.1, .int b_o.2.2.2.1, .int b_o.2.2.2.2.1, .int v_o_spot, .int v_o_out])), (q_o_now, gI Cs 221 v_o_now), (q_o_years, gI Cs 10 b_o.2.2.2.2.2)] sz) (fun u : Int32 × BM => [(q_o, .inr (6, [.int u.1, .ref q_o_text, .int v_o_size, .ref q_o_now, .ref q_o_trial, .ref q_o_diary, .int v_o_acts, .ref q_o_kept, .ref q_o_isKept, .ref q_o_years, .int u.2.1, .int u.2.2.1, .int u.2.2.2.1, .int u.2.2.2.2.1, .int u.2.2.2.2.2.1, .int v_o_spot, .int v_o_out])), (q_o_now, gI Cs 221 v_o_now), (q_o_years, gI Cs 10 u.2.2.2.2.2.2)])) (va_A [(q_o, .inr (6, [.int v_o_refusal, .ref q_o_text, .int v_o_size, .ref q_o_now, .ref q_o_trial, .ref q_o_diary, .int v_o_acts, .ref q_o_kept, .ref q_o_isKept, .ref q_o_years, .int b_o.1, .int b_o.2.1, .int b_o.2.2.1, .int b_o.2.2.2.1, .int b_o.2.2.2.2.1, .int v_o_spot, .int v_o_out])), (q_o_now, gI Cs 221 v_o_now), (q_o_years, gI Cs 10 b_o.2.2.2.2.2)] sz)) 0 0 (va_A [(q_o, .inr (6, [.int v_o_refusal, .ref q_o_text, .int v_o_size, .ref q_o_now, .ref q_o_trial, .ref q_o_diary, .int v_o_acts, .ref q_o_kept, .ref q_o_isKept, .ref q_o_years, .int b_o.1, .int b_o.2.1, .int b_o.2.2.1, .int b_o.2.2.2.1, .int b_o.2.2.2.2.1, .int v_o_spot, .int v_o_out])), (q_o_now, gI Cs 221 v_o_now), (q_o_years, gI Cs 10 b_o.2.2.2.2.2)] sz) := by
  refine Met.ofW (cc := cX6_choices) (maxL := 2) (ret := (some .int)) (by decide) rfl ?_
  intro p e s m args below meth c s₁ B hml hv
  obtain ⟨ha, hsz, hP, hK, hD0, hN⟩ := hv
  have hx := B.exec
  have hb := B.bytes
  have hr := B.returns
  have hts := atoms_spec (ws := wsX6_choices) B.pre
  have htb : ∀ w ∈ TB, w.before args s = true := fun w h9 => hts w (List.mem_cons_of_mem _ h9)
  have hown : s.vm.findClass RX6 = some m.cls := findClass_of_methodNamed B.named
  have hlocks := B.notSynchronized
  subst hsz
  have hD := hD0.self (sz := s.heap.size)
  generalize hAe : va_A [(q_o, .inr (6, [.int v_o_refusal, .ref q_o_text, .int v_o_size, .ref q_o_now, .ref q_o_trial, .ref q_o_diary, .int v_o_acts, .ref q_o_kept, .ref q_o_isKept, .ref q_o_years, .int b_o.1, .int b_o.2.1, .int b_o.2.2.1, .int b_o.2.2.2.1, .int b_o.2.2.2.2.1, .int v_o_spot, .int v_o_out])), (q_o_now, gI Cs 221 v_o_now), (q_o_years, gI Cs 10 b_o.2.2.2.2.2)] s.heap.size = A at hD ⊢
  have hA : ∀ q : Nat, s.heap.size ≤ q → A q := fun q h9 => by rw [← hAe]; exact Or.inr h9
  obtain ⟨H, hH⟩ : ∃ z : Heap, z = s.heap := ⟨_, rfl⟩
  have hS : va_S A s.heap H [] := by rw [hH]; exact va_S.rf
  have hP : va_P D vwCl [(q_o, .inr (6, [.int v_o_refusal, .ref q_o_text, .int v_o_size, .ref q_o_now, .ref q_o_trial, .ref q_o_diary, .int v_o_acts, .ref q_o_kept, .ref q_o_isKept, .ref q_o_years, .int b_o.1, .int b_o.2.1, .int b_o.2.2.1, .int b_o.2.2.2.1, .int b_o.2.2.2.2.1, .int v_o_spot, .int v_o_out])), (q_o_now, gI Cs 221 v_o_now), (q_o_years, gI Cs 10 b_o.2.2.2.2.2)] H := by rw [hH]; exact hP
  generalize hQ : MQ below _ args s _ _ _ = Q
  show W p l e ({ frames := 4, cells := 0, slots := 0, locals := 95 } : Room) s m args below meth c s.heap [] 0 0 Q (entryFrame m args 2)
  have hent : entryFrame m args 2 = F0 m 0 ((lg_sl ([.ref q_o, .int x1]) ++ List.replicate (2 - (lg_sl ([.ref q_o, .int x1])).length) Slot.unset).toArray) [] := by rw [ha]; exact lg_entry_eq m ([.ref q_o, .int x1]) 2
  rw [hent]; clear hent
  rw [← hH]
  have hl := lv_entry ([.ref q_o, .int x1]) (n := 2) (Nat.le_of_ble_eq_true rfl)
  generalize (lg_sl ([.ref q_o, .int x1]) ++ List.replicate (2 - (lg_sl ([.ref q_o, .int x1])).length) Slot.unset).toArray = ls at hl ⊢
  have hl : lv_has ls 2 [(0, .ref q_o), (1, .int x1)] := hl
  have B13 : ∀ (H : Heap) (locs : List Loc) (ls : Array Slot) (s1 : Int32), va_P D vwCl [(q_o, .inr (6, [.int v_o_refusal, .ref q_o_text, .int v_o_size, .ref q_o_now, .ref q_o_trial, .ref q_o_diary, .int v_o_acts, .ref q_o_kept, .ref q_o_isKept, .ref q_o_years, .int b_o.1, .int b_o.2.1, .int b_o.2.2.1, .int b_o.2.2.2.1, .int b_o.2.2.2.2.1, .int v_o_spot, .int v_o_out])), (q_o_now, gI Cs 221 v_o_now), (q_o_years, gI Cs 10 b_o.2.2.2.2.2)] H → va_D A [(q_o, .inr (6, [.int v_o_refusal, .ref q_o_text, .int v_o_size, .ref q_o_now, .ref q_o_trial, .ref q_o_diary, .int v_o_acts, .ref q_o_kept, .ref q_o_isKept, .ref q_o_years, .int b_o.1, .int b_o.2.1, .int b_o.2.2.1, .int b_o.2.2.2.1, .int b_o.2.2.2.2.1, .int v_o_spot, .int v_o_out])), (q_o_now, gI Cs 221 v_o_now), (q_o_years, gI Cs 10 b_o.2.2.2.2.2)] → va_S A s.heap H locs → lv_has ls 2 [(0, .ref q_o), (1, .int x1)] → P_X6_choices_b13 v_o_refusal b_o v_o_now x1 post s1 → W p l e ({ frames := 4, cells := 0, slots := 0, locals := 95 } : Room) s m args below meth c H locs 0 0 Q (F0 m 13 ls [.int s1, .ref q_o]) := by
    intro H locs ls s1 hP hD hS hl h
    unfold P_X6_choices_b13 at h
    refine gVM (wr := [(q_o_now, gI Cs 221 v_o_now), (q_o_years, gI Cs 10 b_o.2.2.2.2.2)]) (As := [.int s1]) (rest := []) ⟨hx, hb, hml, hown, htb⟩ hK hP hD hS hA hN [0] [1, 2] rfl (by decide) rfl (by decide) (by decide) (c_X6_refused l D Cs q_o q_o_text q_o_now q_o_trial q_o_diary q_o_kept q_o_isKept q_o_years H.size v_o_refusal v_o_size v_o_acts b_o.1 b_o.2.1 b_o.2.2.1 b_o.2.2.2.1 b_o.2.2.2.2.1 v_o_spot v_o_out s1 h) (cwV 1 htb (TB_v tb_128 tb_129 tb_130 tb_5 (TB_self tb_131)) rfl rfl rfl z_X6_refused ⟨Nat.le_of_ble_eq_true rfl, Nat.le_of_ble_eq_true rfl⟩) 0 rfl rfl rfl rfl hl.1 rfl (Nat.le_of_ble_eq_true rfl) ⟨Nat.le_of_ble_eq_true rfl, Nat.le_of_ble_eq_true rfl⟩ dX6_choices_13 (fun r_1 m_2 H locs h hP hD hS => ?_)
    have hP : va_P D vwCl [(q_o_now, gI Cs 221 v_o_now), (q_o_years, gI Cs 10 b_o.2.2.2.2.2), (q_o, .inr (6, [.int m_2, .ref q_o_text, .int v_o_size, .ref q_o_now, .ref q_o_trial, .ref q_o_diary, .int v_o_acts, .ref q_o_kept, .ref q_o_isKept, .ref q_o_years, .int b_o.1, .int b_o.2.1, .int b_o.2.2.1, .int b_o.2.2.2.1, .int b_o.2.2.2.2.1, .int v_o_spot, .int v_o_out]))] H := hP
    have hD : va_D A [(q_o_now, gI Cs 221 v_o_now), (q_o_years, gI Cs 10 b_o.2.2.2.2.2), (q_o, .inr (6, [.int m_2, .ref q_o_text, .int v_o_size, .ref q_o_now, .ref q_o_trial, .ref q_o_diary, .int v_o_acts, .ref q_o_kept, .ref q_o_isKept, .ref q_o_years, .int b_o.1, .int b_o.2.1, .int b_o.2.2.1, .int b_o.2.2.2.1, .int b_o.2.2.2.2.1, .int v_o_spot, .int v_o_out]))] := hD
    refine lv_if_eq (tgt := 21) hx hb dX6_choices_16 (by decide) (fun c_3 => ?_) (fun c_3 => ?_)
    · have h := h.1 c_3
      refine lv_aload_n hx hb dX6_choices_21 rfl (lv_at hl 0 rfl) ?_
      refine lv_aload_n hx hb dX6_choices_22 rfl (lv_at hl 0 rfl) ?_
      refine va_get (D := D) (ci := 6) (v := .ref q_o_now) (C := RX6) (T := TX6) (N := 17) hx hb htb inT_X6 hown hK hP 2 rfl rfl 3 (by decide) (htb _ tb_90) (fun _ h9 => h9) rfl dX6_choices_23 ?_
      refine lv_iload_n hx hb dX6_choices_26 rfl (lv_at hl 1 rfl) ?_
      refine gVMv (wr := []) (As := [.ref q_o_now, .int x1]) (rest := []) ⟨hx, hb, hml, hown, htb⟩ hK hP hD hS hA hN [2, 1, 0] [] rfl (by decide) rfl (by decide) (by decide) (c_X6_findLeast l D Cs q_o q_o_now q_o_text q_o_now q_o_trial q_o_diary q_o_kept q_o_isKept q_o_years 221 H.size b_o v_o_now m_2 v_o_size v_o_acts v_o_spot v_o_out x1 h) (cwV 2 htb (TB_v tb_342 tb_343 tb_344 tb_5 (TB_self tb_345)) rfl rfl rfl z_X6_findLeast ⟨Nat.le_of_ble_eq_true rfl, Nat.le_of_ble_eq_true rfl⟩) 2 rfl rfl rfl rfl hl.1 rfl (Nat.le_of_ble_eq_true rfl) ⟨Nat.le_of_ble_eq_true rfl, Nat.le_of_ble_eq_true rfl⟩ dX6_choices_27 (fun m_5 H locs h hP hD hS => ?_)
      have hP : va_P D vwCl [(q_o, .inr (6, [.int m_2, .ref q_o_text, .int v_o_size, .ref q_o_now, .ref q_o_trial, .ref q_o_diary, .int v_o_acts, .ref q_o_kept, .ref q_o_isKept, .ref q_o_years, .int m_5.1, .int m_5.2.1, .int m_5.2.2.1, .int m_5.2.2.2.1, .int m_5.2.2.2.2.1, .int v_o_spot, .int v_o_out])), (q_o_years, gI Cs 10 m_5.2.2.2.2.2), (q_o_now, gI Cs 221 v_o_now)] H := hP
      have hD : va_D A [(q_o, .inr (6, [.int m_2, .ref q_o_text, .int v_o_size, .ref q_o_now, .ref q_o_trial, .ref q_o_diary, .int v_o_acts, .ref q_o_kept, .ref q_o_isKept, .ref q_o_years, .int m_5.1, .int m_5.2.1, .int m_5.2.2.1, .int m_5.2.2.2.1, .int m_5.2.2.2.2.1, .int v_o_spot, .int v_o_out])), (q_o_years, gI Cs 10 m_5.2.2.2.2.2), (q_o_now, gI Cs 221 v_o_now)] := hD
      refine lv_aload_n hx hb dX6_choices_30 rfl (lv_at hl 0 rfl) ?_
      refine va_get (D := D) (ci := 6) (v := .int m_5.2.2.2.2.1) (C := RX6) (T := TX6) (N := 17) hx hb htb inT_X6 hown hK hP 0 rfl rfl 14 (by decide) (htb _ tb_349) (fun _ h9 => h9) rfl dX6_choices_31 ?_
      rw [← hQ]
      exact gRetI (u := (m_2, m_5)) hx hb hr rfl h (hP.sub [0, 2, 1] rfl) (hD.sub [0, 2, 1] (by decide) rfl) hS dX6_choices_34 hlocks
    · have h := h.2 c_3
      refine lv_iconst (v := (0 : Int32)) hx hb dX6_choices_19 (by decide) ?_
      rw [← hQ]
      exact gRetI (u := (m_2, b_o)) hx hb hr rfl h (hP.sub [2, 0, 1] rfl) (hD.sub [2, 0, 1] (by decide) rfl) hS dX6_choices_20 hlocks
  unfold P_X6_choices at h
  refine lv_aload_n hx hb dX6_choices_0 rfl (lv_at hl 0 rfl) ?_
  refine lv_iload_n hx hb dX6_choices_1 rfl (lv_at hl 1 rfl) ?_
  refine gSR (As := [.int x1]) (rest := [.ref q_o]) ⟨hx, hb, hml, hown, htb⟩ hK hP hN [] rfl (c_X6_isTrait l D Cs x1 h) (va_cwS 1 htb (TB_s tb_436 tb_437 tb_5 (TB_self tb_438)) rfl rfl rfl z_X6_isTrait.2 ⟨Nat.le_of_ble_eq_true rfl, Nat.le_of_ble_eq_true rfl⟩) rfl hl.1 rfl (Nat.le_of_ble_eq_true rfl) ⟨Nat.le_of_ble_eq_true rfl, Nat.le_of_ble_eq_true rfl⟩ dX6_choices_2 (fun r_6 h => ?_)
  refine lv_if_eq (tgt := 12) hx hb dX6_choices_5 (by decide) (fun c_7 => ?_) (fun c_7 => ?_)
  · have h := h.1 c_7
    refine lv_iconst (v := (1 : Int32)) hx hb dX6_choices_12 (by decide) ?_
    exact B13 _ _ _ (1 : Int32) hP hD hS (lv_sub hl [0, 1] rfl) h
  · have h := h.2 c_7
    refine lv_iconst (v := (0 : Int32)) hx hb dX6_choices_8 (by decide) ?_
    refine lv_goto (tgt := 13) hx hb dX6_choices_9 (by decide) ?_
    exact B13 _ _ _ (0 : Int32) hP hD hS (lv_sub hl [0, 1] rfl) h
set_option maxHeartbeats 4000000 in
set_option maxRecDepth 100000 in
theorem c_X6_since (l : Launch) (D : va_G) (Cs : Nat → ClassId) (q_o : Nat) (q_o_text : Nat) (q_o_now : Nat) (q_o_trial : Nat) (q_o_diary : Nat) (q_o_kept : Nat) (q_o_isKept : Nat) (q_o_years : Nat) (sz : Nat) (v_o_refusal : Int32) (b_o : BM) (v_o_now : (Nat → Int32)) (v_o_size : Int32) (v_o_acts : Int32) (v_o_spot : Int32) (v_o_out : Int32) (x1 : Int32) (x2 : Int32) {post : Int32 → Int32 → BM → Prop} (h : P_X6_since v_o_refusal b_o v_o_now x1 x2 post) : Met l yX6_since wsX6_since ({ frames := 6, cells := 0, slots := 0, locals := 140 } : Room) (va_Pc [.ref q_o, .int x1, .int x2] (gM D Cs [(q_o, .inr (6, [.int v_o_refusal, .ref q_o_text, .int v_o_size, .ref q_o_now, .ref q_o_trial, .ref q_o_diary, .int v_o_acts, .ref q_o_kept, .ref q_o_isKept, .ref q_o_years, .int b_o.1, .int b_o.2.1, .int b_o.2.2.1, .int b_o.2.2.2.1, .int b_o.2.2.2.2.1, .int v_o_spot, .int v_o_out])), (q_o_now, gI Cs 221 v_o_now), (q_o_years, gI Cs 10 b_o.2.2.2.2.2)] sz)) (va_Qi (fun (r : Int32) (u : Int32 × BM) => post r u.1 u.2) (gB D (va_A [(q_o, .inr (6, [.int v_o_refusal, .ref q_o_text, .int v_o_size, .ref q_o_now, .ref q_o_trial, .ref q_o_diary, .int v_o_acts, .ref q_o_kept, .ref q_o_isKept, .ref q_o_years, .int b_o.1, .int b_o.2.1, .int b_o.2.2.1, .int b_o.2.2.2.1, .int b_o.2.2.2.2.1, .int v_o_spot, .int v_o_out])), (q_o_now, gI Cs 221 v_o_now), (q_o_years, gI Cs 10 b_o.2.2.2.2.2)] sz) (fun u : Int32 × BM => [(q_o, .inr (6, [.int u.1, .ref q_o_text, .int v_o_size, .ref q_o_now, .ref q_o_trial, .ref q_o_diary, .int v_o_acts, .ref q_o_kept, .ref q_o_isKept, .ref q_o_years, .int u.2.1, .int u.2.2.1, .int u.2.2.2.1, .int u.2.2.2.2.1, .int u.2.2.2.2.2.1, .int v_o_spot, .int v_o_out])), (q_o_now, gI Cs 221 v_o_now), (q_o_years, gI Cs 10 u.2.2.2.2.2.2)])) (va_A [(q_o, .inr (6, [.int v_o_refusal, .ref q_o_text, .int v_o_size, .ref q_o_now, .ref q_o_trial, .ref q_o_diary, .int v_o_acts, .ref q_o_kept, .ref q_o_isKept, .ref q_o_years, .int b_o.1, .int b_o.2.1, .int b_o.2.2.1, .int b_o.2.2.2.1, .int b_o.2.2.2.2.1, .int v_o_spot, .int v_o_out])), (q_o_now, gI Cs 221 v_o_now), (q_o_years, gI Cs 10 b_o.2.2.2.2.2)] sz)) 0 0 (va_A [(q_o, .inr (6, [.int v_o_refusal, .ref q_o_text, .int v_o_size, .ref q_o_now, .ref q_o_trial, .ref q_o_diary, .int v_o_acts, .ref q_o_kept, .ref q_o_isKept, .ref q_o_years, .int b_o.1, .int b_o.2.1, .int b_o.2.2.1, .int b_o.2.2.2.1, .int b_o.2.2.2.2.1, .int v_o_spot, .int v_o_out])), (q_o_now, gI Cs 221 v_o_now), (q_o_years, gI Cs 10 b_o.2.2.2.2.2)] sz) := by
  refine Met.ofW (cc := cX6_since) (maxL := 3) (ret := (some .int)) (by decide) rfl ?_
  intro p e s m args below meth c s₁ B hml hv
  obtain ⟨ha, hsz, hP, hK, hD0, hN⟩ := hv
  have hx := B.exec
  have hb := B.bytes
  have hr := B.returns
  have hts := atoms_spec (ws := wsX6_since) B.pre
  have htb : ∀ w ∈ TB, w.before args s = true := fun w h9 => hts w (List.mem_cons_of_mem _ h9)
  have hown : s.vm.findClass RX6 = some m.cls := findClass_of_methodNamed B.named
  have hlocks := B.notSynchronized
  subst hsz
  have hD := hD0.self (sz := s.heap.size)
  generalize hAe : va_A [(q_o, .inr (6, [.int v_o_refusal, .ref q_o_text, .int v_o_size, .ref q_o_now, .ref q_o_trial, .ref q_o_diary, .int v_o_acts, .ref q_o_kept, .ref q_o_isKept, .ref q_o_years, .int b_o.1, .int b_o.2.1, .int b_o.2.2.1, .int b_o.2.2.2.1, .int b_o.2.2.2.2.1, .int v_o_spot, .int v_o_out])), (q_o_now, gI Cs 221 v_o_now), (q_o_years, gI Cs 10 b_o.2.2.2.2.2)] s.heap.size = A at hD ⊢
  have hA : ∀ q : Nat, s.heap.size ≤ q → A q := fun q h9 => by rw [← hAe]; exact Or.inr h9
  obtain ⟨H, hH⟩ : ∃ z : Heap, z = s.heap := ⟨_, rfl⟩
  have hS : va_S A s.heap H [] := by rw [hH]; exact va_S.rf
  have hP : va_P D vwCl [(q_o, .inr (6, [.int v_o_refusal, .ref q_o_text, .int v_o_size, .ref q_o_now, .ref q_o_trial, .ref q_o_diary, .int v_o_acts, .ref q_o_kept, .ref q_o_isKept, .ref q_o_years, .int b_o.1, .int b_o.2.1, .int b_o.2.2.1, .int b_o.2.2.2.1, .int b_o.2.2.2.2.1, .int v_o_spot, .int v_o_out])), (q_o_now, gI Cs 221 v_o_now), (q_o_years, gI Cs 10 b_o.2.2.2.2.2)] H := by rw [hH]; exact hP
  generalize hQ : MQ below _ args s _ _ _ = Q
  show W p l e ({ frames := 6, cells := 0, slots := 0, locals := 140 } : Room) s m args below meth c s.heap [] 0 0 Q (entryFrame m args 3)
  have hent : entryFrame m args 3 = F0 m 0 ((lg_sl ([.ref q_o, .int x1, .int x2]) ++ List.replicate (3 - (lg_sl ([.ref q_o, .int x1, .int x2])).length) Slot.unset).toArray) [] := by rw [ha]; exact lg_entry_eq m ([.ref q_o, .int x1, .int x2]) 3
  rw [hent]; clear hent
  rw [← hH]
  have hl := lv_entry ([.ref q_o, .int x1, .int x2]) (n := 3) (Nat.le_of_ble_eq_true rfl)
  generalize (lg_sl ([.ref q_o, .int x1, .int x2]) ++ List.replicate (3 - (lg_sl ([.ref q_o, .int x1, .int x2])).length) Slot.unset).toArray = ls at hl ⊢
  have hl : lv_has ls 3 [(0, .ref q_o), (1, .int x1), (2, .int x2)] := hl
  have B28 : ∀ (H : Heap) (locs : List Loc) (ls : Array Slot) (s1 : Int32), va_P D vwCl [(q_o, .inr (6, [.int v_o_refusal, .ref q_o_text, .int v_o_size, .ref q_o_now, .ref q_o_trial, .ref q_o_diary, .int v_o_acts, .ref q_o_kept, .ref q_o_isKept, .ref q_o_years, .int b_o.1, .int b_o.2.1, .int b_o.2.2.1, .int b_o.2.2.2.1, .int b_o.2.2.2.2.1, .int v_o_spot, .int v_o_out])), (q_o_now, gI Cs 221 v_o_now), (q_o_years, gI Cs 10 b_o.2.2.2.2.2)] H → va_D A [(q_o, .inr (6, [.int v_o_refusal, .ref q_o_text, .int v_o_size, .ref q_o_now, .ref q_o_trial, .ref q_o_diary, .int v_o_acts, .ref q_o_kept, .ref q_o_isKept, .ref q_o_years, .int b_o.1, .int b_o.2.1, .int b_o.2.2.1, .int b_o.2.2.2.1, .int b_o.2.2.2.2.1, .int v_o_spot, .int v_o_out])), (q_o_now, gI Cs 221 v_o_now), (q_o_years, gI Cs 10 b_o.2.2.2.2.2)] → va_S A s.heap H locs → lv_has ls 3 [(0, .ref q_o), (1, .int x1), (2, .int x2)] → P_X6_since_b28 v_o_refusal b_o v_o_now x1 x2 post s1 → W p l e ({ frames := 6, cells := 0, slots := 0, locals := 140 } : Room) s m args below meth c H locs 0 0 Q (F0 m 28 ls [.int s1, .ref q_o]) := by
    intro H locs ls s1 hP hD hS hl h
    unfold P_X6_since_b28 at h
    refine gVM (wr := [(q_o_now, gI Cs 221 v_o_now), (q_o_years, gI Cs 10 b_o.2.2.2.2.2)]) (As := [.int s1]) (rest := []) ⟨hx, hb, hml, hown, htb⟩ hK hP hD hS hA hN [0] [1, 2] rfl (by decide) rfl (by decide) (by decide) (c_X6_refused l D Cs q_o q_o_text q_o_now q_o_trial q_o_diary q_o_kept q_o_isKept q_o_years H.size v_o_refusal v_o_size v_o_acts b_o.1 b_o.2.1 b_o.2.2.1 b_o.2.2.2.1 b_o.2.2.2.2.1 v_o_spot v_o_out s1 h) (cwV 1 htb (TB_v tb_128 tb_129 tb_130 tb_5 (TB_self tb_131)) rfl rfl rfl z_X6_refused ⟨Nat.le_of_ble_eq_true rfl, Nat.le_of_ble_eq_true rfl⟩) 0 rfl rfl rfl rfl hl.1 rfl (Nat.le_of_ble_eq_true rfl) ⟨Nat.le_of_ble_eq_true rfl, Nat.le_of_ble_eq_true rfl⟩ dX6_since_28 (fun r_1 m_2 H locs h hP hD hS => ?_)
    have hP : va_P D vwCl [(q_o_now, gI Cs 221 v_o_now), (q_o_years, gI Cs 10 b_o.2.2.2.2.2), (q_o, .inr (6, [.int m_2, .ref q_o_text, .int v_o_size, .ref q_o_now, .ref q_o_trial, .ref q_o_diary, .int v_o_acts, .ref q_o_kept, .ref q_o_isKept, .ref q_o_years, .int b_o.1, .int b_o.2.1, .int b_o.2.2.1, .int b_o.2.2.2.1, .int b_o.2.2.2.2.1, .int v_o_spot, .int v_o_out]))] H := hP
    have hD : va_D A [(q_o_now, gI Cs 221 v_o_now), (q_o_years, gI Cs 10 b_o.2.2.2.2.2), (q_o, .inr (6, [.int m_2, .ref q_o_text, .int v_o_size, .ref q_o_now, .ref q_o_trial, .ref q_o_diary, .int v_o_acts, .ref q_o_kept, .ref q_o_isKept, .ref q_o_years, .int b_o.1, .int b_o.2.1, .int b_o.2.2.1, .int b_o.2.2.2.1, .int b_o.2.2.2.2.1, .int v_o_spot, .int v_o_out]))] := hD
    refine lv_if_eq (tgt := 36) hx hb dX6_since_31 (by decide) (fun c_3 => ?_) (fun c_3 => ?_)
    · have h := h.1 c_3
      refine lv_aload_n hx hb dX6_since_36 rfl (lv_at hl 0 rfl) ?_
      refine lv_aload_n hx hb dX6_since_37 rfl (lv_at hl 0 rfl) ?_
      refine va_get (D := D) (ci := 6) (v := .ref q_o_now) (C := RX6) (T := TX6) (N := 17) hx hb htb inT_X6 hown hK hP 2 rfl rfl 3 (by decide) (htb _ tb_90) (fun _ h9 => h9) rfl dX6_since_38 ?_
      refine lv_iload_n hx hb dX6_since_41 rfl (lv_at hl 1 rfl) ?_
      refine lv_iload_n hx hb dX6_since_42 rfl (lv_at hl 2 rfl) ?_
      refine gVM (wr := []) (As := [.ref q_o_now, .int x1, .int x2]) (rest := []) ⟨hx, hb, hml, hown, htb⟩ hK hP hD hS hA hN [2, 1, 0] [] rfl (by decide) rfl (by decide) (by decide) (c_X6_sinceOn l D Cs q_o q_o_now q_o_text q_o_now q_o_trial q_o_diary q_o_kept q_o_isKept q_o_years 221 H.size b_o v_o_now m_2 v_o_size v_o_acts v_o_spot v_o_out x1 x2 h) (cwV 3 htb (TB_v tb_663 tb_664 tb_665 tb_5 (TB_self tb_666)) rfl rfl rfl z_X6_sinceOn ⟨Nat.le_of_ble_eq_true rfl, Nat.le_of_ble_eq_true rfl⟩) 2 rfl rfl rfl rfl hl.1 rfl (Nat.le_of_ble_eq_true rfl) ⟨Nat.le_of_ble_eq_true rfl, Nat.le_of_ble_eq_true rfl⟩ dX6_since_43 (fun r_4 m_5 H locs h hP hD hS => ?_)
      have hP : va_P D vwCl [(q_o, .inr (6, [.int m_2, .ref q_o_text, .int v_o_size, .ref q_o_now, .ref q_o_trial, .ref q_o_diary, .int v_o_acts, .ref q_o_kept, .ref q_o_isKept, .ref q_o_years, .int m_5.1, .int m_5.2.1, .int m_5.2.2.1, .int m_5.2.2.2.1, .int m_5.2.2.2.2.1, .int v_o_spot, .int v_o_out])), (q_o_years, gI Cs 10 m_5.2.2.2.2.2), (q_o_now, gI Cs 221 v_o_now)] H := hP
      have hD : va_D A [(q_o, .inr (6, [.int m_2, .ref q_o_text, .int v_o_size, .ref q_o_now, .ref q_o_trial, .ref q_o_diary, .int v_o_acts, .ref q_o_kept, .ref q_o_isKept, .ref q_o_years, .int m_5.1, .int m_5.2.1, .int m_5.2.2.1, .int m_5.2.2.2.1, .int m_5.2.2.2.2.1, .int v_o_spot, .int v_o_out])), (q_o_years, gI Cs 10 m_5.2.2.2.2.2), (q_o_now, gI Cs 221 v_o_now)] := hD
      rw [← hQ]
      exact gRetI (u := (m_2, m_5)) hx hb hr rfl h (hP.sub [0, 2, 1] rfl) (hD.sub [0, 2, 1] (by decide) rfl) hS dX6_since_46 hlocks
    · have h := h.2 c_3
      refine lv_iconst (v := (0 : Int32)) hx hb dX6_since_34 (by decide) ?_
      rw [← hQ]
      exact gRetI (u := (m_2, b_o)) hx hb hr rfl h (hP.sub [2, 0, 1] rfl) (hD.sub [2, 0, 1] (by decide) rfl) hS dX6_since_35 hlocks
  unfold P_X6_since at h
  refine lv_aload_n hx hb dX6_since_0 rfl (lv_at hl 0 rfl) ?_
  refine lv_aload_n hx hb dX6_since_1 rfl (lv_at hl 0 rfl) ?_
  refine va_get (D := D) (ci := 6) (v := .ref q_o_now) (C := RX6) (T := TX6) (N := 17) hx hb htb inT_X6 hown hK hP 0 rfl rfl 3 (by decide) (htb _ tb_90) (fun _ h9 => h9) rfl dX6_since_2 ?_
  refine lv_iload_n hx hb dX6_since_5 rfl (lv_at hl 1 rfl) ?_
  refine gSR (As := [.ref q_o_now, .int x1]) (rest := [.ref q_o]) ⟨hx, hb, hml, hown, htb⟩ hK hP hN [1] rfl (c_X6_isTown l D Cs q_o_now 221 v_o_now x1 h) (va_cwS 2 htb (TB_s tb_197 tb_198 tb_5 (TB_self tb_199)) rfl rfl rfl z_X6_isTown.2 ⟨Nat.le_of_ble_eq_true rfl, Nat.le_of_ble_eq_true rfl⟩) rfl hl.1 rfl (Nat.le_of_ble_eq_true rfl) ⟨Nat.le_of_ble_eq_true rfl, Nat.le_of_ble_eq_true rfl⟩ dX6_since_6 (fun r_6 h => ?_)
  refine lv_if_ne (tgt := 16) hx hb dX6_since_9 (by decide) (fun c_7 => ?_) (fun c_7 => ?_)
  · have h := h.2 c_7
    refine lv_iload_n hx hb dX6_since_16 rfl (lv_at hl 2 rfl) ?_
    refine gSR (As := [.int x2]) (rest := [.ref q_o]) ⟨hx, hb, hml, hown, htb⟩ hK hP hN [] rfl (c_X6_isTrait l D Cs x2 h) (va_cwS 1 htb (TB_s tb_436 tb_437 tb_5 (TB_self tb_438)) rfl rfl rfl z_X6_isTrait.2 ⟨Nat.le_of_ble_eq_true rfl, Nat.le_of_ble_eq_true rfl⟩) rfl hl.1 rfl (Nat.le_of_ble_eq_true rfl) ⟨Nat.le_of_ble_eq_true rfl, Nat.le_of_ble_eq_true rfl⟩ dX6_since_17 (fun r_8 h => ?_)
    refine lv_if_eq (tgt := 27) hx hb dX6_since_20 (by decide) (fun c_9 => ?_) (fun c_9 => ?_)
    · have h := h.1 c_9
      refine lv_iconst (v := (2 : Int32)) hx hb dX6_since_27 (by decide) ?_
      exact B28 _ _ _ (2 : Int32) hP hD hS (lv_sub hl [0, 1, 2] rfl) h
    · have h := h.2 c_9
      refine lv_iconst (v := (0 : Int32)) hx hb dX6_since_23 (by decide) ?_
      refine lv_goto (tgt := 28) hx hb dX6_since_24 (by decide) ?_
      exact B28 _ _ _ (0 : Int32) hP hD hS (lv_sub hl [0, 1, 2] rfl) h
  · have h := h.1 c_7
    refine lv_iconst (v := (1 : Int32)) hx hb dX6_since_12 (by decide) ?_
    refine lv_goto (tgt := 28) hx hb dX6_since_13 (by decide) ?_
    exact B28 _ _ _ (1 : Int32) hP hD hS (lv_sub hl [0, 1, 2] rfl) h
set_option maxHeartbeats 4000000 in
set_option maxRecDepth 100000 in
theorem c_X6_reached (l : Launch) (D : va_G) (Cs : Nat → ClassId) (q_o : Nat) (q_o_text : Nat) (q_o_now : Nat) (q_o_trial : Nat) (q_o_diary : Nat) (q_o_kept : Nat) (q_o_isKept : Nat) (q_o_years : Nat) (sz : Nat) (v_o_refusal : Int32) (b_o : BM) (v_o_now : (Nat → Int32)) (v_o_size : Int32) (v_o_acts : Int32) (v_o_spot : Int32) (v_o_out : Int32) (x1 : Int32) (x2 : Int32) {post : Int32 → Int32 → BM → Prop} (h : P_X6_reached v_o_refusal b_o v_o_now x1 x2 post) : Met l yX6_reached wsX6_reached ({ frames := 5, cells := 0, slots := 0, locals := 117 } : Room) (va_Pc [.ref q_o, .int x1, .int x2] (gM D Cs [(q_o, .inr (6, [.int v_o_refusal, .ref q_o_text, .int v_o_size, .ref q_o_now, .ref q_o_trial, .ref q_o_diary, .int v_o_acts, .ref q_o_kept, .ref q_o_isKept, .ref q_o_years, .int b_o.1, .int b_o.2.1, .int b_o.2.2.1, .int b_o.2.2.2.1, .int b_o.2.2.2.2.1, .int v_o_spot, .int v_o_out])), (q_o_now, gI Cs 221 v_o_now), (q_o_years, gI Cs 10 b_o.2.2.2.2.2)] sz)) (va_Qi (fun (r : Int32) (u : Int32 × BM) => post r u.1 u.2) (gB D (va_A [(q_o, .inr (6, [.int v_o_refusal, .ref q_o_text, .int v_o_size, .ref q_o_now, .ref q_o_trial, .ref q_o_diary, .int v_o_acts, .ref q_o_kept, .ref q_o_isKept, .ref q_o_years, .int b_o.1, .int b_o.2.1, .int b_o.2.2.1, .int b_o.2.2.2.1, .int b_o.2.2.2.2.1, .int v_o_spot, .int v_o_out])), (q_o_now, gI Cs 221 v_o_now), (q_o_years, gI Cs 10 b_o.2.2.2.2.2)] sz) (fun u : Int32 × BM => [(q_o, .inr (6, [.int u.1, .ref q_o_text, .int v_o_size, .ref q_o_now, .ref q_o_trial, .ref q_o_diary, .int v_o_acts, .ref q_o_kept, .ref q_o_isKept, .ref q_o_years, .int u.2.1, .int u.2.2.1, .int u.2.2.2.1, .int u.2.2.2.2.1, .int u.2.2.2.2.2.1, .int v_o_spot, .int v_o_out])), (q_o_now, gI Cs 221 v_o_now), (q_o_years, gI Cs 10 u.2.2.2.2.2.2)])) (va_A [(q_o, .inr (6, [.int v_o_refusal, .ref q_o_text, .int v_o_size, .ref q_o_now, .ref q_o_trial, .ref q_o_diary, .int v_o_acts, .ref q_o_kept, .ref q_o_isKept, .ref q_o_years, .int b_o.1, .int b_o.2.1, .int b_o.2.2.1, .int b_o.2.2.2.1, .int b_o.2.2.2.2.1, .int v_o_spot, .int v_o_out])), (q_o_now, gI Cs 221 v_o_now), (q_o_years, gI Cs 10 b_o.2.2.2.2.2)] sz)) 0 0 (va_A [(q_o, .inr (6, [.int v_o_refusal, .ref q_o_text, .int v_o_size, .ref q_o_now, .ref q_o_trial, .ref q_o_diary, .int v_o_acts, .ref q_o_kept, .ref q_o_isKept, .ref q_o_years, .int b_o.1, .int b_o.2.1, .int b_o.2.2.1, .int b_o.2.2.2.1, .int b_o.2.2.2.2.1, .int v_o_spot, .int v_o_out])), (q_o_now, gI Cs 221 v_o_now), (q_o_years, gI Cs 10 b_o.2.2.2.2.2)] sz) := by
  refine Met.ofW (cc := cX6_reached) (maxL := 6) (ret := (some .int)) (by decide) rfl ?_
  intro p e s m args below meth c s₁ B hml hv
  obtain ⟨ha, hsz, hP, hK, hD0, hN⟩ := hv
  have hx := B.exec
  have hb := B.bytes
  have hr := B.returns
  have hts := atoms_spec (ws := wsX6_reached) B.pre
  have htb : ∀ w ∈ TB, w.before args s = true := fun w h9 => hts w (List.mem_cons_of_mem _ h9)
  have hown : s.vm.findClass RX6 = some m.cls := findClass_of_methodNamed B.named
  have hlocks := B.notSynchronized
  subst hsz
  have hD := hD0.self (sz := s.heap.size)
  generalize hAe : va_A [(q_o, .inr (6, [.int v_o_refusal, .ref q_o_text, .int v_o_size, .ref q_o_now, .ref q_o_trial, .ref q_o_diary, .int v_o_acts, .ref q_o_kept, .ref q_o_isKept, .ref q_o_years, .int b_o.1, .int b_o.2.1, .int b_o.2.2.1, .int b_o.2.2.2.1, .int b_o.2.2.2.2.1, .int v_o_spot, .int v_o_out])), (q_o_now, gI Cs 221 v_o_now), (q_o_years, gI Cs 10 b_o.2.2.2.2.2)] s.heap.size = A at hD ⊢
  have hA : ∀ q : Nat, s.heap.size ≤ q → A q := fun q h9 => by rw [← hAe]; exact Or.inr h9
  obtain ⟨H, hH⟩ : ∃ z : Heap, z = s.heap := ⟨_, rfl⟩
  have hS : va_S A s.heap H [] := by rw [hH]; exact va_S.rf
  have hP : va_P D vwCl [(q_o, .inr (6, [.int v_o_refusal, .ref q_o_text, .int v_o_size, .ref q_o_now, .ref q_o_trial, .ref q_o_diary, .int v_o_acts, .ref q_o_kept, .ref q_o_isKept, .ref q_o_years, .int b_o.1, .int b_o.2.1, .int b_o.2.2.1, .int b_o.2.2.2.1, .int b_o.2.2.2.2.1, .int v_o_spot, .int v_o_out])), (q_o_now, gI Cs 221 v_o_now), (q_o_years, gI Cs 10 b_o.2.2.2.2.2)] H := by rw [hH]; exact hP
  generalize hQ : MQ below _ args s _ _ _ = Q
  show W p l e ({ frames := 5, cells := 0, slots := 0, locals := 117 } : Room) s m args below meth c s.heap [] 0 0 Q (entryFrame m args 6)
  have hent : entryFrame m args 6 = F0 m 0 ((lg_sl ([.ref q_o, .int x1, .int x2]) ++ List.replicate (6 - (lg_sl ([.ref q_o, .int x1, .int x2])).length) Slot.unset).toArray) [] := by rw [ha]; exact lg_entry_eq m ([.ref q_o, .int x1, .int x2]) 6
  rw [hent]; clear hent
  rw [← hH]
  have hl := lv_entry ([.ref q_o, .int x1, .int x2]) (n := 6) (Nat.le_of_ble_eq_true rfl)
  generalize (lg_sl ([.ref q_o, .int x1, .int x2]) ++ List.replicate (6 - (lg_sl ([.ref q_o, .int x1, .int x2])).length) Slot.unset).toArray = ls at hl ⊢
  have hl : lv_has ls 6 [(0, .ref q_o), (1, .int x1), (2, .int x2)] := hl
  have L36 : ∀ (n : Nat) (H : Heap) (locs : List Loc) (ls : Array Slot) (w_o_refusal : Int32) (d_o : BM) (x3 : Int32), va_P D vwCl [(q_o, .inr (6, [.int w_o_refusal, .ref q_o_text, .int v_o_size, .ref q_o_now, .ref q_o_trial, .ref q_o_diary, .int v_o_acts, .ref q_o_kept, .ref q_o_isKept, .ref q_o_years, .int d_o.1, .int d_o.2.1, .int d_o.2.2.1, .int d_o.2.2.2.1, .int d_o.2.2.2.2.1, .int v_o_spot, .int v_o_out])), (q_o_now, gI Cs 221 v_o_now), (q_o_years, gI Cs 10 d_o.2.2.2.2.2)] H → va_D A [(q_o, .inr (6, [.int w_o_refusal, .ref q_o_text, .int v_o_size, .ref q_o_now, .ref q_o_trial, .ref q_o_diary, .int v_o_acts, .ref q_o_kept, .ref q_o_isKept, .ref q_o_years, .int d_o.1, .int d_o.2.1, .int d_o.2.2.1, .int d_o.2.2.2.1, .int d_o.2.2.2.2.1, .int v_o_spot, .int v_o_out])), (q_o_now, gI Cs 221 v_o_now), (q_o_years, gI Cs 10 d_o.2.2.2.2.2)] → va_S A s.heap H locs → lv_has ls 6 [(0, .ref q_o), (1, .int x1), (2, .int x2), (3, .int x3)] → P_X6_reached_l36 v_o_refusal b_o v_o_now x1 x2 post n w_o_refusal d_o x3 → W p l e ({ frames := 5, cells := 0, slots := 0, locals := 117 } : Room) s m args below meth c H locs 0 0 Q (F0 m 36 ls []) := by
    intro n36
    induction n36 with
    | zero => intro H locs ls w_o_refusal d_o x3 hP hD hS hl h; exact False.elim h
    | succ n36 ih36 =>
      have B137 : ∀ (H : Heap) (locs : List Loc) (ls : Array Slot) (w_o_refusal : Int32) (d_o : BM) (x3 : Int32), va_P D vwCl [(q_o, .inr (6, [.int w_o_refusal, .ref q_o_text, .int v_o_size, .ref q_o_now, .ref q_o_trial, .ref q_o_diary, .int v_o_acts, .ref q_o_kept, .ref q_o_isKept, .ref q_o_years, .int d_o.1, .int d_o.2.1, .int d_o.2.2.1, .int d_o.2.2.2.1, .int d_o.2.2.2.2.1, .int v_o_spot, .int v_o_out])), (q_o_now, gI Cs 221 v_o_now), (q_o_years, gI Cs 10 d_o.2.2.2.2.2)] H → va_D A [(q_o, .inr (6, [.int w_o_refusal, .ref q_o_text, .int v_o_size, .ref q_o_now, .ref q_o_trial, .ref q_o_diary, .int v_o_acts, .ref q_o_kept, .ref q_o_isKept, .ref q_o_years, .int d_o.1, .int d_o.2.1, .int d_o.2.2.1, .int d_o.2.2.2.1, .int d_o.2.2.2.2.1, .int v_o_spot, .int v_o_out])), (q_o_now, gI Cs 221 v_o_now), (q_o_years, gI Cs 10 d_o.2.2.2.2.2)] → va_S A s.heap H locs → lv_has ls 6 [(0, .ref q_o), (1, .int x1), (2, .int x2), (3, .int x3)] → P_X6_reached_b137 v_o_refusal b_o v_o_now x1 x2 post (P_X6_reached_l36 v_o_refusal b_o v_o_now x1 x2 post n36) w_o_refusal d_o x3 → W p l e ({ frames := 5, cells := 0, slots := 0, locals := 117 } : Room) s m args below meth c H locs 0 0 Q (F0 m 137 ls []) := by
        intro H locs ls w_o_refusal d_o x3 hP hD hS hl h
        unfold P_X6_reached_b137 at h
        obtain ⟨x3_3, ex3_3⟩ : ∃ y : Int32, y = x3 + (1 : Int32) := ⟨_, rfl⟩
        have h := h _ ex3_3
        refine lv_iinc (v := x3_3) (lv' := [(3, .int x3_3), (0, .ref q_o), (1, .int x1), (2, .int x2)]) hx hb dX6_reached_137 hl (k := 3) rfl (by rw [ex3_3]; rfl) (by decide) rfl (fun ls hl => ?_)
        refine lv_goto (tgt := 36) hx hb dX6_reached_140 (by decide) ?_
        exact ih36 _ _ _ w_o_refusal d_o x3_3 hP hD hS (lv_sub hl [1, 2, 3, 0] rfl) h
      have L52 : ∀ (n : Nat) (H : Heap) (locs : List Loc) (ls : Array Slot) (w_o_refusal : Int32) (d_o : BM) (x3 : Int32) (x4 : Int32) (x5 : Int32), va_P D vwCl [(q_o, .inr (6, [.int w_o_refusal, .ref q_o_text, .int v_o_size, .ref q_o_now, .ref q_o_trial, .ref q_o_diary, .int v_o_acts, .ref q_o_kept, .ref q_o_isKept, .ref q_o_years, .int d_o.1, .int d_o.2.1, .int d_o.2.2.1, .int d_o.2.2.2.1, .int d_o.2.2.2.2.1, .int v_o_spot, .int v_o_out])), (q_o_now, gI Cs 221 v_o_now), (q_o_years, gI Cs 10 d_o.2.2.2.2.2)] H → va_D A [(q_o, .inr (6, [.int w_o_refusal, .ref q_o_text, .int v_o_size, .ref q_o_now, .ref q_o_trial, .ref q_o_diary, .int v_o_acts, .ref q_o_kept, .ref q_o_isKept, .ref q_o_years, .int d_o.1, .int d_o.2.1, .int d_o.2.2.1, .int d_o.2.2.2.1, .int d_o.2.2.2.2.1, .int v_o_spot, .int v_o_out])), (q_o_now, gI Cs 221 v_o_now), (q_o_years, gI Cs 10 d_o.2.2.2.2.2)] → va_S A s.heap H locs → lv_has ls 6 [(0, .ref q_o), (1, .int x1), (2, .int x2), (3, .int x3), (4, .int x4), (5, .int x5)] → P_X6_reached_l52 v_o_refusal b_o v_o_now x1 x2 post (P_X6_reached_l36 v_o_refusal b_o v_o_now x1 x2 post n36) n w_o_refusal d_o x3 x4 x5 → W p l e ({ frames := 5, cells := 0, slots := 0, locals := 117 } : Room) s m args below meth c H locs 0 0 Q (F0 m 52 ls []) := by
        intro n52
        induction n52 with
        | zero => intro H locs ls w_o_refusal d_o x3 x4 x5 hP hD hS hl h; exact False.elim h
        | succ n52 ih52 =>
          have B108 : ∀ (H : Heap) (locs : List Loc) (ls : Array Slot) (w_o_refusal : Int32) (d_o : BM) (x3 : Int32) (x5 : Int32) (s0 : Int32) (s1 : Int32), va_P D vwCl [(q_o, .inr (6, [.int w_o_refusal, .ref q_o_text, .int v_o_size, .ref q_o_now, .ref q_o_trial, .ref q_o_diary, .int v_o_acts, .ref q_o_kept, .ref q_o_isKept, .ref q_o_years, .int d_o.1, .int d_o.2.1, .int d_o.2.2.1, .int d_o.2.2.2.1, .int d_o.2.2.2.2.1, .int v_o_spot, .int v_o_out])), (q_o_now, gI Cs 221 v_o_now), (q_o_years, gI Cs 10 d_o.2.2.2.2.2)] H → va_D A [(q_o, .inr (6, [.int w_o_refusal, .ref q_o_text, .int v_o_size, .ref q_o_now, .ref q_o_trial, .ref q_o_diary, .int v_o_acts, .ref q_o_kept, .ref q_o_isKept, .ref q_o_years, .int d_o.1, .int d_o.2.1, .int d_o.2.2.1, .int d_o.2.2.2.1, .int d_o.2.2.2.2.1, .int v_o_spot, .int v_o_out])), (q_o_now, gI Cs 221 v_o_now), (q_o_years, gI Cs 10 d_o.2.2.2.2.2)] → va_S A s.heap H locs → lv_has ls 6 [(0, .ref q_o), (1, .int x1), (2, .int x2), (3, .int x3), (5, .int x5)] → P_X6_reached_b108 v_o_refusal b_o v_o_now x1 x2 post (P_X6_reached_l36 v_o_refusal b_o v_o_now x1 x2 post n36) (P_X6_reached_l52 v_o_refusal b_o v_o_now x1 x2 post (P_X6_reached_l36 v_o_refusal b_o v_o_now x1 x2 post n36) n52) w_o_refusal d_o x3 x5 s0 s1 → W p l e ({ frames := 5, cells := 0, slots := 0, locals := 117 } : Room) s m args below meth c H locs 0 0 Q (F0 m 108 ls [.int s1, .int s0]) := by
            intro H locs ls w_o_refusal d_o x3 x5 s0 s1 hP hD hS hl h
            unfold P_X6_reached_b108 at h
            refine lv_iadd hx hb dX6_reached_108 ?_
            refine lv_topi (fun x4_1 ex4_1 => ?_)
            have h := h _ ex4_1
            refine lv_istore (lv' := [(4, .int x4_1), (0, .ref q_o), (1, .int x1), (2, .int x2), (3, .int x3), (5, .int x5)]) hx hb dX6_reached_109 hl (by decide) rfl (fun ls hl => ?_)
            obtain ⟨x5_2, ex5_2⟩ : ∃ y : Int32, y = x5 + (1 : Int32) := ⟨_, rfl⟩
            have h := h _ ex5_2
            refine lv_iinc (v := x5_2) (lv' := [(5, .int x5_2), (4, .int x4_1), (0, .ref q_o), (1, .int x1), (2, .int x2), (3, .int x3)]) hx hb dX6_reached_111 hl (k := 5) rfl (by rw [ex5_2]; rfl) (by decide) rfl (fun ls hl => ?_)
            refine lv_goto (tgt := 52) hx hb dX6_reached_114 (by decide) ?_
            exact ih52 _ _ _ w_o_refusal d_o x3 x4_1 x5_2 hP hD hS (lv_sub hl [2, 3, 4, 5, 1, 0] rfl) h
          have B103 : ∀ (H : Heap) (locs : List Loc) (ls : Array Slot) (w_o_refusal : Int32) (d_o : BM) (x3 : Int32) (x5 : Int32) (s0 : Int32), va_P D vwCl [(q_o, .inr (6, [.int w_o_refusal, .ref q_o_text, .int v_o_size, .ref q_o_now, .ref q_o_trial, .ref q_o_diary, .int v_o_acts, .ref q_o_kept, .ref q_o_isKept, .ref q_o_years, .int d_o.1, .int d_o.2.1, .int d_o.2.2.1, .int d_o.2.2.2.1, .int d_o.2.2.2.2.1, .int v_o_spot, .int v_o_out])), (q_o_now, gI Cs 221 v_o_now), (q_o_years, gI Cs 10 d_o.2.2.2.2.2)] H → va_D A [(q_o, .inr (6, [.int w_o_refusal, .ref q_o_text, .int v_o_size, .ref q_o_now, .ref q_o_trial, .ref q_o_diary, .int v_o_acts, .ref q_o_kept, .ref q_o_isKept, .ref q_o_years, .int d_o.1, .int d_o.2.1, .int d_o.2.2.1, .int d_o.2.2.2.1, .int d_o.2.2.2.2.1, .int v_o_spot, .int v_o_out])), (q_o_now, gI Cs 221 v_o_now), (q_o_years, gI Cs 10 d_o.2.2.2.2.2)] → va_S A s.heap H locs → lv_has ls 6 [(0, .ref q_o), (1, .int x1), (2, .int x2), (3, .int x3), (5, .int x5)] → P_X6_reached_b103 v_o_refusal b_o v_o_now x1 x2 post (P_X6_reached_l36 v_o_refusal b_o v_o_now x1 x2 post n36) (P_X6_reached_l52 v_o_refusal b_o v_o_now x1 x2 post (P_X6_reached_l36 v_o_refusal b_o v_o_now x1 x2 post n36) n52) w_o_refusal d_o x3 x5 s0 → W p l e ({ frames := 5, cells := 0, slots := 0, locals := 117 } : Room) s m args below meth c H locs 0 0 Q (F0 m 103 ls [.int s0]) := by
            intro H locs ls w_o_refusal d_o x3 x5 s0 hP hD hS hl h
            unfold P_X6_reached_b103 at h
            refine lv_iconst (v := (1 : Int32)) hx hb dX6_reached_103 (by decide) ?_
            refine lv_goto (tgt := 108) hx hb dX6_reached_104 (by decide) ?_
            exact B108 _ _ _ w_o_refusal d_o x3 x5 s0 (1 : Int32) hP hD hS (lv_sub hl [0, 1, 2, 3, 4] rfl) h
          have B107 : ∀ (H : Heap) (locs : List Loc) (ls : Array Slot) (w_o_refusal : Int32) (d_o : BM) (x3 : Int32) (x5 : Int32) (s0 : Int32), va_P D vwCl [(q_o, .inr (6, [.int w_o_refusal, .ref q_o_text, .int v_o_size, .ref q_o_now, .ref q_o_trial, .ref q_o_diary, .int v_o_acts, .ref q_o_kept, .ref q_o_isKept, .ref q_o_years, .int d_o.1, .int d_o.2.1, .int d_o.2.2.1, .int d_o.2.2.2.1, .int d_o.2.2.2.2.1, .int v_o_spot, .int v_o_out])), (q_o_now, gI Cs 221 v_o_now), (q_o_years, gI Cs 10 d_o.2.2.2.2.2)] H → va_D A [(q_o, .inr (6, [.int w_o_refusal, .ref q_o_text, .int v_o_size, .ref q_o_now, .ref q_o_trial, .ref q_o_diary, .int v_o_acts, .ref q_o_kept, .ref q_o_isKept, .ref q_o_years, .int d_o.1, .int d_o.2.1, .int d_o.2.2.1, .int d_o.2.2.2.1, .int d_o.2.2.2.2.1, .int v_o_spot, .int v_o_out])), (q_o_now, gI Cs 221 v_o_now), (q_o_years, gI Cs 10 d_o.2.2.2.2.2)] → va_S A s.heap H locs → lv_has ls 6 [(0, .ref q_o), (1, .int x1), (2, .int x2), (3, .int x3), (5, .int x5)] → P_X6_reached_b107 v_o_refusal b_o v_o_now x1 x2 post (P_X6_reached_l36 v_o_refusal b_o v_o_now x1 x2 post n36) (P_X6_reached_l52 v_o_refusal b_o v_o_now x1 x2 post (P_X6_reached_l36 v_o_refusal b_o v_o_now x1 x2 post n36) n52) w_o_refusal d_o x3 x5 s0 → W p l e ({ frames := 5, cells := 0, slots := 0, locals := 117 } : Room) s m args below meth c H locs 0 0 Q (F0 m 107 ls [.int s0]) := by
            intro H locs ls w_o_refusal d_o x3 x5 s0 hP hD hS hl h
            unfold P_X6_reached_b107 at h
            refine lv_iconst (v := (0 : Int32)) hx hb dX6_reached_107 (by decide) ?_
            exact B108 _ _ _ w_o_refusal d_o x3 x5 s0 (0 : Int32) hP hD hS (lv_sub hl [0, 1, 2, 3, 4] rfl) h
          intro H locs ls w_o_refusal d_o x3 x4 x5 hP hD hS hl h
          replace h : P_X6_reached_b52 v_o_refusal b_o v_o_now x1 x2 post (P_X6_reached_l36 v_o_refusal b_o v_o_now x1 x2 post n36) (P_X6_reached_l52 v_o_refusal b_o v_o_now x1 x2 post (P_X6_reached_l36 v_o_refusal b_o v_o_now x1 x2 post n36) n52) w_o_refusal d_o x3 x4 x5 := h
          unfold P_X6_reached_b52 at h
          refine lv_iload hx hb dX6_reached_52 (lv_at hl 5 rfl) ?_
          refine lv_aload_n hx hb dX6_reached_54 rfl (lv_at hl 0 rfl) ?_
          refine va_get (D := D) (ci := 6) (v := .ref q_o_now) (C := RX6) (T := TX6) (N := 17) hx hb htb inT_X6 hown hK hP 0 rfl rfl 3 (by decide) (htb _ tb_90) (fun _ h9 => h9) rfl dX6_reached_55 ?_
          refine lv_iconst (v := (0 : Int32)) hx hb dX6_reached_58 (by decide) ?_
          refine va_iald hx hb hK hP 1 0 rfl rfl (by unfold vp_in; decide) dX6_reached_59 ?_
          refine lv_icmp_ge (tgt := 117) hx hb dX6_reached_60 (by decide) (fun c_4 => ?_) (fun c_4 => ?_)
          · have h := h.1 c_4
            refine lv_aload_n hx hb dX6_reached_117 rfl (lv_at hl 0 rfl) ?_
            refine va_get (D := D) (ci := 6) (v := .ref q_o_years) (C := RX6) (T := TX6) (N := 17) hx hb htb inT_X6 hown hK hP 0 rfl rfl 9 (by decide) (htb _ tb_95) (fun _ h9 => h9) rfl dX6_reached_118 ?_
            refine lv_iload_n hx hb dX6_reached_121 rfl (lv_at hl 3 rfl) ?_
            obtain ⟨hi_5, h⟩ := h
            refine va_iald hx hb hK hP 2 0 rfl rfl hi_5 dX6_reached_122 ?_
            refine lv_sipush (v := (1000 : Int32)) hx hb dX6_reached_123 (by decide) ?_
            refine lv_icmp_ge (tgt := 137) hx hb dX6_reached_126 (by decide) (fun c_6 => ?_) (fun c_6 => ?_)
            · have h := h.1 c_6
              exact B137 _ _ _ w_o_refusal d_o x3 hP hD hS (lv_sub hl [0, 1, 2, 3] rfl) h
            · have h := h.2 c_6
              refine lv_iload hx hb dX6_reached_129 (lv_at hl 4 rfl) ?_
              refine lv_iload_n hx hb dX6_reached_131 rfl (lv_at hl 2 rfl) ?_
              refine lv_icmp_ne (tgt := 137) hx hb dX6_reached_132 (by decide) (fun c_7 => ?_) (fun c_7 => ?_)
              · have h := h.2 c_7
                exact B137 _ _ _ w_o_refusal d_o x3 hP hD hS (lv_sub hl [0, 1, 2, 3] rfl) h
              · have h := h.1 c_7
                refine lv_iload_n hx hb dX6_reached_135 rfl (lv_at hl 3 rfl) ?_
                rw [← hQ]
                exact gRetI (u := (w_o_refusal, d_o)) hx hb hr rfl h hP hD hS dX6_reached_136 hlocks
          · have h := h.2 c_4
            refine lv_iload hx hb dX6_reached_63 (lv_at hl 4 rfl) ?_
            refine lv_aload_n hx hb dX6_reached_65 rfl (lv_at hl 0 rfl) ?_
            refine va_get (D := D) (ci := 6) (v := .ref q_o_years) (C := RX6) (T := TX6) (N := 17) hx hb htb inT_X6 hown hK hP 0 rfl rfl 9 (by decide) (htb _ tb_95) (fun _ h9 => h9) rfl dX6_reached_66 ?_
            refine lv_iload hx hb dX6_reached_69 (lv_at hl 5 rfl) ?_
            obtain ⟨hi_8, h⟩ := h
            refine va_iald hx hb hK hP 2 0 rfl rfl hi_8 dX6_reached_71 ?_
            refine lv_aload_n hx hb dX6_reached_72 rfl (lv_at hl 0 rfl) ?_
            refine va_get (D := D) (ci := 6) (v := .ref q_o_years) (C := RX6) (T := TX6) (N := 17) hx hb htb inT_X6 hown hK hP 0 rfl rfl 9 (by decide) (htb _ tb_95) (fun _ h9 => h9) rfl dX6_reached_73 ?_
            refine lv_iload_n hx hb dX6_reached_76 rfl (lv_at hl 3 rfl) ?_
            obtain ⟨hi_9, h⟩ := h
            refine va_iald hx hb hK hP 2 0 rfl rfl hi_9 dX6_reached_77 ?_
            refine lv_icmp_lt (tgt := 103) hx hb dX6_reached_78 (by decide) (fun c_10 => ?_) (fun c_10 => ?_)
            · have h := h.1 c_10
              exact B103 _ _ _ w_o_refusal d_o x3 x5 x4 hP hD hS (lv_sub hl [0, 1, 2, 3, 5] rfl) h
            · have h := h.2 c_10
              refine lv_aload_n hx hb dX6_reached_81 rfl (lv_at hl 0 rfl) ?_
              refine va_get (D := D) (ci := 6) (v := .ref q_o_years) (C := RX6) (T := TX6) (N := 17) hx hb htb inT_X6 hown hK hP 0 rfl rfl 9 (by decide) (htb _ tb_95) (fun _ h9 => h9) rfl dX6_reached_82 ?_
              refine lv_iload hx hb dX6_reached_85 (lv_at hl 5 rfl) ?_
              obtain ⟨hi_11, h⟩ := h
              refine va_iald hx hb hK hP 2 0 rfl rfl hi_11 dX6_reached_87 ?_
              refine lv_aload_n hx hb dX6_reached_88 rfl (lv_at hl 0 rfl) ?_
              refine va_get (D := D) (ci := 6) (v := .ref q_o_years) (C := RX6) (T := TX6) (N := 17) hx hb htb inT_X6 hown hK hP 0 rfl rfl 9 (by decide) (htb _ tb_95) (fun _ h9 => h9) rfl dX6_reached_89 ?_
              refine lv_iload_n hx hb dX6_reached_92 rfl (lv_at hl 3 rfl) ?_
              obtain ⟨hi_12, h⟩ := h
              refine va_iald hx hb hK hP 2 0 rfl rfl hi_12 dX6_reached_93 ?_
              refine lv_icmp_ne (tgt := 107) hx hb dX6_reached_94 (by decide) (fun c_13 => ?_) (fun c_13 => ?_)
              · have h := h.2 c_13
                exact B107 _ _ _ w_o_refusal d_o x3 x5 x4 hP hD hS (lv_sub hl [0, 1, 2, 3, 5] rfl) h
              · have h := h.1 c_13
                refine lv_iload hx hb dX6_reached_97 (lv_at hl 5 rfl) ?_
                refine lv_iload_n hx hb dX6_reached_99 rfl (lv_at hl 3 rfl) ?_
                refine lv_icmp_ge (tgt := 107) hx hb dX6_reached_100 (by decide) (fun c_14 => ?_) (fun c_14 => ?_)
                · have h := h.1 c_14
                  exact B107 _ _ _ w_o_refusal d_o x3 x5 x4 hP hD hS (lv_sub hl [0, 1, 2, 3, 5] rfl) h
                · have h := h.2 c_14
                  exact B103 _ _ _ w_o_refusal d_o x3 x5 x4 hP hD hS (lv_sub hl [0, 1, 2, 3, 5] rfl) h
      intro H locs ls w_o_refusal d_o x3 hP hD hS hl h
      replace h : P_X6_reached_b36 v_o_refusal b_o v_o_now x1 x2 post (P_X6_reached_l36 v_o_refusal b_o v_o_now x1 x2 post n36) w_o_refusal d_o x3 := h
      unfold P_X6_reached_b36 at h
      refine lv_iload_n hx hb dX6_reached_36 rfl (lv_at hl 3 rfl) ?_
      refine lv_aload_n hx hb dX6_reached_37 rfl (lv_at hl 0 rfl) ?_
      refine va_get (D := D) (ci := 6) (v := .ref q_o_now) (C := RX6) (T := TX6) (N := 17) hx hb htb inT_X6 hown hK hP 0 rfl rfl 3 (by decide) (htb _ tb_90) (fun _ h9 => h9) rfl dX6_reached_38 ?_
      refine lv_iconst (v := (0 : Int32)) hx hb dX6_reached_41 (by decide) ?_
      refine va_iald hx hb hK hP 1 0 rfl rfl (by unfold vp_in; decide) dX6_reached_42 ?_
      refine lv_icmp_ge (tgt := 143) hx hb dX6_reached_43 (by decide) (fun c_15 => ?_) (fun c_15 => ?_)
      · have h := h.1 c_15
        refine lv_iconst (v := (-1 : Int32)) hx hb dX6_reached_143 (by decide) ?_
        rw [← hQ]
        exact gRetI (u := (w_o_refusal, d_o)) hx hb hr rfl h hP hD hS dX6_reached_144 hlocks
      · have h := h.2 c_15
        refine lv_iconst (v := (0 : Int32)) hx hb dX6_reached_46 (by decide) ?_
        refine lv_istore (lv' := [(4, .int (0 : Int32)), (0, .ref q_o), (1, .int x1), (2, .int x2), (3, .int x3)]) hx hb dX6_reached_47 hl (by decide) rfl (fun ls hl => ?_)
        refine lv_iconst (v := (0 : Int32)) hx hb dX6_reached_49 (by decide) ?_
        refine lv_istore (lv' := [(5, .int (0 : Int32)), (4, .int (0 : Int32)), (0, .ref q_o), (1, .int x1), (2, .int x2), (3, .int x3)]) hx hb dX6_reached_50 hl (by decide) rfl (fun ls hl => ?_)
        obtain ⟨n, h⟩ := h
        exact L52 n _ _ _ w_o_refusal d_o x3 (0 : Int32) (0 : Int32) hP hD hS (lv_sub hl [2, 3, 4, 5, 1, 0] rfl) h
  have B17 : ∀ (H : Heap) (locs : List Loc) (ls : Array Slot) (s1 : Int32), va_P D vwCl [(q_o, .inr (6, [.int v_o_refusal, .ref q_o_text, .int v_o_size, .ref q_o_now, .ref q_o_trial, .ref q_o_diary, .int v_o_acts, .ref q_o_kept, .ref q_o_isKept, .ref q_o_years, .int b_o.1, .int b_o.2.1, .int b_o.2.2.1, .int b_o.2.2.2.1, .int b_o.2.2.2.2.1, .int v_o_spot, .int v_o_out])), (q_o_now, gI Cs 221 v_o_now), (q_o_years, gI Cs 10 b_o.2.2.2.2.2)] H → va_D A [(q_o, .inr (6, [.int v_o_refusal, .ref q_o_text, .int v_o_size, .ref q_o_now, .ref q_o_trial, .ref q_o_diary, .int v_o_acts, .ref q_o_kept, .ref q_o_isKept, .ref q_o_years, .int b_o.1, .int b_o.2.1, .int b_o.2.2.1, .int b_o.2.2.2.1, .int b_o.2.2.2.2.1, .int v_o_spot, .int v_o_out])), (q_o_now, gI Cs 221 v_o_now), (q_o_years, gI Cs 10 b_o.2.2.2.2.2)] → va_S A s.heap H locs → lv_has ls 6 [(0, .ref q_o), (1, .int x1), (2, .int x2)] → P_X6_reached_b17 v_o_refusal b_o v_o_now x1 x2 post s1 → W p l e ({ frames := 5, cells := 0, slots := 0, locals := 117 } : Room) s m args below meth c H locs 0 0 Q (F0 m 17 ls [.int s1, .ref q_o]) := by
    intro H locs ls s1 hP hD hS hl h
    unfold P_X6_reached_b17 at h
    refine gVM (wr := [(q_o_now, gI Cs 221 v_o_now), (q_o_years, gI Cs 10 b_o.2.2.2.2.2)]) (As := [.int s1]) (rest := []) ⟨hx, hb, hml, hown, htb⟩ hK hP hD hS hA hN [0] [1, 2] rfl (by decide) rfl (by decide) (by decide) (c_X6_refused l D Cs q_o q_o_text q_o_now q_o_trial q_o_diary q_o_kept q_o_isKept q_o_years H.size v_o_refusal v_o_size v_o_acts b_o.1 b_o.2.1 b_o.2.2.1 b_o.2.2.2.1 b_o.2.2.2.2.1 v_o_spot v_o_out s1 h) (cwV 1 htb (TB_v tb_128 tb_129 tb_130 tb_5 (TB_self tb_131)) rfl rfl rfl z_X6_refused ⟨Nat.le_of_ble_eq_true rfl, Nat.le_of_ble_eq_true rfl⟩) 0 rfl rfl rfl rfl hl.1 rfl (Nat.le_of_ble_eq_true rfl) ⟨Nat.le_of_ble_eq_true rfl, Nat.le_of_ble_eq_true rfl⟩ dX6_reached_17 (fun r_16 m_17 H locs h hP hD hS => ?_)
    have hP : va_P D vwCl [(q_o_now, gI Cs 221 v_o_now), (q_o_years, gI Cs 10 b_o.2.2.2.2.2), (q_o, .inr (6, [.int m_17, .ref q_o_text, .int v_o_size, .ref q_o_now, .ref q_o_trial, .ref q_o_diary, .int v_o_acts, .ref q_o_kept, .ref q_o_isKept, .ref q_o_years, .int b_o.1, .int b_o.2.1, .int b_o.2.2.1, .int b_o.2.2.2.1, .int b_o.2.2.2.2.1, .int v_o_spot, .int v_o_out]))] H := hP
    have hD : va_D A [(q_o_now, gI Cs 221 v_o_now), (q_o_years, gI Cs 10 b_o.2.2.2.2.2), (q_o, .inr (6, [.int m_17, .ref q_o_text, .int v_o_size, .ref q_o_now, .ref q_o_trial, .ref q_o_diary, .int v_o_acts, .ref q_o_kept, .ref q_o_isKept, .ref q_o_years, .int b_o.1, .int b_o.2.1, .int b_o.2.2.1, .int b_o.2.2.2.1, .int b_o.2.2.2.2.1, .int v_o_spot, .int v_o_out]))] := hD
    refine lv_if_eq (tgt := 25) hx hb dX6_reached_20 (by decide) (fun c_18 => ?_) (fun c_18 => ?_)
    · have h := h.1 c_18
      refine lv_aload_n hx hb dX6_reached_25 rfl (lv_at hl 0 rfl) ?_
      refine lv_aload_n hx hb dX6_reached_26 rfl (lv_at hl 0 rfl) ?_
      refine va_get (D := D) (ci := 6) (v := .ref q_o_now) (C := RX6) (T := TX6) (N := 17) hx hb htb inT_X6 hown hK hP 2 rfl rfl 3 (by decide) (htb _ tb_90) (fun _ h9 => h9) rfl dX6_reached_27 ?_
      refine lv_iload_n hx hb dX6_reached_30 rfl (lv_at hl 1 rfl) ?_
      refine gVMv (wr := []) (As := [.ref q_o_now, .int x1]) (rest := []) ⟨hx, hb, hml, hown, htb⟩ hK hP hD hS hA hN [2, 1, 0] [] rfl (by decide) rfl (by decide) (by decide) (c_X6_layYears l D Cs q_o q_o_now q_o_text q_o_now q_o_trial q_o_diary q_o_kept q_o_isKept q_o_years 221 H.size b_o v_o_now m_17 v_o_size v_o_acts v_o_spot v_o_out x1 h) (cwV 2 htb (TB_v tb_667 tb_668 tb_669 tb_5 (TB_self tb_670)) rfl rfl rfl z_X6_layYears ⟨Nat.le_of_ble_eq_true rfl, Nat.le_of_ble_eq_true rfl⟩) 2 rfl rfl rfl rfl hl.1 rfl (Nat.le_of_ble_eq_true rfl) ⟨Nat.le_of_ble_eq_true rfl, Nat.le_of_ble_eq_true rfl⟩ dX6_reached_31 (fun m_20 H locs h hP hD hS => ?_)
      have hP : va_P D vwCl [(q_o, .inr (6, [.int m_17, .ref q_o_text, .int v_o_size, .ref q_o_now, .ref q_o_trial, .ref q_o_diary, .int v_o_acts, .ref q_o_kept, .ref q_o_isKept, .ref q_o_years, .int m_20.1, .int m_20.2.1, .int m_20.2.2.1, .int m_20.2.2.2.1, .int m_20.2.2.2.2.1, .int v_o_spot, .int v_o_out])), (q_o_years, gI Cs 10 m_20.2.2.2.2.2), (q_o_now, gI Cs 221 v_o_now)] H := hP
      have hD : va_D A [(q_o, .inr (6, [.int m_17, .ref q_o_text, .int v_o_size, .ref q_o_now, .ref q_o_trial, .ref q_o_diary, .int v_o_acts, .ref q_o_kept, .ref q_o_isKept, .ref q_o_years, .int m_20.1, .int m_20.2.1, .int m_20.2.2.1, .int m_20.2.2.2.1, .int m_20.2.2.2.2.1, .int v_o_spot, .int v_o_out])), (q_o_years, gI Cs 10 m_20.2.2.2.2.2), (q_o_now, gI Cs 221 v_o_now)] := hD
      refine lv_iconst (v := (0 : Int32)) hx hb dX6_reached_34 (by decide) ?_
      refine lv_istore_n (lv' := [(3, .int (0 : Int32)), (0, .ref q_o), (1, .int x1), (2, .int x2)]) hx hb dX6_reached_35 rfl hl (by decide) rfl (fun ls hl => ?_)
      obtain ⟨n, h⟩ := h
      exact L36 n _ _ _ m_17 m_20 (0 : Int32) (hP.sub [0, 2, 1] rfl) (hD.sub [0, 2, 1] (by decide) rfl) hS (lv_sub hl [1, 2, 3, 0] rfl) h
    · have h := h.2 c_18
      refine lv_iconst (v := (0 : Int32)) hx hb dX6_reached_23 (by decide) ?_
      rw [← hQ]
      exact gRetI (u := (m_17, b_o)) hx hb hr rfl h (hP.sub [2, 0, 1] rfl) (hD.sub [2, 0, 1] (by decide) rfl) hS dX6_reached_24 hlocks
  have B16 : ∀ (H : Heap) (locs : List Loc) (ls : Array Slot), va_P D vwCl [(q_o, .inr (6, [.int v_o_refusal, .ref q_o_text, .int v_o_size, .ref q_o_now, .ref q_o_trial, .ref q_o_diary, .int v_o_acts, .ref q_o_kept, .ref q_o_isKept, .ref q_o_years, .int b_o.1, .int b_o.2.1, .int b_o.2.2.1, .int b_o.2.2.2.1, .int b_o.2.2.2.2.1, .int v_o_spot, .int v_o_out])), (q_o_now, gI Cs 221 v_o_now), (q_o_years, gI Cs 10 b_o.2.2.2.2.2)] H → va_D A [(q_o, .inr (6, [.int v_o_refusal, .ref q_o_text, .int v_o_size, .ref q_o_now, .ref q_o_trial, .ref q_o_diary, .int v_o_acts, .ref q_o_kept, .ref q_o_isKept, .ref q_o_years, .int b_o.1, .int b_o.2.1, .int b_o.2.2.1, .int b_o.2.2.2.1, .int b_o.2.2.2.2.1, .int v_o_spot, .int v_o_out])), (q_o_now, gI Cs 221 v_o_now), (q_o_years, gI Cs 10 b_o.2.2.2.2.2)] → va_S A s.heap H locs → lv_has ls 6 [(0, .ref q_o), (1, .int x1), (2, .int x2)] → P_X6_reached_b16 v_o_refusal b_o v_o_now x1 x2 post → W p l e ({ frames := 5, cells := 0, slots := 0, locals := 117 } : Room) s m args below meth c H locs 0 0 Q (F0 m 16 ls [.ref q_o]) := by
    intro H locs ls hP hD hS hl h
    unfold P_X6_reached_b16 at h
    refine lv_iconst (v := (1 : Int32)) hx hb dX6_reached_16 (by decide) ?_
    exact B17 _ _ _ (1 : Int32) hP hD hS (lv_sub hl [0, 1, 2] rfl) h
  unfold P_X6_reached at h
  refine lv_aload_n hx hb dX6_reached_0 rfl (lv_at hl 0 rfl) ?_
  refine lv_iload_n hx hb dX6_reached_1 rfl (lv_at hl 1 rfl) ?_
  refine gSR (As := [.int x1]) (rest := [.ref q_o]) ⟨hx, hb, hml, hown, htb⟩ hK hP hN [] rfl (c_X6_isTrait l D Cs x1 h) (va_cwS 1 htb (TB_s tb_436 tb_437 tb_5 (TB_self tb_438)) rfl rfl rfl z_X6_isTrait.2 ⟨Nat.le_of_ble_eq_true rfl, Nat.le_of_ble_eq_true rfl⟩) rfl hl.1 rfl (Nat.le_of_ble_eq_true rfl) ⟨Nat.le_of_ble_eq_true rfl, Nat.le_of_ble_eq_true rfl⟩ dX6_reached_2 (fun r_21 h => ?_)
  refine lv_if_eq (tgt := 16) hx hb dX6_reached_5 (by decide) (fun c_22 => ?_) (fun c_22 => ?_)
  · have h := h.1 c_22
    exact B16 _ _ _ hP hD hS (lv_sub hl [0, 1, 2] rfl) h
  · have h := h.2 c_22
    refine lv_iload_n hx hb dX6_reached_8 rfl (lv_at hl 2 rfl) ?_
    refine lv_if_lt (tgt := 16) hx hb dX6_reached_9 (by decide) (fun c_23 => ?_) (fun c_23 => ?_)
    · have h := h.1 c_23
      exact B16 _ _ _ hP hD hS (lv_sub hl [0, 1, 2] rfl) h
    · have h := h.2 c_23
      refine lv_iconst (v := (0 : Int32)) hx hb dX6_reached_12 (by decide) ?_
      refine lv_goto (tgt := 17) hx hb dX6_reached_13 (by decide) ?_
      exact B17 _ _ _ (0 : Int32) hP hD hS (lv_sub hl [0, 1, 2] rfl) h
set_option maxHeartbeats 4000000 in
set_option maxRecDepth 100000 in
theorem c_X6_comes (l : Launch) (D : va_G) (Cs : Nat → ClassId) (q_o : Nat) (q_o_text : Nat) (q_o_now : Nat) (q_o_trial : Nat) (q_o_diary : Nat) (q_o_kept : Nat) (q_o_isKept : Nat) (q_o_years : Nat) (sz : Nat) (v_o_now : (Nat → Int32)) (v_o_years : (Nat → Int32)) (v_o_refusal : Int32) (v_o_size : Int32) (v_o_acts : Int32) (v_o_least : Int32) (v_o_origins : Int32) (v_o_ofAll : Int32) (v_o_ofSome : Int32) (v_o_sets : Int32) (v_o_spot : Int32) (v_o_out : Int32) (x1 : Int32) (x2 : Int32) (x3 : Int32) (x4 : Int32) {post : Int32 → (Nat → Int32) → Prop} (h : P_X6_comes v_o_now v_o_years x1 x2 x3 x4 post) : Met l yX6_comes wsX6_comes ({ frames := 3, cells := 0, slots := 0, locals := 70 } : Room) (va_Pc [.ref q_o, .int x1, .int x2, .int x3, .int x4] (gM D Cs [(q_o, .inr (6, [.int v_o_refusal, .ref q_o_text, .int v_o_size, .ref q_o_now, .ref q_o_trial, .ref q_o_diary, .int v_o_acts, .ref q_o_kept, .ref q_o_isKept, .ref q_o_years, .int v_o_least, .int v_o_origins, .int v_o_ofAll, .int v_o_ofSome, .int v_o_sets, .int v_o_spot, .int v_o_out])), (q_o_now, gI Cs 221 v_o_now), (q_o_years, gI Cs 10 v_o_years)] sz)) (va_Qi (fun (r : Int32) (u : (Nat → Int32)) => post r u) (gB D (va_A [(q_o, .inr (6, [.int v_o_refusal, .ref q_o_text, .int v_o_size, .ref q_o_now, .ref q_o_trial, .ref q_o_diary, .int v_o_acts, .ref q_o_kept, .ref q_o_isKept, .ref q_o_years, .int v_o_least, .int v_o_origins, .int v_o_ofAll, .int v_o_ofSome, .int v_o_sets, .int v_o_spot, .int v_o_out])), (q_o_now, gI Cs 221 v_o_now), (q_o_years, gI Cs 10 v_o_years)] sz) (fun u : (Nat → Int32) => [(q_o, .inr (6, [.int v_o_refusal, .ref q_o_text, .int v_o_size, .ref q_o_now, .ref q_o_trial, .ref q_o_diary, .int v_o_acts, .ref q_o_kept, .ref q_o_isKept, .ref q_o_years, .int v_o_least, .int v_o_origins, .int v_o_ofAll, .int v_o_ofSome, .int v_o_sets, .int v_o_spot, .int v_o_out])), (q_o_now, gI Cs 221 v_o_now), (q_o_years, gI Cs 10 u)])) (va_A [(q_o, .inr (6, [.int v_o_refusal, .ref q_o_text, .int v_o_size, .ref q_o_now, .ref q_o_trial, .ref q_o_diary, .int v_o_acts, .ref q_o_kept, .ref q_o_isKept, .ref q_o_years, .int v_o_least, .int v_o_origins, .int v_o_ofAll, .int v_o_ofSome, .int v_o_sets, .int v_o_spot, .int v_o_out])), (q_o_now, gI Cs 221 v_o_now), (q_o_years, gI Cs 10 v_o_years)] sz)) 0 0 (va_A [(q_o, .inr (6, [.int v_o_refusal, .ref q_o_text, .int v_o_size, .ref q_o_now, .ref q_o_trial, .ref q_o_diary, .int v_o_acts, .ref q_o_kept, .ref q_o_isKept, .ref q_o_years, .int v_o_least, .int v_o_origins, .int v_o_ofAll, .int v_o_ofSome, .int v_o_sets, .int v_o_spot, .int v_o_out])), (q_o_now, gI Cs 221 v_o_now), (q_o_years, gI Cs 10 v_o_years)] sz) := by
  refine Met.ofW (cc := cX6_comes) (maxL := 6) (ret := (some .boolean)) (by decide) rfl ?_
  intro p e s m args below meth c s₁ B hml hv
  obtain ⟨ha, hsz, hP, hK, hD0, hN⟩ := hv
  have hx := B.exec
  have hb := B.bytes
  have hr := B.returns
  have hts := atoms_spec (ws := wsX6_comes) B.pre
  have htb : ∀ w ∈ TB, w.before args s = true := fun w h9 => hts w (List.mem_cons_of_mem _ h9)
  have hown : s.vm.findClass RX6 = some m.cls := findClass_of_methodNamed B.named
  have hlocks := B.notSynchronized
  subst hsz
  have hD := hD0.self (sz := s.heap.size)
  generalize hAe : va_A [(q_o, .inr (6, [.int v_o_refusal, .ref q_o_text, .int v_o_size, .ref q_o_now, .ref q_o_trial, .ref q_o_diary, .int v_o_acts, .ref q_o_kept, .ref q_o_isKept, .ref q_o_years, .int v_o_least, .int v_o_origins, .int v_o_ofAll, .int v_o_ofSome, .int v_o_sets, .int v_o_spot, .int v_o_out])), (q_o_now, gI Cs 221 v_o_now), (q_o_years, gI Cs 10 v_o_years)] s.heap.size = A at hD ⊢
  have hA : ∀ q : Nat, s.heap.size ≤ q → A q := fun q h9 => by rw [← hAe]; exact Or.inr h9
  obtain ⟨H, hH⟩ : ∃ z : Heap, z = s.heap := ⟨_, rfl⟩
  have hS : va_S A s.heap H [] := by rw [hH]; exact va_S.rf
  have hP : va_P D vwCl [(q_o, .inr (6, [.int v_o_refusal, .ref q_o_text, .int v_o_size, .ref q_o_now, .ref q_o_trial, .ref q_o_diary, .int v_o_acts, .ref q_o_kept, .ref q_o_isKept, .ref q_o_years, .int v_o_least, .int v_o_origins, .int v_o_ofAll, .int v_o_ofSome, .int v_o_sets, .int v_o_spot, .int v_o_out])), (q_o_now, gI Cs 221 v_o_now), (q_o_years, gI Cs 10 v_o_years)] H := by rw [hH]; exact hP
  generalize hQ : MQ below _ args s _ _ _ = Q
  show W p l e ({ frames := 3, cells := 0, slots := 0, locals := 70 } : Room) s m args below meth c s.heap [] 0 0 Q (entryFrame m args 6)
  have hent : entryFrame m args 6 = F0 m 0 ((lg_sl ([.ref q_o, .int x1, .int x2, .int x3, .int x4]) ++ List.replicate (6 - (lg_sl ([.ref q_o, .int x1, .int x2, .int x3, .int x4])).length) Slot.unset).toArray) [] := by rw [ha]; exact lg_entry_eq m ([.ref q_o, .int x1, .int x2, .int x3, .int x4]) 6
  rw [hent]; clear hent
  rw [← hH]
  have hl := lv_entry ([.ref q_o, .int x1, .int x2, .int x3, .int x4]) (n := 6) (Nat.le_of_ble_eq_true rfl)
  generalize (lg_sl ([.ref q_o, .int x1, .int x2, .int x3, .int x4]) ++ List.replicate (6 - (lg_sl ([.ref q_o, .int x1, .int x2, .int x3, .int x4])).length) Slot.unset).toArray = ls at hl ⊢
  have hl : lv_has ls 6 [(0, .ref q_o), (1, .int x1), (2, .int x2), (3, .int x3), (4, .int x4)] := hl
  have B67 : ∀ (H : Heap) (locs : List Loc) (ls : Array Slot) (w_o_years : (Nat → Int32)) (s0 : Int32), va_P D vwCl [(q_o, .inr (6, [.int v_o_refusal, .ref q_o_text, .int v_o_size, .ref q_o_now, .ref q_o_trial, .ref q_o_diary, .int v_o_acts, .ref q_o_kept, .ref q_o_isKept, .ref q_o_years, .int v_o_least, .int v_o_origins, .int v_o_ofAll, .int v_o_ofSome, .int v_o_sets, .int v_o_spot, .int v_o_out])), (q_o_now, gI Cs 221 v_o_now), (q_o_years, gI Cs 10 w_o_years)] H → va_D A [(q_o, .inr (6, [.int v_o_refusal, .ref q_o_text, .int v_o_size, .ref q_o_now, .ref q_o_trial, .ref q_o_diary, .int v_o_acts, .ref q_o_kept, .ref q_o_isKept, .ref q_o_years, .int v_o_least, .int v_o_origins, .int v_o_ofAll, .int v_o_ofSome, .int v_o_sets, .int v_o_spot, .int v_o_out])), (q_o_now, gI Cs 221 v_o_now), (q_o_years, gI Cs 10 w_o_years)] → va_S A s.heap H locs → lv_has ls 6 [(0, .ref q_o), (1, .int x1), (2, .int x2), (3, .int x3), (4, .int x4)] → P_X6_comes_b67 v_o_now v_o_years x1 x2 x3 x4 post w_o_years s0 → W p l e ({ frames := 3, cells := 0, slots := 0, locals := 70 } : Room) s m args below meth c H locs 0 0 Q (F0 m 67 ls [.int s0]) := by
    intro H locs ls w_o_years s0 hP hD hS hl h
    unfold P_X6_comes_b67 at h
    refine lv_istore (lv' := [(5, .int s0), (0, .ref q_o), (1, .int x1), (2, .int x2), (3, .int x3), (4, .int x4)]) hx hb dX6_comes_67 hl (by decide) rfl (fun ls hl => ?_)
    refine lv_iload hx hb dX6_comes_69 (lv_at hl 0 rfl) ?_
    refine lv_ldc (v := (100000 : Int32)) hx hb hown (htb _ tb_360) dX6_comes_71 ?_
    refine lv_icmp_lt (tgt := 78) hx hb dX6_comes_73 (by decide) (fun c_1 => ?_) (fun c_1 => ?_)
    · have h := h.1 c_1
      refine lv_aload_n hx hb dX6_comes_78 rfl (lv_at hl 1 rfl) ?_
      refine va_get (D := D) (ci := 6) (v := .ref q_o_years) (C := RX6) (T := TX6) (N := 17) hx hb htb inT_X6 hown hK hP 0 rfl rfl 9 (by decide) (htb _ tb_95) (fun _ h9 => h9) rfl dX6_comes_79 ?_
      refine lv_iload_n hx hb dX6_comes_82 rfl (lv_at hl 3 rfl) ?_
      refine lv_iload hx hb dX6_comes_83 (lv_at hl 0 rfl) ?_
      obtain ⟨hi_2, h⟩ := h
      refine va_iast hx hb hK hP hD hS 2 0 rfl rfl hi_2 dX6_comes_85 (fun H locs hP hD hS => ?_)
      have hP : va_P D vwCl [(q_o, .inr (6, [.int v_o_refusal, .ref q_o_text, .int v_o_size, .ref q_o_now, .ref q_o_trial, .ref q_o_diary, .int v_o_acts, .ref q_o_kept, .ref q_o_isKept, .ref q_o_years, .int v_o_least, .int v_o_origins, .int v_o_ofAll, .int v_o_ofSome, .int v_o_sets, .int v_o_spot, .int v_o_out])), (q_o_now, gI Cs 221 v_o_now), (q_o_years, gI Cs 10 (upd w_o_years x2.toNatClampNeg s0))] H := hP
      have hD : va_D A [(q_o, .inr (6, [.int v_o_refusal, .ref q_o_text, .int v_o_size, .ref q_o_now, .ref q_o_trial, .ref q_o_diary, .int v_o_acts, .ref q_o_kept, .ref q_o_isKept, .ref q_o_years, .int v_o_least, .int v_o_origins, .int v_o_ofAll, .int v_o_ofSome, .int v_o_sets, .int v_o_spot, .int v_o_out])), (q_o_now, gI Cs 221 v_o_now), (q_o_years, gI Cs 10 (upd w_o_years x2.toNatClampNeg s0))] := hD
      refine lv_aload_n hx hb dX6_comes_86 rfl (lv_at hl 1 rfl) ?_
      refine lv_aload_n hx hb dX6_comes_87 rfl (lv_at hl 1 rfl) ?_
      refine va_get (D := D) (ci := 6) (v := .ref q_o_now) (C := RX6) (T := TX6) (N := 17) hx hb htb inT_X6 hown hK hP 0 rfl rfl 3 (by decide) (htb _ tb_90) (fun _ h9 => h9) rfl dX6_comes_88 ?_
      refine lv_iload_n hx hb dX6_comes_91 rfl (lv_at hl 4 rfl) ?_
      refine lv_iload_n hx hb dX6_comes_92 rfl (lv_at hl 3 rfl) ?_
      refine gVMv (wr := []) (As := [.ref q_o_now, .int x3, .int x2]) (rest := []) ⟨hx, hb, hml, hown, htb⟩ hK hP hD hS hA hN [0, 2, 1] [] rfl (by decide) rfl (by decide) (by decide) (c_X6_spread l D Cs q_o q_o_now q_o_text q_o_now q_o_trial q_o_diary q_o_kept q_o_isKept q_o_years 221 H.size (upd w_o_years x2.toNatClampNeg s0) v_o_now v_o_refusal v_o_size v_o_acts v_o_least v_o_origins v_o_ofAll v_o_ofSome v_o_sets v_o_spot v_o_out x3 x2 h) (cwV 3 htb (TB_v tb_364 tb_365 tb_366 tb_5 (TB_self tb_367)) rfl rfl rfl z_X6_spread ⟨Nat.le_of_ble_eq_true rfl, Nat.le_of_ble_eq_true rfl⟩) 0 rfl rfl rfl rfl hl.1 rfl (Nat.le_of_ble_eq_true rfl) ⟨Nat.le_of_ble_eq_true rfl, Nat.le_of_ble_eq_true rfl⟩ dX6_comes_93 (fun m_4 H locs h hP hD hS => ?_)
      have hP : va_P D vwCl [(q_o, .inr (6, [.int v_o_refusal, .ref q_o_text, .int v_o_size, .ref q_o_now, .ref q_o_trial, .ref q_o_diary, .int v_o_acts, .ref q_o_kept, .ref q_o_isKept, .ref q_o_years, .int v_o_least, .int v_o_origins, .int v_o_ofAll, .int v_o_ofSome, .int v_o_sets, .int v_o_spot, .int v_o_out])), (q_o_years, gI Cs 10 m_4), (q_o_now, gI Cs 221 v_o_now)] H := hP
      have hD : va_D A [(q_o, .inr (6, [.int v_o_refusal, .ref q_o_text, .int v_o_size, .ref q_o_now, .ref q_o_trial, .ref q_o_diary, .int v_o_acts, .ref q_o_kept, .ref q_o_isKept, .ref q_o_years, .int v_o_least, .int v_o_origins, .int v_o_ofAll, .int v_o_ofSome, .int v_o_sets, .int v_o_spot, .int v_o_out])), (q_o_years, gI Cs 10 m_4), (q_o_now, gI Cs 221 v_o_now)] := hD
      refine lv_aload_n hx hb dX6_comes_96 rfl (lv_at hl 1 rfl) ?_
      refine lv_aload_n hx hb dX6_comes_97 rfl (lv_at hl 1 rfl) ?_
      refine va_get (D := D) (ci := 6) (v := .ref q_o_now) (C := RX6) (T := TX6) (N := 17) hx hb htb inT_X6 hown hK hP 0 rfl rfl 3 (by decide) (htb _ tb_90) (fun _ h9 => h9) rfl dX6_comes_98 ?_
      refine lv_iload_n hx hb dX6_comes_101 rfl (lv_at hl 4 rfl) ?_
      refine gVR (As := [.ref q_o_now, .int x3]) (rest := []) ⟨hx, hb, hml, hown, htb⟩ hK hP hN [0, 1, 2] rfl (c_X6_allInTime l D Cs q_o q_o_now q_o_text q_o_now q_o_trial q_o_diary q_o_kept q_o_isKept q_o_years 221 m_4 v_o_now v_o_refusal v_o_size v_o_acts v_o_least v_o_origins v_o_ofAll v_o_ofSome v_o_sets v_o_spot v_o_out x3 h) (cwV 2 htb (TB_v tb_371 tb_372 tb_373 tb_5 (TB_self tb_374)) rfl rfl rfl z_X6_allInTime ⟨Nat.le_of_ble_eq_true rfl, Nat.le_of_ble_eq_true rfl⟩) 0 rfl rfl rfl rfl hl.1 rfl (Nat.le_of_ble_eq_true rfl) ⟨Nat.le_of_ble_eq_true rfl, Nat.le_of_ble_eq_true rfl⟩ dX6_comes_102 (fun r_5 h => ?_)
      obtain ⟨hnb, h⟩ := h
      rw [← hQ]
      exact gRetI (u := m_4) hx hb hr hnb h (hP.sub [0, 2, 1] rfl) (hD.sub [0, 2, 1] (by decide) rfl) hS dX6_comes_105 hlocks
    · have h := h.2 c_1
      refine lv_iconst (v := (0 : Int32)) hx hb dX6_comes_76 (by decide) ?_
      rw [← hQ]
      exact gRetI (u := w_o_years) hx hb hr rfl h hP hD hS dX6_comes_77 hlocks
  unfold P_X6_comes at h
  refine lv_aload_n hx hb dX6_comes_0 rfl (lv_at hl 0 rfl) ?_
  refine lv_aload_n hx hb dX6_comes_1 rfl (lv_at hl 0 rfl) ?_
  refine va_get (D := D) (ci := 6) (v := .ref q_o_now) (C := RX6) (T := TX6) (N := 17) hx hb htb inT_X6 hown hK hP 0 rfl rfl 3 (by decide) (htb _ tb_90) (fun _ h9 => h9) rfl dX6_comes_2 ?_
  refine lv_iload_n hx hb dX6_comes_5 rfl (lv_at hl 3 rfl) ?_
  refine lv_iload hx hb dX6_comes_6 (lv_at hl 4 rfl) ?_
  refine gVMv (wr := []) (As := [.ref q_o_now, .int x3, .int x4]) (rest := []) ⟨hx, hb, hml, hown, htb⟩ hK hP hD hS hA hN [0, 2, 1] [] rfl (by decide) rfl (by decide) (by decide) (c_X6_layOrigins l D Cs q_o q_o_now q_o_text q_o_now q_o_trial q_o_diary q_o_kept q_o_isKept q_o_years 221 H.size v_o_years v_o_now v_o_refusal v_o_size v_o_acts v_o_least v_o_origins v_o_ofAll v_o_ofSome v_o_sets v_o_spot v_o_out x3 x4 h) (cwV 3 htb (TB_v tb_356 tb_357 tb_358 tb_5 (TB_self tb_359)) rfl rfl rfl z_X6_layOrigins ⟨Nat.le_of_ble_eq_true rfl, Nat.le_of_ble_eq_true rfl⟩) 0 rfl rfl rfl rfl hl.1 rfl (Nat.le_of_ble_eq_true rfl) ⟨Nat.le_of_ble_eq_true rfl, Nat.le_of_ble_eq_true rfl⟩ dX6_comes_8 (fun m_7 H locs h hP hD hS => ?_)
  have hP : va_P D vwCl [(q_o, .inr (6, [.int v_o_refusal, .ref q_o_text, .int v_o_size, .ref q_o_now, .ref q_o_trial, .ref q_o_diary, .int v_o_acts, .ref q_o_kept, .ref q_o_isKept, .ref q_o_years, .int v_o_least, .int v_o_origins, .int v_o_ofAll, .int v_o_ofSome, .int v_o_sets, .int v_o_spot, .int v_o_out])), (q_o_years, gI Cs 10 m_7), (q_o_now, gI Cs 221 v_o_now)] H := hP
  have hD : va_D A [(q_o, .inr (6, [.int v_o_refusal, .ref q_o_text, .int v_o_size, .ref q_o_now, .ref q_o_trial, .ref q_o_diary, .int v_o_acts, .ref q_o_kept, .ref q_o_isKept, .ref q_o_years, .int v_o_least, .int v_o_origins, .int v_o_ofAll, .int v_o_ofSome, .int v_o_sets, .int v_o_spot, .int v_o_out])), (q_o_years, gI Cs 10 m_7), (q_o_now, gI Cs 221 v_o_now)] := hD
  refine lv_aload_n hx hb dX6_comes_11 rfl (lv_at hl 0 rfl) ?_
  refine lv_aload_n hx hb dX6_comes_12 rfl (lv_at hl 0 rfl) ?_
  refine va_get (D := D) (ci := 6) (v := .ref q_o_now) (C := RX6) (T := TX6) (N := 17) hx hb htb inT_X6 hown hK hP 0 rfl rfl 3 (by decide) (htb _ tb_90) (fun _ h9 => h9) rfl dX6_comes_13 ?_
  refine lv_iload_n hx hb dX6_comes_16 rfl (lv_at hl 3 rfl) ?_
  refine lv_iload_n hx hb dX6_comes_17 rfl (lv_at hl 2 rfl) ?_
  refine gVMv (wr := []) (As := [.ref q_o_now, .int x3, .int x2]) (rest := []) ⟨hx, hb, hml, hown, htb⟩ hK hP hD hS hA hN [0, 1, 2] [] rfl (by decide) rfl (by decide) (by decide) (c_X6_spread l D Cs q_o q_o_now q_o_text q_o_now q_o_trial q_o_diary q_o_kept q_o_isKept q_o_years 221 H.size m_7 v_o_now v_o_refusal v_o_size v_o_acts v_o_least v_o_origins v_o_ofAll v_o_ofSome v_o_sets v_o_spot v_o_out x3 x2 h) (cwV 3 htb (TB_v tb_364 tb_365 tb_366 tb_5 (TB_self tb_367)) rfl rfl rfl z_X6_spread ⟨Nat.le_of_ble_eq_true rfl, Nat.le_of_ble_eq_true rfl⟩) 0 rfl rfl rfl rfl hl.1 rfl (Nat.le_of_ble_eq_true rfl) ⟨Nat.le_of_ble_eq_true rfl, Nat.le_of_ble_eq_true rfl⟩ dX6_comes_18 (fun m_9 H locs h hP hD hS => ?_)
  have hP : va_P D vwCl [(q_o, .inr (6, [.int v_o_refusal, .ref q_o_text, .int v_o_size, .ref q_o_now, .ref q_o_trial, .ref q_o_diary, .int v_o_acts, .ref q_o_kept, .ref q_o_isKept, .ref q_o_years, .int v_o_least, .int v_o_origins, .int v_o_ofAll, .int v_o_ofSome, .int v_o_sets, .int v_o_spot, .int v_o_out])), (q_o_years, gI Cs 10 m_9), (q_o_now, gI Cs 221 v_o_now)] H := hP
  have hD : va_D A [(q_o, .inr (6, [.int v_o_refusal, .ref q_o_text, .int v_o_size, .ref q_o_now, .ref q_o_trial, .ref q_o_diary, .int v_o_acts, .ref q_o_kept, .ref q_o_isKept, .ref q_o_years, .int v_o_least, .int v_o_origins, .int v_o_ofAll, .int v_o_ofSome, .int v_o_sets, .int v_o_spot, .int v_o_out])), (q_o_years, gI Cs 10 m_9), (q_o_now, gI Cs 221 v_o_now)] := hD
  refine lv_aload_n hx hb dX6_comes_21 rfl (lv_at hl 0 rfl) ?_
  refine va_get (D := D) (ci := 6) (v := .ref q_o_years) (C := RX6) (T := TX6) (N := 17) hx hb htb inT_X6 hown hK hP 0 rfl rfl 9 (by decide) (htb _ tb_95) (fun _ h9 => h9) rfl dX6_comes_22 ?_
  refine lv_iload_n hx hb dX6_comes_25 rfl (lv_at hl 1 rfl) ?_
  obtain ⟨hi_10, h⟩ := h
  refine va_iald hx hb hK hP 1 0 rfl rfl hi_10 dX6_comes_26 ?_
  refine lv_aload_n hx hb dX6_comes_27 rfl (lv_at hl 0 rfl) ?_
  refine va_get (D := D) (ci := 6) (v := .ref q_o_now) (C := RX6) (T := TX6) (N := 17) hx hb htb inT_X6 hown hK hP 0 rfl rfl 3 (by decide) (htb _ tb_90) (fun _ h9 => h9) rfl dX6_comes_28 ?_
  refine lv_iload_n hx hb dX6_comes_31 rfl (lv_at hl 1 rfl) ?_
  refine lv_iload_n hx hb dX6_comes_32 rfl (lv_at hl 2 rfl) ?_
  refine gSR (As := [.ref q_o_now, .int x1, .int x2]) (rest := [.int (m_9 x1.toNatClampNeg)]) ⟨hx, hb, hml, hown, htb⟩ hK hP hN [2] rfl (c_X6_length l D Cs q_o_now 221 v_o_now x1 x2 h) (va_cwS 3 htb (TB_s tb_368 tb_369 tb_5 (TB_self tb_370)) rfl rfl rfl z_X6_length.2 ⟨Nat.le_of_ble_eq_true rfl, Nat.le_of_ble_eq_true rfl⟩) rfl hl.1 rfl (Nat.le_of_ble_eq_true rfl) ⟨Nat.le_of_ble_eq_true rfl, Nat.le_of_ble_eq_true rfl⟩ dX6_comes_33 (fun r_11 h => ?_)
  refine lv_iadd hx hb dX6_comes_36 ?_
  refine lv_topi (fun x5_12 ex5_12 => ?_)
  have h := h _ ex5_12
  refine lv_istore (lv' := [(5, .int x5_12), (0, .ref q_o), (1, .int x1), (2, .int x2), (3, .int x3), (4, .int x4)]) hx hb dX6_comes_37 hl (by decide) rfl (fun ls hl => ?_)
  refine lv_iload hx hb dX6_comes_39 (lv_at hl 0 rfl) ?_
  refine lv_aload_n hx hb dX6_comes_41 rfl (lv_at hl 1 rfl) ?_
  refine va_get (D := D) (ci := 6) (v := .ref q_o_now) (C := RX6) (T := TX6) (N := 17) hx hb htb inT_X6 hown hK hP 0 rfl rfl 3 (by decide) (htb _ tb_90) (fun _ h9 => h9) rfl dX6_comes_42 ?_
  refine lv_iload_n hx hb dX6_comes_45 rfl (lv_at hl 3 rfl) ?_
  refine lv_iload_n hx hb dX6_comes_46 rfl (lv_at hl 4 rfl) ?_
  refine gSR (As := [.ref q_o_now, .int x2, .int x3]) (rest := [.int x5_12]) ⟨hx, hb, hml, hown, htb⟩ hK hP hN [2] rfl (c_X6_bound l D Cs q_o_now 221 v_o_now x2 x3 h) (va_cwS 3 htb (TB_s tb_361 tb_362 tb_5 (TB_self tb_363)) rfl rfl rfl z_X6_bound.2 ⟨Nat.le_of_ble_eq_true rfl, Nat.le_of_ble_eq_true rfl⟩) rfl hl.1 rfl (Nat.le_of_ble_eq_true rfl) ⟨Nat.le_of_ble_eq_true rfl, Nat.le_of_ble_eq_true rfl⟩ dX6_comes_47 (fun r_13 h => ?_)
  refine lv_icmp_ge (tgt := 65) hx hb dX6_comes_50 (by decide) (fun c_14 => ?_) (fun c_14 => ?_)
  · have h := h.1 c_14
    refine lv_iload hx hb dX6_comes_65 (lv_at hl 0 rfl) ?_
    exact B67 _ _ _ m_9 x5_12 (hP.sub [0, 2, 1] rfl) (hD.sub [0, 2, 1] (by decide) rfl) hS (lv_sub hl [1, 2, 3, 4, 5] rfl) h
  · have h := h.2 c_14
    refine lv_aload_n hx hb dX6_comes_53 rfl (lv_at hl 1 rfl) ?_
    refine va_get (D := D) (ci := 6) (v := .ref q_o_now) (C := RX6) (T := TX6) (N := 17) hx hb htb inT_X6 hown hK hP 0 rfl rfl 3 (by decide) (htb _ tb_90) (fun _ h9 => h9) rfl dX6_comes_54 ?_
    refine lv_iload_n hx hb dX6_comes_57 rfl (lv_at hl 3 rfl) ?_
    refine lv_iload_n hx hb dX6_comes_58 rfl (lv_at hl 4 rfl) ?_
    refine gSR (As := [.ref q_o_now, .int x2, .int x3]) (rest := []) ⟨hx, hb, hml, hown, htb⟩ hK hP hN [2] rfl (c_X6_bound l D Cs q_o_now 221 v_o_now x2 x3 h) (va_cwS 3 htb (TB_s tb_361 tb_362 tb_5 (TB_self tb_363)) rfl rfl rfl z_X6_bound.2 ⟨Nat.le_of_ble_eq_true rfl, Nat.le_of_ble_eq_true rfl⟩) rfl hl.1 rfl (Nat.le_of_ble_eq_true rfl) ⟨Nat.le_of_ble_eq_true rfl, Nat.le_of_ble_eq_true rfl⟩ dX6_comes_59 (fun r_15 h => ?_)
    refine lv_goto (tgt := 67) hx hb dX6_comes_62 (by decide) ?_
    exact B67 _ _ _ m_9 r_15 (hP.sub [0, 2, 1] rfl) (hD.sub [0, 2, 1] (by decide) rfl) hS (lv_sub hl [1, 2, 3, 4, 5] rfl) h
set_option maxHeartbeats 4000000 in
set_option maxRecDepth 100000 in
theorem c_X6_passed (l : Launch) (D : va_G) (Cs : Nat → ClassId) (q_o : Nat) (q_o_text : Nat) (q_o_now : Nat) (q_o_trial : Nat) (q_o_diary : Nat) (q_o_kept : Nat) (q_o_isKept : Nat) (q_o_years : Nat) (sz : Nat) (v_o_refusal : Int32) (b_o : BM) (v_o_now : (Nat → Int32)) (v_o_size : Int32) (v_o_acts : Int32) (v_o_spot : Int32) (v_o_out : Int32) (x1 : Int32) (x2 : Int32) (x3 : Int32) {post : Int32 → Int32 → BM → Prop} (h : P_X6_passed v_o_refusal b_o v_o_now x1 x2 x3 post) : Met l yX6_passed wsX6_passed ({ frames := 4, cells := 0, slots := 0, locals := 95 } : Room) (va_Pc [.ref q_o, .int x1, .int x2, .int x3] (gM D Cs [(q_o, .inr (6, [.int v_o_refusal, .ref q_o_text, .int v_o_size, .ref q_o_now, .ref q_o_trial, .ref q_o_diary, .int v_o_acts, .ref q_o_kept, .ref q_o_isKept, .ref q_o_years, .int b_o.1, .int b_o.2.1, .int b_o.2.2.1, .int b_o.2.2.2.1, .int b_o.2.2.2.2.1, .int v_o_spot, .int v_o_out])), (q_o_now, gI Cs 221 v_o_now), (q_o_years, gI Cs 10 b_o.2.2.2.2.2)] sz)) (va_Qi (fun (r : Int32) (u : Int32 × BM) => post r u.1 u.2) (gB D (va_A [(q_o, .inr (6, [.int v_o_refusal, .ref q_o_text, .int v_o_size, .ref q_o_now, .ref q_o_trial, .ref q_o_diary, .int v_o_acts, .ref q_o_kept, .ref q_o_isKept, .ref q_o_years, .int b_o.1, .int b_o.2.1, .int b_o.2.2.1, .int b_o.2.2.2.1, .int b_o.2.2.2.2.1, .int v_o_spot, .int v_o_out])), (q_o_now, gI Cs 221 v_o_now), (q_o_years, gI Cs 10 b_o.2.2.2.2.2)] sz) (fun u : Int32 × BM => [(q_o, .inr (6, [.int u.1, .ref q_o_text, .int v_o_size, .ref q_o_now, .ref q_o_trial, .ref q_o_diary, .int v_o_acts, .ref q_o_kept, .ref q_o_isKept, .ref q_o_years, .int u.2.1, .int u.2.2.1, .int u.2.2.2.1, .int u.2.2.2.2.1, .int u.2.2.2.2.2.1, .int v_o_spot, .int v_o_out])), (q_o_now, gI Cs 221 v_o_now), (q_o_years, gI Cs 10 u.2.2.2.2.2.2)])) (va_A [(q_o, .inr (6, [.int v_o_refusal, .ref q_o_text, .int v_o_size, .ref q_o_now, .ref q_o_trial, .ref q_o_diary, .int v_o_acts, .ref q_o_kept, .ref q_o_isKept, .ref q_o_years, .int b_o.1, .int b_o.2.1, .int b_o.2.2.1, .int b_o.2.2.2.1, .int b_o.2.2.2.2.1, .int v_o_spot, .int v_o_out])), (q_o_now, gI Cs 221 v_o_now), (q_o_years, gI Cs 10 b_o.2.2.2.2.2)] sz)) 0 0 (va_A [(q_o, .inr (6, [.int v_o_refusal, .ref q_o_text, .int v_o_size, .ref q_o_now, .ref q_o_trial, .ref q_o_diary, .int v_o_acts, .ref q_o_kept, .ref q_o_isKept, .ref q_o_years, .int b_o.1, .int b_o.2.1, .int b_o.2.2.1, .int b_o.2.2.2.1, .int b_o.2.2.2.2.1, .int v_o_spot, .int v_o_out])), (q_o_now, gI Cs 221 v_o_now), (q_o_years, gI Cs 10 b_o.2.2.2.2.2)] sz) := by
  refine Met.ofW (cc := cX6_passed) (maxL := 5) (ret := (some .int)) (by decide) rfl ?_
  intro p e s m args below meth c s₁ B hml hv
  obtain ⟨ha, hsz, hP, hK, hD0, hN⟩ := hv
  have hx := B.exec
  have hb := B.bytes
  have hr := B.returns
  have hts := atoms_spec (ws := wsX6_passed) B.pre
  have htb : ∀ w ∈ TB, w.before args s = true := fun w h9 => hts w (List.mem_cons_of_mem _ h9)
  have hown : s.vm.findClass RX6 = some m.cls := findClass_of_methodNamed B.named
  have hlocks := B.notSynchronized
  subst hsz
  have hD := hD0.self (sz := s.heap.size)
  generalize hAe : va_A [(q_o, .inr (6, [.int v_o_refusal, .ref q_o_text, .int v_o_size, .ref q_o_now, .ref q_o_trial, .ref q_o_diary, .int v_o_acts, .ref q_o_kept, .ref q_o_isKept, .ref q_o_years, .int b_o.1, .int b_o.2.1, .int b_o.2.2.1, .int b_o.2.2.2.1, .int b_o.2.2.2.2.1, .int v_o_spot, .int v_o_out])), (q_o_now, gI Cs 221 v_o_now), (q_o_years, gI Cs 10 b_o.2.2.2.2.2)] s.heap.size = A at hD ⊢
  have hA : ∀ q : Nat, s.heap.size ≤ q → A q := fun q h9 => by rw [← hAe]; exact Or.inr h9
  obtain ⟨H, hH⟩ : ∃ z : Heap, z = s.heap := ⟨_, rfl⟩
  have hS : va_S A s.heap H [] := by rw [hH]; exact va_S.rf
  have hP : va_P D vwCl [(q_o, .inr (6, [.int v_o_refusal, .ref q_o_text, .int v_o_size, .ref q_o_now, .ref q_o_trial, .ref q_o_diary, .int v_o_acts, .ref q_o_kept, .ref q_o_isKept, .ref q_o_years, .int b_o.1, .int b_o.2.1, .int b_o.2.2.1, .int b_o.2.2.2.1, .int b_o.2.2.2.2.1, .int v_o_spot, .int v_o_out])), (q_o_now, gI Cs 221 v_o_now), (q_o_years, gI Cs 10 b_o.2.2.2.2.2)] H := by rw [hH]; exact hP
  generalize hQ : MQ below _ args s _ _ _ = Q
  show W p l e ({ frames := 4, cells := 0, slots := 0, locals := 95 } : Room) s m args below meth c s.heap [] 0 0 Q (entryFrame m args 5)
  have hent : entryFrame m args 5 = F0 m 0 ((lg_sl ([.ref q_o, .int x1, .int x2, .int x3]) ++ List.replicate (5 - (lg_sl ([.ref q_o, .int x1, .int x2, .int x3])).length) Slot.unset).toArray) [] := by rw [ha]; exact lg_entry_eq m ([.ref q_o, .int x1, .int x2, .int x3]) 5
  rw [hent]; clear hent
  rw [← hH]
  have hl := lv_entry ([.ref q_o, .int x1, .int x2, .int x3]) (n := 5) (Nat.le_of_ble_eq_true rfl)
  generalize (lg_sl ([.ref q_o, .int x1, .int x2, .int x3]) ++ List.replicate (5 - (lg_sl ([.ref q_o, .int x1, .int x2, .int x3])).length) Slot.unset).toArray = ls at hl ⊢
  have hl : lv_has ls 5 [(0, .ref q_o), (1, .int x1), (2, .int x2), (3, .int x3)] := hl
  have B82 : ∀ (H : Heap) (locs : List Loc) (ls : Array Slot) (w_o_refusal : Int32) (d_o : BM), va_P D vwCl [(q_o, .inr (6, [.int w_o_refusal, .ref q_o_text, .int v_o_size, .ref q_o_now, .ref q_o_trial, .ref q_o_diary, .int v_o_acts, .ref q_o_kept, .ref q_o_isKept, .ref q_o_years, .int d_o.1, .int d_o.2.1, .int d_o.2.2.1, .int d_o.2.2.2.1, .int d_o.2.2.2.2.1, .int v_o_spot, .int v_o_out])), (q_o_now, gI Cs 221 v_o_now), (q_o_years, gI Cs 10 d_o.2.2.2.2.2)] H → va_D A [(q_o, .inr (6, [.int w_o_refusal, .ref q_o_text, .int v_o_size, .ref q_o_now, .ref q_o_trial, .ref q_o_diary, .int v_o_acts, .ref q_o_kept, .ref q_o_isKept, .ref q_o_years, .int d_o.1, .int d_o.2.1, .int d_o.2.2.1, .int d_o.2.2.2.1, .int d_o.2.2.2.2.1, .int v_o_spot, .int v_o_out])), (q_o_now, gI Cs 221 v_o_now), (q_o_years, gI Cs 10 d_o.2.2.2.2.2)] → va_S A s.heap H locs → lv_has ls 5 [(0, .ref q_o), (1, .int x1), (2, .int x2), (3, .int x3)] → P_X6_passed_b82 v_o_refusal b_o v_o_now x1 x2 x3 post w_o_refusal d_o → W p l e ({ frames := 4, cells := 0, slots := 0, locals := 95 } : Room) s m args below meth c H locs 0 0 Q (F0 m 82 ls []) := by
    intro H locs ls w_o_refusal d_o hP hD hS hl h
    unfold P_X6_passed_b82 at h
    refine lv_iconst (v := (0 : Int32)) hx hb dX6_passed_82 (by decide) ?_
    rw [← hQ]
    exact gRetI (u := (w_o_refusal, d_o)) hx hb hr rfl h hP hD hS dX6_passed_83 hlocks
  have L87 : ∀ (n : Nat) (H : Heap) (locs : List Loc) (ls : Array Slot) (w_o_refusal : Int32) (d_o : BM) (x4 : Int32), va_P D vwCl [(q_o, .inr (6, [.int w_o_refusal, .ref q_o_text, .int v_o_size, .ref q_o_now, .ref q_o_trial, .ref q_o_diary, .int v_o_acts, .ref q_o_kept, .ref q_o_isKept, .ref q_o_years, .int d_o.1, .int d_o.2.1, .int d_o.2.2.1, .int d_o.2.2.2.1, .int d_o.2.2.2.2.1, .int v_o_spot, .int v_o_out])), (q_o_now, gI Cs 221 v_o_now), (q_o_years, gI Cs 10 d_o.2.2.2.2.2)] H → va_D A [(q_o, .inr (6, [.int w_o_refusal, .ref q_o_text, .int v_o_size, .ref q_o_now, .ref q_o_trial, .ref q_o_diary, .int v_o_acts, .ref q_o_kept, .ref q_o_isKept, .ref q_o_years, .int d_o.1, .int d_o.2.1, .int d_o.2.2.1, .int d_o.2.2.2.1, .int d_o.2.2.2.2.1, .int v_o_spot, .int v_o_out])), (q_o_now, gI Cs 221 v_o_now), (q_o_years, gI Cs 10 d_o.2.2.2.2.2)] → va_S A s.heap H locs → lv_has ls 5 [(0, .ref q_o), (1, .int x1), (2, .int x2), (3, .int x3), (4, .int x4)] → P_X6_passed_l87 v_o_refusal b_o v_o_now x1 x2 x3 post n w_o_refusal d_o x4 → W p l e ({ frames := 4, cells := 0, slots := 0, locals := 95 } : Room) s m args below meth c H locs 0 0 Q (F0 m 87 ls []) := by
    intro n87
    induction n87 with
    | zero => intro H locs ls w_o_refusal d_o x4 hP hD hS hl h; exact False.elim h
    | succ n87 ih87 =>
      have B135 : ∀ (H : Heap) (locs : List Loc) (ls : Array Slot) (w_o_refusal : Int32) (d_o : BM) (x4 : Int32), va_P D vwCl [(q_o, .inr (6, [.int w_o_refusal, .ref q_o_text, .int v_o_size, .ref q_o_now, .ref q_o_trial, .ref q_o_diary, .int v_o_acts, .ref q_o_kept, .ref q_o_isKept, .ref q_o_years, .int d_o.1, .int d_o.2.1, .int d_o.2.2.1, .int d_o.2.2.2.1, .int d_o.2.2.2.2.1, .int v_o_spot, .int v_o_out])), (q_o_now, gI Cs 221 v_o_now), (q_o_years, gI Cs 10 d_o.2.2.2.2.2)] H → va_D A [(q_o, .inr (6, [.int w_o_refusal, .ref q_o_text, .int v_o_size, .ref q_o_now, .ref q_o_trial, .ref q_o_diary, .int v_o_acts, .ref q_o_kept, .ref q_o_isKept, .ref q_o_years, .int d_o.1, .int d_o.2.1, .int d_o.2.2.1, .int d_o.2.2.2.1, .int d_o.2.2.2.2.1, .int v_o_spot, .int v_o_out])), (q_o_now, gI Cs 221 v_o_now), (q_o_years, gI Cs 10 d_o.2.2.2.2.2)] → va_S A s.heap H locs → lv_has ls 5 [(0, .ref q_o), (1, .int x1), (2, .int x2), (3, .int x3), (4, .int x4)] → P_X6_passed_b135 v_o_refusal b_o v_o_now x1 x2 x3 post (P_X6_passed_l87 v_o_refusal b_o v_o_now x1 x2 x3 post n87) w_o_refusal d_o x4 → W p l e ({ frames := 4, cells := 0, slots := 0, locals := 95 } : Room) s m args below meth c H locs 0 0 Q (F0 m 135 ls []) := by
        intro H locs ls w_o_refusal d_o x4 hP hD hS hl h
        unfold P_X6_passed_b135 at h
        obtain ⟨x4_1, ex4_1⟩ : ∃ y : Int32, y = x4 + (1 : Int32) := ⟨_, rfl⟩
        have h := h _ ex4_1
        refine lv_iinc (v := x4_1) (lv' := [(4, .int x4_1), (0, .ref q_o), (1, .int x1), (2, .int x2), (3, .int x3)]) hx hb dX6_passed_135 hl (k := 4) rfl (by rw [ex4_1]; rfl) (by decide) rfl (fun ls hl => ?_)
        refine lv_goto (tgt := 87) hx hb dX6_passed_138 (by decide) ?_
        exact ih87 _ _ _ w_o_refusal d_o x4_1 hP hD hS (lv_sub hl [1, 2, 3, 4, 0] rfl) h
      intro H locs ls w_o_refusal d_o x4 hP hD hS hl h
      replace h : P_X6_passed_b87 v_o_refusal b_o v_o_now x1 x2 x3 post (P_X6_passed_l87 v_o_refusal b_o v_o_now x1 x2 x3 post n87) w_o_refusal d_o x4 := h
      unfold P_X6_passed_b87 at h
      refine lv_iload hx hb dX6_passed_87 (lv_at hl 4 rfl) ?_
      refine lv_iconst (v := (1 : Int32)) hx hb dX6_passed_89 (by decide) ?_
      refine lv_aload_n hx hb dX6_passed_90 rfl (lv_at hl 0 rfl) ?_
      refine va_get (D := D) (ci := 6) (v := .ref q_o_now) (C := RX6) (T := TX6) (N := 17) hx hb htb inT_X6 hown hK hP 0 rfl rfl 3 (by decide) (htb _ tb_90) (fun _ h9 => h9) rfl dX6_passed_91 ?_
      refine lv_iconst (v := (0 : Int32)) hx hb dX6_passed_94 (by decide) ?_
      refine va_iald hx hb hK hP 1 0 rfl rfl (by unfold vp_in; decide) dX6_passed_95 ?_
      refine lv_ishl hx hb dX6_passed_96 ?_
      refine lv_icmp_ge (tgt := 141) hx hb dX6_passed_97 (by decide) (fun c_2 => ?_) (fun c_2 => ?_)
      · have h := h.1 c_2
        refine lv_iconst (v := (0 : Int32)) hx hb dX6_passed_141 (by decide) ?_
        rw [← hQ]
        exact gRetI (u := (w_o_refusal, d_o)) hx hb hr rfl h hP hD hS dX6_passed_142 hlocks
      · have h := h.2 c_2
        refine lv_iload hx hb dX6_passed_100 (lv_at hl 4 rfl) ?_
        refine gSR (As := [.int x4]) (rest := []) ⟨hx, hb, hml, hown, htb⟩ hK hP hN [] rfl (c_X6_ones l D Cs x4 h) (va_cwS 1 htb (TB_s tb_353 tb_354 tb_5 (TB_self tb_355)) rfl rfl rfl z_X6_ones.2 ⟨Nat.le_of_ble_eq_true rfl, Nat.le_of_ble_eq_true rfl⟩) rfl hl.1 rfl (Nat.le_of_ble_eq_true rfl) ⟨Nat.le_of_ble_eq_true rfl, Nat.le_of_ble_eq_true rfl⟩ dX6_passed_102 (fun r_3 h => ?_)
        refine lv_aload_n hx hb dX6_passed_105 rfl (lv_at hl 0 rfl) ?_
        refine va_get (D := D) (ci := 6) (v := .int d_o.1) (C := RX6) (T := TX6) (N := 17) hx hb htb inT_X6 hown hK hP 0 rfl rfl 10 (by decide) (htb _ tb_341) (fun _ h9 => h9) rfl dX6_passed_106 ?_
        refine lv_icmp_ne (tgt := 135) hx hb dX6_passed_109 (by decide) (fun c_4 => ?_) (fun c_4 => ?_)
        · have h := h.2 c_4
          exact B135 _ _ _ w_o_refusal d_o x4 hP hD hS (lv_sub hl [0, 1, 2, 3, 4] rfl) h
        · have h := h.1 c_4
          refine lv_iload hx hb dX6_passed_112 (lv_at hl 4 rfl) ?_
          refine lv_iload_n hx hb dX6_passed_114 rfl (lv_at hl 2 rfl) ?_
          refine lv_ishr hx hb dX6_passed_115 ?_
          refine lv_iconst (v := (1 : Int32)) hx hb dX6_passed_116 (by decide) ?_
          refine lv_iand hx hb dX6_passed_117 ?_
          refine lv_if_ne (tgt := 135) hx hb dX6_passed_118 (by decide) (fun c_5 => ?_) (fun c_5 => ?_)
          · have h := h.2 c_5
            exact B135 _ _ _ w_o_refusal d_o x4 hP hD hS (lv_sub hl [0, 1, 2, 3, 4] rfl) h
          · have h := h.1 c_5
            refine lv_aload_n hx hb dX6_passed_121 rfl (lv_at hl 0 rfl) ?_
            refine lv_iload_n hx hb dX6_passed_122 rfl (lv_at hl 1 rfl) ?_
            refine lv_iload_n hx hb dX6_passed_123 rfl (lv_at hl 2 rfl) ?_
            refine lv_iload_n hx hb dX6_passed_124 rfl (lv_at hl 3 rfl) ?_
            refine lv_iload hx hb dX6_passed_125 (lv_at hl 4 rfl) ?_
            refine gVM (wr := []) (As := [.int x1, .int x2, .int x3, .int x4]) (rest := []) ⟨hx, hb, hml, hown, htb⟩ hK hP hD hS hA hN [0, 1, 2] [] rfl (by decide) rfl (by decide) (by decide) (c_X6_comes l D Cs q_o q_o_text q_o_now q_o_trial q_o_diary q_o_kept q_o_isKept q_o_years H.size v_o_now d_o.2.2.2.2.2 w_o_refusal v_o_size v_o_acts d_o.1 d_o.2.1 d_o.2.2.1 d_o.2.2.2.1 d_o.2.2.2.2.1 v_o_spot v_o_out x1 x2 x3 x4 h) (cwV 4 htb (TB_v tb_709 tb_710 tb_711 tb_5 (TB_self tb_712)) rfl rfl rfl z_X6_comes ⟨Nat.le_of_ble_eq_true rfl, Nat.le_of_ble_eq_true rfl⟩) 0 rfl rfl rfl rfl hl.1 rfl (Nat.le_of_ble_eq_true rfl) ⟨Nat.le_of_ble_eq_true rfl, Nat.le_of_ble_eq_true rfl⟩ dX6_passed_127 (fun r_6 m_7 H locs h hP hD hS => ?_)
            have hP : va_P D vwCl [(q_o, .inr (6, [.int w_o_refusal, .ref q_o_text, .int v_o_size, .ref q_o_now, .ref q_o_trial, .ref q_o_diary, .int v_o_acts, .ref q_o_kept, .ref q_o_isKept, .ref q_o_years, .int d_o.1, .int d_o.2.1, .int d_o.2.2.1, .int d_o.2.2.2.1, .int d_o.2.2.2.2.1, .int v_o_spot, .int v_o_out])), (q_o_now, gI Cs 221 v_o_now), (q_o_years, gI Cs 10 m_7)] H := hP
            have hD : va_D A [(q_o, .inr (6, [.int w_o_refusal, .ref q_o_text, .int v_o_size, .ref q_o_now, .ref q_o_trial, .ref q_o_diary, .int v_o_acts, .ref q_o_kept, .ref q_o_isKept, .ref q_o_years, .int d_o.1, .int d_o.2.1, .int d_o.2.2.1, .int d_o.2.2.2.1, .int d_o.2.2.2.2.1, .int v_o_spot, .int v_o_out])), (q_o_now, gI Cs 221 v_o_now), (q_o_years, gI Cs 10 m_7)] := hD
            refine lv_if_eq (tgt := 135) hx hb dX6_passed_130 (by decide) (fun c_8 => ?_) (fun c_8 => ?_)
            · have h := h.1 c_8
              exact B135 _ _ _ w_o_refusal (d_o.1, d_o.2.1, d_o.2.2.1, d_o.2.2.2.1, d_o.2.2.2.2.1, m_7) x4 hP hD hS (lv_sub hl [0, 1, 2, 3, 4] rfl) h
            · have h := h.2 c_8
              refine lv_iconst (v := (1 : Int32)) hx hb dX6_passed_133 (by decide) ?_
              rw [← hQ]
              exact gRetI (u := (w_o_refusal, (d_o.1, d_o.2.1, d_o.2.2.1, d_o.2.2.2.1, d_o.2.2.2.2.1, m_7))) hx hb hr rfl h hP hD hS dX6_passed_134 hlocks
  have B29 : ∀ (H : Heap) (locs : List Loc) (ls : Array Slot) (s1 : Int32), va_P D vwCl [(q_o, .inr (6, [.int v_o_refusal, .ref q_o_text, .int v_o_size, .ref q_o_now, .ref q_o_trial, .ref q_o_diary, .int v_o_acts, .ref q_o_kept, .ref q_o_isKept, .ref q_o_years, .int b_o.1, .int b_o.2.1, .int b_o.2.2.1, .int b_o.2.2.2.1, .int b_o.2.2.2.2.1, .int v_o_spot, .int v_o_out])), (q_o_now, gI Cs 221 v_o_now), (q_o_years, gI Cs 10 b_o.2.2.2.2.2)] H → va_D A [(q_o, .inr (6, [.int v_o_refusal, .ref q_o_text, .int v_o_size, .ref q_o_now, .ref q_o_trial, .ref q_o_diary, .int v_o_acts, .ref q_o_kept, .ref q_o_isKept, .ref q_o_years, .int b_o.1, .int b_o.2.1, .int b_o.2.2.1, .int b_o.2.2.2.1, .int b_o.2.2.2.2.1, .int v_o_spot, .int v_o_out])), (q_o_now, gI Cs 221 v_o_now), (q_o_years, gI Cs 10 b_o.2.2.2.2.2)] → va_S A s.heap H locs → lv_has ls 5 [(0, .ref q_o), (1, .int x1), (2, .int x2), (3, .int x3)] → P_X6_passed_b29 v_o_refusal b_o v_o_now x1 x2 x3 post s1 → W p l e ({ frames := 4, cells := 0, slots := 0, locals := 95 } : Room) s m args below meth c H locs 0 0 Q (F0 m 29 ls [.int s1, .ref q_o]) := by
    intro H locs ls s1 hP hD hS hl h
    unfold P_X6_passed_b29 at h
    refine gVM (wr := [(q_o_now, gI Cs 221 v_o_now), (q_o_years, gI Cs 10 b_o.2.2.2.2.2)]) (As := [.int s1]) (rest := []) ⟨hx, hb, hml, hown, htb⟩ hK hP hD hS hA hN [0] [1, 2] rfl (by decide) rfl (by decide) (by decide) (c_X6_refused l D Cs q_o q_o_text q_o_now q_o_trial q_o_diary q_o_kept q_o_isKept q_o_years H.size v_o_refusal v_o_size v_o_acts b_o.1 b_o.2.1 b_o.2.2.1 b_o.2.2.2.1 b_o.2.2.2.2.1 v_o_spot v_o_out s1 h) (cwV 1 htb (TB_v tb_128 tb_129 tb_130 tb_5 (TB_self tb_131)) rfl rfl rfl z_X6_refused ⟨Nat.le_of_ble_eq_true rfl, Nat.le_of_ble_eq_true rfl⟩) 0 rfl rfl rfl rfl hl.1 rfl (Nat.le_of_ble_eq_true rfl) ⟨Nat.le_of_ble_eq_true rfl, Nat.le_of_ble_eq_true rfl⟩ dX6_passed_29 (fun r_9 m_10 H locs h hP hD hS => ?_)
    have hP : va_P D vwCl [(q_o_now, gI Cs 221 v_o_now), (q_o_years, gI Cs 10 b_o.2.2.2.2.2), (q_o, .inr (6, [.int m_10, .ref q_o_text, .int v_o_size, .ref q_o_now, .ref q_o_trial, .ref q_o_diary, .int v_o_acts, .ref q_o_kept, .ref q_o_isKept, .ref q_o_years, .int b_o.1, .int b_o.2.1, .int b_o.2.2.1, .int b_o.2.2.2.1, .int b_o.2.2.2.2.1, .int v_o_spot, .int v_o_out]))] H := hP
    have hD : va_D A [(q_o_now, gI Cs 221 v_o_now), (q_o_years, gI Cs 10 b_o.2.2.2.2.2), (q_o, .inr (6, [.int m_10, .ref q_o_text, .int v_o_size, .ref q_o_now, .ref q_o_trial, .ref q_o_diary, .int v_o_acts, .ref q_o_kept, .ref q_o_isKept, .ref q_o_years, .int b_o.1, .int b_o.2.1, .int b_o.2.2.1, .int b_o.2.2.2.1, .int b_o.2.2.2.2.1, .int v_o_spot, .int v_o_out]))] := hD
    refine lv_if_eq (tgt := 37) hx hb dX6_passed_32 (by decide) (fun c_11 => ?_) (fun c_11 => ?_)
    · have h := h.1 c_11
      refine lv_aload_n hx hb dX6_passed_37 rfl (lv_at hl 0 rfl) ?_
      refine lv_aload_n hx hb dX6_passed_38 rfl (lv_at hl 0 rfl) ?_
      refine va_get (D := D) (ci := 6) (v := .ref q_o_now) (C := RX6) (T := TX6) (N := 17) hx hb htb inT_X6 hown hK hP 2 rfl rfl 3 (by decide) (htb _ tb_90) (fun _ h9 => h9) rfl dX6_passed_39 ?_
      refine lv_iload_n hx hb dX6_passed_42 rfl (lv_at hl 3 rfl) ?_
      refine gVMv (wr := []) (As := [.ref q_o_now, .int x3]) (rest := []) ⟨hx, hb, hml, hown, htb⟩ hK hP hD hS hA hN [2, 1, 0] [] rfl (by decide) rfl (by decide) (by decide) (c_X6_findLeast l D Cs q_o q_o_now q_o_text q_o_now q_o_trial q_o_diary q_o_kept q_o_isKept q_o_years 221 H.size b_o v_o_now m_10 v_o_size v_o_acts v_o_spot v_o_out x3 h) (cwV 2 htb (TB_v tb_342 tb_343 tb_344 tb_5 (TB_self tb_345)) rfl rfl rfl z_X6_findLeast ⟨Nat.le_of_ble_eq_true rfl, Nat.le_of_ble_eq_true rfl⟩) 2 rfl rfl rfl rfl hl.1 rfl (Nat.le_of_ble_eq_true rfl) ⟨Nat.le_of_ble_eq_true rfl, Nat.le_of_ble_eq_true rfl⟩ dX6_passed_43 (fun m_13 H locs h hP hD hS => ?_)
      have hP : va_P D vwCl [(q_o, .inr (6, [.int m_10, .ref q_o_text, .int v_o_size, .ref q_o_now, .ref q_o_trial, .ref q_o_diary, .int v_o_acts, .ref q_o_kept, .ref q_o_isKept, .ref q_o_years, .int m_13.1, .int m_13.2.1, .int m_13.2.2.1, .int m_13.2.2.2.1, .int m_13.2.2.2.2.1, .int v_o_spot, .int v_o_out])), (q_o_years, gI Cs 10 m_13.2.2.2.2.2), (q_o_now, gI Cs 221 v_o_now)] H := hP
      have hD : va_D A [(q_o, .inr (6, [.int m_10, .ref q_o_text, .int v_o_size, .ref q_o_now, .ref q_o_trial, .ref q_o_diary, .int v_o_acts, .ref q_o_kept, .ref q_o_isKept, .ref q_o_years, .int m_13.1, .int m_13.2.1, .int m_13.2.2.1, .int m_13.2.2.2.1, .int m_13.2.2.2.2.1, .int v_o_spot, .int v_o_out])), (q_o_years, gI Cs 10 m_13.2.2.2.2.2), (q_o_now, gI Cs 221 v_o_now)] := hD
      refine lv_aload_n hx hb dX6_passed_46 rfl (lv_at hl 0 rfl) ?_
      refine va_get (D := D) (ci := 6) (v := .ref q_o_now) (C := RX6) (T := TX6) (N := 17) hx hb htb inT_X6 hown hK hP 0 rfl rfl 3 (by decide) (htb _ tb_90) (fun _ h9 => h9) rfl dX6_passed_47 ?_
      refine lv_iload_n hx hb dX6_passed_50 rfl (lv_at hl 1 rfl) ?_
      refine lv_iload_n hx hb dX6_passed_51 rfl (lv_at hl 2 rfl) ?_
      refine gSR (As := [.ref q_o_now, .int x1, .int x2]) (rest := []) ⟨hx, hb, hml, hown, htb⟩ hK hP hN [2] rfl (c_X6_length l D Cs q_o_now 221 v_o_now x1 x2 h) (va_cwS 3 htb (TB_s tb_368 tb_369 tb_5 (TB_self tb_370)) rfl rfl rfl z_X6_length.2 ⟨Nat.le_of_ble_eq_true rfl, Nat.le_of_ble_eq_true rfl⟩) rfl hl.1 rfl (Nat.le_of_ble_eq_true rfl) ⟨Nat.le_of_ble_eq_true rfl, Nat.le_of_ble_eq_true rfl⟩ dX6_passed_52 (fun r_14 h => ?_)
      refine lv_if_eq (tgt := 82) hx hb dX6_passed_55 (by decide) (fun c_15 => ?_) (fun c_15 => ?_)
      · have h := h.1 c_15
        exact B82 _ _ _ m_10 m_13 (hP.sub [0, 2, 1] rfl) (hD.sub [0, 2, 1] (by decide) rfl) hS (lv_sub hl [0, 1, 2, 3] rfl) h
      · have h := h.2 c_15
        refine lv_aload_n hx hb dX6_passed_58 rfl (lv_at hl 0 rfl) ?_
        refine va_get (D := D) (ci := 6) (v := .ref q_o_now) (C := RX6) (T := TX6) (N := 17) hx hb htb inT_X6 hown hK hP 0 rfl rfl 3 (by decide) (htb _ tb_90) (fun _ h9 => h9) rfl dX6_passed_59 ?_
        refine lv_bipush (v := (101 : Int32)) hx hb dX6_passed_62 (by decide) ?_
        refine lv_iload_n hx hb dX6_passed_64 rfl (lv_at hl 2 rfl) ?_
        refine lv_iload_n hx hb dX6_passed_65 rfl (lv_at hl 3 rfl) ?_
        refine gSR (As := [.int x2, .int x3]) (rest := [.int (101 : Int32), .ref q_o_now]) ⟨hx, hb, hml, hown, htb⟩ hK hP hN [] rfl (c_X6_at l D Cs x2 x3 h) (va_cwS 2 htb (TB_s tb_203 tb_204 tb_5 (TB_self tb_205)) rfl rfl rfl z_X6_at.2 ⟨Nat.le_of_ble_eq_true rfl, Nat.le_of_ble_eq_true rfl⟩) rfl hl.1 rfl (Nat.le_of_ble_eq_true rfl) ⟨Nat.le_of_ble_eq_true rfl, Nat.le_of_ble_eq_true rfl⟩ dX6_passed_66 (fun r_16 h => ?_)
        refine lv_iadd hx hb dX6_passed_69 ?_
        obtain ⟨hi_17, h⟩ := h
        refine va_iald hx hb hK hP 2 0 rfl rfl hi_17 dX6_passed_70 ?_
        refine lv_if_eq (tgt := 82) hx hb dX6_passed_71 (by decide) (fun c_18 => ?_) (fun c_18 => ?_)
        · have h := h.1 c_18
          exact B82 _ _ _ m_10 m_13 (hP.sub [0, 2, 1] rfl) (hD.sub [0, 2, 1] (by decide) rfl) hS (lv_sub hl [0, 1, 2, 3] rfl) h
        · have h := h.2 c_18
          refine lv_aload_n hx hb dX6_passed_74 rfl (lv_at hl 0 rfl) ?_
          refine va_get (D := D) (ci := 6) (v := .int m_13.1) (C := RX6) (T := TX6) (N := 17) hx hb htb inT_X6 hown hK hP 0 rfl rfl 10 (by decide) (htb _ tb_341) (fun _ h9 => h9) rfl dX6_passed_75 ?_
          refine lv_iconst (v := (-1 : Int32)) hx hb dX6_passed_78 (by decide) ?_
          refine lv_icmp_ne (tgt := 84) hx hb dX6_passed_79 (by decide) (fun c_19 => ?_) (fun c_19 => ?_)
          · have h := h.2 c_19
            refine lv_iconst (v := (0 : Int32)) hx hb dX6_passed_84 (by decide) ?_
            refine lv_istore (lv' := [(4, .int (0 : Int32)), (0, .ref q_o), (1, .int x1), (2, .int x2), (3, .int x3)]) hx hb dX6_passed_85 hl (by decide) rfl (fun ls hl => ?_)
            obtain ⟨n, h⟩ := h
            exact L87 n _ _ _ m_10 m_13 (0 : Int32) (hP.sub [0, 2, 1] rfl) (hD.sub [0, 2, 1] (by decide) rfl) hS (lv_sub hl [1, 2, 3, 4, 0] rfl) h
          · have h := h.1 c_19
            exact B82 _ _ _ m_10 m_13 (hP.sub [0, 2, 1] rfl) (hD.sub [0, 2, 1] (by decide) rfl) hS (lv_sub hl [0, 1, 2, 3] rfl) h
    · have h := h.2 c_11
      refine lv_iconst (v := (0 : Int32)) hx hb dX6_passed_35 (by decide) ?_
      rw [← hQ]
      exact gRetI (u := (m_10, b_o)) hx hb hr rfl h (hP.sub [2, 0, 1] rfl) (hD.sub [2, 0, 1] (by decide) rfl) hS dX6_passed_36 hlocks
  unfold P_X6_passed at h
  refine lv_aload_n hx hb dX6_passed_0 rfl (lv_at hl 0 rfl) ?_
  refine lv_aload_n hx hb dX6_passed_1 rfl (lv_at hl 0 rfl) ?_
  refine va_get (D := D) (ci := 6) (v := .ref q_o_now) (C := RX6) (T := TX6) (N := 17) hx hb htb inT_X6 hown hK hP 0 rfl rfl 3 (by decide) (htb _ tb_90) (fun _ h9 => h9) rfl dX6_passed_2 ?_
  refine lv_iload_n hx hb dX6_passed_5 rfl (lv_at hl 1 rfl) ?_
  refine lv_iload_n hx hb dX6_passed_6 rfl (lv_at hl 2 rfl) ?_
  refine gSR (As := [.ref q_o_now, .int x1, .int x2]) (rest := [.ref q_o]) ⟨hx, hb, hml, hown, htb⟩ hK hP hN [1] rfl (c_X6_areTowns l D Cs q_o_now 221 v_o_now x1 x2 h) (va_cwS 3 htb (TB_s tb_399 tb_400 tb_5 (TB_self tb_401)) rfl rfl rfl z_X6_areTowns.2 ⟨Nat.le_of_ble_eq_true rfl, Nat.le_of_ble_eq_true rfl⟩) rfl hl.1 rfl (Nat.le_of_ble_eq_true rfl) ⟨Nat.le_of_ble_eq_true rfl, Nat.le_of_ble_eq_true rfl⟩ dX6_passed_7 (fun r_20 h => ?_)
  refine lv_if_ne (tgt := 17) hx hb dX6_passed_10 (by decide) (fun c_21 => ?_) (fun c_21 => ?_)
  · have h := h.2 c_21
    refine lv_iload_n hx hb dX6_passed_17 rfl (lv_at hl 3 rfl) ?_
    refine gSR (As := [.int x3]) (rest := [.ref q_o]) ⟨hx, hb, hml, hown, htb⟩ hK hP hN [] rfl (c_X6_isTrait l D Cs x3 h) (va_cwS 1 htb (TB_s tb_436 tb_437 tb_5 (TB_self tb_438)) rfl rfl rfl z_X6_isTrait.2 ⟨Nat.le_of_ble_eq_true rfl, Nat.le_of_ble_eq_true rfl⟩) rfl hl.1 rfl (Nat.le_of_ble_eq_true rfl) ⟨Nat.le_of_ble_eq_true rfl, Nat.le_of_ble_eq_true rfl⟩ dX6_passed_18 (fun r_22 h => ?_)
    refine lv_if_eq (tgt := 28) hx hb dX6_passed_21 (by decide) (fun c_23 => ?_) (fun c_23 => ?_)
    · have h := h.1 c_23
      refine lv_iconst (v := (2 : Int32)) hx hb dX6_passed_28 (by decide) ?_
      exact B29 _ _ _ (2 : Int32) hP hD hS (lv_sub hl [0, 1, 2, 3] rfl) h
    · have h := h.2 c_23
      refine lv_iconst (v := (0 : Int32)) hx hb dX6_passed_24 (by decide) ?_
      refine lv_goto (tgt := 29) hx hb dX6_passed_25 (by decide) ?_
      exact B29 _ _ _ (0 : Int32) hP hD hS (lv_sub hl [0, 1, 2, 3] rfl) h
  · have h := h.1 c_21
    refine lv_iconst (v := (1 : Int32)) hx hb dX6_passed_13 (by decide) ?_
    refine lv_goto (tgt := 29) hx hb dX6_passed_14 (by decide) ?_
    exact B29 _ _ _ (1 : Int32) hP hD hS (lv_sub hl [0, 1, 2, 3] rfl) h
set_option maxHeartbeats 4000000 in
set_option maxRecDepth 100000 in
theorem c_X6_ifLaidOn (l : Launch) (D : va_G) (Cs : Nat → ClassId) (q_o : Nat) (q_o_text : Nat) (q_o_now : Nat) (q_o_trial : Nat) (q_o_diary : Nat) (q_o_kept : Nat) (q_o_isKept : Nat) (q_o_years : Nat) (sz : Nat) (b_o : BM) (v_o_now : (Nat → Int32)) (v_o_trial : (Nat → Int32)) (v_o_refusal : Int32) (v_o_size : Int32) (v_o_acts : Int32) (v_o_spot : Int32) (v_o_out : Int32) (x1 : Int32) (x2 : Int32) (x3 : Int32) {post : Int32 → BM → (Nat → Int32) → Prop} (h : P_X6_ifLaidOn b_o v_o_now v_o_trial x1 x2 x3 post) : Met l yX6_ifLaidOn wsX6_ifLaidOn ({ frames := 5, cells := 0, slots := 0, locals := 118 } : Room) (va_Pc [.ref q_o, .int x1, .int x2, .int x3] (gM D Cs [(q_o, .inr (6, [.int v_o_refusal, .ref q_o_text, .int v_o_size, .ref q_o_now, .ref q_o_trial, .ref q_o_diary, .int v_o_acts, .ref q_o_kept, .ref q_o_isKept, .ref q_o_years, .int b_o.1, .int b_o.2.1, .int b_o.2.2.1, .int b_o.2.2.2.1, .int b_o.2.2.2.2.1, .int v_o_spot, .int v_o_out])), (q_o_now, gI Cs 221 v_o_now), (q_o_trial, gI Cs 221 v_o_trial), (q_o_years, gI Cs 10 b_o.2.2.2.2.2)] sz)) (va_Qi (fun (r : Int32) (u : BM × (Nat → Int32)) => post r u.1 u.2) (gB D (va_A [(q_o, .inr (6, [.int v_o_refusal, .ref q_o_text, .int v_o_size, .ref q_o_now, .ref q_o_trial, .ref q_o_diary, .int v_o_acts, .ref q_o_kept, .ref q_o_isKept, .ref q_o_years, .int b_o.1, .int b_o.2.1, .int b_o.2.2.1, .int b_o.2.2.2.1, .int b_o.2.2.2.2.1, .int v_o_spot, .int v_o_out])), (q_o_now, gI Cs 221 v_o_now), (q_o_trial, gI Cs 221 v_o_trial), (q_o_years, gI Cs 10 b_o.2.2.2.2.2)] sz) (fun u : BM × (Nat → Int32) => [(q_o, .inr (6, [.int v_o_refusal, .ref q_o_text, .int v_o_size, .ref q_o_now, .ref q_o_trial, .ref q_o_diary, .int v_o_acts, .ref q_o_kept, .ref q_o_isKept, .ref q_o_years, .int u.1.1, .int u.1.2.1, .int u.1.2.2.1, .int u.1.2.2.2.1, .int u.1.2.2.2.2.1, .int v_o_spot, .int v_o_out])), (q_o_now, gI Cs 221 v_o_now), (q_o_trial, gI Cs 221 u.2), (q_o_years, gI Cs 10 u.1.2.2.2.2.2)])) (va_A [(q_o, .inr (6, [.int v_o_refusal, .ref q_o_text, .int v_o_size, .ref q_o_now, .ref q_o_trial, .ref q_o_diary, .int v_o_acts, .ref q_o_kept, .ref q_o_isKept, .ref q_o_years, .int b_o.1, .int b_o.2.1, .int b_o.2.2.1, .int b_o.2.2.2.1, .int b_o.2.2.2.2.1, .int v_o_spot, .int v_o_out])), (q_o_now, gI Cs 221 v_o_now), (q_o_trial, gI Cs 221 v_o_trial), (q_o_years, gI Cs 10 b_o.2.2.2.2.2)] sz)) 0 0 (va_A [(q_o, .inr (6, [.int v_o_refusal, .ref q_o_text, .int v_o_size, .ref q_o_now, .ref q_o_trial, .ref q_o_diary, .int v_o_acts, .ref q_o_kept, .ref q_o_isKept, .ref q_o_years, .int b_o.1, .int b_o.2.1, .int b_o.2.2.1, .int b_o.2.2.2.1, .int b_o.2.2.2.2.1, .int v_o_spot, .int v_o_out])), (q_o_now, gI Cs 221 v_o_now), (q_o_trial, gI Cs 221 v_o_trial), (q_o_years, gI Cs 10 b_o.2.2.2.2.2)] sz) := by
  refine Met.ofW (cc := cX6_ifLaidOn) (maxL := 4) (ret := (some .int)) (by decide) rfl ?_
  intro p e s m args below meth c s₁ B hml hv
  obtain ⟨ha, hsz, hP, hK, hD0, hN⟩ := hv
  have hx := B.exec
  have hb := B.bytes
  have hr := B.returns
  have hts := atoms_spec (ws := wsX6_ifLaidOn) B.pre
  have htb : ∀ w ∈ TB, w.before args s = true := fun w h9 => hts w (List.mem_cons_of_mem _ h9)
  have hown : s.vm.findClass RX6 = some m.cls := findClass_of_methodNamed B.named
  have hlocks := B.notSynchronized
  subst hsz
  have hD := hD0.self (sz := s.heap.size)
  generalize hAe : va_A [(q_o, .inr (6, [.int v_o_refusal, .ref q_o_text, .int v_o_size, .ref q_o_now, .ref q_o_trial, .ref q_o_diary, .int v_o_acts, .ref q_o_kept, .ref q_o_isKept, .ref q_o_years, .int b_o.1, .int b_o.2.1, .int b_o.2.2.1, .int b_o.2.2.2.1, .int b_o.2.2.2.2.1, .int v_o_spot, .int v_o_out])), (q_o_now, gI Cs 221 v_o_now), (q_o_trial, gI Cs 221 v_o_trial), (q_o_years, gI Cs 10 b_o.2.2.2.2.2)] s.heap.size = A at hD ⊢
  have hA : ∀ q : Nat, s.heap.size ≤ q → A q := fun q h9 => by rw [← hAe]; exact Or.inr h9
  obtain ⟨H, hH⟩ : ∃ z : Heap, z = s.heap := ⟨_, rfl⟩
  have hS : va_S A s.heap H [] := by rw [hH]; exact va_S.rf
  have hP : va_P D vwCl [(q_o, .inr (6, [.int v_o_refusal, .ref q_o_text, .int v_o_size, .ref q_o_now, .ref q_o_trial, .ref q_o_diary, .int v_o_acts, .ref q_o_kept, .ref q_o_isKept, .ref q_o_years, .int b_o.1, .int b_o.2.1, .int b_o.2.2.1, .int b_o.2.2.2.1, .int b_o.2.2.2.2.1, .int v_o_spot, .int v_o_out])), (q_o_now, gI Cs 221 v_o_now), (q_o_trial, gI Cs 221 v_o_trial), (q_o_years, gI Cs 10 b_o.2.2.2.2.2)] H := by rw [hH]; exact hP
  generalize hQ : MQ below _ args s _ _ _ = Q
  show W p l e ({ frames := 5, cells := 0, slots := 0, locals := 118 } : Room) s m args below meth c s.heap [] 0 0 Q (entryFrame m args 4)
  have hent : entryFrame m args 4 = F0 m 0 ((lg_sl ([.ref q_o, .int x1, .int x2, .int x3]) ++ List.replicate (4 - (lg_sl ([.ref q_o, .int x1, .int x2, .int x3])).length) Slot.unset).toArray) [] := by rw [ha]; exact lg_entry_eq m ([.ref q_o, .int x1, .int x2, .int x3]) 4
  rw [hent]; clear hent
  rw [← hH]
  have hl := lv_entry ([.ref q_o, .int x1, .int x2, .int x3]) (n := 4) (Nat.le_of_ble_eq_true rfl)
  generalize (lg_sl ([.ref q_o, .int x1, .int x2, .int x3]) ++ List.replicate (4 - (lg_sl ([.ref q_o, .int x1, .int x2, .int x3])).length) Slot.unset).toArray = ls at hl ⊢
  have hl : lv_has ls 4 [(0, .ref q_o), (1, .int x1), (2, .int x2), (3, .int x3)] := hl
  unfold P_X6_ifLaidOn at h
  refine lv_aload_n hx hb dX6_ifLaidOn_0 rfl (lv_at hl 0 rfl) ?_
  refine va_get (D := D) (ci := 6) (v := .ref q_o_now) (C := RX6) (T := TX6) (N := 17) hx hb htb inT_X6 hown hK hP 0 rfl rfl 3 (by decide) (htb _ tb_90) (fun _ h9 => h9) rfl dX6_ifLaidOn_1 ?_
  refine lv_iconst (v := (0 : Int32)) hx hb dX6_ifLaidOn_4 (by decide) ?_
  refine lv_aload_n hx hb dX6_ifLaidOn_5 rfl (lv_at hl 0 rfl) ?_
  refine va_get (D := D) (ci := 6) (v := .ref q_o_trial) (C := RX6) (T := TX6) (N := 17) hx hb htb inT_X6 hown hK hP 0 rfl rfl 4 (by decide) (htb _ tb_91) (fun _ h9 => h9) rfl dX6_ifLaidOn_6 ?_
  refine lv_iconst (v := (0 : Int32)) hx hb dX6_ifLaidOn_9 (by decide) ?_
  refine gSMv (wr := [(q_o, .inr (6, [.int v_o_refusal, .ref q_o_text, .int v_o_size, .ref q_o_now, .ref q_o_trial, .ref q_o_diary, .int v_o_acts, .ref q_o_kept, .ref q_o_isKept, .ref q_o_years, .int b_o.1, .int b_o.2.1, .int b_o.2.2.1, .int b_o.2.2.2.1, .int b_o.2.2.2.2.1, .int v_o_spot, .int v_o_out])), (q_o_years, gI Cs 10 b_o.2.2.2.2.2)]) (As := [.ref q_o_now, .int (0 : Int32), .ref q_o_trial, .int (0 : Int32)]) (rest := []) ⟨hx, hb, hml, hown, htb⟩ hK hP hD hS hA hN [1, 2] [0, 3] rfl (by decide) rfl (by decide) (by decide) (c_X6_copyState l D Cs q_o_now q_o_trial 221 221 H.size v_o_now v_o_trial (0 : Int32) (0 : Int32) h) (va_cwS 4 htb (TB_s tb_170 tb_171 tb_5 (TB_self tb_172)) rfl rfl rfl z_X6_copyState.2 ⟨Nat.le_of_ble_eq_true rfl, Nat.le_of_ble_eq_true rfl⟩) rfl hl.1 rfl (Nat.le_of_ble_eq_true rfl) ⟨Nat.le_of_ble_eq_true rfl, Nat.le_of_ble_eq_true rfl⟩ dX6_ifLaidOn_10 (fun m_2 H locs h hP hD hS => ?_)
  have hP : va_P D vwCl [(q_o, .inr (6, [.int v_o_refusal, .ref q_o_text, .int v_o_size, .ref q_o_now, .ref q_o_trial, .ref q_o_diary, .int v_o_acts, .ref q_o_kept, .ref q_o_isKept, .ref q_o_years, .int b_o.1, .int b_o.2.1, .int b_o.2.2.1, .int b_o.2.2.2.1, .int b_o.2.2.2.2.1, .int v_o_spot, .int v_o_out])), (q_o_years, gI Cs 10 b_o.2.2.2.2.2), (q_o_now, gI Cs 221 v_o_now), (q_o_trial, gI Cs 221 m_2)] H := hP
  have hD : va_D A [(q_o, .inr (6, [.int v_o_refusal, .ref q_o_text, .int v_o_size, .ref q_o_now, .ref q_o_trial, .ref q_o_diary, .int v_o_acts, .ref q_o_kept, .ref q_o_isKept, .ref q_o_years, .int b_o.1, .int b_o.2.1, .int b_o.2.2.1, .int b_o.2.2.2.1, .int b_o.2.2.2.2.1, .int v_o_spot, .int v_o_out])), (q_o_years, gI Cs 10 b_o.2.2.2.2.2), (q_o_now, gI Cs 221 v_o_now), (q_o_trial, gI Cs 221 m_2)] := hD
  refine lv_aload_n hx hb dX6_ifLaidOn_13 rfl (lv_at hl 0 rfl) ?_
  refine va_get (D := D) (ci := 6) (v := .ref q_o_trial) (C := RX6) (T := TX6) (N := 17) hx hb htb inT_X6 hown hK hP 0 rfl rfl 4 (by decide) (htb _ tb_91) (fun _ h9 => h9) rfl dX6_ifLaidOn_14 ?_
  refine lv_iload_n hx hb dX6_ifLaidOn_17 rfl (lv_at hl 1 rfl) ?_
  refine lv_iload_n hx hb dX6_ifLaidOn_18 rfl (lv_at hl 2 rfl) ?_
  refine lv_iload_n hx hb dX6_ifLaidOn_19 rfl (lv_at hl 3 rfl) ?_
  refine gSM (wr := [(q_o, .inr (6, [.int v_o_refusal, .ref q_o_text, .int v_o_size, .ref q_o_now, .ref q_o_trial, .ref q_o_diary, .int v_o_acts, .ref q_o_kept, .ref q_o_isKept, .ref q_o_years, .int b_o.1, .int b_o.2.1, .int b_o.2.2.1, .int b_o.2.2.2.1, .int b_o.2.2.2.2.1, .int v_o_spot, .int v_o_out])), (q_o_years, gI Cs 10 b_o.2.2.2.2.2), (q_o_now, gI Cs 221 v_o_now)]) (As := [.ref q_o_trial, .int x1, .int x2, .int x3]) (rest := []) ⟨hx, hb, hml, hown, htb⟩ hK hP hD hS hA hN [3] [0, 1, 2] rfl (by decide) rfl (by decide) (by decide) (c_X6_layOn l D Cs q_o_trial 221 H.size m_2 x1 x2 x3 h) (va_cwS 4 htb (TB_s tb_513 tb_514 tb_5 (TB_self tb_515)) rfl rfl rfl z_X6_layOn.2 ⟨Nat.le_of_ble_eq_true rfl, Nat.le_of_ble_eq_true rfl⟩) rfl hl.1 rfl (Nat.le_of_ble_eq_true rfl) ⟨Nat.le_of_ble_eq_true rfl, Nat.le_of_ble_eq_true rfl⟩ dX6_ifLaidOn_20 (fun r_3 m_4 H locs h hP hD hS => ?_)
  have hP : va_P D vwCl [(q_o, .inr (6, [.int v_o_refusal, .ref q_o_text, .int v_o_size, .ref q_o_now, .ref q_o_trial, .ref q_o_diary, .int v_o_acts, .ref q_o_kept, .ref q_o_isKept, .ref q_o_years, .int b_o.1, .int b_o.2.1, .int b_o.2.2.1, .int b_o.2.2.2.1, .int b_o.2.2.2.2.1, .int v_o_spot, .int v_o_out])), (q_o_years, gI Cs 10 b_o.2.2.2.2.2), (q_o_now, gI Cs 221 v_o_now), (q_o_trial, gI Cs 221 m_4)] H := hP
  have hD : va_D A [(q_o, .inr (6, [.int v_o_refusal, .ref q_o_text, .int v_o_size, .ref q_o_now, .ref q_o_trial, .ref q_o_diary, .int v_o_acts, .ref q_o_kept, .ref q_o_isKept, .ref q_o_years, .int b_o.1, .int b_o.2.1, .int b_o.2.2.1, .int b_o.2.2.2.1, .int b_o.2.2.2.2.1, .int v_o_spot, .int v_o_out])), (q_o_years, gI Cs 10 b_o.2.2.2.2.2), (q_o_now, gI Cs 221 v_o_now), (q_o_trial, gI Cs 221 m_4)] := hD
  refine lv_pop hx hb dX6_ifLaidOn_23 rfl ?_
  refine lv_aload_n hx hb dX6_ifLaidOn_24 rfl (lv_at hl 0 rfl) ?_
  refine lv_aload_n hx hb dX6_ifLaidOn_25 rfl (lv_at hl 0 rfl) ?_
  refine va_get (D := D) (ci := 6) (v := .ref q_o_trial) (C := RX6) (T := TX6) (N := 17) hx hb htb inT_X6 hown hK hP 0 rfl rfl 4 (by decide) (htb _ tb_91) (fun _ h9 => h9) rfl dX6_ifLaidOn_26 ?_
  refine gVM (wr := [(q_o_now, gI Cs 221 v_o_now)]) (As := [.ref q_o_trial]) (rest := []) ⟨hx, hb, hml, hown, htb⟩ hK hP hD hS hA hN [0, 1, 3] [2] rfl (by decide) rfl (by decide) (by decide) (c_X6_inventionsInAll l D Cs q_o q_o_trial q_o_text q_o_now q_o_trial q_o_diary q_o_kept q_o_isKept q_o_years 221 H.size b_o m_4 v_o_refusal v_o_size v_o_acts v_o_spot v_o_out h) (cwV 1 htb (TB_v tb_375 tb_376 tb_377 tb_5 (TB_self tb_378)) rfl rfl rfl z_X6_inventionsInAll ⟨Nat.le_of_ble_eq_true rfl, Nat.le_of_ble_eq_true rfl⟩) 0 rfl rfl rfl rfl hl.1 rfl (Nat.le_of_ble_eq_true rfl) ⟨Nat.le_of_ble_eq_true rfl, Nat.le_of_ble_eq_true rfl⟩ dX6_ifLaidOn_29 (fun r_5 m_6 H locs h hP hD hS => ?_)
  have hP : va_P D vwCl [(q_o_now, gI Cs 221 v_o_now), (q_o, .inr (6, [.int v_o_refusal, .ref q_o_text, .int v_o_size, .ref q_o_now, .ref q_o_trial, .ref q_o_diary, .int v_o_acts, .ref q_o_kept, .ref q_o_isKept, .ref q_o_years, .int m_6.1, .int m_6.2.1, .int m_6.2.2.1, .int m_6.2.2.2.1, .int m_6.2.2.2.2.1, .int v_o_spot, .int v_o_out])), (q_o_years, gI Cs 10 m_6.2.2.2.2.2), (q_o_trial, gI Cs 221 m_4)] H := hP
  have hD : va_D A [(q_o_now, gI Cs 221 v_o_now), (q_o, .inr (6, [.int v_o_refusal, .ref q_o_text, .int v_o_size, .ref q_o_now, .ref q_o_trial, .ref q_o_diary, .int v_o_acts, .ref q_o_kept, .ref q_o_isKept, .ref q_o_years, .int m_6.1, .int m_6.2.1, .int m_6.2.2.1, .int m_6.2.2.2.1, .int m_6.2.2.2.2.1, .int v_o_spot, .int v_o_out])), (q_o_years, gI Cs 10 m_6.2.2.2.2.2), (q_o_trial, gI Cs 221 m_4)] := hD
  rw [← hQ]
  exact gRetI (u := (m_6, m_4)) hx hb hr rfl h (hP.sub [1, 0, 3, 2] rfl) (hD.sub [1, 0, 3, 2] (by decide) rfl) hS dX6_ifLaidOn_32 hlocks
set_option maxHeartbeats 4000000 in
set_option maxRecDepth 100000 in
theorem c_X6_ifLaid (l : Launch) (D : va_G) (Cs : Nat → ClassId) (q_o : Nat) (q_o_text : Nat) (q_o_now : Nat) (q_o_trial : Nat) (q_o_diary : Nat) (q_o_kept : Nat) (q_o_isKept : Nat) (q_o_years : Nat) (sz : Nat) (v_o_refusal : Int32) (b_o : BM) (v_o_now : (Nat → Int32)) (v_o_trial : (Nat → Int32)) (v_o_size : Int32) (v_o_acts : Int32) (v_o_spot : Int32) (v_o_out : Int32) (x1 : Int32) (x2 : Int32) (x3 : Int32) {post : Int32 → Int32 → BM → (Nat → Int32) → Prop} (h : P_X6_ifLaid v_o_refusal b_o v_o_now v_o_trial x1 x2 x3 post) : Met l yX6_ifLaid wsX6_ifLaid ({ frames := 6, cells := 0, slots := 0, locals := 141 } : Room) (va_Pc [.ref q_o, .int x1, .int x2, .int x3] (gM D Cs [(q_o, .inr (6, [.int v_o_refusal, .ref q_o_text, .int v_o_size, .ref q_o_now, .ref q_o_trial, .ref q_o_diary, .int v_o_acts, .ref q_o_kept, .ref q_o_isKept, .ref q_o_years, .int b_o.1, .int b_o.2.1, .int b_o.2.2.1, .int b_o.2.2.2.1, .int b_o.2.2.2.2.1, .int v_o_spot, .int v_o_out])), (q_o_now, gI Cs 221 v_o_now), (q_o_trial, gI Cs 221 v_o_trial), (q_o_years, gI Cs 10 b_o.2.2.2.2.2)] sz)) (va_Qi (fun (r : Int32) (u : Int32 × BM × (Nat → Int32)) => post r u.1 u.2.1 u.2.2) (gB D (va_A [(q_o, .inr (6, [.int v_o_refusal, .ref q_o_text, .int v_o_size, .ref q_o_now, .ref q_o_trial, .ref q_o_diary, .int v_o_acts, .ref q_o_kept, .ref q_o_isKept, .ref q_o_years, .int b_o.1, .int b_o.2.1, .int b_o.2.2.1, .int b_o.2.2.2.1, .int b_o.2.2.2.2.1, .int v_o_spot, .int v_o_out])), (q_o_now, gI Cs 221 v_o_now), (q_o_trial, gI Cs 221 v_o_trial), (q_o_years, gI Cs 10 b_o.2.2.2.2.2)] sz) (fun u : Int32 × BM × (Nat → Int32) => [(q_o, .inr (6, [.int u.1, .ref q_o_text, .int v_o_size, .ref q_o_now, .ref q_o_trial, .ref q_o_diary, .int v_o_acts, .ref q_o_kept, .ref q_o_isKept, .ref q_o_years, .int u.2.1.1, .int u.2.1.2.1, .int u.2.1.2.2.1, .int u.2.1.2.2.2.1, .int u.2.1.2.2.2.2.1, .int v_o_spot, .int v_o_out])), (q_o_now, gI Cs 221 v_o_now), (q_o_trial, gI Cs 221 u.2.2), (q_o_years, gI Cs 10 u.2.1.2.2.2.2.2)])) (va_A [(q_o, .inr (6, [.int v_o_refusal, .ref q_o_text, .int v_o_size, .ref q_o_now, .ref q_o_trial, .ref q_o_diary, .int v_o_acts, .ref q_o_kept, .ref q_o_isKept, .ref q_o_years, .int b_o.1, .int b_o.2.1, .int b_o.2.2.1, .int b_o.2.2.2.1, .int b_o.2.2.2.2.1, .int v_o_spot, .int v_o_out])), (q_o_now, gI Cs 221 v_o_now), (q_o_trial, gI Cs 221 v_o_trial), (q_o_years, gI Cs 10 b_o.2.2.2.2.2)] sz)) 0 0 (va_A [(q_o, .inr (6, [.int v_o_refusal, .ref q_o_text, .int v_o_size, .ref q_o_now, .ref q_o_trial, .ref q_o_diary, .int v_o_acts, .ref q_o_kept, .ref q_o_isKept, .ref q_o_years, .int b_o.1, .int b_o.2.1, .int b_o.2.2.1, .int b_o.2.2.2.1, .int b_o.2.2.2.2.1, .int v_o_spot, .int v_o_out])), (q_o_now, gI Cs 221 v_o_now), (q_o_trial, gI Cs 221 v_o_trial), (q_o_years, gI Cs 10 b_o.2.2.2.2.2)] sz) := by
  refine Met.ofW (cc := cX6_ifLaid) (maxL := 4) (ret := (some .int)) (by decide) rfl ?_
  intro p e s m args below meth c s₁ B hml hv
  obtain ⟨ha, hsz, hP, hK, hD0, hN⟩ := hv
  have hx := B.exec
  have hb := B.bytes
  have hr := B.returns
  have hts := atoms_spec (ws := wsX6_ifLaid) B.pre
  have htb : ∀ w ∈ TB, w.before args s = true := fun w h9 => hts w (List.mem_cons_of_mem _ h9)
  have hown : s.vm.findClass RX6 = some m.cls := findClass_of_methodNamed B.named
  have hlocks := B.notSynchronized
  subst hsz
  have hD := hD0.self (sz := s.heap.size)
  generalize hAe : va_A [(q_o, .inr (6, [.int v_o_refusal, .ref q_o_text, .int v_o_size, .ref q_o_now, .ref q_o_trial, .ref q_o_diary, .int v_o_acts, .ref q_o_kept, .ref q_o_isKept, .ref q_o_years, .int b_o.1, .int b_o.2.1, .int b_o.2.2.1, .int b_o.2.2.2.1, .int b_o.2.2.2.2.1, .int v_o_spot, .int v_o_out])), (q_o_now, gI Cs 221 v_o_now), (q_o_trial, gI Cs 221 v_o_trial), (q_o_years, gI Cs 10 b_o.2.2.2.2.2)] s.heap.size = A at hD ⊢
  have hA : ∀ q : Nat, s.heap.size ≤ q → A q := fun q h9 => by rw [← hAe]; exact Or.inr h9
  obtain ⟨H, hH⟩ : ∃ z : Heap, z = s.heap := ⟨_, rfl⟩
  have hS : va_S A s.heap H [] := by rw [hH]; exact va_S.rf
  have hP : va_P D vwCl [(q_o, .inr (6, [.int v_o_refusal, .ref q_o_text, .int v_o_size, .ref q_o_now, .ref q_o_trial, .ref q_o_diary, .int v_o_acts, .ref q_o_kept, .ref q_o_isKept, .ref q_o_years, .int b_o.1, .int b_o.2.1, .int b_o.2.2.1, .int b_o.2.2.2.1, .int b_o.2.2.2.2.1, .int v_o_spot, .int v_o_out])), (q_o_now, gI Cs 221 v_o_now), (q_o_trial, gI Cs 221 v_o_trial), (q_o_years, gI Cs 10 b_o.2.2.2.2.2)] H := by rw [hH]; exact hP
  generalize hQ : MQ below _ args s _ _ _ = Q
  show W p l e ({ frames := 6, cells := 0, slots := 0, locals := 141 } : Room) s m args below meth c s.heap [] 0 0 Q (entryFrame m args 4)
  have hent : entryFrame m args 4 = F0 m 0 ((lg_sl ([.ref q_o, .int x1, .int x2, .int x3]) ++ List.replicate (4 - (lg_sl ([.ref q_o, .int x1, .int x2, .int x3])).length) Slot.unset).toArray) [] := by rw [ha]; exact lg_entry_eq m ([.ref q_o, .int x1, .int x2, .int x3]) 4
  rw [hent]; clear hent
  rw [← hH]
  have hl := lv_entry ([.ref q_o, .int x1, .int x2, .int x3]) (n := 4) (Nat.le_of_ble_eq_true rfl)
  generalize (lg_sl ([.ref q_o, .int x1, .int x2, .int x3]) ++ List.replicate (4 - (lg_sl ([.ref q_o, .int x1, .int x2, .int x3])).length) Slot.unset).toArray = ls at hl ⊢
  have hl : lv_has ls 4 [(0, .ref q_o), (1, .int x1), (2, .int x2), (3, .int x3)] := hl
  unfold P_X6_ifLaid at h
  refine lv_aload_n hx hb dX6_ifLaid_0 rfl (lv_at hl 0 rfl) ?_
  refine lv_aload_n hx hb dX6_ifLaid_1 rfl (lv_at hl 0 rfl) ?_
  refine va_get (D := D) (ci := 6) (v := .ref q_o_now) (C := RX6) (T := TX6) (N := 17) hx hb htb inT_X6 hown hK hP 0 rfl rfl 3 (by decide) (htb _ tb_90) (fun _ h9 => h9) rfl dX6_ifLaid_2 ?_
  refine lv_iload_n hx hb dX6_ifLaid_5 rfl (lv_at hl 1 rfl) ?_
  refine lv_iload_n hx hb dX6_ifLaid_6 rfl (lv_at hl 2 rfl) ?_
  refine lv_iload_n hx hb dX6_ifLaid_7 rfl (lv_at hl 3 rfl) ?_
  refine gSR (As := [.ref q_o_now, .int x1, .int x2, .int x3]) (rest := [.ref q_o]) ⟨hx, hb, hml, hown, htb⟩ hK hP hN [1] rfl (c_X6_whyNotLay l D Cs q_o_now 221 v_o_now x1 x2 x3 h) (va_cwS 4 htb (TB_s tb_506 tb_507 tb_5 (TB_self tb_508)) rfl rfl rfl z_X6_whyNotLay.2 ⟨Nat.le_of_ble_eq_true rfl, Nat.le_of_ble_eq_true rfl⟩) rfl hl.1 rfl (Nat.le_of_ble_eq_true rfl) ⟨Nat.le_of_ble_eq_true rfl, Nat.le_of_ble_eq_true rfl⟩ dX6_ifLaid_8 (fun r_1 h => ?_)
  refine gVM (wr := [(q_o_now, gI Cs 221 v_o_now), (q_o_trial, gI Cs 221 v_o_trial), (q_o_years, gI Cs 10 b_o.2.2.2.2.2)]) (As := [.int r_1]) (rest := []) ⟨hx, hb, hml, hown, htb⟩ hK hP hD hS hA hN [0] [1, 2, 3] rfl (by decide) rfl (by decide) (by decide) (c_X6_refused l D Cs q_o q_o_text q_o_now q_o_trial q_o_diary q_o_kept q_o_isKept q_o_years H.size v_o_refusal v_o_size v_o_acts b_o.1 b_o.2.1 b_o.2.2.1 b_o.2.2.2.1 b_o.2.2.2.2.1 v_o_spot v_o_out r_1 h) (cwV 1 htb (TB_v tb_128 tb_129 tb_130 tb_5 (TB_self tb_131)) rfl rfl rfl z_X6_refused ⟨Nat.le_of_ble_eq_true rfl, Nat.le_of_ble_eq_true rfl⟩) 0 rfl rfl rfl rfl hl.1 rfl (Nat.le_of_ble_eq_true rfl) ⟨Nat.le_of_ble_eq_true rfl, Nat.le_of_ble_eq_true rfl⟩ dX6_ifLaid_11 (fun r_2 m_3 H locs h hP hD hS => ?_)
  have hP : va_P D vwCl [(q_o_now, gI Cs 221 v_o_now), (q_o_trial, gI Cs 221 v_o_trial), (q_o_years, gI Cs 10 b_o.2.2.2.2.2), (q_o, .inr (6, [.int m_3, .ref q_o_text, .int v_o_size, .ref q_o_now, .ref q_o_trial, .ref q_o_diary, .int v_o_acts, .ref q_o_kept, .ref q_o_isKept, .ref q_o_years, .int b_o.1, .int b_o.2.1, .int b_o.2.2.1, .int b_o.2.2.2.1, .int b_o.2.2.2.2.1, .int v_o_spot, .int v_o_out]))] H := hP
  have hD : va_D A [(q_o_now, gI Cs 221 v_o_now), (q_o_trial, gI Cs 221 v_o_trial), (q_o_years, gI Cs 10 b_o.2.2.2.2.2), (q_o, .inr (6, [.int m_3, .ref q_o_text, .int v_o_size, .ref q_o_now, .ref q_o_trial, .ref q_o_diary, .int v_o_acts, .ref q_o_kept, .ref q_o_isKept, .ref q_o_years, .int b_o.1, .int b_o.2.1, .int b_o.2.2.1, .int b_o.2.2.2.1, .int b_o.2.2.2.2.1, .int v_o_spot, .int v_o_out]))] := hD
  refine lv_if_eq (tgt := 19) hx hb dX6_ifLaid_14 (by decide) (fun c_4 => ?_) (fun c_4 => ?_)
  · have h := h.1 c_4
    refine lv_aload_n hx hb dX6_ifLaid_19 rfl (lv_at hl 0 rfl) ?_
    refine lv_iload_n hx hb dX6_ifLaid_20 rfl (lv_at hl 1 rfl) ?_
    refine lv_iload_n hx hb dX6_ifLaid_21 rfl (lv_at hl 2 rfl) ?_
    refine lv_iload_n hx hb dX6_ifLaid_22 rfl (lv_at hl 3 rfl) ?_
    refine gVM (wr := []) (As := [.int x1, .int x2, .int x3]) (rest := []) ⟨hx, hb, hml, hown, htb⟩ hK hP hD hS hA hN [3, 0, 1, 2] [] rfl (by decide) rfl (by decide) (by decide) (c_X6_ifLaidOn l D Cs q_o q_o_text q_o_now q_o_trial q_o_diary q_o_kept q_o_isKept q_o_years H.size b_o v_o_now v_o_trial m_3 v_o_size v_o_acts v_o_spot v_o_out x1 x2 x3 h) (cwV 3 htb (TB_v tb_739 tb_740 tb_741 tb_5 (TB_self tb_742)) rfl rfl rfl z_X6_ifLaidOn ⟨Nat.le_of_ble_eq_true rfl, Nat.le_of_ble_eq_true rfl⟩) 3 rfl rfl rfl rfl hl.1 rfl (Nat.le_of_ble_eq_true rfl) ⟨Nat.le_of_ble_eq_true rfl, Nat.le_of_ble_eq_true rfl⟩ dX6_ifLaid_23 (fun r_5 u H locs h hP hD hS => ?_)
    obtain ⟨m_6, m_7⟩ := u
    try dsimp only at h
    have hP : va_P D vwCl [(q_o, .inr (6, [.int m_3, .ref q_o_text, .int v_o_size, .ref q_o_now, .ref q_o_trial, .ref q_o_diary, .int v_o_acts, .ref q_o_kept, .ref q_o_isKept, .ref q_o_years, .int m_6.1, .int m_6.2.1, .int m_6.2.2.1, .int m_6.2.2.2.1, .int m_6.2.2.2.2.1, .int v_o_spot, .int v_o_out])), (q_o_now, gI Cs 221 v_o_now), (q_o_trial, gI Cs 221 m_7), (q_o_years, gI Cs 10 m_6.2.2.2.2.2)] H := hP
    have hD : va_D A [(q_o, .inr (6, [.int m_3, .ref q_o_text, .int v_o_size, .ref q_o_now, .ref q_o_trial, .ref q_o_diary, .int v_o_acts, .ref q_o_kept, .ref q_o_isKept, .ref q_o_years, .int m_6.1, .int m_6.2.1, .int m_6.2.2.1, .int m_6.2.2.2.1, .int m_6.2.2.2.2.1, .int v_o_spot, .int v_o_out])), (q_o_now, gI Cs 221 v_o_now), (q_o_trial, gI Cs 221 m_7), (q_o_years, gI Cs 10 m_6.2.2.2.2.2)] := hD
    rw [← hQ]
    exact gRetI (u := (m_3, m_6, m_7)) hx hb hr rfl h hP hD hS dX6_ifLaid_26 hlocks
  · have h := h.2 c_4
    refine lv_iconst (v := (0 : Int32)) hx hb dX6_ifLaid_17 (by decide) ?_
    rw [← hQ]
    exact gRetI (u := (m_3, b_o, v_o_trial)) hx hb hr rfl h (hP.sub [3, 0, 1, 2] rfl) (hD.sub [3, 0, 1, 2] (by decide) rfl) hS dX6_ifLaid_18 hlocks
set_option maxHeartbeats 4000000 in
set_option maxRecDepth 100000 in
theorem c_X6_bestRoad (l : Launch) (D : va_G) (Cs : Nat → ClassId) (q_o : Nat) (q_o_text : Nat) (q_o_now : Nat) (q_o_trial : Nat) (q_o_diary : Nat) (q_o_kept : Nat) (q_o_isKept : Nat) (q_o_years : Nat) (sz : Nat) (v_o_refusal : Int32) (b_o : BM) (v_o_now : (Nat → Int32)) (v_o_trial : (Nat → Int32)) (v_o_size : Int32) (v_o_acts : Int32) (v_o_spot : Int32) (v_o_out : Int32) (x1 : Int32) {post : Int32 → Int32 → BM → (Nat → Int32) → Prop} (h : P_X6_bestRoad v_o_refusal b_o v_o_now v_o_trial x1 post) : Met l yX6_bestRoad wsX6_bestRoad ({ frames := 6, cells := 0, slots := 0, locals := 141 } : Room) (va_Pc [.ref q_o, .int x1] (gM D Cs [(q_o, .inr (6, [.int v_o_refusal, .ref q_o_text, .int v_o_size, .ref q_o_now, .ref q_o_trial, .ref q_o_diary, .int v_o_acts, .ref q_o_kept, .ref q_o_isKept, .ref q_o_years, .int b_o.1, .int b_o.2.1, .int b_o.2.2.1, .int b_o.2.2.2.1, .int b_o.2.2.2.2.1, .int v_o_spot, .int v_o_out])), (q_o_now, gI Cs 221 v_o_now), (q_o_trial, gI Cs 221 v_o_trial), (q_o_years, gI Cs 10 b_o.2.2.2.2.2)] sz)) (va_Qi (fun (r : Int32) (u : Int32 × BM × (Nat → Int32)) => post r u.1 u.2.1 u.2.2) (gB D (va_A [(q_o, .inr (6, [.int v_o_refusal, .ref q_o_text, .int v_o_size, .ref q_o_now, .ref q_o_trial, .ref q_o_diary, .int v_o_acts, .ref q_o_kept, .ref q_o_isKept, .ref q_o_years, .int b_o.1, .int b_o.2.1, .int b_o.2.2.1, .int b_o.2.2.2.1, .int b_o.2.2.2.2.1, .int v_o_spot, .int v_o_out])), (q_o_now, gI Cs 221 v_o_now), (q_o_trial, gI Cs 221 v_o_trial), (q_o_years, gI Cs 10 b_o.2.2.2.2.2)] sz) (fun u : Int32 × BM × (Nat → Int32) => [(q_o, .inr (6, [.int u.1, .ref q_o_text, .int v_o_size, .ref q_o_now, .ref q_o_trial, .ref q_o_diary, .int v_o_acts, .ref q_o_kept, .ref q_o_isKept, .ref q_o_years, .int u.2.1.1, .int u.2.1.2.1, .int u.2.1.2.2.1, .int u.2.1.2.2.2.1, .int u.2.1.2.2.2.2.1, .int v_o_spot, .int v_o_out])), (q_o_now, gI Cs 221 v_o_now), (q_o_trial, gI Cs 221 u.2.2), (q_o_years, gI Cs 10 u.2.1.2.2.2.2.2)])) (va_A [(q_o, .inr (6, [.int v_o_refusal, .ref q_o_text, .int v_o_size, .ref q_o_now, .ref q_o_trial, .ref q_o_diary, .int v_o_acts, .ref q_o_kept, .ref q_o_isKept, .ref q_o_years, .int b_o.1, .int b_o.2.1, .int b_o.2.2.1, .int b_o.2.2.2.1, .int b_o.2.2.2.2.1, .int v_o_spot, .int v_o_out])), (q_o_now, gI Cs 221 v_o_now), (q_o_trial, gI Cs 221 v_o_trial), (q_o_years, gI Cs 10 b_o.2.2.2.2.2)] sz)) 0 0 (va_A [(q_o, .inr (6, [.int v_o_refusal, .ref q_o_text, .int v_o_size, .ref q_o_now, .ref q_o_trial, .ref q_o_diary, .int v_o_acts, .ref q_o_kept, .ref q_o_isKept, .ref q_o_years, .int b_o.1, .int b_o.2.1, .int b_o.2.2.1, .int b_o.2.2.2.1, .int b_o.2.2.2.2.1, .int v_o_spot, .int v_o_out])), (q_o_now, gI Cs 221 v_o_now), (q_o_trial, gI Cs 221 v_o_trial), (q_o_years, gI Cs 10 b_o.2.2.2.2.2)] sz) := by
  refine Met.ofW (cc := cX6_bestRoad) (maxL := 8) (ret := (some .int)) (by decide) rfl ?_
  intro p e s m args below meth c s₁ B hml hv
  obtain ⟨ha, hsz, hP, hK, hD0, hN⟩ := hv
  have hx := B.exec
  have hb := B.bytes
  have hr := B.returns
  have hts := atoms_spec (ws := wsX6_bestRoad) B.pre
  have htb : ∀ w ∈ TB, w.before args s = true := fun w h9 => hts w (List.mem_cons_of_mem _ h9)
  have hown : s.vm.findClass RX6 = some m.cls := findClass_of_methodNamed B.named
  have hlocks := B.notSynchronized
  subst hsz
  have hD := hD0.self (sz := s.heap.size)
  generalize hAe : va_A [(q_o, .inr (6, [.int v_o_refusal, .ref q_o_text, .int v_o_size, .ref q_o_now, .ref q_o_trial, .ref q_o_diary, .int v_o_acts, .ref q_o_kept, .ref q_o_isKept, .ref q_o_years, .int b_o.1, .int b_o.2.1, .int b_o.2.2.1, .int b_o.2.2.2.1, .int b_o.2.2.2.2.1, .int v_o_spot, .int v_o_out])), (q_o_now, gI Cs 221 v_o_now), (q_o_trial, gI Cs 221 v_o_trial), (q_o_years, gI Cs 10 b_o.2.2.2.2.2)] s.heap.size = A at hD ⊢
  have hA : ∀ q : Nat, s.heap.size ≤ q → A q := fun q h9 => by rw [← hAe]; exact Or.inr h9
  obtain ⟨H, hH⟩ : ∃ z : Heap, z = s.heap := ⟨_, rfl⟩
  have hS : va_S A s.heap H [] := by rw [hH]; exact va_S.rf
  have hP : va_P D vwCl [(q_o, .inr (6, [.int v_o_refusal, .ref q_o_text, .int v_o_size, .ref q_o_now, .ref q_o_trial, .ref q_o_diary, .int v_o_acts, .ref q_o_kept, .ref q_o_isKept, .ref q_o_years, .int b_o.1, .int b_o.2.1, .int b_o.2.2.1, .int b_o.2.2.2.1, .int b_o.2.2.2.2.1, .int v_o_spot, .int v_o_out])), (q_o_now, gI Cs 221 v_o_now), (q_o_trial, gI Cs 221 v_o_trial), (q_o_years, gI Cs 10 b_o.2.2.2.2.2)] H := by rw [hH]; exact hP
  generalize hQ : MQ below _ args s _ _ _ = Q
  show W p l e ({ frames := 6, cells := 0, slots := 0, locals := 141 } : Room) s m args below meth c s.heap [] 0 0 Q (entryFrame m args 8)
  have hent : entryFrame m args 8 = F0 m 0 ((lg_sl ([.ref q_o, .int x1]) ++ List.replicate (8 - (lg_sl ([.ref q_o, .int x1])).length) Slot.unset).toArray) [] := by rw [ha]; exact lg_entry_eq m ([.ref q_o, .int x1]) 8
  rw [hent]; clear hent
  rw [← hH]
  have hl := lv_entry ([.ref q_o, .int x1]) (n := 8) (Nat.le_of_ble_eq_true rfl)
  generalize (lg_sl ([.ref q_o, .int x1]) ++ List.replicate (8 - (lg_sl ([.ref q_o, .int x1])).length) Slot.unset).toArray = ls at hl ⊢
  have hl : lv_has ls 8 [(0, .ref q_o), (1, .int x1)] := hl
  have L33 : ∀ (n : Nat) (H : Heap) (locs : List Loc) (ls : Array Slot) (w_o_refusal : Int32) (d_o : BM) (w_o_trial : (Nat → Int32)) (x2 : Int32) (x3 : Int32) (x4 : Int32), va_P D vwCl [(q_o, .inr (6, [.int w_o_refusal, .ref q_o_text, .int v_o_size, .ref q_o_now, .ref q_o_trial, .ref q_o_diary, .int v_o_acts, .ref q_o_kept, .ref q_o_isKept, .ref q_o_years, .int d_o.1, .int d_o.2.1, .int d_o.2.2.1, .int d_o.2.2.2.1, .int d_o.2.2.2.2.1, .int v_o_spot, .int v_o_out])), (q_o_now, gI Cs 221 v_o_now), (q_o_trial, gI Cs 221 w_o_trial), (q_o_years, gI Cs 10 d_o.2.2.2.2.2)] H → va_D A [(q_o, .inr (6, [.int w_o_refusal, .ref q_o_text, .int v_o_size, .ref q_o_now, .ref q_o_trial, .ref q_o_diary, .int v_o_acts, .ref q_o_kept, .ref q_o_isKept, .ref q_o_years, .int d_o.1, .int d_o.2.1, .int d_o.2.2.1, .int d_o.2.2.2.1, .int d_o.2.2.2.2.1, .int v_o_spot, .int v_o_out])), (q_o_now, gI Cs 221 v_o_now), (q_o_trial, gI Cs 221 w_o_trial), (q_o_years, gI Cs 10 d_o.2.2.2.2.2)] → va_S A s.heap H locs → lv_has ls 8 [(0, .ref q_o), (1, .int x1), (2, .int x2), (3, .int x3), (4, .int x4)] → P_X6_bestRoad_l33 v_o_refusal b_o v_o_now v_o_trial x1 post n w_o_refusal d_o w_o_trial x2 x3 x4 → W p l e ({ frames := 6, cells := 0, slots := 0, locals := 141 } : Room) s m args below meth c H locs 0 0 Q (F0 m 33 ls []) := by
    intro n33
    induction n33 with
    | zero => intro H locs ls w_o_refusal d_o w_o_trial x2 x3 x4 hP hD hS hl h; exact False.elim h
    | succ n33 ih33 =>
      have L50 : ∀ (n : Nat) (H : Heap) (locs : List Loc) (ls : Array Slot) (w_o_refusal : Int32) (d_o : BM) (w_o_trial : (Nat → Int32)) (x2 : Int32) (x3 : Int32) (x4 : Int32) (x5 : Int32), va_P D vwCl [(q_o, .inr (6, [.int w_o_refusal, .ref q_o_text, .int v_o_size, .ref q_o_now, .ref q_o_trial, .ref q_o_diary, .int v_o_acts, .ref q_o_kept, .ref q_o_isKept, .ref q_o_years, .int d_o.1, .int d_o.2.1, .int d_o.2.2.1, .int d_o.2.2.2.1, .int d_o.2.2.2.2.1, .int v_o_spot, .int v_o_out])), (q_o_now, gI Cs 221 v_o_now), (q_o_trial, gI Cs 221 w_o_trial), (q_o_years, gI Cs 10 d_o.2.2.2.2.2)] H → va_D A [(q_o, .inr (6, [.int w_o_refusal, .ref q_o_text, .int v_o_size, .ref q_o_now, .ref q_o_trial, .ref q_o_diary, .int v_o_acts, .ref q_o_kept, .ref q_o_isKept, .ref q_o_years, .int d_o.1, .int d_o.2.1, .int d_o.2.2.1, .int d_o.2.2.2.1, .int d_o.2.2.2.2.1, .int v_o_spot, .int v_o_out])), (q_o_now, gI Cs 221 v_o_now), (q_o_trial, gI Cs 221 w_o_trial), (q_o_years, gI Cs 10 d_o.2.2.2.2.2)] → va_S A s.heap H locs → lv_has ls 8 [(0, .ref q_o), (1, .int x1), (2, .int x2), (3, .int x3), (4, .int x4), (5, .int x5)] → P_X6_bestRoad_l50 v_o_refusal b_o v_o_now v_o_trial x1 post (P_X6_bestRoad_l33 v_o_refusal b_o v_o_now v_o_trial x1 post n33) n w_o_refusal d_o w_o_trial x2 x3 x4 x5 → W p l e ({ frames := 6, cells := 0, slots := 0, locals := 141 } : Room) s m args below meth c H locs 0 0 Q (F0 m 50 ls []) := by
        intro n50
        induction n50 with
        | zero => intro H locs ls w_o_refusal d_o w_o_trial x2 x3 x4 x5 hP hD hS hl h; exact False.elim h
        | succ n50 ih50 =>
          have B149 : ∀ (H : Heap) (locs : List Loc) (ls : Array Slot) (w_o_refusal : Int32) (d_o : BM) (w_o_trial : (Nat → Int32)) (x2 : Int32) (x3 : Int32) (x4 : Int32) (x5 : Int32), va_P D vwCl [(q_o, .inr (6, [.int w_o_refusal, .ref q_o_text, .int v_o_size, .ref q_o_now, .ref q_o_trial, .ref q_o_diary, .int v_o_acts, .ref q_o_kept, .ref q_o_isKept, .ref q_o_years, .int d_o.1, .int d_o.2.1, .int d_o.2.2.1, .int d_o.2.2.2.1, .int d_o.2.2.2.2.1, .int v_o_spot, .int v_o_out])), (q_o_now, gI Cs 221 v_o_now), (q_o_trial, gI Cs 221 w_o_trial), (q_o_years, gI Cs 10 d_o.2.2.2.2.2)] H → va_D A [(q_o, .inr (6, [.int w_o_refusal, .ref q_o_text, .int v_o_size, .ref q_o_now, .ref q_o_trial, .ref q_o_diary, .int v_o_acts, .ref q_o_kept, .ref q_o_isKept, .ref q_o_years, .int d_o.1, .int d_o.2.1, .int d_o.2.2.1, .int d_o.2.2.2.1, .int d_o.2.2.2.2.1, .int v_o_spot, .int v_o_out])), (q_o_now, gI Cs 221 v_o_now), (q_o_trial, gI Cs 221 w_o_trial), (q_o_years, gI Cs 10 d_o.2.2.2.2.2)] → va_S A s.heap H locs → lv_has ls 8 [(0, .ref q_o), (1, .int x1), (2, .int x2), (3, .int x3), (4, .int x4), (5, .int x5)] → P_X6_bestRoad_b149 v_o_refusal b_o v_o_now v_o_trial x1 post (P_X6_bestRoad_l33 v_o_refusal b_o v_o_now v_o_trial x1 post n33) (P_X6_bestRoad_l50 v_o_refusal b_o v_o_now v_o_trial x1 post (P_X6_bestRoad_l33 v_o_refusal b_o v_o_now v_o_trial x1 post n33) n50) w_o_refusal d_o w_o_trial x2 x3 x4 x5 → W p l e ({ frames := 6, cells := 0, slots := 0, locals := 141 } : Room) s m args below meth c H locs 0 0 Q (F0 m 149 ls []) := by
            intro H locs ls w_o_refusal d_o w_o_trial x2 x3 x4 x5 hP hD hS hl h
            unfold P_X6_bestRoad_b149 at h
            obtain ⟨x5_1, ex5_1⟩ : ∃ y : Int32, y = x5 + (1 : Int32) := ⟨_, rfl⟩
            have h := h _ ex5_1
            refine lv_iinc (v := x5_1) (lv' := [(5, .int x5_1), (0, .ref q_o), (1, .int x1), (2, .int x2), (3, .int x3), (4, .int x4)]) hx hb dX6_bestRoad_149 hl (k := 5) rfl (by rw [ex5_1]; rfl) (by decide) rfl (fun ls hl => ?_)
            refine lv_goto (tgt := 50) hx hb dX6_bestRoad_152 (by decide) ?_
            exact ih50 _ _ _ w_o_refusal d_o w_o_trial x2 x3 x4 x5_1 hP hD hS (lv_sub hl [1, 2, 3, 4, 5, 0] rfl) h
          have B148 : ∀ (H : Heap) (locs : List Loc) (ls : Array Slot) (w_o_refusal : Int32) (d_o : BM) (w_o_trial : (Nat → Int32)) (x2 : Int32) (x4 : Int32) (x5 : Int32) (s0 : Int32), va_P D vwCl [(q_o, .inr (6, [.int w_o_refusal, .ref q_o_text, .int v_o_size, .ref q_o_now, .ref q_o_trial, .ref q_o_diary, .int v_o_acts, .ref q_o_kept, .ref q_o_isKept, .ref q_o_years, .int d_o.1, .int d_o.2.1, .int d_o.2.2.1, .int d_o.2.2.2.1, .int d_o.2.2.2.2.1, .int v_o_spot, .int v_o_out])), (q_o_now, gI Cs 221 v_o_now), (q_o_trial, gI Cs 221 w_o_trial), (q_o_years, gI Cs 10 d_o.2.2.2.2.2)] H → va_D A [(q_o, .inr (6, [.int w_o_refusal, .ref q_o_text, .int v_o_size, .ref q_o_now, .ref q_o_trial, .ref q_o_diary, .int v_o_acts, .ref q_o_kept, .ref q_o_isKept, .ref q_o_years, .int d_o.1, .int d_o.2.1, .int d_o.2.2.1, .int d_o.2.2.2.1, .int d_o.2.2.2.2.1, .int v_o_spot, .int v_o_out])), (q_o_now, gI Cs 221 v_o_now), (q_o_trial, gI Cs 221 w_o_trial), (q_o_years, gI Cs 10 d_o.2.2.2.2.2)] → va_S A s.heap H locs → lv_has ls 8 [(0, .ref q_o), (1, .int x1), (2, .int x2), (4, .int x4), (5, .int x5)] → P_X6_bestRoad_b148 v_o_refusal b_o v_o_now v_o_trial x1 post (P_X6_bestRoad_l33 v_o_refusal b_o v_o_now v_o_trial x1 post n33) (P_X6_bestRoad_l50 v_o_refusal b_o v_o_now v_o_trial x1 post (P_X6_bestRoad_l33 v_o_refusal b_o v_o_now v_o_trial x1 post n33) n50) w_o_refusal d_o w_o_trial x2 x4 x5 s0 → W p l e ({ frames := 6, cells := 0, slots := 0, locals := 141 } : Room) s m args below meth c H locs 0 0 Q (F0 m 148 ls [.int s0]) := by
            intro H locs ls w_o_refusal d_o w_o_trial x2 x4 x5 s0 hP hD hS hl h
            unfold P_X6_bestRoad_b148 at h
            refine lv_istore_n (lv' := [(3, .int s0), (0, .ref q_o), (1, .int x1), (2, .int x2), (4, .int x4), (5, .int x5)]) hx hb dX6_bestRoad_148 rfl hl (by decide) rfl (fun ls hl => ?_)
            exact B149 _ _ _ w_o_refusal d_o w_o_trial x2 s0 x4 x5 hP hD hS (lv_sub hl [1, 2, 3, 0, 4, 5] rfl) h
          have B136 : ∀ (H : Heap) (locs : List Loc) (ls : Array Slot) (w_o_refusal : Int32) (d_o : BM) (w_o_trial : (Nat → Int32)) (x3 : Int32) (x4 : Int32) (x5 : Int32) (x6 : Int32) (x7 : Int32) (s0 : Int32), va_P D vwCl [(q_o, .inr (6, [.int w_o_refusal, .ref q_o_text, .int v_o_size, .ref q_o_now, .ref q_o_trial, .ref q_o_diary, .int v_o_acts, .ref q_o_kept, .ref q_o_isKept, .ref q_o_years, .int d_o.1, .int d_o.2.1, .int d_o.2.2.1, .int d_o.2.2.2.1, .int d_o.2.2.2.2.1, .int v_o_spot, .int v_o_out])), (q_o_now, gI Cs 221 v_o_now), (q_o_trial, gI Cs 221 w_o_trial), (q_o_years, gI Cs 10 d_o.2.2.2.2.2)] H → va_D A [(q_o, .inr (6, [.int w_o_refusal, .ref q_o_text, .int v_o_size, .ref q_o_now, .ref q_o_trial, .ref q_o_diary, .int v_o_acts, .ref q_o_kept, .ref q_o_isKept, .ref q_o_years, .int d_o.1, .int d_o.2.1, .int d_o.2.2.1, .int d_o.2.2.2.1, .int d_o.2.2.2.2.1, .int v_o_spot, .int v_o_out])), (q_o_now, gI Cs 221 v_o_now), (q_o_trial, gI Cs 221 w_o_trial), (q_o_years, gI Cs 10 d_o.2.2.2.2.2)] → va_S A s.heap H locs → lv_has ls 8 [(0, .ref q_o), (1, .int x1), (3, .int x3), (4, .int x4), (5, .int x5), (6, .int x6), (7, .int x7)] → P_X6_bestRoad_b136 v_o_refusal b_o v_o_now v_o_trial x1 post (P_X6_bestRoad_l33 v_o_refusal b_o v_o_now v_o_trial x1 post n33) (P_X6_bestRoad_l50 v_o_refusal b_o v_o_now v_o_trial x1 post (P_X6_bestRoad_l33 v_o_refusal b_o v_o_now v_o_trial x1 post n33) n50) w_o_refusal d_o w_o_trial x3 x4 x5 x6 x7 s0 → W p l e ({ frames := 6, cells := 0, slots := 0, locals := 141 } : Room) s m args below meth c H locs 0 0 Q (F0 m 136 ls [.int s0]) := by
            intro H locs ls w_o_refusal d_o w_o_trial x3 x4 x5 x6 x7 s0 hP hD hS hl h
            unfold P_X6_bestRoad_b136 at h
            refine lv_istore_n (lv' := [(2, .int s0), (0, .ref q_o), (1, .int x1), (3, .int x3), (4, .int x4), (5, .int x5), (6, .int x6), (7, .int x7)]) hx hb dX6_bestRoad_136 rfl hl (by decide) rfl (fun ls hl => ?_)
            refine lv_iload hx hb dX6_bestRoad_137 (lv_at hl 7 rfl) ?_
            refine lv_if_eq (tgt := 147) hx hb dX6_bestRoad_139 (by decide) (fun c_2 => ?_) (fun c_2 => ?_)
            · have h := h.1 c_2
              refine lv_iload_n hx hb dX6_bestRoad_147 rfl (lv_at hl 3 rfl) ?_
              exact B148 _ _ _ w_o_refusal d_o w_o_trial s0 x4 x5 x3 hP hD hS (lv_sub hl [1, 2, 0, 4, 5] rfl) h
            · have h := h.2 c_2
              refine lv_iload hx hb dX6_bestRoad_142 (lv_at hl 6 rfl) ?_
              refine lv_goto (tgt := 148) hx hb dX6_bestRoad_144 (by decide) ?_
              exact B148 _ _ _ w_o_refusal d_o w_o_trial s0 x4 x5 x6 hP hD hS (lv_sub hl [1, 2, 0, 4, 5] rfl) h
          have B117 : ∀ (H : Heap) (locs : List Loc) (ls : Array Slot) (w_o_refusal : Int32) (d_o : BM) (w_o_trial : (Nat → Int32)) (x2 : Int32) (x3 : Int32) (x4 : Int32) (x5 : Int32) (x6 : Int32) (s0 : Int32), va_P D vwCl [(q_o, .inr (6, [.int w_o_refusal, .ref q_o_text, .int v_o_size, .ref q_o_now, .ref q_o_trial, .ref q_o_diary, .int v_o_acts, .ref q_o_kept, .ref q_o_isKept, .ref q_o_years, .int d_o.1, .int d_o.2.1, .int d_o.2.2.1, .int d_o.2.2.2.1, .int d_o.2.2.2.2.1, .int v_o_spot, .int v_o_out])), (q_o_now, gI Cs 221 v_o_now), (q_o_trial, gI Cs 221 w_o_trial), (q_o_years, gI Cs 10 d_o.2.2.2.2.2)] H → va_D A [(q_o, .inr (6, [.int w_o_refusal, .ref q_o_text, .int v_o_size, .ref q_o_now, .ref q_o_trial, .ref q_o_diary, .int v_o_acts, .ref q_o_kept, .ref q_o_isKept, .ref q_o_years, .int d_o.1, .int d_o.2.1, .int d_o.2.2.1, .int d_o.2.2.2.1, .int d_o.2.2.2.2.1, .int v_o_spot, .int v_o_out])), (q_o_now, gI Cs 221 v_o_now), (q_o_trial, gI Cs 221 w_o_trial), (q_o_years, gI Cs 10 d_o.2.2.2.2.2)] → va_S A s.heap H locs → lv_has ls 8 [(0, .ref q_o), (1, .int x1), (2, .int x2), (3, .int x3), (4, .int x4), (5, .int x5), (6, .int x6)] → P_X6_bestRoad_b117 v_o_refusal b_o v_o_now v_o_trial x1 post (P_X6_bestRoad_l33 v_o_refusal b_o v_o_now v_o_trial x1 post n33) (P_X6_bestRoad_l50 v_o_refusal b_o v_o_now v_o_trial x1 post (P_X6_bestRoad_l33 v_o_refusal b_o v_o_now v_o_trial x1 post n33) n50) w_o_refusal d_o w_o_trial x2 x3 x4 x5 x6 s0 → W p l e ({ frames := 6, cells := 0, slots := 0, locals := 141 } : Room) s m args below meth c H locs 0 0 Q (F0 m 117 ls [.int s0]) := by
            intro H locs ls w_o_refusal d_o w_o_trial x2 x3 x4 x5 x6 s0 hP hD hS hl h
            unfold P_X6_bestRoad_b117 at h
            refine lv_istore (lv' := [(7, .int s0), (0, .ref q_o), (1, .int x1), (2, .int x2), (3, .int x3), (4, .int x4), (5, .int x5), (6, .int x6)]) hx hb dX6_bestRoad_117 hl (by decide) rfl (fun ls hl => ?_)
            refine lv_iload hx hb dX6_bestRoad_119 (lv_at hl 0 rfl) ?_
            refine lv_if_eq (tgt := 135) hx hb dX6_bestRoad_121 (by decide) (fun c_3 => ?_) (fun c_3 => ?_)
            · have h := h.1 c_3
              refine lv_iload_n hx hb dX6_bestRoad_135 rfl (lv_at hl 3 rfl) ?_
              exact B136 _ _ _ w_o_refusal d_o w_o_trial x3 x4 x5 x6 s0 x2 hP hD hS (lv_sub hl [1, 2, 4, 5, 6, 7, 0] rfl) h
            · have h := h.2 c_3
              refine lv_bipush (v := (10 : Int32)) hx hb dX6_bestRoad_124 (by decide) ?_
              refine lv_iload hx hb dX6_bestRoad_126 (lv_at hl 5 rfl) ?_
              refine lv_imul hx hb dX6_bestRoad_128 ?_
              refine lv_iload hx hb dX6_bestRoad_129 (lv_at hl 6 rfl) ?_
              refine lv_iadd hx hb dX6_bestRoad_131 ?_
              refine lv_goto (tgt := 136) hx hb dX6_bestRoad_132 (by decide) ?_
              exact B136 _ _ _ w_o_refusal d_o w_o_trial x3 x4 x5 x6 s0 (((10 : Int32) * x4) + x5) hP hD hS (lv_sub hl [1, 2, 4, 5, 6, 7, 0] rfl) h
          have B112 : ∀ (H : Heap) (locs : List Loc) (ls : Array Slot) (w_o_refusal : Int32) (d_o : BM) (w_o_trial : (Nat → Int32)) (x2 : Int32) (x3 : Int32) (x4 : Int32) (x5 : Int32) (x6 : Int32), va_P D vwCl [(q_o, .inr (6, [.int w_o_refusal, .ref q_o_text, .int v_o_size, .ref q_o_now, .ref q_o_trial, .ref q_o_diary, .int v_o_acts, .ref q_o_kept, .ref q_o_isKept, .ref q_o_years, .int d_o.1, .int d_o.2.1, .int d_o.2.2.1, .int d_o.2.2.2.1, .int d_o.2.2.2.2.1, .int v_o_spot, .int v_o_out])), (q_o_now, gI Cs 221 v_o_now), (q_o_trial, gI Cs 221 w_o_trial), (q_o_years, gI Cs 10 d_o.2.2.2.2.2)] H → va_D A [(q_o, .inr (6, [.int w_o_refusal, .ref q_o_text, .int v_o_size, .ref q_o_now, .ref q_o_trial, .ref q_o_diary, .int v_o_acts, .ref q_o_kept, .ref q_o_isKept, .ref q_o_years, .int d_o.1, .int d_o.2.1, .int d_o.2.2.1, .int d_o.2.2.2.1, .int d_o.2.2.2.2.1, .int v_o_spot, .int v_o_out])), (q_o_now, gI Cs 221 v_o_now), (q_o_trial, gI Cs 221 w_o_trial), (q_o_years, gI Cs 10 d_o.2.2.2.2.2)] → va_S A s.heap H locs → lv_has ls 8 [(0, .ref q_o), (1, .int x1), (2, .int x2), (3, .int x3), (4, .int x4), (5, .int x5), (6, .int x6)] → P_X6_bestRoad_b112 v_o_refusal b_o v_o_now v_o_trial x1 post (P_X6_bestRoad_l33 v_o_refusal b_o v_o_now v_o_trial x1 post n33) (P_X6_bestRoad_l50 v_o_refusal b_o v_o_now v_o_trial x1 post (P_X6_bestRoad_l33 v_o_refusal b_o v_o_now v_o_trial x1 post n33) n50) w_o_refusal d_o w_o_trial x2 x3 x4 x5 x6 → W p l e ({ frames := 6, cells := 0, slots := 0, locals := 141 } : Room) s m args below meth c H locs 0 0 Q (F0 m 112 ls []) := by
            intro H locs ls w_o_refusal d_o w_o_trial x2 x3 x4 x5 x6 hP hD hS hl h
            unfold P_X6_bestRoad_b112 at h
            refine lv_iconst (v := (1 : Int32)) hx hb dX6_bestRoad_112 (by decide) ?_
            refine lv_goto (tgt := 117) hx hb dX6_bestRoad_113 (by decide) ?_
            exact B117 _ _ _ w_o_refusal d_o w_o_trial x2 x3 x4 x5 x6 (1 : Int32) hP hD hS (lv_sub hl [0, 1, 2, 3, 4, 5, 6] rfl) h
          intro H locs ls w_o_refusal d_o w_o_trial x2 x3 x4 x5 hP hD hS hl h
          replace h : P_X6_bestRoad_b50 v_o_refusal b_o v_o_now v_o_trial x1 post (P_X6_bestRoad_l33 v_o_refusal b_o v_o_now v_o_trial x1 post n33) (P_X6_bestRoad_l50 v_o_refusal b_o v_o_now v_o_trial x1 post (P_X6_bestRoad_l33 v_o_refusal b_o v_o_now v_o_trial x1 post n33) n50) w_o_refusal d_o w_o_trial x2 x3 x4 x5 := h
          unfold P_X6_bestRoad_b50 at h
          refine lv_iload hx hb dX6_bestRoad_50 (lv_at hl 5 rfl) ?_
          refine lv_aload_n hx hb dX6_bestRoad_52 rfl (lv_at hl 0 rfl) ?_
          refine va_get (D := D) (ci := 6) (v := .ref q_o_now) (C := RX6) (T := TX6) (N := 17) hx hb htb inT_X6 hown hK hP 0 rfl rfl 3 (by decide) (htb _ tb_90) (fun _ h9 => h9) rfl dX6_bestRoad_53 ?_
          refine lv_iconst (v := (0 : Int32)) hx hb dX6_bestRoad_56 (by decide) ?_
          refine va_iald hx hb hK hP 1 0 rfl rfl (by unfold vp_in; decide) dX6_bestRoad_57 ?_
          refine lv_icmp_ge (tgt := 155) hx hb dX6_bestRoad_58 (by decide) (fun c_4 => ?_) (fun c_4 => ?_)
          · have h := h.1 c_4
            obtain ⟨x4_5, ex4_5⟩ : ∃ y : Int32, y = x4 + (1 : Int32) := ⟨_, rfl⟩
            have h := h _ ex4_5
            refine lv_iinc (v := x4_5) (lv' := [(4, .int x4_5), (0, .ref q_o), (1, .int x1), (2, .int x2), (3, .int x3), (5, .int x5)]) hx hb dX6_bestRoad_155 hl (k := 4) rfl (by rw [ex4_5]; rfl) (by decide) rfl (fun ls hl => ?_)
            refine lv_goto (tgt := 33) hx hb dX6_bestRoad_158 (by decide) ?_
            exact ih33 _ _ _ w_o_refusal d_o w_o_trial x2 x3 x4_5 hP hD hS (lv_sub hl [1, 2, 3, 4, 0] rfl) h
          · have h := h.2 c_4
            refine lv_aload_n hx hb dX6_bestRoad_61 rfl (lv_at hl 0 rfl) ?_
            refine va_get (D := D) (ci := 6) (v := .ref q_o_now) (C := RX6) (T := TX6) (N := 17) hx hb htb inT_X6 hown hK hP 0 rfl rfl 3 (by decide) (htb _ tb_90) (fun _ h9 => h9) rfl dX6_bestRoad_62 ?_
            refine lv_iload hx hb dX6_bestRoad_65 (lv_at hl 4 rfl) ?_
            refine lv_iload hx hb dX6_bestRoad_67 (lv_at hl 5 rfl) ?_
            refine gSR (As := [.ref q_o_now, .int x4, .int x5]) (rest := []) ⟨hx, hb, hml, hown, htb⟩ hK hP hN [1] rfl (c_X6_length l D Cs q_o_now 221 v_o_now x4 x5 h) (va_cwS 3 htb (TB_s tb_368 tb_369 tb_5 (TB_self tb_370)) rfl rfl rfl z_X6_length.2 ⟨Nat.le_of_ble_eq_true rfl, Nat.le_of_ble_eq_true rfl⟩) rfl hl.1 rfl (Nat.le_of_ble_eq_true rfl) ⟨Nat.le_of_ble_eq_true rfl, Nat.le_of_ble_eq_true rfl⟩ dX6_bestRoad_69 (fun r_6 h => ?_)
            refine lv_if_ne (tgt := 149) hx hb dX6_bestRoad_72 (by decide) (fun c_7 => ?_) (fun c_7 => ?_)
            · have h := h.2 c_7
              exact B149 _ _ _ w_o_refusal d_o w_o_trial x2 x3 x4 x5 hP hD hS (lv_sub hl [0, 1, 2, 3, 4, 5] rfl) h
            · have h := h.1 c_7
              refine lv_aload_n hx hb dX6_bestRoad_75 rfl (lv_at hl 0 rfl) ?_
              refine va_get (D := D) (ci := 6) (v := .ref q_o_now) (C := RX6) (T := TX6) (N := 17) hx hb htb inT_X6 hown hK hP 0 rfl rfl 3 (by decide) (htb _ tb_90) (fun _ h9 => h9) rfl dX6_bestRoad_76 ?_
              refine lv_iload hx hb dX6_bestRoad_79 (lv_at hl 4 rfl) ?_
              refine lv_iload hx hb dX6_bestRoad_81 (lv_at hl 5 rfl) ?_
              refine lv_iload_n hx hb dX6_bestRoad_83 rfl (lv_at hl 1 rfl) ?_
              refine gSR (As := [.ref q_o_now, .int x4, .int x5, .int x1]) (rest := []) ⟨hx, hb, hml, hown, htb⟩ hK hP hN [1] rfl (c_X6_whyNotLay l D Cs q_o_now 221 v_o_now x4 x5 x1 h) (va_cwS 4 htb (TB_s tb_506 tb_507 tb_5 (TB_self tb_508)) rfl rfl rfl z_X6_whyNotLay.2 ⟨Nat.le_of_ble_eq_true rfl, Nat.le_of_ble_eq_true rfl⟩) rfl hl.1 rfl (Nat.le_of_ble_eq_true rfl) ⟨Nat.le_of_ble_eq_true rfl, Nat.le_of_ble_eq_true rfl⟩ dX6_bestRoad_84 (fun r_8 h => ?_)
              refine lv_if_ne (tgt := 149) hx hb dX6_bestRoad_87 (by decide) (fun c_9 => ?_) (fun c_9 => ?_)
              · have h := h.2 c_9
                exact B149 _ _ _ w_o_refusal d_o w_o_trial x2 x3 x4 x5 hP hD hS (lv_sub hl [0, 1, 2, 3, 4, 5] rfl) h
              · have h := h.1 c_9
                refine lv_aload_n hx hb dX6_bestRoad_90 rfl (lv_at hl 0 rfl) ?_
                refine lv_iload hx hb dX6_bestRoad_91 (lv_at hl 4 rfl) ?_
                refine lv_iload hx hb dX6_bestRoad_93 (lv_at hl 5 rfl) ?_
                refine lv_iload_n hx hb dX6_bestRoad_95 rfl (lv_at hl 1 rfl) ?_
                refine gVM (wr := []) (As := [.int x4, .int x5, .int x1]) (rest := []) ⟨hx, hb, hml, hown, htb⟩ hK hP hD hS hA hN [0, 1, 2, 3] [] rfl (by decide) rfl (by decide) (by decide) (c_X6_ifLaidOn l D Cs q_o q_o_text q_o_now q_o_trial q_o_diary q_o_kept q_o_isKept q_o_years H.size d_o v_o_now w_o_trial w_o_refusal v_o_size v_o_acts v_o_spot v_o_out x4 x5 x1 h) (cwV 3 htb (TB_v tb_739 tb_740 tb_741 tb_5 (TB_self tb_742)) rfl rfl rfl z_X6_ifLaidOn ⟨Nat.le_of_ble_eq_true rfl, Nat.le_of_ble_eq_true rfl⟩) 0 rfl rfl rfl rfl hl.1 rfl (Nat.le_of_ble_eq_true rfl) ⟨Nat.le_of_ble_eq_true rfl, Nat.le_of_ble_eq_true rfl⟩ dX6_bestRoad_96 (fun r_10 u H locs h hP hD hS => ?_)
                obtain ⟨m_11, m_12⟩ := u
                try dsimp only at h
                have hP : va_P D vwCl [(q_o, .inr (6, [.int w_o_refusal, .ref q_o_text, .int v_o_size, .ref q_o_now, .ref q_o_trial, .ref q_o_diary, .int v_o_acts, .ref q_o_kept, .ref q_o_isKept, .ref q_o_years, .int m_11.1, .int m_11.2.1, .int m_11.2.2.1, .int m_11.2.2.2.1, .int m_11.2.2.2.2.1, .int v_o_spot, .int v_o_out])), (q_o_now, gI Cs 221 v_o_now), (q_o_trial, gI Cs 221 m_12), (q_o_years, gI Cs 10 m_11.2.2.2.2.2)] H := hP
                have hD : va_D A [(q_o, .inr (6, [.int w_o_refusal, .ref q_o_text, .int v_o_size, .ref q_o_now, .ref q_o_trial, .ref q_o_diary, .int v_o_acts, .ref q_o_kept, .ref q_o_isKept, .ref q_o_years, .int m_11.1, .int m_11.2.1, .int m_11.2.2.1, .int m_11.2.2.2.1, .int m_11.2.2.2.2.1, .int v_o_spot, .int v_o_out])), (q_o_now, gI Cs 221 v_o_now), (q_o_trial, gI Cs 221 m_12), (q_o_years, gI Cs 10 m_11.2.2.2.2.2)] := hD
                refine lv_istore (lv' := [(6, .int r_10), (0, .ref q_o), (1, .int x1), (2, .int x2), (3, .int x3), (4, .int x4), (5, .int x5)]) hx hb dX6_bestRoad_99 hl (by decide) rfl (fun ls hl => ?_)
                refine lv_iload_n hx hb dX6_bestRoad_101 rfl (lv_at hl 3 rfl) ?_
                refine lv_iconst (v := (-1 : Int32)) hx hb dX6_bestRoad_102 (by decide) ?_
                refine lv_icmp_eq (tgt := 112) hx hb dX6_bestRoad_103 (by decide) (fun c_13 => ?_) (fun c_13 => ?_)
                · have h := h.1 c_13
                  exact B112 _ _ _ w_o_refusal m_11 m_12 x2 x3 x4 x5 r_10 hP hD hS (lv_sub hl [1, 2, 3, 4, 5, 6, 0] rfl) h
                · have h := h.2 c_13
                  refine lv_iload hx hb dX6_bestRoad_106 (lv_at hl 0 rfl) ?_
                  refine lv_iload_n hx hb dX6_bestRoad_108 rfl (lv_at hl 4 rfl) ?_
                  refine lv_icmp_ge (tgt := 116) hx hb dX6_bestRoad_109 (by decide) (fun c_14 => ?_) (fun c_14 => ?_)
                  · have h := h.1 c_14
                    refine lv_iconst (v := (0 : Int32)) hx hb dX6_bestRoad_116 (by decide) ?_
                    exact B117 _ _ _ w_o_refusal m_11 m_12 x2 x3 x4 x5 r_10 (0 : Int32) hP hD hS (lv_sub hl [1, 2, 3, 4, 5, 6, 0] rfl) h
                  · have h := h.2 c_14
                    exact B112 _ _ _ w_o_refusal m_11 m_12 x2 x3 x4 x5 r_10 hP hD hS (lv_sub hl [1, 2, 3, 4, 5, 6, 0] rfl) h
      intro H locs ls w_o_refusal d_o w_o_trial x2 x3 x4 hP hD hS hl h
      replace h : P_X6_bestRoad_b33 v_o_refusal b_o v_o_now v_o_trial x1 post (P_X6_bestRoad_l33 v_o_refusal b_o v_o_now v_o_trial x1 post n33) w_o_refusal d_o w_o_trial x2 x3 x4 := h
      unfold P_X6_bestRoad_b33 at h
      refine lv_iload hx hb dX6_bestRoad_33 (lv_at hl 4 rfl) ?_
      refine lv_aload_n hx hb dX6_bestRoad_35 rfl (lv_at hl 0 rfl) ?_
      refine va_get (D := D) (ci := 6) (v := .ref q_o_now) (C := RX6) (T := TX6) (N := 17) hx hb htb inT_X6 hown hK hP 0 rfl rfl 3 (by decide) (htb _ tb_90) (fun _ h9 => h9) rfl dX6_bestRoad_36 ?_
      refine lv_iconst (v := (0 : Int32)) hx hb dX6_bestRoad_39 (by decide) ?_
      refine va_iald hx hb hK hP 1 0 rfl rfl (by unfold vp_in; decide) dX6_bestRoad_40 ?_
      refine lv_icmp_ge (tgt := 161) hx hb dX6_bestRoad_41 (by decide) (fun c_15 => ?_) (fun c_15 => ?_)
      · have h := h.1 c_15
        refine lv_iload_n hx hb dX6_bestRoad_161 rfl (lv_at hl 2 rfl) ?_
        rw [← hQ]
        exact gRetI (u := (w_o_refusal, d_o, w_o_trial)) hx hb hr rfl h hP hD hS dX6_bestRoad_162 hlocks
      · have h := h.2 c_15
        refine lv_iload hx hb dX6_bestRoad_44 (lv_at hl 4 rfl) ?_
        refine lv_iconst (v := (1 : Int32)) hx hb dX6_bestRoad_46 (by decide) ?_
        refine lv_iadd hx hb dX6_bestRoad_47 ?_
        refine lv_topi (fun x5_16 ex5_16 => ?_)
        have h := h _ ex5_16
        refine lv_istore (lv' := [(5, .int x5_16), (0, .ref q_o), (1, .int x1), (2, .int x2), (3, .int x3), (4, .int x4)]) hx hb dX6_bestRoad_48 hl (by decide) rfl (fun ls hl => ?_)
        obtain ⟨n, h⟩ := h
        exact L50 n _ _ _ w_o_refusal d_o w_o_trial x2 x3 x4 x5_16 hP hD hS (lv_sub hl [1, 2, 3, 4, 5, 0] rfl) h
  have B18 : ∀ (H : Heap) (locs : List Loc) (ls : Array Slot) (s1 : Int32), va_P D vwCl [(q_o, .inr (6, [.int v_o_refusal, .ref q_o_text, .int v_o_size, .ref q_o_now, .ref q_o_trial, .ref q_o_diary, .int v_o_acts, .ref q_o_kept, .ref q_o_isKept, .ref q_o_years, .int b_o.1, .int b_o.2.1, .int b_o.2.2.1, .int b_o.2.2.2.1, .int b_o.2.2.2.2.1, .int v_o_spot, .int v_o_out])), (q_o_now, gI Cs 221 v_o_now), (q_o_trial, gI Cs 221 v_o_trial), (q_o_years, gI Cs 10 b_o.2.2.2.2.2)] H → va_D A [(q_o, .inr (6, [.int v_o_refusal, .ref q_o_text, .int v_o_size, .ref q_o_now, .ref q_o_trial, .ref q_o_diary, .int v_o_acts, .ref q_o_kept, .ref q_o_isKept, .ref q_o_years, .int b_o.1, .int b_o.2.1, .int b_o.2.2.1, .int b_o.2.2.2.1, .int b_o.2.2.2.2.1, .int v_o_spot, .int v_o_out])), (q_o_now, gI Cs 221 v_o_now), (q_o_trial, gI Cs 221 v_o_trial), (q_o_years, gI Cs 10 b_o.2.2.2.2.2)] → va_S A s.heap H locs → lv_has ls 8 [(0, .ref q_o), (1, .int x1)] → P_X6_bestRoad_b18 v_o_refusal b_o v_o_now v_o_trial x1 post s1 → W p l e ({ frames := 6, cells := 0, slots := 0, locals := 141 } : Room) s m args below meth c H locs 0 0 Q (F0 m 18 ls [.int s1, .ref q_o]) := by
    intro H locs ls s1 hP hD hS hl h
    unfold P_X6_bestRoad_b18 at h
    refine gVM (wr := [(q_o_now, gI Cs 221 v_o_now), (q_o_trial, gI Cs 221 v_o_trial), (q_o_years, gI Cs 10 b_o.2.2.2.2.2)]) (As := [.int s1]) (rest := []) ⟨hx, hb, hml, hown, htb⟩ hK hP hD hS hA hN [0] [1, 2, 3] rfl (by decide) rfl (by decide) (by decide) (c_X6_refused l D Cs q_o q_o_text q_o_now q_o_trial q_o_diary q_o_kept q_o_isKept q_o_years H.size v_o_refusal v_o_size v_o_acts b_o.1 b_o.2.1 b_o.2.2.1 b_o.2.2.2.1 b_o.2.2.2.2.1 v_o_spot v_o_out s1 h) (cwV 1 htb (TB_v tb_128 tb_129 tb_130 tb_5 (TB_self tb_131)) rfl rfl rfl z_X6_refused ⟨Nat.le_of_ble_eq_true rfl, Nat.le_of_ble_eq_true rfl⟩) 0 rfl rfl rfl rfl hl.1 rfl (Nat.le_of_ble_eq_true rfl) ⟨Nat.le_of_ble_eq_true rfl, Nat.le_of_ble_eq_true rfl⟩ dX6_bestRoad_18 (fun r_17 m_18 H locs h hP hD hS => ?_)
    have hP : va_P D vwCl [(q_o_now, gI Cs 221 v_o_now), (q_o_trial, gI Cs 221 v_o_trial), (q_o_years, gI Cs 10 b_o.2.2.2.2.2), (q_o, .inr (6, [.int m_18, .ref q_o_text, .int v_o_size, .ref q_o_now, .ref q_o_trial, .ref q_o_diary, .int v_o_acts, .ref q_o_kept, .ref q_o_isKept, .ref q_o_years, .int b_o.1, .int b_o.2.1, .int b_o.2.2.1, .int b_o.2.2.2.1, .int b_o.2.2.2.2.1, .int v_o_spot, .int v_o_out]))] H := hP
    have hD : va_D A [(q_o_now, gI Cs 221 v_o_now), (q_o_trial, gI Cs 221 v_o_trial), (q_o_years, gI Cs 10 b_o.2.2.2.2.2), (q_o, .inr (6, [.int m_18, .ref q_o_text, .int v_o_size, .ref q_o_now, .ref q_o_trial, .ref q_o_diary, .int v_o_acts, .ref q_o_kept, .ref q_o_isKept, .ref q_o_years, .int b_o.1, .int b_o.2.1, .int b_o.2.2.1, .int b_o.2.2.2.1, .int b_o.2.2.2.2.1, .int v_o_spot, .int v_o_out]))] := hD
    refine lv_if_eq (tgt := 26) hx hb dX6_bestRoad_21 (by decide) (fun c_19 => ?_) (fun c_19 => ?_)
    · have h := h.1 c_19
      refine lv_iconst (v := (-1 : Int32)) hx hb dX6_bestRoad_26 (by decide) ?_
      refine lv_istore_n (lv' := [(2, .int (-1 : Int32)), (0, .ref q_o), (1, .int x1)]) hx hb dX6_bestRoad_27 rfl hl (by decide) rfl (fun ls hl => ?_)
      refine lv_iconst (v := (0 : Int32)) hx hb dX6_bestRoad_28 (by decide) ?_
      refine lv_istore_n (lv' := [(3, .int (0 : Int32)), (2, .int (-1 : Int32)), (0, .ref q_o), (1, .int x1)]) hx hb dX6_bestRoad_29 rfl hl (by decide) rfl (fun ls hl => ?_)
      refine lv_iconst (v := (0 : Int32)) hx hb dX6_bestRoad_30 (by decide) ?_
      refine lv_istore (lv' := [(4, .int (0 : Int32)), (3, .int (0 : Int32)), (2, .int (-1 : Int32)), (0, .ref q_o), (1, .int x1)]) hx hb dX6_bestRoad_31 hl (by decide) rfl (fun ls hl => ?_)
      obtain ⟨n, h⟩ := h
      exact L33 n _ _ _ m_18 b_o v_o_trial (-1 : Int32) (0 : Int32) (0 : Int32) (hP.sub [3, 0, 1, 2] rfl) (hD.sub [3, 0, 1, 2] (by decide) rfl) hS (lv_sub hl [3, 4, 2, 1, 0] rfl) h
    · have h := h.2 c_19
      refine lv_iconst (v := (0 : Int32)) hx hb dX6_bestRoad_24 (by decide) ?_
      rw [← hQ]
      exact gRetI (u := (m_18, b_o, v_o_trial)) hx hb hr rfl h (hP.sub [3, 0, 1, 2] rfl) (hD.sub [3, 0, 1, 2] (by decide) rfl) hS dX6_bestRoad_25 hlocks
  unfold P_X6_bestRoad at h
  refine lv_aload_n hx hb dX6_bestRoad_0 rfl (lv_at hl 0 rfl) ?_
  refine lv_iload_n hx hb dX6_bestRoad_1 rfl (lv_at hl 1 rfl) ?_
  refine lv_i2l (v := x1.toInt64) hx hb dX6_bestRoad_2 rfl ?_
  refine lv_lconst (v := (1 : Int64)) hx hb dX6_bestRoad_3 rfl ?_
  refine lv_ldc2 (v := (99 : Int64)) hx hb hown (htb _ tb_509) dX6_bestRoad_4 ?_
  refine gSR (As := [.long x1.toInt64, .long (1 : Int64), .long (99 : Int64)]) (rest := [.ref q_o]) ⟨hx, hb, hml, hown, htb⟩ hK hP hN [] rfl (c_X6_in l D Cs x1.toInt64 (1 : Int64) (99 : Int64) h) (va_cwS 3 htb (TB_s tb_125 tb_126 tb_5 (TB_self tb_127)) rfl rfl rfl z_X6_in.2 ⟨Nat.le_of_ble_eq_true rfl, Nat.le_of_ble_eq_true rfl⟩) rfl hl.1 rfl (Nat.le_of_ble_eq_true rfl) ⟨Nat.le_of_ble_eq_true rfl, Nat.le_of_ble_eq_true rfl⟩ dX6_bestRoad_7 (fun r_20 h => ?_)
  refine lv_if_eq (tgt := 17) hx hb dX6_bestRoad_10 (by decide) (fun c_21 => ?_) (fun c_21 => ?_)
  · have h := h.1 c_21
    refine lv_iconst (v := (1 : Int32)) hx hb dX6_bestRoad_17 (by decide) ?_
    exact B18 _ _ _ (1 : Int32) hP hD hS (lv_sub hl [0, 1] rfl) h
  · have h := h.2 c_21
    refine lv_iconst (v := (0 : Int32)) hx hb dX6_bestRoad_13 (by decide) ?_
    refine lv_goto (tgt := 18) hx hb dX6_bestRoad_14 (by decide) ?_
    exact B18 _ _ _ (0 : Int32) hP hD hS (lv_sub hl [0, 1] rfl) h
set_option maxHeartbeats 4000000 in
set_option maxRecDepth 100000 in
theorem c_X6_dearest (l : Launch) (D : va_G) (Cs : Nat → ClassId) (q_o : Nat) (q_o_text : Nat) (q_o_now : Nat) (q_o_trial : Nat) (q_o_diary : Nat) (q_o_kept : Nat) (q_o_isKept : Nat) (q_o_years : Nat) (sz : Nat) (v_o_refusal : Int32) (b_o : BM) (v_o_now : (Nat → Int32)) (v_o_trial : (Nat → Int32)) (v_o_size : Int32) (v_o_acts : Int32) (v_o_spot : Int32) (v_o_out : Int32) {post : Int32 → Int32 → BM → (Nat → Int32) → Prop} (h : P_X6_dearest v_o_refusal b_o v_o_now v_o_trial post) : Met l yX6_dearest wsX6_dearest ({ frames := 5, cells := 0, slots := 0, locals := 118 } : Room) (va_Pc [.ref q_o] (gM D Cs [(q_o, .inr (6, [.int v_o_refusal, .ref q_o_text, .int v_o_size, .ref q_o_now, .ref q_o_trial, .ref q_o_diary, .int v_o_acts, .ref q_o_kept, .ref q_o_isKept, .ref q_o_years, .int b_o.1, .int b_o.2.1, .int b_o.2.2.1, .int b_o.2.2.2.1, .int b_o.2.2.2.2.1, .int v_o_spot, .int v_o_out])), (q_o_now, gI Cs 221 v_o_now), (q_o_trial, gI Cs 221 v_o_trial), (q_o_years, gI Cs 10 b_o.2.2.2.2.2)] sz)) (va_Qi (fun (r : Int32) (u : Int32 × BM × (Nat → Int32)) => post r u.1 u.2.1 u.2.2) (gB D (va_A [(q_o, .inr (6, [.int v_o_refusal, .ref q_o_text, .int v_o_size, .ref q_o_now, .ref q_o_trial, .ref q_o_diary, .int v_o_acts, .ref q_o_kept, .ref q_o_isKept, .ref q_o_years, .int b_o.1, .int b_o.2.1, .int b_o.2.2.1, .int b_o.2.2.2.1, .int b_o.2.2.2.2.1, .int v_o_spot, .int v_o_out])), (q_o_now, gI Cs 221 v_o_now), (q_o_trial, gI Cs 221 v_o_trial), (q_o_years, gI Cs 10 b_o.2.2.2.2.2)] sz) (fun u : Int32 × BM × (Nat → Int32) => [(q_o, .inr (6, [.int u.1, .ref q_o_text, .int v_o_size, .ref q_o_now, .ref q_o_trial, .ref q_o_diary, .int v_o_acts, .ref q_o_kept, .ref q_o_isKept, .ref q_o_years, .int u.2.1.1, .int u.2.1.2.1, .int u.2.1.2.2.1, .int u.2.1.2.2.2.1, .int u.2.1.2.2.2.2.1, .int v_o_spot, .int v_o_out])), (q_o_now, gI Cs 221 v_o_now), (q_o_trial, gI Cs 221 u.2.2), (q_o_years, gI Cs 10 u.2.1.2.2.2.2.2)])) (va_A [(q_o, .inr (6, [.int v_o_refusal, .ref q_o_text, .int v_o_size, .ref q_o_now, .ref q_o_trial, .ref q_o_diary, .int v_o_acts, .ref q_o_kept, .ref q_o_isKept, .ref q_o_years, .int b_o.1, .int b_o.2.1, .int b_o.2.2.1, .int b_o.2.2.2.1, .int b_o.2.2.2.2.1, .int v_o_spot, .int v_o_out])), (q_o_now, gI Cs 221 v_o_now), (q_o_trial, gI Cs 221 v_o_trial), (q_o_years, gI Cs 10 b_o.2.2.2.2.2)] sz)) 0 0 (va_A [(q_o, .inr (6, [.int v_o_refusal, .ref q_o_text, .int v_o_size, .ref q_o_now, .ref q_o_trial, .ref q_o_diary, .int v_o_acts, .ref q_o_kept, .ref q_o_isKept, .ref q_o_years, .int b_o.1, .int b_o.2.1, .int b_o.2.2.1, .int b_o.2.2.2.1, .int b_o.2.2.2.2.1, .int v_o_spot, .int v_o_out])), (q_o_now, gI Cs 221 v_o_now), (q_o_trial, gI Cs 221 v_o_trial), (q_o_years, gI Cs 10 b_o.2.2.2.2.2)] sz) := by
  refine Met.ofW (cc := cX6_dearest) (maxL := 6) (ret := (some .int)) (by decide) rfl ?_
  intro p e s m args below meth c s₁ B hml hv
  obtain ⟨ha, hsz, hP, hK, hD0, hN⟩ := hv
  have hx := B.exec
  have hb := B.bytes
  have hr := B.returns
  have hts := atoms_spec (ws := wsX6_dearest) B.pre
  have htb : ∀ w ∈ TB, w.before args s = true := fun w h9 => hts w (List.mem_cons_of_mem _ h9)
  have hown : s.vm.findClass RX6 = some m.cls := findClass_of_methodNamed B.named
  have hlocks := B.notSynchronized
  subst hsz
  have hD := hD0.self (sz := s.heap.size)
  generalize hAe : va_A [(q_o, .inr (6, [.int v_o_refusal, .ref q_o_text, .int v_o_size, .ref q_o_now, .ref q_o_trial, .ref q_o_diary, .int v_o_acts, .ref q_o_kept, .ref q_o_isKept, .ref q_o_years, .int b_o.1, .int b_o.2.1, .int b_o.2.2.1, .int b_o.2.2.2.1, .int b_o.2.2.2.2.1, .int v_o_spot, .int v_o_out])), (q_o_now, gI Cs 221 v_o_now), (q_o_trial, gI Cs 221 v_o_trial), (q_o_years, gI Cs 10 b_o.2.2.2.2.2)] s.heap.size = A at hD ⊢
  have hA : ∀ q : Nat, s.heap.size ≤ q → A q := fun q h9 => by rw [← hAe]; exact Or.inr h9
  obtain ⟨H, hH⟩ : ∃ z : Heap, z = s.heap := ⟨_, rfl⟩
  have hS : va_S A s.heap H [] := by rw [hH]; exact va_S.rf
  have hP : va_P D vwCl [(q_o, .inr (6, [.int v_o_refusal, .ref q_o_text, .int v_o_size, .ref q_o_now, .ref q_o_trial, .ref q_o_diary, .int v_o_acts, .ref q_o_kept, .ref q_o_isKept, .ref q_o_years, .int b_o.1, .int b_o.2.1, .int b_o.2.2.1, .int b_o.2.2.2.1, .int b_o.2.2.2.2.1, .int v_o_spot, .int v_o_out])), (q_o_now, gI Cs 221 v_o_now), (q_o_trial, gI Cs 221 v_o_trial), (q_o_years, gI Cs 10 b_o.2.2.2.2.2)] H := by rw [hH]; exact hP
  generalize hQ : MQ below _ args s _ _ _ = Q
  show W p l e ({ frames := 5, cells := 0, slots := 0, locals := 118 } : Room) s m args below meth c s.heap [] 0 0 Q (entryFrame m args 6)
  have hent : entryFrame m args 6 = F0 m 0 ((lg_sl ([.ref q_o]) ++ List.replicate (6 - (lg_sl ([.ref q_o])).length) Slot.unset).toArray) [] := by rw [ha]; exact lg_entry_eq m ([.ref q_o]) 6
  rw [hent]; clear hent
  rw [← hH]
  have hl := lv_entry ([.ref q_o]) (n := 6) (Nat.le_of_ble_eq_true rfl)
  generalize (lg_sl ([.ref q_o]) ++ List.replicate (6 - (lg_sl ([.ref q_o])).length) Slot.unset).toArray = ls at hl ⊢
  have hl : lv_has ls 6 [(0, .ref q_o)] := hl
  have L18 : ∀ (n : Nat) (H : Heap) (locs : List Loc) (ls : Array Slot) (w_o_refusal : Int32) (d_o : BM) (w_o_trial : (Nat → Int32)) (x1 : Int32) (x2 : Int32) (x3 : Int32), va_P D vwCl [(q_o, .inr (6, [.int w_o_refusal, .ref q_o_text, .int v_o_size, .ref q_o_now, .ref q_o_trial, .ref q_o_diary, .int v_o_acts, .ref q_o_kept, .ref q_o_isKept, .ref q_o_years, .int d_o.1, .int d_o.2.1, .int d_o.2.2.1, .int d_o.2.2.2.1, .int d_o.2.2.2.2.1, .int v_o_spot, .int v_o_out])), (q_o_now, gI Cs 221 v_o_now), (q_o_trial, gI Cs 221 w_o_trial), (q_o_years, gI Cs 10 d_o.2.2.2.2.2)] H → va_D A [(q_o, .inr (6, [.int w_o_refusal, .ref q_o_text, .int v_o_size, .ref q_o_now, .ref q_o_trial, .ref q_o_diary, .int v_o_acts, .ref q_o_kept, .ref q_o_isKept, .ref q_o_years, .int d_o.1, .int d_o.2.1, .int d_o.2.2.1, .int d_o.2.2.2.1, .int d_o.2.2.2.2.1, .int v_o_spot, .int v_o_out])), (q_o_now, gI Cs 221 v_o_now), (q_o_trial, gI Cs 221 w_o_trial), (q_o_years, gI Cs 10 d_o.2.2.2.2.2)] → va_S A s.heap H locs → lv_has ls 6 [(0, .ref q_o), (1, .int x1), (2, .int x2), (3, .int x3)] → P_X6_dearest_l18 v_o_refusal b_o v_o_now v_o_trial post n w_o_refusal d_o w_o_trial x1 x2 x3 → W p l e ({ frames := 5, cells := 0, slots := 0, locals := 118 } : Room) s m args below meth c H locs 0 0 Q (F0 m 18 ls []) := by
    intro n18
    induction n18 with
    | zero => intro H locs ls w_o_refusal d_o w_o_trial x1 x2 x3 hP hD hS hl h; exact False.elim h
    | succ n18 ih18 =>
      have L31 : ∀ (n : Nat) (H : Heap) (locs : List Loc) (ls : Array Slot) (w_o_refusal : Int32) (d_o : BM) (w_o_trial : (Nat → Int32)) (x1 : Int32) (x2 : Int32) (x3 : Int32) (x4 : Int32), va_P D vwCl [(q_o, .inr (6, [.int w_o_refusal, .ref q_o_text, .int v_o_size, .ref q_o_now, .ref q_o_trial, .ref q_o_diary, .int v_o_acts, .ref q_o_kept, .ref q_o_isKept, .ref q_o_years, .int d_o.1, .int d_o.2.1, .int d_o.2.2.1, .int d_o.2.2.2.1, .int d_o.2.2.2.2.1, .int v_o_spot, .int v_o_out])), (q_o_now, gI Cs 221 v_o_now), (q_o_trial, gI Cs 221 w_o_trial), (q_o_years, gI Cs 10 d_o.2.2.2.2.2)] H → va_D A [(q_o, .inr (6, [.int w_o_refusal, .ref q_o_text, .int v_o_size, .ref q_o_now, .ref q_o_trial, .ref q_o_diary, .int v_o_acts, .ref q_o_kept, .ref q_o_isKept, .ref q_o_years, .int d_o.1, .int d_o.2.1, .int d_o.2.2.1, .int d_o.2.2.2.1, .int d_o.2.2.2.2.1, .int v_o_spot, .int v_o_out])), (q_o_now, gI Cs 221 v_o_now), (q_o_trial, gI Cs 221 w_o_trial), (q_o_years, gI Cs 10 d_o.2.2.2.2.2)] → va_S A s.heap H locs → lv_has ls 6 [(0, .ref q_o), (1, .int x1), (2, .int x2), (3, .int x3), (4, .int x4)] → P_X6_dearest_l31 v_o_refusal b_o v_o_now v_o_trial post (P_X6_dearest_l18 v_o_refusal b_o v_o_now v_o_trial post n18) n w_o_refusal d_o w_o_trial x1 x2 x3 x4 → W p l e ({ frames := 5, cells := 0, slots := 0, locals := 118 } : Room) s m args below meth c H locs 0 0 Q (F0 m 31 ls []) := by
        intro n31
        induction n31 with
        | zero => intro H locs ls w_o_refusal d_o w_o_trial x1 x2 x3 x4 hP hD hS hl h; exact False.elim h
        | succ n31 ih31 =>
          have B106 : ∀ (H : Heap) (locs : List Loc) (ls : Array Slot) (w_o_refusal : Int32) (d_o : BM) (w_o_trial : (Nat → Int32)) (x1 : Int32) (x2 : Int32) (x3 : Int32) (x4 : Int32), va_P D vwCl [(q_o, .inr (6, [.int w_o_refusal, .ref q_o_text, .int v_o_size, .ref q_o_now, .ref q_o_trial, .ref q_o_diary, .int v_o_acts, .ref q_o_kept, .ref q_o_isKept, .ref q_o_years, .int d_o.1, .int d_o.2.1, .int d_o.2.2.1, .int d_o.2.2.2.1, .int d_o.2.2.2.2.1, .int v_o_spot, .int v_o_out])), (q_o_now, gI Cs 221 v_o_now), (q_o_trial, gI Cs 221 w_o_trial), (q_o_years, gI Cs 10 d_o.2.2.2.2.2)] H → va_D A [(q_o, .inr (6, [.int w_o_refusal, .ref q_o_text, .int v_o_size, .ref q_o_now, .ref q_o_trial, .ref q_o_diary, .int v_o_acts, .ref q_o_kept, .ref q_o_isKept, .ref q_o_years, .int d_o.1, .int d_o.2.1, .int d_o.2.2.1, .int d_o.2.2.2.1, .int d_o.2.2.2.2.1, .int v_o_spot, .int v_o_out])), (q_o_now, gI Cs 221 v_o_now), (q_o_trial, gI Cs 221 w_o_trial), (q_o_years, gI Cs 10 d_o.2.2.2.2.2)] → va_S A s.heap H locs → lv_has ls 6 [(0, .ref q_o), (1, .int x1), (2, .int x2), (3, .int x3), (4, .int x4)] → P_X6_dearest_b106 v_o_refusal b_o v_o_now v_o_trial post (P_X6_dearest_l18 v_o_refusal b_o v_o_now v_o_trial post n18) (P_X6_dearest_l31 v_o_refusal b_o v_o_now v_o_trial post (P_X6_dearest_l18 v_o_refusal b_o v_o_now v_o_trial post n18) n31) w_o_refusal d_o w_o_trial x1 x2 x3 x4 → W p l e ({ frames := 5, cells := 0, slots := 0, locals := 118 } : Room) s m args below meth c H locs 0 0 Q (F0 m 106 ls []) := by
            intro H locs ls w_o_refusal d_o w_o_trial x1 x2 x3 x4 hP hD hS hl h
            unfold P_X6_dearest_b106 at h
            obtain ⟨x4_1, ex4_1⟩ : ∃ y : Int32, y = x4 + (1 : Int32) := ⟨_, rfl⟩
            have h := h _ ex4_1
            refine lv_iinc (v := x4_1) (lv' := [(4, .int x4_1), (0, .ref q_o), (1, .int x1), (2, .int x2), (3, .int x3)]) hx hb dX6_dearest_106 hl (k := 4) rfl (by rw [ex4_1]; rfl) (by decide) rfl (fun ls hl => ?_)
            refine lv_goto (tgt := 31) hx hb dX6_dearest_109 (by decide) ?_
            exact ih31 _ _ _ w_o_refusal d_o w_o_trial x1 x2 x3 x4_1 hP hD hS (lv_sub hl [1, 2, 3, 4, 0] rfl) h
          have B105 : ∀ (H : Heap) (locs : List Loc) (ls : Array Slot) (w_o_refusal : Int32) (d_o : BM) (w_o_trial : (Nat → Int32)) (x1 : Int32) (x3 : Int32) (x4 : Int32) (s0 : Int32), va_P D vwCl [(q_o, .inr (6, [.int w_o_refusal, .ref q_o_text, .int v_o_size, .ref q_o_now, .ref q_o_trial, .ref q_o_diary, .int v_o_acts, .ref q_o_kept, .ref q_o_isKept, .ref q_o_years, .int d_o.1, .int d_o.2.1, .int d_o.2.2.1, .int d_o.2.2.2.1, .int d_o.2.2.2.2.1, .int v_o_spot, .int v_o_out])), (q_o_now, gI Cs 221 v_o_now), (q_o_trial, gI Cs 221 w_o_trial), (q_o_years, gI Cs 10 d_o.2.2.2.2.2)] H → va_D A [(q_o, .inr (6, [.int w_o_refusal, .ref q_o_text, .int v_o_size, .ref q_o_now, .ref q_o_trial, .ref q_o_diary, .int v_o_acts, .ref q_o_kept, .ref q_o_isKept, .ref q_o_years, .int d_o.1, .int d_o.2.1, .int d_o.2.2.1, .int d_o.2.2.2.1, .int d_o.2.2.2.2.1, .int v_o_spot, .int v_o_out])), (q_o_now, gI Cs 221 v_o_now), (q_o_trial, gI Cs 221 w_o_trial), (q_o_years, gI Cs 10 d_o.2.2.2.2.2)] → va_S A s.heap H locs → lv_has ls 6 [(0, .ref q_o), (1, .int x1), (3, .int x3), (4, .int x4)] → P_X6_dearest_b105 v_o_refusal b_o v_o_now v_o_trial post (P_X6_dearest_l18 v_o_refusal b_o v_o_now v_o_trial post n18) (P_X6_dearest_l31 v_o_refusal b_o v_o_now v_o_trial post (P_X6_dearest_l18 v_o_refusal b_o v_o_now v_o_trial post n18) n31) w_o_refusal d_o w_o_trial x1 x3 x4 s0 → W p l e ({ frames := 5, cells := 0, slots := 0, locals := 118 } : Room) s m args below meth c H locs 0 0 Q (F0 m 105 ls [.int s0]) := by
            intro H locs ls w_o_refusal d_o w_o_trial x1 x3 x4 s0 hP hD hS hl h
            unfold P_X6_dearest_b105 at h
            refine lv_istore_n (lv' := [(2, .int s0), (0, .ref q_o), (1, .int x1), (3, .int x3), (4, .int x4)]) hx hb dX6_dearest_105 rfl hl (by decide) rfl (fun ls hl => ?_)
            exact B106 _ _ _ w_o_refusal d_o w_o_trial x1 s0 x3 x4 hP hD hS (lv_sub hl [1, 2, 0, 3, 4] rfl) h
          have B92 : ∀ (H : Heap) (locs : List Loc) (ls : Array Slot) (w_o_refusal : Int32) (d_o : BM) (w_o_trial : (Nat → Int32)) (x2 : Int32) (x3 : Int32) (x4 : Int32) (x5 : Int32) (s0 : Int32), va_P D vwCl [(q_o, .inr (6, [.int w_o_refusal, .ref q_o_text, .int v_o_size, .ref q_o_now, .ref q_o_trial, .ref q_o_diary, .int v_o_acts, .ref q_o_kept, .ref q_o_isKept, .ref q_o_years, .int d_o.1, .int d_o.2.1, .int d_o.2.2.1, .int d_o.2.2.2.1, .int d_o.2.2.2.2.1, .int v_o_spot, .int v_o_out])), (q_o_now, gI Cs 221 v_o_now), (q_o_trial, gI Cs 221 w_o_trial), (q_o_years, gI Cs 10 d_o.2.2.2.2.2)] H → va_D A [(q_o, .inr (6, [.int w_o_refusal, .ref q_o_text, .int v_o_size, .ref q_o_now, .ref q_o_trial, .ref q_o_diary, .int v_o_acts, .ref q_o_kept, .ref q_o_isKept, .ref q_o_years, .int d_o.1, .int d_o.2.1, .int d_o.2.2.1, .int d_o.2.2.2.1, .int d_o.2.2.2.2.1, .int v_o_spot, .int v_o_out])), (q_o_now, gI Cs 221 v_o_now), (q_o_trial, gI Cs 221 w_o_trial), (q_o_years, gI Cs 10 d_o.2.2.2.2.2)] → va_S A s.heap H locs → lv_has ls 6 [(0, .ref q_o), (2, .int x2), (3, .int x3), (4, .int x4), (5, .int x5)] → P_X6_dearest_b92 v_o_refusal b_o v_o_now v_o_trial post (P_X6_dearest_l18 v_o_refusal b_o v_o_now v_o_trial post n18) (P_X6_dearest_l31 v_o_refusal b_o v_o_now v_o_trial post (P_X6_dearest_l18 v_o_refusal b_o v_o_now v_o_trial post n18) n31) w_o_refusal d_o w_o_trial x2 x3 x4 x5 s0 → W p l e ({ frames := 5, cells := 0, slots := 0, locals := 118 } : Room) s m args below meth c H locs 0 0 Q (F0 m 92 ls [.int s0]) := by
            intro H locs ls w_o_refusal d_o w_o_trial x2 x3 x4 x5 s0 hP hD hS hl h
            unfold P_X6_dearest_b92 at h
            refine lv_istore_n (lv' := [(1, .int s0), (0, .ref q_o), (2, .int x2), (3, .int x3), (4, .int x4), (5, .int x5)]) hx hb dX6_dearest_92 rfl hl (by decide) rfl (fun ls hl => ?_)
            refine lv_iload hx hb dX6_dearest_93 (lv_at hl 5 rfl) ?_
            refine lv_iload_n hx hb dX6_dearest_95 rfl (lv_at hl 2 rfl) ?_
            refine lv_icmp_ge (tgt := 104) hx hb dX6_dearest_96 (by decide) (fun c_2 => ?_) (fun c_2 => ?_)
            · have h := h.1 c_2
              refine lv_iload_n hx hb dX6_dearest_104 rfl (lv_at hl 2 rfl) ?_
              exact B105 _ _ _ w_o_refusal d_o w_o_trial s0 x3 x4 x2 hP hD hS (lv_sub hl [1, 0, 3, 4] rfl) h
            · have h := h.2 c_2
              refine lv_iload hx hb dX6_dearest_99 (lv_at hl 5 rfl) ?_
              refine lv_goto (tgt := 105) hx hb dX6_dearest_101 (by decide) ?_
              exact B105 _ _ _ w_o_refusal d_o w_o_trial s0 x3 x4 x5 hP hD hS (lv_sub hl [1, 0, 3, 4] rfl) h
          intro H locs ls w_o_refusal d_o w_o_trial x1 x2 x3 x4 hP hD hS hl h
          replace h : P_X6_dearest_b31 v_o_refusal b_o v_o_now v_o_trial post (P_X6_dearest_l18 v_o_refusal b_o v_o_now v_o_trial post n18) (P_X6_dearest_l31 v_o_refusal b_o v_o_now v_o_trial post (P_X6_dearest_l18 v_o_refusal b_o v_o_now v_o_trial post n18) n31) w_o_refusal d_o w_o_trial x1 x2 x3 x4 := h
          unfold P_X6_dearest_b31 at h
          refine lv_iload hx hb dX6_dearest_31 (lv_at hl 4 rfl) ?_
          refine lv_bipush (v := (6 : Int32)) hx hb dX6_dearest_33 (by decide) ?_
          refine lv_icmp_ge (tgt := 112) hx hb dX6_dearest_35 (by decide) (fun c_3 => ?_) (fun c_3 => ?_)
          · have h := h.1 c_3
            obtain ⟨x3_4, ex3_4⟩ : ∃ y : Int32, y = x3 + (1 : Int32) := ⟨_, rfl⟩
            have h := h _ ex3_4
            refine lv_iinc (v := x3_4) (lv' := [(3, .int x3_4), (0, .ref q_o), (1, .int x1), (2, .int x2), (4, .int x4)]) hx hb dX6_dearest_112 hl (k := 3) rfl (by rw [ex3_4]; rfl) (by decide) rfl (fun ls hl => ?_)
            refine lv_goto (tgt := 18) hx hb dX6_dearest_115 (by decide) ?_
            exact ih18 _ _ _ w_o_refusal d_o w_o_trial x1 x2 x3_4 hP hD hS (lv_sub hl [1, 2, 3, 0] rfl) h
          · have h := h.2 c_3
            refine lv_aload_n hx hb dX6_dearest_38 rfl (lv_at hl 0 rfl) ?_
            refine va_get (D := D) (ci := 6) (v := .ref q_o_now) (C := RX6) (T := TX6) (N := 17) hx hb htb inT_X6 hown hK hP 0 rfl rfl 3 (by decide) (htb _ tb_90) (fun _ h9 => h9) rfl dX6_dearest_39 ?_
            refine lv_iconst (v := (0 : Int32)) hx hb dX6_dearest_42 (by decide) ?_
            refine lv_aload_n hx hb dX6_dearest_43 rfl (lv_at hl 0 rfl) ?_
            refine va_get (D := D) (ci := 6) (v := .ref q_o_trial) (C := RX6) (T := TX6) (N := 17) hx hb htb inT_X6 hown hK hP 0 rfl rfl 4 (by decide) (htb _ tb_91) (fun _ h9 => h9) rfl dX6_dearest_44 ?_
            refine lv_iconst (v := (0 : Int32)) hx hb dX6_dearest_47 (by decide) ?_
            refine gSMv (wr := [(q_o, .inr (6, [.int w_o_refusal, .ref q_o_text, .int v_o_size, .ref q_o_now, .ref q_o_trial, .ref q_o_diary, .int v_o_acts, .ref q_o_kept, .ref q_o_isKept, .ref q_o_years, .int d_o.1, .int d_o.2.1, .int d_o.2.2.1, .int d_o.2.2.2.1, .int d_o.2.2.2.2.1, .int v_o_spot, .int v_o_out])), (q_o_years, gI Cs 10 d_o.2.2.2.2.2)]) (As := [.ref q_o_now, .int (0 : Int32), .ref q_o_trial, .int (0 : Int32)]) (rest := []) ⟨hx, hb, hml, hown, htb⟩ hK hP hD hS hA hN [1, 2] [0, 3] rfl (by decide) rfl (by decide) (by decide) (c_X6_copyState l D Cs q_o_now q_o_trial 221 221 H.size v_o_now w_o_trial (0 : Int32) (0 : Int32) h) (va_cwS 4 htb (TB_s tb_170 tb_171 tb_5 (TB_self tb_172)) rfl rfl rfl z_X6_copyState.2 ⟨Nat.le_of_ble_eq_true rfl, Nat.le_of_ble_eq_true rfl⟩) rfl hl.1 rfl (Nat.le_of_ble_eq_true rfl) ⟨Nat.le_of_ble_eq_true rfl, Nat.le_of_ble_eq_true rfl⟩ dX6_dearest_48 (fun m_6 H locs h hP hD hS => ?_)
            have hP : va_P D vwCl [(q_o, .inr (6, [.int w_o_refusal, .ref q_o_text, .int v_o_size, .ref q_o_now, .ref q_o_trial, .ref q_o_diary, .int v_o_acts, .ref q_o_kept, .ref q_o_isKept, .ref q_o_years, .int d_o.1, .int d_o.2.1, .int d_o.2.2.1, .int d_o.2.2.2.1, .int d_o.2.2.2.2.1, .int v_o_spot, .int v_o_out])), (q_o_years, gI Cs 10 d_o.2.2.2.2.2), (q_o_now, gI Cs 221 v_o_now), (q_o_trial, gI Cs 221 m_6)] H := hP
            have hD : va_D A [(q_o, .inr (6, [.int w_o_refusal, .ref q_o_text, .int v_o_size, .ref q_o_now, .ref q_o_trial, .ref q_o_diary, .int v_o_acts, .ref q_o_kept, .ref q_o_isKept, .ref q_o_years, .int d_o.1, .int d_o.2.1, .int d_o.2.2.1, .int d_o.2.2.2.1, .int d_o.2.2.2.2.1, .int v_o_spot, .int v_o_out])), (q_o_years, gI Cs 10 d_o.2.2.2.2.2), (q_o_now, gI Cs 221 v_o_now), (q_o_trial, gI Cs 221 m_6)] := hD
            refine lv_aload_n hx hb dX6_dearest_51 rfl (lv_at hl 0 rfl) ?_
            refine va_get (D := D) (ci := 6) (v := .ref q_o_trial) (C := RX6) (T := TX6) (N := 17) hx hb htb inT_X6 hown hK hP 0 rfl rfl 4 (by decide) (htb _ tb_91) (fun _ h9 => h9) rfl dX6_dearest_52 ?_
            refine lv_iload_n hx hb dX6_dearest_55 rfl (lv_at hl 3 rfl) ?_
            refine lv_iload hx hb dX6_dearest_56 (lv_at hl 4 rfl) ?_
            refine gSM (wr := [(q_o, .inr (6, [.int w_o_refusal, .ref q_o_text, .int v_o_size, .ref q_o_now, .ref q_o_trial, .ref q_o_diary, .int v_o_acts, .ref q_o_kept, .ref q_o_isKept, .ref q_o_years, .int d_o.1, .int d_o.2.1, .int d_o.2.2.1, .int d_o.2.2.2.1, .int d_o.2.2.2.2.1, .int v_o_spot, .int v_o_out])), (q_o_years, gI Cs 10 d_o.2.2.2.2.2), (q_o_now, gI Cs 221 v_o_now)]) (As := [.ref q_o_trial, .int x3, .int x4]) (rest := []) ⟨hx, hb, hml, hown, htb⟩ hK hP hD hS hA hN [3] [0, 1, 2] rfl (by decide) rfl (by decide) (by decide) (c_X6_forgetOn l D Cs q_o_trial 221 H.size m_6 x3 x4 h) (va_cwS 3 htb (TB_s tb_587 tb_588 tb_5 (TB_self tb_589)) rfl rfl rfl z_X6_forgetOn.2 ⟨Nat.le_of_ble_eq_true rfl, Nat.le_of_ble_eq_true rfl⟩) rfl hl.1 rfl (Nat.le_of_ble_eq_true rfl) ⟨Nat.le_of_ble_eq_true rfl, Nat.le_of_ble_eq_true rfl⟩ dX6_dearest_58 (fun r_7 m_8 H locs h hP hD hS => ?_)
            have hP : va_P D vwCl [(q_o, .inr (6, [.int w_o_refusal, .ref q_o_text, .int v_o_size, .ref q_o_now, .ref q_o_trial, .ref q_o_diary, .int v_o_acts, .ref q_o_kept, .ref q_o_isKept, .ref q_o_years, .int d_o.1, .int d_o.2.1, .int d_o.2.2.1, .int d_o.2.2.2.1, .int d_o.2.2.2.2.1, .int v_o_spot, .int v_o_out])), (q_o_years, gI Cs 10 d_o.2.2.2.2.2), (q_o_now, gI Cs 221 v_o_now), (q_o_trial, gI Cs 221 m_8)] H := hP
            have hD : va_D A [(q_o, .inr (6, [.int w_o_refusal, .ref q_o_text, .int v_o_size, .ref q_o_now, .ref q_o_trial, .ref q_o_diary, .int v_o_acts, .ref q_o_kept, .ref q_o_isKept, .ref q_o_years, .int d_o.1, .int d_o.2.1, .int d_o.2.2.1, .int d_o.2.2.2.1, .int d_o.2.2.2.2.1, .int v_o_spot, .int v_o_out])), (q_o_years, gI Cs 10 d_o.2.2.2.2.2), (q_o_now, gI Cs 221 v_o_now), (q_o_trial, gI Cs 221 m_8)] := hD
            refine lv_iconst (v := (1 : Int32)) hx hb dX6_dearest_61 (by decide) ?_
            refine lv_icmp_ne (tgt := 106) hx hb dX6_dearest_62 (by decide) (fun c_9 => ?_) (fun c_9 => ?_)
            · have h := h.2 c_9
              exact B106 _ _ _ w_o_refusal d_o m_8 x1 x2 x3 x4 (hP.sub [0, 2, 3, 1] rfl) (hD.sub [0, 2, 3, 1] (by decide) rfl) hS (lv_sub hl [0, 1, 2, 3, 4] rfl) h
            · have h := h.1 c_9
              refine lv_aload_n hx hb dX6_dearest_65 rfl (lv_at hl 0 rfl) ?_
              refine lv_aload_n hx hb dX6_dearest_66 rfl (lv_at hl 0 rfl) ?_
              refine va_get (D := D) (ci := 6) (v := .ref q_o_trial) (C := RX6) (T := TX6) (N := 17) hx hb htb inT_X6 hown hK hP 0 rfl rfl 4 (by decide) (htb _ tb_91) (fun _ h9 => h9) rfl dX6_dearest_67 ?_
              refine gVM (wr := [(q_o_now, gI Cs 221 v_o_now)]) (As := [.ref q_o_trial]) (rest := []) ⟨hx, hb, hml, hown, htb⟩ hK hP hD hS hA hN [0, 1, 3] [2] rfl (by decide) rfl (by decide) (by decide) (c_X6_inventionsInAll l D Cs q_o q_o_trial q_o_text q_o_now q_o_trial q_o_diary q_o_kept q_o_isKept q_o_years 221 H.size d_o m_8 w_o_refusal v_o_size v_o_acts v_o_spot v_o_out h) (cwV 1 htb (TB_v tb_375 tb_376 tb_377 tb_5 (TB_self tb_378)) rfl rfl rfl z_X6_inventionsInAll ⟨Nat.le_of_ble_eq_true rfl, Nat.le_of_ble_eq_true rfl⟩) 0 rfl rfl rfl rfl hl.1 rfl (Nat.le_of_ble_eq_true rfl) ⟨Nat.le_of_ble_eq_true rfl, Nat.le_of_ble_eq_true rfl⟩ dX6_dearest_70 (fun r_10 m_11 H locs h hP hD hS => ?_)
              have hP : va_P D vwCl [(q_o_now, gI Cs 221 v_o_now), (q_o, .inr (6, [.int w_o_refusal, .ref q_o_text, .int v_o_size, .ref q_o_now, .ref q_o_trial, .ref q_o_diary, .int v_o_acts, .ref q_o_kept, .ref q_o_isKept, .ref q_o_years, .int m_11.1, .int m_11.2.1, .int m_11.2.2.1, .int m_11.2.2.2.1, .int m_11.2.2.2.2.1, .int v_o_spot, .int v_o_out])), (q_o_years, gI Cs 10 m_11.2.2.2.2.2), (q_o_trial, gI Cs 221 m_8)] H := hP
              have hD : va_D A [(q_o_now, gI Cs 221 v_o_now), (q_o, .inr (6, [.int w_o_refusal, .ref q_o_text, .int v_o_size, .ref q_o_now, .ref q_o_trial, .ref q_o_diary, .int v_o_acts, .ref q_o_kept, .ref q_o_isKept, .ref q_o_years, .int m_11.1, .int m_11.2.1, .int m_11.2.2.1, .int m_11.2.2.2.1, .int m_11.2.2.2.2.1, .int v_o_spot, .int v_o_out])), (q_o_years, gI Cs 10 m_11.2.2.2.2.2), (q_o_trial, gI Cs 221 m_8)] := hD
              refine lv_istore (lv' := [(5, .int r_10), (0, .ref q_o), (1, .int x1), (2, .int x2), (3, .int x3), (4, .int x4)]) hx hb dX6_dearest_73 hl (by decide) rfl (fun ls hl => ?_)
              refine lv_iload hx hb dX6_dearest_75 (lv_at hl 0 rfl) ?_
              refine lv_iload_n hx hb dX6_dearest_77 rfl (lv_at hl 3 rfl) ?_
              refine lv_icmp_ge (tgt := 91) hx hb dX6_dearest_78 (by decide) (fun c_12 => ?_) (fun c_12 => ?_)
              · have h := h.1 c_12
                refine lv_iload_n hx hb dX6_dearest_91 rfl (lv_at hl 2 rfl) ?_
                exact B92 _ _ _ w_o_refusal m_11 m_8 x2 x3 x4 r_10 x1 (hP.sub [1, 0, 3, 2] rfl) (hD.sub [1, 0, 3, 2] (by decide) rfl) hS (lv_sub hl [1, 3, 4, 5, 0] rfl) h
              · have h := h.2 c_12
                refine lv_bipush (v := (10 : Int32)) hx hb dX6_dearest_81 (by decide) ?_
                refine lv_iload_n hx hb dX6_dearest_83 rfl (lv_at hl 4 rfl) ?_
                refine lv_imul hx hb dX6_dearest_84 ?_
                refine lv_iload hx hb dX6_dearest_85 (lv_at hl 5 rfl) ?_
                refine lv_iadd hx hb dX6_dearest_87 ?_
                refine lv_goto (tgt := 92) hx hb dX6_dearest_88 (by decide) ?_
                exact B92 _ _ _ w_o_refusal m_11 m_8 x2 x3 x4 r_10 (((10 : Int32) * x3) + x4) (hP.sub [1, 0, 3, 2] rfl) (hD.sub [1, 0, 3, 2] (by decide) rfl) hS (lv_sub hl [1, 3, 4, 5, 0] rfl) h
      intro H locs ls w_o_refusal d_o w_o_trial x1 x2 x3 hP hD hS hl h
      replace h : P_X6_dearest_b18 v_o_refusal b_o v_o_now v_o_trial post (P_X6_dearest_l18 v_o_refusal b_o v_o_now v_o_trial post n18) w_o_refusal d_o w_o_trial x1 x2 x3 := h
      unfold P_X6_dearest_b18 at h
      refine lv_iload_n hx hb dX6_dearest_18 rfl (lv_at hl 3 rfl) ?_
      refine lv_aload_n hx hb dX6_dearest_19 rfl (lv_at hl 0 rfl) ?_
      refine va_get (D := D) (ci := 6) (v := .ref q_o_now) (C := RX6) (T := TX6) (N := 17) hx hb htb inT_X6 hown hK hP 0 rfl rfl 3 (by decide) (htb _ tb_90) (fun _ h9 => h9) rfl dX6_dearest_20 ?_
      refine lv_iconst (v := (0 : Int32)) hx hb dX6_dearest_23 (by decide) ?_
      refine va_iald hx hb hK hP 1 0 rfl rfl (by unfold vp_in; decide) dX6_dearest_24 ?_
      refine lv_icmp_ge (tgt := 118) hx hb dX6_dearest_25 (by decide) (fun c_13 => ?_) (fun c_13 => ?_)
      · have h := h.1 c_13
        refine lv_iload_n hx hb dX6_dearest_118 rfl (lv_at hl 1 rfl) ?_
        rw [← hQ]
        exact gRetI (u := (w_o_refusal, d_o, w_o_trial)) hx hb hr rfl h hP hD hS dX6_dearest_119 hlocks
      · have h := h.2 c_13
        refine lv_iconst (v := (0 : Int32)) hx hb dX6_dearest_28 (by decide) ?_
        refine lv_istore (lv' := [(4, .int (0 : Int32)), (0, .ref q_o), (1, .int x1), (2, .int x2), (3, .int x3)]) hx hb dX6_dearest_29 hl (by decide) rfl (fun ls hl => ?_)
        obtain ⟨n, h⟩ := h
        exact L31 n _ _ _ w_o_refusal d_o w_o_trial x1 x2 x3 (0 : Int32) hP hD hS (lv_sub hl [1, 2, 3, 4, 0] rfl) h
  unfold P_X6_dearest at h
  refine lv_aload_n hx hb dX6_dearest_0 rfl (lv_at hl 0 rfl) ?_
  refine lv_iconst (v := (0 : Int32)) hx hb dX6_dearest_1 (by decide) ?_
  refine va_put (D := D) (ci := 6) (v := .int (0 : Int32)) (ty := .int) (C := RX6) (T := TX6) (N := 17) hx hb htb inT_X6 tyX6 tyX6_ok nmX6 hown hK hP hD hS 0 rfl rfl 0 (by decide) (htb _ tb_132) (fun _ h9 => h9) rfl (tyX6_ok 0 (by decide)) rfl rfl (Nat.le_of_ble_eq_true rfl) dX6_dearest_2 (fun H locs hP hD hS => ?_)
  have hP : va_P D vwCl [(q_o, .inr (6, [.int (0 : Int32), .ref q_o_text, .int v_o_size, .ref q_o_now, .ref q_o_trial, .ref q_o_diary, .int v_o_acts, .ref q_o_kept, .ref q_o_isKept, .ref q_o_years, .int b_o.1, .int b_o.2.1, .int b_o.2.2.1, .int b_o.2.2.2.1, .int b_o.2.2.2.2.1, .int v_o_spot, .int v_o_out])), (q_o_now, gI Cs 221 v_o_now), (q_o_trial, gI Cs 221 v_o_trial), (q_o_years, gI Cs 10 b_o.2.2.2.2.2)] H := hP
  have hD : va_D A [(q_o, .inr (6, [.int (0 : Int32), .ref q_o_text, .int v_o_size, .ref q_o_now, .ref q_o_trial, .ref q_o_diary, .int v_o_acts, .ref q_o_kept, .ref q_o_isKept, .ref q_o_years, .int b_o.1, .int b_o.2.1, .int b_o.2.2.1, .int b_o.2.2.2.1, .int b_o.2.2.2.2.1, .int v_o_spot, .int v_o_out])), (q_o_now, gI Cs 221 v_o_now), (q_o_trial, gI Cs 221 v_o_trial), (q_o_years, gI Cs 10 b_o.2.2.2.2.2)] := hD
  refine lv_iconst (v := (-1 : Int32)) hx hb dX6_dearest_5 (by decide) ?_
  refine lv_istore_n (lv' := [(1, .int (-1 : Int32)), (0, .ref q_o)]) hx hb dX6_dearest_6 rfl hl (by decide) rfl (fun ls hl => ?_)
  refine lv_aload_n hx hb dX6_dearest_7 rfl (lv_at hl 1 rfl) ?_
  refine lv_aload_n hx hb dX6_dearest_8 rfl (lv_at hl 1 rfl) ?_
  refine va_get (D := D) (ci := 6) (v := .ref q_o_now) (C := RX6) (T := TX6) (N := 17) hx hb htb inT_X6 hown hK hP 0 rfl rfl 3 (by decide) (htb _ tb_90) (fun _ h9 => h9) rfl dX6_dearest_9 ?_
  refine gVM (wr := [(q_o_trial, gI Cs 221 v_o_trial)]) (As := [.ref q_o_now]) (rest := []) ⟨hx, hb, hml, hown, htb⟩ hK hP hD hS hA hN [0, 3, 1] [2] rfl (by decide) rfl (by decide) (by decide) (c_X6_inventionsInAll l D Cs q_o q_o_now q_o_text q_o_now q_o_trial q_o_diary q_o_kept q_o_isKept q_o_years 221 H.size b_o v_o_now (0 : Int32) v_o_size v_o_acts v_o_spot v_o_out h) (cwV 1 htb (TB_v tb_375 tb_376 tb_377 tb_5 (TB_self tb_378)) rfl rfl rfl z_X6_inventionsInAll ⟨Nat.le_of_ble_eq_true rfl, Nat.le_of_ble_eq_true rfl⟩) 0 rfl rfl rfl rfl hl.1 rfl (Nat.le_of_ble_eq_true rfl) ⟨Nat.le_of_ble_eq_true rfl, Nat.le_of_ble_eq_true rfl⟩ dX6_dearest_12 (fun r_14 m_15 H locs h hP hD hS => ?_)
  have hP : va_P D vwCl [(q_o_trial, gI Cs 221 v_o_trial), (q_o, .inr (6, [.int (0 : Int32), .ref q_o_text, .int v_o_size, .ref q_o_now, .ref q_o_trial, .ref q_o_diary, .int v_o_acts, .ref q_o_kept, .ref q_o_isKept, .ref q_o_years, .int m_15.1, .int m_15.2.1, .int m_15.2.2.1, .int m_15.2.2.2.1, .int m_15.2.2.2.2.1, .int v_o_spot, .int v_o_out])), (q_o_years, gI Cs 10 m_15.2.2.2.2.2), (q_o_now, gI Cs 221 v_o_now)] H := hP
  have hD : va_D A [(q_o_trial, gI Cs 221 v_o_trial), (q_o, .inr (6, [.int (0 : Int32), .ref q_o_text, .int v_o_size, .ref q_o_now, .ref q_o_trial, .ref q_o_diary, .int v_o_acts, .ref q_o_kept, .ref q_o_isKept, .ref q_o_years, .int m_15.1, .int m_15.2.1, .int m_15.2.2.1, .int m_15.2.2.2.1, .int m_15.2.2.2.2.1, .int v_o_spot, .int v_o_out])), (q_o_years, gI Cs 10 m_15.2.2.2.2.2), (q_o_now, gI Cs 221 v_o_now)] := hD
  refine lv_istore_n (lv' := [(2, .int r_14), (1, .int (-1 : Int32)), (0, .ref q_o)]) hx hb dX6_dearest_15 rfl hl (by decide) rfl (fun ls hl => ?_)
  refine lv_iconst (v := (0 : Int32)) hx hb dX6_dearest_16 (by decide) ?_
  refine lv_istore_n (lv' := [(3, .int (0 : Int32)), (2, .int r_14), (1, .int (-1 : Int32)), (0, .ref q_o)]) hx hb dX6_dearest_17 rfl hl (by decide) rfl (fun ls hl => ?_)
  obtain ⟨n, h⟩ := h
  exact L18 n _ _ _ (0 : Int32) m_15 v_o_trial (-1 : Int32) r_14 (0 : Int32) (hP.sub [1, 3, 0, 2] rfl) (hD.sub [1, 3, 0, 2] (by decide) rfl) hS (lv_sub hl [3, 2, 1, 0] rfl) h
set_option maxHeartbeats 4000000 in
set_option maxRecDepth 100000 in
theorem c_X6_command (l : Launch) (D : va_G) (Cs : Nat → ClassId) (q_o : Nat) (q_o_text : Nat) (q_o_now : Nat) (q_o_trial : Nat) (q_o_diary : Nat) (q_o_kept : Nat) (q_o_isKept : Nat) (q_o_years : Nat) (sz : Nat) (b_o : BM) (v_o_trial : (Nat → Int32)) (v_o_refusal : Int32) (v_o_size : Int32) (v_o_acts : Int32) (v_o_spot : Int32) (v_o_out : Int32) (x1 : Int32) (x2 : Int32) (x3 : Int32) (x4 : Int32) {post : Int32 → BM → (Nat → Int32) → Prop} (h : P_X6_command b_o v_o_trial x1 x2 x3 x4 post) : Met l yX6_command wsX6_command ({ frames := 6, cells := 0, slots := 0, locals := 140 } : Room) (va_Pc [.ref q_o, .int x1, .int x2, .int x3, .int x4] (gM D Cs [(q_o, .inr (6, [.int v_o_refusal, .ref q_o_text, .int v_o_size, .ref q_o_now, .ref q_o_trial, .ref q_o_diary, .int v_o_acts, .ref q_o_kept, .ref q_o_isKept, .ref q_o_years, .int b_o.1, .int b_o.2.1, .int b_o.2.2.1, .int b_o.2.2.2.1, .int b_o.2.2.2.2.1, .int v_o_spot, .int v_o_out])), (q_o_trial, gI Cs 221 v_o_trial), (q_o_years, gI Cs 10 b_o.2.2.2.2.2)] sz)) (va_Qi (fun (r : Int32) (u : BM × (Nat → Int32)) => post r u.1 u.2) (gB D (va_A [(q_o, .inr (6, [.int v_o_refusal, .ref q_o_text, .int v_o_size, .ref q_o_now, .ref q_o_trial, .ref q_o_diary, .int v_o_acts, .ref q_o_kept, .ref q_o_isKept, .ref q_o_years, .int b_o.1, .int b_o.2.1, .int b_o.2.2.1, .int b_o.2.2.2.1, .int b_o.2.2.2.2.1, .int v_o_spot, .int v_o_out])), (q_o_trial, gI Cs 221 v_o_trial), (q_o_years, gI Cs 10 b_o.2.2.2.2.2)] sz) (fun u : BM × (Nat → Int32) => [(q_o, .inr (6, [.int v_o_refusal, .ref q_o_text, .int v_o_size, .ref q_o_now, .ref q_o_trial, .ref q_o_diary, .int v_o_acts, .ref q_o_kept, .ref q_o_isKept, .ref q_o_years, .int u.1.1, .int u.1.2.1, .int u.1.2.2.1, .int u.1.2.2.2.1, .int u.1.2.2.2.2.1, .int v_o_spot, .int v_o_out])), (q_o_trial, gI Cs 221 u.2), (q_o_years, gI Cs 10 u.1.2.2.2.2.2)])) (va_A [(q_o, .inr (6, [.int v_o_refusal, .ref q_o_text, .int v_o_size, .ref q_o_now, .ref q_o_trial, .ref q_o_diary, .int v_o_acts, .ref q_o_kept, .ref q_o_isKept, .ref q_o_years, .int b_o.1, .int b_o.2.1, .int b_o.2.2.1, .int b_o.2.2.2.1, .int b_o.2.2.2.2.1, .int v_o_spot, .int v_o_out])), (q_o_trial, gI Cs 221 v_o_trial), (q_o_years, gI Cs 10 b_o.2.2.2.2.2)] sz)) 0 0 (va_A [(q_o, .inr (6, [.int v_o_refusal, .ref q_o_text, .int v_o_size, .ref q_o_now, .ref q_o_trial, .ref q_o_diary, .int v_o_acts, .ref q_o_kept, .ref q_o_isKept, .ref q_o_years, .int b_o.1, .int b_o.2.1, .int b_o.2.2.1, .int b_o.2.2.2.1, .int b_o.2.2.2.2.1, .int v_o_spot, .int v_o_out])), (q_o_trial, gI Cs 221 v_o_trial), (q_o_years, gI Cs 10 b_o.2.2.2.2.2)] sz) := by
  refine Met.ofW (cc := cX6_command) (maxL := 6) (ret := (some .boolean)) (by decide) rfl ?_
  intro p e s m args below meth c s₁ B hml hv
  obtain ⟨ha, hsz, hP, hK, hD0, hN⟩ := hv
  have hx := B.exec
  have hb := B.bytes
  have hr := B.returns
  have hts := atoms_spec (ws := wsX6_command) B.pre
  have htb : ∀ w ∈ TB, w.before args s = true := fun w h9 => hts w (List.mem_cons_of_mem _ h9)
  have hown : s.vm.findClass RX6 = some m.cls := findClass_of_methodNamed B.named
  have hlocks := B.notSynchronized
  subst hsz
  have hD := hD0.self (sz := s.heap.size)
  generalize hAe : va_A [(q_o, .inr (6, [.int v_o_refusal, .ref q_o_text, .int v_o_size, .ref q_o_now, .ref q_o_trial, .ref q_o_diary, .int v_o_acts, .ref q_o_kept, .ref q_o_isKept, .ref q_o_years, .int b_o.1, .int b_o.2.1, .int b_o.2.2.1, .int b_o.2.2.2.1, .int b_o.2.2.2.2.1, .int v_o_spot, .int v_o_out])), (q_o_trial, gI Cs 221 v_o_trial), (q_o_years, gI Cs 10 b_o.2.2.2.2.2)] s.heap.size = A at hD ⊢
  have hA : ∀ q : Nat, s.heap.size ≤ q → A q := fun q h9 => by rw [← hAe]; exact Or.inr h9
  obtain ⟨H, hH⟩ : ∃ z : Heap, z = s.heap := ⟨_, rfl⟩
  have hS : va_S A s.heap H [] := by rw [hH]; exact va_S.rf
  have hP : va_P D vwCl [(q_o, .inr (6, [.int v_o_refusal, .ref q_o_text, .int v_o_size, .ref q_o_now, .ref q_o_trial, .ref q_o_diary, .int v_o_acts, .ref q_o_kept, .ref q_o_isKept, .ref q_o_years, .int b_o.1, .int b_o.2.1, .int b_o.2.2.1, .int b_o.2.2.2.1, .int b_o.2.2.2.2.1, .int v_o_spot, .int v_o_out])), (q_o_trial, gI Cs 221 v_o_trial), (q_o_years, gI Cs 10 b_o.2.2.2.2.2)] H := by rw [hH]; exact hP
  generalize hQ : MQ below _ args s _ _ _ = Q
  show W p l e ({ frames := 6, cells := 0, slots := 0, locals := 140 } : Room) s m args below meth c s.heap [] 0 0 Q (entryFrame m args 6)
  have hent : entryFrame m args 6 = F0 m 0 ((lg_sl ([.ref q_o, .int x1, .int x2, .int x3, .int x4]) ++ List.replicate (6 - (lg_sl ([.ref q_o, .int x1, .int x2, .int x3, .int x4])).length) Slot.unset).toArray) [] := by rw [ha]; exact lg_entry_eq m ([.ref q_o, .int x1, .int x2, .int x3, .int x4]) 6
  rw [hent]; clear hent
  rw [← hH]
  have hl := lv_entry ([.ref q_o, .int x1, .int x2, .int x3, .int x4]) (n := 6) (Nat.le_of_ble_eq_true rfl)
  generalize (lg_sl ([.ref q_o, .int x1, .int x2, .int x3, .int x4]) ++ List.replicate (6 - (lg_sl ([.ref q_o, .int x1, .int x2, .int x3, .int x4])).length) Slot.unset).toArray = ls at hl ⊢
  have hl : lv_has ls 6 [(0, .ref q_o), (1, .int x1), (2, .int x2), (3, .int x3), (4, .int x4)] := hl
  have B416 : ∀ (H : Heap) (locs : List Loc) (ls : Array Slot) (d_o : BM) (s0 : Int32), va_P D vwCl [(q_o, .inr (6, [.int v_o_refusal, .ref q_o_text, .int v_o_size, .ref q_o_now, .ref q_o_trial, .ref q_o_diary, .int v_o_acts, .ref q_o_kept, .ref q_o_isKept, .ref q_o_years, .int d_o.1, .int d_o.2.1, .int d_o.2.2.1, .int d_o.2.2.2.1, .int d_o.2.2.2.2.1, .int v_o_spot, .int v_o_out])), (q_o_trial, gI Cs 221 v_o_trial), (q_o_years, gI Cs 10 d_o.2.2.2.2.2)] H → va_D A [(q_o, .inr (6, [.int v_o_refusal, .ref q_o_text, .int v_o_size, .ref q_o_now, .ref q_o_trial, .ref q_o_diary, .int v_o_acts, .ref q_o_kept, .ref q_o_isKept, .ref q_o_years, .int d_o.1, .int d_o.2.1, .int d_o.2.2.1, .int d_o.2.2.2.1, .int d_o.2.2.2.2.1, .int v_o_spot, .int v_o_out])), (q_o_trial, gI Cs 221 v_o_trial), (q_o_years, gI Cs 10 d_o.2.2.2.2.2)] → va_S A s.heap H locs → lv_has ls 6 [(0, .ref q_o), (1, .int x1), (2, .int x2), (3, .int x3), (4, .int x4)] → P_X6_command_b416 b_o v_o_trial x1 x2 x3 x4 post d_o s0 → W p l e ({ frames := 6, cells := 0, slots := 0, locals := 140 } : Room) s m args below meth c H locs 0 0 Q (F0 m 416 ls [.int s0]) := by
    intro H locs ls d_o s0 hP hD hS hl h
    unfold P_X6_command_b416 at h
    obtain ⟨hnb, h⟩ := h
    rw [← hQ]
    exact gRetI (u := (d_o, v_o_trial)) hx hb hr hnb h hP hD hS dX6_command_416 hlocks
  have B415 : ∀ (H : Heap) (locs : List Loc) (ls : Array Slot) (d_o : BM), va_P D vwCl [(q_o, .inr (6, [.int v_o_refusal, .ref q_o_text, .int v_o_size, .ref q_o_now, .ref q_o_trial, .ref q_o_diary, .int v_o_acts, .ref q_o_kept, .ref q_o_isKept, .ref q_o_years, .int d_o.1, .int d_o.2.1, .int d_o.2.2.1, .int d_o.2.2.2.1, .int d_o.2.2.2.2.1, .int v_o_spot, .int v_o_out])), (q_o_trial, gI Cs 221 v_o_trial), (q_o_years, gI Cs 10 d_o.2.2.2.2.2)] H → va_D A [(q_o, .inr (6, [.int v_o_refusal, .ref q_o_text, .int v_o_size, .ref q_o_now, .ref q_o_trial, .ref q_o_diary, .int v_o_acts, .ref q_o_kept, .ref q_o_isKept, .ref q_o_years, .int d_o.1, .int d_o.2.1, .int d_o.2.2.1, .int d_o.2.2.2.1, .int d_o.2.2.2.2.1, .int v_o_spot, .int v_o_out])), (q_o_trial, gI Cs 221 v_o_trial), (q_o_years, gI Cs 10 d_o.2.2.2.2.2)] → va_S A s.heap H locs → lv_has ls 6 [(0, .ref q_o), (1, .int x1), (2, .int x2), (3, .int x3), (4, .int x4)] → P_X6_command_b415 b_o v_o_trial x1 x2 x3 x4 post d_o → W p l e ({ frames := 6, cells := 0, slots := 0, locals := 140 } : Room) s m args below meth c H locs 0 0 Q (F0 m 415 ls []) := by
    intro H locs ls d_o hP hD hS hl h
    unfold P_X6_command_b415 at h
    refine lv_iconst (v := (0 : Int32)) hx hb dX6_command_415 (by decide) ?_
    exact B416 _ _ _ d_o (0 : Int32) hP hD hS (lv_sub hl [0, 1, 2, 3, 4] rfl) h
  have B363 : ∀ (H : Heap) (locs : List Loc) (ls : Array Slot) (d_o : BM) (s0 : Int32), va_P D vwCl [(q_o, .inr (6, [.int v_o_refusal, .ref q_o_text, .int v_o_size, .ref q_o_now, .ref q_o_trial, .ref q_o_diary, .int v_o_acts, .ref q_o_kept, .ref q_o_isKept, .ref q_o_years, .int d_o.1, .int d_o.2.1, .int d_o.2.2.1, .int d_o.2.2.2.1, .int d_o.2.2.2.2.1, .int v_o_spot, .int v_o_out])), (q_o_trial, gI Cs 221 v_o_trial), (q_o_years, gI Cs 10 d_o.2.2.2.2.2)] H → va_D A [(q_o, .inr (6, [.int v_o_refusal, .ref q_o_text, .int v_o_size, .ref q_o_now, .ref q_o_trial, .ref q_o_diary, .int v_o_acts, .ref q_o_kept, .ref q_o_isKept, .ref q_o_years, .int d_o.1, .int d_o.2.1, .int d_o.2.2.1, .int d_o.2.2.2.1, .int d_o.2.2.2.2.1, .int v_o_spot, .int v_o_out])), (q_o_trial, gI Cs 221 v_o_trial), (q_o_years, gI Cs 10 d_o.2.2.2.2.2)] → va_S A s.heap H locs → lv_has ls 6 [(0, .ref q_o), (1, .int x1), (2, .int x2), (3, .int x3), (4, .int x4)] → P_X6_command_b363 b_o v_o_trial x1 x2 x3 x4 post d_o s0 → W p l e ({ frames := 6, cells := 0, slots := 0, locals := 140 } : Room) s m args below meth c H locs 0 0 Q (F0 m 363 ls [.int s0]) := by
    intro H locs ls d_o s0 hP hD hS hl h
    unfold P_X6_command_b363 at h
    obtain ⟨hnb, h⟩ := h
    rw [← hQ]
    exact gRetI (u := (d_o, v_o_trial)) hx hb hr hnb h hP hD hS dX6_command_363 hlocks
  have B362 : ∀ (H : Heap) (locs : List Loc) (ls : Array Slot) (d_o : BM), va_P D vwCl [(q_o, .inr (6, [.int v_o_refusal, .ref q_o_text, .int v_o_size, .ref q_o_now, .ref q_o_trial, .ref q_o_diary, .int v_o_acts, .ref q_o_kept, .ref q_o_isKept, .ref q_o_years, .int d_o.1, .int d_o.2.1, .int d_o.2.2.1, .int d_o.2.2.2.1, .int d_o.2.2.2.2.1, .int v_o_spot, .int v_o_out])), (q_o_trial, gI Cs 221 v_o_trial), (q_o_years, gI Cs 10 d_o.2.2.2.2.2)] H → va_D A [(q_o, .inr (6, [.int v_o_refusal, .ref q_o_text, .int v_o_size, .ref q_o_now, .ref q_o_trial, .ref q_o_diary, .int v_o_acts, .ref q_o_kept, .ref q_o_isKept, .ref q_o_years, .int d_o.1, .int d_o.2.1, .int d_o.2.2.1, .int d_o.2.2.2.1, .int d_o.2.2.2.2.1, .int v_o_spot, .int v_o_out])), (q_o_trial, gI Cs 221 v_o_trial), (q_o_years, gI Cs 10 d_o.2.2.2.2.2)] → va_S A s.heap H locs → lv_has ls 6 [(0, .ref q_o), (1, .int x1), (2, .int x2), (3, .int x3), (4, .int x4)] → P_X6_command_b362 b_o v_o_trial x1 x2 x3 x4 post d_o → W p l e ({ frames := 6, cells := 0, slots := 0, locals := 140 } : Room) s m args below meth c H locs 0 0 Q (F0 m 362 ls []) := by
    intro H locs ls d_o hP hD hS hl h
    unfold P_X6_command_b362 at h
    refine lv_iconst (v := (0 : Int32)) hx hb dX6_command_362 (by decide) ?_
    exact B363 _ _ _ d_o (0 : Int32) hP hD hS (lv_sub hl [0, 1, 2, 3, 4] rfl) h
  have B331 : ∀ (H : Heap) (locs : List Loc) (ls : Array Slot) (d_o : BM) (s0 : Int32), va_P D vwCl [(q_o, .inr (6, [.int v_o_refusal, .ref q_o_text, .int v_o_size, .ref q_o_now, .ref q_o_trial, .ref q_o_diary, .int v_o_acts, .ref q_o_kept, .ref q_o_isKept, .ref q_o_years, .int d_o.1, .int d_o.2.1, .int d_o.2.2.1, .int d_o.2.2.2.1, .int d_o.2.2.2.2.1, .int v_o_spot, .int v_o_out])), (q_o_trial, gI Cs 221 v_o_trial), (q_o_years, gI Cs 10 d_o.2.2.2.2.2)] H → va_D A [(q_o, .inr (6, [.int v_o_refusal, .ref q_o_text, .int v_o_size, .ref q_o_now, .ref q_o_trial, .ref q_o_diary, .int v_o_acts, .ref q_o_kept, .ref q_o_isKept, .ref q_o_years, .int d_o.1, .int d_o.2.1, .int d_o.2.2.1, .int d_o.2.2.2.1, .int d_o.2.2.2.2.1, .int v_o_spot, .int v_o_out])), (q_o_trial, gI Cs 221 v_o_trial), (q_o_years, gI Cs 10 d_o.2.2.2.2.2)] → va_S A s.heap H locs → lv_has ls 6 [(0, .ref q_o), (1, .int x1), (2, .int x2), (3, .int x3), (4, .int x4)] → P_X6_command_b331 b_o v_o_trial x1 x2 x3 x4 post d_o s0 → W p l e ({ frames := 6, cells := 0, slots := 0, locals := 140 } : Room) s m args below meth c H locs 0 0 Q (F0 m 331 ls [.int s0]) := by
    intro H locs ls d_o s0 hP hD hS hl h
    unfold P_X6_command_b331 at h
    obtain ⟨hnb, h⟩ := h
    rw [← hQ]
    exact gRetI (u := (d_o, v_o_trial)) hx hb hr hnb h hP hD hS dX6_command_331 hlocks
  have B330 : ∀ (H : Heap) (locs : List Loc) (ls : Array Slot) (d_o : BM), va_P D vwCl [(q_o, .inr (6, [.int v_o_refusal, .ref q_o_text, .int v_o_size, .ref q_o_now, .ref q_o_trial, .ref q_o_diary, .int v_o_acts, .ref q_o_kept, .ref q_o_isKept, .ref q_o_years, .int d_o.1, .int d_o.2.1, .int d_o.2.2.1, .int d_o.2.2.2.1, .int d_o.2.2.2.2.1, .int v_o_spot, .int v_o_out])), (q_o_trial, gI Cs 221 v_o_trial), (q_o_years, gI Cs 10 d_o.2.2.2.2.2)] H → va_D A [(q_o, .inr (6, [.int v_o_refusal, .ref q_o_text, .int v_o_size, .ref q_o_now, .ref q_o_trial, .ref q_o_diary, .int v_o_acts, .ref q_o_kept, .ref q_o_isKept, .ref q_o_years, .int d_o.1, .int d_o.2.1, .int d_o.2.2.1, .int d_o.2.2.2.1, .int d_o.2.2.2.2.1, .int v_o_spot, .int v_o_out])), (q_o_trial, gI Cs 221 v_o_trial), (q_o_years, gI Cs 10 d_o.2.2.2.2.2)] → va_S A s.heap H locs → lv_has ls 6 [(0, .ref q_o), (1, .int x1), (2, .int x2), (3, .int x3), (4, .int x4)] → P_X6_command_b330 b_o v_o_trial x1 x2 x3 x4 post d_o → W p l e ({ frames := 6, cells := 0, slots := 0, locals := 140 } : Room) s m args below meth c H locs 0 0 Q (F0 m 330 ls []) := by
    intro H locs ls d_o hP hD hS hl h
    unfold P_X6_command_b330 at h
    refine lv_iconst (v := (0 : Int32)) hx hb dX6_command_330 (by decide) ?_
    exact B331 _ _ _ d_o (0 : Int32) hP hD hS (lv_sub hl [0, 1, 2, 3, 4] rfl) h
  have B288 : ∀ (H : Heap) (locs : List Loc) (ls : Array Slot) (x5 : Int32) (s2 : Int32), va_P D vwCl [(q_o, .inr (6, [.int v_o_refusal, .ref q_o_text, .int v_o_size, .ref q_o_now, .ref q_o_trial, .ref q_o_diary, .int v_o_acts, .ref q_o_kept, .ref q_o_isKept, .ref q_o_years, .int b_o.1, .int b_o.2.1, .int b_o.2.2.1, .int b_o.2.2.2.1, .int b_o.2.2.2.2.1, .int v_o_spot, .int v_o_out])), (q_o_trial, gI Cs 221 v_o_trial), (q_o_years, gI Cs 10 b_o.2.2.2.2.2)] H → va_D A [(q_o, .inr (6, [.int v_o_refusal, .ref q_o_text, .int v_o_size, .ref q_o_now, .ref q_o_trial, .ref q_o_diary, .int v_o_acts, .ref q_o_kept, .ref q_o_isKept, .ref q_o_years, .int b_o.1, .int b_o.2.1, .int b_o.2.2.1, .int b_o.2.2.2.1, .int b_o.2.2.2.2.1, .int v_o_spot, .int v_o_out])), (q_o_trial, gI Cs 221 v_o_trial), (q_o_years, gI Cs 10 b_o.2.2.2.2.2)] → va_S A s.heap H locs → lv_has ls 6 [(0, .ref q_o), (1, .int x1), (2, .int x2), (3, .int x3), (4, .int x4), (5, .int x5)] → P_X6_command_b288 b_o v_o_trial x1 x2 x3 x4 post x5 s2 → W p l e ({ frames := 6, cells := 0, slots := 0, locals := 140 } : Room) s m args below meth c H locs 0 0 Q (F0 m 288 ls [.int s2, .ref q_o_trial, .ref q_o]) := by
    intro H locs ls x5 s2 hP hD hS hl h
    unfold P_X6_command_b288 at h
    refine gVMv (wr := []) (As := [.ref q_o_trial, .int s2]) (rest := []) ⟨hx, hb, hml, hown, htb⟩ hK hP hD hS hA hN [0, 2, 1] [] rfl (by decide) rfl (by decide) (by decide) (c_X6_findLeast l D Cs q_o q_o_trial q_o_text q_o_now q_o_trial q_o_diary q_o_kept q_o_isKept q_o_years 221 H.size b_o v_o_trial v_o_refusal v_o_size v_o_acts v_o_spot v_o_out s2 h) (cwV 2 htb (TB_v tb_342 tb_343 tb_344 tb_5 (TB_self tb_345)) rfl rfl rfl z_X6_findLeast ⟨Nat.le_of_ble_eq_true rfl, Nat.le_of_ble_eq_true rfl⟩) 0 rfl rfl rfl rfl hl.1 rfl (Nat.le_of_ble_eq_true rfl) ⟨Nat.le_of_ble_eq_true rfl, Nat.le_of_ble_eq_true rfl⟩ dX6_command_288 (fun m_2 H locs h hP hD hS => ?_)
    have hP : va_P D vwCl [(q_o, .inr (6, [.int v_o_refusal, .ref q_o_text, .int v_o_size, .ref q_o_now, .ref q_o_trial, .ref q_o_diary, .int v_o_acts, .ref q_o_kept, .ref q_o_isKept, .ref q_o_years, .int m_2.1, .int m_2.2.1, .int m_2.2.2.1, .int m_2.2.2.2.1, .int m_2.2.2.2.2.1, .int v_o_spot, .int v_o_out])), (q_o_years, gI Cs 10 m_2.2.2.2.2.2), (q_o_trial, gI Cs 221 v_o_trial)] H := hP
    have hD : va_D A [(q_o, .inr (6, [.int v_o_refusal, .ref q_o_text, .int v_o_size, .ref q_o_now, .ref q_o_trial, .ref q_o_diary, .int v_o_acts, .ref q_o_kept, .ref q_o_isKept, .ref q_o_years, .int m_2.1, .int m_2.2.1, .int m_2.2.2.1, .int m_2.2.2.2.1, .int m_2.2.2.2.2.1, .int v_o_spot, .int v_o_out])), (q_o_years, gI Cs 10 m_2.2.2.2.2.2), (q_o_trial, gI Cs 221 v_o_trial)] := hD
    refine lv_iload_n hx hb dX6_command_291 rfl (lv_at hl 3 rfl) ?_
    refine lv_if_ne (tgt := 330) hx hb dX6_command_292 (by decide) (fun c_3 => ?_) (fun c_3 => ?_)
    · have h := h.2 c_3
      exact B330 _ _ _ m_2 (hP.sub [0, 2, 1] rfl) (hD.sub [0, 2, 1] (by decide) rfl) hS (lv_sub hl [0, 1, 2, 3, 4] rfl) h
    · have h := h.1 c_3
      refine lv_iload hx hb dX6_command_295 (lv_at hl 4 rfl) ?_
      refine lv_bipush (v := (100 : Int32)) hx hb dX6_command_297 (by decide) ?_
      refine lv_icmp_ge (tgt := 330) hx hb dX6_command_299 (by decide) (fun c_4 => ?_) (fun c_4 => ?_)
      · have h := h.1 c_4
        exact B330 _ _ _ m_2 (hP.sub [0, 2, 1] rfl) (hD.sub [0, 2, 1] (by decide) rfl) hS (lv_sub hl [0, 1, 2, 3, 4] rfl) h
      · have h := h.2 c_4
        refine lv_iload_n hx hb dX6_command_302 rfl (lv_at hl 2 rfl) ?_
        refine gSR (As := [.int x2]) (rest := []) ⟨hx, hb, hml, hown, htb⟩ hK hP hN [] rfl (c_X6_isTrait l D Cs x2 h) (va_cwS 1 htb (TB_s tb_436 tb_437 tb_5 (TB_self tb_438)) rfl rfl rfl z_X6_isTrait.2 ⟨Nat.le_of_ble_eq_true rfl, Nat.le_of_ble_eq_true rfl⟩) rfl hl.1 rfl (Nat.le_of_ble_eq_true rfl) ⟨Nat.le_of_ble_eq_true rfl, Nat.le_of_ble_eq_true rfl⟩ dX6_command_303 (fun r_5 h => ?_)
        refine lv_if_eq (tgt := 330) hx hb dX6_command_306 (by decide) (fun c_6 => ?_) (fun c_6 => ?_)
        · have h := h.1 c_6
          exact B330 _ _ _ m_2 (hP.sub [0, 2, 1] rfl) (hD.sub [0, 2, 1] (by decide) rfl) hS (lv_sub hl [0, 1, 2, 3, 4] rfl) h
        · have h := h.2 c_6
          refine lv_aload_n hx hb dX6_command_309 rfl (lv_at hl 0 rfl) ?_
          refine va_get (D := D) (ci := 6) (v := .int m_2.1) (C := RX6) (T := TX6) (N := 17) hx hb htb inT_X6 hown hK hP 0 rfl rfl 10 (by decide) (htb _ tb_341) (fun _ h9 => h9) rfl dX6_command_310 ?_
          refine lv_iconst (v := (-1 : Int32)) hx hb dX6_command_313 (by decide) ?_
          refine lv_icmp_eq (tgt := 330) hx hb dX6_command_314 (by decide) (fun c_7 => ?_) (fun c_7 => ?_)
          · have h := h.1 c_7
            exact B330 _ _ _ m_2 (hP.sub [0, 2, 1] rfl) (hD.sub [0, 2, 1] (by decide) rfl) hS (lv_sub hl [0, 1, 2, 3, 4] rfl) h
          · have h := h.2 c_7
            refine lv_aload_n hx hb dX6_command_317 rfl (lv_at hl 0 rfl) ?_
            refine va_get (D := D) (ci := 6) (v := .int m_2.1) (C := RX6) (T := TX6) (N := 17) hx hb htb inT_X6 hown hK hP 0 rfl rfl 10 (by decide) (htb _ tb_341) (fun _ h9 => h9) rfl dX6_command_318 ?_
            refine lv_iload hx hb dX6_command_321 (lv_at hl 5 rfl) ?_
            refine lv_icmp_gt (tgt := 330) hx hb dX6_command_323 (by decide) (fun c_8 => ?_) (fun c_8 => ?_)
            · have h := h.1 c_8
              exact B330 _ _ _ m_2 (hP.sub [0, 2, 1] rfl) (hD.sub [0, 2, 1] (by decide) rfl) hS (lv_sub hl [0, 1, 2, 3, 4] rfl) h
            · have h := h.2 c_8
              refine lv_iconst (v := (1 : Int32)) hx hb dX6_command_326 (by decide) ?_
              refine lv_goto (tgt := 331) hx hb dX6_command_327 (by decide) ?_
              exact B331 _ _ _ m_2 (1 : Int32) (hP.sub [0, 2, 1] rfl) (hD.sub [0, 2, 1] (by decide) rfl) hS (lv_sub hl [0, 1, 2, 3, 4] rfl) h
  have B270 : ∀ (H : Heap) (locs : List Loc) (ls : Array Slot) (w_o_trial : (Nat → Int32)) (s0 : Int32), va_P D vwCl [(q_o, .inr (6, [.int v_o_refusal, .ref q_o_text, .int v_o_size, .ref q_o_now, .ref q_o_trial, .ref q_o_diary, .int v_o_acts, .ref q_o_kept, .ref q_o_isKept, .ref q_o_years, .int b_o.1, .int b_o.2.1, .int b_o.2.2.1, .int b_o.2.2.2.1, .int b_o.2.2.2.2.1, .int v_o_spot, .int v_o_out])), (q_o_trial, gI Cs 221 w_o_trial), (q_o_years, gI Cs 10 b_o.2.2.2.2.2)] H → va_D A [(q_o, .inr (6, [.int v_o_refusal, .ref q_o_text, .int v_o_size, .ref q_o_now, .ref q_o_trial, .ref q_o_diary, .int v_o_acts, .ref q_o_kept, .ref q_o_isKept, .ref q_o_years, .int b_o.1, .int b_o.2.1, .int b_o.2.2.1, .int b_o.2.2.2.1, .int b_o.2.2.2.2.1, .int v_o_spot, .int v_o_out])), (q_o_trial, gI Cs 221 w_o_trial), (q_o_years, gI Cs 10 b_o.2.2.2.2.2)] → va_S A s.heap H locs → lv_has ls 6 [(0, .ref q_o), (1, .int x1), (2, .int x2), (3, .int x3), (4, .int x4)] → P_X6_command_b270 b_o v_o_trial x1 x2 x3 x4 post w_o_trial s0 → W p l e ({ frames := 6, cells := 0, slots := 0, locals := 140 } : Room) s m args below meth c H locs 0 0 Q (F0 m 270 ls [.int s0]) := by
    intro H locs ls w_o_trial s0 hP hD hS hl h
    unfold P_X6_command_b270 at h
    obtain ⟨hnb, h⟩ := h
    rw [← hQ]
    exact gRetI (u := (b_o, w_o_trial)) hx hb hr hnb h hP hD hS dX6_command_270 hlocks
  have B269 : ∀ (H : Heap) (locs : List Loc) (ls : Array Slot) (w_o_trial : (Nat → Int32)), va_P D vwCl [(q_o, .inr (6, [.int v_o_refusal, .ref q_o_text, .int v_o_size, .ref q_o_now, .ref q_o_trial, .ref q_o_diary, .int v_o_acts, .ref q_o_kept, .ref q_o_isKept, .ref q_o_years, .int b_o.1, .int b_o.2.1, .int b_o.2.2.1, .int b_o.2.2.2.1, .int b_o.2.2.2.2.1, .int v_o_spot, .int v_o_out])), (q_o_trial, gI Cs 221 w_o_trial), (q_o_years, gI Cs 10 b_o.2.2.2.2.2)] H → va_D A [(q_o, .inr (6, [.int v_o_refusal, .ref q_o_text, .int v_o_size, .ref q_o_now, .ref q_o_trial, .ref q_o_diary, .int v_o_acts, .ref q_o_kept, .ref q_o_isKept, .ref q_o_years, .int b_o.1, .int b_o.2.1, .int b_o.2.2.1, .int b_o.2.2.2.1, .int b_o.2.2.2.2.1, .int v_o_spot, .int v_o_out])), (q_o_trial, gI Cs 221 w_o_trial), (q_o_years, gI Cs 10 b_o.2.2.2.2.2)] → va_S A s.heap H locs → lv_has ls 6 [(0, .ref q_o), (1, .int x1), (2, .int x2), (3, .int x3), (4, .int x4)] → P_X6_command_b269 b_o v_o_trial x1 x2 x3 x4 post w_o_trial → W p l e ({ frames := 6, cells := 0, slots := 0, locals := 140 } : Room) s m args below meth c H locs 0 0 Q (F0 m 269 ls []) := by
    intro H locs ls w_o_trial hP hD hS hl h
    unfold P_X6_command_b269 at h
    refine lv_iconst (v := (0 : Int32)) hx hb dX6_command_269 (by decide) ?_
    exact B270 _ _ _ w_o_trial (0 : Int32) hP hD hS (lv_sub hl [0, 1, 2, 3, 4] rfl) h
  have B229 : ∀ (H : Heap) (locs : List Loc) (ls : Array Slot) (w_o_trial : (Nat → Int32)) (s0 : Int32), va_P D vwCl [(q_o, .inr (6, [.int v_o_refusal, .ref q_o_text, .int v_o_size, .ref q_o_now, .ref q_o_trial, .ref q_o_diary, .int v_o_acts, .ref q_o_kept, .ref q_o_isKept, .ref q_o_years, .int b_o.1, .int b_o.2.1, .int b_o.2.2.1, .int b_o.2.2.2.1, .int b_o.2.2.2.2.1, .int v_o_spot, .int v_o_out])), (q_o_trial, gI Cs 221 w_o_trial), (q_o_years, gI Cs 10 b_o.2.2.2.2.2)] H → va_D A [(q_o, .inr (6, [.int v_o_refusal, .ref q_o_text, .int v_o_size, .ref q_o_now, .ref q_o_trial, .ref q_o_diary, .int v_o_acts, .ref q_o_kept, .ref q_o_isKept, .ref q_o_years, .int b_o.1, .int b_o.2.1, .int b_o.2.2.1, .int b_o.2.2.2.1, .int b_o.2.2.2.2.1, .int v_o_spot, .int v_o_out])), (q_o_trial, gI Cs 221 w_o_trial), (q_o_years, gI Cs 10 b_o.2.2.2.2.2)] → va_S A s.heap H locs → lv_has ls 6 [(0, .ref q_o), (1, .int x1), (2, .int x2), (3, .int x3), (4, .int x4)] → P_X6_command_b229 b_o v_o_trial x1 x2 x3 x4 post w_o_trial s0 → W p l e ({ frames := 6, cells := 0, slots := 0, locals := 140 } : Room) s m args below meth c H locs 0 0 Q (F0 m 229 ls [.int s0]) := by
    intro H locs ls w_o_trial s0 hP hD hS hl h
    unfold P_X6_command_b229 at h
    obtain ⟨hnb, h⟩ := h
    rw [← hQ]
    exact gRetI (u := (b_o, w_o_trial)) hx hb hr hnb h hP hD hS dX6_command_229 hlocks
  have B228 : ∀ (H : Heap) (locs : List Loc) (ls : Array Slot) (w_o_trial : (Nat → Int32)), va_P D vwCl [(q_o, .inr (6, [.int v_o_refusal, .ref q_o_text, .int v_o_size, .ref q_o_now, .ref q_o_trial, .ref q_o_diary, .int v_o_acts, .ref q_o_kept, .ref q_o_isKept, .ref q_o_years, .int b_o.1, .int b_o.2.1, .int b_o.2.2.1, .int b_o.2.2.2.1, .int b_o.2.2.2.2.1, .int v_o_spot, .int v_o_out])), (q_o_trial, gI Cs 221 w_o_trial), (q_o_years, gI Cs 10 b_o.2.2.2.2.2)] H → va_D A [(q_o, .inr (6, [.int v_o_refusal, .ref q_o_text, .int v_o_size, .ref q_o_now, .ref q_o_trial, .ref q_o_diary, .int v_o_acts, .ref q_o_kept, .ref q_o_isKept, .ref q_o_years, .int b_o.1, .int b_o.2.1, .int b_o.2.2.1, .int b_o.2.2.2.1, .int b_o.2.2.2.2.1, .int v_o_spot, .int v_o_out])), (q_o_trial, gI Cs 221 w_o_trial), (q_o_years, gI Cs 10 b_o.2.2.2.2.2)] → va_S A s.heap H locs → lv_has ls 6 [(0, .ref q_o), (1, .int x1), (2, .int x2), (3, .int x3), (4, .int x4)] → P_X6_command_b228 b_o v_o_trial x1 x2 x3 x4 post w_o_trial → W p l e ({ frames := 6, cells := 0, slots := 0, locals := 140 } : Room) s m args below meth c H locs 0 0 Q (F0 m 228 ls []) := by
    intro H locs ls w_o_trial hP hD hS hl h
    unfold P_X6_command_b228 at h
    refine lv_iconst (v := (0 : Int32)) hx hb dX6_command_228 (by decide) ?_
    exact B229 _ _ _ w_o_trial (0 : Int32) hP hD hS (lv_sub hl [0, 1, 2, 3, 4] rfl) h
  have B218 : ∀ (H : Heap) (locs : List Loc) (ls : Array Slot) (s1 : Int32) (s2 : Int32) (s3 : Int32) (s4 : Int32), va_P D vwCl [(q_o, .inr (6, [.int v_o_refusal, .ref q_o_text, .int v_o_size, .ref q_o_now, .ref q_o_trial, .ref q_o_diary, .int v_o_acts, .ref q_o_kept, .ref q_o_isKept, .ref q_o_years, .int b_o.1, .int b_o.2.1, .int b_o.2.2.1, .int b_o.2.2.2.1, .int b_o.2.2.2.2.1, .int v_o_spot, .int v_o_out])), (q_o_trial, gI Cs 221 v_o_trial), (q_o_years, gI Cs 10 b_o.2.2.2.2.2)] H → va_D A [(q_o, .inr (6, [.int v_o_refusal, .ref q_o_text, .int v_o_size, .ref q_o_now, .ref q_o_trial, .ref q_o_diary, .int v_o_acts, .ref q_o_kept, .ref q_o_isKept, .ref q_o_years, .int b_o.1, .int b_o.2.1, .int b_o.2.2.1, .int b_o.2.2.2.1, .int b_o.2.2.2.2.1, .int v_o_spot, .int v_o_out])), (q_o_trial, gI Cs 221 v_o_trial), (q_o_years, gI Cs 10 b_o.2.2.2.2.2)] → va_S A s.heap H locs → lv_has ls 6 [(0, .ref q_o), (1, .int x1), (2, .int x2), (3, .int x3), (4, .int x4)] → P_X6_command_b218 b_o v_o_trial x1 x2 x3 x4 post s1 s2 s3 s4 → W p l e ({ frames := 6, cells := 0, slots := 0, locals := 140 } : Room) s m args below meth c H locs 0 0 Q (F0 m 218 ls [.int s4, .int s3, .int s2, .int s1, .ref q_o_trial]) := by
    intro H locs ls s1 s2 s3 s4 hP hD hS hl h
    unfold P_X6_command_b218 at h
    refine gSM (wr := [(q_o, .inr (6, [.int v_o_refusal, .ref q_o_text, .int v_o_size, .ref q_o_now, .ref q_o_trial, .ref q_o_diary, .int v_o_acts, .ref q_o_kept, .ref q_o_isKept, .ref q_o_years, .int b_o.1, .int b_o.2.1, .int b_o.2.2.1, .int b_o.2.2.2.1, .int b_o.2.2.2.2.1, .int v_o_spot, .int v_o_out])), (q_o_years, gI Cs 10 b_o.2.2.2.2.2)]) (As := [.ref q_o_trial, .int s1, .int s2, .int s3, .int s4]) (rest := []) ⟨hx, hb, hml, hown, htb⟩ hK hP hD hS hA hN [1] [0, 2] rfl (by decide) rfl (by decide) (by decide) (c_X6_seeOn l D Cs q_o_trial 221 H.size v_o_trial s1 s2 s3 s4 h) (va_cwS 5 htb (TB_s tb_200 tb_201 tb_5 (TB_self tb_202)) rfl rfl rfl z_X6_seeOn.2 ⟨Nat.le_of_ble_eq_true rfl, Nat.le_of_ble_eq_true rfl⟩) rfl hl.1 rfl (Nat.le_of_ble_eq_true rfl) ⟨Nat.le_of_ble_eq_true rfl, Nat.le_of_ble_eq_true rfl⟩ dX6_command_218 (fun r_9 m_10 H locs h hP hD hS => ?_)
    have hP : va_P D vwCl [(q_o, .inr (6, [.int v_o_refusal, .ref q_o_text, .int v_o_size, .ref q_o_now, .ref q_o_trial, .ref q_o_diary, .int v_o_acts, .ref q_o_kept, .ref q_o_isKept, .ref q_o_years, .int b_o.1, .int b_o.2.1, .int b_o.2.2.1, .int b_o.2.2.2.1, .int b_o.2.2.2.2.1, .int v_o_spot, .int v_o_out])), (q_o_years, gI Cs 10 b_o.2.2.2.2.2), (q_o_trial, gI Cs 221 m_10)] H := hP
    have hD : va_D A [(q_o, .inr (6, [.int v_o_refusal, .ref q_o_text, .int v_o_size, .ref q_o_now, .ref q_o_trial, .ref q_o_diary, .int v_o_acts, .ref q_o_kept, .ref q_o_isKept, .ref q_o_years, .int b_o.1, .int b_o.2.1, .int b_o.2.2.1, .int b_o.2.2.2.1, .int b_o.2.2.2.2.1, .int v_o_spot, .int v_o_out])), (q_o_years, gI Cs 10 b_o.2.2.2.2.2), (q_o_trial, gI Cs 221 m_10)] := hD
    refine lv_if_lt (tgt := 228) hx hb dX6_command_221 (by decide) (fun c_11 => ?_) (fun c_11 => ?_)
    · have h := h.1 c_11
      exact B228 _ _ _ m_10 (hP.sub [0, 2, 1] rfl) (hD.sub [0, 2, 1] (by decide) rfl) hS (lv_sub hl [0, 1, 2, 3, 4] rfl) h
    · have h := h.2 c_11
      refine lv_iconst (v := (1 : Int32)) hx hb dX6_command_224 (by decide) ?_
      refine lv_goto (tgt := 229) hx hb dX6_command_225 (by decide) ?_
      exact B229 _ _ _ m_10 (1 : Int32) (hP.sub [0, 2, 1] rfl) (hD.sub [0, 2, 1] (by decide) rfl) hS (lv_sub hl [0, 1, 2, 3, 4] rfl) h
  have B181 : ∀ (H : Heap) (locs : List Loc) (ls : Array Slot) (w_o_trial : (Nat → Int32)) (s0 : Int32), va_P D vwCl [(q_o, .inr (6, [.int v_o_refusal, .ref q_o_text, .int v_o_size, .ref q_o_now, .ref q_o_trial, .ref q_o_diary, .int v_o_acts, .ref q_o_kept, .ref q_o_isKept, .ref q_o_years, .int b_o.1, .int b_o.2.1, .int b_o.2.2.1, .int b_o.2.2.2.1, .int b_o.2.2.2.2.1, .int v_o_spot, .int v_o_out])), (q_o_trial, gI Cs 221 w_o_trial), (q_o_years, gI Cs 10 b_o.2.2.2.2.2)] H → va_D A [(q_o, .inr (6, [.int v_o_refusal, .ref q_o_text, .int v_o_size, .ref q_o_now, .ref q_o_trial, .ref q_o_diary, .int v_o_acts, .ref q_o_kept, .ref q_o_isKept, .ref q_o_years, .int b_o.1, .int b_o.2.1, .int b_o.2.2.1, .int b_o.2.2.2.1, .int b_o.2.2.2.2.1, .int v_o_spot, .int v_o_out])), (q_o_trial, gI Cs 221 w_o_trial), (q_o_years, gI Cs 10 b_o.2.2.2.2.2)] → va_S A s.heap H locs → lv_has ls 6 [(0, .ref q_o), (1, .int x1), (2, .int x2), (3, .int x3), (4, .int x4)] → P_X6_command_b181 b_o v_o_trial x1 x2 x3 x4 post w_o_trial s0 → W p l e ({ frames := 6, cells := 0, slots := 0, locals := 140 } : Room) s m args below meth c H locs 0 0 Q (F0 m 181 ls [.int s0]) := by
    intro H locs ls w_o_trial s0 hP hD hS hl h
    unfold P_X6_command_b181 at h
    obtain ⟨hnb, h⟩ := h
    rw [← hQ]
    exact gRetI (u := (b_o, w_o_trial)) hx hb hr hnb h hP hD hS dX6_command_181 hlocks
  have B180 : ∀ (H : Heap) (locs : List Loc) (ls : Array Slot) (w_o_trial : (Nat → Int32)), va_P D vwCl [(q_o, .inr (6, [.int v_o_refusal, .ref q_o_text, .int v_o_size, .ref q_o_now, .ref q_o_trial, .ref q_o_diary, .int v_o_acts, .ref q_o_kept, .ref q_o_isKept, .ref q_o_years, .int b_o.1, .int b_o.2.1, .int b_o.2.2.1, .int b_o.2.2.2.1, .int b_o.2.2.2.2.1, .int v_o_spot, .int v_o_out])), (q_o_trial, gI Cs 221 w_o_trial), (q_o_years, gI Cs 10 b_o.2.2.2.2.2)] H → va_D A [(q_o, .inr (6, [.int v_o_refusal, .ref q_o_text, .int v_o_size, .ref q_o_now, .ref q_o_trial, .ref q_o_diary, .int v_o_acts, .ref q_o_kept, .ref q_o_isKept, .ref q_o_years, .int b_o.1, .int b_o.2.1, .int b_o.2.2.1, .int b_o.2.2.2.1, .int b_o.2.2.2.2.1, .int v_o_spot, .int v_o_out])), (q_o_trial, gI Cs 221 w_o_trial), (q_o_years, gI Cs 10 b_o.2.2.2.2.2)] → va_S A s.heap H locs → lv_has ls 6 [(0, .ref q_o), (1, .int x1), (2, .int x2), (3, .int x3), (4, .int x4)] → P_X6_command_b180 b_o v_o_trial x1 x2 x3 x4 post w_o_trial → W p l e ({ frames := 6, cells := 0, slots := 0, locals := 140 } : Room) s m args below meth c H locs 0 0 Q (F0 m 180 ls []) := by
    intro H locs ls w_o_trial hP hD hS hl h
    unfold P_X6_command_b180 at h
    refine lv_iconst (v := (0 : Int32)) hx hb dX6_command_180 (by decide) ?_
    exact B181 _ _ _ w_o_trial (0 : Int32) hP hD hS (lv_sub hl [0, 1, 2, 3, 4] rfl) h
  have B134 : ∀ (H : Heap) (locs : List Loc) (ls : Array Slot) (w_o_trial : (Nat → Int32)) (s0 : Int32), va_P D vwCl [(q_o, .inr (6, [.int v_o_refusal, .ref q_o_text, .int v_o_size, .ref q_o_now, .ref q_o_trial, .ref q_o_diary, .int v_o_acts, .ref q_o_kept, .ref q_o_isKept, .ref q_o_years, .int b_o.1, .int b_o.2.1, .int b_o.2.2.1, .int b_o.2.2.2.1, .int b_o.2.2.2.2.1, .int v_o_spot, .int v_o_out])), (q_o_trial, gI Cs 221 w_o_trial), (q_o_years, gI Cs 10 b_o.2.2.2.2.2)] H → va_D A [(q_o, .inr (6, [.int v_o_refusal, .ref q_o_text, .int v_o_size, .ref q_o_now, .ref q_o_trial, .ref q_o_diary, .int v_o_acts, .ref q_o_kept, .ref q_o_isKept, .ref q_o_years, .int b_o.1, .int b_o.2.1, .int b_o.2.2.1, .int b_o.2.2.2.1, .int b_o.2.2.2.2.1, .int v_o_spot, .int v_o_out])), (q_o_trial, gI Cs 221 w_o_trial), (q_o_years, gI Cs 10 b_o.2.2.2.2.2)] → va_S A s.heap H locs → lv_has ls 6 [(0, .ref q_o), (1, .int x1), (2, .int x2), (3, .int x3), (4, .int x4)] → P_X6_command_b134 b_o v_o_trial x1 x2 x3 x4 post w_o_trial s0 → W p l e ({ frames := 6, cells := 0, slots := 0, locals := 140 } : Room) s m args below meth c H locs 0 0 Q (F0 m 134 ls [.int s0]) := by
    intro H locs ls w_o_trial s0 hP hD hS hl h
    unfold P_X6_command_b134 at h
    obtain ⟨hnb, h⟩ := h
    rw [← hQ]
    exact gRetI (u := (b_o, w_o_trial)) hx hb hr hnb h hP hD hS dX6_command_134 hlocks
  have B133 : ∀ (H : Heap) (locs : List Loc) (ls : Array Slot) (w_o_trial : (Nat → Int32)), va_P D vwCl [(q_o, .inr (6, [.int v_o_refusal, .ref q_o_text, .int v_o_size, .ref q_o_now, .ref q_o_trial, .ref q_o_diary, .int v_o_acts, .ref q_o_kept, .ref q_o_isKept, .ref q_o_years, .int b_o.1, .int b_o.2.1, .int b_o.2.2.1, .int b_o.2.2.2.1, .int b_o.2.2.2.2.1, .int v_o_spot, .int v_o_out])), (q_o_trial, gI Cs 221 w_o_trial), (q_o_years, gI Cs 10 b_o.2.2.2.2.2)] H → va_D A [(q_o, .inr (6, [.int v_o_refusal, .ref q_o_text, .int v_o_size, .ref q_o_now, .ref q_o_trial, .ref q_o_diary, .int v_o_acts, .ref q_o_kept, .ref q_o_isKept, .ref q_o_years, .int b_o.1, .int b_o.2.1, .int b_o.2.2.1, .int b_o.2.2.2.1, .int b_o.2.2.2.2.1, .int v_o_spot, .int v_o_out])), (q_o_trial, gI Cs 221 w_o_trial), (q_o_years, gI Cs 10 b_o.2.2.2.2.2)] → va_S A s.heap H locs → lv_has ls 6 [(0, .ref q_o), (1, .int x1), (2, .int x2), (3, .int x3), (4, .int x4)] → P_X6_command_b133 b_o v_o_trial x1 x2 x3 x4 post w_o_trial → W p l e ({ frames := 6, cells := 0, slots := 0, locals := 140 } : Room) s m args below meth c H locs 0 0 Q (F0 m 133 ls []) := by
    intro H locs ls w_o_trial hP hD hS hl h
    unfold P_X6_command_b133 at h
    refine lv_iconst (v := (0 : Int32)) hx hb dX6_command_133 (by decide) ?_
    exact B134 _ _ _ w_o_trial (0 : Int32) hP hD hS (lv_sub hl [0, 1, 2, 3, 4] rfl) h
  have B80 : ∀ (H : Heap) (locs : List Loc) (ls : Array Slot), va_P D vwCl [(q_o, .inr (6, [.int v_o_refusal, .ref q_o_text, .int v_o_size, .ref q_o_now, .ref q_o_trial, .ref q_o_diary, .int v_o_acts, .ref q_o_kept, .ref q_o_isKept, .ref q_o_years, .int b_o.1, .int b_o.2.1, .int b_o.2.2.1, .int b_o.2.2.2.1, .int b_o.2.2.2.2.1, .int v_o_spot, .int v_o_out])), (q_o_trial, gI Cs 221 v_o_trial), (q_o_years, gI Cs 10 b_o.2.2.2.2.2)] H → va_D A [(q_o, .inr (6, [.int v_o_refusal, .ref q_o_text, .int v_o_size, .ref q_o_now, .ref q_o_trial, .ref q_o_diary, .int v_o_acts, .ref q_o_kept, .ref q_o_isKept, .ref q_o_years, .int b_o.1, .int b_o.2.1, .int b_o.2.2.1, .int b_o.2.2.2.1, .int b_o.2.2.2.2.1, .int v_o_spot, .int v_o_out])), (q_o_trial, gI Cs 221 v_o_trial), (q_o_years, gI Cs 10 b_o.2.2.2.2.2)] → va_S A s.heap H locs → lv_has ls 6 [(0, .ref q_o), (1, .int x1), (2, .int x2), (3, .int x3), (4, .int x4)] → P_X6_command_b80 b_o v_o_trial x1 x2 x3 x4 post → W p l e ({ frames := 6, cells := 0, slots := 0, locals := 140 } : Room) s m args below meth c H locs 0 0 Q (F0 m 80 ls []) := by
    intro H locs ls hP hD hS hl h
    unfold P_X6_command_b80 at h
    refine lv_iconst (v := (0 : Int32)) hx hb dX6_command_80 (by decide) ?_
    rw [← hQ]
    exact gRetI (u := (b_o, v_o_trial)) hx hb hr rfl h hP hD hS dX6_command_81 hlocks
  unfold P_X6_command at h
  refine lv_iload hx hb dX6_command_0 (lv_at hl 4 rfl) ?_
  refine lv_bipush (v := (100 : Int32)) hx hb dX6_command_2 (by decide) ?_
  refine lv_irem hx hb dX6_command_4 (by decide) ?_
  refine lv_topi (fun x5_12 ex5_12 => ?_)
  have h := h _ ex5_12
  refine lv_istore (lv' := [(5, .int x5_12), (0, .ref q_o), (1, .int x1), (2, .int x2), (3, .int x3), (4, .int x4)]) hx hb dX6_command_5 hl (by decide) rfl (fun ls hl => ?_)
  refine lv_iload_n hx hb dX6_command_7 rfl (lv_at hl 2 rfl) ?_
  by_cases k_13 : x1 = (1 : Int32)
  · have h := h.1 k_13
    refine lv_tableIn (tgt := 60) (off := 52) hx hb dX6_command_8 (by rw [k_13]; decide) (by rw [k_13]; decide) (by rw [k_13]; decide) (by decide) ?_
    refine lv_iload_n hx hb dX6_command_60 rfl (lv_at hl 3 rfl) ?_
    refine lv_iload_n hx hb dX6_command_61 rfl (lv_at hl 4 rfl) ?_
    refine lv_iadd hx hb dX6_command_62 ?_
    refine lv_iload hx hb dX6_command_63 (lv_at hl 5 rfl) ?_
    refine lv_iadd hx hb dX6_command_65 ?_
    refine lv_if_gt (tgt := 80) hx hb dX6_command_66 (by decide) (fun c_14 => ?_) (fun c_14 => ?_)
    · have h := h.1 c_14
      exact B80 _ _ _ hP hD hS (lv_sub hl [1, 2, 3, 4, 5] rfl) h
    · have h := h.2 c_14
      refine lv_aload_n hx hb dX6_command_69 rfl (lv_at hl 1 rfl) ?_
      refine va_get (D := D) (ci := 6) (v := .ref q_o_trial) (C := RX6) (T := TX6) (N := 17) hx hb htb inT_X6 hown hK hP 0 rfl rfl 4 (by decide) (htb _ tb_91) (fun _ h9 => h9) rfl dX6_command_70 ?_
      refine lv_iconst (v := (0 : Int32)) hx hb dX6_command_73 (by decide) ?_
      refine va_iald hx hb hK hP 1 0 rfl rfl (by unfold vp_in; decide) dX6_command_74 ?_
      refine lv_bipush (v := (10 : Int32)) hx hb dX6_command_75 (by decide) ?_
      refine lv_icmp_ne (tgt := 82) hx hb dX6_command_77 (by decide) (fun c_15 => ?_) (fun c_15 => ?_)
      · have h := h.2 c_15
        refine lv_aload_n hx hb dX6_command_82 rfl (lv_at hl 1 rfl) ?_
        refine va_get (D := D) (ci := 6) (v := .ref q_o_trial) (C := RX6) (T := TX6) (N := 17) hx hb htb inT_X6 hown hK hP 0 rfl rfl 4 (by decide) (htb _ tb_91) (fun _ h9 => h9) rfl dX6_command_83 ?_
        refine lv_iconst (v := (0 : Int32)) hx hb dX6_command_86 (by decide) ?_
        refine lv_dup2_11 hx hb dX6_command_87 rfl rfl ?_
        refine va_iald hx hb hK hP 1 0 rfl rfl (by unfold vp_in; decide) dX6_command_88 ?_
        refine lv_iconst (v := (1 : Int32)) hx hb dX6_command_89 (by decide) ?_
        refine lv_iadd hx hb dX6_command_90 ?_
        refine va_iast hx hb hK hP hD hS 1 0 rfl rfl (by unfold vp_in; decide) dX6_command_91 (fun H locs hP hD hS => ?_)
        have hP : va_P D vwCl [(q_o, .inr (6, [.int v_o_refusal, .ref q_o_text, .int v_o_size, .ref q_o_now, .ref q_o_trial, .ref q_o_diary, .int v_o_acts, .ref q_o_kept, .ref q_o_isKept, .ref q_o_years, .int b_o.1, .int b_o.2.1, .int b_o.2.2.1, .int b_o.2.2.2.1, .int b_o.2.2.2.2.1, .int v_o_spot, .int v_o_out])), (q_o_trial, gI Cs 221 (upd v_o_trial (0 : Int32).toNatClampNeg ((v_o_trial (0 : Int32).toNatClampNeg) + (1 : Int32)))), (q_o_years, gI Cs 10 b_o.2.2.2.2.2)] H := hP
        have hD : va_D A [(q_o, .inr (6, [.int v_o_refusal, .ref q_o_text, .int v_o_size, .ref q_o_now, .ref q_o_trial, .ref q_o_diary, .int v_o_acts, .ref q_o_kept, .ref q_o_isKept, .ref q_o_years, .int b_o.1, .int b_o.2.1, .int b_o.2.2.1, .int b_o.2.2.2.1, .int b_o.2.2.2.2.1, .int v_o_spot, .int v_o_out])), (q_o_trial, gI Cs 221 (upd v_o_trial (0 : Int32).toNatClampNeg ((v_o_trial (0 : Int32).toNatClampNeg) + (1 : Int32)))), (q_o_years, gI Cs 10 b_o.2.2.2.2.2)] := hD
        refine lv_iconst (v := (1 : Int32)) hx hb dX6_command_92 (by decide) ?_
        rw [← hQ]
        exact gRetI (u := (b_o, (upd v_o_trial (0 : Int32).toNatClampNeg ((v_o_trial (0 : Int32).toNatClampNeg) + (1 : Int32))))) hx hb hr rfl h hP hD hS dX6_command_93 hlocks
      · have h := h.1 c_15
        exact B80 _ _ _ hP hD hS (lv_sub hl [1, 2, 3, 4, 5] rfl) h
  by_cases k_16 : x1 = (2 : Int32)
  · have h := h.2.1 k_16
    refine lv_tableIn (tgt := 94) (off := 86) hx hb dX6_command_8 (by rw [k_16]; decide) (by rw [k_16]; decide) (by rw [k_16]; decide) (by decide) ?_
    refine lv_iload hx hb dX6_command_94 (lv_at hl 5 rfl) ?_
    refine lv_bipush (v := (100 : Int32)) hx hb dX6_command_96 (by decide) ?_
    refine lv_icmp_ge (tgt := 133) hx hb dX6_command_98 (by decide) (fun c_17 => ?_) (fun c_17 => ?_)
    · have h := h.1 c_17
      exact B133 _ _ _ v_o_trial hP hD hS (lv_sub hl [1, 2, 3, 4, 5] rfl) h
    · have h := h.2 c_17
      refine lv_aload_n hx hb dX6_command_101 rfl (lv_at hl 1 rfl) ?_
      refine va_get (D := D) (ci := 6) (v := .ref q_o_trial) (C := RX6) (T := TX6) (N := 17) hx hb htb inT_X6 hown hK hP 0 rfl rfl 4 (by decide) (htb _ tb_91) (fun _ h9 => h9) rfl dX6_command_102 ?_
      refine lv_iload_n hx hb dX6_command_105 rfl (lv_at hl 3 rfl) ?_
      refine lv_iload_n hx hb dX6_command_106 rfl (lv_at hl 4 rfl) ?_
      refine lv_iload hx hb dX6_command_107 (lv_at hl 0 rfl) ?_
      refine gSR (As := [.ref q_o_trial, .int x2, .int x3, .int x5_12]) (rest := []) ⟨hx, hb, hml, hown, htb⟩ hK hP hN [1] rfl (c_X6_whyNotLay l D Cs q_o_trial 221 v_o_trial x2 x3 x5_12 h) (va_cwS 4 htb (TB_s tb_506 tb_507 tb_5 (TB_self tb_508)) rfl rfl rfl z_X6_whyNotLay.2 ⟨Nat.le_of_ble_eq_true rfl, Nat.le_of_ble_eq_true rfl⟩) rfl hl.1 rfl (Nat.le_of_ble_eq_true rfl) ⟨Nat.le_of_ble_eq_true rfl, Nat.le_of_ble_eq_true rfl⟩ dX6_command_109 (fun r_18 h => ?_)
      refine lv_if_ne (tgt := 133) hx hb dX6_command_112 (by decide) (fun c_19 => ?_) (fun c_19 => ?_)
      · have h := h.2 c_19
        exact B133 _ _ _ v_o_trial hP hD hS (lv_sub hl [1, 2, 3, 4, 5] rfl) h
      · have h := h.1 c_19
        refine lv_aload_n hx hb dX6_command_115 rfl (lv_at hl 1 rfl) ?_
        refine va_get (D := D) (ci := 6) (v := .ref q_o_trial) (C := RX6) (T := TX6) (N := 17) hx hb htb inT_X6 hown hK hP 0 rfl rfl 4 (by decide) (htb _ tb_91) (fun _ h9 => h9) rfl dX6_command_116 ?_
        refine lv_iload_n hx hb dX6_command_119 rfl (lv_at hl 3 rfl) ?_
        refine lv_iload_n hx hb dX6_command_120 rfl (lv_at hl 4 rfl) ?_
        refine lv_iload hx hb dX6_command_121 (lv_at hl 0 rfl) ?_
        refine gSM (wr := [(q_o, .inr (6, [.int v_o_refusal, .ref q_o_text, .int v_o_size, .ref q_o_now, .ref q_o_trial, .ref q_o_diary, .int v_o_acts, .ref q_o_kept, .ref q_o_isKept, .ref q_o_years, .int b_o.1, .int b_o.2.1, .int b_o.2.2.1, .int b_o.2.2.2.1, .int b_o.2.2.2.2.1, .int v_o_spot, .int v_o_out])), (q_o_years, gI Cs 10 b_o.2.2.2.2.2)]) (As := [.ref q_o_trial, .int x2, .int x3, .int x5_12]) (rest := []) ⟨hx, hb, hml, hown, htb⟩ hK hP hD hS hA hN [1] [0, 2] rfl (by decide) rfl (by decide) (by decide) (c_X6_layOn l D Cs q_o_trial 221 H.size v_o_trial x2 x3 x5_12 h) (va_cwS 4 htb (TB_s tb_513 tb_514 tb_5 (TB_self tb_515)) rfl rfl rfl z_X6_layOn.2 ⟨Nat.le_of_ble_eq_true rfl, Nat.le_of_ble_eq_true rfl⟩) rfl hl.1 rfl (Nat.le_of_ble_eq_true rfl) ⟨Nat.le_of_ble_eq_true rfl, Nat.le_of_ble_eq_true rfl⟩ dX6_command_123 (fun r_20 m_21 H locs h hP hD hS => ?_)
        have hP : va_P D vwCl [(q_o, .inr (6, [.int v_o_refusal, .ref q_o_text, .int v_o_size, .ref q_o_now, .ref q_o_trial, .ref q_o_diary, .int v_o_acts, .ref q_o_kept, .ref q_o_isKept, .ref q_o_years, .int b_o.1, .int b_o.2.1, .int b_o.2.2.1, .int b_o.2.2.2.1, .int b_o.2.2.2.2.1, .int v_o_spot, .int v_o_out])), (q_o_years, gI Cs 10 b_o.2.2.2.2.2), (q_o_trial, gI Cs 221 m_21)] H := hP
        have hD : va_D A [(q_o, .inr (6, [.int v_o_refusal, .ref q_o_text, .int v_o_size, .ref q_o_now, .ref q_o_trial, .ref q_o_diary, .int v_o_acts, .ref q_o_kept, .ref q_o_isKept, .ref q_o_years, .int b_o.1, .int b_o.2.1, .int b_o.2.2.1, .int b_o.2.2.2.1, .int b_o.2.2.2.2.1, .int v_o_spot, .int v_o_out])), (q_o_years, gI Cs 10 b_o.2.2.2.2.2), (q_o_trial, gI Cs 221 m_21)] := hD
        refine lv_if_le (tgt := 133) hx hb dX6_command_126 (by decide) (fun c_22 => ?_) (fun c_22 => ?_)
        · have h := h.1 c_22
          exact B133 _ _ _ m_21 (hP.sub [0, 2, 1] rfl) (hD.sub [0, 2, 1] (by decide) rfl) hS (lv_sub hl [1, 2, 3, 4, 5] rfl) h
        · have h := h.2 c_22
          refine lv_iconst (v := (1 : Int32)) hx hb dX6_command_129 (by decide) ?_
          refine lv_goto (tgt := 134) hx hb dX6_command_130 (by decide) ?_
          exact B134 _ _ _ m_21 (1 : Int32) (hP.sub [0, 2, 1] rfl) (hD.sub [0, 2, 1] (by decide) rfl) hS (lv_sub hl [1, 2, 3, 4, 5] rfl) h
  by_cases k_23 : x1 = (3 : Int32)
  · have h := h.2.2.1 k_23
    refine lv_tableIn (tgt := 135) (off := 127) hx hb dX6_command_8 (by rw [k_23]; decide) (by rw [k_23]; decide) (by rw [k_23]; decide) (by decide) ?_
    refine lv_iload hx hb dX6_command_135 (lv_at hl 5 rfl) ?_
    refine lv_if_ne (tgt := 180) hx hb dX6_command_137 (by decide) (fun c_24 => ?_) (fun c_24 => ?_)
    · have h := h.2 c_24
      exact B180 _ _ _ v_o_trial hP hD hS (lv_sub hl [1, 2, 3, 4, 5] rfl) h
    · have h := h.1 c_24
      refine lv_aload_n hx hb dX6_command_140 rfl (lv_at hl 1 rfl) ?_
      refine va_get (D := D) (ci := 6) (v := .ref q_o_trial) (C := RX6) (T := TX6) (N := 17) hx hb htb inT_X6 hown hK hP 0 rfl rfl 4 (by decide) (htb _ tb_91) (fun _ h9 => h9) rfl dX6_command_141 ?_
      refine lv_iload_n hx hb dX6_command_144 rfl (lv_at hl 3 rfl) ?_
      refine lv_iload_n hx hb dX6_command_145 rfl (lv_at hl 4 rfl) ?_
      refine gSR (As := [.ref q_o_trial, .int x2, .int x3]) (rest := []) ⟨hx, hb, hml, hown, htb⟩ hK hP hN [1] rfl (c_X6_areTowns l D Cs q_o_trial 221 v_o_trial x2 x3 h) (va_cwS 3 htb (TB_s tb_399 tb_400 tb_5 (TB_self tb_401)) rfl rfl rfl z_X6_areTowns.2 ⟨Nat.le_of_ble_eq_true rfl, Nat.le_of_ble_eq_true rfl⟩) rfl hl.1 rfl (Nat.le_of_ble_eq_true rfl) ⟨Nat.le_of_ble_eq_true rfl, Nat.le_of_ble_eq_true rfl⟩ dX6_command_146 (fun r_25 h => ?_)
      refine lv_if_eq (tgt := 180) hx hb dX6_command_149 (by decide) (fun c_26 => ?_) (fun c_26 => ?_)
      · have h := h.1 c_26
        exact B180 _ _ _ v_o_trial hP hD hS (lv_sub hl [1, 2, 3, 4, 5] rfl) h
      · have h := h.2 c_26
        refine lv_aload_n hx hb dX6_command_152 rfl (lv_at hl 1 rfl) ?_
        refine va_get (D := D) (ci := 6) (v := .ref q_o_trial) (C := RX6) (T := TX6) (N := 17) hx hb htb inT_X6 hown hK hP 0 rfl rfl 4 (by decide) (htb _ tb_91) (fun _ h9 => h9) rfl dX6_command_153 ?_
        refine lv_iload_n hx hb dX6_command_156 rfl (lv_at hl 3 rfl) ?_
        refine lv_iload_n hx hb dX6_command_157 rfl (lv_at hl 4 rfl) ?_
        refine gSR (As := [.ref q_o_trial, .int x2, .int x3]) (rest := []) ⟨hx, hb, hml, hown, htb⟩ hK hP hN [1] rfl (c_X6_length l D Cs q_o_trial 221 v_o_trial x2 x3 h) (va_cwS 3 htb (TB_s tb_368 tb_369 tb_5 (TB_self tb_370)) rfl rfl rfl z_X6_length.2 ⟨Nat.le_of_ble_eq_true rfl, Nat.le_of_ble_eq_true rfl⟩) rfl hl.1 rfl (Nat.le_of_ble_eq_true rfl) ⟨Nat.le_of_ble_eq_true rfl, Nat.le_of_ble_eq_true rfl⟩ dX6_command_158 (fun r_27 h => ?_)
        refine lv_if_le (tgt := 180) hx hb dX6_command_161 (by decide) (fun c_28 => ?_) (fun c_28 => ?_)
        · have h := h.1 c_28
          exact B180 _ _ _ v_o_trial hP hD hS (lv_sub hl [1, 2, 3, 4, 5] rfl) h
        · have h := h.2 c_28
          refine lv_aload_n hx hb dX6_command_164 rfl (lv_at hl 1 rfl) ?_
          refine va_get (D := D) (ci := 6) (v := .ref q_o_trial) (C := RX6) (T := TX6) (N := 17) hx hb htb inT_X6 hown hK hP 0 rfl rfl 4 (by decide) (htb _ tb_91) (fun _ h9 => h9) rfl dX6_command_165 ?_
          refine lv_iload_n hx hb dX6_command_168 rfl (lv_at hl 3 rfl) ?_
          refine lv_iload_n hx hb dX6_command_169 rfl (lv_at hl 4 rfl) ?_
          refine gSM (wr := [(q_o, .inr (6, [.int v_o_refusal, .ref q_o_text, .int v_o_size, .ref q_o_now, .ref q_o_trial, .ref q_o_diary, .int v_o_acts, .ref q_o_kept, .ref q_o_isKept, .ref q_o_years, .int b_o.1, .int b_o.2.1, .int b_o.2.2.1, .int b_o.2.2.2.1, .int b_o.2.2.2.2.1, .int v_o_spot, .int v_o_out])), (q_o_years, gI Cs 10 b_o.2.2.2.2.2)]) (As := [.ref q_o_trial, .int x2, .int x3]) (rest := []) ⟨hx, hb, hml, hown, htb⟩ hK hP hD hS hA hN [1] [0, 2] rfl (by decide) rfl (by decide) (by decide) (c_X6_tearOn l D Cs q_o_trial 221 H.size v_o_trial x2 x3 h) (va_cwS 3 htb (TB_s tb_531 tb_532 tb_5 (TB_self tb_533)) rfl rfl rfl z_X6_tearOn.2 ⟨Nat.le_of_ble_eq_true rfl, Nat.le_of_ble_eq_true rfl⟩) rfl hl.1 rfl (Nat.le_of_ble_eq_true rfl) ⟨Nat.le_of_ble_eq_true rfl, Nat.le_of_ble_eq_true rfl⟩ dX6_command_170 (fun r_29 m_30 H locs h hP hD hS => ?_)
          have hP : va_P D vwCl [(q_o, .inr (6, [.int v_o_refusal, .ref q_o_text, .int v_o_size, .ref q_o_now, .ref q_o_trial, .ref q_o_diary, .int v_o_acts, .ref q_o_kept, .ref q_o_isKept, .ref q_o_years, .int b_o.1, .int b_o.2.1, .int b_o.2.2.1, .int b_o.2.2.2.1, .int b_o.2.2.2.2.1, .int v_o_spot, .int v_o_out])), (q_o_years, gI Cs 10 b_o.2.2.2.2.2), (q_o_trial, gI Cs 221 m_30)] H := hP
          have hD : va_D A [(q_o, .inr (6, [.int v_o_refusal, .ref q_o_text, .int v_o_size, .ref q_o_now, .ref q_o_trial, .ref q_o_diary, .int v_o_acts, .ref q_o_kept, .ref q_o_isKept, .ref q_o_years, .int b_o.1, .int b_o.2.1, .int b_o.2.2.1, .int b_o.2.2.2.1, .int b_o.2.2.2.2.1, .int v_o_spot, .int v_o_out])), (q_o_years, gI Cs 10 b_o.2.2.2.2.2), (q_o_trial, gI Cs 221 m_30)] := hD
          refine lv_if_le (tgt := 180) hx hb dX6_command_173 (by decide) (fun c_31 => ?_) (fun c_31 => ?_)
          · have h := h.1 c_31
            exact B180 _ _ _ m_30 (hP.sub [0, 2, 1] rfl) (hD.sub [0, 2, 1] (by decide) rfl) hS (lv_sub hl [1, 2, 3, 4, 5] rfl) h
          · have h := h.2 c_31
            refine lv_iconst (v := (1 : Int32)) hx hb dX6_command_176 (by decide) ?_
            refine lv_goto (tgt := 181) hx hb dX6_command_177 (by decide) ?_
            exact B181 _ _ _ m_30 (1 : Int32) (hP.sub [0, 2, 1] rfl) (hD.sub [0, 2, 1] (by decide) rfl) hS (lv_sub hl [1, 2, 3, 4, 5] rfl) h
  by_cases k_32 : x1 = (4 : Int32)
  · have h := h.2.2.2.1 k_32
    refine lv_tableIn (tgt := 182) (off := 174) hx hb dX6_command_8 (by rw [k_32]; decide) (by rw [k_32]; decide) (by rw [k_32]; decide) (by decide) ?_
    refine lv_aload_n hx hb dX6_command_182 rfl (lv_at hl 1 rfl) ?_
    refine va_get (D := D) (ci := 6) (v := .ref q_o_trial) (C := RX6) (T := TX6) (N := 17) hx hb htb inT_X6 hown hK hP 0 rfl rfl 4 (by decide) (htb _ tb_91) (fun _ h9 => h9) rfl dX6_command_183 ?_
    refine lv_iload_n hx hb dX6_command_186 rfl (lv_at hl 3 rfl) ?_
    refine gSR (As := [.ref q_o_trial, .int x2]) (rest := []) ⟨hx, hb, hml, hown, htb⟩ hK hP hN [1] rfl (c_X6_isTown l D Cs q_o_trial 221 v_o_trial x2 h) (va_cwS 2 htb (TB_s tb_197 tb_198 tb_5 (TB_self tb_199)) rfl rfl rfl z_X6_isTown.2 ⟨Nat.le_of_ble_eq_true rfl, Nat.le_of_ble_eq_true rfl⟩) rfl hl.1 rfl (Nat.le_of_ble_eq_true rfl) ⟨Nat.le_of_ble_eq_true rfl, Nat.le_of_ble_eq_true rfl⟩ dX6_command_187 (fun r_33 h => ?_)
    refine lv_if_eq (tgt := 228) hx hb dX6_command_190 (by decide) (fun c_34 => ?_) (fun c_34 => ?_)
    · have h := h.1 c_34
      exact B228 _ _ _ v_o_trial hP hD hS (lv_sub hl [1, 2, 3, 4, 5] rfl) h
    · have h := h.2 c_34
      refine lv_iload_n hx hb dX6_command_193 rfl (lv_at hl 4 rfl) ?_
      refine gSR (As := [.int x3]) (rest := []) ⟨hx, hb, hml, hown, htb⟩ hK hP hN [] rfl (c_X6_isTrait l D Cs x3 h) (va_cwS 1 htb (TB_s tb_436 tb_437 tb_5 (TB_self tb_438)) rfl rfl rfl z_X6_isTrait.2 ⟨Nat.le_of_ble_eq_true rfl, Nat.le_of_ble_eq_true rfl⟩) rfl hl.1 rfl (Nat.le_of_ble_eq_true rfl) ⟨Nat.le_of_ble_eq_true rfl, Nat.le_of_ble_eq_true rfl⟩ dX6_command_194 (fun r_35 h => ?_)
      refine lv_if_eq (tgt := 228) hx hb dX6_command_197 (by decide) (fun c_36 => ?_) (fun c_36 => ?_)
      · have h := h.1 c_36
        exact B228 _ _ _ v_o_trial hP hD hS (lv_sub hl [1, 2, 3, 4, 5] rfl) h
      · have h := h.2 c_36
        refine lv_aload_n hx hb dX6_command_200 rfl (lv_at hl 1 rfl) ?_
        refine va_get (D := D) (ci := 6) (v := .ref q_o_trial) (C := RX6) (T := TX6) (N := 17) hx hb htb inT_X6 hown hK hP 0 rfl rfl 4 (by decide) (htb _ tb_91) (fun _ h9 => h9) rfl dX6_command_201 ?_
        refine lv_iload_n hx hb dX6_command_204 rfl (lv_at hl 3 rfl) ?_
        refine lv_iload_n hx hb dX6_command_205 rfl (lv_at hl 4 rfl) ?_
        refine lv_iload hx hb dX6_command_206 (lv_at hl 5 rfl) ?_
        refine lv_iload_n hx hb dX6_command_208 rfl (lv_at hl 2 rfl) ?_
        refine lv_iconst (v := (4 : Int32)) hx hb dX6_command_209 (by decide) ?_
        refine lv_icmp_ne (tgt := 217) hx hb dX6_command_210 (by decide) (fun c_37 => ?_) (fun c_37 => ?_)
        · have h := h.2 c_37
          refine lv_iconst (v := (0 : Int32)) hx hb dX6_command_217 (by decide) ?_
          exact B218 _ _ _ x2 x3 x4 (0 : Int32) hP hD hS (lv_sub hl [1, 2, 3, 4, 5] rfl) h
        · have h := h.1 c_37
          refine lv_iconst (v := (1 : Int32)) hx hb dX6_command_213 (by decide) ?_
          refine lv_goto (tgt := 218) hx hb dX6_command_214 (by decide) ?_
          exact B218 _ _ _ x2 x3 x4 (1 : Int32) hP hD hS (lv_sub hl [1, 2, 3, 4, 5] rfl) h
  by_cases k_38 : x1 = (5 : Int32)
  · have h := h.2.2.2.2.1 k_38
    refine lv_tableIn (tgt := 182) (off := 174) hx hb dX6_command_8 (by rw [k_38]; decide) (by rw [k_38]; decide) (by rw [k_38]; decide) (by decide) ?_
    refine lv_aload_n hx hb dX6_command_182 rfl (lv_at hl 1 rfl) ?_
    refine va_get (D := D) (ci := 6) (v := .ref q_o_trial) (C := RX6) (T := TX6) (N := 17) hx hb htb inT_X6 hown hK hP 0 rfl rfl 4 (by decide) (htb _ tb_91) (fun _ h9 => h9) rfl dX6_command_183 ?_
    refine lv_iload_n hx hb dX6_command_186 rfl (lv_at hl 3 rfl) ?_
    refine gSR (As := [.ref q_o_trial, .int x2]) (rest := []) ⟨hx, hb, hml, hown, htb⟩ hK hP hN [1] rfl (c_X6_isTown l D Cs q_o_trial 221 v_o_trial x2 h) (va_cwS 2 htb (TB_s tb_197 tb_198 tb_5 (TB_self tb_199)) rfl rfl rfl z_X6_isTown.2 ⟨Nat.le_of_ble_eq_true rfl, Nat.le_of_ble_eq_true rfl⟩) rfl hl.1 rfl (Nat.le_of_ble_eq_true rfl) ⟨Nat.le_of_ble_eq_true rfl, Nat.le_of_ble_eq_true rfl⟩ dX6_command_187 (fun r_39 h => ?_)
    refine lv_if_eq (tgt := 228) hx hb dX6_command_190 (by decide) (fun c_40 => ?_) (fun c_40 => ?_)
    · have h := h.1 c_40
      exact B228 _ _ _ v_o_trial hP hD hS (lv_sub hl [1, 2, 3, 4, 5] rfl) h
    · have h := h.2 c_40
      refine lv_iload_n hx hb dX6_command_193 rfl (lv_at hl 4 rfl) ?_
      refine gSR (As := [.int x3]) (rest := []) ⟨hx, hb, hml, hown, htb⟩ hK hP hN [] rfl (c_X6_isTrait l D Cs x3 h) (va_cwS 1 htb (TB_s tb_436 tb_437 tb_5 (TB_self tb_438)) rfl rfl rfl z_X6_isTrait.2 ⟨Nat.le_of_ble_eq_true rfl, Nat.le_of_ble_eq_true rfl⟩) rfl hl.1 rfl (Nat.le_of_ble_eq_true rfl) ⟨Nat.le_of_ble_eq_true rfl, Nat.le_of_ble_eq_true rfl⟩ dX6_command_194 (fun r_41 h => ?_)
      refine lv_if_eq (tgt := 228) hx hb dX6_command_197 (by decide) (fun c_42 => ?_) (fun c_42 => ?_)
      · have h := h.1 c_42
        exact B228 _ _ _ v_o_trial hP hD hS (lv_sub hl [1, 2, 3, 4, 5] rfl) h
      · have h := h.2 c_42
        refine lv_aload_n hx hb dX6_command_200 rfl (lv_at hl 1 rfl) ?_
        refine va_get (D := D) (ci := 6) (v := .ref q_o_trial) (C := RX6) (T := TX6) (N := 17) hx hb htb inT_X6 hown hK hP 0 rfl rfl 4 (by decide) (htb _ tb_91) (fun _ h9 => h9) rfl dX6_command_201 ?_
        refine lv_iload_n hx hb dX6_command_204 rfl (lv_at hl 3 rfl) ?_
        refine lv_iload_n hx hb dX6_command_205 rfl (lv_at hl 4 rfl) ?_
        refine lv_iload hx hb dX6_command_206 (lv_at hl 5 rfl) ?_
        refine lv_iload_n hx hb dX6_command_208 rfl (lv_at hl 2 rfl) ?_
        refine lv_iconst (v := (4 : Int32)) hx hb dX6_command_209 (by decide) ?_
        refine lv_icmp_ne (tgt := 217) hx hb dX6_command_210 (by decide) (fun c_43 => ?_) (fun c_43 => ?_)
        · have h := h.2 c_43
          refine lv_iconst (v := (0 : Int32)) hx hb dX6_command_217 (by decide) ?_
          exact B218 _ _ _ x2 x3 x4 (0 : Int32) hP hD hS (lv_sub hl [1, 2, 3, 4, 5] rfl) h
        · have h := h.1 c_43
          refine lv_iconst (v := (1 : Int32)) hx hb dX6_command_213 (by decide) ?_
          refine lv_goto (tgt := 218) hx hb dX6_command_214 (by decide) ?_
          exact B218 _ _ _ x2 x3 x4 (1 : Int32) hP hD hS (lv_sub hl [1, 2, 3, 4, 5] rfl) h
  by_cases k_44 : x1 = (6 : Int32)
  · have h := h.2.2.2.2.2.1 k_44
    refine lv_tableIn (tgt := 230) (off := 222) hx hb dX6_command_8 (by rw [k_44]; decide) (by rw [k_44]; decide) (by rw [k_44]; decide) (by decide) ?_
    refine lv_iload hx hb dX6_command_230 (lv_at hl 5 rfl) ?_
    refine lv_if_ne (tgt := 269) hx hb dX6_command_232 (by decide) (fun c_45 => ?_) (fun c_45 => ?_)
    · have h := h.2 c_45
      exact B269 _ _ _ v_o_trial hP hD hS (lv_sub hl [1, 2, 3, 4, 5] rfl) h
    · have h := h.1 c_45
      refine lv_aload_n hx hb dX6_command_235 rfl (lv_at hl 1 rfl) ?_
      refine va_get (D := D) (ci := 6) (v := .ref q_o_trial) (C := RX6) (T := TX6) (N := 17) hx hb htb inT_X6 hown hK hP 0 rfl rfl 4 (by decide) (htb _ tb_91) (fun _ h9 => h9) rfl dX6_command_236 ?_
      refine lv_iload_n hx hb dX6_command_239 rfl (lv_at hl 3 rfl) ?_
      refine gSR (As := [.ref q_o_trial, .int x2]) (rest := []) ⟨hx, hb, hml, hown, htb⟩ hK hP hN [1] rfl (c_X6_isTown l D Cs q_o_trial 221 v_o_trial x2 h) (va_cwS 2 htb (TB_s tb_197 tb_198 tb_5 (TB_self tb_199)) rfl rfl rfl z_X6_isTown.2 ⟨Nat.le_of_ble_eq_true rfl, Nat.le_of_ble_eq_true rfl⟩) rfl hl.1 rfl (Nat.le_of_ble_eq_true rfl) ⟨Nat.le_of_ble_eq_true rfl, Nat.le_of_ble_eq_true rfl⟩ dX6_command_240 (fun r_46 h => ?_)
      refine lv_if_eq (tgt := 269) hx hb dX6_command_243 (by decide) (fun c_47 => ?_) (fun c_47 => ?_)
      · have h := h.1 c_47
        exact B269 _ _ _ v_o_trial hP hD hS (lv_sub hl [1, 2, 3, 4, 5] rfl) h
      · have h := h.2 c_47
        refine lv_iload_n hx hb dX6_command_246 rfl (lv_at hl 4 rfl) ?_
        refine gSR (As := [.int x3]) (rest := []) ⟨hx, hb, hml, hown, htb⟩ hK hP hN [] rfl (c_X6_isTrait l D Cs x3 h) (va_cwS 1 htb (TB_s tb_436 tb_437 tb_5 (TB_self tb_438)) rfl rfl rfl z_X6_isTrait.2 ⟨Nat.le_of_ble_eq_true rfl, Nat.le_of_ble_eq_true rfl⟩) rfl hl.1 rfl (Nat.le_of_ble_eq_true rfl) ⟨Nat.le_of_ble_eq_true rfl, Nat.le_of_ble_eq_true rfl⟩ dX6_command_247 (fun r_48 h => ?_)
        refine lv_if_eq (tgt := 269) hx hb dX6_command_250 (by decide) (fun c_49 => ?_) (fun c_49 => ?_)
        · have h := h.1 c_49
          exact B269 _ _ _ v_o_trial hP hD hS (lv_sub hl [1, 2, 3, 4, 5] rfl) h
        · have h := h.2 c_49
          refine lv_aload_n hx hb dX6_command_253 rfl (lv_at hl 1 rfl) ?_
          refine va_get (D := D) (ci := 6) (v := .ref q_o_trial) (C := RX6) (T := TX6) (N := 17) hx hb htb inT_X6 hown hK hP 0 rfl rfl 4 (by decide) (htb _ tb_91) (fun _ h9 => h9) rfl dX6_command_254 ?_
          refine lv_iload_n hx hb dX6_command_257 rfl (lv_at hl 3 rfl) ?_
          refine lv_iload_n hx hb dX6_command_258 rfl (lv_at hl 4 rfl) ?_
          refine gSM (wr := [(q_o, .inr (6, [.int v_o_refusal, .ref q_o_text, .int v_o_size, .ref q_o_now, .ref q_o_trial, .ref q_o_diary, .int v_o_acts, .ref q_o_kept, .ref q_o_isKept, .ref q_o_years, .int b_o.1, .int b_o.2.1, .int b_o.2.2.1, .int b_o.2.2.2.1, .int b_o.2.2.2.2.1, .int v_o_spot, .int v_o_out])), (q_o_years, gI Cs 10 b_o.2.2.2.2.2)]) (As := [.ref q_o_trial, .int x2, .int x3]) (rest := []) ⟨hx, hb, hml, hown, htb⟩ hK hP hD hS hA hN [1] [0, 2] rfl (by decide) rfl (by decide) (by decide) (c_X6_forgetOn l D Cs q_o_trial 221 H.size v_o_trial x2 x3 h) (va_cwS 3 htb (TB_s tb_587 tb_588 tb_5 (TB_self tb_589)) rfl rfl rfl z_X6_forgetOn.2 ⟨Nat.le_of_ble_eq_true rfl, Nat.le_of_ble_eq_true rfl⟩) rfl hl.1 rfl (Nat.le_of_ble_eq_true rfl) ⟨Nat.le_of_ble_eq_true rfl, Nat.le_of_ble_eq_true rfl⟩ dX6_command_259 (fun r_50 m_51 H locs h hP hD hS => ?_)
          have hP : va_P D vwCl [(q_o, .inr (6, [.int v_o_refusal, .ref q_o_text, .int v_o_size, .ref q_o_now, .ref q_o_trial, .ref q_o_diary, .int v_o_acts, .ref q_o_kept, .ref q_o_isKept, .ref q_o_years, .int b_o.1, .int b_o.2.1, .int b_o.2.2.1, .int b_o.2.2.2.1, .int b_o.2.2.2.2.1, .int v_o_spot, .int v_o_out])), (q_o_years, gI Cs 10 b_o.2.2.2.2.2), (q_o_trial, gI Cs 221 m_51)] H := hP
          have hD : va_D A [(q_o, .inr (6, [.int v_o_refusal, .ref q_o_text, .int v_o_size, .ref q_o_now, .ref q_o_trial, .ref q_o_diary, .int v_o_acts, .ref q_o_kept, .ref q_o_isKept, .ref q_o_years, .int b_o.1, .int b_o.2.1, .int b_o.2.2.1, .int b_o.2.2.2.1, .int b_o.2.2.2.2.1, .int v_o_spot, .int v_o_out])), (q_o_years, gI Cs 10 b_o.2.2.2.2.2), (q_o_trial, gI Cs 221 m_51)] := hD
          refine lv_if_lt (tgt := 269) hx hb dX6_command_262 (by decide) (fun c_52 => ?_) (fun c_52 => ?_)
          · have h := h.1 c_52
            exact B269 _ _ _ m_51 (hP.sub [0, 2, 1] rfl) (hD.sub [0, 2, 1] (by decide) rfl) hS (lv_sub hl [1, 2, 3, 4, 5] rfl) h
          · have h := h.2 c_52
            refine lv_iconst (v := (1 : Int32)) hx hb dX6_command_265 (by decide) ?_
            refine lv_goto (tgt := 270) hx hb dX6_command_266 (by decide) ?_
            exact B270 _ _ _ m_51 (1 : Int32) (hP.sub [0, 2, 1] rfl) (hD.sub [0, 2, 1] (by decide) rfl) hS (lv_sub hl [1, 2, 3, 4, 5] rfl) h
  by_cases k_53 : x1 = (7 : Int32)
  · have h := h.2.2.2.2.2.2.1 k_53
    refine lv_tableIn (tgt := 271) (off := 263) hx hb dX6_command_8 (by rw [k_53]; decide) (by rw [k_53]; decide) (by rw [k_53]; decide) (by decide) ?_
    refine lv_aload_n hx hb dX6_command_271 rfl (lv_at hl 1 rfl) ?_
    refine lv_aload_n hx hb dX6_command_272 rfl (lv_at hl 1 rfl) ?_
    refine va_get (D := D) (ci := 6) (v := .ref q_o_trial) (C := RX6) (T := TX6) (N := 17) hx hb htb inT_X6 hown hK hP 0 rfl rfl 4 (by decide) (htb _ tb_91) (fun _ h9 => h9) rfl dX6_command_273 ?_
    refine lv_iload_n hx hb dX6_command_276 rfl (lv_at hl 3 rfl) ?_
    refine gSR (As := [.int x2]) (rest := [.ref q_o_trial, .ref q_o]) ⟨hx, hb, hml, hown, htb⟩ hK hP hN [] rfl (c_X6_isTrait l D Cs x2 h) (va_cwS 1 htb (TB_s tb_436 tb_437 tb_5 (TB_self tb_438)) rfl rfl rfl z_X6_isTrait.2 ⟨Nat.le_of_ble_eq_true rfl, Nat.le_of_ble_eq_true rfl⟩) rfl hl.1 rfl (Nat.le_of_ble_eq_true rfl) ⟨Nat.le_of_ble_eq_true rfl, Nat.le_of_ble_eq_true rfl⟩ dX6_command_277 (fun r_54 h => ?_)
    refine lv_if_eq (tgt := 287) hx hb dX6_command_280 (by decide) (fun c_55 => ?_) (fun c_55 => ?_)
    · have h := h.1 c_55
      refine lv_iconst (v := (0 : Int32)) hx hb dX6_command_287 (by decide) ?_
      exact B288 _ _ _ x5_12 (0 : Int32) hP hD hS (lv_sub hl [1, 2, 3, 4, 5, 0] rfl) h
    · have h := h.2 c_55
      refine lv_iload_n hx hb dX6_command_283 rfl (lv_at hl 3 rfl) ?_
      refine lv_goto (tgt := 288) hx hb dX6_command_284 (by decide) ?_
      exact B288 _ _ _ x5_12 x2 hP hD hS (lv_sub hl [1, 2, 3, 4, 5, 0] rfl) h
  by_cases k_56 : x1 = (8 : Int32)
  · have h := h.2.2.2.2.2.2.2.1 k_56
    refine lv_tableIn (tgt := 332) (off := 324) hx hb dX6_command_8 (by rw [k_56]; decide) (by rw [k_56]; decide) (by rw [k_56]; decide) (by decide) ?_
    refine lv_iload_n hx hb dX6_command_332 rfl (lv_at hl 3 rfl) ?_
    refine lv_iload_n hx hb dX6_command_333 rfl (lv_at hl 4 rfl) ?_
    refine lv_iadd hx hb dX6_command_334 ?_
    refine lv_if_ne (tgt := 362) hx hb dX6_command_335 (by decide) (fun c_57 => ?_) (fun c_57 => ?_)
    · have h := h.2 c_57
      exact B362 _ _ _ b_o hP hD hS (lv_sub hl [1, 2, 3, 4, 5] rfl) h
    · have h := h.1 c_57
      refine lv_iload hx hb dX6_command_338 (lv_at hl 5 rfl) ?_
      refine lv_bipush (v := (100 : Int32)) hx hb dX6_command_340 (by decide) ?_
      refine lv_icmp_ge (tgt := 362) hx hb dX6_command_342 (by decide) (fun c_58 => ?_) (fun c_58 => ?_)
      · have h := h.1 c_58
        exact B362 _ _ _ b_o hP hD hS (lv_sub hl [1, 2, 3, 4, 5] rfl) h
      · have h := h.2 c_58
        refine lv_aload_n hx hb dX6_command_345 rfl (lv_at hl 1 rfl) ?_
        refine lv_aload_n hx hb dX6_command_346 rfl (lv_at hl 1 rfl) ?_
        refine va_get (D := D) (ci := 6) (v := .ref q_o_trial) (C := RX6) (T := TX6) (N := 17) hx hb htb inT_X6 hown hK hP 0 rfl rfl 4 (by decide) (htb _ tb_91) (fun _ h9 => h9) rfl dX6_command_347 ?_
        refine gVM (wr := []) (As := [.ref q_o_trial]) (rest := []) ⟨hx, hb, hml, hown, htb⟩ hK hP hD hS hA hN [0, 2, 1] [] rfl (by decide) rfl (by decide) (by decide) (c_X6_inventionsInAll l D Cs q_o q_o_trial q_o_text q_o_now q_o_trial q_o_diary q_o_kept q_o_isKept q_o_years 221 H.size b_o v_o_trial v_o_refusal v_o_size v_o_acts v_o_spot v_o_out h) (cwV 1 htb (TB_v tb_375 tb_376 tb_377 tb_5 (TB_self tb_378)) rfl rfl rfl z_X6_inventionsInAll ⟨Nat.le_of_ble_eq_true rfl, Nat.le_of_ble_eq_true rfl⟩) 0 rfl rfl rfl rfl hl.1 rfl (Nat.le_of_ble_eq_true rfl) ⟨Nat.le_of_ble_eq_true rfl, Nat.le_of_ble_eq_true rfl⟩ dX6_command_350 (fun r_59 m_60 H locs h hP hD hS => ?_)
        have hP : va_P D vwCl [(q_o, .inr (6, [.int v_o_refusal, .ref q_o_text, .int v_o_size, .ref q_o_now, .ref q_o_trial, .ref q_o_diary, .int v_o_acts, .ref q_o_kept, .ref q_o_isKept, .ref q_o_years, .int m_60.1, .int m_60.2.1, .int m_60.2.2.1, .int m_60.2.2.2.1, .int m_60.2.2.2.2.1, .int v_o_spot, .int v_o_out])), (q_o_years, gI Cs 10 m_60.2.2.2.2.2), (q_o_trial, gI Cs 221 v_o_trial)] H := hP
        have hD : va_D A [(q_o, .inr (6, [.int v_o_refusal, .ref q_o_text, .int v_o_size, .ref q_o_now, .ref q_o_trial, .ref q_o_diary, .int v_o_acts, .ref q_o_kept, .ref q_o_isKept, .ref q_o_years, .int m_60.1, .int m_60.2.1, .int m_60.2.2.1, .int m_60.2.2.2.1, .int m_60.2.2.2.2.1, .int v_o_spot, .int v_o_out])), (q_o_years, gI Cs 10 m_60.2.2.2.2.2), (q_o_trial, gI Cs 221 v_o_trial)] := hD
        refine lv_iload hx hb dX6_command_353 (lv_at hl 0 rfl) ?_
        refine lv_icmp_gt (tgt := 362) hx hb dX6_command_355 (by decide) (fun c_61 => ?_) (fun c_61 => ?_)
        · have h := h.1 c_61
          exact B362 _ _ _ m_60 (hP.sub [0, 2, 1] rfl) (hD.sub [0, 2, 1] (by decide) rfl) hS (lv_sub hl [1, 2, 3, 4, 5] rfl) h
        · have h := h.2 c_61
          refine lv_iconst (v := (1 : Int32)) hx hb dX6_command_358 (by decide) ?_
          refine lv_goto (tgt := 363) hx hb dX6_command_359 (by decide) ?_
          exact B363 _ _ _ m_60 (1 : Int32) (hP.sub [0, 2, 1] rfl) (hD.sub [0, 2, 1] (by decide) rfl) hS (lv_sub hl [1, 2, 3, 4, 5] rfl) h
  by_cases k_62 : x1 = (9 : Int32)
  · have h := h.2.2.2.2.2.2.2.2.1 k_62
    refine lv_tableIn (tgt := 364) (off := 356) hx hb dX6_command_8 (by rw [k_62]; decide) (by rw [k_62]; decide) (by rw [k_62]; decide) (by decide) ?_
    refine lv_aload_n hx hb dX6_command_364 rfl (lv_at hl 1 rfl) ?_
    refine va_get (D := D) (ci := 6) (v := .ref q_o_trial) (C := RX6) (T := TX6) (N := 17) hx hb htb inT_X6 hown hK hP 0 rfl rfl 4 (by decide) (htb _ tb_91) (fun _ h9 => h9) rfl dX6_command_365 ?_
    refine lv_iload_n hx hb dX6_command_368 rfl (lv_at hl 3 rfl) ?_
    refine gSR (As := [.ref q_o_trial, .int x2]) (rest := []) ⟨hx, hb, hml, hown, htb⟩ hK hP hN [1] rfl (c_X6_isTown l D Cs q_o_trial 221 v_o_trial x2 h) (va_cwS 2 htb (TB_s tb_197 tb_198 tb_5 (TB_self tb_199)) rfl rfl rfl z_X6_isTown.2 ⟨Nat.le_of_ble_eq_true rfl, Nat.le_of_ble_eq_true rfl⟩) rfl hl.1 rfl (Nat.le_of_ble_eq_true rfl) ⟨Nat.le_of_ble_eq_true rfl, Nat.le_of_ble_eq_true rfl⟩ dX6_command_369 (fun r_63 h => ?_)
    refine lv_if_eq (tgt := 415) hx hb dX6_command_372 (by decide) (fun c_64 => ?_) (fun c_64 => ?_)
    · have h := h.1 c_64
      exact B415 _ _ _ b_o hP hD hS (lv_sub hl [1, 2, 3, 4, 5] rfl) h
    · have h := h.2 c_64
      refine lv_iload_n hx hb dX6_command_375 rfl (lv_at hl 4 rfl) ?_
      refine gSR (As := [.int x3]) (rest := []) ⟨hx, hb, hml, hown, htb⟩ hK hP hN [] rfl (c_X6_isTrait l D Cs x3 h) (va_cwS 1 htb (TB_s tb_436 tb_437 tb_5 (TB_self tb_438)) rfl rfl rfl z_X6_isTrait.2 ⟨Nat.le_of_ble_eq_true rfl, Nat.le_of_ble_eq_true rfl⟩) rfl hl.1 rfl (Nat.le_of_ble_eq_true rfl) ⟨Nat.le_of_ble_eq_true rfl, Nat.le_of_ble_eq_true rfl⟩ dX6_command_376 (fun r_65 h => ?_)
      refine lv_if_eq (tgt := 415) hx hb dX6_command_379 (by decide) (fun c_66 => ?_) (fun c_66 => ?_)
      · have h := h.1 c_66
        exact B415 _ _ _ b_o hP hD hS (lv_sub hl [1, 2, 3, 4, 5] rfl) h
      · have h := h.2 c_66
        refine lv_aload_n hx hb dX6_command_382 rfl (lv_at hl 1 rfl) ?_
        refine lv_aload_n hx hb dX6_command_383 rfl (lv_at hl 1 rfl) ?_
        refine va_get (D := D) (ci := 6) (v := .ref q_o_trial) (C := RX6) (T := TX6) (N := 17) hx hb htb inT_X6 hown hK hP 0 rfl rfl 4 (by decide) (htb _ tb_91) (fun _ h9 => h9) rfl dX6_command_384 ?_
        refine lv_iload_n hx hb dX6_command_387 rfl (lv_at hl 3 rfl) ?_
        refine lv_iload_n hx hb dX6_command_388 rfl (lv_at hl 4 rfl) ?_
        refine gVM (wr := []) (As := [.ref q_o_trial, .int x2, .int x3]) (rest := []) ⟨hx, hb, hml, hown, htb⟩ hK hP hD hS hA hN [0, 2, 1] [] rfl (by decide) rfl (by decide) (by decide) (c_X6_sinceOn l D Cs q_o q_o_trial q_o_text q_o_now q_o_trial q_o_diary q_o_kept q_o_isKept q_o_years 221 H.size b_o v_o_trial v_o_refusal v_o_size v_o_acts v_o_spot v_o_out x2 x3 h) (cwV 3 htb (TB_v tb_663 tb_664 tb_665 tb_5 (TB_self tb_666)) rfl rfl rfl z_X6_sinceOn ⟨Nat.le_of_ble_eq_true rfl, Nat.le_of_ble_eq_true rfl⟩) 0 rfl rfl rfl rfl hl.1 rfl (Nat.le_of_ble_eq_true rfl) ⟨Nat.le_of_ble_eq_true rfl, Nat.le_of_ble_eq_true rfl⟩ dX6_command_389 (fun r_67 m_68 H locs h hP hD hS => ?_)
        have hP : va_P D vwCl [(q_o, .inr (6, [.int v_o_refusal, .ref q_o_text, .int v_o_size, .ref q_o_now, .ref q_o_trial, .ref q_o_diary, .int v_o_acts, .ref q_o_kept, .ref q_o_isKept, .ref q_o_years, .int m_68.1, .int m_68.2.1, .int m_68.2.2.1, .int m_68.2.2.2.1, .int m_68.2.2.2.2.1, .int v_o_spot, .int v_o_out])), (q_o_years, gI Cs 10 m_68.2.2.2.2.2), (q_o_trial, gI Cs 221 v_o_trial)] H := hP
        have hD : va_D A [(q_o, .inr (6, [.int v_o_refusal, .ref q_o_text, .int v_o_size, .ref q_o_now, .ref q_o_trial, .ref q_o_diary, .int v_o_acts, .ref q_o_kept, .ref q_o_isKept, .ref q_o_years, .int m_68.1, .int m_68.2.1, .int m_68.2.2.1, .int m_68.2.2.2.1, .int m_68.2.2.2.2.1, .int v_o_spot, .int v_o_out])), (q_o_years, gI Cs 10 m_68.2.2.2.2.2), (q_o_trial, gI Cs 221 v_o_trial)] := hD
        refine lv_iconst (v := (-1 : Int32)) hx hb dX6_command_392 (by decide) ?_
        refine lv_icmp_eq (tgt := 415) hx hb dX6_command_393 (by decide) (fun c_69 => ?_) (fun c_69 => ?_)
        · have h := h.1 c_69
          exact B415 _ _ _ m_68 (hP.sub [0, 2, 1] rfl) (hD.sub [0, 2, 1] (by decide) rfl) hS (lv_sub hl [1, 2, 3, 4, 5] rfl) h
        · have h := h.2 c_69
          refine lv_aload_n hx hb dX6_command_396 rfl (lv_at hl 1 rfl) ?_
          refine lv_aload_n hx hb dX6_command_397 rfl (lv_at hl 1 rfl) ?_
          refine va_get (D := D) (ci := 6) (v := .ref q_o_trial) (C := RX6) (T := TX6) (N := 17) hx hb htb inT_X6 hown hK hP 0 rfl rfl 4 (by decide) (htb _ tb_91) (fun _ h9 => h9) rfl dX6_command_398 ?_
          refine lv_iload_n hx hb dX6_command_401 rfl (lv_at hl 3 rfl) ?_
          refine lv_iload_n hx hb dX6_command_402 rfl (lv_at hl 4 rfl) ?_
          refine gVM (wr := []) (As := [.ref q_o_trial, .int x2, .int x3]) (rest := []) ⟨hx, hb, hml, hown, htb⟩ hK hP hD hS hA hN [0, 1, 2] [] rfl (by decide) rfl (by decide) (by decide) (c_X6_sinceOn l D Cs q_o q_o_trial q_o_text q_o_now q_o_trial q_o_diary q_o_kept q_o_isKept q_o_years 221 H.size m_68 v_o_trial v_o_refusal v_o_size v_o_acts v_o_spot v_o_out x2 x3 h) (cwV 3 htb (TB_v tb_663 tb_664 tb_665 tb_5 (TB_self tb_666)) rfl rfl rfl z_X6_sinceOn ⟨Nat.le_of_ble_eq_true rfl, Nat.le_of_ble_eq_true rfl⟩) 0 rfl rfl rfl rfl hl.1 rfl (Nat.le_of_ble_eq_true rfl) ⟨Nat.le_of_ble_eq_true rfl, Nat.le_of_ble_eq_true rfl⟩ dX6_command_403 (fun r_70 m_71 H locs h hP hD hS => ?_)
          have hP : va_P D vwCl [(q_o, .inr (6, [.int v_o_refusal, .ref q_o_text, .int v_o_size, .ref q_o_now, .ref q_o_trial, .ref q_o_diary, .int v_o_acts, .ref q_o_kept, .ref q_o_isKept, .ref q_o_years, .int m_71.1, .int m_71.2.1, .int m_71.2.2.1, .int m_71.2.2.2.1, .int m_71.2.2.2.2.1, .int v_o_spot, .int v_o_out])), (q_o_years, gI Cs 10 m_71.2.2.2.2.2), (q_o_trial, gI Cs 221 v_o_trial)] H := hP
          have hD : va_D A [(q_o, .inr (6, [.int v_o_refusal, .ref q_o_text, .int v_o_size, .ref q_o_now, .ref q_o_trial, .ref q_o_diary, .int v_o_acts, .ref q_o_kept, .ref q_o_isKept, .ref q_o_years, .int m_71.1, .int m_71.2.1, .int m_71.2.2.1, .int m_71.2.2.2.1, .int m_71.2.2.2.2.1, .int v_o_spot, .int v_o_out])), (q_o_years, gI Cs 10 m_71.2.2.2.2.2), (q_o_trial, gI Cs 221 v_o_trial)] := hD
          refine lv_iload hx hb dX6_command_406 (lv_at hl 5 rfl) ?_
          refine lv_icmp_gt (tgt := 415) hx hb dX6_command_408 (by decide) (fun c_72 => ?_) (fun c_72 => ?_)
          · have h := h.1 c_72
            exact B415 _ _ _ m_71 (hP.sub [0, 2, 1] rfl) (hD.sub [0, 2, 1] (by decide) rfl) hS (lv_sub hl [1, 2, 3, 4, 5] rfl) h
          · have h := h.2 c_72
            refine lv_iconst (v := (1 : Int32)) hx hb dX6_command_411 (by decide) ?_
            refine lv_goto (tgt := 416) hx hb dX6_command_412 (by decide) ?_
            exact B416 _ _ _ m_71 (1 : Int32) (hP.sub [0, 2, 1] rfl) (hD.sub [0, 2, 1] (by decide) rfl) hS (lv_sub hl [1, 2, 3, 4, 5] rfl) h
  have h := h.2.2.2.2.2.2.2.2.2 k_13 k_16 k_23 k_32 k_38 k_44 k_53 k_56 k_62
  refine lv_tableOut (tgt := 417) hx hb dX6_command_8 (g_sw1_9 k_13 k_16 k_23 k_32 k_38 k_44 k_53 k_56 k_62) (by decide) ?_
  refine lv_iconst (v := (0 : Int32)) hx hb dX6_command_417 (by decide) ?_
  rw [← hQ]
  exact gRetI (u := (b_o, v_o_trial)) hx hb hr rfl h hP hD hS dX6_command_418 hlocks
set_option maxHeartbeats 4000000 in
set_option maxRecDepth 100000 in
theorem c_X6_runScript (l : Launch) (D : va_G) (Cs : Nat → ClassId) (q_o : Nat) (q_o_text : Nat) (q_o_now : Nat) (q_o_trial : Nat) (q_o_diary : Nat) (q_o_kept : Nat) (q_o_isKept : Nat) (q_o_years : Nat) (sz : Nat) (v_o_refusal : Int32) (b_o : BM) (v_o_now : (Nat → Int32)) (v_o_trial : (Nat → Int32)) (v_o_size : Int32) (v_o_acts : Int32) (v_o_spot : Int32) (v_o_out : Int32) (x1 : Int32) (x2 : Int64) {post : Int32 → Int32 → BM → (Nat → Int32) → Prop} (h : P_X6_runScript v_o_refusal b_o v_o_now v_o_trial x1 x2 post) : Met l yX6_runScript wsX6_runScript ({ frames := 7, cells := 0, slots := 0, locals := 165 } : Room) (va_Pc [.ref q_o, .int x1, .long x2] (gM D Cs [(q_o, .inr (6, [.int v_o_refusal, .ref q_o_text, .int v_o_size, .ref q_o_now, .ref q_o_trial, .ref q_o_diary, .int v_o_acts, .ref q_o_kept, .ref q_o_isKept, .ref q_o_years, .int b_o.1, .int b_o.2.1, .int b_o.2.2.1, .int b_o.2.2.2.1, .int b_o.2.2.2.2.1, .int v_o_spot, .int v_o_out])), (q_o_now, gI Cs 221 v_o_now), (q_o_trial, gI Cs 221 v_o_trial), (q_o_years, gI Cs 10 b_o.2.2.2.2.2)] sz)) (va_Qi (fun (r : Int32) (u : Int32 × BM × (Nat → Int32)) => post r u.1 u.2.1 u.2.2) (gB D (va_A [(q_o, .inr (6, [.int v_o_refusal, .ref q_o_text, .int v_o_size, .ref q_o_now, .ref q_o_trial, .ref q_o_diary, .int v_o_acts, .ref q_o_kept, .ref q_o_isKept, .ref q_o_years, .int b_o.1, .int b_o.2.1, .int b_o.2.2.1, .int b_o.2.2.2.1, .int b_o.2.2.2.2.1, .int v_o_spot, .int v_o_out])), (q_o_now, gI Cs 221 v_o_now), (q_o_trial, gI Cs 221 v_o_trial), (q_o_years, gI Cs 10 b_o.2.2.2.2.2)] sz) (fun u : Int32 × BM × (Nat → Int32) => [(q_o, .inr (6, [.int u.1, .ref q_o_text, .int v_o_size, .ref q_o_now, .ref q_o_trial, .ref q_o_diary, .int v_o_acts, .ref q_o_kept, .ref q_o_isKept, .ref q_o_years, .int u.2.1.1, .int u.2.1.2.1, .int u.2.1.2.2.1, .int u.2.1.2.2.2.1, .int u.2.1.2.2.2.2.1, .int v_o_spot, .int v_o_out])), (q_o_now, gI Cs 221 v_o_now), (q_o_trial, gI Cs 221 u.2.2), (q_o_years, gI Cs 10 u.2.1.2.2.2.2.2)])) (va_A [(q_o, .inr (6, [.int v_o_refusal, .ref q_o_text, .int v_o_size, .ref q_o_now, .ref q_o_trial, .ref q_o_diary, .int v_o_acts, .ref q_o_kept, .ref q_o_isKept, .ref q_o_years, .int b_o.1, .int b_o.2.1, .int b_o.2.2.1, .int b_o.2.2.2.1, .int b_o.2.2.2.2.1, .int v_o_spot, .int v_o_out])), (q_o_now, gI Cs 221 v_o_now), (q_o_trial, gI Cs 221 v_o_trial), (q_o_years, gI Cs 10 b_o.2.2.2.2.2)] sz)) 0 0 (va_A [(q_o, .inr (6, [.int v_o_refusal, .ref q_o_text, .int v_o_size, .ref q_o_now, .ref q_o_trial, .ref q_o_diary, .int v_o_acts, .ref q_o_kept, .ref q_o_isKept, .ref q_o_years, .int b_o.1, .int b_o.2.1, .int b_o.2.2.1, .int b_o.2.2.2.1, .int b_o.2.2.2.2.1, .int v_o_spot, .int v_o_out])), (q_o_now, gI Cs 221 v_o_now), (q_o_trial, gI Cs 221 v_o_trial), (q_o_years, gI Cs 10 b_o.2.2.2.2.2)] sz) := by
  refine Met.ofW (cc := cX6_runScript) (maxL := 8) (ret := (some .int)) (by decide) rfl ?_
  intro p e s m args below meth c s₁ B hml hv
  obtain ⟨ha, hsz, hP, hK, hD0, hN⟩ := hv
  have hx := B.exec
  have hb := B.bytes
  have hr := B.returns
  have hts := atoms_spec (ws := wsX6_runScript) B.pre
  have htb : ∀ w ∈ TB, w.before args s = true := fun w h9 => hts w (List.mem_cons_of_mem _ h9)
  have hown : s.vm.findClass RX6 = some m.cls := findClass_of_methodNamed B.named
  have hlocks := B.notSynchronized
  subst hsz
  have hD := hD0.self (sz := s.heap.size)
  generalize hAe : va_A [(q_o, .inr (6, [.int v_o_refusal, .ref q_o_text, .int v_o_size, .ref q_o_now, .ref q_o_trial, .ref q_o_diary, .int v_o_acts, .ref q_o_kept, .ref q_o_isKept, .ref q_o_years, .int b_o.1, .int b_o.2.1, .int b_o.2.2.1, .int b_o.2.2.2.1, .int b_o.2.2.2.2.1, .int v_o_spot, .int v_o_out])), (q_o_now, gI Cs 221 v_o_now), (q_o_trial, gI Cs 221 v_o_trial), (q_o_years, gI Cs 10 b_o.2.2.2.2.2)] s.heap.size = A at hD ⊢
  have hA : ∀ q : Nat, s.heap.size ≤ q → A q := fun q h9 => by rw [← hAe]; exact Or.inr h9
  obtain ⟨H, hH⟩ : ∃ z : Heap, z = s.heap := ⟨_, rfl⟩
  have hS : va_S A s.heap H [] := by rw [hH]; exact va_S.rf
  have hP : va_P D vwCl [(q_o, .inr (6, [.int v_o_refusal, .ref q_o_text, .int v_o_size, .ref q_o_now, .ref q_o_trial, .ref q_o_diary, .int v_o_acts, .ref q_o_kept, .ref q_o_isKept, .ref q_o_years, .int b_o.1, .int b_o.2.1, .int b_o.2.2.1, .int b_o.2.2.2.1, .int b_o.2.2.2.2.1, .int v_o_spot, .int v_o_out])), (q_o_now, gI Cs 221 v_o_now), (q_o_trial, gI Cs 221 v_o_trial), (q_o_years, gI Cs 10 b_o.2.2.2.2.2)] H := by rw [hH]; exact hP
  generalize hQ : MQ below _ args s _ _ _ = Q
  show W p l e ({ frames := 7, cells := 0, slots := 0, locals := 165 } : Room) s m args below meth c s.heap [] 0 0 Q (entryFrame m args 8)
  have hent : entryFrame m args 8 = F0 m 0 ((lg_sl ([.ref q_o, .int x1, .long x2]) ++ List.replicate (8 - (lg_sl ([.ref q_o, .int x1, .long x2])).length) Slot.unset).toArray) [] := by rw [ha]; exact lg_entry_eq m ([.ref q_o, .int x1, .long x2]) 8
  rw [hent]; clear hent
  rw [← hH]
  have hl := lv_entry ([.ref q_o, .int x1, .long x2]) (n := 8) (Nat.le_of_ble_eq_true rfl)
  generalize (lg_sl ([.ref q_o, .int x1, .long x2]) ++ List.replicate (8 - (lg_sl ([.ref q_o, .int x1, .long x2])).length) Slot.unset).toArray = ls at hl ⊢
  have hl : lv_has ls 8 [(0, .ref q_o), (1, .int x1), (2, .long x2)] := hl
  have L86 : ∀ (n : Nat) (H : Heap) (locs : List Loc) (ls : Array Slot) (w_o_refusal : Int32) (d_o : BM) (w_o_trial : (Nat → Int32)) (x4 : Int64) (x6 : Int32), va_P D vwCl [(q_o, .inr (6, [.int w_o_refusal, .ref q_o_text, .int v_o_size, .ref q_o_now, .ref q_o_trial, .ref q_o_diary, .int v_o_acts, .ref q_o_kept, .ref q_o_isKept, .ref q_o_years, .int d_o.1, .int d_o.2.1, .int d_o.2.2.1, .int d_o.2.2.2.1, .int d_o.2.2.2.2.1, .int v_o_spot, .int v_o_out])), (q_o_now, gI Cs 221 v_o_now), (q_o_trial, gI Cs 221 w_o_trial), (q_o_years, gI Cs 10 d_o.2.2.2.2.2)] H → va_D A [(q_o, .inr (6, [.int w_o_refusal, .ref q_o_text, .int v_o_size, .ref q_o_now, .ref q_o_trial, .ref q_o_diary, .int v_o_acts, .ref q_o_kept, .ref q_o_isKept, .ref q_o_years, .int d_o.1, .int d_o.2.1, .int d_o.2.2.1, .int d_o.2.2.2.1, .int d_o.2.2.2.2.1, .int v_o_spot, .int v_o_out])), (q_o_now, gI Cs 221 v_o_now), (q_o_trial, gI Cs 221 w_o_trial), (q_o_years, gI Cs 10 d_o.2.2.2.2.2)] → va_S A s.heap H locs → lv_has ls 8 [(0, .ref q_o), (1, .int x1), (2, .long x2), (4, .long x4), (6, .int x6)] → P_X6_runScript_l86 v_o_refusal b_o v_o_now v_o_trial x1 x2 post n w_o_refusal d_o w_o_trial x4 x6 → W p l e ({ frames := 7, cells := 0, slots := 0, locals := 165 } : Room) s m args below meth c H locs 0 0 Q (F0 m 86 ls []) := by
    intro n86
    induction n86 with
    | zero => intro H locs ls w_o_refusal d_o w_o_trial x4 x6 hP hD hS hl h; exact False.elim h
    | succ n86 ih86 =>
      intro H locs ls w_o_refusal d_o w_o_trial x4 x6 hP hD hS hl h
      replace h : P_X6_runScript_b86 v_o_refusal b_o v_o_now v_o_trial x1 x2 post (P_X6_runScript_l86 v_o_refusal b_o v_o_now v_o_trial x1 x2 post n86) w_o_refusal d_o w_o_trial x4 x6 := h
      unfold P_X6_runScript_b86 at h
      refine lv_iload hx hb dX6_runScript_86 (lv_at hl 4 rfl) ?_
      refine lv_iload_n hx hb dX6_runScript_88 rfl (lv_at hl 1 rfl) ?_
      refine lv_icmp_ge (tgt := 156) hx hb dX6_runScript_89 (by decide) (fun c_1 => ?_) (fun c_1 => ?_)
      · have h := h.1 c_1
        refine lv_iconst (v := (-1 : Int32)) hx hb dX6_runScript_156 (by decide) ?_
        rw [← hQ]
        exact gRetI (u := (w_o_refusal, d_o, w_o_trial)) hx hb hr rfl h hP hD hS dX6_runScript_157 hlocks
      · have h := h.2 c_1
        refine lv_lload hx hb dX6_runScript_92 (lv_at hl 3 rfl) ?_
        refine lv_ldc2 (v := (1000000 : Int64)) hx hb hown (htb _ tb_806) dX6_runScript_94 ?_
        refine lv_ldiv hx hb dX6_runScript_97 (by decide) ?_
        refine lv_topl (fun x4_2 ex4_2 => ?_)
        have h := h _ ex4_2
        refine lv_lstore (lv' := [(4, .long x4_2), (0, .ref q_o), (1, .int x1), (2, .long x2), (6, .int x6)]) hx hb dX6_runScript_98 hl (by decide) rfl (fun ls hl => ?_)
        refine lv_lload_n hx hb dX6_runScript_100 rfl (lv_at hl 3 rfl) ?_
        refine lv_lload hx hb dX6_runScript_101 (lv_at hl 0 rfl) ?_
        obtain ⟨ne_3, h⟩ := h
        refine lv_ldiv hx hb dX6_runScript_103 ne_3 ?_
        refine lv_ldc2 (v := (1000000 : Int64)) hx hb hown (htb _ tb_806) dX6_runScript_104 ?_
        refine lv_lrem hx hb dX6_runScript_107 (by decide) ?_
        refine lv_l2i (v := ((x2 / x4_2) - (x2 / x4_2) / (1000000 : Int64) * (1000000 : Int64)).toInt32) hx hb dX6_runScript_108 rfl ?_
        refine lv_topi (fun x7_4 ex7_4 => ?_)
        have h := h _ ex7_4
        refine lv_istore (lv' := [(7, .int x7_4), (4, .long x4_2), (0, .ref q_o), (1, .int x1), (2, .long x2), (6, .int x6)]) hx hb dX6_runScript_109 hl (by decide) rfl (fun ls hl => ?_)
        refine lv_aload_n hx hb dX6_runScript_111 rfl (lv_at hl 2 rfl) ?_
        refine lv_iload hx hb dX6_runScript_112 (lv_at hl 0 rfl) ?_
        refine lv_ldc (v := (100000 : Int32)) hx hb hown (htb _ tb_360) dX6_runScript_114 ?_
        refine lv_idiv hx hb dX6_runScript_116 (by decide) ?_
        refine lv_iload hx hb dX6_runScript_117 (lv_at hl 0 rfl) ?_
        refine lv_sipush (v := (10000 : Int32)) hx hb dX6_runScript_119 (by decide) ?_
        refine lv_idiv hx hb dX6_runScript_122 (by decide) ?_
        refine lv_bipush (v := (10 : Int32)) hx hb dX6_runScript_123 (by decide) ?_
        refine lv_irem hx hb dX6_runScript_125 (by decide) ?_
        refine lv_iload hx hb dX6_runScript_126 (lv_at hl 0 rfl) ?_
        refine lv_sipush (v := (1000 : Int32)) hx hb dX6_runScript_128 (by decide) ?_
        refine lv_idiv hx hb dX6_runScript_131 (by decide) ?_
        refine lv_bipush (v := (10 : Int32)) hx hb dX6_runScript_132 (by decide) ?_
        refine lv_irem hx hb dX6_runScript_134 (by decide) ?_
        refine lv_iload hx hb dX6_runScript_135 (lv_at hl 0 rfl) ?_
        refine lv_sipush (v := (1000 : Int32)) hx hb dX6_runScript_137 (by decide) ?_
        refine lv_irem hx hb dX6_runScript_140 (by decide) ?_
        refine gVM (wr := [(q_o_now, gI Cs 221 v_o_now)]) (As := [.int (x7_4 / (100000 : Int32)), .int ((x7_4 / (10000 : Int32)) - (x7_4 / (10000 : Int32)) / (10 : Int32) * (10 : Int32)), .int ((x7_4 / (1000 : Int32)) - (x7_4 / (1000 : Int32)) / (10 : Int32) * (10 : Int32)), .int (x7_4 - x7_4 / (1000 : Int32) * (1000 : Int32))]) (rest := []) ⟨hx, hb, hml, hown, htb⟩ hK hP hD hS hA hN [0, 2, 3] [1] rfl (by decide) rfl (by decide) (by decide) (c_X6_command l D Cs q_o q_o_text q_o_now q_o_trial q_o_diary q_o_kept q_o_isKept q_o_years H.size d_o w_o_trial w_o_refusal v_o_size v_o_acts v_o_spot v_o_out (x7_4 / (100000 : Int32)) ((x7_4 / (10000 : Int32)) - (x7_4 / (10000 : Int32)) / (10 : Int32) * (10 : Int32)) ((x7_4 / (1000 : Int32)) - (x7_4 / (1000 : Int32)) / (10 : Int32) * (10 : Int32)) (x7_4 - x7_4 / (1000 : Int32) * (1000 : Int32)) h) (cwV 4 htb (TB_v tb_808 tb_809 tb_810 tb_5 (TB_self tb_811)) rfl rfl rfl z_X6_command ⟨Nat.le_of_ble_eq_true rfl, Nat.le_of_ble_eq_true rfl⟩) 0 rfl rfl rfl rfl hl.1 rfl (Nat.le_of_ble_eq_true rfl) ⟨Nat.le_of_ble_eq_true rfl, Nat.le_of_ble_eq_true rfl⟩ dX6_runScript_141 (fun r_5 u H locs h hP hD hS => ?_)
        obtain ⟨m_6, m_7⟩ := u
        try dsimp only at h
        have hP : va_P D vwCl [(q_o_now, gI Cs 221 v_o_now), (q_o, .inr (6, [.int w_o_refusal, .ref q_o_text, .int v_o_size, .ref q_o_now, .ref q_o_trial, .ref q_o_diary, .int v_o_acts, .ref q_o_kept, .ref q_o_isKept, .ref q_o_years, .int m_6.1, .int m_6.2.1, .int m_6.2.2.1, .int m_6.2.2.2.1, .int m_6.2.2.2.2.1, .int v_o_spot, .int v_o_out])), (q_o_trial, gI Cs 221 m_7), (q_o_years, gI Cs 10 m_6.2.2.2.2.2)] H := hP
        have hD : va_D A [(q_o_now, gI Cs 221 v_o_now), (q_o, .inr (6, [.int w_o_refusal, .ref q_o_text, .int v_o_size, .ref q_o_now, .ref q_o_trial, .ref q_o_diary, .int v_o_acts, .ref q_o_kept, .ref q_o_isKept, .ref q_o_years, .int m_6.1, .int m_6.2.1, .int m_6.2.2.1, .int m_6.2.2.2.1, .int m_6.2.2.2.2.1, .int v_o_spot, .int v_o_out])), (q_o_trial, gI Cs 221 m_7), (q_o_years, gI Cs 10 m_6.2.2.2.2.2)] := hD
        refine lv_if_ne (tgt := 150) hx hb dX6_runScript_144 (by decide) (fun c_8 => ?_) (fun c_8 => ?_)
        · have h := h.2 c_8
          obtain ⟨x6_9, ex6_9⟩ : ∃ y : Int32, y = x6 + (1 : Int32) := ⟨_, rfl⟩
          have h := h _ ex6_9
          refine lv_iinc (v := x6_9) (lv' := [(6, .int x6_9), (7, .int x7_4), (4, .long x4_2), (0, .ref q_o), (1, .int x1), (2, .long x2)]) hx hb dX6_runScript_150 hl (k := 5) rfl (by rw [ex6_9]; rfl) (by decide) rfl (fun ls hl => ?_)
          refine lv_goto (tgt := 86) hx hb dX6_runScript_153 (by decide) ?_
          exact ih86 _ _ _ w_o_refusal m_6 m_7 x4_2 x6_9 (hP.sub [1, 0, 2, 3] rfl) (hD.sub [1, 0, 2, 3] (by decide) rfl) hS (lv_sub hl [3, 4, 5, 2, 0] rfl) h
        · have h := h.1 c_8
          refine lv_iload hx hb dX6_runScript_147 (lv_at hl 5 rfl) ?_
          rw [← hQ]
          exact gRetI (u := (w_o_refusal, m_6, m_7)) hx hb hr rfl h (hP.sub [1, 0, 2, 3] rfl) (hD.sub [1, 0, 2, 3] (by decide) rfl) hS dX6_runScript_149 hlocks
  have B62 : ∀ (H : Heap) (locs : List Loc) (ls : Array Slot) (x4 : Int64) (s1 : Int32), va_P D vwCl [(q_o, .inr (6, [.int v_o_refusal, .ref q_o_text, .int v_o_size, .ref q_o_now, .ref q_o_trial, .ref q_o_diary, .int v_o_acts, .ref q_o_kept, .ref q_o_isKept, .ref q_o_years, .int b_o.1, .int b_o.2.1, .int b_o.2.2.1, .int b_o.2.2.2.1, .int b_o.2.2.2.2.1, .int v_o_spot, .int v_o_out])), (q_o_now, gI Cs 221 v_o_now), (q_o_trial, gI Cs 221 v_o_trial), (q_o_years, gI Cs 10 b_o.2.2.2.2.2)] H → va_D A [(q_o, .inr (6, [.int v_o_refusal, .ref q_o_text, .int v_o_size, .ref q_o_now, .ref q_o_trial, .ref q_o_diary, .int v_o_acts, .ref q_o_kept, .ref q_o_isKept, .ref q_o_years, .int b_o.1, .int b_o.2.1, .int b_o.2.2.1, .int b_o.2.2.2.1, .int b_o.2.2.2.2.1, .int v_o_spot, .int v_o_out])), (q_o_now, gI Cs 221 v_o_now), (q_o_trial, gI Cs 221 v_o_trial), (q_o_years, gI Cs 10 b_o.2.2.2.2.2)] → va_S A s.heap H locs → lv_has ls 8 [(0, .ref q_o), (1, .int x1), (2, .long x2), (4, .long x4)] → P_X6_runScript_b62 v_o_refusal b_o v_o_now v_o_trial x1 x2 post x4 s1 → W p l e ({ frames := 7, cells := 0, slots := 0, locals := 165 } : Room) s m args below meth c H locs 0 0 Q (F0 m 62 ls [.int s1, .ref q_o]) := by
    intro H locs ls x4 s1 hP hD hS hl h
    unfold P_X6_runScript_b62 at h
    refine gVM (wr := [(q_o_now, gI Cs 221 v_o_now), (q_o_trial, gI Cs 221 v_o_trial), (q_o_years, gI Cs 10 b_o.2.2.2.2.2)]) (As := [.int s1]) (rest := []) ⟨hx, hb, hml, hown, htb⟩ hK hP hD hS hA hN [0] [1, 2, 3] rfl (by decide) rfl (by decide) (by decide) (c_X6_refused l D Cs q_o q_o_text q_o_now q_o_trial q_o_diary q_o_kept q_o_isKept q_o_years H.size v_o_refusal v_o_size v_o_acts b_o.1 b_o.2.1 b_o.2.2.1 b_o.2.2.2.1 b_o.2.2.2.2.1 v_o_spot v_o_out s1 h) (cwV 1 htb (TB_v tb_128 tb_129 tb_130 tb_5 (TB_self tb_131)) rfl rfl rfl z_X6_refused ⟨Nat.le_of_ble_eq_true rfl, Nat.le_of_ble_eq_true rfl⟩) 0 rfl rfl rfl rfl hl.1 rfl (Nat.le_of_ble_eq_true rfl) ⟨Nat.le_of_ble_eq_true rfl, Nat.le_of_ble_eq_true rfl⟩ dX6_runScript_62 (fun r_10 m_11 H locs h hP hD hS => ?_)
    have hP : va_P D vwCl [(q_o_now, gI Cs 221 v_o_now), (q_o_trial, gI Cs 221 v_o_trial), (q_o_years, gI Cs 10 b_o.2.2.2.2.2), (q_o, .inr (6, [.int m_11, .ref q_o_text, .int v_o_size, .ref q_o_now, .ref q_o_trial, .ref q_o_diary, .int v_o_acts, .ref q_o_kept, .ref q_o_isKept, .ref q_o_years, .int b_o.1, .int b_o.2.1, .int b_o.2.2.1, .int b_o.2.2.2.1, .int b_o.2.2.2.2.1, .int v_o_spot, .int v_o_out]))] H := hP
    have hD : va_D A [(q_o_now, gI Cs 221 v_o_now), (q_o_trial, gI Cs 221 v_o_trial), (q_o_years, gI Cs 10 b_o.2.2.2.2.2), (q_o, .inr (6, [.int m_11, .ref q_o_text, .int v_o_size, .ref q_o_now, .ref q_o_trial, .ref q_o_diary, .int v_o_acts, .ref q_o_kept, .ref q_o_isKept, .ref q_o_years, .int b_o.1, .int b_o.2.1, .int b_o.2.2.1, .int b_o.2.2.2.1, .int b_o.2.2.2.2.1, .int v_o_spot, .int v_o_out]))] := hD
    refine lv_if_eq (tgt := 70) hx hb dX6_runScript_65 (by decide) (fun c_12 => ?_) (fun c_12 => ?_)
    · have h := h.1 c_12
      refine lv_aload_n hx hb dX6_runScript_70 rfl (lv_at hl 0 rfl) ?_
      refine va_get (D := D) (ci := 6) (v := .ref q_o_now) (C := RX6) (T := TX6) (N := 17) hx hb htb inT_X6 hown hK hP 3 rfl rfl 3 (by decide) (htb _ tb_90) (fun _ h9 => h9) rfl dX6_runScript_71 ?_
      refine lv_iconst (v := (0 : Int32)) hx hb dX6_runScript_74 (by decide) ?_
      refine lv_aload_n hx hb dX6_runScript_75 rfl (lv_at hl 0 rfl) ?_
      refine va_get (D := D) (ci := 6) (v := .ref q_o_trial) (C := RX6) (T := TX6) (N := 17) hx hb htb inT_X6 hown hK hP 3 rfl rfl 4 (by decide) (htb _ tb_91) (fun _ h9 => h9) rfl dX6_runScript_76 ?_
      refine lv_iconst (v := (0 : Int32)) hx hb dX6_runScript_79 (by decide) ?_
      refine gSMv (wr := [(q_o_years, gI Cs 10 b_o.2.2.2.2.2), (q_o, .inr (6, [.int m_11, .ref q_o_text, .int v_o_size, .ref q_o_now, .ref q_o_trial, .ref q_o_diary, .int v_o_acts, .ref q_o_kept, .ref q_o_isKept, .ref q_o_years, .int b_o.1, .int b_o.2.1, .int b_o.2.2.1, .int b_o.2.2.2.1, .int b_o.2.2.2.2.1, .int v_o_spot, .int v_o_out]))]) (As := [.ref q_o_now, .int (0 : Int32), .ref q_o_trial, .int (0 : Int32)]) (rest := []) ⟨hx, hb, hml, hown, htb⟩ hK hP hD hS hA hN [0, 1] [2, 3] rfl (by decide) rfl (by decide) (by decide) (c_X6_copyState l D Cs q_o_now q_o_trial 221 221 H.size v_o_now v_o_trial (0 : Int32) (0 : Int32) h) (va_cwS 4 htb (TB_s tb_170 tb_171 tb_5 (TB_self tb_172)) rfl rfl rfl z_X6_copyState.2 ⟨Nat.le_of_ble_eq_true rfl, Nat.le_of_ble_eq_true rfl⟩) rfl hl.1 rfl (Nat.le_of_ble_eq_true rfl) ⟨Nat.le_of_ble_eq_true rfl, Nat.le_of_ble_eq_true rfl⟩ dX6_runScript_80 (fun m_14 H locs h hP hD hS => ?_)
      have hP : va_P D vwCl [(q_o_years, gI Cs 10 b_o.2.2.2.2.2), (q_o, .inr (6, [.int m_11, .ref q_o_text, .int v_o_size, .ref q_o_now, .ref q_o_trial, .ref q_o_diary, .int v_o_acts, .ref q_o_kept, .ref q_o_isKept, .ref q_o_years, .int b_o.1, .int b_o.2.1, .int b_o.2.2.1, .int b_o.2.2.2.1, .int b_o.2.2.2.2.1, .int v_o_spot, .int v_o_out])), (q_o_now, gI Cs 221 v_o_now), (q_o_trial, gI Cs 221 m_14)] H := hP
      have hD : va_D A [(q_o_years, gI Cs 10 b_o.2.2.2.2.2), (q_o, .inr (6, [.int m_11, .ref q_o_text, .int v_o_size, .ref q_o_now, .ref q_o_trial, .ref q_o_diary, .int v_o_acts, .ref q_o_kept, .ref q_o_isKept, .ref q_o_years, .int b_o.1, .int b_o.2.1, .int b_o.2.2.1, .int b_o.2.2.2.1, .int b_o.2.2.2.2.1, .int v_o_spot, .int v_o_out])), (q_o_now, gI Cs 221 v_o_now), (q_o_trial, gI Cs 221 m_14)] := hD
      refine lv_iconst (v := (0 : Int32)) hx hb dX6_runScript_83 (by decide) ?_
      refine lv_istore (lv' := [(6, .int (0 : Int32)), (0, .ref q_o), (1, .int x1), (2, .long x2), (4, .long x4)]) hx hb dX6_runScript_84 hl (by decide) rfl (fun ls hl => ?_)
      obtain ⟨n, h⟩ := h
      exact L86 n _ _ _ m_11 b_o m_14 x4 (0 : Int32) (hP.sub [1, 2, 3, 0] rfl) (hD.sub [1, 2, 3, 0] (by decide) rfl) hS (lv_sub hl [1, 2, 3, 4, 0] rfl) h
    · have h := h.2 c_12
      refine lv_iconst (v := (0 : Int32)) hx hb dX6_runScript_68 (by decide) ?_
      rw [← hQ]
      exact gRetI (u := (m_11, b_o, v_o_trial)) hx hb hr rfl h (hP.sub [3, 0, 1, 2] rfl) (hD.sub [3, 0, 1, 2] (by decide) rfl) hS dX6_runScript_69 hlocks
  have B61 : ∀ (H : Heap) (locs : List Loc) (ls : Array Slot) (x4 : Int64), va_P D vwCl [(q_o, .inr (6, [.int v_o_refusal, .ref q_o_text, .int v_o_size, .ref q_o_now, .ref q_o_trial, .ref q_o_diary, .int v_o_acts, .ref q_o_kept, .ref q_o_isKept, .ref q_o_years, .int b_o.1, .int b_o.2.1, .int b_o.2.2.1, .int b_o.2.2.2.1, .int b_o.2.2.2.2.1, .int v_o_spot, .int v_o_out])), (q_o_now, gI Cs 221 v_o_now), (q_o_trial, gI Cs 221 v_o_trial), (q_o_years, gI Cs 10 b_o.2.2.2.2.2)] H → va_D A [(q_o, .inr (6, [.int v_o_refusal, .ref q_o_text, .int v_o_size, .ref q_o_now, .ref q_o_trial, .ref q_o_diary, .int v_o_acts, .ref q_o_kept, .ref q_o_isKept, .ref q_o_years, .int b_o.1, .int b_o.2.1, .int b_o.2.2.1, .int b_o.2.2.2.1, .int b_o.2.2.2.2.1, .int v_o_spot, .int v_o_out])), (q_o_now, gI Cs 221 v_o_now), (q_o_trial, gI Cs 221 v_o_trial), (q_o_years, gI Cs 10 b_o.2.2.2.2.2)] → va_S A s.heap H locs → lv_has ls 8 [(0, .ref q_o), (1, .int x1), (2, .long x2), (4, .long x4)] → P_X6_runScript_b61 v_o_refusal b_o v_o_now v_o_trial x1 x2 post x4 → W p l e ({ frames := 7, cells := 0, slots := 0, locals := 165 } : Room) s m args below meth c H locs 0 0 Q (F0 m 61 ls [.ref q_o]) := by
    intro H locs ls x4 hP hD hS hl h
    unfold P_X6_runScript_b61 at h
    refine lv_iconst (v := (1 : Int32)) hx hb dX6_runScript_61 (by decide) ?_
    exact B62 _ _ _ x4 (1 : Int32) hP hD hS (lv_sub hl [0, 1, 2, 3] rfl) h
  have B32 : ∀ (H : Heap) (locs : List Loc) (ls : Array Slot) (x4 : Int64), va_P D vwCl [(q_o, .inr (6, [.int v_o_refusal, .ref q_o_text, .int v_o_size, .ref q_o_now, .ref q_o_trial, .ref q_o_diary, .int v_o_acts, .ref q_o_kept, .ref q_o_isKept, .ref q_o_years, .int b_o.1, .int b_o.2.1, .int b_o.2.2.1, .int b_o.2.2.2.1, .int b_o.2.2.2.2.1, .int v_o_spot, .int v_o_out])), (q_o_now, gI Cs 221 v_o_now), (q_o_trial, gI Cs 221 v_o_trial), (q_o_years, gI Cs 10 b_o.2.2.2.2.2)] H → va_D A [(q_o, .inr (6, [.int v_o_refusal, .ref q_o_text, .int v_o_size, .ref q_o_now, .ref q_o_trial, .ref q_o_diary, .int v_o_acts, .ref q_o_kept, .ref q_o_isKept, .ref q_o_years, .int b_o.1, .int b_o.2.1, .int b_o.2.2.1, .int b_o.2.2.2.1, .int b_o.2.2.2.2.1, .int v_o_spot, .int v_o_out])), (q_o_now, gI Cs 221 v_o_now), (q_o_trial, gI Cs 221 v_o_trial), (q_o_years, gI Cs 10 b_o.2.2.2.2.2)] → va_S A s.heap H locs → lv_has ls 8 [(0, .ref q_o), (1, .int x1), (2, .long x2), (4, .long x4)] → P_X6_runScript_b32 v_o_refusal b_o v_o_now v_o_trial x1 x2 post x4 → W p l e ({ frames := 7, cells := 0, slots := 0, locals := 165 } : Room) s m args below meth c H locs 0 0 Q (F0 m 32 ls []) := by
    intro H locs ls x4 hP hD hS hl h
    unfold P_X6_runScript_b32 at h
    refine lv_aload_n hx hb dX6_runScript_32 rfl (lv_at hl 0 rfl) ?_
    refine lv_iload_n hx hb dX6_runScript_33 rfl (lv_at hl 1 rfl) ?_
    refine lv_i2l (v := x1.toInt64) hx hb dX6_runScript_34 rfl ?_
    refine lv_lconst (v := (1 : Int64)) hx hb dX6_runScript_35 rfl ?_
    refine lv_ldc2 (v := (3 : Int64)) hx hb hown (htb _ tb_807) dX6_runScript_36 ?_
    refine gSR (As := [.long x1.toInt64, .long (1 : Int64), .long (3 : Int64)]) (rest := [.ref q_o]) ⟨hx, hb, hml, hown, htb⟩ hK hP hN [] rfl (c_X6_in l D Cs x1.toInt64 (1 : Int64) (3 : Int64) h) (va_cwS 3 htb (TB_s tb_125 tb_126 tb_5 (TB_self tb_127)) rfl rfl rfl z_X6_in.2 ⟨Nat.le_of_ble_eq_true rfl, Nat.le_of_ble_eq_true rfl⟩) rfl hl.1 rfl (Nat.le_of_ble_eq_true rfl) ⟨Nat.le_of_ble_eq_true rfl, Nat.le_of_ble_eq_true rfl⟩ dX6_runScript_39 (fun r_15 h => ?_)
    refine lv_if_eq (tgt := 61) hx hb dX6_runScript_42 (by decide) (fun c_16 => ?_) (fun c_16 => ?_)
    · have h := h.1 c_16
      exact B61 _ _ _ x4 hP hD hS (lv_sub hl [0, 1, 2, 3] rfl) h
    · have h := h.2 c_16
      refine lv_lload_n hx hb dX6_runScript_45 rfl (lv_at hl 2 rfl) ?_
      refine lv_lconst (v := (0 : Int64)) hx hb dX6_runScript_46 rfl ?_
      refine lv_lload hx hb dX6_runScript_47 (lv_at hl 3 rfl) ?_
      refine lv_lconst (v := (1 : Int64)) hx hb dX6_runScript_49 rfl ?_
      refine lv_lsub hx hb dX6_runScript_50 ?_
      refine gSR (As := [.long x2, .long (0 : Int64), .long (x4 - (1 : Int64))]) (rest := [.ref q_o]) ⟨hx, hb, hml, hown, htb⟩ hK hP hN [] rfl (c_X6_in l D Cs x2 (0 : Int64) (x4 - (1 : Int64)) h) (va_cwS 3 htb (TB_s tb_125 tb_126 tb_5 (TB_self tb_127)) rfl rfl rfl z_X6_in.2 ⟨Nat.le_of_ble_eq_true rfl, Nat.le_of_ble_eq_true rfl⟩) rfl hl.1 rfl (Nat.le_of_ble_eq_true rfl) ⟨Nat.le_of_ble_eq_true rfl, Nat.le_of_ble_eq_true rfl⟩ dX6_runScript_51 (fun r_17 h => ?_)
      refine lv_if_eq (tgt := 61) hx hb dX6_runScript_54 (by decide) (fun c_18 => ?_) (fun c_18 => ?_)
      · have h := h.1 c_18
        exact B61 _ _ _ x4 hP hD hS (lv_sub hl [0, 1, 2, 3] rfl) h
      · have h := h.2 c_18
        refine lv_iconst (v := (0 : Int32)) hx hb dX6_runScript_57 (by decide) ?_
        refine lv_goto (tgt := 62) hx hb dX6_runScript_58 (by decide) ?_
        exact B62 _ _ _ x4 (0 : Int32) hP hD hS (lv_sub hl [0, 1, 2, 3] rfl) h
  have L6 : ∀ (n : Nat) (H : Heap) (locs : List Loc) (ls : Array Slot) (x4 : Int64) (x6 : Int32), va_P D vwCl [(q_o, .inr (6, [.int v_o_refusal, .ref q_o_text, .int v_o_size, .ref q_o_now, .ref q_o_trial, .ref q_o_diary, .int v_o_acts, .ref q_o_kept, .ref q_o_isKept, .ref q_o_years, .int b_o.1, .int b_o.2.1, .int b_o.2.2.1, .int b_o.2.2.2.1, .int b_o.2.2.2.2.1, .int v_o_spot, .int v_o_out])), (q_o_now, gI Cs 221 v_o_now), (q_o_trial, gI Cs 221 v_o_trial), (q_o_years, gI Cs 10 b_o.2.2.2.2.2)] H → va_D A [(q_o, .inr (6, [.int v_o_refusal, .ref q_o_text, .int v_o_size, .ref q_o_now, .ref q_o_trial, .ref q_o_diary, .int v_o_acts, .ref q_o_kept, .ref q_o_isKept, .ref q_o_years, .int b_o.1, .int b_o.2.1, .int b_o.2.2.1, .int b_o.2.2.2.1, .int b_o.2.2.2.2.1, .int v_o_spot, .int v_o_out])), (q_o_now, gI Cs 221 v_o_now), (q_o_trial, gI Cs 221 v_o_trial), (q_o_years, gI Cs 10 b_o.2.2.2.2.2)] → va_S A s.heap H locs → lv_has ls 8 [(0, .ref q_o), (1, .int x1), (2, .long x2), (4, .long x4), (6, .int x6)] → P_X6_runScript_l6 v_o_refusal b_o v_o_now v_o_trial x1 x2 post n x4 x6 → W p l e ({ frames := 7, cells := 0, slots := 0, locals := 165 } : Room) s m args below meth c H locs 0 0 Q (F0 m 6 ls []) := by
    intro n6
    induction n6 with
    | zero => intro H locs ls x4 x6 hP hD hS hl h; exact False.elim h
    | succ n6 ih6 =>
      intro H locs ls x4 x6 hP hD hS hl h
      replace h : P_X6_runScript_b6 v_o_refusal b_o v_o_now v_o_trial x1 x2 post (P_X6_runScript_l6 v_o_refusal b_o v_o_now v_o_trial x1 x2 post n6) x4 x6 := h
      unfold P_X6_runScript_b6 at h
      refine lv_iload hx hb dX6_runScript_6 (lv_at hl 4 rfl) ?_
      refine lv_iload_n hx hb dX6_runScript_8 rfl (lv_at hl 1 rfl) ?_
      refine lv_icmp_ge (tgt := 32) hx hb dX6_runScript_9 (by decide) (fun c_19 => ?_) (fun c_19 => ?_)
      · have h := h.1 c_19
        exact B32 _ _ _ x4 hP hD hS (lv_sub hl [0, 1, 2, 3] rfl) h
      · have h := h.2 c_19
        refine lv_iload hx hb dX6_runScript_12 (lv_at hl 4 rfl) ?_
        refine lv_iconst (v := (3 : Int32)) hx hb dX6_runScript_14 (by decide) ?_
        refine lv_icmp_ge (tgt := 32) hx hb dX6_runScript_15 (by decide) (fun c_20 => ?_) (fun c_20 => ?_)
        · have h := h.1 c_20
          exact B32 _ _ _ x4 hP hD hS (lv_sub hl [0, 1, 2, 3] rfl) h
        · have h := h.2 c_20
          refine lv_lload hx hb dX6_runScript_18 (lv_at hl 3 rfl) ?_
          refine lv_ldc2 (v := (1000000 : Int64)) hx hb hown (htb _ tb_806) dX6_runScript_20 ?_
          refine lv_lmul hx hb dX6_runScript_23 ?_
          refine lv_topl (fun x4_21 ex4_21 => ?_)
          have h := h _ ex4_21
          refine lv_lstore (lv' := [(4, .long x4_21), (0, .ref q_o), (1, .int x1), (2, .long x2), (6, .int x6)]) hx hb dX6_runScript_24 hl (by decide) rfl (fun ls hl => ?_)
          obtain ⟨x6_22, ex6_22⟩ : ∃ y : Int32, y = x6 + (1 : Int32) := ⟨_, rfl⟩
          have h := h _ ex6_22
          refine lv_iinc (v := x6_22) (lv' := [(6, .int x6_22), (4, .long x4_21), (0, .ref q_o), (1, .int x1), (2, .long x2)]) hx hb dX6_runScript_26 hl (k := 4) rfl (by rw [ex6_22]; rfl) (by decide) rfl (fun ls hl => ?_)
          refine lv_goto (tgt := 6) hx hb dX6_runScript_29 (by decide) ?_
          exact ih6 _ _ _ x4_21 x6_22 hP hD hS (lv_sub hl [2, 3, 4, 1, 0] rfl) h
  unfold P_X6_runScript at h
  refine lv_lconst (v := (1 : Int64)) hx hb dX6_runScript_0 rfl ?_
  refine lv_lstore (lv' := [(4, .long (1 : Int64)), (0, .ref q_o), (1, .int x1), (2, .long x2)]) hx hb dX6_runScript_1 hl (by decide) rfl (fun ls hl => ?_)
  refine lv_iconst (v := (0 : Int32)) hx hb dX6_runScript_3 (by decide) ?_
  refine lv_istore (lv' := [(6, .int (0 : Int32)), (4, .long (1 : Int64)), (0, .ref q_o), (1, .int x1), (2, .long x2)]) hx hb dX6_runScript_4 hl (by decide) rfl (fun ls hl => ?_)
  obtain ⟨n, h⟩ := h
  exact L6 n _ _ _ (1 : Int64) (0 : Int32) hP hD hS (lv_sub hl [2, 3, 4, 1, 0] rfl) h
set_option maxHeartbeats 4000000 in
set_option maxRecDepth 100000 in
theorem c_X6_turn (l : Launch) (D : va_G) (Cs : Nat → ClassId) (q_o : Nat) (q_o_text : Nat) (q_o_now : Nat) (q_o_trial : Nat) (q_o_diary : Nat) (q_o_kept : Nat) (q_o_isKept : Nat) (q_o_years : Nat) (sz : Nat) (v_o_trial : (Nat → Int32)) (v_o_refusal : Int32) (v_o_size : Int32) (v_o_acts : Int32) (v_o_least : Int32) (v_o_origins : Int32) (v_o_ofAll : Int32) (v_o_ofSome : Int32) (v_o_sets : Int32) (v_o_spot : Int32) (v_o_out : Int32) (x1 : Int32) {post : (Nat → Int32) → Prop} (h : P_X6_turn v_o_trial x1 post) : Met l yX6_turn wsX6_turn ({ frames := 4, cells := 0, slots := 0, locals := 92 } : Room) (va_Pc [.ref q_o, .int x1] (gM D Cs [(q_o, .inr (6, [.int v_o_refusal, .ref q_o_text, .int v_o_size, .ref q_o_now, .ref q_o_trial, .ref q_o_diary, .int v_o_acts, .ref q_o_kept, .ref q_o_isKept, .ref q_o_years, .int v_o_least, .int v_o_origins, .int v_o_ofAll, .int v_o_ofSome, .int v_o_sets, .int v_o_spot, .int v_o_out])), (q_o_trial, gI Cs 221 v_o_trial)] sz)) (va_Qv (fun (u : (Nat → Int32)) => post u) (gB D (va_A [(q_o, .inr (6, [.int v_o_refusal, .ref q_o_text, .int v_o_size, .ref q_o_now, .ref q_o_trial, .ref q_o_diary, .int v_o_acts, .ref q_o_kept, .ref q_o_isKept, .ref q_o_years, .int v_o_least, .int v_o_origins, .int v_o_ofAll, .int v_o_ofSome, .int v_o_sets, .int v_o_spot, .int v_o_out])), (q_o_trial, gI Cs 221 v_o_trial)] sz) (fun u : (Nat → Int32) => [(q_o, .inr (6, [.int v_o_refusal, .ref q_o_text, .int v_o_size, .ref q_o_now, .ref q_o_trial, .ref q_o_diary, .int v_o_acts, .ref q_o_kept, .ref q_o_isKept, .ref q_o_years, .int v_o_least, .int v_o_origins, .int v_o_ofAll, .int v_o_ofSome, .int v_o_sets, .int v_o_spot, .int v_o_out])), (q_o_trial, gI Cs 221 u)])) (va_A [(q_o, .inr (6, [.int v_o_refusal, .ref q_o_text, .int v_o_size, .ref q_o_now, .ref q_o_trial, .ref q_o_diary, .int v_o_acts, .ref q_o_kept, .ref q_o_isKept, .ref q_o_years, .int v_o_least, .int v_o_origins, .int v_o_ofAll, .int v_o_ofSome, .int v_o_sets, .int v_o_spot, .int v_o_out])), (q_o_trial, gI Cs 221 v_o_trial)] sz)) 0 0 (va_A [(q_o, .inr (6, [.int v_o_refusal, .ref q_o_text, .int v_o_size, .ref q_o_now, .ref q_o_trial, .ref q_o_diary, .int v_o_acts, .ref q_o_kept, .ref q_o_isKept, .ref q_o_years, .int v_o_least, .int v_o_origins, .int v_o_ofAll, .int v_o_ofSome, .int v_o_sets, .int v_o_spot, .int v_o_out])), (q_o_trial, gI Cs 221 v_o_trial)] sz) := by
  refine Met.ofW (cc := cX6_turn) (maxL := 6) (ret := none) (by decide) rfl ?_
  intro p e s m args below meth c s₁ B hml hv
  obtain ⟨ha, hsz, hP, hK, hD0, hN⟩ := hv
  have hx := B.exec
  have hb := B.bytes
  have hr := B.returns
  have hts := atoms_spec (ws := wsX6_turn) B.pre
  have htb : ∀ w ∈ TB, w.before args s = true := fun w h9 => hts w (List.mem_cons_of_mem _ h9)
  have hown : s.vm.findClass RX6 = some m.cls := findClass_of_methodNamed B.named
  have hlocks := B.notSynchronized
  subst hsz
  have hD := hD0.self (sz := s.heap.size)
  generalize hAe : va_A [(q_o, .inr (6, [.int v_o_refusal, .ref q_o_text, .int v_o_size, .ref q_o_now, .ref q_o_trial, .ref q_o_diary, .int v_o_acts, .ref q_o_kept, .ref q_o_isKept, .ref q_o_years, .int v_o_least, .int v_o_origins, .int v_o_ofAll, .int v_o_ofSome, .int v_o_sets, .int v_o_spot, .int v_o_out])), (q_o_trial, gI Cs 221 v_o_trial)] s.heap.size = A at hD ⊢
  have hA : ∀ q : Nat, s.heap.size ≤ q → A q := fun q h9 => by rw [← hAe]; exact Or.inr h9
  obtain ⟨H, hH⟩ : ∃ z : Heap, z = s.heap := ⟨_, rfl⟩
  have hS : va_S A s.heap H [] := by rw [hH]; exact va_S.rf
  have hP : va_P D vwCl [(q_o, .inr (6, [.int v_o_refusal, .ref q_o_text, .int v_o_size, .ref q_o_now, .ref q_o_trial, .ref q_o_diary, .int v_o_acts, .ref q_o_kept, .ref q_o_isKept, .ref q_o_years, .int v_o_least, .int v_o_origins, .int v_o_ofAll, .int v_o_ofSome, .int v_o_sets, .int v_o_spot, .int v_o_out])), (q_o_trial, gI Cs 221 v_o_trial)] H := by rw [hH]; exact hP
  generalize hQ : MQ below _ args s _ _ _ = Q
  show W p l e ({ frames := 4, cells := 0, slots := 0, locals := 92 } : Room) s m args below meth c s.heap [] 0 0 Q (entryFrame m args 6)
  have hent : entryFrame m args 6 = F0 m 0 ((lg_sl ([.ref q_o, .int x1]) ++ List.replicate (6 - (lg_sl ([.ref q_o, .int x1])).length) Slot.unset).toArray) [] := by rw [ha]; exact lg_entry_eq m ([.ref q_o, .int x1]) 6
  rw [hent]; clear hent
  rw [← hH]
  have hl := lv_entry ([.ref q_o, .int x1]) (n := 6) (Nat.le_of_ble_eq_true rfl)
  generalize (lg_sl ([.ref q_o, .int x1]) ++ List.replicate (6 - (lg_sl ([.ref q_o, .int x1])).length) Slot.unset).toArray = ls at hl ⊢
  have hl : lv_has ls 6 [(0, .ref q_o), (1, .int x1)] := hl
  have B229 : ∀ (H : Heap) (locs : List Loc) (ls : Array Slot) (w_o_trial : (Nat → Int32)), va_P D vwCl [(q_o, .inr (6, [.int v_o_refusal, .ref q_o_text, .int v_o_size, .ref q_o_now, .ref q_o_trial, .ref q_o_diary, .int v_o_acts, .ref q_o_kept, .ref q_o_isKept, .ref q_o_years, .int v_o_least, .int v_o_origins, .int v_o_ofAll, .int v_o_ofSome, .int v_o_sets, .int v_o_spot, .int v_o_out])), (q_o_trial, gI Cs 221 w_o_trial)] H → va_D A [(q_o, .inr (6, [.int v_o_refusal, .ref q_o_text, .int v_o_size, .ref q_o_now, .ref q_o_trial, .ref q_o_diary, .int v_o_acts, .ref q_o_kept, .ref q_o_isKept, .ref q_o_years, .int v_o_least, .int v_o_origins, .int v_o_ofAll, .int v_o_ofSome, .int v_o_sets, .int v_o_spot, .int v_o_out])), (q_o_trial, gI Cs 221 w_o_trial)] → va_S A s.heap H locs → lv_has ls 6 [(0, .ref q_o), (1, .int x1)] → P_X6_turn_b229 v_o_trial x1 post w_o_trial → W p l e ({ frames := 4, cells := 0, slots := 0, locals := 92 } : Room) s m args below meth c H locs 0 0 Q (F0 m 229 ls []) := by
    intro H locs ls w_o_trial hP hD hS hl h
    unfold P_X6_turn_b229 at h
    rw [← hQ]
    exact gRetV (u := w_o_trial) hx hb hr h hP hD hS dX6_turn_229 hlocks
  have B70 : ∀ (H : Heap) (locs : List Loc) (ls : Array Slot) (s1 : Int32) (s2 : Int32) (s3 : Int32), va_P D vwCl [(q_o, .inr (6, [.int v_o_refusal, .ref q_o_text, .int v_o_size, .ref q_o_now, .ref q_o_trial, .ref q_o_diary, .int v_o_acts, .ref q_o_kept, .ref q_o_isKept, .ref q_o_years, .int v_o_least, .int v_o_origins, .int v_o_ofAll, .int v_o_ofSome, .int v_o_sets, .int v_o_spot, .int v_o_out])), (q_o_trial, gI Cs 221 v_o_trial)] H → va_D A [(q_o, .inr (6, [.int v_o_refusal, .ref q_o_text, .int v_o_size, .ref q_o_now, .ref q_o_trial, .ref q_o_diary, .int v_o_acts, .ref q_o_kept, .ref q_o_isKept, .ref q_o_years, .int v_o_least, .int v_o_origins, .int v_o_ofAll, .int v_o_ofSome, .int v_o_sets, .int v_o_spot, .int v_o_out])), (q_o_trial, gI Cs 221 v_o_trial)] → va_S A s.heap H locs → lv_has ls 6 [(0, .ref q_o), (1, .int x1)] → P_X6_turn_b70 v_o_trial x1 post s1 s2 s3 → W p l e ({ frames := 4, cells := 0, slots := 0, locals := 92 } : Room) s m args below meth c H locs 0 0 Q (F0 m 70 ls [.int s3, .int s2, .int s1, .ref q_o_trial]) := by
    intro H locs ls s1 s2 s3 hP hD hS hl h
    unfold P_X6_turn_b70 at h
    refine lv_iadd hx hb dX6_turn_70 ?_
    obtain ⟨hi_1, h⟩ := h
    refine va_iast hx hb hK hP hD hS 1 0 rfl rfl hi_1 dX6_turn_71 (fun H locs hP hD hS => ?_)
    have hP : va_P D vwCl [(q_o, .inr (6, [.int v_o_refusal, .ref q_o_text, .int v_o_size, .ref q_o_now, .ref q_o_trial, .ref q_o_diary, .int v_o_acts, .ref q_o_kept, .ref q_o_isKept, .ref q_o_years, .int v_o_least, .int v_o_origins, .int v_o_ofAll, .int v_o_ofSome, .int v_o_sets, .int v_o_spot, .int v_o_out])), (q_o_trial, gI Cs 221 (upd v_o_trial s1.toNatClampNeg (s2 + s3)))] H := hP
    have hD : va_D A [(q_o, .inr (6, [.int v_o_refusal, .ref q_o_text, .int v_o_size, .ref q_o_now, .ref q_o_trial, .ref q_o_diary, .int v_o_acts, .ref q_o_kept, .ref q_o_isKept, .ref q_o_years, .int v_o_least, .int v_o_origins, .int v_o_ofAll, .int v_o_ofSome, .int v_o_sets, .int v_o_spot, .int v_o_out])), (q_o_trial, gI Cs 221 (upd v_o_trial s1.toNatClampNeg (s2 + s3)))] := hD
    refine lv_goto (tgt := 229) hx hb dX6_turn_72 (by decide) ?_
    exact B229 _ _ _ (upd v_o_trial s1.toNatClampNeg (s2 + s3)) hP hD hS (lv_sub hl [0, 1] rfl) h
  have B225 : ∀ (H : Heap) (locs : List Loc) (ls : Array Slot) (s1 : Int32) (s2 : Int32) (s3 : Int32) (s4 : Int32), va_P D vwCl [(q_o, .inr (6, [.int v_o_refusal, .ref q_o_text, .int v_o_size, .ref q_o_now, .ref q_o_trial, .ref q_o_diary, .int v_o_acts, .ref q_o_kept, .ref q_o_isKept, .ref q_o_years, .int v_o_least, .int v_o_origins, .int v_o_ofAll, .int v_o_ofSome, .int v_o_sets, .int v_o_spot, .int v_o_out])), (q_o_trial, gI Cs 221 v_o_trial)] H → va_D A [(q_o, .inr (6, [.int v_o_refusal, .ref q_o_text, .int v_o_size, .ref q_o_now, .ref q_o_trial, .ref q_o_diary, .int v_o_acts, .ref q_o_kept, .ref q_o_isKept, .ref q_o_years, .int v_o_least, .int v_o_origins, .int v_o_ofAll, .int v_o_ofSome, .int v_o_sets, .int v_o_spot, .int v_o_out])), (q_o_trial, gI Cs 221 v_o_trial)] → va_S A s.heap H locs → lv_has ls 6 [(0, .ref q_o), (1, .int x1)] → P_X6_turn_b225 v_o_trial x1 post s1 s2 s3 s4 → W p l e ({ frames := 4, cells := 0, slots := 0, locals := 92 } : Room) s m args below meth c H locs 0 0 Q (F0 m 225 ls [.int s4, .int s3, .int s2, .int s1, .ref q_o_trial]) := by
    intro H locs ls s1 s2 s3 s4 hP hD hS hl h
    unfold P_X6_turn_b225 at h
    refine gSM (wr := [(q_o, .inr (6, [.int v_o_refusal, .ref q_o_text, .int v_o_size, .ref q_o_now, .ref q_o_trial, .ref q_o_diary, .int v_o_acts, .ref q_o_kept, .ref q_o_isKept, .ref q_o_years, .int v_o_least, .int v_o_origins, .int v_o_ofAll, .int v_o_ofSome, .int v_o_sets, .int v_o_spot, .int v_o_out]))]) (As := [.ref q_o_trial, .int s1, .int s2, .int s3, .int s4]) (rest := []) ⟨hx, hb, hml, hown, htb⟩ hK hP hD hS hA hN [1] [0] rfl (by decide) rfl (by decide) (by decide) (c_X6_seeOn l D Cs q_o_trial 221 H.size v_o_trial s1 s2 s3 s4 h) (va_cwS 5 htb (TB_s tb_200 tb_201 tb_5 (TB_self tb_202)) rfl rfl rfl z_X6_seeOn.2 ⟨Nat.le_of_ble_eq_true rfl, Nat.le_of_ble_eq_true rfl⟩) rfl hl.1 rfl (Nat.le_of_ble_eq_true rfl) ⟨Nat.le_of_ble_eq_true rfl, Nat.le_of_ble_eq_true rfl⟩ dX6_turn_225 (fun r_2 m_3 H locs h hP hD hS => ?_)
    have hP : va_P D vwCl [(q_o, .inr (6, [.int v_o_refusal, .ref q_o_text, .int v_o_size, .ref q_o_now, .ref q_o_trial, .ref q_o_diary, .int v_o_acts, .ref q_o_kept, .ref q_o_isKept, .ref q_o_years, .int v_o_least, .int v_o_origins, .int v_o_ofAll, .int v_o_ofSome, .int v_o_sets, .int v_o_spot, .int v_o_out])), (q_o_trial, gI Cs 221 m_3)] H := hP
    have hD : va_D A [(q_o, .inr (6, [.int v_o_refusal, .ref q_o_text, .int v_o_size, .ref q_o_now, .ref q_o_trial, .ref q_o_diary, .int v_o_acts, .ref q_o_kept, .ref q_o_isKept, .ref q_o_years, .int v_o_least, .int v_o_origins, .int v_o_ofAll, .int v_o_ofSome, .int v_o_sets, .int v_o_spot, .int v_o_out])), (q_o_trial, gI Cs 221 m_3)] := hD
    refine lv_pop hx hb dX6_turn_228 rfl ?_
    exact B229 _ _ _ m_3 hP hD hS (lv_sub hl [0, 1] rfl) h
  have B213 : ∀ (H : Heap) (locs : List Loc) (ls : Array Slot) (x5 : Int32) (s1 : Int32) (s2 : Int32) (s3 : Int32), va_P D vwCl [(q_o, .inr (6, [.int v_o_refusal, .ref q_o_text, .int v_o_size, .ref q_o_now, .ref q_o_trial, .ref q_o_diary, .int v_o_acts, .ref q_o_kept, .ref q_o_isKept, .ref q_o_years, .int v_o_least, .int v_o_origins, .int v_o_ofAll, .int v_o_ofSome, .int v_o_sets, .int v_o_spot, .int v_o_out])), (q_o_trial, gI Cs 221 v_o_trial)] H → va_D A [(q_o, .inr (6, [.int v_o_refusal, .ref q_o_text, .int v_o_size, .ref q_o_now, .ref q_o_trial, .ref q_o_diary, .int v_o_acts, .ref q_o_kept, .ref q_o_isKept, .ref q_o_years, .int v_o_least, .int v_o_origins, .int v_o_ofAll, .int v_o_ofSome, .int v_o_sets, .int v_o_spot, .int v_o_out])), (q_o_trial, gI Cs 221 v_o_trial)] → va_S A s.heap H locs → lv_has ls 6 [(0, .ref q_o), (1, .int x1), (5, .int x5)] → P_X6_turn_b213 v_o_trial x1 post x5 s1 s2 s3 → W p l e ({ frames := 4, cells := 0, slots := 0, locals := 92 } : Room) s m args below meth c H locs 0 0 Q (F0 m 213 ls [.int s3, .int s2, .int s1, .ref q_o_trial]) := by
    intro H locs ls x5 s1 s2 s3 hP hD hS hl h
    unfold P_X6_turn_b213 at h
    refine lv_iload hx hb dX6_turn_213 (lv_at hl 2 rfl) ?_
    refine lv_bipush (v := (13 : Int32)) hx hb dX6_turn_215 (by decide) ?_
    refine lv_icmp_ge (tgt := 224) hx hb dX6_turn_217 (by decide) (fun c_4 => ?_) (fun c_4 => ?_)
    · have h := h.1 c_4
      refine lv_iconst (v := (0 : Int32)) hx hb dX6_turn_224 (by decide) ?_
      exact B225 _ _ _ s1 s2 s3 (0 : Int32) hP hD hS (lv_sub hl [0, 1] rfl) h
    · have h := h.2 c_4
      refine lv_iconst (v := (1 : Int32)) hx hb dX6_turn_220 (by decide) ?_
      refine lv_goto (tgt := 225) hx hb dX6_turn_221 (by decide) ?_
      exact B225 _ _ _ s1 s2 s3 (1 : Int32) hP hD hS (lv_sub hl [0, 1] rfl) h
  have B19 : ∀ (H : Heap) (locs : List Loc) (ls : Array Slot) (s0 : Int32), va_P D vwCl [(q_o, .inr (6, [.int v_o_refusal, .ref q_o_text, .int v_o_size, .ref q_o_now, .ref q_o_trial, .ref q_o_diary, .int v_o_acts, .ref q_o_kept, .ref q_o_isKept, .ref q_o_years, .int v_o_least, .int v_o_origins, .int v_o_ofAll, .int v_o_ofSome, .int v_o_sets, .int v_o_spot, .int v_o_out])), (q_o_trial, gI Cs 221 v_o_trial)] H → va_D A [(q_o, .inr (6, [.int v_o_refusal, .ref q_o_text, .int v_o_size, .ref q_o_now, .ref q_o_trial, .ref q_o_diary, .int v_o_acts, .ref q_o_kept, .ref q_o_isKept, .ref q_o_years, .int v_o_least, .int v_o_origins, .int v_o_ofAll, .int v_o_ofSome, .int v_o_sets, .int v_o_spot, .int v_o_out])), (q_o_trial, gI Cs 221 v_o_trial)] → va_S A s.heap H locs → lv_has ls 6 [(0, .ref q_o), (1, .int x1)] → P_X6_turn_b19 v_o_trial x1 post s0 → W p l e ({ frames := 4, cells := 0, slots := 0, locals := 92 } : Room) s m args below meth c H locs 0 0 Q (F0 m 19 ls [.int s0]) := by
    intro H locs ls s0 hP hD hS hl h
    unfold P_X6_turn_b19 at h
    refine lv_istore_n (lv' := [(2, .int s0), (0, .ref q_o), (1, .int x1)]) hx hb dX6_turn_19 rfl hl (by decide) rfl (fun ls hl => ?_)
    refine lv_iload_n hx hb dX6_turn_20 rfl (lv_at hl 2 rfl) ?_
    refine lv_bipush (v := (16 : Int32)) hx hb dX6_turn_21 (by decide) ?_
    refine lv_idiv hx hb dX6_turn_23 (by decide) ?_
    refine lv_iload_n hx hb dX6_turn_24 rfl (lv_at hl 0 rfl) ?_
    obtain ⟨ne_5, h⟩ := h
    refine lv_irem hx hb dX6_turn_25 ne_5 ?_
    refine lv_topi (fun x3_6 ex3_6 => ?_)
    have h := h _ ex3_6
    refine lv_istore_n (lv' := [(3, .int x3_6), (2, .int s0), (0, .ref q_o), (1, .int x1)]) hx hb dX6_turn_26 rfl hl (by decide) rfl (fun ls hl => ?_)
    refine lv_iload_n hx hb dX6_turn_27 rfl (lv_at hl 3 rfl) ?_
    refine lv_sipush (v := (256 : Int32)) hx hb dX6_turn_28 (by decide) ?_
    refine lv_idiv hx hb dX6_turn_31 (by decide) ?_
    refine lv_iload_n hx hb dX6_turn_32 rfl (lv_at hl 1 rfl) ?_
    obtain ⟨ne_7, h⟩ := h
    refine lv_irem hx hb dX6_turn_33 ne_7 ?_
    refine lv_topi (fun x4_8 ex4_8 => ?_)
    have h := h _ ex4_8
    refine lv_istore (lv' := [(4, .int x4_8), (3, .int x3_6), (2, .int s0), (0, .ref q_o), (1, .int x1)]) hx hb dX6_turn_34 hl (by decide) rfl (fun ls hl => ?_)
    refine lv_iload_n hx hb dX6_turn_36 rfl (lv_at hl 4 rfl) ?_
    refine lv_bipush (v := (16 : Int32)) hx hb dX6_turn_37 (by decide) ?_
    refine lv_irem hx hb dX6_turn_39 (by decide) ?_
    refine lv_topi (fun x5_9 ex5_9 => ?_)
    have h := h _ ex5_9
    refine lv_istore (lv' := [(5, .int x5_9), (4, .int x4_8), (3, .int x3_6), (2, .int s0), (0, .ref q_o), (1, .int x1)]) hx hb dX6_turn_40 hl (by decide) rfl (fun ls hl => ?_)
    refine lv_iload hx hb dX6_turn_42 (lv_at hl 0 rfl) ?_
    refine lv_if_ne (tgt := 75) hx hb dX6_turn_44 (by decide) (fun c_10 => ?_) (fun c_10 => ?_)
    · have h := h.2 c_10
      refine lv_iload hx hb dX6_turn_75 (lv_at hl 0 rfl) ?_
      refine lv_iconst (v := (5 : Int32)) hx hb dX6_turn_77 (by decide) ?_
      refine lv_icmp_ge (tgt := 128) hx hb dX6_turn_78 (by decide) (fun c_11 => ?_) (fun c_11 => ?_)
      · have h := h.1 c_11
        refine lv_iload hx hb dX6_turn_128 (lv_at hl 0 rfl) ?_
        refine lv_iconst (v := (5 : Int32)) hx hb dX6_turn_130 (by decide) ?_
        refine lv_icmp_ne (tgt := 162) hx hb dX6_turn_131 (by decide) (fun c_12 => ?_) (fun c_12 => ?_)
        · have h := h.2 c_12
          refine lv_aload_n hx hb dX6_turn_162 rfl (lv_at hl 4 rfl) ?_
          refine va_get (D := D) (ci := 6) (v := .ref q_o_trial) (C := RX6) (T := TX6) (N := 17) hx hb htb inT_X6 hown hK hP 0 rfl rfl 4 (by decide) (htb _ tb_91) (fun _ h9 => h9) rfl dX6_turn_163 ?_
          refine lv_iload_n hx hb dX6_turn_166 rfl (lv_at hl 2 rfl) ?_
          refine gSR (As := [.ref q_o_trial, .int x3_6]) (rest := []) ⟨hx, hb, hml, hown, htb⟩ hK hP hN [1] rfl (c_X6_isTown l D Cs q_o_trial 221 v_o_trial x3_6 h) (va_cwS 2 htb (TB_s tb_197 tb_198 tb_5 (TB_self tb_199)) rfl rfl rfl z_X6_isTown.2 ⟨Nat.le_of_ble_eq_true rfl, Nat.le_of_ble_eq_true rfl⟩) rfl hl.1 rfl (Nat.le_of_ble_eq_true rfl) ⟨Nat.le_of_ble_eq_true rfl, Nat.le_of_ble_eq_true rfl⟩ dX6_turn_167 (fun r_13 h => ?_)
          refine lv_if_eq (tgt := 229) hx hb dX6_turn_170 (by decide) (fun c_14 => ?_) (fun c_14 => ?_)
          · have h := h.1 c_14
            exact B229 _ _ _ v_o_trial hP hD hS (lv_sub hl [4, 5] rfl) h
          · have h := h.2 c_14
            refine lv_aload_n hx hb dX6_turn_173 rfl (lv_at hl 4 rfl) ?_
            refine va_get (D := D) (ci := 6) (v := .ref q_o_trial) (C := RX6) (T := TX6) (N := 17) hx hb htb inT_X6 hown hK hP 0 rfl rfl 4 (by decide) (htb _ tb_91) (fun _ h9 => h9) rfl dX6_turn_174 ?_
            refine lv_iload_n hx hb dX6_turn_177 rfl (lv_at hl 2 rfl) ?_
            refine lv_iload_n hx hb dX6_turn_178 rfl (lv_at hl 5 rfl) ?_
            refine lv_bipush (v := (64 : Int32)) hx hb dX6_turn_179 (by decide) ?_
            refine lv_idiv hx hb dX6_turn_181 (by decide) ?_
            refine lv_bipush (v := (6 : Int32)) hx hb dX6_turn_182 (by decide) ?_
            refine lv_irem hx hb dX6_turn_184 (by decide) ?_
            refine lv_iload hx hb dX6_turn_185 (lv_at hl 0 rfl) ?_
            refine lv_bipush (v := (13 : Int32)) hx hb dX6_turn_187 (by decide) ?_
            refine lv_icmp_ge (tgt := 204) hx hb dX6_turn_189 (by decide) (fun c_15 => ?_) (fun c_15 => ?_)
            · have h := h.1 c_15
              refine lv_iload_n hx hb dX6_turn_204 rfl (lv_at hl 5 rfl) ?_
              refine lv_sipush (v := (512 : Int32)) hx hb dX6_turn_205 (by decide) ?_
              refine lv_idiv hx hb dX6_turn_208 (by decide) ?_
              refine lv_sipush (v := (200 : Int32)) hx hb dX6_turn_209 (by decide) ?_
              refine lv_irem hx hb dX6_turn_212 (by decide) ?_
              exact B213 _ _ _ x5_9 x3_6 ((x1 / (64 : Int32)) - (x1 / (64 : Int32)) / (6 : Int32) * (6 : Int32)) ((x1 / (512 : Int32)) - (x1 / (512 : Int32)) / (200 : Int32) * (200 : Int32)) hP hD hS (lv_sub hl [4, 5, 0] rfl) h
            · have h := h.2 c_15
              refine lv_iload_n hx hb dX6_turn_192 rfl (lv_at hl 5 rfl) ?_
              refine lv_sipush (v := (512 : Int32)) hx hb dX6_turn_193 (by decide) ?_
              refine lv_idiv hx hb dX6_turn_196 (by decide) ?_
              refine lv_sipush (v := (1000 : Int32)) hx hb dX6_turn_197 (by decide) ?_
              refine lv_irem hx hb dX6_turn_200 (by decide) ?_
              refine lv_goto (tgt := 213) hx hb dX6_turn_201 (by decide) ?_
              exact B213 _ _ _ x5_9 x3_6 ((x1 / (64 : Int32)) - (x1 / (64 : Int32)) / (6 : Int32) * (6 : Int32)) ((x1 / (512 : Int32)) - (x1 / (512 : Int32)) / (1000 : Int32) * (1000 : Int32)) hP hD hS (lv_sub hl [4, 5, 0] rfl) h
        · have h := h.1 c_12
          refine lv_aload_n hx hb dX6_turn_134 rfl (lv_at hl 4 rfl) ?_
          refine va_get (D := D) (ci := 6) (v := .ref q_o_trial) (C := RX6) (T := TX6) (N := 17) hx hb htb inT_X6 hown hK hP 0 rfl rfl 4 (by decide) (htb _ tb_91) (fun _ h9 => h9) rfl dX6_turn_135 ?_
          refine lv_iload_n hx hb dX6_turn_138 rfl (lv_at hl 2 rfl) ?_
          refine lv_iload hx hb dX6_turn_139 (lv_at hl 1 rfl) ?_
          refine gSR (As := [.ref q_o_trial, .int x3_6, .int x4_8]) (rest := []) ⟨hx, hb, hml, hown, htb⟩ hK hP hN [1] rfl (c_X6_areTowns l D Cs q_o_trial 221 v_o_trial x3_6 x4_8 h) (va_cwS 3 htb (TB_s tb_399 tb_400 tb_5 (TB_self tb_401)) rfl rfl rfl z_X6_areTowns.2 ⟨Nat.le_of_ble_eq_true rfl, Nat.le_of_ble_eq_true rfl⟩) rfl hl.1 rfl (Nat.le_of_ble_eq_true rfl) ⟨Nat.le_of_ble_eq_true rfl, Nat.le_of_ble_eq_true rfl⟩ dX6_turn_141 (fun r_16 h => ?_)
          refine lv_if_eq (tgt := 229) hx hb dX6_turn_144 (by decide) (fun c_17 => ?_) (fun c_17 => ?_)
          · have h := h.1 c_17
            exact B229 _ _ _ v_o_trial hP hD hS (lv_sub hl [4, 5] rfl) h
          · have h := h.2 c_17
            refine lv_aload_n hx hb dX6_turn_147 rfl (lv_at hl 4 rfl) ?_
            refine va_get (D := D) (ci := 6) (v := .ref q_o_trial) (C := RX6) (T := TX6) (N := 17) hx hb htb inT_X6 hown hK hP 0 rfl rfl 4 (by decide) (htb _ tb_91) (fun _ h9 => h9) rfl dX6_turn_148 ?_
            refine lv_iload_n hx hb dX6_turn_151 rfl (lv_at hl 2 rfl) ?_
            refine lv_iload hx hb dX6_turn_152 (lv_at hl 1 rfl) ?_
            refine lv_iconst (v := (0 : Int32)) hx hb dX6_turn_154 (by decide) ?_
            refine gSM (wr := [(q_o, .inr (6, [.int v_o_refusal, .ref q_o_text, .int v_o_size, .ref q_o_now, .ref q_o_trial, .ref q_o_diary, .int v_o_acts, .ref q_o_kept, .ref q_o_isKept, .ref q_o_years, .int v_o_least, .int v_o_origins, .int v_o_ofAll, .int v_o_ofSome, .int v_o_sets, .int v_o_spot, .int v_o_out]))]) (As := [.ref q_o_trial, .int x3_6, .int x4_8, .int (0 : Int32)]) (rest := []) ⟨hx, hb, hml, hown, htb⟩ hK hP hD hS hA hN [1] [0] rfl (by decide) rfl (by decide) (by decide) (c_X6_layOn l D Cs q_o_trial 221 H.size v_o_trial x3_6 x4_8 (0 : Int32) h) (va_cwS 4 htb (TB_s tb_513 tb_514 tb_5 (TB_self tb_515)) rfl rfl rfl z_X6_layOn.2 ⟨Nat.le_of_ble_eq_true rfl, Nat.le_of_ble_eq_true rfl⟩) rfl hl.1 rfl (Nat.le_of_ble_eq_true rfl) ⟨Nat.le_of_ble_eq_true rfl, Nat.le_of_ble_eq_true rfl⟩ dX6_turn_155 (fun r_18 m_19 H locs h hP hD hS => ?_)
            have hP : va_P D vwCl [(q_o, .inr (6, [.int v_o_refusal, .ref q_o_text, .int v_o_size, .ref q_o_now, .ref q_o_trial, .ref q_o_diary, .int v_o_acts, .ref q_o_kept, .ref q_o_isKept, .ref q_o_years, .int v_o_least, .int v_o_origins, .int v_o_ofAll, .int v_o_ofSome, .int v_o_sets, .int v_o_spot, .int v_o_out])), (q_o_trial, gI Cs 221 m_19)] H := hP
            have hD : va_D A [(q_o, .inr (6, [.int v_o_refusal, .ref q_o_text, .int v_o_size, .ref q_o_now, .ref q_o_trial, .ref q_o_diary, .int v_o_acts, .ref q_o_kept, .ref q_o_isKept, .ref q_o_years, .int v_o_least, .int v_o_origins, .int v_o_ofAll, .int v_o_ofSome, .int v_o_sets, .int v_o_spot, .int v_o_out])), (q_o_trial, gI Cs 221 m_19)] := hD
            refine lv_pop hx hb dX6_turn_158 rfl ?_
            refine lv_goto (tgt := 229) hx hb dX6_turn_159 (by decide) ?_
            exact B229 _ _ _ m_19 hP hD hS (lv_sub hl [4, 5] rfl) h
      · have h := h.2 c_11
        refine lv_aload_n hx hb dX6_turn_81 rfl (lv_at hl 4 rfl) ?_
        refine va_get (D := D) (ci := 6) (v := .ref q_o_trial) (C := RX6) (T := TX6) (N := 17) hx hb htb inT_X6 hown hK hP 0 rfl rfl 4 (by decide) (htb _ tb_91) (fun _ h9 => h9) rfl dX6_turn_82 ?_
        refine lv_iload_n hx hb dX6_turn_85 rfl (lv_at hl 2 rfl) ?_
        refine lv_iload hx hb dX6_turn_86 (lv_at hl 1 rfl) ?_
        refine lv_iconst (v := (1 : Int32)) hx hb dX6_turn_88 (by decide) ?_
        refine lv_iload_n hx hb dX6_turn_89 rfl (lv_at hl 5 rfl) ?_
        refine lv_sipush (v := (4096 : Int32)) hx hb dX6_turn_90 (by decide) ?_
        refine lv_idiv hx hb dX6_turn_93 (by decide) ?_
        refine lv_bipush (v := (60 : Int32)) hx hb dX6_turn_94 (by decide) ?_
        refine lv_irem hx hb dX6_turn_96 (by decide) ?_
        refine lv_iadd hx hb dX6_turn_97 ?_
        refine gSR (As := [.ref q_o_trial, .int x3_6, .int x4_8, .int ((1 : Int32) + ((x1 / (4096 : Int32)) - (x1 / (4096 : Int32)) / (60 : Int32) * (60 : Int32)))]) (rest := []) ⟨hx, hb, hml, hown, htb⟩ hK hP hN [1] rfl (c_X6_whyNotLay l D Cs q_o_trial 221 v_o_trial x3_6 x4_8 ((1 : Int32) + ((x1 / (4096 : Int32)) - (x1 / (4096 : Int32)) / (60 : Int32) * (60 : Int32))) h) (va_cwS 4 htb (TB_s tb_506 tb_507 tb_5 (TB_self tb_508)) rfl rfl rfl z_X6_whyNotLay.2 ⟨Nat.le_of_ble_eq_true rfl, Nat.le_of_ble_eq_true rfl⟩) rfl hl.1 rfl (Nat.le_of_ble_eq_true rfl) ⟨Nat.le_of_ble_eq_true rfl, Nat.le_of_ble_eq_true rfl⟩ dX6_turn_98 (fun r_20 h => ?_)
        refine lv_if_ne (tgt := 229) hx hb dX6_turn_101 (by decide) (fun c_21 => ?_) (fun c_21 => ?_)
        · have h := h.2 c_21
          exact B229 _ _ _ v_o_trial hP hD hS (lv_sub hl [4, 5] rfl) h
        · have h := h.1 c_21
          refine lv_aload_n hx hb dX6_turn_104 rfl (lv_at hl 4 rfl) ?_
          refine va_get (D := D) (ci := 6) (v := .ref q_o_trial) (C := RX6) (T := TX6) (N := 17) hx hb htb inT_X6 hown hK hP 0 rfl rfl 4 (by decide) (htb _ tb_91) (fun _ h9 => h9) rfl dX6_turn_105 ?_
          refine lv_iload_n hx hb dX6_turn_108 rfl (lv_at hl 2 rfl) ?_
          refine lv_iload hx hb dX6_turn_109 (lv_at hl 1 rfl) ?_
          refine lv_iconst (v := (1 : Int32)) hx hb dX6_turn_111 (by decide) ?_
          refine lv_iload_n hx hb dX6_turn_112 rfl (lv_at hl 5 rfl) ?_
          refine lv_sipush (v := (4096 : Int32)) hx hb dX6_turn_113 (by decide) ?_
          refine lv_idiv hx hb dX6_turn_116 (by decide) ?_
          refine lv_bipush (v := (60 : Int32)) hx hb dX6_turn_117 (by decide) ?_
          refine lv_irem hx hb dX6_turn_119 (by decide) ?_
          refine lv_iadd hx hb dX6_turn_120 ?_
          refine gSM (wr := [(q_o, .inr (6, [.int v_o_refusal, .ref q_o_text, .int v_o_size, .ref q_o_now, .ref q_o_trial, .ref q_o_diary, .int v_o_acts, .ref q_o_kept, .ref q_o_isKept, .ref q_o_years, .int v_o_least, .int v_o_origins, .int v_o_ofAll, .int v_o_ofSome, .int v_o_sets, .int v_o_spot, .int v_o_out]))]) (As := [.ref q_o_trial, .int x3_6, .int x4_8, .int ((1 : Int32) + ((x1 / (4096 : Int32)) - (x1 / (4096 : Int32)) / (60 : Int32) * (60 : Int32)))]) (rest := []) ⟨hx, hb, hml, hown, htb⟩ hK hP hD hS hA hN [1] [0] rfl (by decide) rfl (by decide) (by decide) (c_X6_layOn l D Cs q_o_trial 221 H.size v_o_trial x3_6 x4_8 ((1 : Int32) + ((x1 / (4096 : Int32)) - (x1 / (4096 : Int32)) / (60 : Int32) * (60 : Int32))) h) (va_cwS 4 htb (TB_s tb_513 tb_514 tb_5 (TB_self tb_515)) rfl rfl rfl z_X6_layOn.2 ⟨Nat.le_of_ble_eq_true rfl, Nat.le_of_ble_eq_true rfl⟩) rfl hl.1 rfl (Nat.le_of_ble_eq_true rfl) ⟨Nat.le_of_ble_eq_true rfl, Nat.le_of_ble_eq_true rfl⟩ dX6_turn_121 (fun r_22 m_23 H locs h hP hD hS => ?_)
          have hP : va_P D vwCl [(q_o, .inr (6, [.int v_o_refusal, .ref q_o_text, .int v_o_size, .ref q_o_now, .ref q_o_trial, .ref q_o_diary, .int v_o_acts, .ref q_o_kept, .ref q_o_isKept, .ref q_o_years, .int v_o_least, .int v_o_origins, .int v_o_ofAll, .int v_o_ofSome, .int v_o_sets, .int v_o_spot, .int v_o_out])), (q_o_trial, gI Cs 221 m_23)] H := hP
          have hD : va_D A [(q_o, .inr (6, [.int v_o_refusal, .ref q_o_text, .int v_o_size, .ref q_o_now, .ref q_o_trial, .ref q_o_diary, .int v_o_acts, .ref q_o_kept, .ref q_o_isKept, .ref q_o_years, .int v_o_least, .int v_o_origins, .int v_o_ofAll, .int v_o_ofSome, .int v_o_sets, .int v_o_spot, .int v_o_out])), (q_o_trial, gI Cs 221 m_23)] := hD
          refine lv_pop hx hb dX6_turn_124 rfl ?_
          refine lv_goto (tgt := 229) hx hb dX6_turn_125 (by decide) ?_
          exact B229 _ _ _ m_23 hP hD hS (lv_sub hl [4, 5] rfl) h
    · have h := h.1 c_10
      refine lv_aload_n hx hb dX6_turn_47 rfl (lv_at hl 4 rfl) ?_
      refine va_get (D := D) (ci := 6) (v := .ref q_o_trial) (C := RX6) (T := TX6) (N := 17) hx hb htb inT_X6 hown hK hP 0 rfl rfl 4 (by decide) (htb _ tb_91) (fun _ h9 => h9) rfl dX6_turn_48 ?_
      refine lv_iconst (v := (0 : Int32)) hx hb dX6_turn_51 (by decide) ?_
      refine lv_dup2_11 hx hb dX6_turn_52 rfl rfl ?_
      refine va_iald hx hb hK hP 1 0 rfl rfl (by unfold vp_in; decide) dX6_turn_53 ?_
      refine lv_aload_n hx hb dX6_turn_54 rfl (lv_at hl 4 rfl) ?_
      refine va_get (D := D) (ci := 6) (v := .ref q_o_trial) (C := RX6) (T := TX6) (N := 17) hx hb htb inT_X6 hown hK hP 0 rfl rfl 4 (by decide) (htb _ tb_91) (fun _ h9 => h9) rfl dX6_turn_55 ?_
      refine lv_iconst (v := (0 : Int32)) hx hb dX6_turn_58 (by decide) ?_
      refine va_iald hx hb hK hP 1 0 rfl rfl (by unfold vp_in; decide) dX6_turn_59 ?_
      refine lv_bipush (v := (10 : Int32)) hx hb dX6_turn_60 (by decide) ?_
      refine lv_icmp_ge (tgt := 69) hx hb dX6_turn_62 (by decide) (fun c_24 => ?_) (fun c_24 => ?_)
      · have h := h.1 c_24
        refine lv_iconst (v := (0 : Int32)) hx hb dX6_turn_69 (by decide) ?_
        exact B70 _ _ _ (0 : Int32) (v_o_trial (0 : Int32).toNatClampNeg) (0 : Int32) hP hD hS (lv_sub hl [4, 5] rfl) h
      · have h := h.2 c_24
        refine lv_iconst (v := (1 : Int32)) hx hb dX6_turn_65 (by decide) ?_
        refine lv_goto (tgt := 70) hx hb dX6_turn_66 (by decide) ?_
        exact B70 _ _ _ (0 : Int32) (v_o_trial (0 : Int32).toNatClampNeg) (1 : Int32) hP hD hS (lv_sub hl [4, 5] rfl) h
  unfold P_X6_turn at h
  refine lv_aload_n hx hb dX6_turn_0 rfl (lv_at hl 0 rfl) ?_
  refine va_get (D := D) (ci := 6) (v := .ref q_o_trial) (C := RX6) (T := TX6) (N := 17) hx hb htb inT_X6 hown hK hP 0 rfl rfl 4 (by decide) (htb _ tb_91) (fun _ h9 => h9) rfl dX6_turn_1 ?_
  refine lv_iconst (v := (0 : Int32)) hx hb dX6_turn_4 (by decide) ?_
  refine va_iald hx hb hK hP 1 0 rfl rfl (by unfold vp_in; decide) dX6_turn_5 ?_
  refine lv_if_ne (tgt := 13) hx hb dX6_turn_6 (by decide) (fun c_25 => ?_) (fun c_25 => ?_)
  · have h := h.2 c_25
    refine lv_aload_n hx hb dX6_turn_13 rfl (lv_at hl 0 rfl) ?_
    refine va_get (D := D) (ci := 6) (v := .ref q_o_trial) (C := RX6) (T := TX6) (N := 17) hx hb htb inT_X6 hown hK hP 0 rfl rfl 4 (by decide) (htb _ tb_91) (fun _ h9 => h9) rfl dX6_turn_14 ?_
    refine lv_iconst (v := (0 : Int32)) hx hb dX6_turn_17 (by decide) ?_
    refine va_iald hx hb hK hP 1 0 rfl rfl (by unfold vp_in; decide) dX6_turn_18 ?_
    exact B19 _ _ _ (v_o_trial (0 : Int32).toNatClampNeg) hP hD hS (lv_sub hl [0, 1] rfl) h
  · have h := h.1 c_25
    refine lv_iconst (v := (1 : Int32)) hx hb dX6_turn_9 (by decide) ?_
    refine lv_goto (tgt := 19) hx hb dX6_turn_10 (by decide) ?_
    exact B19 _ _ _ (1 : Int32) hP hD hS (lv_sub hl [0, 1] rfl) h
set_option maxHeartbeats 4000000 in
set_option maxRecDepth 100000 in
theorem c_X6_simulate (l : Launch) (D : va_G) (Cs : Nat → ClassId) (q_o : Nat) (q_o_text : Nat) (q_o_now : Nat) (q_o_trial : Nat) (q_o_diary : Nat) (q_o_kept : Nat) (q_o_isKept : Nat) (q_o_years : Nat) (sz : Nat) (v_o_refusal : Int32) (b_o : BM) (v_o_now : (Nat → Int32)) (v_o_trial : (Nat → Int32)) (v_o_size : Int32) (v_o_acts : Int32) (v_o_spot : Int32) (v_o_out : Int32) (x1 : Int64) (x3 : Int32) {post : Int32 → Int32 → BM → (Nat → Int32) → Prop} (h : P_X6_simulate v_o_refusal b_o v_o_now v_o_trial x1 x3 post) : Met l yX6_simulate wsX6_simulate ({ frames := 5, cells := 0, slots := 0, locals := 118 } : Room) (va_Pc [.ref q_o, .long x1, .int x3] (gM D Cs [(q_o, .inr (6, [.int v_o_refusal, .ref q_o_text, .int v_o_size, .ref q_o_now, .ref q_o_trial, .ref q_o_diary, .int v_o_acts, .ref q_o_kept, .ref q_o_isKept, .ref q_o_years, .int b_o.1, .int b_o.2.1, .int b_o.2.2.1, .int b_o.2.2.2.1, .int b_o.2.2.2.2.1, .int v_o_spot, .int v_o_out])), (q_o_now, gI Cs 221 v_o_now), (q_o_trial, gI Cs 221 v_o_trial), (q_o_years, gI Cs 10 b_o.2.2.2.2.2)] sz)) (va_Qi (fun (r : Int32) (u : Int32 × BM × (Nat → Int32)) => post r u.1 u.2.1 u.2.2) (gB D (va_A [(q_o, .inr (6, [.int v_o_refusal, .ref q_o_text, .int v_o_size, .ref q_o_now, .ref q_o_trial, .ref q_o_diary, .int v_o_acts, .ref q_o_kept, .ref q_o_isKept, .ref q_o_years, .int b_o.1, .int b_o.2.1, .int b_o.2.2.1, .int b_o.2.2.2.1, .int b_o.2.2.2.2.1, .int v_o_spot, .int v_o_out])), (q_o_now, gI Cs 221 v_o_now), (q_o_trial, gI Cs 221 v_o_trial), (q_o_years, gI Cs 10 b_o.2.2.2.2.2)] sz) (fun u : Int32 × BM × (Nat → Int32) => [(q_o, .inr (6, [.int u.1, .ref q_o_text, .int v_o_size, .ref q_o_now, .ref q_o_trial, .ref q_o_diary, .int v_o_acts, .ref q_o_kept, .ref q_o_isKept, .ref q_o_years, .int u.2.1.1, .int u.2.1.2.1, .int u.2.1.2.2.1, .int u.2.1.2.2.2.1, .int u.2.1.2.2.2.2.1, .int v_o_spot, .int v_o_out])), (q_o_now, gI Cs 221 v_o_now), (q_o_trial, gI Cs 221 u.2.2), (q_o_years, gI Cs 10 u.2.1.2.2.2.2.2)])) (va_A [(q_o, .inr (6, [.int v_o_refusal, .ref q_o_text, .int v_o_size, .ref q_o_now, .ref q_o_trial, .ref q_o_diary, .int v_o_acts, .ref q_o_kept, .ref q_o_isKept, .ref q_o_years, .int b_o.1, .int b_o.2.1, .int b_o.2.2.1, .int b_o.2.2.2.1, .int b_o.2.2.2.2.1, .int v_o_spot, .int v_o_out])), (q_o_now, gI Cs 221 v_o_now), (q_o_trial, gI Cs 221 v_o_trial), (q_o_years, gI Cs 10 b_o.2.2.2.2.2)] sz)) 0 0 (va_A [(q_o, .inr (6, [.int v_o_refusal, .ref q_o_text, .int v_o_size, .ref q_o_now, .ref q_o_trial, .ref q_o_diary, .int v_o_acts, .ref q_o_kept, .ref q_o_isKept, .ref q_o_years, .int b_o.1, .int b_o.2.1, .int b_o.2.2.1, .int b_o.2.2.2.1, .int b_o.2.2.2.2.1, .int v_o_spot, .int v_o_out])), (q_o_now, gI Cs 221 v_o_now), (q_o_trial, gI Cs 221 v_o_trial), (q_o_years, gI Cs 10 b_o.2.2.2.2.2)] sz) := by
  refine Met.ofW (cc := cX6_simulate) (maxL := 9) (ret := (some .int)) (by decide) rfl ?_
  intro p e s m args below meth c s₁ B hml hv
  obtain ⟨ha, hsz, hP, hK, hD0, hN⟩ := hv
  have hx := B.exec
  have hb := B.bytes
  have hr := B.returns
  have hts := atoms_spec (ws := wsX6_simulate) B.pre
  have htb : ∀ w ∈ TB, w.before args s = true := fun w h9 => hts w (List.mem_cons_of_mem _ h9)
  have hown : s.vm.findClass RX6 = some m.cls := findClass_of_methodNamed B.named
  have hlocks := B.notSynchronized
  subst hsz
  have hD := hD0.self (sz := s.heap.size)
  generalize hAe : va_A [(q_o, .inr (6, [.int v_o_refusal, .ref q_o_text, .int v_o_size, .ref q_o_now, .ref q_o_trial, .ref q_o_diary, .int v_o_acts, .ref q_o_kept, .ref q_o_isKept, .ref q_o_years, .int b_o.1, .int b_o.2.1, .int b_o.2.2.1, .int b_o.2.2.2.1, .int b_o.2.2.2.2.1, .int v_o_spot, .int v_o_out])), (q_o_now, gI Cs 221 v_o_now), (q_o_trial, gI Cs 221 v_o_trial), (q_o_years, gI Cs 10 b_o.2.2.2.2.2)] s.heap.size = A at hD ⊢
  have hA : ∀ q : Nat, s.heap.size ≤ q → A q := fun q h9 => by rw [← hAe]; exact Or.inr h9
  obtain ⟨H, hH⟩ : ∃ z : Heap, z = s.heap := ⟨_, rfl⟩
  have hS : va_S A s.heap H [] := by rw [hH]; exact va_S.rf
  have hP : va_P D vwCl [(q_o, .inr (6, [.int v_o_refusal, .ref q_o_text, .int v_o_size, .ref q_o_now, .ref q_o_trial, .ref q_o_diary, .int v_o_acts, .ref q_o_kept, .ref q_o_isKept, .ref q_o_years, .int b_o.1, .int b_o.2.1, .int b_o.2.2.1, .int b_o.2.2.2.1, .int b_o.2.2.2.2.1, .int v_o_spot, .int v_o_out])), (q_o_now, gI Cs 221 v_o_now), (q_o_trial, gI Cs 221 v_o_trial), (q_o_years, gI Cs 10 b_o.2.2.2.2.2)] H := by rw [hH]; exact hP
  generalize hQ : MQ below _ args s _ _ _ = Q
  show W p l e ({ frames := 5, cells := 0, slots := 0, locals := 118 } : Room) s m args below meth c s.heap [] 0 0 Q (entryFrame m args 9)
  have hent : entryFrame m args 9 = F0 m 0 ((lg_sl ([.ref q_o, .long x1, .int x3]) ++ List.replicate (9 - (lg_sl ([.ref q_o, .long x1, .int x3])).length) Slot.unset).toArray) [] := by rw [ha]; exact lg_entry_eq m ([.ref q_o, .long x1, .int x3]) 9
  rw [hent]; clear hent
  rw [← hH]
  have hl := lv_entry ([.ref q_o, .long x1, .int x3]) (n := 9) (Nat.le_of_ble_eq_true rfl)
  generalize (lg_sl ([.ref q_o, .long x1, .int x3]) ++ List.replicate (9 - (lg_sl ([.ref q_o, .long x1, .int x3])).length) Slot.unset).toArray = ls at hl ⊢
  have hl : lv_has ls 9 [(0, .ref q_o), (1, .long x1), (3, .int x3)] := hl
  have L85 : ∀ (n : Nat) (H : Heap) (locs : List Loc) (ls : Array Slot) (w_o_refusal : Int32) (w_o_trial : (Nat → Int32)) (x6 : Int32) (x7 : Int32), va_P D vwCl [(q_o, .inr (6, [.int w_o_refusal, .ref q_o_text, .int v_o_size, .ref q_o_now, .ref q_o_trial, .ref q_o_diary, .int v_o_acts, .ref q_o_kept, .ref q_o_isKept, .ref q_o_years, .int b_o.1, .int b_o.2.1, .int b_o.2.2.1, .int b_o.2.2.2.1, .int b_o.2.2.2.2.1, .int v_o_spot, .int v_o_out])), (q_o_now, gI Cs 221 v_o_now), (q_o_trial, gI Cs 221 w_o_trial), (q_o_years, gI Cs 10 b_o.2.2.2.2.2)] H → va_D A [(q_o, .inr (6, [.int w_o_refusal, .ref q_o_text, .int v_o_size, .ref q_o_now, .ref q_o_trial, .ref q_o_diary, .int v_o_acts, .ref q_o_kept, .ref q_o_isKept, .ref q_o_years, .int b_o.1, .int b_o.2.1, .int b_o.2.2.1, .int b_o.2.2.2.1, .int b_o.2.2.2.2.1, .int v_o_spot, .int v_o_out])), (q_o_now, gI Cs 221 v_o_now), (q_o_trial, gI Cs 221 w_o_trial), (q_o_years, gI Cs 10 b_o.2.2.2.2.2)] → va_S A s.heap H locs → lv_has ls 9 [(0, .ref q_o), (1, .long x1), (3, .int x3), (6, .int x6), (7, .int x7)] → P_X6_simulate_l85 v_o_refusal b_o v_o_now v_o_trial x1 x3 post n w_o_refusal w_o_trial x6 x7 → W p l e ({ frames := 5, cells := 0, slots := 0, locals := 118 } : Room) s m args below meth c H locs 0 0 Q (F0 m 85 ls []) := by
    intro n85
    induction n85 with
    | zero => intro H locs ls w_o_refusal w_o_trial x6 x7 hP hD hS hl h; exact False.elim h
    | succ n85 ih85 =>
      have L99 : ∀ (n : Nat) (H : Heap) (locs : List Loc) (ls : Array Slot) (w_o_refusal : Int32) (w_o_trial : (Nat → Int32)) (x6 : Int32) (x7 : Int32) (x8 : Int32), va_P D vwCl [(q_o, .inr (6, [.int w_o_refusal, .ref q_o_text, .int v_o_size, .ref q_o_now, .ref q_o_trial, .ref q_o_diary, .int v_o_acts, .ref q_o_kept, .ref q_o_isKept, .ref q_o_years, .int b_o.1, .int b_o.2.1, .int b_o.2.2.1, .int b_o.2.2.2.1, .int b_o.2.2.2.2.1, .int v_o_spot, .int v_o_out])), (q_o_now, gI Cs 221 v_o_now), (q_o_trial, gI Cs 221 w_o_trial), (q_o_years, gI Cs 10 b_o.2.2.2.2.2)] H → va_D A [(q_o, .inr (6, [.int w_o_refusal, .ref q_o_text, .int v_o_size, .ref q_o_now, .ref q_o_trial, .ref q_o_diary, .int v_o_acts, .ref q_o_kept, .ref q_o_isKept, .ref q_o_years, .int b_o.1, .int b_o.2.1, .int b_o.2.2.1, .int b_o.2.2.2.1, .int b_o.2.2.2.2.1, .int v_o_spot, .int v_o_out])), (q_o_now, gI Cs 221 v_o_now), (q_o_trial, gI Cs 221 w_o_trial), (q_o_years, gI Cs 10 b_o.2.2.2.2.2)] → va_S A s.heap H locs → lv_has ls 9 [(0, .ref q_o), (1, .long x1), (3, .int x3), (6, .int x6), (7, .int x7), (8, .int x8)] → P_X6_simulate_l99 v_o_refusal b_o v_o_now v_o_trial x1 x3 post (P_X6_simulate_l85 v_o_refusal b_o v_o_now v_o_trial x1 x3 post n85) n w_o_refusal w_o_trial x6 x7 x8 → W p l e ({ frames := 5, cells := 0, slots := 0, locals := 118 } : Room) s m args below meth c H locs 0 0 Q (F0 m 99 ls []) := by
        intro n99
        induction n99 with
        | zero => intro H locs ls w_o_refusal w_o_trial x6 x7 x8 hP hD hS hl h; exact False.elim h
        | succ n99 ih99 =>
          have B127 : ∀ (H : Heap) (locs : List Loc) (ls : Array Slot) (w_o_refusal : Int32) (w_o_trial : (Nat → Int32)) (x7 : Int32) (x8 : Int32) (s0 : Int32) (s1 : Int32), va_P D vwCl [(q_o, .inr (6, [.int w_o_refusal, .ref q_o_text, .int v_o_size, .ref q_o_now, .ref q_o_trial, .ref q_o_diary, .int v_o_acts, .ref q_o_kept, .ref q_o_isKept, .ref q_o_years, .int b_o.1, .int b_o.2.1, .int b_o.2.2.1, .int b_o.2.2.2.1, .int b_o.2.2.2.2.1, .int v_o_spot, .int v_o_out])), (q_o_now, gI Cs 221 v_o_now), (q_o_trial, gI Cs 221 w_o_trial), (q_o_years, gI Cs 10 b_o.2.2.2.2.2)] H → va_D A [(q_o, .inr (6, [.int w_o_refusal, .ref q_o_text, .int v_o_size, .ref q_o_now, .ref q_o_trial, .ref q_o_diary, .int v_o_acts, .ref q_o_kept, .ref q_o_isKept, .ref q_o_years, .int b_o.1, .int b_o.2.1, .int b_o.2.2.1, .int b_o.2.2.2.1, .int b_o.2.2.2.2.1, .int v_o_spot, .int v_o_out])), (q_o_now, gI Cs 221 v_o_now), (q_o_trial, gI Cs 221 w_o_trial), (q_o_years, gI Cs 10 b_o.2.2.2.2.2)] → va_S A s.heap H locs → lv_has ls 9 [(0, .ref q_o), (1, .long x1), (3, .int x3), (7, .int x7), (8, .int x8)] → P_X6_simulate_b127 v_o_refusal b_o v_o_now v_o_trial x1 x3 post (P_X6_simulate_l85 v_o_refusal b_o v_o_now v_o_trial x1 x3 post n85) (P_X6_simulate_l99 v_o_refusal b_o v_o_now v_o_trial x1 x3 post (P_X6_simulate_l85 v_o_refusal b_o v_o_now v_o_trial x1 x3 post n85) n99) w_o_refusal w_o_trial x7 x8 s0 s1 → W p l e ({ frames := 5, cells := 0, slots := 0, locals := 118 } : Room) s m args below meth c H locs 0 0 Q (F0 m 127 ls [.int s1, .int s0]) := by
            intro H locs ls w_o_refusal w_o_trial x7 x8 s0 s1 hP hD hS hl h
            unfold P_X6_simulate_b127 at h
            refine lv_iadd hx hb dX6_simulate_127 ?_
            refine lv_topi (fun x6_1 ex6_1 => ?_)
            have h := h _ ex6_1
            refine lv_istore (lv' := [(6, .int x6_1), (0, .ref q_o), (1, .long x1), (3, .int x3), (7, .int x7), (8, .int x8)]) hx hb dX6_simulate_128 hl (by decide) rfl (fun ls hl => ?_)
            obtain ⟨x8_2, ex8_2⟩ : ∃ y : Int32, y = x8 + (1 : Int32) := ⟨_, rfl⟩
            have h := h _ ex8_2
            refine lv_iinc (v := x8_2) (lv' := [(8, .int x8_2), (6, .int x6_1), (0, .ref q_o), (1, .long x1), (3, .int x3), (7, .int x7)]) hx hb dX6_simulate_130 hl (k := 5) rfl (by rw [ex8_2]; rfl) (by decide) rfl (fun ls hl => ?_)
            refine lv_goto (tgt := 99) hx hb dX6_simulate_133 (by decide) ?_
            exact ih99 _ _ _ w_o_refusal w_o_trial x6_1 x7 x8_2 hP hD hS (lv_sub hl [2, 3, 4, 1, 5, 0] rfl) h
          intro H locs ls w_o_refusal w_o_trial x6 x7 x8 hP hD hS hl h
          replace h : P_X6_simulate_b99 v_o_refusal b_o v_o_now v_o_trial x1 x3 post (P_X6_simulate_l85 v_o_refusal b_o v_o_now v_o_trial x1 x3 post n85) (P_X6_simulate_l99 v_o_refusal b_o v_o_now v_o_trial x1 x3 post (P_X6_simulate_l85 v_o_refusal b_o v_o_now v_o_trial x1 x3 post n85) n99) w_o_refusal w_o_trial x6 x7 x8 := h
          unfold P_X6_simulate_b99 at h
          refine lv_iload hx hb dX6_simulate_99 (lv_at hl 5 rfl) ?_
          refine lv_bipush (v := (6 : Int32)) hx hb dX6_simulate_101 (by decide) ?_
          refine lv_icmp_ge (tgt := 136) hx hb dX6_simulate_103 (by decide) (fun c_3 => ?_) (fun c_3 => ?_)
          · have h := h.1 c_3
            obtain ⟨x7_4, ex7_4⟩ : ∃ y : Int32, y = x7 + (1 : Int32) := ⟨_, rfl⟩
            have h := h _ ex7_4
            refine lv_iinc (v := x7_4) (lv' := [(7, .int x7_4), (0, .ref q_o), (1, .long x1), (3, .int x3), (6, .int x6), (8, .int x8)]) hx hb dX6_simulate_136 hl (k := 4) rfl (by rw [ex7_4]; rfl) (by decide) rfl (fun ls hl => ?_)
            refine lv_goto (tgt := 85) hx hb dX6_simulate_139 (by decide) ?_
            exact ih85 _ _ _ w_o_refusal w_o_trial x6 x7_4 hP hD hS (lv_sub hl [1, 2, 3, 4, 0] rfl) h
          · have h := h.2 c_3
            refine lv_iload hx hb dX6_simulate_106 (lv_at hl 3 rfl) ?_
            refine lv_aload_n hx hb dX6_simulate_108 rfl (lv_at hl 0 rfl) ?_
            refine va_get (D := D) (ci := 6) (v := .ref q_o_trial) (C := RX6) (T := TX6) (N := 17) hx hb htb inT_X6 hown hK hP 0 rfl rfl 4 (by decide) (htb _ tb_91) (fun _ h9 => h9) rfl dX6_simulate_109 ?_
            refine lv_iload hx hb dX6_simulate_112 (lv_at hl 4 rfl) ?_
            refine lv_iload hx hb dX6_simulate_114 (lv_at hl 5 rfl) ?_
            refine gSR (As := [.ref q_o_trial, .int x7, .int x8]) (rest := [.int x6]) ⟨hx, hb, hml, hown, htb⟩ hK hP hN [2] rfl (c_X6_areAgainst l D Cs q_o_trial 221 w_o_trial x7 x8 h) (va_cwS 3 htb (TB_s tb_334 tb_335 tb_5 (TB_self tb_336)) rfl rfl rfl z_X6_areAgainst.2 ⟨Nat.le_of_ble_eq_true rfl, Nat.le_of_ble_eq_true rfl⟩) rfl hl.1 rfl (Nat.le_of_ble_eq_true rfl) ⟨Nat.le_of_ble_eq_true rfl, Nat.le_of_ble_eq_true rfl⟩ dX6_simulate_116 (fun r_5 h => ?_)
            refine lv_if_eq (tgt := 126) hx hb dX6_simulate_119 (by decide) (fun c_6 => ?_) (fun c_6 => ?_)
            · have h := h.1 c_6
              refine lv_iconst (v := (0 : Int32)) hx hb dX6_simulate_126 (by decide) ?_
              exact B127 _ _ _ w_o_refusal w_o_trial x7 x8 x6 (0 : Int32) hP hD hS (lv_sub hl [0, 1, 2, 4, 5] rfl) h
            · have h := h.2 c_6
              refine lv_iconst (v := (1 : Int32)) hx hb dX6_simulate_122 (by decide) ?_
              refine lv_goto (tgt := 127) hx hb dX6_simulate_123 (by decide) ?_
              exact B127 _ _ _ w_o_refusal w_o_trial x7 x8 x6 (1 : Int32) hP hD hS (lv_sub hl [0, 1, 2, 4, 5] rfl) h
      intro H locs ls w_o_refusal w_o_trial x6 x7 hP hD hS hl h
      replace h : P_X6_simulate_b85 v_o_refusal b_o v_o_now v_o_trial x1 x3 post (P_X6_simulate_l85 v_o_refusal b_o v_o_now v_o_trial x1 x3 post n85) w_o_refusal w_o_trial x6 x7 := h
      unfold P_X6_simulate_b85 at h
      refine lv_iload hx hb dX6_simulate_85 (lv_at hl 4 rfl) ?_
      refine lv_aload_n hx hb dX6_simulate_87 rfl (lv_at hl 0 rfl) ?_
      refine va_get (D := D) (ci := 6) (v := .ref q_o_trial) (C := RX6) (T := TX6) (N := 17) hx hb htb inT_X6 hown hK hP 0 rfl rfl 4 (by decide) (htb _ tb_91) (fun _ h9 => h9) rfl dX6_simulate_88 ?_
      refine lv_iconst (v := (0 : Int32)) hx hb dX6_simulate_91 (by decide) ?_
      refine va_iald hx hb hK hP 2 0 rfl rfl (by unfold vp_in; decide) dX6_simulate_92 ?_
      refine lv_icmp_ge (tgt := 142) hx hb dX6_simulate_93 (by decide) (fun c_7 => ?_) (fun c_7 => ?_)
      · have h := h.1 c_7
        refine lv_sipush (v := (1000 : Int32)) hx hb dX6_simulate_142 (by decide) ?_
        refine lv_aload_n hx hb dX6_simulate_145 rfl (lv_at hl 0 rfl) ?_
        refine lv_aload_n hx hb dX6_simulate_146 rfl (lv_at hl 0 rfl) ?_
        refine va_get (D := D) (ci := 6) (v := .ref q_o_trial) (C := RX6) (T := TX6) (N := 17) hx hb htb inT_X6 hown hK hP 0 rfl rfl 4 (by decide) (htb _ tb_91) (fun _ h9 => h9) rfl dX6_simulate_147 ?_
        refine gVM (wr := [(q_o_now, gI Cs 221 v_o_now)]) (As := [.ref q_o_trial]) (rest := [.int (1000 : Int32)]) ⟨hx, hb, hml, hown, htb⟩ hK hP hD hS hA hN [0, 3, 2] [1] rfl (by decide) rfl (by decide) (by decide) (c_X6_inventionsInAll l D Cs q_o q_o_trial q_o_text q_o_now q_o_trial q_o_diary q_o_kept q_o_isKept q_o_years 221 H.size b_o w_o_trial w_o_refusal v_o_size v_o_acts v_o_spot v_o_out h) (cwV 1 htb (TB_v tb_375 tb_376 tb_377 tb_5 (TB_self tb_378)) rfl rfl rfl z_X6_inventionsInAll ⟨Nat.le_of_ble_eq_true rfl, Nat.le_of_ble_eq_true rfl⟩) 0 rfl rfl rfl rfl hl.1 rfl (Nat.le_of_ble_eq_true rfl) ⟨Nat.le_of_ble_eq_true rfl, Nat.le_of_ble_eq_true rfl⟩ dX6_simulate_150 (fun r_8 m_9 H locs h hP hD hS => ?_)
        have hP : va_P D vwCl [(q_o_now, gI Cs 221 v_o_now), (q_o, .inr (6, [.int w_o_refusal, .ref q_o_text, .int v_o_size, .ref q_o_now, .ref q_o_trial, .ref q_o_diary, .int v_o_acts, .ref q_o_kept, .ref q_o_isKept, .ref q_o_years, .int m_9.1, .int m_9.2.1, .int m_9.2.2.1, .int m_9.2.2.2.1, .int m_9.2.2.2.2.1, .int v_o_spot, .int v_o_out])), (q_o_years, gI Cs 10 m_9.2.2.2.2.2), (q_o_trial, gI Cs 221 w_o_trial)] H := hP
        have hD : va_D A [(q_o_now, gI Cs 221 v_o_now), (q_o, .inr (6, [.int w_o_refusal, .ref q_o_text, .int v_o_size, .ref q_o_now, .ref q_o_trial, .ref q_o_diary, .int v_o_acts, .ref q_o_kept, .ref q_o_isKept, .ref q_o_years, .int m_9.1, .int m_9.2.1, .int m_9.2.2.1, .int m_9.2.2.2.1, .int m_9.2.2.2.2.1, .int v_o_spot, .int v_o_out])), (q_o_years, gI Cs 10 m_9.2.2.2.2.2), (q_o_trial, gI Cs 221 w_o_trial)] := hD
        refine lv_imul hx hb dX6_simulate_153 ?_
        refine lv_bipush (v := (100 : Int32)) hx hb dX6_simulate_154 (by decide) ?_
        refine lv_iload hx hb dX6_simulate_156 (lv_at hl 3 rfl) ?_
        refine lv_imul hx hb dX6_simulate_158 ?_
        refine lv_iadd hx hb dX6_simulate_159 ?_
        refine lv_aload_n hx hb dX6_simulate_160 rfl (lv_at hl 0 rfl) ?_
        refine va_get (D := D) (ci := 6) (v := .ref q_o_trial) (C := RX6) (T := TX6) (N := 17) hx hb htb inT_X6 hown hK hP 1 rfl rfl 4 (by decide) (htb _ tb_91) (fun _ h9 => h9) rfl dX6_simulate_161 ?_
        refine gSR (As := [.ref q_o_trial]) (rest := [.int (((1000 : Int32) * r_8) + ((100 : Int32) * x6))]) ⟨hx, hb, hml, hown, htb⟩ hK hP hN [3] rfl (c_X6_roads l D Cs q_o_trial 221 w_o_trial h) (va_cwS 1 htb (TB_s tb_327 tb_328 tb_5 (TB_self tb_329)) rfl rfl rfl z_X6_roads.2 ⟨Nat.le_of_ble_eq_true rfl, Nat.le_of_ble_eq_true rfl⟩) rfl hl.1 rfl (Nat.le_of_ble_eq_true rfl) ⟨Nat.le_of_ble_eq_true rfl, Nat.le_of_ble_eq_true rfl⟩ dX6_simulate_164 (fun r_10 h => ?_)
        refine lv_iadd hx hb dX6_simulate_167 ?_
        rw [← hQ]
        exact gRetI (u := (w_o_refusal, m_9, w_o_trial)) hx hb hr rfl h (hP.sub [1, 0, 3, 2] rfl) (hD.sub [1, 0, 3, 2] (by decide) rfl) hS dX6_simulate_168 hlocks
      · have h := h.2 c_7
        refine lv_iconst (v := (0 : Int32)) hx hb dX6_simulate_96 (by decide) ?_
        refine lv_istore (lv' := [(8, .int (0 : Int32)), (0, .ref q_o), (1, .long x1), (3, .int x3), (6, .int x6), (7, .int x7)]) hx hb dX6_simulate_97 hl (by decide) rfl (fun ls hl => ?_)
        obtain ⟨n, h⟩ := h
        exact L99 n _ _ _ w_o_refusal w_o_trial x6 x7 (0 : Int32) hP hD hS (lv_sub hl [1, 2, 3, 4, 5, 0] rfl) h
  have L45 : ∀ (n : Nat) (H : Heap) (locs : List Loc) (ls : Array Slot) (w_o_refusal : Int32) (w_o_trial : (Nat → Int32)) (x4 : Int64) (x6 : Int32), va_P D vwCl [(q_o, .inr (6, [.int w_o_refusal, .ref q_o_text, .int v_o_size, .ref q_o_now, .ref q_o_trial, .ref q_o_diary, .int v_o_acts, .ref q_o_kept, .ref q_o_isKept, .ref q_o_years, .int b_o.1, .int b_o.2.1, .int b_o.2.2.1, .int b_o.2.2.2.1, .int b_o.2.2.2.2.1, .int v_o_spot, .int v_o_out])), (q_o_now, gI Cs 221 v_o_now), (q_o_trial, gI Cs 221 w_o_trial), (q_o_years, gI Cs 10 b_o.2.2.2.2.2)] H → va_D A [(q_o, .inr (6, [.int w_o_refusal, .ref q_o_text, .int v_o_size, .ref q_o_now, .ref q_o_trial, .ref q_o_diary, .int v_o_acts, .ref q_o_kept, .ref q_o_isKept, .ref q_o_years, .int b_o.1, .int b_o.2.1, .int b_o.2.2.1, .int b_o.2.2.2.1, .int b_o.2.2.2.2.1, .int v_o_spot, .int v_o_out])), (q_o_now, gI Cs 221 v_o_now), (q_o_trial, gI Cs 221 w_o_trial), (q_o_years, gI Cs 10 b_o.2.2.2.2.2)] → va_S A s.heap H locs → lv_has ls 9 [(0, .ref q_o), (1, .long x1), (3, .int x3), (4, .long x4), (6, .int x6)] → P_X6_simulate_l45 v_o_refusal b_o v_o_now v_o_trial x1 x3 post n w_o_refusal w_o_trial x4 x6 → W p l e ({ frames := 5, cells := 0, slots := 0, locals := 118 } : Room) s m args below meth c H locs 0 0 Q (F0 m 45 ls []) := by
    intro n45
    induction n45 with
    | zero => intro H locs ls w_o_refusal w_o_trial x4 x6 hP hD hS hl h; exact False.elim h
    | succ n45 ih45 =>
      intro H locs ls w_o_refusal w_o_trial x4 x6 hP hD hS hl h
      replace h : P_X6_simulate_b45 v_o_refusal b_o v_o_now v_o_trial x1 x3 post (P_X6_simulate_l45 v_o_refusal b_o v_o_now v_o_trial x1 x3 post n45) w_o_refusal w_o_trial x4 x6 := h
      unfold P_X6_simulate_b45 at h
      refine lv_iload hx hb dX6_simulate_45 (lv_at hl 4 rfl) ?_
      refine lv_iload_n hx hb dX6_simulate_47 rfl (lv_at hl 2 rfl) ?_
      refine lv_icmp_ge (tgt := 79) hx hb dX6_simulate_48 (by decide) (fun c_11 => ?_) (fun c_11 => ?_)
      · have h := h.1 c_11
        refine lv_iconst (v := (0 : Int32)) hx hb dX6_simulate_79 (by decide) ?_
        refine lv_istore (lv' := [(6, .int (0 : Int32)), (0, .ref q_o), (1, .long x1), (3, .int x3), (4, .long x4)]) hx hb dX6_simulate_80 hl (by decide) rfl (fun ls hl => ?_)
        refine lv_iconst (v := (0 : Int32)) hx hb dX6_simulate_82 (by decide) ?_
        refine lv_istore (lv' := [(7, .int (0 : Int32)), (6, .int (0 : Int32)), (0, .ref q_o), (1, .long x1), (3, .int x3), (4, .long x4)]) hx hb dX6_simulate_83 hl (by decide) rfl (fun ls hl => ?_)
        obtain ⟨n, h⟩ := h
        exact L85 n _ _ _ w_o_refusal w_o_trial (0 : Int32) (0 : Int32) hP hD hS (lv_sub hl [2, 3, 4, 1, 0] rfl) h
      · have h := h.2 c_11
        refine lv_lload hx hb dX6_simulate_51 (lv_at hl 3 rfl) ?_
        refine lv_ldc2 (v := (6364136223846793005 : Int64)) hx hb hown (htb _ tb_835) dX6_simulate_53 ?_
        refine lv_lmul hx hb dX6_simulate_56 ?_
        refine lv_ldc2 (v := (1442695040888963407 : Int64)) hx hb hown (htb _ tb_836) dX6_simulate_57 ?_
        refine lv_ladd hx hb dX6_simulate_60 ?_
        refine lv_topl (fun x4_12 ex4_12 => ?_)
        have h := h _ ex4_12
        refine lv_lstore (lv' := [(4, .long x4_12), (0, .ref q_o), (1, .long x1), (3, .int x3), (6, .int x6)]) hx hb dX6_simulate_61 hl (by decide) rfl (fun ls hl => ?_)
        refine lv_aload_n hx hb dX6_simulate_63 rfl (lv_at hl 1 rfl) ?_
        refine lv_lload hx hb dX6_simulate_64 (lv_at hl 0 rfl) ?_
        refine lv_bipush (v := (33 : Int32)) hx hb dX6_simulate_66 (by decide) ?_
        refine lv_lushr (v := (x4_12.toUInt64 >>> ((33 : Int32).toInt64.toUInt64 &&& Int64.toUInt64 63)).toInt64) hx hb dX6_simulate_68 rfl ?_
        refine lv_l2i (v := ((x4_12.toUInt64 >>> ((33 : Int32).toInt64.toUInt64 &&& Int64.toUInt64 63)).toInt64).toInt32) hx hb dX6_simulate_69 rfl ?_
        refine gVMv (wr := [(q_o_now, gI Cs 221 v_o_now), (q_o_years, gI Cs 10 b_o.2.2.2.2.2)]) (As := [.int (((x4_12.toUInt64 >>> ((33 : Int32).toInt64.toUInt64 &&& Int64.toUInt64 63)).toInt64).toInt32)]) (rest := []) ⟨hx, hb, hml, hown, htb⟩ hK hP hD hS hA hN [0, 2] [1, 3] rfl (by decide) rfl (by decide) (by decide) (c_X6_turn l D Cs q_o q_o_text q_o_now q_o_trial q_o_diary q_o_kept q_o_isKept q_o_years H.size w_o_trial w_o_refusal v_o_size v_o_acts b_o.1 b_o.2.1 b_o.2.2.1 b_o.2.2.2.1 b_o.2.2.2.2.1 v_o_spot v_o_out (((x4_12.toUInt64 >>> ((33 : Int32).toInt64.toUInt64 &&& Int64.toUInt64 63)).toInt64).toInt32) h) (cwV 1 htb (TB_v tb_837 tb_838 tb_839 tb_5 (TB_self tb_840)) rfl rfl rfl z_X6_turn ⟨Nat.le_of_ble_eq_true rfl, Nat.le_of_ble_eq_true rfl⟩) 0 rfl rfl rfl rfl hl.1 rfl (Nat.le_of_ble_eq_true rfl) ⟨Nat.le_of_ble_eq_true rfl, Nat.le_of_ble_eq_true rfl⟩ dX6_simulate_70 (fun m_14 H locs h hP hD hS => ?_)
        have hP : va_P D vwCl [(q_o_now, gI Cs 221 v_o_now), (q_o_years, gI Cs 10 b_o.2.2.2.2.2), (q_o, .inr (6, [.int w_o_refusal, .ref q_o_text, .int v_o_size, .ref q_o_now, .ref q_o_trial, .ref q_o_diary, .int v_o_acts, .ref q_o_kept, .ref q_o_isKept, .ref q_o_years, .int b_o.1, .int b_o.2.1, .int b_o.2.2.1, .int b_o.2.2.2.1, .int b_o.2.2.2.2.1, .int v_o_spot, .int v_o_out])), (q_o_trial, gI Cs 221 m_14)] H := hP
        have hD : va_D A [(q_o_now, gI Cs 221 v_o_now), (q_o_years, gI Cs 10 b_o.2.2.2.2.2), (q_o, .inr (6, [.int w_o_refusal, .ref q_o_text, .int v_o_size, .ref q_o_now, .ref q_o_trial, .ref q_o_diary, .int v_o_acts, .ref q_o_kept, .ref q_o_isKept, .ref q_o_years, .int b_o.1, .int b_o.2.1, .int b_o.2.2.1, .int b_o.2.2.2.1, .int b_o.2.2.2.2.1, .int v_o_spot, .int v_o_out])), (q_o_trial, gI Cs 221 m_14)] := hD
        obtain ⟨x6_15, ex6_15⟩ : ∃ y : Int32, y = x6 + (1 : Int32) := ⟨_, rfl⟩
        have h := h _ ex6_15
        refine lv_iinc (v := x6_15) (lv' := [(6, .int x6_15), (4, .long x4_12), (0, .ref q_o), (1, .long x1), (3, .int x3)]) hx hb dX6_simulate_73 hl (k := 4) rfl (by rw [ex6_15]; rfl) (by decide) rfl (fun ls hl => ?_)
        refine lv_goto (tgt := 45) hx hb dX6_simulate_76 (by decide) ?_
        exact ih45 _ _ _ w_o_refusal m_14 x4_12 x6_15 (hP.sub [2, 0, 3, 1] rfl) (hD.sub [2, 0, 3, 1] (by decide) rfl) hS (lv_sub hl [2, 3, 4, 1, 0] rfl) h
  have B18 : ∀ (H : Heap) (locs : List Loc) (ls : Array Slot) (s1 : Int32), va_P D vwCl [(q_o, .inr (6, [.int v_o_refusal, .ref q_o_text, .int v_o_size, .ref q_o_now, .ref q_o_trial, .ref q_o_diary, .int v_o_acts, .ref q_o_kept, .ref q_o_isKept, .ref q_o_years, .int b_o.1, .int b_o.2.1, .int b_o.2.2.1, .int b_o.2.2.2.1, .int b_o.2.2.2.2.1, .int v_o_spot, .int v_o_out])), (q_o_now, gI Cs 221 v_o_now), (q_o_trial, gI Cs 221 v_o_trial), (q_o_years, gI Cs 10 b_o.2.2.2.2.2)] H → va_D A [(q_o, .inr (6, [.int v_o_refusal, .ref q_o_text, .int v_o_size, .ref q_o_now, .ref q_o_trial, .ref q_o_diary, .int v_o_acts, .ref q_o_kept, .ref q_o_isKept, .ref q_o_years, .int b_o.1, .int b_o.2.1, .int b_o.2.2.1, .int b_o.2.2.2.1, .int b_o.2.2.2.2.1, .int v_o_spot, .int v_o_out])), (q_o_now, gI Cs 221 v_o_now), (q_o_trial, gI Cs 221 v_o_trial), (q_o_years, gI Cs 10 b_o.2.2.2.2.2)] → va_S A s.heap H locs → lv_has ls 9 [(0, .ref q_o), (1, .long x1), (3, .int x3)] → P_X6_simulate_b18 v_o_refusal b_o v_o_now v_o_trial x1 x3 post s1 → W p l e ({ frames := 5, cells := 0, slots := 0, locals := 118 } : Room) s m args below meth c H locs 0 0 Q (F0 m 18 ls [.int s1, .ref q_o]) := by
    intro H locs ls s1 hP hD hS hl h
    unfold P_X6_simulate_b18 at h
    refine gVM (wr := [(q_o_now, gI Cs 221 v_o_now), (q_o_trial, gI Cs 221 v_o_trial), (q_o_years, gI Cs 10 b_o.2.2.2.2.2)]) (As := [.int s1]) (rest := []) ⟨hx, hb, hml, hown, htb⟩ hK hP hD hS hA hN [0] [1, 2, 3] rfl (by decide) rfl (by decide) (by decide) (c_X6_refused l D Cs q_o q_o_text q_o_now q_o_trial q_o_diary q_o_kept q_o_isKept q_o_years H.size v_o_refusal v_o_size v_o_acts b_o.1 b_o.2.1 b_o.2.2.1 b_o.2.2.2.1 b_o.2.2.2.2.1 v_o_spot v_o_out s1 h) (cwV 1 htb (TB_v tb_128 tb_129 tb_130 tb_5 (TB_self tb_131)) rfl rfl rfl z_X6_refused ⟨Nat.le_of_ble_eq_true rfl, Nat.le_of_ble_eq_true rfl⟩) 0 rfl rfl rfl rfl hl.1 rfl (Nat.le_of_ble_eq_true rfl) ⟨Nat.le_of_ble_eq_true rfl, Nat.le_of_ble_eq_true rfl⟩ dX6_simulate_18 (fun r_16 m_17 H locs h hP hD hS => ?_)
    have hP : va_P D vwCl [(q_o_now, gI Cs 221 v_o_now), (q_o_trial, gI Cs 221 v_o_trial), (q_o_years, gI Cs 10 b_o.2.2.2.2.2), (q_o, .inr (6, [.int m_17, .ref q_o_text, .int v_o_size, .ref q_o_now, .ref q_o_trial, .ref q_o_diary, .int v_o_acts, .ref q_o_kept, .ref q_o_isKept, .ref q_o_years, .int b_o.1, .int b_o.2.1, .int b_o.2.2.1, .int b_o.2.2.2.1, .int b_o.2.2.2.2.1, .int v_o_spot, .int v_o_out]))] H := hP
    have hD : va_D A [(q_o_now, gI Cs 221 v_o_now), (q_o_trial, gI Cs 221 v_o_trial), (q_o_years, gI Cs 10 b_o.2.2.2.2.2), (q_o, .inr (6, [.int m_17, .ref q_o_text, .int v_o_size, .ref q_o_now, .ref q_o_trial, .ref q_o_diary, .int v_o_acts, .ref q_o_kept, .ref q_o_isKept, .ref q_o_years, .int b_o.1, .int b_o.2.1, .int b_o.2.2.1, .int b_o.2.2.2.1, .int b_o.2.2.2.2.1, .int v_o_spot, .int v_o_out]))] := hD
    refine lv_if_eq (tgt := 26) hx hb dX6_simulate_21 (by decide) (fun c_18 => ?_) (fun c_18 => ?_)
    · have h := h.1 c_18
      refine lv_aload_n hx hb dX6_simulate_26 rfl (lv_at hl 0 rfl) ?_
      refine va_get (D := D) (ci := 6) (v := .ref q_o_now) (C := RX6) (T := TX6) (N := 17) hx hb htb inT_X6 hown hK hP 3 rfl rfl 3 (by decide) (htb _ tb_90) (fun _ h9 => h9) rfl dX6_simulate_27 ?_
      refine lv_iconst (v := (0 : Int32)) hx hb dX6_simulate_30 (by decide) ?_
      refine lv_aload_n hx hb dX6_simulate_31 rfl (lv_at hl 0 rfl) ?_
      refine va_get (D := D) (ci := 6) (v := .ref q_o_trial) (C := RX6) (T := TX6) (N := 17) hx hb htb inT_X6 hown hK hP 3 rfl rfl 4 (by decide) (htb _ tb_91) (fun _ h9 => h9) rfl dX6_simulate_32 ?_
      refine lv_iconst (v := (0 : Int32)) hx hb dX6_simulate_35 (by decide) ?_
      refine gSMv (wr := [(q_o_years, gI Cs 10 b_o.2.2.2.2.2), (q_o, .inr (6, [.int m_17, .ref q_o_text, .int v_o_size, .ref q_o_now, .ref q_o_trial, .ref q_o_diary, .int v_o_acts, .ref q_o_kept, .ref q_o_isKept, .ref q_o_years, .int b_o.1, .int b_o.2.1, .int b_o.2.2.1, .int b_o.2.2.2.1, .int b_o.2.2.2.2.1, .int v_o_spot, .int v_o_out]))]) (As := [.ref q_o_now, .int (0 : Int32), .ref q_o_trial, .int (0 : Int32)]) (rest := []) ⟨hx, hb, hml, hown, htb⟩ hK hP hD hS hA hN [0, 1] [2, 3] rfl (by decide) rfl (by decide) (by decide) (c_X6_copyState l D Cs q_o_now q_o_trial 221 221 H.size v_o_now v_o_trial (0 : Int32) (0 : Int32) h) (va_cwS 4 htb (TB_s tb_170 tb_171 tb_5 (TB_self tb_172)) rfl rfl rfl z_X6_copyState.2 ⟨Nat.le_of_ble_eq_true rfl, Nat.le_of_ble_eq_true rfl⟩) rfl hl.1 rfl (Nat.le_of_ble_eq_true rfl) ⟨Nat.le_of_ble_eq_true rfl, Nat.le_of_ble_eq_true rfl⟩ dX6_simulate_36 (fun m_20 H locs h hP hD hS => ?_)
      have hP : va_P D vwCl [(q_o_years, gI Cs 10 b_o.2.2.2.2.2), (q_o, .inr (6, [.int m_17, .ref q_o_text, .int v_o_size, .ref q_o_now, .ref q_o_trial, .ref q_o_diary, .int v_o_acts, .ref q_o_kept, .ref q_o_isKept, .ref q_o_years, .int b_o.1, .int b_o.2.1, .int b_o.2.2.1, .int b_o.2.2.2.1, .int b_o.2.2.2.2.1, .int v_o_spot, .int v_o_out])), (q_o_now, gI Cs 221 v_o_now), (q_o_trial, gI Cs 221 m_20)] H := hP
      have hD : va_D A [(q_o_years, gI Cs 10 b_o.2.2.2.2.2), (q_o, .inr (6, [.int m_17, .ref q_o_text, .int v_o_size, .ref q_o_now, .ref q_o_trial, .ref q_o_diary, .int v_o_acts, .ref q_o_kept, .ref q_o_isKept, .ref q_o_years, .int b_o.1, .int b_o.2.1, .int b_o.2.2.1, .int b_o.2.2.2.1, .int b_o.2.2.2.2.1, .int v_o_spot, .int v_o_out])), (q_o_now, gI Cs 221 v_o_now), (q_o_trial, gI Cs 221 m_20)] := hD
      refine lv_lload_n hx hb dX6_simulate_39 rfl (lv_at hl 1 rfl) ?_
      refine lv_lstore (lv' := [(4, .long x1), (0, .ref q_o), (1, .long x1), (3, .int x3)]) hx hb dX6_simulate_40 hl (by decide) rfl (fun ls hl => ?_)
      refine lv_iconst (v := (0 : Int32)) hx hb dX6_simulate_42 (by decide) ?_
      refine lv_istore (lv' := [(6, .int (0 : Int32)), (4, .long x1), (0, .ref q_o), (1, .long x1), (3, .int x3)]) hx hb dX6_simulate_43 hl (by decide) rfl (fun ls hl => ?_)
      obtain ⟨n, h⟩ := h
      exact L45 n _ _ _ m_17 m_20 x1 (0 : Int32) (hP.sub [1, 2, 3, 0] rfl) (hD.sub [1, 2, 3, 0] (by decide) rfl) hS (lv_sub hl [2, 3, 4, 1, 0] rfl) h
    · have h := h.2 c_18
      refine lv_iconst (v := (0 : Int32)) hx hb dX6_simulate_24 (by decide) ?_
      rw [← hQ]
      exact gRetI (u := (m_17, b_o, v_o_trial)) hx hb hr rfl h (hP.sub [3, 0, 1, 2] rfl) (hD.sub [3, 0, 1, 2] (by decide) rfl) hS dX6_simulate_25 hlocks
  unfold P_X6_simulate at h
  refine lv_aload_n hx hb dX6_simulate_0 rfl (lv_at hl 0 rfl) ?_
  refine lv_iload_n hx hb dX6_simulate_1 rfl (lv_at hl 2 rfl) ?_
  refine lv_i2l (v := x3.toInt64) hx hb dX6_simulate_2 rfl ?_
  refine lv_lconst (v := (1 : Int64)) hx hb dX6_simulate_3 rfl ?_
  refine lv_ldc2 (v := (99 : Int64)) hx hb hown (htb _ tb_509) dX6_simulate_4 ?_
  refine gSR (As := [.long x3.toInt64, .long (1 : Int64), .long (99 : Int64)]) (rest := [.ref q_o]) ⟨hx, hb, hml, hown, htb⟩ hK hP hN [] rfl (c_X6_in l D Cs x3.toInt64 (1 : Int64) (99 : Int64) h) (va_cwS 3 htb (TB_s tb_125 tb_126 tb_5 (TB_self tb_127)) rfl rfl rfl z_X6_in.2 ⟨Nat.le_of_ble_eq_true rfl, Nat.le_of_ble_eq_true rfl⟩) rfl hl.1 rfl (Nat.le_of_ble_eq_true rfl) ⟨Nat.le_of_ble_eq_true rfl, Nat.le_of_ble_eq_true rfl⟩ dX6_simulate_7 (fun r_21 h => ?_)
  refine lv_if_eq (tgt := 17) hx hb dX6_simulate_10 (by decide) (fun c_22 => ?_) (fun c_22 => ?_)
  · have h := h.1 c_22
    refine lv_iconst (v := (1 : Int32)) hx hb dX6_simulate_17 (by decide) ?_
    exact B18 _ _ _ (1 : Int32) hP hD hS (lv_sub hl [0, 1, 2] rfl) h
  · have h := h.2 c_22
    refine lv_iconst (v := (0 : Int32)) hx hb dX6_simulate_13 (by decide) ?_
    refine lv_goto (tgt := 18) hx hb dX6_simulate_14 (by decide) ?_
    exact B18 _ _ _ (0 : Int32) hP hD hS (lv_sub hl [0, 1, 2] rfl) h
set_option maxHeartbeats 4000000 in
set_option maxRecDepth 100000 in
theorem c_X6_save (l : Launch) (D : va_G) (Cs : Nat → ClassId) (q_o : Nat) (q_o_text : Nat) (q_o_now : Nat) (q_o_trial : Nat) (q_o_diary : Nat) (q_o_kept : Nat) (q_o_isKept : Nat) (q_o_years : Nat) (sz : Nat) (v_o_refusal : Int32) (v_o_now : (Nat → Int32)) (v_o_kept : (Nat → Int32)) (v_o_isKept : (Nat → Int32)) (v_o_size : Int32) (v_o_acts : Int32) (v_o_least : Int32) (v_o_origins : Int32) (v_o_ofAll : Int32) (v_o_ofSome : Int32) (v_o_sets : Int32) (v_o_spot : Int32) (v_o_out : Int32) (x1 : Int32) {post : Int32 → Int32 → (Nat → Int32) → (Nat → Int32) → Prop} (h : P_X6_save v_o_refusal v_o_now v_o_kept v_o_isKept x1 post) : Met l yX6_save wsX6_save ({ frames := 1, cells := 0, slots := 0, locals := 25 } : Room) (va_Pc [.ref q_o, .int x1] (gM D Cs [(q_o, .inr (6, [.int v_o_refusal, .ref q_o_text, .int v_o_size, .ref q_o_now, .ref q_o_trial, .ref q_o_diary, .int v_o_acts, .ref q_o_kept, .ref q_o_isKept, .ref q_o_years, .int v_o_least, .int v_o_origins, .int v_o_ofAll, .int v_o_ofSome, .int v_o_sets, .int v_o_spot, .int v_o_out])), (q_o_now, gI Cs 221 v_o_now), (q_o_kept, gI Cs 442 v_o_kept), (q_o_isKept, gZ Cs 2 v_o_isKept)] sz)) (va_Qi (fun (r : Int32) (u : Int32 × (Nat → Int32) × (Nat → Int32)) => post r u.1 u.2.1 u.2.2) (gB D (va_A [(q_o, .inr (6, [.int v_o_refusal, .ref q_o_text, .int v_o_size, .ref q_o_now, .ref q_o_trial, .ref q_o_diary, .int v_o_acts, .ref q_o_kept, .ref q_o_isKept, .ref q_o_years, .int v_o_least, .int v_o_origins, .int v_o_ofAll, .int v_o_ofSome, .int v_o_sets, .int v_o_spot, .int v_o_out])), (q_o_now, gI Cs 221 v_o_now), (q_o_kept, gI Cs 442 v_o_kept), (q_o_isKept, gZ Cs 2 v_o_isKept)] sz) (fun u : Int32 × (Nat → Int32) × (Nat → Int32) => [(q_o, .inr (6, [.int u.1, .ref q_o_text, .int v_o_size, .ref q_o_now, .ref q_o_trial, .ref q_o_diary, .int v_o_acts, .ref q_o_kept, .ref q_o_isKept, .ref q_o_years, .int v_o_least, .int v_o_origins, .int v_o_ofAll, .int v_o_ofSome, .int v_o_sets, .int v_o_spot, .int v_o_out])), (q_o_now, gI Cs 221 v_o_now), (q_o_kept, gI Cs 442 u.2.1), (q_o_isKept, gZ Cs 2 u.2.2)])) (va_A [(q_o, .inr (6, [.int v_o_refusal, .ref q_o_text, .int v_o_size, .ref q_o_now, .ref q_o_trial, .ref q_o_diary, .int v_o_acts, .ref q_o_kept, .ref q_o_isKept, .ref q_o_years, .int v_o_least, .int v_o_origins, .int v_o_ofAll, .int v_o_ofSome, .int v_o_sets, .int v_o_spot, .int v_o_out])), (q_o_now, gI Cs 221 v_o_now), (q_o_kept, gI Cs 442 v_o_kept), (q_o_isKept, gZ Cs 2 v_o_isKept)] sz)) 0 0 (va_A [(q_o, .inr (6, [.int v_o_refusal, .ref q_o_text, .int v_o_size, .ref q_o_now, .ref q_o_trial, .ref q_o_diary, .int v_o_acts, .ref q_o_kept, .ref q_o_isKept, .ref q_o_years, .int v_o_least, .int v_o_origins, .int v_o_ofAll, .int v_o_ofSome, .int v_o_sets, .int v_o_spot, .int v_o_out])), (q_o_now, gI Cs 221 v_o_now), (q_o_kept, gI Cs 442 v_o_kept), (q_o_isKept, gZ Cs 2 v_o_isKept)] sz) := by
  refine Met.ofW (cc := cX6_save) (maxL := 2) (ret := (some .int)) (by decide) rfl ?_
  intro p e s m args below meth c s₁ B hml hv
  obtain ⟨ha, hsz, hP, hK, hD0, hN⟩ := hv
  have hx := B.exec
  have hb := B.bytes
  have hr := B.returns
  have hts := atoms_spec (ws := wsX6_save) B.pre
  have htb : ∀ w ∈ TB, w.before args s = true := fun w h9 => hts w (List.mem_cons_of_mem _ h9)
  have hown : s.vm.findClass RX6 = some m.cls := findClass_of_methodNamed B.named
  have hlocks := B.notSynchronized
  subst hsz
  have hD := hD0.self (sz := s.heap.size)
  generalize hAe : va_A [(q_o, .inr (6, [.int v_o_refusal, .ref q_o_text, .int v_o_size, .ref q_o_now, .ref q_o_trial, .ref q_o_diary, .int v_o_acts, .ref q_o_kept, .ref q_o_isKept, .ref q_o_years, .int v_o_least, .int v_o_origins, .int v_o_ofAll, .int v_o_ofSome, .int v_o_sets, .int v_o_spot, .int v_o_out])), (q_o_now, gI Cs 221 v_o_now), (q_o_kept, gI Cs 442 v_o_kept), (q_o_isKept, gZ Cs 2 v_o_isKept)] s.heap.size = A at hD ⊢
  have hA : ∀ q : Nat, s.heap.size ≤ q → A q := fun q h9 => by rw [← hAe]; exact Or.inr h9
  obtain ⟨H, hH⟩ : ∃ z : Heap, z = s.heap := ⟨_, rfl⟩
  have hS : va_S A s.heap H [] := by rw [hH]; exact va_S.rf
  have hP : va_P D vwCl [(q_o, .inr (6, [.int v_o_refusal, .ref q_o_text, .int v_o_size, .ref q_o_now, .ref q_o_trial, .ref q_o_diary, .int v_o_acts, .ref q_o_kept, .ref q_o_isKept, .ref q_o_years, .int v_o_least, .int v_o_origins, .int v_o_ofAll, .int v_o_ofSome, .int v_o_sets, .int v_o_spot, .int v_o_out])), (q_o_now, gI Cs 221 v_o_now), (q_o_kept, gI Cs 442 v_o_kept), (q_o_isKept, gZ Cs 2 v_o_isKept)] H := by rw [hH]; exact hP
  generalize hQ : MQ below _ args s _ _ _ = Q
  show W p l e ({ frames := 1, cells := 0, slots := 0, locals := 25 } : Room) s m args below meth c s.heap [] 0 0 Q (entryFrame m args 2)
  have hent : entryFrame m args 2 = F0 m 0 ((lg_sl ([.ref q_o, .int x1]) ++ List.replicate (2 - (lg_sl ([.ref q_o, .int x1])).length) Slot.unset).toArray) [] := by rw [ha]; exact lg_entry_eq m ([.ref q_o, .int x1]) 2
  rw [hent]; clear hent
  rw [← hH]
  have hl := lv_entry ([.ref q_o, .int x1]) (n := 2) (Nat.le_of_ble_eq_true rfl)
  generalize (lg_sl ([.ref q_o, .int x1]) ++ List.replicate (2 - (lg_sl ([.ref q_o, .int x1])).length) Slot.unset).toArray = ls at hl ⊢
  have hl : lv_has ls 2 [(0, .ref q_o), (1, .int x1)] := hl
  have B16 : ∀ (H : Heap) (locs : List Loc) (ls : Array Slot) (s1 : Int32), va_P D vwCl [(q_o, .inr (6, [.int v_o_refusal, .ref q_o_text, .int v_o_size, .ref q_o_now, .ref q_o_trial, .ref q_o_diary, .int v_o_acts, .ref q_o_kept, .ref q_o_isKept, .ref q_o_years, .int v_o_least, .int v_o_origins, .int v_o_ofAll, .int v_o_ofSome, .int v_o_sets, .int v_o_spot, .int v_o_out])), (q_o_now, gI Cs 221 v_o_now), (q_o_kept, gI Cs 442 v_o_kept), (q_o_isKept, gZ Cs 2 v_o_isKept)] H → va_D A [(q_o, .inr (6, [.int v_o_refusal, .ref q_o_text, .int v_o_size, .ref q_o_now, .ref q_o_trial, .ref q_o_diary, .int v_o_acts, .ref q_o_kept, .ref q_o_isKept, .ref q_o_years, .int v_o_least, .int v_o_origins, .int v_o_ofAll, .int v_o_ofSome, .int v_o_sets, .int v_o_spot, .int v_o_out])), (q_o_now, gI Cs 221 v_o_now), (q_o_kept, gI Cs 442 v_o_kept), (q_o_isKept, gZ Cs 2 v_o_isKept)] → va_S A s.heap H locs → lv_has ls 2 [(0, .ref q_o), (1, .int x1)] → P_X6_save_b16 v_o_refusal v_o_now v_o_kept v_o_isKept x1 post s1 → W p l e ({ frames := 1, cells := 0, slots := 0, locals := 25 } : Room) s m args below meth c H locs 0 0 Q (F0 m 16 ls [.int s1, .ref q_o]) := by
    intro H locs ls s1 hP hD hS hl h
    unfold P_X6_save_b16 at h
    refine gVM (wr := [(q_o_now, gI Cs 221 v_o_now), (q_o_kept, gI Cs 442 v_o_kept), (q_o_isKept, gZ Cs 2 v_o_isKept)]) (As := [.int s1]) (rest := []) ⟨hx, hb, hml, hown, htb⟩ hK hP hD hS hA hN [0] [1, 2, 3] rfl (by decide) rfl (by decide) (by decide) (c_X6_refused l D Cs q_o q_o_text q_o_now q_o_trial q_o_diary q_o_kept q_o_isKept q_o_years H.size v_o_refusal v_o_size v_o_acts v_o_least v_o_origins v_o_ofAll v_o_ofSome v_o_sets v_o_spot v_o_out s1 h) (cwV 1 htb (TB_v tb_128 tb_129 tb_130 tb_5 (TB_self tb_131)) rfl rfl rfl z_X6_refused ⟨Nat.le_of_ble_eq_true rfl, Nat.le_of_ble_eq_true rfl⟩) 0 rfl rfl rfl rfl hl.1 rfl (Nat.le_of_ble_eq_true rfl) ⟨Nat.le_of_ble_eq_true rfl, Nat.le_of_ble_eq_true rfl⟩ dX6_save_16 (fun r_1 m_2 H locs h hP hD hS => ?_)
    have hP : va_P D vwCl [(q_o_now, gI Cs 221 v_o_now), (q_o_kept, gI Cs 442 v_o_kept), (q_o_isKept, gZ Cs 2 v_o_isKept), (q_o, .inr (6, [.int m_2, .ref q_o_text, .int v_o_size, .ref q_o_now, .ref q_o_trial, .ref q_o_diary, .int v_o_acts, .ref q_o_kept, .ref q_o_isKept, .ref q_o_years, .int v_o_least, .int v_o_origins, .int v_o_ofAll, .int v_o_ofSome, .int v_o_sets, .int v_o_spot, .int v_o_out]))] H := hP
    have hD : va_D A [(q_o_now, gI Cs 221 v_o_now), (q_o_kept, gI Cs 442 v_o_kept), (q_o_isKept, gZ Cs 2 v_o_isKept), (q_o, .inr (6, [.int m_2, .ref q_o_text, .int v_o_size, .ref q_o_now, .ref q_o_trial, .ref q_o_diary, .int v_o_acts, .ref q_o_kept, .ref q_o_isKept, .ref q_o_years, .int v_o_least, .int v_o_origins, .int v_o_ofAll, .int v_o_ofSome, .int v_o_sets, .int v_o_spot, .int v_o_out]))] := hD
    refine lv_if_eq (tgt := 24) hx hb dX6_save_19 (by decide) (fun c_3 => ?_) (fun c_3 => ?_)
    · have h := h.1 c_3
      refine lv_aload_n hx hb dX6_save_24 rfl (lv_at hl 0 rfl) ?_
      refine va_get (D := D) (ci := 6) (v := .ref q_o_now) (C := RX6) (T := TX6) (N := 17) hx hb htb inT_X6 hown hK hP 3 rfl rfl 3 (by decide) (htb _ tb_90) (fun _ h9 => h9) rfl dX6_save_25 ?_
      refine lv_iconst (v := (0 : Int32)) hx hb dX6_save_28 (by decide) ?_
      refine lv_aload_n hx hb dX6_save_29 rfl (lv_at hl 0 rfl) ?_
      refine va_get (D := D) (ci := 6) (v := .ref q_o_kept) (C := RX6) (T := TX6) (N := 17) hx hb htb inT_X6 hown hK hP 3 rfl rfl 7 (by decide) (htb _ tb_93) (fun _ h9 => h9) rfl dX6_save_30 ?_
      refine lv_sipush (v := (221 : Int32)) hx hb dX6_save_33 (by decide) ?_
      refine lv_iload_n hx hb dX6_save_36 rfl (lv_at hl 1 rfl) ?_
      refine lv_imul hx hb dX6_save_37 ?_
      refine gSMv (wr := [(q_o_isKept, gZ Cs 2 v_o_isKept), (q_o, .inr (6, [.int m_2, .ref q_o_text, .int v_o_size, .ref q_o_now, .ref q_o_trial, .ref q_o_diary, .int v_o_acts, .ref q_o_kept, .ref q_o_isKept, .ref q_o_years, .int v_o_least, .int v_o_origins, .int v_o_ofAll, .int v_o_ofSome, .int v_o_sets, .int v_o_spot, .int v_o_out]))]) (As := [.ref q_o_now, .int (0 : Int32), .ref q_o_kept, .int ((221 : Int32) * x1)]) (rest := []) ⟨hx, hb, hml, hown, htb⟩ hK hP hD hS hA hN [0, 1] [2, 3] rfl (by decide) rfl (by decide) (by decide) (c_X6_copyState l D Cs q_o_now q_o_kept 221 442 H.size v_o_now v_o_kept (0 : Int32) ((221 : Int32) * x1) h) (va_cwS 4 htb (TB_s tb_170 tb_171 tb_5 (TB_self tb_172)) rfl rfl rfl z_X6_copyState.2 ⟨Nat.le_of_ble_eq_true rfl, Nat.le_of_ble_eq_true rfl⟩) rfl hl.1 rfl (Nat.le_of_ble_eq_true rfl) ⟨Nat.le_of_ble_eq_true rfl, Nat.le_of_ble_eq_true rfl⟩ dX6_save_38 (fun m_5 H locs h hP hD hS => ?_)
      have hP : va_P D vwCl [(q_o_isKept, gZ Cs 2 v_o_isKept), (q_o, .inr (6, [.int m_2, .ref q_o_text, .int v_o_size, .ref q_o_now, .ref q_o_trial, .ref q_o_diary, .int v_o_acts, .ref q_o_kept, .ref q_o_isKept, .ref q_o_years, .int v_o_least, .int v_o_origins, .int v_o_ofAll, .int v_o_ofSome, .int v_o_sets, .int v_o_spot, .int v_o_out])), (q_o_now, gI Cs 221 v_o_now), (q_o_kept, gI Cs 442 m_5)] H := hP
      have hD : va_D A [(q_o_isKept, gZ Cs 2 v_o_isKept), (q_o, .inr (6, [.int m_2, .ref q_o_text, .int v_o_size, .ref q_o_now, .ref q_o_trial, .ref q_o_diary, .int v_o_acts, .ref q_o_kept, .ref q_o_isKept, .ref q_o_years, .int v_o_least, .int v_o_origins, .int v_o_ofAll, .int v_o_ofSome, .int v_o_sets, .int v_o_spot, .int v_o_out])), (q_o_now, gI Cs 221 v_o_now), (q_o_kept, gI Cs 442 m_5)] := hD
      refine lv_aload_n hx hb dX6_save_41 rfl (lv_at hl 0 rfl) ?_
      refine va_get (D := D) (ci := 6) (v := .ref q_o_isKept) (C := RX6) (T := TX6) (N := 17) hx hb htb inT_X6 hown hK hP 1 rfl rfl 8 (by decide) (htb _ tb_94) (fun _ h9 => h9) rfl dX6_save_42 ?_
      refine lv_iload_n hx hb dX6_save_45 rfl (lv_at hl 1 rfl) ?_
      refine lv_iconst (v := (1 : Int32)) hx hb dX6_save_46 (by decide) ?_
      obtain ⟨hi_6, h⟩ := h
      refine va_zast hx hb hK hP hD hS 0 2 rfl rfl hi_6 dX6_save_47 (fun H locs hP hD hS => ?_)
      have hP : va_P D vwCl [(q_o_isKept, gZ Cs 2 (upd v_o_isKept x1.toNatClampNeg (vp_nar .boolean (1 : Int32)))), (q_o, .inr (6, [.int m_2, .ref q_o_text, .int v_o_size, .ref q_o_now, .ref q_o_trial, .ref q_o_diary, .int v_o_acts, .ref q_o_kept, .ref q_o_isKept, .ref q_o_years, .int v_o_least, .int v_o_origins, .int v_o_ofAll, .int v_o_ofSome, .int v_o_sets, .int v_o_spot, .int v_o_out])), (q_o_now, gI Cs 221 v_o_now), (q_o_kept, gI Cs 442 m_5)] H := hP
      have hD : va_D A [(q_o_isKept, gZ Cs 2 (upd v_o_isKept x1.toNatClampNeg (vp_nar .boolean (1 : Int32)))), (q_o, .inr (6, [.int m_2, .ref q_o_text, .int v_o_size, .ref q_o_now, .ref q_o_trial, .ref q_o_diary, .int v_o_acts, .ref q_o_kept, .ref q_o_isKept, .ref q_o_years, .int v_o_least, .int v_o_origins, .int v_o_ofAll, .int v_o_ofSome, .int v_o_sets, .int v_o_spot, .int v_o_out])), (q_o_now, gI Cs 221 v_o_now), (q_o_kept, gI Cs 442 m_5)] := hD
      refine lv_aload_n hx hb dX6_save_48 rfl (lv_at hl 0 rfl) ?_
      refine va_get (D := D) (ci := 6) (v := .ref q_o_now) (C := RX6) (T := TX6) (N := 17) hx hb htb inT_X6 hown hK hP 1 rfl rfl 3 (by decide) (htb _ tb_90) (fun _ h9 => h9) rfl dX6_save_49 ?_
      refine lv_iconst (v := (0 : Int32)) hx hb dX6_save_52 (by decide) ?_
      refine va_iald hx hb hK hP 2 0 rfl rfl (by unfold vp_in; decide) dX6_save_53 ?_
      rw [← hQ]
      exact gRetI (u := (m_2, m_5, (upd v_o_isKept x1.toNatClampNeg (vp_nar .boolean (1 : Int32))))) hx hb hr rfl h (hP.sub [1, 2, 3, 0] rfl) (hD.sub [1, 2, 3, 0] (by decide) rfl) hS dX6_save_54 hlocks
    · have h := h.2 c_3
      refine lv_iconst (v := (0 : Int32)) hx hb dX6_save_22 (by decide) ?_
      rw [← hQ]
      exact gRetI (u := (m_2, v_o_kept, v_o_isKept)) hx hb hr rfl h (hP.sub [3, 0, 1, 2] rfl) (hD.sub [3, 0, 1, 2] (by decide) rfl) hS dX6_save_23 hlocks
  unfold P_X6_save at h
  refine lv_aload_n hx hb dX6_save_0 rfl (lv_at hl 0 rfl) ?_
  refine lv_iload_n hx hb dX6_save_1 rfl (lv_at hl 1 rfl) ?_
  refine lv_i2l (v := x1.toInt64) hx hb dX6_save_2 rfl ?_
  refine lv_lconst (v := (0 : Int64)) hx hb dX6_save_3 rfl ?_
  refine lv_lconst (v := (1 : Int64)) hx hb dX6_save_4 rfl ?_
  refine gSR (As := [.long x1.toInt64, .long (0 : Int64), .long (1 : Int64)]) (rest := [.ref q_o]) ⟨hx, hb, hml, hown, htb⟩ hK hP hN [] rfl (c_X6_in l D Cs x1.toInt64 (0 : Int64) (1 : Int64) h) (va_cwS 3 htb (TB_s tb_125 tb_126 tb_5 (TB_self tb_127)) rfl rfl rfl z_X6_in.2 ⟨Nat.le_of_ble_eq_true rfl, Nat.le_of_ble_eq_true rfl⟩) rfl hl.1 rfl (Nat.le_of_ble_eq_true rfl) ⟨Nat.le_of_ble_eq_true rfl, Nat.le_of_ble_eq_true rfl⟩ dX6_save_5 (fun r_7 h => ?_)
  refine lv_if_eq (tgt := 15) hx hb dX6_save_8 (by decide) (fun c_8 => ?_) (fun c_8 => ?_)
  · have h := h.1 c_8
    refine lv_iconst (v := (1 : Int32)) hx hb dX6_save_15 (by decide) ?_
    exact B16 _ _ _ (1 : Int32) hP hD hS (lv_sub hl [0, 1] rfl) h
  · have h := h.2 c_8
    refine lv_iconst (v := (0 : Int32)) hx hb dX6_save_11 (by decide) ?_
    refine lv_goto (tgt := 16) hx hb dX6_save_12 (by decide) ?_
    exact B16 _ _ _ (0 : Int32) hP hD hS (lv_sub hl [0, 1] rfl) h
set_option maxHeartbeats 4000000 in
set_option maxRecDepth 100000 in
theorem c_X6_restore (l : Launch) (D : va_G) (Cs : Nat → ClassId) (q_o : Nat) (q_o_text : Nat) (q_o_now : Nat) (q_o_trial : Nat) (q_o_diary : Nat) (q_o_kept : Nat) (q_o_isKept : Nat) (q_o_years : Nat) (sz : Nat) (v_o_refusal : Int32) (v_o_acts : Int32) (v_o_now : (Nat → Int32)) (v_o_kept : (Nat → Int32)) (v_o_isKept : (Nat → Int32)) (v_o_size : Int32) (v_o_least : Int32) (v_o_origins : Int32) (v_o_ofAll : Int32) (v_o_ofSome : Int32) (v_o_sets : Int32) (v_o_spot : Int32) (v_o_out : Int32) (x1 : Int32) {post : Int32 → Int32 → Int32 → (Nat → Int32) → Prop} (h : P_X6_restore v_o_refusal v_o_acts v_o_now v_o_kept v_o_isKept x1 post) : Met l yX6_restore wsX6_restore ({ frames := 1, cells := 0, slots := 0, locals := 25 } : Room) (va_Pc [.ref q_o, .int x1] (gM D Cs [(q_o, .inr (6, [.int v_o_refusal, .ref q_o_text, .int v_o_size, .ref q_o_now, .ref q_o_trial, .ref q_o_diary, .int v_o_acts, .ref q_o_kept, .ref q_o_isKept, .ref q_o_years, .int v_o_least, .int v_o_origins, .int v_o_ofAll, .int v_o_ofSome, .int v_o_sets, .int v_o_spot, .int v_o_out])), (q_o_now, gI Cs 221 v_o_now), (q_o_kept, gI Cs 442 v_o_kept), (q_o_isKept, gZ Cs 2 v_o_isKept)] sz)) (va_Qi (fun (r : Int32) (u : Int32 × Int32 × (Nat → Int32)) => post r u.1 u.2.1 u.2.2) (gB D (va_A [(q_o, .inr (6, [.int v_o_refusal, .ref q_o_text, .int v_o_size, .ref q_o_now, .ref q_o_trial, .ref q_o_diary, .int v_o_acts, .ref q_o_kept, .ref q_o_isKept, .ref q_o_years, .int v_o_least, .int v_o_origins, .int v_o_ofAll, .int v_o_ofSome, .int v_o_sets, .int v_o_spot, .int v_o_out])), (q_o_now, gI Cs 221 v_o_now), (q_o_kept, gI Cs 442 v_o_kept), (q_o_isKept, gZ Cs 2 v_o_isKept)] sz) (fun u : Int32 × Int32 × (Nat → Int32) => [(q_o, .inr (6, [.int u.1, .ref q_o_text, .int v_o_size, .ref q_o_now, .ref q_o_trial, .ref q_o_diary, .int u.2.1, .ref q_o_kept, .ref q_o_isKept, .ref q_o_years, .int v_o_least, .int v_o_origins, .int v_o_ofAll, .int v_o_ofSome, .int v_o_sets, .int v_o_spot, .int v_o_out])), (q_o_now, gI Cs 221 u.2.2), (q_o_kept, gI Cs 442 v_o_kept), (q_o_isKept, gZ Cs 2 v_o_isKept)])) (va_A [(q_o, .inr (6, [.int v_o_refusal, .ref q_o_text, .int v_o_size, .ref q_o_now, .ref q_o_trial, .ref q_o_diary, .int v_o_acts, .ref q_o_kept, .ref q_o_isKept, .ref q_o_years, .int v_o_least, .int v_o_origins, .int v_o_ofAll, .int v_o_ofSome, .int v_o_sets, .int v_o_spot, .int v_o_out])), (q_o_now, gI Cs 221 v_o_now), (q_o_kept, gI Cs 442 v_o_kept), (q_o_isKept, gZ Cs 2 v_o_isKept)] sz)) 0 0 (va_A [(q_o, .inr (6, [.int v_o_refusal, .ref q_o_text, .int v_o_size, .ref q_o_now, .ref q_o_trial, .ref q_o_diary, .int v_o_acts, .ref q_o_kept, .ref q_o_isKept, .ref q_o_years, .int v_o_least, .int v_o_origins, .int v_o_ofAll, .int v_o_ofSome, .int v_o_sets, .int v_o_spot, .int v_o_out])), (q_o_now, gI Cs 221 v_o_now), (q_o_kept, gI Cs 442 v_o_kept), (q_o_isKept, gZ Cs 2 v_o_isKept)] sz) := by
  refine Met.ofW (cc := cX6_restore) (maxL := 2) (ret := (some .int)) (by decide) rfl ?_
  intro p e s m args below meth c s₁ B hml hv
  obtain ⟨ha, hsz, hP, hK, hD0, hN⟩ := hv
  have hx := B.exec
  have hb := B.bytes
  have hr := B.returns
  have hts := atoms_spec (ws := wsX6_restore) B.pre
  have htb : ∀ w ∈ TB, w.before args s = true := fun w h9 => hts w (List.mem_cons_of_mem _ h9)
  have hown : s.vm.findClass RX6 = some m.cls := findClass_of_methodNamed B.named
  have hlocks := B.notSynchronized
  subst hsz
  have hD := hD0.self (sz := s.heap.size)
  generalize hAe : va_A [(q_o, .inr (6, [.int v_o_refusal, .ref q_o_text, .int v_o_size, .ref q_o_now, .ref q_o_trial, .ref q_o_diary, .int v_o_acts, .ref q_o_kept, .ref q_o_isKept, .ref q_o_years, .int v_o_least, .int v_o_origins, .int v_o_ofAll, .int v_o_ofSome, .int v_o_sets, .int v_o_spot, .int v_o_out])), (q_o_now, gI Cs 221 v_o_now), (q_o_kept, gI Cs 442 v_o_kept), (q_o_isKept, gZ Cs 2 v_o_isKept)] s.heap.size = A at hD ⊢
  have hA : ∀ q : Nat, s.heap.size ≤ q → A q := fun q h9 => by rw [← hAe]; exact Or.inr h9
  obtain ⟨H, hH⟩ : ∃ z : Heap, z = s.heap := ⟨_, rfl⟩
  have hS : va_S A s.heap H [] := by rw [hH]; exact va_S.rf
  have hP : va_P D vwCl [(q_o, .inr (6, [.int v_o_refusal, .ref q_o_text, .int v_o_size, .ref q_o_now, .ref q_o_trial, .ref q_o_diary, .int v_o_acts, .ref q_o_kept, .ref q_o_isKept, .ref q_o_years, .int v_o_least, .int v_o_origins, .int v_o_ofAll, .int v_o_ofSome, .int v_o_sets, .int v_o_spot, .int v_o_out])), (q_o_now, gI Cs 221 v_o_now), (q_o_kept, gI Cs 442 v_o_kept), (q_o_isKept, gZ Cs 2 v_o_isKept)] H := by rw [hH]; exact hP
  generalize hQ : MQ below _ args s _ _ _ = Q
  show W p l e ({ frames := 1, cells := 0, slots := 0, locals := 25 } : Room) s m args below meth c s.heap [] 0 0 Q (entryFrame m args 2)
  have hent : entryFrame m args 2 = F0 m 0 ((lg_sl ([.ref q_o, .int x1]) ++ List.replicate (2 - (lg_sl ([.ref q_o, .int x1])).length) Slot.unset).toArray) [] := by rw [ha]; exact lg_entry_eq m ([.ref q_o, .int x1]) 2
  rw [hent]; clear hent
  rw [← hH]
  have hl := lv_entry ([.ref q_o, .int x1]) (n := 2) (Nat.le_of_ble_eq_true rfl)
  generalize (lg_sl ([.ref q_o, .int x1]) ++ List.replicate (2 - (lg_sl ([.ref q_o, .int x1])).length) Slot.unset).toArray = ls at hl ⊢
  have hl : lv_has ls 2 [(0, .ref q_o), (1, .int x1)] := hl
  have B29 : ∀ (H : Heap) (locs : List Loc) (ls : Array Slot) (s1 : Int32), va_P D vwCl [(q_o, .inr (6, [.int v_o_refusal, .ref q_o_text, .int v_o_size, .ref q_o_now, .ref q_o_trial, .ref q_o_diary, .int v_o_acts, .ref q_o_kept, .ref q_o_isKept, .ref q_o_years, .int v_o_least, .int v_o_origins, .int v_o_ofAll, .int v_o_ofSome, .int v_o_sets, .int v_o_spot, .int v_o_out])), (q_o_now, gI Cs 221 v_o_now), (q_o_kept, gI Cs 442 v_o_kept), (q_o_isKept, gZ Cs 2 v_o_isKept)] H → va_D A [(q_o, .inr (6, [.int v_o_refusal, .ref q_o_text, .int v_o_size, .ref q_o_now, .ref q_o_trial, .ref q_o_diary, .int v_o_acts, .ref q_o_kept, .ref q_o_isKept, .ref q_o_years, .int v_o_least, .int v_o_origins, .int v_o_ofAll, .int v_o_ofSome, .int v_o_sets, .int v_o_spot, .int v_o_out])), (q_o_now, gI Cs 221 v_o_now), (q_o_kept, gI Cs 442 v_o_kept), (q_o_isKept, gZ Cs 2 v_o_isKept)] → va_S A s.heap H locs → lv_has ls 2 [(0, .ref q_o), (1, .int x1)] → P_X6_restore_b29 v_o_refusal v_o_acts v_o_now v_o_kept v_o_isKept x1 post s1 → W p l e ({ frames := 1, cells := 0, slots := 0, locals := 25 } : Room) s m args below meth c H locs 0 0 Q (F0 m 29 ls [.int s1, .ref q_o]) := by
    intro H locs ls s1 hP hD hS hl h
    unfold P_X6_restore_b29 at h
    refine gVM (wr := [(q_o_now, gI Cs 221 v_o_now), (q_o_kept, gI Cs 442 v_o_kept), (q_o_isKept, gZ Cs 2 v_o_isKept)]) (As := [.int s1]) (rest := []) ⟨hx, hb, hml, hown, htb⟩ hK hP hD hS hA hN [0] [1, 2, 3] rfl (by decide) rfl (by decide) (by decide) (c_X6_refused l D Cs q_o q_o_text q_o_now q_o_trial q_o_diary q_o_kept q_o_isKept q_o_years H.size v_o_refusal v_o_size v_o_acts v_o_least v_o_origins v_o_ofAll v_o_ofSome v_o_sets v_o_spot v_o_out s1 h) (cwV 1 htb (TB_v tb_128 tb_129 tb_130 tb_5 (TB_self tb_131)) rfl rfl rfl z_X6_refused ⟨Nat.le_of_ble_eq_true rfl, Nat.le_of_ble_eq_true rfl⟩) 0 rfl rfl rfl rfl hl.1 rfl (Nat.le_of_ble_eq_true rfl) ⟨Nat.le_of_ble_eq_true rfl, Nat.le_of_ble_eq_true rfl⟩ dX6_restore_29 (fun r_1 m_2 H locs h hP hD hS => ?_)
    have hP : va_P D vwCl [(q_o_now, gI Cs 221 v_o_now), (q_o_kept, gI Cs 442 v_o_kept), (q_o_isKept, gZ Cs 2 v_o_isKept), (q_o, .inr (6, [.int m_2, .ref q_o_text, .int v_o_size, .ref q_o_now, .ref q_o_trial, .ref q_o_diary, .int v_o_acts, .ref q_o_kept, .ref q_o_isKept, .ref q_o_years, .int v_o_least, .int v_o_origins, .int v_o_ofAll, .int v_o_ofSome, .int v_o_sets, .int v_o_spot, .int v_o_out]))] H := hP
    have hD : va_D A [(q_o_now, gI Cs 221 v_o_now), (q_o_kept, gI Cs 442 v_o_kept), (q_o_isKept, gZ Cs 2 v_o_isKept), (q_o, .inr (6, [.int m_2, .ref q_o_text, .int v_o_size, .ref q_o_now, .ref q_o_trial, .ref q_o_diary, .int v_o_acts, .ref q_o_kept, .ref q_o_isKept, .ref q_o_years, .int v_o_least, .int v_o_origins, .int v_o_ofAll, .int v_o_ofSome, .int v_o_sets, .int v_o_spot, .int v_o_out]))] := hD
    refine lv_if_eq (tgt := 37) hx hb dX6_restore_32 (by decide) (fun c_3 => ?_) (fun c_3 => ?_)
    · have h := h.1 c_3
      refine lv_aload_n hx hb dX6_restore_37 rfl (lv_at hl 0 rfl) ?_
      refine va_get (D := D) (ci := 6) (v := .ref q_o_kept) (C := RX6) (T := TX6) (N := 17) hx hb htb inT_X6 hown hK hP 3 rfl rfl 7 (by decide) (htb _ tb_93) (fun _ h9 => h9) rfl dX6_restore_38 ?_
      refine lv_sipush (v := (221 : Int32)) hx hb dX6_restore_41 (by decide) ?_
      refine lv_iload_n hx hb dX6_restore_44 rfl (lv_at hl 1 rfl) ?_
      refine lv_imul hx hb dX6_restore_45 ?_
      refine lv_aload_n hx hb dX6_restore_46 rfl (lv_at hl 0 rfl) ?_
      refine va_get (D := D) (ci := 6) (v := .ref q_o_now) (C := RX6) (T := TX6) (N := 17) hx hb htb inT_X6 hown hK hP 3 rfl rfl 3 (by decide) (htb _ tb_90) (fun _ h9 => h9) rfl dX6_restore_47 ?_
      refine lv_iconst (v := (0 : Int32)) hx hb dX6_restore_50 (by decide) ?_
      refine gSMv (wr := [(q_o_isKept, gZ Cs 2 v_o_isKept), (q_o, .inr (6, [.int m_2, .ref q_o_text, .int v_o_size, .ref q_o_now, .ref q_o_trial, .ref q_o_diary, .int v_o_acts, .ref q_o_kept, .ref q_o_isKept, .ref q_o_years, .int v_o_least, .int v_o_origins, .int v_o_ofAll, .int v_o_ofSome, .int v_o_sets, .int v_o_spot, .int v_o_out]))]) (As := [.ref q_o_kept, .int ((221 : Int32) * x1), .ref q_o_now, .int (0 : Int32)]) (rest := []) ⟨hx, hb, hml, hown, htb⟩ hK hP hD hS hA hN [1, 0] [2, 3] rfl (by decide) rfl (by decide) (by decide) (c_X6_copyState l D Cs q_o_kept q_o_now 442 221 H.size v_o_kept v_o_now ((221 : Int32) * x1) (0 : Int32) h) (va_cwS 4 htb (TB_s tb_170 tb_171 tb_5 (TB_self tb_172)) rfl rfl rfl z_X6_copyState.2 ⟨Nat.le_of_ble_eq_true rfl, Nat.le_of_ble_eq_true rfl⟩) rfl hl.1 rfl (Nat.le_of_ble_eq_true rfl) ⟨Nat.le_of_ble_eq_true rfl, Nat.le_of_ble_eq_true rfl⟩ dX6_restore_51 (fun m_5 H locs h hP hD hS => ?_)
      have hP : va_P D vwCl [(q_o_isKept, gZ Cs 2 v_o_isKept), (q_o, .inr (6, [.int m_2, .ref q_o_text, .int v_o_size, .ref q_o_now, .ref q_o_trial, .ref q_o_diary, .int v_o_acts, .ref q_o_kept, .ref q_o_isKept, .ref q_o_years, .int v_o_least, .int v_o_origins, .int v_o_ofAll, .int v_o_ofSome, .int v_o_sets, .int v_o_spot, .int v_o_out])), (q_o_kept, gI Cs 442 v_o_kept), (q_o_now, gI Cs 221 m_5)] H := hP
      have hD : va_D A [(q_o_isKept, gZ Cs 2 v_o_isKept), (q_o, .inr (6, [.int m_2, .ref q_o_text, .int v_o_size, .ref q_o_now, .ref q_o_trial, .ref q_o_diary, .int v_o_acts, .ref q_o_kept, .ref q_o_isKept, .ref q_o_years, .int v_o_least, .int v_o_origins, .int v_o_ofAll, .int v_o_ofSome, .int v_o_sets, .int v_o_spot, .int v_o_out])), (q_o_kept, gI Cs 442 v_o_kept), (q_o_now, gI Cs 221 m_5)] := hD
      refine lv_aload_n hx hb dX6_restore_54 rfl (lv_at hl 0 rfl) ?_
      refine lv_iconst (v := (0 : Int32)) hx hb dX6_restore_55 (by decide) ?_
      refine va_put (D := D) (ci := 6) (v := .int (0 : Int32)) (ty := .int) (C := RX6) (T := TX6) (N := 17) hx hb htb inT_X6 tyX6 tyX6_ok nmX6 hown hK hP hD hS 1 rfl rfl 6 (by decide) (htb _ tb_96) (fun _ h9 => h9) rfl (tyX6_ok 6 (by decide)) rfl rfl (Nat.le_of_ble_eq_true rfl) dX6_restore_56 (fun H locs hP hD hS => ?_)
      have hP : va_P D vwCl [(q_o_isKept, gZ Cs 2 v_o_isKept), (q_o, .inr (6, [.int m_2, .ref q_o_text, .int v_o_size, .ref q_o_now, .ref q_o_trial, .ref q_o_diary, .int (0 : Int32), .ref q_o_kept, .ref q_o_isKept, .ref q_o_years, .int v_o_least, .int v_o_origins, .int v_o_ofAll, .int v_o_ofSome, .int v_o_sets, .int v_o_spot, .int v_o_out])), (q_o_kept, gI Cs 442 v_o_kept), (q_o_now, gI Cs 221 m_5)] H := hP
      have hD : va_D A [(q_o_isKept, gZ Cs 2 v_o_isKept), (q_o, .inr (6, [.int m_2, .ref q_o_text, .int v_o_size, .ref q_o_now, .ref q_o_trial, .ref q_o_diary, .int (0 : Int32), .ref q_o_kept, .ref q_o_isKept, .ref q_o_years, .int v_o_least, .int v_o_origins, .int v_o_ofAll, .int v_o_ofSome, .int v_o_sets, .int v_o_spot, .int v_o_out])), (q_o_kept, gI Cs 442 v_o_kept), (q_o_now, gI Cs 221 m_5)] := hD
      refine lv_aload_n hx hb dX6_restore_59 rfl (lv_at hl 0 rfl) ?_
      refine va_get (D := D) (ci := 6) (v := .ref q_o_now) (C := RX6) (T := TX6) (N := 17) hx hb htb inT_X6 hown hK hP 1 rfl rfl 3 (by decide) (htb _ tb_90) (fun _ h9 => h9) rfl dX6_restore_60 ?_
      refine lv_iconst (v := (0 : Int32)) hx hb dX6_restore_63 (by decide) ?_
      refine va_iald hx hb hK hP 3 0 rfl rfl (by unfold vp_in; decide) dX6_restore_64 ?_
      rw [← hQ]
      exact gRetI (u := (m_2, (0 : Int32), m_5)) hx hb hr rfl h (hP.sub [1, 3, 2, 0] rfl) (hD.sub [1, 3, 2, 0] (by decide) rfl) hS dX6_restore_65 hlocks
    · have h := h.2 c_3
      refine lv_iconst (v := (0 : Int32)) hx hb dX6_restore_35 (by decide) ?_
      rw [← hQ]
      exact gRetI (u := (m_2, v_o_acts, v_o_now)) hx hb hr rfl h (hP.sub [3, 0, 1, 2] rfl) (hD.sub [3, 0, 1, 2] (by decide) rfl) hS dX6_restore_36 hlocks
  unfold P_X6_restore at h
  refine lv_aload_n hx hb dX6_restore_0 rfl (lv_at hl 0 rfl) ?_
  refine lv_iload_n hx hb dX6_restore_1 rfl (lv_at hl 1 rfl) ?_
  refine lv_i2l (v := x1.toInt64) hx hb dX6_restore_2 rfl ?_
  refine lv_lconst (v := (0 : Int64)) hx hb dX6_restore_3 rfl ?_
  refine lv_lconst (v := (1 : Int64)) hx hb dX6_restore_4 rfl ?_
  refine gSR (As := [.long x1.toInt64, .long (0 : Int64), .long (1 : Int64)]) (rest := [.ref q_o]) ⟨hx, hb, hml, hown, htb⟩ hK hP hN [] rfl (c_X6_in l D Cs x1.toInt64 (0 : Int64) (1 : Int64) h) (va_cwS 3 htb (TB_s tb_125 tb_126 tb_5 (TB_self tb_127)) rfl rfl rfl z_X6_in.2 ⟨Nat.le_of_ble_eq_true rfl, Nat.le_of_ble_eq_true rfl⟩) rfl hl.1 rfl (Nat.le_of_ble_eq_true rfl) ⟨Nat.le_of_ble_eq_true rfl, Nat.le_of_ble_eq_true rfl⟩ dX6_restore_5 (fun r_6 h => ?_)
  refine lv_if_ne (tgt := 15) hx hb dX6_restore_8 (by decide) (fun c_7 => ?_) (fun c_7 => ?_)
  · have h := h.2 c_7
    refine lv_aload_n hx hb dX6_restore_15 rfl (lv_at hl 0 rfl) ?_
    refine va_get (D := D) (ci := 6) (v := .ref q_o_isKept) (C := RX6) (T := TX6) (N := 17) hx hb htb inT_X6 hown hK hP 0 rfl rfl 8 (by decide) (htb _ tb_94) (fun _ h9 => h9) rfl dX6_restore_16 ?_
    refine lv_iload_n hx hb dX6_restore_19 rfl (lv_at hl 1 rfl) ?_
    obtain ⟨hi_8, h⟩ := h
    refine va_zald hx hb hK hP 3 2 rfl rfl hi_8 dX6_restore_20 ?_
    refine lv_if_ne (tgt := 28) hx hb dX6_restore_21 (by decide) (fun c_9 => ?_) (fun c_9 => ?_)
    · have h := h.2 c_9
      refine lv_iconst (v := (0 : Int32)) hx hb dX6_restore_28 (by decide) ?_
      exact B29 _ _ _ (0 : Int32) hP hD hS (lv_sub hl [0, 1] rfl) h
    · have h := h.1 c_9
      refine lv_iconst (v := (2 : Int32)) hx hb dX6_restore_24 (by decide) ?_
      refine lv_goto (tgt := 29) hx hb dX6_restore_25 (by decide) ?_
      exact B29 _ _ _ (2 : Int32) hP hD hS (lv_sub hl [0, 1] rfl) h
  · have h := h.1 c_7
    refine lv_iconst (v := (1 : Int32)) hx hb dX6_restore_11 (by decide) ?_
    refine lv_goto (tgt := 29) hx hb dX6_restore_12 (by decide) ?_
    exact B29 _ _ _ (1 : Int32) hP hD hS (lv_sub hl [0, 1] rfl) h
