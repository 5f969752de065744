set_option maxHeartbeats 4000000 in
set_option maxRecDepth 100000 in
theorem c_X1_writeTo (l : Launch) (D : va_G) (Cs : Nat → ClassId) (q_o : Nat) (q_a1 : Nat) (q_o_cells : Nat) (n_a1 : Nat) (sz : Nat) (v_o_cells : (Nat → Int32)) (v_a1 : (Nat → Int32)) {post : (Nat → Int32) → Prop} (h : P_X1_writeTo n_a1 v_o_cells v_a1 post) : Met l yX1_writeTo wsX1_writeTo ({ frames := 1, cells := 0, slots := 0, locals := 40 } : Room) (va_Pc [.ref q_o, .ref q_a1] (gM D Cs [(q_o, .inr (1, [.ref q_o_cells])), (q_o_cells, gI Cs 221 v_o_cells), (q_a1, gI Cs n_a1 v_a1)] sz)) (va_Qv (fun (u : (Nat → Int32)) => post u) (gB D (va_A [(q_o, .inr (1, [.ref q_o_cells])), (q_o_cells, gI Cs 221 v_o_cells), (q_a1, gI Cs n_a1 v_a1)] sz) (fun u : (Nat → Int32) => [(q_o, .inr (1, [.ref q_o_cells])), (q_o_cells, gI Cs 221 v_o_cells), (q_a1, gI Cs n_a1 u)])) (va_A [(q_o, .inr (1, [.ref q_o_cells])), (q_o_cells, gI Cs 221 v_o_cells), (q_a1, gI Cs n_a1 v_a1)] sz)) 0 0 (va_A [(q_o, .inr (1, [.ref q_o_cells])), (q_o_cells, gI Cs 221 v_o_cells), (q_a1, gI Cs n_a1 v_a1)] sz) := by
  refine Met.ofW (cc := cX1_writeTo) (maxL := 2) (ret := none) (by decide) rfl ?_
  intro p e s m args below meth c s₁ B hml hv
  obtain ⟨ha, hsz, hP, hK, hD0, hN⟩ := hv
  have hx := B.exec
  have hb := B.bytes
  have hr := B.returns
  have hts := atoms_spec (ws := wsX1_writeTo) B.pre
  have htb : ∀ w ∈ TB, w.before args s = true := fun w h9 => hts w (List.mem_cons_of_mem _ h9)
  have hown : s.vm.findClass RX1 = some m.cls := findClass_of_methodNamed B.named
  have hlocks := B.notSynchronized
  subst hsz
  have hD := hD0.self (sz := s.heap.size)
  generalize hAe : va_A [(q_o, .inr (1, [.ref q_o_cells])), (q_o_cells, gI Cs 221 v_o_cells), (q_a1, gI Cs n_a1 v_a1)] s.heap.size = A at hD ⊢
  have hA : ∀ q : Nat, s.heap.size ≤ q → A q := fun q h9 => by rw [← hAe]; exact Or.inr h9
  obtain ⟨H, hH⟩ : ∃ z : Heap, z = s.heap := ⟨_, rfl⟩
  have hS : va_S A s.heap H [] := by rw [hH]; exact va_S.rf
  have hP : va_P D vwCl [(q_o, .inr (1, [.ref q_o_cells])), (q_o_cells, gI Cs 221 v_o_cells), (q_a1, gI Cs n_a1 v_a1)] H := by rw [hH]; exact hP
  generalize hQ : MQ below _ args s _ _ _ = Q
  show W p l e ({ frames := 1, cells := 0, slots := 0, locals := 40 } : Room) s m args below meth c s.heap [] 0 0 Q (entryFrame m args 2)
  have hent : entryFrame m args 2 = F0 m 0 ((lg_sl ([.ref q_o, .ref q_a1]) ++ List.replicate (2 - (lg_sl ([.ref q_o, .ref q_a1])).length) Slot.unset).toArray) [] := by rw [ha]; exact lg_entry_eq m ([.ref q_o, .ref q_a1]) 2
  rw [hent]; clear hent
  rw [← hH]
  have hl := lv_entry ([.ref q_o, .ref q_a1]) (n := 2) (Nat.le_of_ble_eq_true rfl)
  generalize (lg_sl ([.ref q_o, .ref q_a1]) ++ List.replicate (2 - (lg_sl ([.ref q_o, .ref q_a1])).length) Slot.unset).toArray = ls at hl ⊢
  have hl : lv_has ls 2 [(0, .ref q_o), (1, .ref q_a1)] := hl
  have B21 : ∀ (H : Heap) (locs : List Loc) (ls : Array Slot) (w_a1 : (Nat → Int32)), va_P D vwCl [(q_o, .inr (1, [.ref q_o_cells])), (q_o_cells, gI Cs 221 v_o_cells), (q_a1, gI Cs n_a1 w_a1)] H → va_D A [(q_o, .inr (1, [.ref q_o_cells])), (q_o_cells, gI Cs 221 v_o_cells), (q_a1, gI Cs n_a1 w_a1)] → va_S A s.heap H locs → lv_has ls 2 [(0, .ref q_o), (1, .ref q_a1)] → P_X1_writeTo_b21 n_a1 v_o_cells v_a1 post w_a1 → W p l e ({ frames := 1, cells := 0, slots := 0, locals := 40 } : Room) s m args below meth c H locs 0 0 Q (F0 m 21 ls []) := by
    intro H locs ls w_a1 hP hD hS hl h
    unfold P_X1_writeTo_b21 at h
    rw [← hQ]
    exact gRetV (u := w_a1) hx hb hr h hP hD hS dX1_writeTo_21 hlocks
  unfold P_X1_writeTo at h
  refine lv_aload_n hx hb dX1_writeTo_0 rfl (lv_at hl 1 rfl) ?_
  refine va_alen hx hb hK hP 2 0 rfl rfl (v := nI n_a1) rfl dX1_writeTo_1 ?_
  refine lv_sipush (v := (221 : Int32)) hx hb dX1_writeTo_2 (by decide) ?_
  refine lv_icmp_ne (tgt := 21) hx hb dX1_writeTo_5 (by decide) (fun c_1 => ?_) (fun c_1 => ?_)
  · have h := h.2 c_1
    exact B21 _ _ _ v_a1 hP hD hS (lv_sub hl [0, 1] rfl) h
  · have h := h.1 c_1
    refine lv_aload_n hx hb dX1_writeTo_8 rfl (lv_at hl 0 rfl) ?_
    refine va_get (D := D) (ci := 1) (v := .ref q_o_cells) (C := RX1) (T := TX1) (N := 1) hx hb htb inT_X1 hown hK hP 0 rfl rfl 0 (by decide) (htb _ tb_41) (fun _ h9 => h9) rfl dX1_writeTo_9 ?_
    refine lv_iconst (v := (0 : Int32)) hx hb dX1_writeTo_12 (by decide) ?_
    refine lv_aload_n hx hb dX1_writeTo_13 rfl (lv_at hl 1 rfl) ?_
    refine lv_iconst (v := (0 : Int32)) hx hb dX1_writeTo_14 (by decide) ?_
    refine lv_sipush (v := (221 : Int32)) hx hb dX1_writeTo_15 (by decide) ?_
    obtain ⟨hl_2, h⟩ := h
    refine va_copyi hx hb (hml.trans hl.1.symm) hown (htb _ tb_284) (htb _ tb_285) (htb _ tb_286) (htb _ tb_287) hK hP hD hS 1 2 0 0 rfl rfl rfl rfl rfl (by decide) (by decide) (by decide) (by decide) hl_2 (fun _ _ => rfl) (Nat.le_of_ble_eq_true rfl) (Nat.le_of_ble_eq_true rfl) dX1_writeTo_18 (fun H locs hP hD hS => ?_)
    have hP : va_P D vwCl [(q_o, .inr (1, [.ref q_o_cells])), (q_o_cells, gI Cs 221 v_o_cells), (q_a1, gI Cs n_a1 (va_cpy v_o_cells v_a1 (0 : Int32).toNatClampNeg (0 : Int32).toNatClampNeg (221 : Int32).toNatClampNeg))] H := hP
    have hD : va_D A [(q_o, .inr (1, [.ref q_o_cells])), (q_o_cells, gI Cs 221 v_o_cells), (q_a1, gI Cs n_a1 (va_cpy v_o_cells v_a1 (0 : Int32).toNatClampNeg (0 : Int32).toNatClampNeg (221 : Int32).toNatClampNeg))] := hD
    exact B21 _ _ _ (va_cpy v_o_cells v_a1 (0 : Int32).toNatClampNeg (0 : Int32).toNatClampNeg (221 : Int32).toNatClampNeg) hP hD hS (lv_sub hl [0, 1] rfl) h
set_option maxHeartbeats 4000000 in
set_option maxRecDepth 100000 in
theorem c_X1_readFrom (l : Launch) (D : va_G) (Cs : Nat → ClassId) (q_o : Nat) (q_a1 : Nat) (q_o_cells : Nat) (n_a1 : Nat) (sz : Nat) (v_o_cells : (Nat → Int32)) (v_a1 : (Nat → Int32)) {post : (Nat → Int32) → Prop} (h : P_X1_readFrom n_a1 v_o_cells v_a1 post) : Met l yX1_readFrom wsX1_readFrom ({ frames := 1, cells := 0, slots := 0, locals := 40 } : Room) (va_Pc [.ref q_o, .ref q_a1] (gM D Cs [(q_o, .inr (1, [.ref q_o_cells])), (q_o_cells, gI Cs 221 v_o_cells), (q_a1, gI Cs n_a1 v_a1)] sz)) (va_Qv (fun (u : (Nat → Int32)) => post u) (gB D (va_A [(q_o, .inr (1, [.ref q_o_cells])), (q_o_cells, gI Cs 221 v_o_cells), (q_a1, gI Cs n_a1 v_a1)] sz) (fun u : (Nat → Int32) => [(q_o, .inr (1, [.ref q_o_cells])), (q_o_cells, gI Cs 221 u), (q_a1, gI Cs n_a1 v_a1)])) (va_A [(q_o, .inr (1, [.ref q_o_cells])), (q_o_cells, gI Cs 221 v_o_cells), (q_a1, gI Cs n_a1 v_a1)] sz)) 0 0 (va_A [(q_o, .inr (1, [.ref q_o_cells])), (q_o_cells, gI Cs 221 v_o_cells), (q_a1, gI Cs n_a1 v_a1)] sz) := by
  refine Met.ofW (cc := cX1_readFrom) (maxL := 2) (ret := none) (by decide) rfl ?_
  intro p e s m args below meth c s₁ B hml hv
  obtain ⟨ha, hsz, hP, hK, hD0, hN⟩ := hv
  have hx := B.exec
  have hb := B.bytes
  have hr := B.returns
  have hts := atoms_spec (ws := wsX1_readFrom) B.pre
  have htb : ∀ w ∈ TB, w.before args s = true := fun w h9 => hts w (List.mem_cons_of_mem _ h9)
  have hown : s.vm.findClass RX1 = some m.cls := findClass_of_methodNamed B.named
  have hlocks := B.notSynchronized
  subst hsz
  have hD := hD0.self (sz := s.heap.size)
  generalize hAe : va_A [(q_o, .inr (1, [.ref q_o_cells])), (q_o_cells, gI Cs 221 v_o_cells), (q_a1, gI Cs n_a1 v_a1)] s.heap.size = A at hD ⊢
  have hA : ∀ q : Nat, s.heap.size ≤ q → A q := fun q h9 => by rw [← hAe]; exact Or.inr h9
  obtain ⟨H, hH⟩ : ∃ z : Heap, z = s.heap := ⟨_, rfl⟩
  have hS : va_S A s.heap H [] := by rw [hH]; exact va_S.rf
  have hP : va_P D vwCl [(q_o, .inr (1, [.ref q_o_cells])), (q_o_cells, gI Cs 221 v_o_cells), (q_a1, gI Cs n_a1 v_a1)] H := by rw [hH]; exact hP
  generalize hQ : MQ below _ args s _ _ _ = Q
  show W p l e ({ frames := 1, cells := 0, slots := 0, locals := 40 } : Room) s m args below meth c s.heap [] 0 0 Q (entryFrame m args 2)
  have hent : entryFrame m args 2 = F0 m 0 ((lg_sl ([.ref q_o, .ref q_a1]) ++ List.replicate (2 - (lg_sl ([.ref q_o, .ref q_a1])).length) Slot.unset).toArray) [] := by rw [ha]; exact lg_entry_eq m ([.ref q_o, .ref q_a1]) 2
  rw [hent]; clear hent
  rw [← hH]
  have hl := lv_entry ([.ref q_o, .ref q_a1]) (n := 2) (Nat.le_of_ble_eq_true rfl)
  generalize (lg_sl ([.ref q_o, .ref q_a1]) ++ List.replicate (2 - (lg_sl ([.ref q_o, .ref q_a1])).length) Slot.unset).toArray = ls at hl ⊢
  have hl : lv_has ls 2 [(0, .ref q_o), (1, .ref q_a1)] := hl
  have B21 : ∀ (H : Heap) (locs : List Loc) (ls : Array Slot) (w_o_cells : (Nat → Int32)), va_P D vwCl [(q_o, .inr (1, [.ref q_o_cells])), (q_o_cells, gI Cs 221 w_o_cells), (q_a1, gI Cs n_a1 v_a1)] H → va_D A [(q_o, .inr (1, [.ref q_o_cells])), (q_o_cells, gI Cs 221 w_o_cells), (q_a1, gI Cs n_a1 v_a1)] → va_S A s.heap H locs → lv_has ls 2 [(0, .ref q_o), (1, .ref q_a1)] → P_X1_readFrom_b21 n_a1 v_o_cells v_a1 post w_o_cells → W p l e ({ frames := 1, cells := 0, slots := 0, locals := 40 } : Room) s m args below meth c H locs 0 0 Q (F0 m 21 ls []) := by
    intro H locs ls w_o_cells hP hD hS hl h
    unfold P_X1_readFrom_b21 at h
    rw [← hQ]
    exact gRetV (u := w_o_cells) hx hb hr h hP hD hS dX1_readFrom_21 hlocks
  unfold P_X1_readFrom at h
  refine lv_aload_n hx hb dX1_readFrom_0 rfl (lv_at hl 1 rfl) ?_
  refine va_alen hx hb hK hP 2 0 rfl rfl (v := nI n_a1) rfl dX1_readFrom_1 ?_
  refine lv_sipush (v := (221 : Int32)) hx hb dX1_readFrom_2 (by decide) ?_
  refine lv_icmp_ne (tgt := 21) hx hb dX1_readFrom_5 (by decide) (fun c_1 => ?_) (fun c_1 => ?_)
  · have h := h.2 c_1
    exact B21 _ _ _ v_o_cells hP hD hS (lv_sub hl [0, 1] rfl) h
  · have h := h.1 c_1
    refine lv_aload_n hx hb dX1_readFrom_8 rfl (lv_at hl 1 rfl) ?_
    refine lv_iconst (v := (0 : Int32)) hx hb dX1_readFrom_9 (by decide) ?_
    refine lv_aload_n hx hb dX1_readFrom_10 rfl (lv_at hl 0 rfl) ?_
    refine va_get (D := D) (ci := 1) (v := .ref q_o_cells) (C := RX1) (T := TX1) (N := 1) hx hb htb inT_X1 hown hK hP 0 rfl rfl 0 (by decide) (htb _ tb_41) (fun _ h9 => h9) rfl dX1_readFrom_11 ?_
    refine lv_iconst (v := (0 : Int32)) hx hb dX1_readFrom_14 (by decide) ?_
    refine lv_sipush (v := (221 : Int32)) hx hb dX1_readFrom_15 (by decide) ?_
    obtain ⟨hl_2, h⟩ := h
    refine va_copyi hx hb (hml.trans hl.1.symm) hown (htb _ tb_284) (htb _ tb_285) (htb _ tb_286) (htb _ tb_287) hK hP hD hS 2 1 0 0 rfl rfl rfl rfl rfl (by decide) (by decide) (by decide) hl_2 (by decide) (fun _ _ => rfl) (Nat.le_of_ble_eq_true rfl) (Nat.le_of_ble_eq_true rfl) dX1_readFrom_18 (fun H locs hP hD hS => ?_)
    have hP : va_P D vwCl [(q_o, .inr (1, [.ref q_o_cells])), (q_o_cells, gI Cs 221 (va_cpy v_a1 v_o_cells (0 : Int32).toNatClampNeg (0 : Int32).toNatClampNeg (221 : Int32).toNatClampNeg)), (q_a1, gI Cs n_a1 v_a1)] H := hP
    have hD : va_D A [(q_o, .inr (1, [.ref q_o_cells])), (q_o_cells, gI Cs 221 (va_cpy v_a1 v_o_cells (0 : Int32).toNatClampNeg (0 : Int32).toNatClampNeg (221 : Int32).toNatClampNeg)), (q_a1, gI Cs n_a1 v_a1)] := hD
    exact B21 _ _ _ (va_cpy v_a1 v_o_cells (0 : Int32).toNatClampNeg (0 : Int32).toNatClampNeg (221 : Int32).toNatClampNeg) hP hD hS (lv_sub hl [0, 1] rfl) h
set_option maxHeartbeats 4000000 in
set_option maxRecDepth 100000 in
theorem c_X1_takeOver (l : Launch) (D : va_G) (Cs : Nat → ClassId) (q_o : Nat) (q_a1 : Nat) (q_o_cells : Nat) (q_a1_cells : Nat) (sz : Nat) (v_o_cells : (Nat → Int32)) (v_a1_cells : (Nat → Int32)) {post : (Nat → Int32) → Prop} (h : P_X1_takeOver v_o_cells v_a1_cells post) : Met l yX1_takeOver wsX1_takeOver ({ frames := 2, cells := 0, slots := 0, locals := 61 } : Room) (va_Pc [.ref q_o, .ref q_a1] (gM D Cs [(q_o, .inr (1, [.ref q_o_cells])), (q_o_cells, gI Cs 221 v_o_cells), (q_a1, .inr (1, [.ref q_a1_cells])), (q_a1_cells, gI Cs 221 v_a1_cells)] sz)) (va_Qv (fun (u : (Nat → Int32)) => post u) (gB D (va_A [(q_o, .inr (1, [.ref q_o_cells])), (q_o_cells, gI Cs 221 v_o_cells), (q_a1, .inr (1, [.ref q_a1_cells])), (q_a1_cells, gI Cs 221 v_a1_cells)] sz) (fun u : (Nat → Int32) => [(q_o, .inr (1, [.ref q_o_cells])), (q_o_cells, gI Cs 221 u), (q_a1, .inr (1, [.ref q_a1_cells])), (q_a1_cells, gI Cs 221 v_a1_cells)])) (va_A [(q_o, .inr (1, [.ref q_o_cells])), (q_o_cells, gI Cs 221 v_o_cells), (q_a1, .inr (1, [.ref q_a1_cells])), (q_a1_cells, gI Cs 221 v_a1_cells)] sz)) 0 0 (va_A [(q_o, .inr (1, [.ref q_o_cells])), (q_o_cells, gI Cs 221 v_o_cells), (q_a1, .inr (1, [.ref q_a1_cells])), (q_a1_cells, gI Cs 221 v_a1_cells)] sz) := by
  refine Met.ofW (cc := cX1_takeOver) (maxL := 2) (ret := none) (by decide) rfl ?_
  intro p e s m args below meth c s₁ B hml hv
  obtain ⟨ha, hsz, hP, hK, hD0, hN⟩ := hv
  have hx := B.exec
  have hb := B.bytes
  have hr := B.returns
  have hts := atoms_spec (ws := wsX1_takeOver) B.pre
  have htb : ∀ w ∈ TB, w.before args s = true := fun w h9 => hts w (List.mem_cons_of_mem _ h9)
  have hown : s.vm.findClass RX1 = some m.cls := findClass_of_methodNamed B.named
  have hlocks := B.notSynchronized
  subst hsz
  have hD := hD0.self (sz := s.heap.size)
  generalize hAe : va_A [(q_o, .inr (1, [.ref q_o_cells])), (q_o_cells, gI Cs 221 v_o_cells), (q_a1, .inr (1, [.ref q_a1_cells])), (q_a1_cells, gI Cs 221 v_a1_cells)] s.heap.size = A at hD ⊢
  have hA : ∀ q : Nat, s.heap.size ≤ q → A q := fun q h9 => by rw [← hAe]; exact Or.inr h9
  obtain ⟨H, hH⟩ : ∃ z : Heap, z = s.heap := ⟨_, rfl⟩
  have hS : va_S A s.heap H [] := by rw [hH]; exact va_S.rf
  have hP : va_P D vwCl [(q_o, .inr (1, [.ref q_o_cells])), (q_o_cells, gI Cs 221 v_o_cells), (q_a1, .inr (1, [.ref q_a1_cells])), (q_a1_cells, gI Cs 221 v_a1_cells)] H := by rw [hH]; exact hP
  generalize hQ : MQ below _ args s _ _ _ = Q
  show W p l e ({ frames := 2, cells := 0, slots := 0, locals := 61 } : Room) s m args below meth c s.heap [] 0 0 Q (entryFrame m args 2)
  have hent : entryFrame m args 2 = F0 m 0 ((lg_sl ([.ref q_o, .ref q_a1]) ++ List.replicate (2 - (lg_sl ([.ref q_o, .ref q_a1])).length) Slot.unset).toArray) [] := by rw [ha]; exact lg_entry_eq m ([.ref q_o, .ref q_a1]) 2
  rw [hent]; clear hent
  rw [← hH]
  have hl := lv_entry ([.ref q_o, .ref q_a1]) (n := 2) (Nat.le_of_ble_eq_true rfl)
  generalize (lg_sl ([.ref q_o, .ref q_a1]) ++ List.replicate (2 - (lg_sl ([.ref q_o, .ref q_a1])).length) Slot.unset).toArray = ls at hl ⊢
  have hl : lv_has ls 2 [(0, .ref q_o), (1, .ref q_a1)] := hl
  unfold P_X1_takeOver at h
  refine lv_aload_n hx hb dX1_takeOver_0 rfl (lv_at hl 1 rfl) ?_
  refine lv_aload_n hx hb dX1_takeOver_1 rfl (lv_at hl 0 rfl) ?_
  refine va_get (D := D) (ci := 1) (v := .ref q_o_cells) (C := RX1) (T := TX1) (N := 1) hx hb htb inT_X1 hown hK hP 0 rfl rfl 0 (by decide) (htb _ tb_41) (fun _ h9 => h9) rfl dX1_takeOver_2 ?_
  refine gVMv (wr := [(q_o, .inr (1, [.ref q_o_cells]))]) (As := [.ref q_o_cells]) (rest := []) ⟨hx, hb, hml, hown, htb⟩ hK hP hD hS hA hN [2, 3, 1] [0] rfl (by decide) rfl (by decide) (by decide) (c_X1_writeTo l D Cs q_a1 q_o_cells q_a1_cells 221 H.size v_a1_cells v_o_cells h) (cwV 1 htb (TB_v tb_475 tb_281 tb_282 tb_14 (TB_self tb_283)) rfl rfl rfl z_X1_writeTo ⟨Nat.le_of_ble_eq_true rfl, Nat.le_of_ble_eq_true rfl⟩) 2 rfl rfl rfl rfl hl.1 rfl (Nat.le_of_ble_eq_true rfl) ⟨Nat.le_of_ble_eq_true rfl, Nat.le_of_ble_eq_true rfl⟩ dX1_takeOver_5 (fun m_2 H locs h hP hD hS => ?_)
  have hP : va_P D vwCl [(q_o, .inr (1, [.ref q_o_cells])), (q_a1, .inr (1, [.ref q_a1_cells])), (q_a1_cells, gI Cs 221 v_a1_cells), (q_o_cells, gI Cs 221 m_2)] H := hP
  have hD : va_D A [(q_o, .inr (1, [.ref q_o_cells])), (q_a1, .inr (1, [.ref q_a1_cells])), (q_a1_cells, gI Cs 221 v_a1_cells), (q_o_cells, gI Cs 221 m_2)] := hD
  rw [← hQ]
  exact gRetV (u := m_2) hx hb hr h (hP.sub [0, 3, 1, 2] rfl) (hD.sub [0, 3, 1, 2] (by decide) rfl) hS dX1_takeOver_8 hlocks
set_option maxHeartbeats 4000000 in
set_option maxRecDepth 100000 in
theorem c_X1_townCount (l : Launch) (D : va_G) (Cs : Nat → ClassId) (q_o : Nat) (q_o_cells : Nat) (v_o_cells : (Nat → Int32)) {post : Int32 → Prop} (h : P_X1_townCount v_o_cells post) : Met l yX1_townCount wsX1_townCount ({ frames := 0, cells := 0, slots := 0, locals := 0 } : Room) (va_Pc [.ref q_o] (gR D Cs [(q_o, .inr (1, [.ref q_o_cells])), (q_o_cells, gI Cs 221 v_o_cells)])) (vp_Si post) 0 0 (fun _ => False) := by
  refine Met.ofW (cc := cX1_townCount) (maxL := 1) (ret := (some .int)) (by decide) rfl ?_
  intro p e s m args below meth c s₁ B hml hv
  obtain ⟨ha, hP, hK, hN⟩ := hv
  have hx := B.exec
  have hb := B.bytes
  have hr := B.returns
  have hts := atoms_spec (ws := wsX1_townCount) B.pre
  have htb : ∀ w ∈ TB, w.before args s = true := fun w h9 => hts w (List.mem_cons_of_mem _ h9)
  have hown : s.vm.findClass RX1 = some m.cls := findClass_of_methodNamed B.named
  have hlocks := B.notSynchronized
  generalize hQ : MQ below _ args s _ _ _ = Q
  show W p l e ({ frames := 0, cells := 0, slots := 0, locals := 0 } : Room) s m args below meth c s.heap [] 0 0 Q (entryFrame m args 1)
  have hent : entryFrame m args 1 = F0 m 0 ((lg_sl ([.ref q_o]) ++ List.replicate (1 - (lg_sl ([.ref q_o])).length) Slot.unset).toArray) [] := by rw [ha]; exact lg_entry_eq m ([.ref q_o]) 1
  rw [hent]; clear hent
  have hl := lv_entry ([.ref q_o]) (n := 1) (Nat.le_of_ble_eq_true rfl)
  generalize (lg_sl ([.ref q_o]) ++ List.replicate (1 - (lg_sl ([.ref q_o])).length) Slot.unset).toArray = ls at hl ⊢
  have hl : lv_has ls 1 [(0, .ref q_o)] := hl
  unfold P_X1_townCount at h
  refine lv_aload_n hx hb dX1_townCount_0 rfl (lv_at hl 0 rfl) ?_
  refine va_get (D := D) (ci := 1) (v := .ref q_o_cells) (C := RX1) (T := TX1) (N := 1) hx hb htb inT_X1 hown hK hP 0 rfl rfl 0 (by decide) (htb _ tb_41) (fun _ h9 => h9) rfl dX1_townCount_1 ?_
  refine lv_iconst (v := (0 : Int32)) hx hb dX1_townCount_4 (by decide) ?_
  refine va_iald hx hb hK hP 1 0 rfl rfl (by unfold vp_in; decide) dX1_townCount_5 ?_
  rw [← hQ]
  exact gRetR hx hb hr rfl h dX1_townCount_6 hlocks
set_option maxHeartbeats 4000000 in
set_option maxRecDepth 100000 in
theorem c_X1_isTown (l : Launch) (D : va_G) (Cs : Nat → ClassId) (q_o : Nat) (q_o_cells : Nat) (v_o_cells : (Nat → Int32)) (x1 : Int32) {post : Int32 → Prop} (h : P_X1_isTown v_o_cells x1 post) : Met l yX1_isTown wsX1_isTown ({ frames := 0, cells := 0, slots := 0, locals := 0 } : Room) (va_Pc [.ref q_o, .int x1] (gR D Cs [(q_o, .inr (1, [.ref q_o_cells])), (q_o_cells, gI Cs 221 v_o_cells)])) (vp_Si post) 0 0 (fun _ => False) := by
  refine Met.ofW (cc := cX1_isTown) (maxL := 2) (ret := (some .boolean)) (by decide) rfl ?_
  intro p e s m args below meth c s₁ B hml hv
  obtain ⟨ha, hP, hK, hN⟩ := hv
  have hx := B.exec
  have hb := B.bytes
  have hr := B.returns
  have hts := atoms_spec (ws := wsX1_isTown) B.pre
  have htb : ∀ w ∈ TB, w.before args s = true := fun w h9 => hts w (List.mem_cons_of_mem _ h9)
  have hown : s.vm.findClass RX1 = some m.cls := findClass_of_methodNamed B.named
  have hlocks := B.notSynchronized
  generalize hQ : MQ below _ args s _ _ _ = Q
  show W p l e ({ frames := 0, cells := 0, slots := 0, locals := 0 } : Room) s m args below meth c s.heap [] 0 0 Q (entryFrame m args 2)
  have hent : entryFrame m args 2 = F0 m 0 ((lg_sl ([.ref q_o, .int x1]) ++ List.replicate (2 - (lg_sl ([.ref q_o, .int x1])).length) Slot.unset).toArray) [] := by rw [ha]; exact lg_entry_eq m ([.ref q_o, .int x1]) 2
  rw [hent]; clear hent
  have hl := lv_entry ([.ref q_o, .int x1]) (n := 2) (Nat.le_of_ble_eq_true rfl)
  generalize (lg_sl ([.ref q_o, .int x1]) ++ List.replicate (2 - (lg_sl ([.ref q_o, .int x1])).length) Slot.unset).toArray = ls at hl ⊢
  have hl : lv_has ls 2 [(0, .ref q_o), (1, .int x1)] := hl
  have B25 : ∀ (ls : Array Slot) (s0 : Int32), lv_has ls 2 [(0, .ref q_o), (1, .int x1)] → P_X1_isTown_b25 v_o_cells x1 post s0 → W p l e ({ frames := 0, cells := 0, slots := 0, locals := 0 } : Room) s m args below meth c s.heap [] 0 0 Q (F0 m 25 ls [.int s0]) := by
    intro ls s0 hl h
    unfold P_X1_isTown_b25 at h
    obtain ⟨hnb, h⟩ := h
    rw [← hQ]
    exact gRetR hx hb hr hnb h dX1_isTown_25 hlocks
  have B24 : ∀ (ls : Array Slot), lv_has ls 2 [(0, .ref q_o), (1, .int x1)] → P_X1_isTown_b24 v_o_cells x1 post → W p l e ({ frames := 0, cells := 0, slots := 0, locals := 0 } : Room) s m args below meth c s.heap [] 0 0 Q (F0 m 24 ls []) := by
    intro ls hl h
    unfold P_X1_isTown_b24 at h
    refine lv_iconst (v := (0 : Int32)) hx hb dX1_isTown_24 (by decide) ?_
    exact B25 _ (0 : Int32) (lv_sub hl [0, 1] rfl) h
  unfold P_X1_isTown at h
  refine lv_iload_n hx hb dX1_isTown_0 rfl (lv_at hl 1 rfl) ?_
  refine lv_if_lt (tgt := 24) hx hb dX1_isTown_1 (by decide) (fun c_1 => ?_) (fun c_1 => ?_)
  · have h := h.1 c_1
    exact B24 _ (lv_sub hl [0, 1] rfl) h
  · have h := h.2 c_1
    refine lv_iload_n hx hb dX1_isTown_4 rfl (lv_at hl 1 rfl) ?_
    refine lv_aload_n hx hb dX1_isTown_5 rfl (lv_at hl 0 rfl) ?_
    refine va_get (D := D) (ci := 1) (v := .ref q_o_cells) (C := RX1) (T := TX1) (N := 1) hx hb htb inT_X1 hown hK hP 0 rfl rfl 0 (by decide) (htb _ tb_41) (fun _ h9 => h9) rfl dX1_isTown_6 ?_
    refine lv_iconst (v := (0 : Int32)) hx hb dX1_isTown_9 (by decide) ?_
    refine va_iald hx hb hK hP 1 0 rfl rfl (by unfold vp_in; decide) dX1_isTown_10 ?_
    refine lv_icmp_ge (tgt := 24) hx hb dX1_isTown_11 (by decide) (fun c_2 => ?_) (fun c_2 => ?_)
    · have h := h.1 c_2
      exact B24 _ (lv_sub hl [0, 1] rfl) h
    · have h := h.2 c_2
      refine lv_iload_n hx hb dX1_isTown_14 rfl (lv_at hl 1 rfl) ?_
      refine lv_bipush (v := (10 : Int32)) hx hb dX1_isTown_15 (by decide) ?_
      refine lv_icmp_ge (tgt := 24) hx hb dX1_isTown_17 (by decide) (fun c_3 => ?_) (fun c_3 => ?_)
      · have h := h.1 c_3
        exact B24 _ (lv_sub hl [0, 1] rfl) h
      · have h := h.2 c_3
        refine lv_iconst (v := (1 : Int32)) hx hb dX1_isTown_20 (by decide) ?_
        refine lv_goto (tgt := 25) hx hb dX1_isTown_21 (by decide) ?_
        exact B25 _ (1 : Int32) (lv_sub hl [0, 1] rfl) h
set_option maxHeartbeats 4000000 in
set_option maxRecDepth 100000 in
theorem c_X1_roadLength (l : Launch) (D : va_G) (Cs : Nat → ClassId) (q_o : Nat) (q_o_cells : Nat) (v_o_cells : (Nat → Int32)) (x1 : Int32) (x2 : Int32) {post : Int32 → Prop} (h : P_X1_roadLength v_o_cells x1 x2 post) : Met l yX1_roadLength wsX1_roadLength ({ frames := 1, cells := 0, slots := 0, locals := 21 } : Room) (va_Pc [.ref q_o, .int x1, .int x2] (gR D Cs [(q_o, .inr (1, [.ref q_o_cells])), (q_o_cells, gI Cs 221 v_o_cells)])) (vp_Si post) 0 0 (fun _ => False) := by
  refine Met.ofW (cc := cX1_roadLength) (maxL := 3) (ret := (some .int)) (by decide) rfl ?_
  intro p e s m args below meth c s₁ B hml hv
  obtain ⟨ha, hP, hK, hN⟩ := hv
  have hx := B.exec
  have hb := B.bytes
  have hr := B.returns
  have hts := atoms_spec (ws := wsX1_roadLength) B.pre
  have htb : ∀ w ∈ TB, w.before args s = true := fun w h9 => hts w (List.mem_cons_of_mem _ h9)
  have hown : s.vm.findClass RX1 = some m.cls := findClass_of_methodNamed B.named
  have hlocks := B.notSynchronized
  generalize hQ : MQ below _ args s _ _ _ = Q
  show W p l e ({ frames := 1, cells := 0, slots := 0, locals := 21 } : Room) s m args below meth c s.heap [] 0 0 Q (entryFrame m args 3)
  have hent : entryFrame m args 3 = F0 m 0 ((lg_sl ([.ref q_o, .int x1, .int x2]) ++ List.replicate (3 - (lg_sl ([.ref q_o, .int x1, .int x2])).length) Slot.unset).toArray) [] := by rw [ha]; exact lg_entry_eq m ([.ref q_o, .int x1, .int x2]) 3
  rw [hent]; clear hent
  have hl := lv_entry ([.ref q_o, .int x1, .int x2]) (n := 3) (Nat.le_of_ble_eq_true rfl)
  generalize (lg_sl ([.ref q_o, .int x1, .int x2]) ++ List.replicate (3 - (lg_sl ([.ref q_o, .int x1, .int x2])).length) Slot.unset).toArray = ls at hl ⊢
  have hl : lv_has ls 3 [(0, .ref q_o), (1, .int x1), (2, .int x2)] := hl
  have B33 : ∀ (ls : Array Slot) (s0 : Int32), lv_has ls 3 [(0, .ref q_o), (1, .int x1), (2, .int x2)] → P_X1_roadLength_b33 v_o_cells x1 x2 post s0 → W p l e ({ frames := 1, cells := 0, slots := 0, locals := 21 } : Room) s m args below meth c s.heap [] 0 0 Q (F0 m 33 ls [.int s0]) := by
    intro ls s0 hl h
    unfold P_X1_roadLength_b33 at h
    rw [← hQ]
    exact gRetR hx hb hr rfl h dX1_roadLength_33 hlocks
  have B32 : ∀ (ls : Array Slot), lv_has ls 3 [(0, .ref q_o), (1, .int x1), (2, .int x2)] → P_X1_roadLength_b32 v_o_cells x1 x2 post → W p l e ({ frames := 1, cells := 0, slots := 0, locals := 21 } : Room) s m args below meth c s.heap [] 0 0 Q (F0 m 32 ls []) := by
    intro ls hl h
    unfold P_X1_roadLength_b32 at h
    refine lv_iconst (v := (-1 : Int32)) hx hb dX1_roadLength_32 (by decide) ?_
    exact B33 _ (-1 : Int32) (lv_sub hl [0, 1, 2] rfl) h
  unfold P_X1_roadLength at h
  refine lv_aload_n hx hb dX1_roadLength_0 rfl (lv_at hl 0 rfl) ?_
  refine lv_iload_n hx hb dX1_roadLength_1 rfl (lv_at hl 1 rfl) ?_
  refine gVR (As := [.int x1]) (rest := []) ⟨hx, hb, hml, hown, htb⟩ hK hP hN [0, 1] rfl (c_X1_isTown l D Cs q_o q_o_cells v_o_cells x1 h) (cwV 1 htb (TB_v tb_140 tb_141 tb_142 tb_14 (TB_self tb_143)) rfl rfl rfl z_X1_isTown ⟨Nat.le_of_ble_eq_true rfl, Nat.le_of_ble_eq_true rfl⟩) 0 rfl rfl rfl rfl hl.1 rfl (Nat.le_of_ble_eq_true rfl) ⟨Nat.le_of_ble_eq_true rfl, Nat.le_of_ble_eq_true rfl⟩ dX1_roadLength_2 (fun r_1 h => ?_)
  refine lv_if_eq (tgt := 32) hx hb dX1_roadLength_5 (by decide) (fun c_2 => ?_) (fun c_2 => ?_)
  · have h := h.1 c_2
    exact B32 _ (lv_sub hl [0, 1, 2] rfl) h
  · have h := h.2 c_2
    refine lv_aload_n hx hb dX1_roadLength_8 rfl (lv_at hl 0 rfl) ?_
    refine lv_iload_n hx hb dX1_roadLength_9 rfl (lv_at hl 2 rfl) ?_
    refine gVR (As := [.int x2]) (rest := []) ⟨hx, hb, hml, hown, htb⟩ hK hP hN [0, 1] rfl (c_X1_isTown l D Cs q_o q_o_cells v_o_cells x2 h) (cwV 1 htb (TB_v tb_140 tb_141 tb_142 tb_14 (TB_self tb_143)) rfl rfl rfl z_X1_isTown ⟨Nat.le_of_ble_eq_true rfl, Nat.le_of_ble_eq_true rfl⟩) 0 rfl rfl rfl rfl hl.1 rfl (Nat.le_of_ble_eq_true rfl) ⟨Nat.le_of_ble_eq_true rfl, Nat.le_of_ble_eq_true rfl⟩ dX1_roadLength_10 (fun r_3 h => ?_)
    refine lv_if_eq (tgt := 32) hx hb dX1_roadLength_13 (by decide) (fun c_4 => ?_) (fun c_4 => ?_)
    · have h := h.1 c_4
      exact B32 _ (lv_sub hl [0, 1, 2] rfl) h
    · have h := h.2 c_4
      refine lv_aload_n hx hb dX1_roadLength_16 rfl (lv_at hl 0 rfl) ?_
      refine va_get (D := D) (ci := 1) (v := .ref q_o_cells) (C := RX1) (T := TX1) (N := 1) hx hb htb inT_X1 hown hK hP 0 rfl rfl 0 (by decide) (htb _ tb_41) (fun _ h9 => h9) rfl dX1_roadLength_17 ?_
      refine lv_iconst (v := (1 : Int32)) hx hb dX1_roadLength_20 (by decide) ?_
      refine lv_iload_n hx hb dX1_roadLength_21 rfl (lv_at hl 1 rfl) ?_
      refine lv_bipush (v := (10 : Int32)) hx hb dX1_roadLength_22 (by decide) ?_
      refine lv_imul hx hb dX1_roadLength_24 ?_
      refine lv_iadd hx hb dX1_roadLength_25 ?_
      refine lv_iload_n hx hb dX1_roadLength_26 rfl (lv_at hl 2 rfl) ?_
      refine lv_iadd hx hb dX1_roadLength_27 ?_
      obtain ⟨hi_5, h⟩ := h
      refine va_iald hx hb hK hP 1 0 rfl rfl hi_5 dX1_roadLength_28 ?_
      refine lv_goto (tgt := 33) hx hb dX1_roadLength_29 (by decide) ?_
      exact B33 _ (v_o_cells (((1 : Int32) + (x1 * (10 : Int32))) + x2).toNatClampNeg) (lv_sub hl [0, 1, 2] rfl) h
set_option maxHeartbeats 4000000 in
set_option maxRecDepth 100000 in
theorem c_X1_roadCount (l : Launch) (D : va_G) (Cs : Nat → ClassId) (q_o : Nat) (q_o_cells : Nat) (v_o_cells : (Nat → Int32)) {post : Int32 → Prop} (h : P_X1_roadCount v_o_cells post) : Met l yX1_roadCount wsX1_roadCount ({ frames := 2, cells := 0, slots := 0, locals := 43 } : Room) (va_Pc [.ref q_o] (gR D Cs [(q_o, .inr (1, [.ref q_o_cells])), (q_o_cells, gI Cs 221 v_o_cells)])) (vp_Si post) 0 0 (fun _ => False) := by
  refine Met.ofW (cc := cX1_roadCount) (maxL := 4) (ret := (some .int)) (by decide) rfl ?_
  intro p e s m args below meth c s₁ B hml hv
  obtain ⟨ha, hP, hK, hN⟩ := hv
  have hx := B.exec
  have hb := B.bytes
  have hr := B.returns
  have hts := atoms_spec (ws := wsX1_roadCount) B.pre
  have htb : ∀ w ∈ TB, w.before args s = true := fun w h9 => hts w (List.mem_cons_of_mem _ h9)
  have hown : s.vm.findClass RX1 = some m.cls := findClass_of_methodNamed B.named
  have hlocks := B.notSynchronized
  generalize hQ : MQ below _ args s _ _ _ = Q
  show W p l e ({ frames := 2, cells := 0, slots := 0, locals := 43 } : Room) s m args below meth c s.heap [] 0 0 Q (entryFrame m args 4)
  have hent : entryFrame m args 4 = F0 m 0 ((lg_sl ([.ref q_o]) ++ List.replicate (4 - (lg_sl ([.ref q_o])).length) Slot.unset).toArray) [] := by rw [ha]; exact lg_entry_eq m ([.ref q_o]) 4
  rw [hent]; clear hent
  have hl := lv_entry ([.ref q_o]) (n := 4) (Nat.le_of_ble_eq_true rfl)
  generalize (lg_sl ([.ref q_o]) ++ List.replicate (4 - (lg_sl ([.ref q_o])).length) Slot.unset).toArray = ls at hl ⊢
  have hl : lv_has ls 4 [(0, .ref q_o)] := hl
  have L4 : ∀ (n : Nat) (ls : Array Slot) (x1 : Int32) (x2 : Int32), lv_has ls 4 [(0, .ref q_o), (1, .int x1), (2, .int x2)] → P_X1_roadCount_l4 v_o_cells post n x1 x2 → W p l e ({ frames := 2, cells := 0, slots := 0, locals := 43 } : Room) s m args below meth c s.heap [] 0 0 Q (F0 m 4 ls []) := by
    intro n4
    induction n4 with
    | zero => intro ls x1 x2 hl h; exact False.elim h
    | succ n4 ih4 =>
      have L18 : ∀ (n : Nat) (ls : Array Slot) (x1 : Int32) (x2 : Int32) (x3 : Int32), lv_has ls 4 [(0, .ref q_o), (1, .int x1), (2, .int x2), (3, .int x3)] → P_X1_roadCount_l18 v_o_cells post (P_X1_roadCount_l4 v_o_cells post n4) n x1 x2 x3 → W p l e ({ frames := 2, cells := 0, slots := 0, locals := 43 } : Room) s m args below meth c s.heap [] 0 0 Q (F0 m 18 ls []) := by
        intro n18
        induction n18 with
        | zero => intro ls x1 x2 x3 hl h; exact False.elim h
        | succ n18 ih18 =>
          have B41 : ∀ (ls : Array Slot) (x1 : Int32) (x2 : Int32) (x3 : Int32), lv_has ls 4 [(0, .ref q_o), (1, .int x1), (2, .int x2), (3, .int x3)] → P_X1_roadCount_b41 v_o_cells post (P_X1_roadCount_l4 v_o_cells post n4) (P_X1_roadCount_l18 v_o_cells post (P_X1_roadCount_l4 v_o_cells post n4) n18) x1 x2 x3 → W p l e ({ frames := 2, cells := 0, slots := 0, locals := 43 } : Room) s m args below meth c s.heap [] 0 0 Q (F0 m 41 ls []) := by
            intro ls x1 x2 x3 hl h
            unfold P_X1_roadCount_b41 at h
            obtain ⟨x3_1, ex3_1⟩ : ∃ y : Int32, y = x3 + (1 : Int32) := ⟨_, rfl⟩
            have h := h _ ex3_1
            refine lv_iinc (v := x3_1) (lv' := [(3, .int x3_1), (0, .ref q_o), (1, .int x1), (2, .int x2)]) hx hb dX1_roadCount_41 hl (k := 3) rfl (by rw [ex3_1]; rfl) (by decide) rfl (fun ls hl => ?_)
            refine lv_goto (tgt := 18) hx hb dX1_roadCount_44 (by decide) ?_
            exact ih18 _ x1 x2 x3_1 (lv_sub hl [1, 2, 3, 0] rfl) h
          intro ls x1 x2 x3 hl h
          replace h : P_X1_roadCount_b18 v_o_cells post (P_X1_roadCount_l4 v_o_cells post n4) (P_X1_roadCount_l18 v_o_cells post (P_X1_roadCount_l4 v_o_cells post n4) n18) x1 x2 x3 := h
          unfold P_X1_roadCount_b18 at h
          refine lv_iload_n hx hb dX1_roadCount_18 rfl (lv_at hl 3 rfl) ?_
          refine lv_aload_n hx hb dX1_roadCount_19 rfl (lv_at hl 0 rfl) ?_
          refine va_get (D := D) (ci := 1) (v := .ref q_o_cells) (C := RX1) (T := TX1) (N := 1) hx hb htb inT_X1 hown hK hP 0 rfl rfl 0 (by decide) (htb _ tb_41) (fun _ h9 => h9) rfl dX1_roadCount_20 ?_
          refine lv_iconst (v := (0 : Int32)) hx hb dX1_roadCount_23 (by decide) ?_
          refine va_iald hx hb hK hP 1 0 rfl rfl (by unfold vp_in; decide) dX1_roadCount_24 ?_
          refine lv_icmp_ge (tgt := 47) hx hb dX1_roadCount_25 (by decide) (fun c_2 => ?_) (fun c_2 => ?_)
          · have h := h.1 c_2
            obtain ⟨x2_3, ex2_3⟩ : ∃ y : Int32, y = x2 + (1 : Int32) := ⟨_, rfl⟩
            have h := h _ ex2_3
            refine lv_iinc (v := x2_3) (lv' := [(2, .int x2_3), (0, .ref q_o), (1, .int x1), (3, .int x3)]) hx hb dX1_roadCount_47 hl (k := 2) rfl (by rw [ex2_3]; rfl) (by decide) rfl (fun ls hl => ?_)
            refine lv_goto (tgt := 4) hx hb dX1_roadCount_50 (by decide) ?_
            exact ih4 _ x1 x2_3 (lv_sub hl [1, 2, 0] rfl) h
          · have h := h.2 c_2
            refine lv_aload_n hx hb dX1_roadCount_28 rfl (lv_at hl 0 rfl) ?_
            refine lv_iload_n hx hb dX1_roadCount_29 rfl (lv_at hl 2 rfl) ?_
            refine lv_iload_n hx hb dX1_roadCount_30 rfl (lv_at hl 3 rfl) ?_
            refine gVR (As := [.int x2, .int x3]) (rest := []) ⟨hx, hb, hml, hown, htb⟩ hK hP hN [0, 1] rfl (c_X1_roadLength l D Cs q_o q_o_cells v_o_cells x2 x3 h) (cwV 2 htb (TB_v tb_136 tb_137 tb_138 tb_14 (TB_self tb_139)) rfl rfl rfl z_X1_roadLength ⟨Nat.le_of_ble_eq_true rfl, Nat.le_of_ble_eq_true rfl⟩) 0 rfl rfl rfl rfl hl.1 rfl (Nat.le_of_ble_eq_true rfl) ⟨Nat.le_of_ble_eq_true rfl, Nat.le_of_ble_eq_true rfl⟩ dX1_roadCount_31 (fun r_4 h => ?_)
            refine lv_iconst (v := (-1 : Int32)) hx hb dX1_roadCount_34 (by decide) ?_
            refine lv_icmp_eq (tgt := 41) hx hb dX1_roadCount_35 (by decide) (fun c_5 => ?_) (fun c_5 => ?_)
            · have h := h.1 c_5
              exact B41 _ x1 x2 x3 (lv_sub hl [0, 1, 2, 3] rfl) h
            · have h := h.2 c_5
              obtain ⟨x1_6, ex1_6⟩ : ∃ y : Int32, y = x1 + (1 : Int32) := ⟨_, rfl⟩
              have h := h _ ex1_6
              refine lv_iinc (v := x1_6) (lv' := [(1, .int x1_6), (0, .ref q_o), (2, .int x2), (3, .int x3)]) hx hb dX1_roadCount_38 hl (k := 1) rfl (by rw [ex1_6]; rfl) (by decide) rfl (fun ls hl => ?_)
              exact B41 _ x1_6 x2 x3 (lv_sub hl [1, 0, 2, 3] rfl) h
      intro ls x1 x2 hl h
      replace h : P_X1_roadCount_b4 v_o_cells post (P_X1_roadCount_l4 v_o_cells post n4) x1 x2 := h
      unfold P_X1_roadCount_b4 at h
      refine lv_iload_n hx hb dX1_roadCount_4 rfl (lv_at hl 2 rfl) ?_
      refine lv_aload_n hx hb dX1_roadCount_5 rfl (lv_at hl 0 rfl) ?_
      refine va_get (D := D) (ci := 1) (v := .ref q_o_cells) (C := RX1) (T := TX1) (N := 1) hx hb htb inT_X1 hown hK hP 0 rfl rfl 0 (by decide) (htb _ tb_41) (fun _ h9 => h9) rfl dX1_roadCount_6 ?_
      refine lv_iconst (v := (0 : Int32)) hx hb dX1_roadCount_9 (by decide) ?_
      refine va_iald hx hb hK hP 1 0 rfl rfl (by unfold vp_in; decide) dX1_roadCount_10 ?_
      refine lv_icmp_ge (tgt := 53) hx hb dX1_roadCount_11 (by decide) (fun c_7 => ?_) (fun c_7 => ?_)
      · have h := h.1 c_7
        refine lv_iload_n hx hb dX1_roadCount_53 rfl (lv_at hl 1 rfl) ?_
        rw [← hQ]
        exact gRetR hx hb hr rfl h dX1_roadCount_54 hlocks
      · have h := h.2 c_7
        refine lv_iload_n hx hb dX1_roadCount_14 rfl (lv_at hl 2 rfl) ?_
        refine lv_iconst (v := (1 : Int32)) hx hb dX1_roadCount_15 (by decide) ?_
        refine lv_iadd hx hb dX1_roadCount_16 ?_
        refine lv_topi (fun x3_8 ex3_8 => ?_)
        have h := h _ ex3_8
        refine lv_istore_n (lv' := [(3, .int x3_8), (0, .ref q_o), (1, .int x1), (2, .int x2)]) hx hb dX1_roadCount_17 rfl hl (by decide) rfl (fun ls hl => ?_)
        obtain ⟨n, h⟩ := h
        exact L18 n _ x1 x2 x3_8 (lv_sub hl [1, 2, 3, 0] rfl) h
  unfold P_X1_roadCount at h
  refine lv_iconst (v := (0 : Int32)) hx hb dX1_roadCount_0 (by decide) ?_
  refine lv_istore_n (lv' := [(1, .int (0 : Int32)), (0, .ref q_o)]) hx hb dX1_roadCount_1 rfl hl (by decide) rfl (fun ls hl => ?_)
  refine lv_iconst (v := (0 : Int32)) hx hb dX1_roadCount_2 (by decide) ?_
  refine lv_istore_n (lv' := [(2, .int (0 : Int32)), (1, .int (0 : Int32)), (0, .ref q_o)]) hx hb dX1_roadCount_3 rfl hl (by decide) rfl (fun ls hl => ?_)
  obtain ⟨n, h⟩ := h
  exact L4 n _ (0 : Int32) (0 : Int32) (lv_sub hl [2, 1, 0] rfl) h
set_option maxHeartbeats 4000000 in
set_option maxRecDepth 100000 in
theorem c_X1_roadsAt (l : Launch) (D : va_G) (Cs : Nat → ClassId) (q_o : Nat) (q_o_cells : Nat) (v_o_cells : (Nat → Int32)) (x1 : Int32) {post : Int32 → Prop} (h : P_X1_roadsAt v_o_cells x1 post) : Met l yX1_roadsAt wsX1_roadsAt ({ frames := 2, cells := 0, slots := 0, locals := 43 } : Room) (va_Pc [.ref q_o, .int x1] (gR D Cs [(q_o, .inr (1, [.ref q_o_cells])), (q_o_cells, gI Cs 221 v_o_cells)])) (vp_Si post) 0 0 (fun _ => False) := by
  refine Met.ofW (cc := cX1_roadsAt) (maxL := 4) (ret := (some .int)) (by decide) rfl ?_
  intro p e s m args below meth c s₁ B hml hv
  obtain ⟨ha, hP, hK, hN⟩ := hv
  have hx := B.exec
  have hb := B.bytes
  have hr := B.returns
  have hts := atoms_spec (ws := wsX1_roadsAt) B.pre
  have htb : ∀ w ∈ TB, w.before args s = true := fun w h9 => hts w (List.mem_cons_of_mem _ h9)
  have hown : s.vm.findClass RX1 = some m.cls := findClass_of_methodNamed B.named
  have hlocks := B.notSynchronized
  generalize hQ : MQ below _ args s _ _ _ = Q
  show W p l e ({ frames := 2, cells := 0, slots := 0, locals := 43 } : Room) s m args below meth c s.heap [] 0 0 Q (entryFrame m args 4)
  have hent : entryFrame m args 4 = F0 m 0 ((lg_sl ([.ref q_o, .int x1]) ++ List.replicate (4 - (lg_sl ([.ref q_o, .int x1])).length) Slot.unset).toArray) [] := by rw [ha]; exact lg_entry_eq m ([.ref q_o, .int x1]) 4
  rw [hent]; clear hent
  have hl := lv_entry ([.ref q_o, .int x1]) (n := 4) (Nat.le_of_ble_eq_true rfl)
  generalize (lg_sl ([.ref q_o, .int x1]) ++ List.replicate (4 - (lg_sl ([.ref q_o, .int x1])).length) Slot.unset).toArray = ls at hl ⊢
  have hl : lv_has ls 4 [(0, .ref q_o), (1, .int x1)] := hl
  have L4 : ∀ (n : Nat) (ls : Array Slot) (x2 : Int32) (x3 : Int32), lv_has ls 4 [(0, .ref q_o), (1, .int x1), (2, .int x2), (3, .int x3)] → P_X1_roadsAt_l4 v_o_cells x1 post n x2 x3 → W p l e ({ frames := 2, cells := 0, slots := 0, locals := 43 } : Room) s m args below meth c s.heap [] 0 0 Q (F0 m 4 ls []) := by
    intro n4
    induction n4 with
    | zero => intro ls x2 x3 hl h; exact False.elim h
    | succ n4 ih4 =>
      have B27 : ∀ (ls : Array Slot) (x2 : Int32) (x3 : Int32), lv_has ls 4 [(0, .ref q_o), (1, .int x1), (2, .int x2), (3, .int x3)] → P_X1_roadsAt_b27 v_o_cells x1 post (P_X1_roadsAt_l4 v_o_cells x1 post n4) x2 x3 → W p l e ({ frames := 2, cells := 0, slots := 0, locals := 43 } : Room) s m args below meth c s.heap [] 0 0 Q (F0 m 27 ls []) := by
        intro ls x2 x3 hl h
        unfold P_X1_roadsAt_b27 at h
        obtain ⟨x3_1, ex3_1⟩ : ∃ y : Int32, y = x3 + (1 : Int32) := ⟨_, rfl⟩
        have h := h _ ex3_1
        refine lv_iinc (v := x3_1) (lv' := [(3, .int x3_1), (0, .ref q_o), (1, .int x1), (2, .int x2)]) hx hb dX1_roadsAt_27 hl (k := 3) rfl (by rw [ex3_1]; rfl) (by decide) rfl (fun ls hl => ?_)
        refine lv_goto (tgt := 4) hx hb dX1_roadsAt_30 (by decide) ?_
        exact ih4 _ x2 x3_1 (lv_sub hl [1, 2, 3, 0] rfl) h
      intro ls x2 x3 hl h
      replace h : P_X1_roadsAt_b4 v_o_cells x1 post (P_X1_roadsAt_l4 v_o_cells x1 post n4) x2 x3 := h
      unfold P_X1_roadsAt_b4 at h
      refine lv_iload_n hx hb dX1_roadsAt_4 rfl (lv_at hl 3 rfl) ?_
      refine lv_aload_n hx hb dX1_roadsAt_5 rfl (lv_at hl 0 rfl) ?_
      refine va_get (D := D) (ci := 1) (v := .ref q_o_cells) (C := RX1) (T := TX1) (N := 1) hx hb htb inT_X1 hown hK hP 0 rfl rfl 0 (by decide) (htb _ tb_41) (fun _ h9 => h9) rfl dX1_roadsAt_6 ?_
      refine lv_iconst (v := (0 : Int32)) hx hb dX1_roadsAt_9 (by decide) ?_
      refine va_iald hx hb hK hP 1 0 rfl rfl (by unfold vp_in; decide) dX1_roadsAt_10 ?_
      refine lv_icmp_ge (tgt := 33) hx hb dX1_roadsAt_11 (by decide) (fun c_2 => ?_) (fun c_2 => ?_)
      · have h := h.1 c_2
        refine lv_iload_n hx hb dX1_roadsAt_33 rfl (lv_at hl 2 rfl) ?_
        rw [← hQ]
        exact gRetR hx hb hr rfl h dX1_roadsAt_34 hlocks
      · have h := h.2 c_2
        refine lv_aload_n hx hb dX1_roadsAt_14 rfl (lv_at hl 0 rfl) ?_
        refine lv_iload_n hx hb dX1_roadsAt_15 rfl (lv_at hl 1 rfl) ?_
        refine lv_iload_n hx hb dX1_roadsAt_16 rfl (lv_at hl 3 rfl) ?_
        refine gVR (As := [.int x1, .int x3]) (rest := []) ⟨hx, hb, hml, hown, htb⟩ hK hP hN [0, 1] rfl (c_X1_roadLength l D Cs q_o q_o_cells v_o_cells x1 x3 h) (cwV 2 htb (TB_v tb_136 tb_137 tb_138 tb_14 (TB_self tb_139)) rfl rfl rfl z_X1_roadLength ⟨Nat.le_of_ble_eq_true rfl, Nat.le_of_ble_eq_true rfl⟩) 0 rfl rfl rfl rfl hl.1 rfl (Nat.le_of_ble_eq_true rfl) ⟨Nat.le_of_ble_eq_true rfl, Nat.le_of_ble_eq_true rfl⟩ dX1_roadsAt_17 (fun r_3 h => ?_)
        refine lv_iconst (v := (-1 : Int32)) hx hb dX1_roadsAt_20 (by decide) ?_
        refine lv_icmp_eq (tgt := 27) hx hb dX1_roadsAt_21 (by decide) (fun c_4 => ?_) (fun c_4 => ?_)
        · have h := h.1 c_4
          exact B27 _ x2 x3 (lv_sub hl [0, 1, 2, 3] rfl) h
        · have h := h.2 c_4
          obtain ⟨x2_5, ex2_5⟩ : ∃ y : Int32, y = x2 + (1 : Int32) := ⟨_, rfl⟩
          have h := h _ ex2_5
          refine lv_iinc (v := x2_5) (lv' := [(2, .int x2_5), (0, .ref q_o), (1, .int x1), (3, .int x3)]) hx hb dX1_roadsAt_24 hl (k := 2) rfl (by rw [ex2_5]; rfl) (by decide) rfl (fun ls hl => ?_)
          exact B27 _ x2_5 x3 (lv_sub hl [1, 2, 0, 3] rfl) h
  unfold P_X1_roadsAt at h
  refine lv_iconst (v := (0 : Int32)) hx hb dX1_roadsAt_0 (by decide) ?_
  refine lv_istore_n (lv' := [(2, .int (0 : Int32)), (0, .ref q_o), (1, .int x1)]) hx hb dX1_roadsAt_1 rfl hl (by decide) rfl (fun ls hl => ?_)
  refine lv_iconst (v := (0 : Int32)) hx hb dX1_roadsAt_2 (by decide) ?_
  refine lv_istore_n (lv' := [(3, .int (0 : Int32)), (2, .int (0 : Int32)), (0, .ref q_o), (1, .int x1)]) hx hb dX1_roadsAt_3 rfl hl (by decide) rfl (fun ls hl => ?_)
  obtain ⟨n, h⟩ := h
  exact L4 n _ (0 : Int32) (0 : Int32) (lv_sub hl [2, 3, 1, 0] rfl) h
set_option maxHeartbeats 4000000 in
set_option maxRecDepth 100000 in
theorem c_X1_townBeside (l : Launch) (D : va_G) (Cs : Nat → ClassId) (q_o : Nat) (q_o_cells : Nat) (v_o_cells : (Nat → Int32)) (x1 : Int32) (x2 : Int32) {post : Int32 → Prop} (h : P_X1_townBeside v_o_cells x1 x2 post) : Met l yX1_townBeside wsX1_townBeside ({ frames := 2, cells := 0, slots := 0, locals := 43 } : Room) (va_Pc [.ref q_o, .int x1, .int x2] (gR D Cs [(q_o, .inr (1, [.ref q_o_cells])), (q_o_cells, gI Cs 221 v_o_cells)])) (vp_Si post) 0 0 (fun _ => False) := by
  refine Met.ofW (cc := cX1_townBeside) (maxL := 5) (ret := (some .int)) (by decide) rfl ?_
  intro p e s m args below meth c s₁ B hml hv
  obtain ⟨ha, hP, hK, hN⟩ := hv
  have hx := B.exec
  have hb := B.bytes
  have hr := B.returns
  have hts := atoms_spec (ws := wsX1_townBeside) B.pre
  have htb : ∀ w ∈ TB, w.before args s = true := fun w h9 => hts w (List.mem_cons_of_mem _ h9)
  have hown : s.vm.findClass RX1 = some m.cls := findClass_of_methodNamed B.named
  have hlocks := B.notSynchronized
  generalize hQ : MQ below _ args s _ _ _ = Q
  show W p l e ({ frames := 2, cells := 0, slots := 0, locals := 43 } : Room) s m args below meth c s.heap [] 0 0 Q (entryFrame m args 5)
  have hent : entryFrame m args 5 = F0 m 0 ((lg_sl ([.ref q_o, .int x1, .int x2]) ++ List.replicate (5 - (lg_sl ([.ref q_o, .int x1, .int x2])).length) Slot.unset).toArray) [] := by rw [ha]; exact lg_entry_eq m ([.ref q_o, .int x1, .int x2]) 5
  rw [hent]; clear hent
  have hl := lv_entry ([.ref q_o, .int x1, .int x2]) (n := 5) (Nat.le_of_ble_eq_true rfl)
  generalize (lg_sl ([.ref q_o, .int x1, .int x2]) ++ List.replicate (5 - (lg_sl ([.ref q_o, .int x1, .int x2])).length) Slot.unset).toArray = ls at hl ⊢
  have hl : lv_has ls 5 [(0, .ref q_o), (1, .int x1), (2, .int x2)] := hl
  have L5 : ∀ (n : Nat) (ls : Array Slot) (x3 : Int32) (x4 : Int32), lv_has ls 5 [(0, .ref q_o), (1, .int x1), (2, .int x2), (3, .int x3), (4, .int x4)] → P_X1_townBeside_l5 v_o_cells x1 x2 post n x3 x4 → W p l e ({ frames := 2, cells := 0, slots := 0, locals := 43 } : Room) s m args below meth c s.heap [] 0 0 Q (F0 m 5 ls []) := by
    intro n5
    induction n5 with
    | zero => intro ls x3 x4 hl h; exact False.elim h
    | succ n5 ih5 =>
      have B38 : ∀ (ls : Array Slot) (x3 : Int32) (x4 : Int32), lv_has ls 5 [(0, .ref q_o), (1, .int x1), (2, .int x2), (3, .int x3), (4, .int x4)] → P_X1_townBeside_b38 v_o_cells x1 x2 post (P_X1_townBeside_l5 v_o_cells x1 x2 post n5) x3 x4 → W p l e ({ frames := 2, cells := 0, slots := 0, locals := 43 } : Room) s m args below meth c s.heap [] 0 0 Q (F0 m 38 ls []) := by
        intro ls x3 x4 hl h
        unfold P_X1_townBeside_b38 at h
        obtain ⟨x4_1, ex4_1⟩ : ∃ y : Int32, y = x4 + (1 : Int32) := ⟨_, rfl⟩
        have h := h _ ex4_1
        refine lv_iinc (v := x4_1) (lv' := [(4, .int x4_1), (0, .ref q_o), (1, .int x1), (2, .int x2), (3, .int x3)]) hx hb dX1_townBeside_38 hl (k := 4) rfl (by rw [ex4_1]; rfl) (by decide) rfl (fun ls hl => ?_)
        refine lv_goto (tgt := 5) hx hb dX1_townBeside_41 (by decide) ?_
        exact ih5 _ x3 x4_1 (lv_sub hl [1, 2, 3, 4, 0] rfl) h
      intro ls x3 x4 hl h
      replace h : P_X1_townBeside_b5 v_o_cells x1 x2 post (P_X1_townBeside_l5 v_o_cells x1 x2 post n5) x3 x4 := h
      unfold P_X1_townBeside_b5 at h
      refine lv_iload hx hb dX1_townBeside_5 (lv_at hl 4 rfl) ?_
      refine lv_aload_n hx hb dX1_townBeside_7 rfl (lv_at hl 0 rfl) ?_
      refine va_get (D := D) (ci := 1) (v := .ref q_o_cells) (C := RX1) (T := TX1) (N := 1) hx hb htb inT_X1 hown hK hP 0 rfl rfl 0 (by decide) (htb _ tb_41) (fun _ h9 => h9) rfl dX1_townBeside_8 ?_
      refine lv_iconst (v := (0 : Int32)) hx hb dX1_townBeside_11 (by decide) ?_
      refine va_iald hx hb hK hP 1 0 rfl rfl (by unfold vp_in; decide) dX1_townBeside_12 ?_
      refine lv_icmp_ge (tgt := 44) hx hb dX1_townBeside_13 (by decide) (fun c_2 => ?_) (fun c_2 => ?_)
      · have h := h.1 c_2
        refine lv_iconst (v := (-1 : Int32)) hx hb dX1_townBeside_44 (by decide) ?_
        rw [← hQ]
        exact gRetR hx hb hr rfl h dX1_townBeside_45 hlocks
      · have h := h.2 c_2
        refine lv_aload_n hx hb dX1_townBeside_16 rfl (lv_at hl 0 rfl) ?_
        refine lv_iload_n hx hb dX1_townBeside_17 rfl (lv_at hl 1 rfl) ?_
        refine lv_iload hx hb dX1_townBeside_18 (lv_at hl 4 rfl) ?_
        refine gVR (As := [.int x1, .int x4]) (rest := []) ⟨hx, hb, hml, hown, htb⟩ hK hP hN [0, 1] rfl (c_X1_roadLength l D Cs q_o q_o_cells v_o_cells x1 x4 h) (cwV 2 htb (TB_v tb_136 tb_137 tb_138 tb_14 (TB_self tb_139)) rfl rfl rfl z_X1_roadLength ⟨Nat.le_of_ble_eq_true rfl, Nat.le_of_ble_eq_true rfl⟩) 0 rfl rfl rfl rfl hl.1 rfl (Nat.le_of_ble_eq_true rfl) ⟨Nat.le_of_ble_eq_true rfl, Nat.le_of_ble_eq_true rfl⟩ dX1_townBeside_20 (fun r_3 h => ?_)
        refine lv_iconst (v := (-1 : Int32)) hx hb dX1_townBeside_23 (by decide) ?_
        refine lv_icmp_eq (tgt := 38) hx hb dX1_townBeside_24 (by decide) (fun c_4 => ?_) (fun c_4 => ?_)
        · have h := h.1 c_4
          exact B38 _ x3 x4 (lv_sub hl [0, 1, 2, 3, 4] rfl) h
        · have h := h.2 c_4
          refine lv_iload_n hx hb dX1_townBeside_27 rfl (lv_at hl 3 rfl) ?_
          refine lv_iload_n hx hb dX1_townBeside_28 rfl (lv_at hl 2 rfl) ?_
          refine lv_icmp_ne (tgt := 35) hx hb dX1_townBeside_29 (by decide) (fun c_5 => ?_) (fun c_5 => ?_)
          · have h := h.2 c_5
            obtain ⟨x3_6, ex3_6⟩ : ∃ y : Int32, y = x3 + (1 : Int32) := ⟨_, rfl⟩
            have h := h _ ex3_6
            refine lv_iinc (v := x3_6) (lv' := [(3, .int x3_6), (0, .ref q_o), (1, .int x1), (2, .int x2), (4, .int x4)]) hx hb dX1_townBeside_35 hl (k := 3) rfl (by rw [ex3_6]; rfl) (by decide) rfl (fun ls hl => ?_)
            exact B38 _ x3_6 x4 (lv_sub hl [1, 2, 3, 0, 4] rfl) h
          · have h := h.1 c_5
            refine lv_iload hx hb dX1_townBeside_32 (lv_at hl 4 rfl) ?_
            rw [← hQ]
            exact gRetR hx hb hr rfl h dX1_townBeside_34 hlocks
  unfold P_X1_townBeside at h
  refine lv_iconst (v := (0 : Int32)) hx hb dX1_townBeside_0 (by decide) ?_
  refine lv_istore_n (lv' := [(3, .int (0 : Int32)), (0, .ref q_o), (1, .int x1), (2, .int x2)]) hx hb dX1_townBeside_1 rfl hl (by decide) rfl (fun ls hl => ?_)
  refine lv_iconst (v := (0 : Int32)) hx hb dX1_townBeside_2 (by decide) ?_
  refine lv_istore (lv' := [(4, .int (0 : Int32)), (3, .int (0 : Int32)), (0, .ref q_o), (1, .int x1), (2, .int x2)]) hx hb dX1_townBeside_3 hl (by decide) rfl (fun ls hl => ?_)
  obtain ⟨n, h⟩ := h
  exact L5 n _ (0 : Int32) (0 : Int32) (lv_sub hl [2, 3, 4, 1, 0] rfl) h
set_option maxHeartbeats 4000000 in
set_option maxRecDepth 100000 in
theorem c_X5_isTrait (l : Launch) (D : va_G) (Cs : Nat → ClassId) (x0 : Int32) {post : Int32 → Prop} (h : P_X5_isTrait x0 post) : Met l yX5_isTrait wsX5_isTrait ({ frames := 0, cells := 0, slots := 0, locals := 0 } : Room) (va_Pc [.int x0] (gR D Cs [])) (vp_Si post) 0 0 (fun _ => False) := by
  refine Met.ofW (cc := cX5_isTrait) (maxL := 1) (ret := (some .boolean)) (by decide) rfl ?_
  intro p e s m args below meth c s₁ B hml hv
  obtain ⟨ha, hP, hK, hN⟩ := hv
  have hx := B.exec
  have hb := B.bytes
  have hr := B.returns
  have hts := atoms_spec (ws := wsX5_isTrait) B.pre
  have htb : ∀ w ∈ TB, w.before args s = true := fun w h9 => hts w (List.mem_cons_of_mem _ h9)
  have hown : s.vm.findClass RX5 = some m.cls := findClass_of_methodNamed B.named
  have hlocks := B.notSynchronized
  generalize hQ : MQ below _ args s _ _ _ = Q
  show W p l e ({ frames := 0, cells := 0, slots := 0, locals := 0 } : Room) s m args below meth c s.heap [] 0 0 Q (entryFrame m args 1)
  have hent : entryFrame m args 1 = F0 m 0 ((lg_sl ([.int x0]) ++ List.replicate (1 - (lg_sl ([.int x0])).length) Slot.unset).toArray) [] := by rw [ha]; exact lg_entry_eq m ([.int x0]) 1
  rw [hent]; clear hent
  have hl := lv_entry ([.int x0]) (n := 1) (Nat.le_of_ble_eq_true rfl)
  generalize (lg_sl ([.int x0]) ++ List.replicate (1 - (lg_sl ([.int x0])).length) Slot.unset).toArray = ls at hl ⊢
  have hl : lv_has ls 1 [(0, .int x0)] := hl
  have B15 : ∀ (ls : Array Slot) (s0 : Int32), lv_has ls 1 [(0, .int x0)] → P_X5_isTrait_b15 x0 post s0 → W p l e ({ frames := 0, cells := 0, slots := 0, locals := 0 } : Room) s m args below meth c s.heap [] 0 0 Q (F0 m 15 ls [.int s0]) := by
    intro ls s0 hl h
    unfold P_X5_isTrait_b15 at h
    obtain ⟨hnb, h⟩ := h
    rw [← hQ]
    exact gRetR hx hb hr hnb h dX5_isTrait_15 hlocks
  have B14 : ∀ (ls : Array Slot), lv_has ls 1 [(0, .int x0)] → P_X5_isTrait_b14 x0 post → W p l e ({ frames := 0, cells := 0, slots := 0, locals := 0 } : Room) s m args below meth c s.heap [] 0 0 Q (F0 m 14 ls []) := by
    intro ls hl h
    unfold P_X5_isTrait_b14 at h
    refine lv_iconst (v := (0 : Int32)) hx hb dX5_isTrait_14 (by decide) ?_
    exact B15 _ (0 : Int32) (lv_sub hl [0] rfl) h
  unfold P_X5_isTrait at h
  refine lv_iload_n hx hb dX5_isTrait_0 rfl (lv_at hl 0 rfl) ?_
  refine lv_if_lt (tgt := 14) hx hb dX5_isTrait_1 (by decide) (fun c_1 => ?_) (fun c_1 => ?_)
  · have h := h.1 c_1
    exact B14 _ (lv_sub hl [0] rfl) h
  · have h := h.2 c_1
    refine lv_iload_n hx hb dX5_isTrait_4 rfl (lv_at hl 0 rfl) ?_
    refine lv_bipush (v := (6 : Int32)) hx hb dX5_isTrait_5 (by decide) ?_
    refine lv_icmp_ge (tgt := 14) hx hb dX5_isTrait_7 (by decide) (fun c_2 => ?_) (fun c_2 => ?_)
    · have h := h.1 c_2
      exact B14 _ (lv_sub hl [0] rfl) h
    · have h := h.2 c_2
      refine lv_iconst (v := (1 : Int32)) hx hb dX5_isTrait_10 (by decide) ?_
      refine lv_goto (tgt := 15) hx hb dX5_isTrait_11 (by decide) ?_
      exact B15 _ (1 : Int32) (lv_sub hl [0] rfl) h
set_option maxHeartbeats 4000000 in
set_option maxRecDepth 100000 in
theorem c_X1_reportedYear (l : Launch) (D : va_G) (Cs : Nat → ClassId) (q_o : Nat) (q_o_cells : Nat) (v_o_cells : (Nat → Int32)) (x1 : Int32) (x2 : Int32) (x3 : Int32) {post : Int32 → Prop} (h : P_X1_reportedYear v_o_cells x1 x2 x3 post) : Met l yX1_reportedYear wsX1_reportedYear ({ frames := 1, cells := 0, slots := 0, locals := 21 } : Room) (va_Pc [.ref q_o, .int x1, .int x2, .int x3] (gR D Cs [(q_o, .inr (1, [.ref q_o_cells])), (q_o_cells, gI Cs 221 v_o_cells)])) (vp_Si post) 0 0 (fun _ => False) := by
  refine Met.ofW (cc := cX1_reportedYear) (maxL := 4) (ret := (some .int)) (by decide) rfl ?_
  intro p e s m args below meth c s₁ B hml hv
  obtain ⟨ha, hP, hK, hN⟩ := hv
  have hx := B.exec
  have hb := B.bytes
  have hr := B.returns
  have hts := atoms_spec (ws := wsX1_reportedYear) B.pre
  have htb : ∀ w ∈ TB, w.before args s = true := fun w h9 => hts w (List.mem_cons_of_mem _ h9)
  have hown : s.vm.findClass RX1 = some m.cls := findClass_of_methodNamed B.named
  have hlocks := B.notSynchronized
  generalize hQ : MQ below _ args s _ _ _ = Q
  show W p l e ({ frames := 1, cells := 0, slots := 0, locals := 21 } : Room) s m args below meth c s.heap [] 0 0 Q (entryFrame m args 4)
  have hent : entryFrame m args 4 = F0 m 0 ((lg_sl ([.ref q_o, .int x1, .int x2, .int x3]) ++ List.replicate (4 - (lg_sl ([.ref q_o, .int x1, .int x2, .int x3])).length) Slot.unset).toArray) [] := by rw [ha]; exact lg_entry_eq m ([.ref q_o, .int x1, .int x2, .int x3]) 4
  rw [hent]; clear hent
  have hl := lv_entry ([.ref q_o, .int x1, .int x2, .int x3]) (n := 4) (Nat.le_of_ble_eq_true rfl)
  generalize (lg_sl ([.ref q_o, .int x1, .int x2, .int x3]) ++ List.replicate (4 - (lg_sl ([.ref q_o, .int x1, .int x2, .int x3])).length) Slot.unset).toArray = ls at hl ⊢
  have hl : lv_has ls 4 [(0, .ref q_o), (1, .int x1), (2, .int x2), (3, .int x3)] := hl
  have B15 : ∀ (ls : Array Slot), lv_has ls 4 [(0, .ref q_o), (1, .int x1), (2, .int x2), (3, .int x3)] → P_X1_reportedYear_b15 v_o_cells x1 x2 x3 post → W p l e ({ frames := 1, cells := 0, slots := 0, locals := 21 } : Room) s m args below meth c s.heap [] 0 0 Q (F0 m 15 ls []) := by
    intro ls hl h
    unfold P_X1_reportedYear_b15 at h
    refine lv_iconst (v := (-1 : Int32)) hx hb dX1_reportedYear_15 (by decide) ?_
    rw [← hQ]
    exact gRetR hx hb hr rfl h dX1_reportedYear_16 hlocks
  have B33 : ∀ (ls : Array Slot) (s1 : Int32), lv_has ls 4 [(0, .ref q_o), (1, .int x1), (2, .int x2), (3, .int x3)] → P_X1_reportedYear_b33 v_o_cells x1 x2 x3 post s1 → W p l e ({ frames := 1, cells := 0, slots := 0, locals := 21 } : Room) s m args below meth c s.heap [] 0 0 Q (F0 m 33 ls [.int s1, .ref q_o_cells]) := by
    intro ls s1 hl h
    unfold P_X1_reportedYear_b33 at h
    refine lv_iload_n hx hb dX1_reportedYear_33 rfl (lv_at hl 1 rfl) ?_
    refine lv_bipush (v := (6 : Int32)) hx hb dX1_reportedYear_34 (by decide) ?_
    refine lv_imul hx hb dX1_reportedYear_36 ?_
    refine lv_iadd hx hb dX1_reportedYear_37 ?_
    refine lv_iload_n hx hb dX1_reportedYear_38 rfl (lv_at hl 2 rfl) ?_
    refine lv_iadd hx hb dX1_reportedYear_39 ?_
    obtain ⟨hi_1, h⟩ := h
    refine va_iald hx hb hK hP 1 0 rfl rfl hi_1 dX1_reportedYear_40 ?_
    rw [← hQ]
    exact gRetR hx hb hr rfl h dX1_reportedYear_41 hlocks
  unfold P_X1_reportedYear at h
  refine lv_aload_n hx hb dX1_reportedYear_0 rfl (lv_at hl 0 rfl) ?_
  refine lv_iload_n hx hb dX1_reportedYear_1 rfl (lv_at hl 1 rfl) ?_
  refine gVR (As := [.int x1]) (rest := []) ⟨hx, hb, hml, hown, htb⟩ hK hP hN [0, 1] rfl (c_X1_isTown l D Cs q_o q_o_cells v_o_cells x1 h) (cwV 1 htb (TB_v tb_140 tb_141 tb_142 tb_14 (TB_self tb_143)) rfl rfl rfl z_X1_isTown ⟨Nat.le_of_ble_eq_true rfl, Nat.le_of_ble_eq_true rfl⟩) 0 rfl rfl rfl rfl hl.1 rfl (Nat.le_of_ble_eq_true rfl) ⟨Nat.le_of_ble_eq_true rfl, Nat.le_of_ble_eq_true rfl⟩ dX1_reportedYear_2 (fun r_2 h => ?_)
  refine lv_if_eq (tgt := 15) hx hb dX1_reportedYear_5 (by decide) (fun c_3 => ?_) (fun c_3 => ?_)
  · have h := h.1 c_3
    exact B15 _ (lv_sub hl [0, 1, 2, 3] rfl) h
  · have h := h.2 c_3
    refine lv_iload_n hx hb dX1_reportedYear_8 rfl (lv_at hl 2 rfl) ?_
    refine gNR (As := [.int x2]) (rest := []) ⟨hx, hb, hml, hown, htb⟩ hK hP hN [] rfl (c_X5_isTrait l D Cs x2 h) (va_cnB 1 htb (TB_self tb_157) rfl rfl rfl (hN (.methodLinkNest RX1 39 yX5_isTrait RX5) (List.mem_of_getElem? (i := 0) rfl)) (htb _ tb_2) z_X5_isTrait.2 ⟨Nat.le_of_ble_eq_true rfl, Nat.le_of_ble_eq_true rfl⟩) (htb _ tb_156) rfl hl.1 rfl (Nat.le_of_ble_eq_true rfl) ⟨Nat.le_of_ble_eq_true rfl, Nat.le_of_ble_eq_true rfl⟩ dX1_reportedYear_9 (fun r_4 h => ?_)
    refine lv_if_ne (tgt := 17) hx hb dX1_reportedYear_12 (by decide) (fun c_5 => ?_) (fun c_5 => ?_)
    · have h := h.2 c_5
      refine lv_aload_n hx hb dX1_reportedYear_17 rfl (lv_at hl 0 rfl) ?_
      refine va_get (D := D) (ci := 1) (v := .ref q_o_cells) (C := RX1) (T := TX1) (N := 1) hx hb htb inT_X1 hown hK hP 0 rfl rfl 0 (by decide) (htb _ tb_41) (fun _ h9 => h9) rfl dX1_reportedYear_18 ?_
      refine lv_iload_n hx hb dX1_reportedYear_21 rfl (lv_at hl 3 rfl) ?_
      refine lv_if_eq (tgt := 30) hx hb dX1_reportedYear_22 (by decide) (fun c_6 => ?_) (fun c_6 => ?_)
      · have h := h.1 c_6
        refine lv_sipush (v := (161 : Int32)) hx hb dX1_reportedYear_30 (by decide) ?_
        exact B33 _ (161 : Int32) (lv_sub hl [0, 1, 2, 3] rfl) h
      · have h := h.2 c_6
        refine lv_bipush (v := (101 : Int32)) hx hb dX1_reportedYear_25 (by decide) ?_
        refine lv_goto (tgt := 33) hx hb dX1_reportedYear_27 (by decide) ?_
        exact B33 _ (101 : Int32) (lv_sub hl [0, 1, 2, 3] rfl) h
    · have h := h.1 c_5
      exact B15 _ (lv_sub hl [0, 1, 2, 3] rfl) h
set_option maxHeartbeats 4000000 in
set_option maxRecDepth 100000 in
theorem c_X1_isReported (l : Launch) (D : va_G) (Cs : Nat → ClassId) (q_o : Nat) (q_o_cells : Nat) (v_o_cells : (Nat → Int32)) (x1 : Int32) (x2 : Int32) {post : Int32 → Prop} (h : P_X1_isReported v_o_cells x1 x2 post) : Met l yX1_isReported wsX1_isReported ({ frames := 2, cells := 0, slots := 0, locals := 44 } : Room) (va_Pc [.ref q_o, .int x1, .int x2] (gR D Cs [(q_o, .inr (1, [.ref q_o_cells])), (q_o_cells, gI Cs 221 v_o_cells)])) (vp_Si post) 0 0 (fun _ => False) := by
  refine Met.ofW (cc := cX1_isReported) (maxL := 3) (ret := (some .boolean)) (by decide) rfl ?_
  intro p e s m args below meth c s₁ B hml hv
  obtain ⟨ha, hP, hK, hN⟩ := hv
  have hx := B.exec
  have hb := B.bytes
  have hr := B.returns
  have hts := atoms_spec (ws := wsX1_isReported) B.pre
  have htb : ∀ w ∈ TB, w.before args s = true := fun w h9 => hts w (List.mem_cons_of_mem _ h9)
  have hown : s.vm.findClass RX1 = some m.cls := findClass_of_methodNamed B.named
  have hlocks := B.notSynchronized
  generalize hQ : MQ below _ args s _ _ _ = Q
  show W p l e ({ frames := 2, cells := 0, slots := 0, locals := 44 } : Room) s m args below meth c s.heap [] 0 0 Q (entryFrame m args 3)
  have hent : entryFrame m args 3 = F0 m 0 ((lg_sl ([.ref q_o, .int x1, .int x2]) ++ List.replicate (3 - (lg_sl ([.ref q_o, .int x1, .int x2])).length) Slot.unset).toArray) [] := by rw [ha]; exact lg_entry_eq m ([.ref q_o, .int x1, .int x2]) 3
  rw [hent]; clear hent
  have hl := lv_entry ([.ref q_o, .int x1, .int x2]) (n := 3) (Nat.le_of_ble_eq_true rfl)
  generalize (lg_sl ([.ref q_o, .int x1, .int x2]) ++ List.replicate (3 - (lg_sl ([.ref q_o, .int x1, .int x2])).length) Slot.unset).toArray = ls at hl ⊢
  have hl : lv_has ls 3 [(0, .ref q_o), (1, .int x1), (2, .int x2)] := hl
  have B27 : ∀ (ls : Array Slot) (s0 : Int32), lv_has ls 3 [(0, .ref q_o), (1, .int x1), (2, .int x2)] → P_X1_isReported_b27 v_o_cells x1 x2 post s0 → W p l e ({ frames := 2, cells := 0, slots := 0, locals := 44 } : Room) s m args below meth c s.heap [] 0 0 Q (F0 m 27 ls [.int s0]) := by
    intro ls s0 hl h
    unfold P_X1_isReported_b27 at h
    obtain ⟨hnb, h⟩ := h
    rw [← hQ]
    exact gRetR hx hb hr hnb h dX1_isReported_27 hlocks
  have B22 : ∀ (ls : Array Slot), lv_has ls 3 [(0, .ref q_o), (1, .int x1), (2, .int x2)] → P_X1_isReported_b22 v_o_cells x1 x2 post → W p l e ({ frames := 2, cells := 0, slots := 0, locals := 44 } : Room) s m args below meth c s.heap [] 0 0 Q (F0 m 22 ls []) := by
    intro ls hl h
    unfold P_X1_isReported_b22 at h
    refine lv_iconst (v := (1 : Int32)) hx hb dX1_isReported_22 (by decide) ?_
    refine lv_goto (tgt := 27) hx hb dX1_isReported_23 (by decide) ?_
    exact B27 _ (1 : Int32) (lv_sub hl [0, 1, 2] rfl) h
  unfold P_X1_isReported at h
  refine lv_aload_n hx hb dX1_isReported_0 rfl (lv_at hl 0 rfl) ?_
  refine lv_iload_n hx hb dX1_isReported_1 rfl (lv_at hl 1 rfl) ?_
  refine lv_iload_n hx hb dX1_isReported_2 rfl (lv_at hl 2 rfl) ?_
  refine lv_iconst (v := (1 : Int32)) hx hb dX1_isReported_3 (by decide) ?_
  refine gVR (As := [.int x1, .int x2, .int (1 : Int32)]) (rest := []) ⟨hx, hb, hml, hown, htb⟩ hK hP hN [0, 1] rfl (c_X1_reportedYear l D Cs q_o q_o_cells v_o_cells x1 x2 (1 : Int32) h) (cwV 3 htb (TB_v tb_152 tb_153 tb_154 tb_14 (TB_self tb_155)) rfl rfl rfl z_X1_reportedYear ⟨Nat.le_of_ble_eq_true rfl, Nat.le_of_ble_eq_true rfl⟩) 0 rfl rfl rfl rfl hl.1 rfl (Nat.le_of_ble_eq_true rfl) ⟨Nat.le_of_ble_eq_true rfl, Nat.le_of_ble_eq_true rfl⟩ dX1_isReported_4 (fun r_1 h => ?_)
  refine lv_iconst (v := (-1 : Int32)) hx hb dX1_isReported_7 (by decide) ?_
  refine lv_icmp_ne (tgt := 22) hx hb dX1_isReported_8 (by decide) (fun c_2 => ?_) (fun c_2 => ?_)
  · have h := h.2 c_2
    exact B22 _ (lv_sub hl [0, 1, 2] rfl) h
  · have h := h.1 c_2
    refine lv_aload_n hx hb dX1_isReported_11 rfl (lv_at hl 0 rfl) ?_
    refine lv_iload_n hx hb dX1_isReported_12 rfl (lv_at hl 1 rfl) ?_
    refine lv_iload_n hx hb dX1_isReported_13 rfl (lv_at hl 2 rfl) ?_
    refine lv_iconst (v := (0 : Int32)) hx hb dX1_isReported_14 (by decide) ?_
    refine gVR (As := [.int x1, .int x2, .int (0 : Int32)]) (rest := []) ⟨hx, hb, hml, hown, htb⟩ hK hP hN [0, 1] rfl (c_X1_reportedYear l D Cs q_o q_o_cells v_o_cells x1 x2 (0 : Int32) h) (cwV 3 htb (TB_v tb_152 tb_153 tb_154 tb_14 (TB_self tb_155)) rfl rfl rfl z_X1_reportedYear ⟨Nat.le_of_ble_eq_true rfl, Nat.le_of_ble_eq_true rfl⟩) 0 rfl rfl rfl rfl hl.1 rfl (Nat.le_of_ble_eq_true rfl) ⟨Nat.le_of_ble_eq_true rfl, Nat.le_of_ble_eq_true rfl⟩ dX1_isReported_15 (fun r_3 h => ?_)
    refine lv_iconst (v := (-1 : Int32)) hx hb dX1_isReported_18 (by decide) ?_
    refine lv_icmp_eq (tgt := 26) hx hb dX1_isReported_19 (by decide) (fun c_4 => ?_) (fun c_4 => ?_)
    · have h := h.1 c_4
      refine lv_iconst (v := (0 : Int32)) hx hb dX1_isReported_26 (by decide) ?_
      exact B27 _ (0 : Int32) (lv_sub hl [0, 1, 2] rfl) h
    · have h := h.2 c_4
      exact B22 _ (lv_sub hl [0, 1, 2] rfl) h
set_option maxHeartbeats 4000000 in
set_option maxRecDepth 100000 in
theorem c_X1_isContradicted (l : Launch) (D : va_G) (Cs : Nat → ClassId) (q_o : Nat) (q_o_cells : Nat) (v_o_cells : (Nat → Int32)) (x1 : Int32) (x2 : Int32) {post : Int32 → Prop} (h : P_X1_isContradicted v_o_cells x1 x2 post) : Met l yX1_isContradicted wsX1_isContradicted ({ frames := 2, cells := 0, slots := 0, locals := 44 } : Room) (va_Pc [.ref q_o, .int x1, .int x2] (gR D Cs [(q_o, .inr (1, [.ref q_o_cells])), (q_o_cells, gI Cs 221 v_o_cells)])) (vp_Si post) 0 0 (fun _ => False) := by
  refine Met.ofW (cc := cX1_isContradicted) (maxL := 4) (ret := (some .boolean)) (by decide) rfl ?_
  intro p e s m args below meth c s₁ B hml hv
  obtain ⟨ha, hP, hK, hN⟩ := hv
  have hx := B.exec
  have hb := B.bytes
  have hr := B.returns
  have hts := atoms_spec (ws := wsX1_isContradicted) B.pre
  have htb : ∀ w ∈ TB, w.before args s = true := fun w h9 => hts w (List.mem_cons_of_mem _ h9)
  have hown : s.vm.findClass RX1 = some m.cls := findClass_of_methodNamed B.named
  have hlocks := B.notSynchronized
  generalize hQ : MQ below _ args s _ _ _ = Q
  show W p l e ({ frames := 2, cells := 0, slots := 0, locals := 44 } : Room) s m args below meth c s.heap [] 0 0 Q (entryFrame m args 4)
  have hent : entryFrame m args 4 = F0 m 0 ((lg_sl ([.ref q_o, .int x1, .int x2]) ++ List.replicate (4 - (lg_sl ([.ref q_o, .int x1, .int x2])).length) Slot.unset).toArray) [] := by rw [ha]; exact lg_entry_eq m ([.ref q_o, .int x1, .int x2]) 4
  rw [hent]; clear hent
  have hl := lv_entry ([.ref q_o, .int x1, .int x2]) (n := 4) (Nat.le_of_ble_eq_true rfl)
  generalize (lg_sl ([.ref q_o, .int x1, .int x2]) ++ List.replicate (4 - (lg_sl ([.ref q_o, .int x1, .int x2])).length) Slot.unset).toArray = ls at hl ⊢
  have hl : lv_has ls 4 [(0, .ref q_o), (1, .int x1), (2, .int x2)] := hl
  have B29 : ∀ (ls : Array Slot) (s0 : Int32), lv_has ls 4 [(0, .ref q_o), (1, .int x1), (2, .int x2)] → P_X1_isContradicted_b29 v_o_cells x1 x2 post s0 → W p l e ({ frames := 2, cells := 0, slots := 0, locals := 44 } : Room) s m args below meth c s.heap [] 0 0 Q (F0 m 29 ls [.int s0]) := by
    intro ls s0 hl h
    unfold P_X1_isContradicted_b29 at h
    obtain ⟨hnb, h⟩ := h
    rw [← hQ]
    exact gRetR hx hb hr hnb h dX1_isContradicted_29 hlocks
  have B28 : ∀ (ls : Array Slot), lv_has ls 4 [(0, .ref q_o), (1, .int x1), (2, .int x2)] → P_X1_isContradicted_b28 v_o_cells x1 x2 post → W p l e ({ frames := 2, cells := 0, slots := 0, locals := 44 } : Room) s m args below meth c s.heap [] 0 0 Q (F0 m 28 ls []) := by
    intro ls hl h
    unfold P_X1_isContradicted_b28 at h
    refine lv_iconst (v := (0 : Int32)) hx hb dX1_isContradicted_28 (by decide) ?_
    exact B29 _ (0 : Int32) (lv_sub hl [0, 1, 2] rfl) h
  unfold P_X1_isContradicted at h
  refine lv_aload_n hx hb dX1_isContradicted_0 rfl (lv_at hl 0 rfl) ?_
  refine lv_iload_n hx hb dX1_isContradicted_1 rfl (lv_at hl 1 rfl) ?_
  refine lv_iload_n hx hb dX1_isContradicted_2 rfl (lv_at hl 2 rfl) ?_
  refine lv_iconst (v := (1 : Int32)) hx hb dX1_isContradicted_3 (by decide) ?_
  refine gVR (As := [.int x1, .int x2, .int (1 : Int32)]) (rest := []) ⟨hx, hb, hml, hown, htb⟩ hK hP hN [0, 1] rfl (c_X1_reportedYear l D Cs q_o q_o_cells v_o_cells x1 x2 (1 : Int32) h) (cwV 3 htb (TB_v tb_152 tb_153 tb_154 tb_14 (TB_self tb_155)) rfl rfl rfl z_X1_reportedYear ⟨Nat.le_of_ble_eq_true rfl, Nat.le_of_ble_eq_true rfl⟩) 0 rfl rfl rfl rfl hl.1 rfl (Nat.le_of_ble_eq_true rfl) ⟨Nat.le_of_ble_eq_true rfl, Nat.le_of_ble_eq_true rfl⟩ dX1_isContradicted_4 (fun r_1 h => ?_)
  refine lv_istore_n (lv' := [(3, .int r_1), (0, .ref q_o), (1, .int x1), (2, .int x2)]) hx hb dX1_isContradicted_7 rfl hl (by decide) rfl (fun ls hl => ?_)
  refine lv_iload_n hx hb dX1_isContradicted_8 rfl (lv_at hl 0 rfl) ?_
  refine lv_iconst (v := (-1 : Int32)) hx hb dX1_isContradicted_9 (by decide) ?_
  refine lv_icmp_eq (tgt := 28) hx hb dX1_isContradicted_10 (by decide) (fun c_2 => ?_) (fun c_2 => ?_)
  · have h := h.1 c_2
    exact B28 _ (lv_sub hl [1, 2, 3] rfl) h
  · have h := h.2 c_2
    refine lv_iload_n hx hb dX1_isContradicted_13 rfl (lv_at hl 0 rfl) ?_
    refine lv_aload_n hx hb dX1_isContradicted_14 rfl (lv_at hl 1 rfl) ?_
    refine lv_iload_n hx hb dX1_isContradicted_15 rfl (lv_at hl 2 rfl) ?_
    refine lv_iload_n hx hb dX1_isContradicted_16 rfl (lv_at hl 3 rfl) ?_
    refine lv_iconst (v := (0 : Int32)) hx hb dX1_isContradicted_17 (by decide) ?_
    refine gVR (As := [.int x1, .int x2, .int (0 : Int32)]) (rest := [.int r_1]) ⟨hx, hb, hml, hown, htb⟩ hK hP hN [0, 1] rfl (c_X1_reportedYear l D Cs q_o q_o_cells v_o_cells x1 x2 (0 : Int32) h) (cwV 3 htb (TB_v tb_152 tb_153 tb_154 tb_14 (TB_self tb_155)) rfl rfl rfl z_X1_reportedYear ⟨Nat.le_of_ble_eq_true rfl, Nat.le_of_ble_eq_true rfl⟩) 0 rfl rfl rfl rfl hl.1 rfl (Nat.le_of_ble_eq_true rfl) ⟨Nat.le_of_ble_eq_true rfl, Nat.le_of_ble_eq_true rfl⟩ dX1_isContradicted_18 (fun r_3 h => ?_)
    refine lv_icmp_gt (tgt := 28) hx hb dX1_isContradicted_21 (by decide) (fun c_4 => ?_) (fun c_4 => ?_)
    · have h := h.1 c_4
      exact B28 _ (lv_sub hl [1, 2, 3] rfl) h
    · have h := h.2 c_4
      refine lv_iconst (v := (1 : Int32)) hx hb dX1_isContradicted_24 (by decide) ?_
      refine lv_goto (tgt := 29) hx hb dX1_isContradicted_25 (by decide) ?_
      exact B29 _ (1 : Int32) (lv_sub hl [1, 2, 3] rfl) h
set_option maxHeartbeats 4000000 in
set_option maxRecDepth 100000 in
theorem c_X1_reportedPairs (l : Launch) (D : va_G) (Cs : Nat → ClassId) (q_o : Nat) (q_o_cells : Nat) (v_o_cells : (Nat → Int32)) {post : Int32 → Prop} (h : P_X1_reportedPairs v_o_cells post) : Met l yX1_reportedPairs wsX1_reportedPairs ({ frames := 3, cells := 0, slots := 0, locals := 66 } : Room) (va_Pc [.ref q_o] (gR D Cs [(q_o, .inr (1, [.ref q_o_cells])), (q_o_cells, gI Cs 221 v_o_cells)])) (vp_Si post) 0 0 (fun _ => False) := by
  refine Met.ofW (cc := cX1_reportedPairs) (maxL := 4) (ret := (some .int)) (by decide) rfl ?_
  intro p e s m args below meth c s₁ B hml hv
  obtain ⟨ha, hP, hK, hN⟩ := hv
  have hx := B.exec
  have hb := B.bytes
  have hr := B.returns
  have hts := atoms_spec (ws := wsX1_reportedPairs) B.pre
  have htb : ∀ w ∈ TB, w.before args s = true := fun w h9 => hts w (List.mem_cons_of_mem _ h9)
  have hown : s.vm.findClass RX1 = some m.cls := findClass_of_methodNamed B.named
  have hlocks := B.notSynchronized
  generalize hQ : MQ below _ args s _ _ _ = Q
  show W p l e ({ frames := 3, cells := 0, slots := 0, locals := 66 } : Room) s m args below meth c s.heap [] 0 0 Q (entryFrame m args 4)
  have hent : entryFrame m args 4 = F0 m 0 ((lg_sl ([.ref q_o]) ++ List.replicate (4 - (lg_sl ([.ref q_o])).length) Slot.unset).toArray) [] := by rw [ha]; exact lg_entry_eq m ([.ref q_o]) 4
  rw [hent]; clear hent
  have hl := lv_entry ([.ref q_o]) (n := 4) (Nat.le_of_ble_eq_true rfl)
  generalize (lg_sl ([.ref q_o]) ++ List.replicate (4 - (lg_sl ([.ref q_o])).length) Slot.unset).toArray = ls at hl ⊢
  have hl : lv_has ls 4 [(0, .ref q_o)] := hl
  have L4 : ∀ (n : Nat) (ls : Array Slot) (x1 : Int32) (x2 : Int32), lv_has ls 4 [(0, .ref q_o), (1, .int x1), (2, .int x2)] → P_X1_reportedPairs_l4 v_o_cells post n x1 x2 → W p l e ({ frames := 3, cells := 0, slots := 0, locals := 66 } : Room) s m args below meth c s.heap [] 0 0 Q (F0 m 4 ls []) := by
    intro n4
    induction n4 with
    | zero => intro ls x1 x2 hl h; exact False.elim h
    | succ n4 ih4 =>
      have L16 : ∀ (n : Nat) (ls : Array Slot) (x1 : Int32) (x2 : Int32) (x3 : Int32), lv_has ls 4 [(0, .ref q_o), (1, .int x1), (2, .int x2), (3, .int x3)] → P_X1_reportedPairs_l16 v_o_cells post (P_X1_reportedPairs_l4 v_o_cells post n4) n x1 x2 x3 → W p l e ({ frames := 3, cells := 0, slots := 0, locals := 66 } : Room) s m args below meth c s.heap [] 0 0 Q (F0 m 16 ls []) := by
        intro n16
        induction n16 with
        | zero => intro ls x1 x2 x3 hl h; exact False.elim h
        | succ n16 ih16 =>
          have B34 : ∀ (ls : Array Slot) (x1 : Int32) (x2 : Int32) (x3 : Int32), lv_has ls 4 [(0, .ref q_o), (1, .int x1), (2, .int x2), (3, .int x3)] → P_X1_reportedPairs_b34 v_o_cells post (P_X1_reportedPairs_l4 v_o_cells post n4) (P_X1_reportedPairs_l16 v_o_cells post (P_X1_reportedPairs_l4 v_o_cells post n4) n16) x1 x2 x3 → W p l e ({ frames := 3, cells := 0, slots := 0, locals := 66 } : Room) s m args below meth c s.heap [] 0 0 Q (F0 m 34 ls []) := by
            intro ls x1 x2 x3 hl h
            unfold P_X1_reportedPairs_b34 at h
            obtain ⟨x3_1, ex3_1⟩ : ∃ y : Int32, y = x3 + (1 : Int32) := ⟨_, rfl⟩
            have h := h _ ex3_1
            refine lv_iinc (v := x3_1) (lv' := [(3, .int x3_1), (0, .ref q_o), (1, .int x1), (2, .int x2)]) hx hb dX1_reportedPairs_34 hl (k := 3) rfl (by rw [ex3_1]; rfl) (by decide) rfl (fun ls hl => ?_)
            refine lv_goto (tgt := 16) hx hb dX1_reportedPairs_37 (by decide) ?_
            exact ih16 _ x1 x2 x3_1 (lv_sub hl [1, 2, 3, 0] rfl) h
          intro ls x1 x2 x3 hl h
          replace h : P_X1_reportedPairs_b16 v_o_cells post (P_X1_reportedPairs_l4 v_o_cells post n4) (P_X1_reportedPairs_l16 v_o_cells post (P_X1_reportedPairs_l4 v_o_cells post n4) n16) x1 x2 x3 := h
          unfold P_X1_reportedPairs_b16 at h
          refine lv_iload_n hx hb dX1_reportedPairs_16 rfl (lv_at hl 3 rfl) ?_
          refine lv_bipush (v := (6 : Int32)) hx hb dX1_reportedPairs_17 (by decide) ?_
          refine lv_icmp_ge (tgt := 40) hx hb dX1_reportedPairs_19 (by decide) (fun c_2 => ?_) (fun c_2 => ?_)
          · have h := h.1 c_2
            obtain ⟨x2_3, ex2_3⟩ : ∃ y : Int32, y = x2 + (1 : Int32) := ⟨_, rfl⟩
            have h := h _ ex2_3
            refine lv_iinc (v := x2_3) (lv' := [(2, .int x2_3), (0, .ref q_o), (1, .int x1), (3, .int x3)]) hx hb dX1_reportedPairs_40 hl (k := 2) rfl (by rw [ex2_3]; rfl) (by decide) rfl (fun ls hl => ?_)
            refine lv_goto (tgt := 4) hx hb dX1_reportedPairs_43 (by decide) ?_
            exact ih4 _ x1 x2_3 (lv_sub hl [1, 2, 0] rfl) h
          · have h := h.2 c_2
            refine lv_aload_n hx hb dX1_reportedPairs_22 rfl (lv_at hl 0 rfl) ?_
            refine lv_iload_n hx hb dX1_reportedPairs_23 rfl (lv_at hl 2 rfl) ?_
            refine lv_iload_n hx hb dX1_reportedPairs_24 rfl (lv_at hl 3 rfl) ?_
            refine gVR (As := [.int x2, .int x3]) (rest := []) ⟨hx, hb, hml, hown, htb⟩ hK hP hN [0, 1] rfl (c_X1_isReported l D Cs q_o q_o_cells v_o_cells x2 x3 h) (cwV 2 htb (TB_v tb_148 tb_149 tb_150 tb_14 (TB_self tb_151)) rfl rfl rfl z_X1_isReported ⟨Nat.le_of_ble_eq_true rfl, Nat.le_of_ble_eq_true rfl⟩) 0 rfl rfl rfl rfl hl.1 rfl (Nat.le_of_ble_eq_true rfl) ⟨Nat.le_of_ble_eq_true rfl, Nat.le_of_ble_eq_true rfl⟩ dX1_reportedPairs_25 (fun r_4 h => ?_)
            refine lv_if_eq (tgt := 34) hx hb dX1_reportedPairs_28 (by decide) (fun c_5 => ?_) (fun c_5 => ?_)
            · have h := h.1 c_5
              exact B34 _ x1 x2 x3 (lv_sub hl [0, 1, 2, 3] rfl) h
            · have h := h.2 c_5
              obtain ⟨x1_6, ex1_6⟩ : ∃ y : Int32, y = x1 + (1 : Int32) := ⟨_, rfl⟩
              have h := h _ ex1_6
              refine lv_iinc (v := x1_6) (lv' := [(1, .int x1_6), (0, .ref q_o), (2, .int x2), (3, .int x3)]) hx hb dX1_reportedPairs_31 hl (k := 1) rfl (by rw [ex1_6]; rfl) (by decide) rfl (fun ls hl => ?_)
              exact B34 _ x1_6 x2 x3 (lv_sub hl [1, 0, 2, 3] rfl) h
      intro ls x1 x2 hl h
      replace h : P_X1_reportedPairs_b4 v_o_cells post (P_X1_reportedPairs_l4 v_o_cells post n4) x1 x2 := h
      unfold P_X1_reportedPairs_b4 at h
      refine lv_iload_n hx hb dX1_reportedPairs_4 rfl (lv_at hl 2 rfl) ?_
      refine lv_aload_n hx hb dX1_reportedPairs_5 rfl (lv_at hl 0 rfl) ?_
      refine va_get (D := D) (ci := 1) (v := .ref q_o_cells) (C := RX1) (T := TX1) (N := 1) hx hb htb inT_X1 hown hK hP 0 rfl rfl 0 (by decide) (htb _ tb_41) (fun _ h9 => h9) rfl dX1_reportedPairs_6 ?_
      refine lv_iconst (v := (0 : Int32)) hx hb dX1_reportedPairs_9 (by decide) ?_
      refine va_iald hx hb hK hP 1 0 rfl rfl (by unfold vp_in; decide) dX1_reportedPairs_10 ?_
      refine lv_icmp_ge (tgt := 46) hx hb dX1_reportedPairs_11 (by decide) (fun c_7 => ?_) (fun c_7 => ?_)
      · have h := h.1 c_7
        refine lv_iload_n hx hb dX1_reportedPairs_46 rfl (lv_at hl 1 rfl) ?_
        rw [← hQ]
        exact gRetR hx hb hr rfl h dX1_reportedPairs_47 hlocks
      · have h := h.2 c_7
        refine lv_iconst (v := (0 : Int32)) hx hb dX1_reportedPairs_14 (by decide) ?_
        refine lv_istore_n (lv' := [(3, .int (0 : Int32)), (0, .ref q_o), (1, .int x1), (2, .int x2)]) hx hb dX1_reportedPairs_15 rfl hl (by decide) rfl (fun ls hl => ?_)
        obtain ⟨n, h⟩ := h
        exact L16 n _ x1 x2 (0 : Int32) (lv_sub hl [1, 2, 3, 0] rfl) h
  unfold P_X1_reportedPairs at h
  refine lv_iconst (v := (0 : Int32)) hx hb dX1_reportedPairs_0 (by decide) ?_
  refine lv_istore_n (lv' := [(1, .int (0 : Int32)), (0, .ref q_o)]) hx hb dX1_reportedPairs_1 rfl hl (by decide) rfl (fun ls hl => ?_)
  refine lv_iconst (v := (0 : Int32)) hx hb dX1_reportedPairs_2 (by decide) ?_
  refine lv_istore_n (lv' := [(2, .int (0 : Int32)), (1, .int (0 : Int32)), (0, .ref q_o)]) hx hb dX1_reportedPairs_3 rfl hl (by decide) rfl (fun ls hl => ?_)
  obtain ⟨n, h⟩ := h
  exact L4 n _ (0 : Int32) (0 : Int32) (lv_sub hl [2, 1, 0] rfl) h
set_option maxHeartbeats 4000000 in
set_option maxRecDepth 100000 in
theorem c_X1_contradictions (l : Launch) (D : va_G) (Cs : Nat → ClassId) (q_o : Nat) (q_o_cells : Nat) (v_o_cells : (Nat → Int32)) {post : Int32 → Prop} (h : P_X1_contradictions v_o_cells post) : Met l yX1_contradictions wsX1_contradictions ({ frames := 3, cells := 0, slots := 0, locals := 67 } : Room) (va_Pc [.ref q_o] (gR D Cs [(q_o, .inr (1, [.ref q_o_cells])), (q_o_cells, gI Cs 221 v_o_cells)])) (vp_Si post) 0 0 (fun _ => False) := by
  refine Met.ofW (cc := cX1_contradictions) (maxL := 4) (ret := (some .int)) (by decide) rfl ?_
  intro p e s m args below meth c s₁ B hml hv
  obtain ⟨ha, hP, hK, hN⟩ := hv
  have hx := B.exec
  have hb := B.bytes
  have hr := B.returns
  have hts := atoms_spec (ws := wsX1_contradictions) B.pre
  have htb : ∀ w ∈ TB, w.before args s = true := fun w h9 => hts w (List.mem_cons_of_mem _ h9)
  have hown : s.vm.findClass RX1 = some m.cls := findClass_of_methodNamed B.named
  have hlocks := B.notSynchronized
  generalize hQ : MQ below _ args s _ _ _ = Q
  show W p l e ({ frames := 3, cells := 0, slots := 0, locals := 67 } : Room) s m args below meth c s.heap [] 0 0 Q (entryFrame m args 4)
  have hent : entryFrame m args 4 = F0 m 0 ((lg_sl ([.ref q_o]) ++ List.replicate (4 - (lg_sl ([.ref q_o])).length) Slot.unset).toArray) [] := by rw [ha]; exact lg_entry_eq m ([.ref q_o]) 4
  rw [hent]; clear hent
  have hl := lv_entry ([.ref q_o]) (n := 4) (Nat.le_of_ble_eq_true rfl)
  generalize (lg_sl ([.ref q_o]) ++ List.replicate (4 - (lg_sl ([.ref q_o])).length) Slot.unset).toArray = ls at hl ⊢
  have hl : lv_has ls 4 [(0, .ref q_o)] := hl
  have L4 : ∀ (n : Nat) (ls : Array Slot) (x1 : Int32) (x2 : Int32), lv_has ls 4 [(0, .ref q_o), (1, .int x1), (2, .int x2)] → P_X1_contradictions_l4 v_o_cells post n x1 x2 → W p l e ({ frames := 3, cells := 0, slots := 0, locals := 67 } : Room) s m args below meth c s.heap [] 0 0 Q (F0 m 4 ls []) := by
    intro n4
    induction n4 with
    | zero => intro ls x1 x2 hl h; exact False.elim h
    | succ n4 ih4 =>
      have L16 : ∀ (n : Nat) (ls : Array Slot) (x1 : Int32) (x2 : Int32) (x3 : Int32), lv_has ls 4 [(0, .ref q_o), (1, .int x1), (2, .int x2), (3, .int x3)] → P_X1_contradictions_l16 v_o_cells post (P_X1_contradictions_l4 v_o_cells post n4) n x1 x2 x3 → W p l e ({ frames := 3, cells := 0, slots := 0, locals := 67 } : Room) s m args below meth c s.heap [] 0 0 Q (F0 m 16 ls []) := by
        intro n16
        induction n16 with
        | zero => intro ls x1 x2 x3 hl h; exact False.elim h
        | succ n16 ih16 =>
          have B34 : ∀ (ls : Array Slot) (x1 : Int32) (x2 : Int32) (x3 : Int32), lv_has ls 4 [(0, .ref q_o), (1, .int x1), (2, .int x2), (3, .int x3)] → P_X1_contradictions_b34 v_o_cells post (P_X1_contradictions_l4 v_o_cells post n4) (P_X1_contradictions_l16 v_o_cells post (P_X1_contradictions_l4 v_o_cells post n4) n16) x1 x2 x3 → W p l e ({ frames := 3, cells := 0, slots := 0, locals := 67 } : Room) s m args below meth c s.heap [] 0 0 Q (F0 m 34 ls []) := by
            intro ls x1 x2 x3 hl h
            unfold P_X1_contradictions_b34 at h
            obtain ⟨x3_1, ex3_1⟩ : ∃ y : Int32, y = x3 + (1 : Int32) := ⟨_, rfl⟩
            have h := h _ ex3_1
            refine lv_iinc (v := x3_1) (lv' := [(3, .int x3_1), (0, .ref q_o), (1, .int x1), (2, .int x2)]) hx hb dX1_contradictions_34 hl (k := 3) rfl (by rw [ex3_1]; rfl) (by decide) rfl (fun ls hl => ?_)
            refine lv_goto (tgt := 16) hx hb dX1_contradictions_37 (by decide) ?_
            exact ih16 _ x1 x2 x3_1 (lv_sub hl [1, 2, 3, 0] rfl) h
          intro ls x1 x2 x3 hl h
          replace h : P_X1_contradictions_b16 v_o_cells post (P_X1_contradictions_l4 v_o_cells post n4) (P_X1_contradictions_l16 v_o_cells post (P_X1_contradictions_l4 v_o_cells post n4) n16) x1 x2 x3 := h
          unfold P_X1_contradictions_b16 at h
          refine lv_iload_n hx hb dX1_contradictions_16 rfl (lv_at hl 3 rfl) ?_
          refine lv_bipush (v := (6 : Int32)) hx hb dX1_contradictions_17 (by decide) ?_
          refine lv_icmp_ge (tgt := 40) hx hb dX1_contradictions_19 (by decide) (fun c_2 => ?_) (fun c_2 => ?_)
          · have h := h.1 c_2
            obtain ⟨x2_3, ex2_3⟩ : ∃ y : Int32, y = x2 + (1 : Int32) := ⟨_, rfl⟩
            have h := h _ ex2_3
            refine lv_iinc (v := x2_3) (lv' := [(2, .int x2_3), (0, .ref q_o), (1, .int x1), (3, .int x3)]) hx hb dX1_contradictions_40 hl (k := 2) rfl (by rw [ex2_3]; rfl) (by decide) rfl (fun ls hl => ?_)
            refine lv_goto (tgt := 4) hx hb dX1_contradictions_43 (by decide) ?_
            exact ih4 _ x1 x2_3 (lv_sub hl [1, 2, 0] rfl) h
          · have h := h.2 c_2
            refine lv_aload_n hx hb dX1_contradictions_22 rfl (lv_at hl 0 rfl) ?_
            refine lv_iload_n hx hb dX1_contradictions_23 rfl (lv_at hl 2 rfl) ?_
            refine lv_iload_n hx hb dX1_contradictions_24 rfl (lv_at hl 3 rfl) ?_
            refine gVR (As := [.int x2, .int x3]) (rest := []) ⟨hx, hb, hml, hown, htb⟩ hK hP hN [0, 1] rfl (c_X1_isContradicted l D Cs q_o q_o_cells v_o_cells x2 x3 h) (cwV 2 htb (TB_v tb_162 tb_163 tb_164 tb_14 (TB_self tb_165)) rfl rfl rfl z_X1_isContradicted ⟨Nat.le_of_ble_eq_true rfl, Nat.le_of_ble_eq_true rfl⟩) 0 rfl rfl rfl rfl hl.1 rfl (Nat.le_of_ble_eq_true rfl) ⟨Nat.le_of_ble_eq_true rfl, Nat.le_of_ble_eq_true rfl⟩ dX1_contradictions_25 (fun r_4 h => ?_)
            refine lv_if_eq (tgt := 34) hx hb dX1_contradictions_28 (by decide) (fun c_5 => ?_) (fun c_5 => ?_)
            · have h := h.1 c_5
              exact B34 _ x1 x2 x3 (lv_sub hl [0, 1, 2, 3] rfl) h
            · have h := h.2 c_5
              obtain ⟨x1_6, ex1_6⟩ : ∃ y : Int32, y = x1 + (1 : Int32) := ⟨_, rfl⟩
              have h := h _ ex1_6
              refine lv_iinc (v := x1_6) (lv' := [(1, .int x1_6), (0, .ref q_o), (2, .int x2), (3, .int x3)]) hx hb dX1_contradictions_31 hl (k := 1) rfl (by rw [ex1_6]; rfl) (by decide) rfl (fun ls hl => ?_)
              exact B34 _ x1_6 x2 x3 (lv_sub hl [1, 0, 2, 3] rfl) h
      intro ls x1 x2 hl h
      replace h : P_X1_contradictions_b4 v_o_cells post (P_X1_contradictions_l4 v_o_cells post n4) x1 x2 := h
      unfold P_X1_contradictions_b4 at h
      refine lv_iload_n hx hb dX1_contradictions_4 rfl (lv_at hl 2 rfl) ?_
      refine lv_aload_n hx hb dX1_contradictions_5 rfl (lv_at hl 0 rfl) ?_
      refine va_get (D := D) (ci := 1) (v := .ref q_o_cells) (C := RX1) (T := TX1) (N := 1) hx hb htb inT_X1 hown hK hP 0 rfl rfl 0 (by decide) (htb _ tb_41) (fun _ h9 => h9) rfl dX1_contradictions_6 ?_
      refine lv_iconst (v := (0 : Int32)) hx hb dX1_contradictions_9 (by decide) ?_
      refine va_iald hx hb hK hP 1 0 rfl rfl (by unfold vp_in; decide) dX1_contradictions_10 ?_
      refine lv_icmp_ge (tgt := 46) hx hb dX1_contradictions_11 (by decide) (fun c_7 => ?_) (fun c_7 => ?_)
      · have h := h.1 c_7
        refine lv_iload_n hx hb dX1_contradictions_46 rfl (lv_at hl 1 rfl) ?_
        rw [← hQ]
        exact gRetR hx hb hr rfl h dX1_contradictions_47 hlocks
      · have h := h.2 c_7
        refine lv_iconst (v := (0 : Int32)) hx hb dX1_contradictions_14 (by decide) ?_
        refine lv_istore_n (lv' := [(3, .int (0 : Int32)), (0, .ref q_o), (1, .int x1), (2, .int x2)]) hx hb dX1_contradictions_15 rfl hl (by decide) rfl (fun ls hl => ?_)
        obtain ⟨n, h⟩ := h
        exact L16 n _ x1 x2 (0 : Int32) (lv_sub hl [1, 2, 3, 0] rfl) h
  unfold P_X1_contradictions at h
  refine lv_iconst (v := (0 : Int32)) hx hb dX1_contradictions_0 (by decide) ?_
  refine lv_istore_n (lv' := [(1, .int (0 : Int32)), (0, .ref q_o)]) hx hb dX1_contradictions_1 rfl hl (by decide) rfl (fun ls hl => ?_)
  refine lv_iconst (v := (0 : Int32)) hx hb dX1_contradictions_2 (by decide) ?_
  refine lv_istore_n (lv' := [(2, .int (0 : Int32)), (1, .int (0 : Int32)), (0, .ref q_o)]) hx hb dX1_contradictions_3 rfl hl (by decide) rfl (fun ls hl => ?_)
  obtain ⟨n, h⟩ := h
  exact L4 n _ (0 : Int32) (0 : Int32) (lv_sub hl [2, 1, 0] rfl) h
set_option maxHeartbeats 4000000 in
set_option maxRecDepth 100000 in
theorem c_X5_isLength (l : Launch) (D : va_G) (Cs : Nat → ClassId) (x0 : Int32) {post : Int32 → Prop} (h : P_X5_isLength x0 post) : Met l yX5_isLength wsX5_isLength ({ frames := 0, cells := 0, slots := 0, locals := 0 } : Room) (va_Pc [.int x0] (gR D Cs [])) (vp_Si post) 0 0 (fun _ => False) := by
  refine Met.ofW (cc := cX5_isLength) (maxL := 1) (ret := (some .boolean)) (by decide) rfl ?_
  intro p e s m args below meth c s₁ B hml hv
  obtain ⟨ha, hP, hK, hN⟩ := hv
  have hx := B.exec
  have hb := B.bytes
  have hr := B.returns
  have hts := atoms_spec (ws := wsX5_isLength) B.pre
  have htb : ∀ w ∈ TB, w.before args s = true := fun w h9 => hts w (List.mem_cons_of_mem _ h9)
  have hown : s.vm.findClass RX5 = some m.cls := findClass_of_methodNamed B.named
  have hlocks := B.notSynchronized
  generalize hQ : MQ below _ args s _ _ _ = Q
  show W p l e ({ frames := 0, cells := 0, slots := 0, locals := 0 } : Room) s m args below meth c s.heap [] 0 0 Q (entryFrame m args 1)
  have hent : entryFrame m args 1 = F0 m 0 ((lg_sl ([.int x0]) ++ List.replicate (1 - (lg_sl ([.int x0])).length) Slot.unset).toArray) [] := by rw [ha]; exact lg_entry_eq m ([.int x0]) 1
  rw [hent]; clear hent
  have hl := lv_entry ([.int x0]) (n := 1) (Nat.le_of_ble_eq_true rfl)
  generalize (lg_sl ([.int x0]) ++ List.replicate (1 - (lg_sl ([.int x0])).length) Slot.unset).toArray = ls at hl ⊢
  have hl : lv_has ls 1 [(0, .int x0)] := hl
  have B16 : ∀ (ls : Array Slot) (s0 : Int32), lv_has ls 1 [(0, .int x0)] → P_X5_isLength_b16 x0 post s0 → W p l e ({ frames := 0, cells := 0, slots := 0, locals := 0 } : Room) s m args below meth c s.heap [] 0 0 Q (F0 m 16 ls [.int s0]) := by
    intro ls s0 hl h
    unfold P_X5_isLength_b16 at h
    obtain ⟨hnb, h⟩ := h
    rw [← hQ]
    exact gRetR hx hb hr hnb h dX5_isLength_16 hlocks
  have B15 : ∀ (ls : Array Slot), lv_has ls 1 [(0, .int x0)] → P_X5_isLength_b15 x0 post → W p l e ({ frames := 0, cells := 0, slots := 0, locals := 0 } : Room) s m args below meth c s.heap [] 0 0 Q (F0 m 15 ls []) := by
    intro ls hl h
    unfold P_X5_isLength_b15 at h
    refine lv_iconst (v := (0 : Int32)) hx hb dX5_isLength_15 (by decide) ?_
    exact B16 _ (0 : Int32) (lv_sub hl [0] rfl) h
  unfold P_X5_isLength at h
  refine lv_iload_n hx hb dX5_isLength_0 rfl (lv_at hl 0 rfl) ?_
  refine lv_iconst (v := (1 : Int32)) hx hb dX5_isLength_1 (by decide) ?_
  refine lv_icmp_lt (tgt := 15) hx hb dX5_isLength_2 (by decide) (fun c_1 => ?_) (fun c_1 => ?_)
  · have h := h.1 c_1
    exact B15 _ (lv_sub hl [0] rfl) h
  · have h := h.2 c_1
    refine lv_iload_n hx hb dX5_isLength_5 rfl (lv_at hl 0 rfl) ?_
    refine lv_bipush (v := (99 : Int32)) hx hb dX5_isLength_6 (by decide) ?_
    refine lv_icmp_gt (tgt := 15) hx hb dX5_isLength_8 (by decide) (fun c_2 => ?_) (fun c_2 => ?_)
    · have h := h.1 c_2
      exact B15 _ (lv_sub hl [0] rfl) h
    · have h := h.2 c_2
      refine lv_iconst (v := (1 : Int32)) hx hb dX5_isLength_11 (by decide) ?_
      refine lv_goto (tgt := 16) hx hb dX5_isLength_12 (by decide) ?_
      exact B16 _ (1 : Int32) (lv_sub hl [0] rfl) h
set_option maxHeartbeats 4000000 in
set_option maxRecDepth 100000 in
theorem c_X1_canJoin (l : Launch) (D : va_G) (Cs : Nat → ClassId) (q_o : Nat) (q_o_cells : Nat) (v_o_cells : (Nat → Int32)) (x1 : Int32) (x2 : Int32) (x3 : Int32) {post : Int32 → Prop} (h : P_X1_canJoin v_o_cells x1 x2 x3 post) : Met l yX1_canJoin wsX1_canJoin ({ frames := 3, cells := 0, slots := 0, locals := 66 } : Room) (va_Pc [.ref q_o, .int x1, .int x2, .int x3] (gR D Cs [(q_o, .inr (1, [.ref q_o_cells])), (q_o_cells, gI Cs 221 v_o_cells)])) (vp_Si post) 0 0 (fun _ => False) := by
  refine Met.ofW (cc := cX1_canJoin) (maxL := 4) (ret := (some .boolean)) (by decide) rfl ?_
  intro p e s m args below meth c s₁ B hml hv
  obtain ⟨ha, hP, hK, hN⟩ := hv
  have hx := B.exec
  have hb := B.bytes
  have hr := B.returns
  have hts := atoms_spec (ws := wsX1_canJoin) B.pre
  have htb : ∀ w ∈ TB, w.before args s = true := fun w h9 => hts w (List.mem_cons_of_mem _ h9)
  have hown : s.vm.findClass RX1 = some m.cls := findClass_of_methodNamed B.named
  have hlocks := B.notSynchronized
  generalize hQ : MQ below _ args s _ _ _ = Q
  show W p l e ({ frames := 3, cells := 0, slots := 0, locals := 66 } : Room) s m args below meth c s.heap [] 0 0 Q (entryFrame m args 4)
  have hent : entryFrame m args 4 = F0 m 0 ((lg_sl ([.ref q_o, .int x1, .int x2, .int x3]) ++ List.replicate (4 - (lg_sl ([.ref q_o, .int x1, .int x2, .int x3])).length) Slot.unset).toArray) [] := by rw [ha]; exact lg_entry_eq m ([.ref q_o, .int x1, .int x2, .int x3]) 4
  rw [hent]; clear hent
  have hl := lv_entry ([.ref q_o, .int x1, .int x2, .int x3]) (n := 4) (Nat.le_of_ble_eq_true rfl)
  generalize (lg_sl ([.ref q_o, .int x1, .int x2, .int x3]) ++ List.replicate (4 - (lg_sl ([.ref q_o, .int x1, .int x2, .int x3])).length) Slot.unset).toArray = ls at hl ⊢
  have hl : lv_has ls 4 [(0, .ref q_o), (1, .int x1), (2, .int x2), (3, .int x3)] := hl
  have B28 : ∀ (ls : Array Slot), lv_has ls 4 [(0, .ref q_o), (1, .int x1), (2, .int x2), (3, .int x3)] → P_X1_canJoin_b28 v_o_cells x1 x2 x3 post → W p l e ({ frames := 3, cells := 0, slots := 0, locals := 66 } : Room) s m args below meth c s.heap [] 0 0 Q (F0 m 28 ls []) := by
    intro ls hl h
    unfold P_X1_canJoin_b28 at h
    refine lv_iconst (v := (0 : Int32)) hx hb dX1_canJoin_28 (by decide) ?_
    rw [← hQ]
    exact gRetR hx hb hr rfl h dX1_canJoin_29 hlocks
  have B74 : ∀ (ls : Array Slot) (s0 : Int32), lv_has ls 4 [(0, .ref q_o), (1, .int x1), (2, .int x2), (3, .int x3)] → P_X1_canJoin_b74 v_o_cells x1 x2 x3 post s0 → W p l e ({ frames := 3, cells := 0, slots := 0, locals := 66 } : Room) s m args below meth c s.heap [] 0 0 Q (F0 m 74 ls [.int s0]) := by
    intro ls s0 hl h
    unfold P_X1_canJoin_b74 at h
    obtain ⟨hnb, h⟩ := h
    rw [← hQ]
    exact gRetR hx hb hr hnb h dX1_canJoin_74 hlocks
  have B73 : ∀ (ls : Array Slot), lv_has ls 4 [(0, .ref q_o), (1, .int x1), (2, .int x2), (3, .int x3)] → P_X1_canJoin_b73 v_o_cells x1 x2 x3 post → W p l e ({ frames := 3, cells := 0, slots := 0, locals := 66 } : Room) s m args below meth c s.heap [] 0 0 Q (F0 m 73 ls []) := by
    intro ls hl h
    unfold P_X1_canJoin_b73 at h
    refine lv_iconst (v := (0 : Int32)) hx hb dX1_canJoin_73 (by decide) ?_
    exact B74 _ (0 : Int32) (lv_sub hl [0, 1, 2, 3] rfl) h
  unfold P_X1_canJoin at h
  refine lv_aload_n hx hb dX1_canJoin_0 rfl (lv_at hl 0 rfl) ?_
  refine lv_iload_n hx hb dX1_canJoin_1 rfl (lv_at hl 1 rfl) ?_
  refine gVR (As := [.int x1]) (rest := []) ⟨hx, hb, hml, hown, htb⟩ hK hP hN [0, 1] rfl (c_X1_isTown l D Cs q_o q_o_cells v_o_cells x1 h) (cwV 1 htb (TB_v tb_140 tb_141 tb_142 tb_14 (TB_self tb_143)) rfl rfl rfl z_X1_isTown ⟨Nat.le_of_ble_eq_true rfl, Nat.le_of_ble_eq_true rfl⟩) 0 rfl rfl rfl rfl hl.1 rfl (Nat.le_of_ble_eq_true rfl) ⟨Nat.le_of_ble_eq_true rfl, Nat.le_of_ble_eq_true rfl⟩ dX1_canJoin_2 (fun r_1 h => ?_)
  refine lv_if_eq (tgt := 28) hx hb dX1_canJoin_5 (by decide) (fun c_2 => ?_) (fun c_2 => ?_)
  · have h := h.1 c_2
    exact B28 _ (lv_sub hl [0, 1, 2, 3] rfl) h
  · have h := h.2 c_2
    refine lv_aload_n hx hb dX1_canJoin_8 rfl (lv_at hl 0 rfl) ?_
    refine lv_iload_n hx hb dX1_canJoin_9 rfl (lv_at hl 2 rfl) ?_
    refine gVR (As := [.int x2]) (rest := []) ⟨hx, hb, hml, hown, htb⟩ hK hP hN [0, 1] rfl (c_X1_isTown l D Cs q_o q_o_cells v_o_cells x2 h) (cwV 1 htb (TB_v tb_140 tb_141 tb_142 tb_14 (TB_self tb_143)) rfl rfl rfl z_X1_isTown ⟨Nat.le_of_ble_eq_true rfl, Nat.le_of_ble_eq_true rfl⟩) 0 rfl rfl rfl rfl hl.1 rfl (Nat.le_of_ble_eq_true rfl) ⟨Nat.le_of_ble_eq_true rfl, Nat.le_of_ble_eq_true rfl⟩ dX1_canJoin_10 (fun r_3 h => ?_)
    refine lv_if_eq (tgt := 28) hx hb dX1_canJoin_13 (by decide) (fun c_4 => ?_) (fun c_4 => ?_)
    · have h := h.1 c_4
      exact B28 _ (lv_sub hl [0, 1, 2, 3] rfl) h
    · have h := h.2 c_4
      refine lv_iload_n hx hb dX1_canJoin_16 rfl (lv_at hl 1 rfl) ?_
      refine lv_iload_n hx hb dX1_canJoin_17 rfl (lv_at hl 2 rfl) ?_
      refine lv_icmp_eq (tgt := 28) hx hb dX1_canJoin_18 (by decide) (fun c_5 => ?_) (fun c_5 => ?_)
      · have h := h.1 c_5
        exact B28 _ (lv_sub hl [0, 1, 2, 3] rfl) h
      · have h := h.2 c_5
        refine lv_iload_n hx hb dX1_canJoin_21 rfl (lv_at hl 3 rfl) ?_
        refine gNR (As := [.int x3]) (rest := []) ⟨hx, hb, hml, hown, htb⟩ hK hP hN [] rfl (c_X5_isLength l D Cs x3 h) (va_cnB 1 htb (TB_self tb_305) rfl rfl rfl (hN (.methodLinkNest RX1 53 yX5_isLength RX5) (List.mem_of_getElem? (i := 1) rfl)) (htb _ tb_2) z_X5_isLength.2 ⟨Nat.le_of_ble_eq_true rfl, Nat.le_of_ble_eq_true rfl⟩) (htb _ tb_304) rfl hl.1 rfl (Nat.le_of_ble_eq_true rfl) ⟨Nat.le_of_ble_eq_true rfl, Nat.le_of_ble_eq_true rfl⟩ dX1_canJoin_22 (fun r_6 h => ?_)
        refine lv_if_ne (tgt := 30) hx hb dX1_canJoin_25 (by decide) (fun c_7 => ?_) (fun c_7 => ?_)
        · have h := h.2 c_7
          refine lv_aload_n hx hb dX1_canJoin_30 rfl (lv_at hl 0 rfl) ?_
          refine lv_iload_n hx hb dX1_canJoin_31 rfl (lv_at hl 1 rfl) ?_
          refine lv_iload_n hx hb dX1_canJoin_32 rfl (lv_at hl 2 rfl) ?_
          refine gVR (As := [.int x1, .int x2]) (rest := []) ⟨hx, hb, hml, hown, htb⟩ hK hP hN [0, 1] rfl (c_X1_roadLength l D Cs q_o q_o_cells v_o_cells x1 x2 h) (cwV 2 htb (TB_v tb_136 tb_137 tb_138 tb_14 (TB_self tb_139)) rfl rfl rfl z_X1_roadLength ⟨Nat.le_of_ble_eq_true rfl, Nat.le_of_ble_eq_true rfl⟩) 0 rfl rfl rfl rfl hl.1 rfl (Nat.le_of_ble_eq_true rfl) ⟨Nat.le_of_ble_eq_true rfl, Nat.le_of_ble_eq_true rfl⟩ dX1_canJoin_33 (fun r_8 h => ?_)
          refine lv_iconst (v := (-1 : Int32)) hx hb dX1_canJoin_36 (by decide) ?_
          refine lv_icmp_eq (tgt := 42) hx hb dX1_canJoin_37 (by decide) (fun c_9 => ?_) (fun c_9 => ?_)
          · have h := h.1 c_9
            refine lv_aload_n hx hb dX1_canJoin_42 rfl (lv_at hl 0 rfl) ?_
            refine lv_iload_n hx hb dX1_canJoin_43 rfl (lv_at hl 1 rfl) ?_
            refine gVR (As := [.int x1]) (rest := []) ⟨hx, hb, hml, hown, htb⟩ hK hP hN [0, 1] rfl (c_X1_roadsAt l D Cs q_o q_o_cells v_o_cells x1 h) (cwV 1 htb (TB_v tb_310 tb_311 tb_312 tb_14 (TB_self tb_313)) rfl rfl rfl z_X1_roadsAt ⟨Nat.le_of_ble_eq_true rfl, Nat.le_of_ble_eq_true rfl⟩) 0 rfl rfl rfl rfl hl.1 rfl (Nat.le_of_ble_eq_true rfl) ⟨Nat.le_of_ble_eq_true rfl, Nat.le_of_ble_eq_true rfl⟩ dX1_canJoin_44 (fun r_10 h => ?_)
            refine lv_iconst (v := (3 : Int32)) hx hb dX1_canJoin_47 (by decide) ?_
            refine lv_icmp_ge (tgt := 73) hx hb dX1_canJoin_48 (by decide) (fun c_11 => ?_) (fun c_11 => ?_)
            · have h := h.1 c_11
              exact B73 _ (lv_sub hl [0, 1, 2, 3] rfl) h
            · have h := h.2 c_11
              refine lv_aload_n hx hb dX1_canJoin_51 rfl (lv_at hl 0 rfl) ?_
              refine lv_iload_n hx hb dX1_canJoin_52 rfl (lv_at hl 2 rfl) ?_
              refine gVR (As := [.int x2]) (rest := []) ⟨hx, hb, hml, hown, htb⟩ hK hP hN [0, 1] rfl (c_X1_roadsAt l D Cs q_o q_o_cells v_o_cells x2 h) (cwV 1 htb (TB_v tb_310 tb_311 tb_312 tb_14 (TB_self tb_313)) rfl rfl rfl z_X1_roadsAt ⟨Nat.le_of_ble_eq_true rfl, Nat.le_of_ble_eq_true rfl⟩) 0 rfl rfl rfl rfl hl.1 rfl (Nat.le_of_ble_eq_true rfl) ⟨Nat.le_of_ble_eq_true rfl, Nat.le_of_ble_eq_true rfl⟩ dX1_canJoin_53 (fun r_12 h => ?_)
              refine lv_iconst (v := (3 : Int32)) hx hb dX1_canJoin_56 (by decide) ?_
              refine lv_icmp_ge (tgt := 73) hx hb dX1_canJoin_57 (by decide) (fun c_13 => ?_) (fun c_13 => ?_)
              · have h := h.1 c_13
                exact B73 _ (lv_sub hl [0, 1, 2, 3] rfl) h
              · have h := h.2 c_13
                refine lv_aload_n hx hb dX1_canJoin_60 rfl (lv_at hl 0 rfl) ?_
                refine gVR (As := []) (rest := []) ⟨hx, hb, hml, hown, htb⟩ hK hP hN [0, 1] rfl (c_X1_roadCount l D Cs q_o q_o_cells v_o_cells h) (cwV 0 htb (TB_v tb_314 tb_133 tb_134 tb_14 (TB_self tb_135)) rfl rfl rfl z_X1_roadCount ⟨Nat.le_of_ble_eq_true rfl, Nat.le_of_ble_eq_true rfl⟩) 0 rfl rfl rfl rfl hl.1 rfl (Nat.le_of_ble_eq_true rfl) ⟨Nat.le_of_ble_eq_true rfl, Nat.le_of_ble_eq_true rfl⟩ dX1_canJoin_61 (fun r_14 h => ?_)
                refine lv_bipush (v := (15 : Int32)) hx hb dX1_canJoin_64 (by decide) ?_
                refine lv_icmp_ge (tgt := 73) hx hb dX1_canJoin_66 (by decide) (fun c_15 => ?_) (fun c_15 => ?_)
                · have h := h.1 c_15
                  exact B73 _ (lv_sub hl [0, 1, 2, 3] rfl) h
                · have h := h.2 c_15
                  refine lv_iconst (v := (1 : Int32)) hx hb dX1_canJoin_69 (by decide) ?_
                  refine lv_goto (tgt := 74) hx hb dX1_canJoin_70 (by decide) ?_
                  exact B74 _ (1 : Int32) (lv_sub hl [0, 1, 2, 3] rfl) h
          · have h := h.2 c_9
            refine lv_iconst (v := (1 : Int32)) hx hb dX1_canJoin_40 (by decide) ?_
            rw [← hQ]
            exact gRetR hx hb hr rfl h dX1_canJoin_41 hlocks
        · have h := h.1 c_7
          exact B28 _ (lv_sub hl [0, 1, 2, 3] rfl) h
set_option maxHeartbeats 4000000 in
set_option maxRecDepth 100000 in
theorem c_X1_addTown (l : Launch) (D : va_G) (Cs : Nat → ClassId) (q_o : Nat) (q_o_cells : Nat) (sz : Nat) (v_o_cells : (Nat → Int32)) {post : Int32 → (Nat → Int32) → Prop} (h : P_X1_addTown v_o_cells post) : Met l yX1_addTown wsX1_addTown ({ frames := 0, cells := 0, slots := 0, locals := 0 } : Room) (va_Pc [.ref q_o] (gM D Cs [(q_o, .inr (1, [.ref q_o_cells])), (q_o_cells, gI Cs 221 v_o_cells)] sz)) (va_Qi (fun (r : Int32) (u : (Nat → Int32)) => post r u) (gB D (va_A [(q_o, .inr (1, [.ref q_o_cells])), (q_o_cells, gI Cs 221 v_o_cells)] sz) (fun u : (Nat → Int32) => [(q_o, .inr (1, [.ref q_o_cells])), (q_o_cells, gI Cs 221 u)])) (va_A [(q_o, .inr (1, [.ref q_o_cells])), (q_o_cells, gI Cs 221 v_o_cells)] sz)) 0 0 (va_A [(q_o, .inr (1, [.ref q_o_cells])), (q_o_cells, gI Cs 221 v_o_cells)] sz) := by
  refine Met.ofW (cc := cX1_addTown) (maxL := 2) (ret := (some .int)) (by decide) rfl ?_
  intro p e s m args below meth c s₁ B hml hv
  obtain ⟨ha, hsz, hP, hK, hD0, hN⟩ := hv
  have hx := B.exec
  have hb := B.bytes
  have hr := B.returns
  have hts := atoms_spec (ws := wsX1_addTown) B.pre
  have htb : ∀ w ∈ TB, w.before args s = true := fun w h9 => hts w (List.mem_cons_of_mem _ h9)
  have hown : s.vm.findClass RX1 = some m.cls := findClass_of_methodNamed B.named
  have hlocks := B.notSynchronized
  subst hsz
  have hD := hD0.self (sz := s.heap.size)
  generalize hAe : va_A [(q_o, .inr (1, [.ref q_o_cells])), (q_o_cells, gI Cs 221 v_o_cells)] s.heap.size = A at hD ⊢
  have hA : ∀ q : Nat, s.heap.size ≤ q → A q := fun q h9 => by rw [← hAe]; exact Or.inr h9
  obtain ⟨H, hH⟩ : ∃ z : Heap, z = s.heap := ⟨_, rfl⟩
  have hS : va_S A s.heap H [] := by rw [hH]; exact va_S.rf
  have hP : va_P D vwCl [(q_o, .inr (1, [.ref q_o_cells])), (q_o_cells, gI Cs 221 v_o_cells)] H := by rw [hH]; exact hP
  generalize hQ : MQ below _ args s _ _ _ = Q
  show W p l e ({ frames := 0, cells := 0, slots := 0, locals := 0 } : Room) s m args below meth c s.heap [] 0 0 Q (entryFrame m args 2)
  have hent : entryFrame m args 2 = F0 m 0 ((lg_sl ([.ref q_o]) ++ List.replicate (2 - (lg_sl ([.ref q_o])).length) Slot.unset).toArray) [] := by rw [ha]; exact lg_entry_eq m ([.ref q_o]) 2
  rw [hent]; clear hent
  rw [← hH]
  have hl := lv_entry ([.ref q_o]) (n := 2) (Nat.le_of_ble_eq_true rfl)
  generalize (lg_sl ([.ref q_o]) ++ List.replicate (2 - (lg_sl ([.ref q_o])).length) Slot.unset).toArray = ls at hl ⊢
  have hl : lv_has ls 2 [(0, .ref q_o)] := hl
  unfold P_X1_addTown at h
  refine lv_aload_n hx hb dX1_addTown_0 rfl (lv_at hl 0 rfl) ?_
  refine va_get (D := D) (ci := 1) (v := .ref q_o_cells) (C := RX1) (T := TX1) (N := 1) hx hb htb inT_X1 hown hK hP 0 rfl rfl 0 (by decide) (htb _ tb_41) (fun _ h9 => h9) rfl dX1_addTown_1 ?_
  refine lv_iconst (v := (0 : Int32)) hx hb dX1_addTown_4 (by decide) ?_
  refine va_iald hx hb hK hP 1 0 rfl rfl (by unfold vp_in; decide) dX1_addTown_5 ?_
  refine lv_topi (fun x1_1 ex1_1 => ?_)
  have h := h _ ex1_1
  refine lv_istore_n (lv' := [(1, .int x1_1), (0, .ref q_o)]) hx hb dX1_addTown_6 rfl hl (by decide) rfl (fun ls hl => ?_)
  refine lv_iload_n hx hb dX1_addTown_7 rfl (lv_at hl 0 rfl) ?_
  refine lv_bipush (v := (10 : Int32)) hx hb dX1_addTown_8 (by decide) ?_
  refine lv_icmp_lt (tgt := 15) hx hb dX1_addTown_10 (by decide) (fun c_2 => ?_) (fun c_2 => ?_)
  · have h := h.1 c_2
    refine lv_aload_n hx hb dX1_addTown_15 rfl (lv_at hl 1 rfl) ?_
    refine va_get (D := D) (ci := 1) (v := .ref q_o_cells) (C := RX1) (T := TX1) (N := 1) hx hb htb inT_X1 hown hK hP 0 rfl rfl 0 (by decide) (htb _ tb_41) (fun _ h9 => h9) rfl dX1_addTown_16 ?_
    refine lv_iconst (v := (0 : Int32)) hx hb dX1_addTown_19 (by decide) ?_
    refine lv_iload_n hx hb dX1_addTown_20 rfl (lv_at hl 0 rfl) ?_
    refine lv_iconst (v := (1 : Int32)) hx hb dX1_addTown_21 (by decide) ?_
    refine lv_iadd hx hb dX1_addTown_22 ?_
    refine va_iast hx hb hK hP hD hS 1 0 rfl rfl (by unfold vp_in; decide) dX1_addTown_23 (fun H locs hP hD hS => ?_)
    have hP : va_P D vwCl [(q_o, .inr (1, [.ref q_o_cells])), (q_o_cells, gI Cs 221 (upd v_o_cells (0 : Int32).toNatClampNeg (x1_1 + (1 : Int32))))] H := hP
    have hD : va_D A [(q_o, .inr (1, [.ref q_o_cells])), (q_o_cells, gI Cs 221 (upd v_o_cells (0 : Int32).toNatClampNeg (x1_1 + (1 : Int32))))] := hD
    refine lv_iload_n hx hb dX1_addTown_24 rfl (lv_at hl 0 rfl) ?_
    rw [← hQ]
    exact gRetI (u := (upd v_o_cells (0 : Int32).toNatClampNeg (x1_1 + (1 : Int32)))) hx hb hr rfl h hP hD hS dX1_addTown_25 hlocks
  · have h := h.2 c_2
    refine lv_iconst (v := (-1 : Int32)) hx hb dX1_addTown_13 (by decide) ?_
    rw [← hQ]
    exact gRetI (u := v_o_cells) hx hb hr rfl h hP hD hS dX1_addTown_14 hlocks
set_option maxHeartbeats 4000000 in
set_option maxRecDepth 100000 in
theorem c_X1_setRoad (l : Launch) (D : va_G) (Cs : Nat → ClassId) (q_o : Nat) (q_o_cells : Nat) (sz : Nat) (v_o_cells : (Nat → Int32)) (x1 : Int32) (x2 : Int32) (x3 : Int32) {post : (Nat → Int32) → Prop} (h : P_X1_setRoad v_o_cells x1 x2 x3 post) : Met l yX1_setRoad wsX1_setRoad ({ frames := 1, cells := 0, slots := 0, locals := 21 } : Room) (va_Pc [.ref q_o, .int x1, .int x2, .int x3] (gM D Cs [(q_o, .inr (1, [.ref q_o_cells])), (q_o_cells, gI Cs 221 v_o_cells)] sz)) (va_Qv (fun (u : (Nat → Int32)) => post u) (gB D (va_A [(q_o, .inr (1, [.ref q_o_cells])), (q_o_cells, gI Cs 221 v_o_cells)] sz) (fun u : (Nat → Int32) => [(q_o, .inr (1, [.ref q_o_cells])), (q_o_cells, gI Cs 221 u)])) (va_A [(q_o, .inr (1, [.ref q_o_cells])), (q_o_cells, gI Cs 221 v_o_cells)] sz)) 0 0 (va_A [(q_o, .inr (1, [.ref q_o_cells])), (q_o_cells, gI Cs 221 v_o_cells)] sz) := by
  refine Met.ofW (cc := cX1_setRoad) (maxL := 4) (ret := none) (by decide) rfl ?_
  intro p e s m args below meth c s₁ B hml hv
  obtain ⟨ha, hsz, hP, hK, hD0, hN⟩ := hv
  have hx := B.exec
  have hb := B.bytes
  have hr := B.returns
  have hts := atoms_spec (ws := wsX1_setRoad) B.pre
  have htb : ∀ w ∈ TB, w.before args s = true := fun w h9 => hts w (List.mem_cons_of_mem _ h9)
  have hown : s.vm.findClass RX1 = some m.cls := findClass_of_methodNamed B.named
  have hlocks := B.notSynchronized
  subst hsz
  have hD := hD0.self (sz := s.heap.size)
  generalize hAe : va_A [(q_o, .inr (1, [.ref q_o_cells])), (q_o_cells, gI Cs 221 v_o_cells)] s.heap.size = A at hD ⊢
  have hA : ∀ q : Nat, s.heap.size ≤ q → A q := fun q h9 => by rw [← hAe]; exact Or.inr h9
  obtain ⟨H, hH⟩ : ∃ z : Heap, z = s.heap := ⟨_, rfl⟩
  have hS : va_S A s.heap H [] := by rw [hH]; exact va_S.rf
  have hP : va_P D vwCl [(q_o, .inr (1, [.ref q_o_cells])), (q_o_cells, gI Cs 221 v_o_cells)] H := by rw [hH]; exact hP
  generalize hQ : MQ below _ args s _ _ _ = Q
  show W p l e ({ frames := 1, cells := 0, slots := 0, locals := 21 } : Room) s m args below meth c s.heap [] 0 0 Q (entryFrame m args 4)
  have hent : entryFrame m args 4 = F0 m 0 ((lg_sl ([.ref q_o, .int x1, .int x2, .int x3]) ++ List.replicate (4 - (lg_sl ([.ref q_o, .int x1, .int x2, .int x3])).length) Slot.unset).toArray) [] := by rw [ha]; exact lg_entry_eq m ([.ref q_o, .int x1, .int x2, .int x3]) 4
  rw [hent]; clear hent
  rw [← hH]
  have hl := lv_entry ([.ref q_o, .int x1, .int x2, .int x3]) (n := 4) (Nat.le_of_ble_eq_true rfl)
  generalize (lg_sl ([.ref q_o, .int x1, .int x2, .int x3]) ++ List.replicate (4 - (lg_sl ([.ref q_o, .int x1, .int x2, .int x3])).length) Slot.unset).toArray = ls at hl ⊢
  have hl : lv_has ls 4 [(0, .ref q_o), (1, .int x1), (2, .int x2), (3, .int x3)] := hl
  have B44 : ∀ (H : Heap) (locs : List Loc) (ls : Array Slot) (w_o_cells : (Nat → Int32)), va_P D vwCl [(q_o, .inr (1, [.ref q_o_cells])), (q_o_cells, gI Cs 221 w_o_cells)] H → va_D A [(q_o, .inr (1, [.ref q_o_cells])), (q_o_cells, gI Cs 221 w_o_cells)] → va_S A s.heap H locs → lv_has ls 4 [(0, .ref q_o), (1, .int x1), (2, .int x2), (3, .int x3)] → P_X1_setRoad_b44 v_o_cells x1 x2 x3 post w_o_cells → W p l e ({ frames := 1, cells := 0, slots := 0, locals := 21 } : Room) s m args below meth c H locs 0 0 Q (F0 m 44 ls []) := by
    intro H locs ls w_o_cells hP hD hS hl h
    unfold P_X1_setRoad_b44 at h
    rw [← hQ]
    exact gRetV (u := w_o_cells) hx hb hr h hP hD hS dX1_setRoad_44 hlocks
  unfold P_X1_setRoad at h
  refine lv_aload_n hx hb dX1_setRoad_0 rfl (lv_at hl 0 rfl) ?_
  refine lv_iload_n hx hb dX1_setRoad_1 rfl (lv_at hl 1 rfl) ?_
  refine gVR (As := [.int x1]) (rest := []) ⟨hx, hb, hml, hown, htb⟩ hK hP hN [0, 1] rfl (c_X1_isTown l D Cs q_o q_o_cells v_o_cells x1 h) (cwV 1 htb (TB_v tb_140 tb_141 tb_142 tb_14 (TB_self tb_143)) rfl rfl rfl z_X1_isTown ⟨Nat.le_of_ble_eq_true rfl, Nat.le_of_ble_eq_true rfl⟩) 0 rfl rfl rfl rfl hl.1 rfl (Nat.le_of_ble_eq_true rfl) ⟨Nat.le_of_ble_eq_true rfl, Nat.le_of_ble_eq_true rfl⟩ dX1_setRoad_2 (fun r_1 h => ?_)
  refine lv_if_eq (tgt := 44) hx hb dX1_setRoad_5 (by decide) (fun c_2 => ?_) (fun c_2 => ?_)
  · have h := h.1 c_2
    exact B44 _ _ _ v_o_cells hP hD hS (lv_sub hl [0, 1, 2, 3] rfl) h
  · have h := h.2 c_2
    refine lv_aload_n hx hb dX1_setRoad_8 rfl (lv_at hl 0 rfl) ?_
    refine lv_iload_n hx hb dX1_setRoad_9 rfl (lv_at hl 2 rfl) ?_
    refine gVR (As := [.int x2]) (rest := []) ⟨hx, hb, hml, hown, htb⟩ hK hP hN [0, 1] rfl (c_X1_isTown l D Cs q_o q_o_cells v_o_cells x2 h) (cwV 1 htb (TB_v tb_140 tb_141 tb_142 tb_14 (TB_self tb_143)) rfl rfl rfl z_X1_isTown ⟨Nat.le_of_ble_eq_true rfl, Nat.le_of_ble_eq_true rfl⟩) 0 rfl rfl rfl rfl hl.1 rfl (Nat.le_of_ble_eq_true rfl) ⟨Nat.le_of_ble_eq_true rfl, Nat.le_of_ble_eq_true rfl⟩ dX1_setRoad_10 (fun r_3 h => ?_)
    refine lv_if_eq (tgt := 44) hx hb dX1_setRoad_13 (by decide) (fun c_4 => ?_) (fun c_4 => ?_)
    · have h := h.1 c_4
      exact B44 _ _ _ v_o_cells hP hD hS (lv_sub hl [0, 1, 2, 3] rfl) h
    · have h := h.2 c_4
      refine lv_aload_n hx hb dX1_setRoad_16 rfl (lv_at hl 0 rfl) ?_
      refine va_get (D := D) (ci := 1) (v := .ref q_o_cells) (C := RX1) (T := TX1) (N := 1) hx hb htb inT_X1 hown hK hP 0 rfl rfl 0 (by decide) (htb _ tb_41) (fun _ h9 => h9) rfl dX1_setRoad_17 ?_
      refine lv_iconst (v := (1 : Int32)) hx hb dX1_setRoad_20 (by decide) ?_
      refine lv_iload_n hx hb dX1_setRoad_21 rfl (lv_at hl 1 rfl) ?_
      refine lv_bipush (v := (10 : Int32)) hx hb dX1_setRoad_22 (by decide) ?_
      refine lv_imul hx hb dX1_setRoad_24 ?_
      refine lv_iadd hx hb dX1_setRoad_25 ?_
      refine lv_iload_n hx hb dX1_setRoad_26 rfl (lv_at hl 2 rfl) ?_
      refine lv_iadd hx hb dX1_setRoad_27 ?_
      refine lv_iload_n hx hb dX1_setRoad_28 rfl (lv_at hl 3 rfl) ?_
      obtain ⟨hi_5, h⟩ := h
      refine va_iast hx hb hK hP hD hS 1 0 rfl rfl hi_5 dX1_setRoad_29 (fun H locs hP hD hS => ?_)
      have hP : va_P D vwCl [(q_o, .inr (1, [.ref q_o_cells])), (q_o_cells, gI Cs 221 (upd v_o_cells (((1 : Int32) + (x1 * (10 : Int32))) + x2).toNatClampNeg x3))] H := hP
      have hD : va_D A [(q_o, .inr (1, [.ref q_o_cells])), (q_o_cells, gI Cs 221 (upd v_o_cells (((1 : Int32) + (x1 * (10 : Int32))) + x2).toNatClampNeg x3))] := hD
      refine lv_aload_n hx hb dX1_setRoad_30 rfl (lv_at hl 0 rfl) ?_
      refine va_get (D := D) (ci := 1) (v := .ref q_o_cells) (C := RX1) (T := TX1) (N := 1) hx hb htb inT_X1 hown hK hP 0 rfl rfl 0 (by decide) (htb _ tb_41) (fun _ h9 => h9) rfl dX1_setRoad_31 ?_
      refine lv_iconst (v := (1 : Int32)) hx hb dX1_setRoad_34 (by decide) ?_
      refine lv_iload_n hx hb dX1_setRoad_35 rfl (lv_at hl 2 rfl) ?_
      refine lv_bipush (v := (10 : Int32)) hx hb dX1_setRoad_36 (by decide) ?_
      refine lv_imul hx hb dX1_setRoad_38 ?_
      refine lv_iadd hx hb dX1_setRoad_39 ?_
      refine lv_iload_n hx hb dX1_setRoad_40 rfl (lv_at hl 1 rfl) ?_
      refine lv_iadd hx hb dX1_setRoad_41 ?_
      refine lv_iload_n hx hb dX1_setRoad_42 rfl (lv_at hl 3 rfl) ?_
      obtain ⟨hi_6, h⟩ := h
      refine va_iast hx hb hK hP hD hS 1 0 rfl rfl hi_6 dX1_setRoad_43 (fun H locs hP hD hS => ?_)
      have hP : va_P D vwCl [(q_o, .inr (1, [.ref q_o_cells])), (q_o_cells, gI Cs 221 (upd (upd v_o_cells (((1 : Int32) + (x1 * (10 : Int32))) + x2).toNatClampNeg x3) (((1 : Int32) + (x2 * (10 : Int32))) + x1).toNatClampNeg x3))] H := hP
      have hD : va_D A [(q_o, .inr (1, [.ref q_o_cells])), (q_o_cells, gI Cs 221 (upd (upd v_o_cells (((1 : Int32) + (x1 * (10 : Int32))) + x2).toNatClampNeg x3) (((1 : Int32) + (x2 * (10 : Int32))) + x1).toNatClampNeg x3))] := hD
      exact B44 _ _ _ (upd (upd v_o_cells (((1 : Int32) + (x1 * (10 : Int32))) + x2).toNatClampNeg x3) (((1 : Int32) + (x2 * (10 : Int32))) + x1).toNatClampNeg x3) hP hD hS (lv_sub hl [0, 1, 2, 3] rfl) h
set_option maxHeartbeats 4000000 in
set_option maxRecDepth 100000 in
theorem c_X1_join (l : Launch) (D : va_G) (Cs : Nat → ClassId) (q_o : Nat) (q_o_cells : Nat) (sz : Nat) (v_o_cells : (Nat → Int32)) (x1 : Int32) (x2 : Int32) (x3 : Int32) {post : Int32 → (Nat → Int32) → Prop} (h : P_X1_join v_o_cells x1 x2 x3 post) : Met l yX1_join wsX1_join ({ frames := 4, cells := 0, slots := 0, locals := 89 } : Room) (va_Pc [.ref q_o, .int x1, .int x2, .int x3] (gM D Cs [(q_o, .inr (1, [.ref q_o_cells])), (q_o_cells, gI Cs 221 v_o_cells)] sz)) (va_Qi (fun (r : Int32) (u : (Nat → Int32)) => post r u) (gB D (va_A [(q_o, .inr (1, [.ref q_o_cells])), (q_o_cells, gI Cs 221 v_o_cells)] sz) (fun u : (Nat → Int32) => [(q_o, .inr (1, [.ref q_o_cells])), (q_o_cells, gI Cs 221 u)])) (va_A [(q_o, .inr (1, [.ref q_o_cells])), (q_o_cells, gI Cs 221 v_o_cells)] sz)) 0 0 (va_A [(q_o, .inr (1, [.ref q_o_cells])), (q_o_cells, gI Cs 221 v_o_cells)] sz) := by
  refine Met.ofW (cc := cX1_join) (maxL := 4) (ret := (some .boolean)) (by decide) rfl ?_
  intro p e s m args below meth c s₁ B hml hv
  obtain ⟨ha, hsz, hP, hK, hD0, hN⟩ := hv
  have hx := B.exec
  have hb := B.bytes
  have hr := B.returns
  have hts := atoms_spec (ws := wsX1_join) B.pre
  have htb : ∀ w ∈ TB, w.before args s = true := fun w h9 => hts w (List.mem_cons_of_mem _ h9)
  have hown : s.vm.findClass RX1 = some m.cls := findClass_of_methodNamed B.named
  have hlocks := B.notSynchronized
  subst hsz
  have hD := hD0.self (sz := s.heap.size)
  generalize hAe : va_A [(q_o, .inr (1, [.ref q_o_cells])), (q_o_cells, gI Cs 221 v_o_cells)] s.heap.size = A at hD ⊢
  have hA : ∀ q : Nat, s.heap.size ≤ q → A q := fun q h9 => by rw [← hAe]; exact Or.inr h9
  obtain ⟨H, hH⟩ : ∃ z : Heap, z = s.heap := ⟨_, rfl⟩
  have hS : va_S A s.heap H [] := by rw [hH]; exact va_S.rf
  have hP : va_P D vwCl [(q_o, .inr (1, [.ref q_o_cells])), (q_o_cells, gI Cs 221 v_o_cells)] H := by rw [hH]; exact hP
  generalize hQ : MQ below _ args s _ _ _ = Q
  show W p l e ({ frames := 4, cells := 0, slots := 0, locals := 89 } : Room) s m args below meth c s.heap [] 0 0 Q (entryFrame m args 4)
  have hent : entryFrame m args 4 = F0 m 0 ((lg_sl ([.ref q_o, .int x1, .int x2, .int x3]) ++ List.replicate (4 - (lg_sl ([.ref q_o, .int x1, .int x2, .int x3])).length) Slot.unset).toArray) [] := by rw [ha]; exact lg_entry_eq m ([.ref q_o, .int x1, .int x2, .int x3]) 4
  rw [hent]; clear hent
  rw [← hH]
  have hl := lv_entry ([.ref q_o, .int x1, .int x2, .int x3]) (n := 4) (Nat.le_of_ble_eq_true rfl)
  generalize (lg_sl ([.ref q_o, .int x1, .int x2, .int x3]) ++ List.replicate (4 - (lg_sl ([.ref q_o, .int x1, .int x2, .int x3])).length) Slot.unset).toArray = ls at hl ⊢
  have hl : lv_has ls 4 [(0, .ref q_o), (1, .int x1), (2, .int x2), (3, .int x3)] := hl
  unfold P_X1_join at h
  refine lv_aload_n hx hb dX1_join_0 rfl (lv_at hl 0 rfl) ?_
  refine lv_iload_n hx hb dX1_join_1 rfl (lv_at hl 1 rfl) ?_
  refine lv_iload_n hx hb dX1_join_2 rfl (lv_at hl 2 rfl) ?_
  refine lv_iload_n hx hb dX1_join_3 rfl (lv_at hl 3 rfl) ?_
  refine gVR (As := [.int x1, .int x2, .int x3]) (rest := []) ⟨hx, hb, hml, hown, htb⟩ hK hP hN [0, 1] rfl (c_X1_canJoin l D Cs q_o q_o_cells v_o_cells x1 x2 x3 h) (cwV 3 htb (TB_v tb_319 tb_307 tb_308 tb_14 (TB_self tb_309)) rfl rfl rfl z_X1_canJoin ⟨Nat.le_of_ble_eq_true rfl, Nat.le_of_ble_eq_true rfl⟩) 0 rfl rfl rfl rfl hl.1 rfl (Nat.le_of_ble_eq_true rfl) ⟨Nat.le_of_ble_eq_true rfl, Nat.le_of_ble_eq_true rfl⟩ dX1_join_4 (fun r_1 h => ?_)
  refine lv_if_ne (tgt := 12) hx hb dX1_join_7 (by decide) (fun c_2 => ?_) (fun c_2 => ?_)
  · have h := h.2 c_2
    refine lv_aload_n hx hb dX1_join_12 rfl (lv_at hl 0 rfl) ?_
    refine lv_iload_n hx hb dX1_join_13 rfl (lv_at hl 1 rfl) ?_
    refine lv_iload_n hx hb dX1_join_14 rfl (lv_at hl 2 rfl) ?_
    refine lv_iload_n hx hb dX1_join_15 rfl (lv_at hl 3 rfl) ?_
    refine gVMv (wr := []) (As := [.int x1, .int x2, .int x3]) (rest := []) ⟨hx, hb, hml, hown, htb⟩ hK hP hD hS hA hN [0, 1] [] rfl (by decide) rfl (by decide) (by decide) (c_X1_setRoad l D Cs q_o q_o_cells H.size v_o_cells x1 x2 x3 h) (cwV 3 htb (TB_v tb_320 tb_321 tb_322 tb_14 (TB_self tb_323)) rfl rfl rfl z_X1_setRoad ⟨Nat.le_of_ble_eq_true rfl, Nat.le_of_ble_eq_true rfl⟩) 0 rfl rfl rfl rfl hl.1 rfl (Nat.le_of_ble_eq_true rfl) ⟨Nat.le_of_ble_eq_true rfl, Nat.le_of_ble_eq_true rfl⟩ dX1_join_16 (fun m_4 H locs h hP hD hS => ?_)
    have hP : va_P D vwCl [(q_o, .inr (1, [.ref q_o_cells])), (q_o_cells, gI Cs 221 m_4)] H := hP
    have hD : va_D A [(q_o, .inr (1, [.ref q_o_cells])), (q_o_cells, gI Cs 221 m_4)] := hD
    refine lv_iconst (v := (1 : Int32)) hx hb dX1_join_19 (by decide) ?_
    rw [← hQ]
    exact gRetI (u := m_4) hx hb hr rfl h hP hD hS dX1_join_20 hlocks
  · have h := h.1 c_2
    refine lv_iconst (v := (0 : Int32)) hx hb dX1_join_10 (by decide) ?_
    rw [← hQ]
    exact gRetI (u := v_o_cells) hx hb hr rfl h hP hD hS dX1_join_11 hlocks
set_option maxHeartbeats 4000000 in
set_option maxRecDepth 100000 in
theorem c_X1_cut (l : Launch) (D : va_G) (Cs : Nat → ClassId) (q_o : Nat) (q_o_cells : Nat) (sz : Nat) (v_o_cells : (Nat → Int32)) (x1 : Int32) (x2 : Int32) {post : Int32 → (Nat → Int32) → Prop} (h : P_X1_cut v_o_cells x1 x2 post) : Met l yX1_cut wsX1_cut ({ frames := 2, cells := 0, slots := 0, locals := 44 } : Room) (va_Pc [.ref q_o, .int x1, .int x2] (gM D Cs [(q_o, .inr (1, [.ref q_o_cells])), (q_o_cells, gI Cs 221 v_o_cells)] sz)) (va_Qi (fun (r : Int32) (u : (Nat → Int32)) => post r u) (gB D (va_A [(q_o, .inr (1, [.ref q_o_cells])), (q_o_cells, gI Cs 221 v_o_cells)] sz) (fun u : (Nat → Int32) => [(q_o, .inr (1, [.ref q_o_cells])), (q_o_cells, gI Cs 221 u)])) (va_A [(q_o, .inr (1, [.ref q_o_cells])), (q_o_cells, gI Cs 221 v_o_cells)] sz)) 0 0 (va_A [(q_o, .inr (1, [.ref q_o_cells])), (q_o_cells, gI Cs 221 v_o_cells)] sz) := by
  refine Met.ofW (cc := cX1_cut) (maxL := 4) (ret := (some .int)) (by decide) rfl ?_
  intro p e s m args below meth c s₁ B hml hv
  obtain ⟨ha, hsz, hP, hK, hD0, hN⟩ := hv
  have hx := B.exec
  have hb := B.bytes
  have hr := B.returns
  have hts := atoms_spec (ws := wsX1_cut) B.pre
  have htb : ∀ w ∈ TB, w.before args s = true := fun w h9 => hts w (List.mem_cons_of_mem _ h9)
  have hown : s.vm.findClass RX1 = some m.cls := findClass_of_methodNamed B.named
  have hlocks := B.notSynchronized
  subst hsz
  have hD := hD0.self (sz := s.heap.size)
  generalize hAe : va_A [(q_o, .inr (1, [.ref q_o_cells])), (q_o_cells, gI Cs 221 v_o_cells)] s.heap.size = A at hD ⊢
  have hA : ∀ q : Nat, s.heap.size ≤ q → A q := fun q h9 => by rw [← hAe]; exact Or.inr h9
  obtain ⟨H, hH⟩ : ∃ z : Heap, z = s.heap := ⟨_, rfl⟩
  have hS : va_S A s.heap H [] := by rw [hH]; exact va_S.rf
  have hP : va_P D vwCl [(q_o, .inr (1, [.ref q_o_cells])), (q_o_cells, gI Cs 221 v_o_cells)] H := by rw [hH]; exact hP
  generalize hQ : MQ below _ args s _ _ _ = Q
  show W p l e ({ frames := 2, cells := 0, slots := 0, locals := 44 } : Room) s m args below meth c s.heap [] 0 0 Q (entryFrame m args 4)
  have hent : entryFrame m args 4 = F0 m 0 ((lg_sl ([.ref q_o, .int x1, .int x2]) ++ List.replicate (4 - (lg_sl ([.ref q_o, .int x1, .int x2])).length) Slot.unset).toArray) [] := by rw [ha]; exact lg_entry_eq m ([.ref q_o, .int x1, .int x2]) 4
  rw [hent]; clear hent
  rw [← hH]
  have hl := lv_entry ([.ref q_o, .int x1, .int x2]) (n := 4) (Nat.le_of_ble_eq_true rfl)
  generalize (lg_sl ([.ref q_o, .int x1, .int x2]) ++ List.replicate (4 - (lg_sl ([.ref q_o, .int x1, .int x2])).length) Slot.unset).toArray = ls at hl ⊢
  have hl : lv_has ls 4 [(0, .ref q_o), (1, .int x1), (2, .int x2)] := hl
  have B19 : ∀ (H : Heap) (locs : List Loc) (ls : Array Slot) (w_o_cells : (Nat → Int32)) (x3 : Int32), va_P D vwCl [(q_o, .inr (1, [.ref q_o_cells])), (q_o_cells, gI Cs 221 w_o_cells)] H → va_D A [(q_o, .inr (1, [.ref q_o_cells])), (q_o_cells, gI Cs 221 w_o_cells)] → va_S A s.heap H locs → lv_has ls 4 [(0, .ref q_o), (1, .int x1), (2, .int x2), (3, .int x3)] → P_X1_cut_b19 v_o_cells x1 x2 post w_o_cells x3 → W p l e ({ frames := 2, cells := 0, slots := 0, locals := 44 } : Room) s m args below meth c H locs 0 0 Q (F0 m 19 ls []) := by
    intro H locs ls w_o_cells x3 hP hD hS hl h
    unfold P_X1_cut_b19 at h
    refine lv_iload_n hx hb dX1_cut_19 rfl (lv_at hl 3 rfl) ?_
    rw [← hQ]
    exact gRetI (u := w_o_cells) hx hb hr rfl h hP hD hS dX1_cut_20 hlocks
  unfold P_X1_cut at h
  refine lv_aload_n hx hb dX1_cut_0 rfl (lv_at hl 0 rfl) ?_
  refine lv_iload_n hx hb dX1_cut_1 rfl (lv_at hl 1 rfl) ?_
  refine lv_iload_n hx hb dX1_cut_2 rfl (lv_at hl 2 rfl) ?_
  refine gVR (As := [.int x1, .int x2]) (rest := []) ⟨hx, hb, hml, hown, htb⟩ hK hP hN [0, 1] rfl (c_X1_roadLength l D Cs q_o q_o_cells v_o_cells x1 x2 h) (cwV 2 htb (TB_v tb_136 tb_137 tb_138 tb_14 (TB_self tb_139)) rfl rfl rfl z_X1_roadLength ⟨Nat.le_of_ble_eq_true rfl, Nat.le_of_ble_eq_true rfl⟩) 0 rfl rfl rfl rfl hl.1 rfl (Nat.le_of_ble_eq_true rfl) ⟨Nat.le_of_ble_eq_true rfl, Nat.le_of_ble_eq_true rfl⟩ dX1_cut_3 (fun r_1 h => ?_)
  refine lv_istore_n (lv' := [(3, .int r_1), (0, .ref q_o), (1, .int x1), (2, .int x2)]) hx hb dX1_cut_6 rfl hl (by decide) rfl (fun ls hl => ?_)
  refine lv_iload_n hx hb dX1_cut_7 rfl (lv_at hl 0 rfl) ?_
  refine lv_iconst (v := (-1 : Int32)) hx hb dX1_cut_8 (by decide) ?_
  refine lv_icmp_eq (tgt := 19) hx hb dX1_cut_9 (by decide) (fun c_2 => ?_) (fun c_2 => ?_)
  · have h := h.1 c_2
    exact B19 _ _ _ v_o_cells r_1 hP hD hS (lv_sub hl [1, 2, 3, 0] rfl) h
  · have h := h.2 c_2
    refine lv_aload_n hx hb dX1_cut_12 rfl (lv_at hl 1 rfl) ?_
    refine lv_iload_n hx hb dX1_cut_13 rfl (lv_at hl 2 rfl) ?_
    refine lv_iload_n hx hb dX1_cut_14 rfl (lv_at hl 3 rfl) ?_
    refine lv_iconst (v := (-1 : Int32)) hx hb dX1_cut_15 (by decide) ?_
    refine gVMv (wr := []) (As := [.int x1, .int x2, .int (-1 : Int32)]) (rest := []) ⟨hx, hb, hml, hown, htb⟩ hK hP hD hS hA hN [0, 1] [] rfl (by decide) rfl (by decide) (by decide) (c_X1_setRoad l D Cs q_o q_o_cells H.size v_o_cells x1 x2 (-1 : Int32) h) (cwV 3 htb (TB_v tb_320 tb_321 tb_322 tb_14 (TB_self tb_323)) rfl rfl rfl z_X1_setRoad ⟨Nat.le_of_ble_eq_true rfl, Nat.le_of_ble_eq_true rfl⟩) 0 rfl rfl rfl rfl hl.1 rfl (Nat.le_of_ble_eq_true rfl) ⟨Nat.le_of_ble_eq_true rfl, Nat.le_of_ble_eq_true rfl⟩ dX1_cut_16 (fun m_4 H locs h hP hD hS => ?_)
    have hP : va_P D vwCl [(q_o, .inr (1, [.ref q_o_cells])), (q_o_cells, gI Cs 221 m_4)] H := hP
    have hD : va_D A [(q_o, .inr (1, [.ref q_o_cells])), (q_o_cells, gI Cs 221 m_4)] := hD
    exact B19 _ _ _ m_4 r_1 hP hD hS (lv_sub hl [1, 2, 3, 0] rfl) h
set_option maxHeartbeats 4000000 in
set_option maxRecDepth 100000 in
theorem c_X5_isYear (l : Launch) (D : va_G) (Cs : Nat → ClassId) (x0 : Int32) {post : Int32 → Prop} (h : P_X5_isYear x0 post) : Met l yX5_isYear wsX5_isYear ({ frames := 0, cells := 0, slots := 0, locals := 0 } : Room) (va_Pc [.int x0] (gR D Cs [])) (vp_Si post) 0 0 (fun _ => False) := by
  refine Met.ofW (cc := cX5_isYear) (maxL := 1) (ret := (some .boolean)) (by decide) rfl ?_
  intro p e s m args below meth c s₁ B hml hv
  obtain ⟨ha, hP, hK, hN⟩ := hv
  have hx := B.exec
  have hb := B.bytes
  have hr := B.returns
  have hts := atoms_spec (ws := wsX5_isYear) B.pre
  have htb : ∀ w ∈ TB, w.before args s = true := fun w h9 => hts w (List.mem_cons_of_mem _ h9)
  have hown : s.vm.findClass RX5 = some m.cls := findClass_of_methodNamed B.named
  have hlocks := B.notSynchronized
  generalize hQ : MQ below _ args s _ _ _ = Q
  show W p l e ({ frames := 0, cells := 0, slots := 0, locals := 0 } : Room) s m args below meth c s.heap [] 0 0 Q (entryFrame m args 1)
  have hent : entryFrame m args 1 = F0 m 0 ((lg_sl ([.int x0]) ++ List.replicate (1 - (lg_sl ([.int x0])).length) Slot.unset).toArray) [] := by rw [ha]; exact lg_entry_eq m ([.int x0]) 1
  rw [hent]; clear hent
  have hl := lv_entry ([.int x0]) (n := 1) (Nat.le_of_ble_eq_true rfl)
  generalize (lg_sl ([.int x0]) ++ List.replicate (1 - (lg_sl ([.int x0])).length) Slot.unset).toArray = ls at hl ⊢
  have hl : lv_has ls 1 [(0, .int x0)] := hl
  have B16 : ∀ (ls : Array Slot) (s0 : Int32), lv_has ls 1 [(0, .int x0)] → P_X5_isYear_b16 x0 post s0 → W p l e ({ frames := 0, cells := 0, slots := 0, locals := 0 } : Room) s m args below meth c s.heap [] 0 0 Q (F0 m 16 ls [.int s0]) := by
    intro ls s0 hl h
    unfold P_X5_isYear_b16 at h
    obtain ⟨hnb, h⟩ := h
    rw [← hQ]
    exact gRetR hx hb hr hnb h dX5_isYear_16 hlocks
  have B15 : ∀ (ls : Array Slot), lv_has ls 1 [(0, .int x0)] → P_X5_isYear_b15 x0 post → W p l e ({ frames := 0, cells := 0, slots := 0, locals := 0 } : Room) s m args below meth c s.heap [] 0 0 Q (F0 m 15 ls []) := by
    intro ls hl h
    unfold P_X5_isYear_b15 at h
    refine lv_iconst (v := (0 : Int32)) hx hb dX5_isYear_15 (by decide) ?_
    exact B16 _ (0 : Int32) (lv_sub hl [0] rfl) h
  unfold P_X5_isYear at h
  refine lv_iload_n hx hb dX5_isYear_0 rfl (lv_at hl 0 rfl) ?_
  refine lv_if_lt (tgt := 15) hx hb dX5_isYear_1 (by decide) (fun c_1 => ?_) (fun c_1 => ?_)
  · have h := h.1 c_1
    exact B15 _ (lv_sub hl [0] rfl) h
  · have h := h.2 c_1
    refine lv_iload_n hx hb dX5_isYear_4 rfl (lv_at hl 0 rfl) ?_
    refine lv_sipush (v := (999 : Int32)) hx hb dX5_isYear_5 (by decide) ?_
    refine lv_icmp_gt (tgt := 15) hx hb dX5_isYear_8 (by decide) (fun c_2 => ?_) (fun c_2 => ?_)
    · have h := h.1 c_2
      exact B15 _ (lv_sub hl [0] rfl) h
    · have h := h.2 c_2
      refine lv_iconst (v := (1 : Int32)) hx hb dX5_isYear_11 (by decide) ?_
      refine lv_goto (tgt := 16) hx hb dX5_isYear_12 (by decide) ?_
      exact B16 _ (1 : Int32) (lv_sub hl [0] rfl) h
set_option maxHeartbeats 4000000 in
set_option maxRecDepth 100000 in
theorem c_X1_note (l : Launch) (D : va_G) (Cs : Nat → ClassId) (q_o : Nat) (q_o_cells : Nat) (sz : Nat) (v_o_cells : (Nat → Int32)) (x1 : Int32) (x2 : Int32) (x3 : Int32) (x4 : Int32) {post : Int32 → (Nat → Int32) → Prop} (h : P_X1_note v_o_cells x1 x2 x3 x4 post) : Met l yX1_note wsX1_note ({ frames := 1, cells := 0, slots := 0, locals := 21 } : Room) (va_Pc [.ref q_o, .int x1, .int x2, .int x3, .int x4] (gM D Cs [(q_o, .inr (1, [.ref q_o_cells])), (q_o_cells, gI Cs 221 v_o_cells)] sz)) (va_Qi (fun (r : Int32) (u : (Nat → Int32)) => post r u) (gB D (va_A [(q_o, .inr (1, [.ref q_o_cells])), (q_o_cells, gI Cs 221 v_o_cells)] sz) (fun u : (Nat → Int32) => [(q_o, .inr (1, [.ref q_o_cells])), (q_o_cells, gI Cs 221 u)])) (va_A [(q_o, .inr (1, [.ref q_o_cells])), (q_o_cells, gI Cs 221 v_o_cells)] sz)) 0 0 (va_A [(q_o, .inr (1, [.ref q_o_cells])), (q_o_cells, gI Cs 221 v_o_cells)] sz) := by
  refine Met.ofW (cc := cX1_note) (maxL := 8) (ret := (some .int)) (by decide) rfl ?_
  intro p e s m args below meth c s₁ B hml hv
  obtain ⟨ha, hsz, hP, hK, hD0, hN⟩ := hv
  have hx := B.exec
  have hb := B.bytes
  have hr := B.returns
  have hts := atoms_spec (ws := wsX1_note) B.pre
  have htb : ∀ w ∈ TB, w.before args s = true := fun w h9 => hts w (List.mem_cons_of_mem _ h9)
  have hown : s.vm.findClass RX1 = some m.cls := findClass_of_methodNamed B.named
  have hlocks := B.notSynchronized
  subst hsz
  have hD := hD0.self (sz := s.heap.size)
  generalize hAe : va_A [(q_o, .inr (1, [.ref q_o_cells])), (q_o_cells, gI Cs 221 v_o_cells)] s.heap.size = A at hD ⊢
  have hA : ∀ q : Nat, s.heap.size ≤ q → A q := fun q h9 => by rw [← hAe]; exact Or.inr h9
  obtain ⟨H, hH⟩ : ∃ z : Heap, z = s.heap := ⟨_, rfl⟩
  have hS : va_S A s.heap H [] := by rw [hH]; exact va_S.rf
  have hP : va_P D vwCl [(q_o, .inr (1, [.ref q_o_cells])), (q_o_cells, gI Cs 221 v_o_cells)] H := by rw [hH]; exact hP
  generalize hQ : MQ below _ args s _ _ _ = Q
  show W p l e ({ frames := 1, cells := 0, slots := 0, locals := 21 } : Room) s m args below meth c s.heap [] 0 0 Q (entryFrame m args 8)
  have hent : entryFrame m args 8 = F0 m 0 ((lg_sl ([.ref q_o, .int x1, .int x2, .int x3, .int x4]) ++ List.replicate (8 - (lg_sl ([.ref q_o, .int x1, .int x2, .int x3, .int x4])).length) Slot.unset).toArray) [] := by rw [ha]; exact lg_entry_eq m ([.ref q_o, .int x1, .int x2, .int x3, .int x4]) 8
  rw [hent]; clear hent
  rw [← hH]
  have hl := lv_entry ([.ref q_o, .int x1, .int x2, .int x3, .int x4]) (n := 8) (Nat.le_of_ble_eq_true rfl)
  generalize (lg_sl ([.ref q_o, .int x1, .int x2, .int x3, .int x4]) ++ List.replicate (8 - (lg_sl ([.ref q_o, .int x1, .int x2, .int x3, .int x4])).length) Slot.unset).toArray = ls at hl ⊢
  have hl : lv_has ls 8 [(0, .ref q_o), (1, .int x1), (2, .int x2), (3, .int x3), (4, .int x4)] := hl
  have B22 : ∀ (H : Heap) (locs : List Loc) (ls : Array Slot), va_P D vwCl [(q_o, .inr (1, [.ref q_o_cells])), (q_o_cells, gI Cs 221 v_o_cells)] H → va_D A [(q_o, .inr (1, [.ref q_o_cells])), (q_o_cells, gI Cs 221 v_o_cells)] → va_S A s.heap H locs → lv_has ls 8 [(0, .ref q_o), (1, .int x1), (2, .int x2), (3, .int x3), (4, .int x4)] → P_X1_note_b22 v_o_cells x1 x2 x3 x4 post → W p l e ({ frames := 1, cells := 0, slots := 0, locals := 21 } : Room) s m args below meth c H locs 0 0 Q (F0 m 22 ls []) := by
    intro H locs ls hP hD hS hl h
    unfold P_X1_note_b22 at h
    refine lv_iconst (v := (-1 : Int32)) hx hb dX1_note_22 (by decide) ?_
    rw [← hQ]
    exact gRetI (u := v_o_cells) hx hb hr rfl h hP hD hS dX1_note_23 hlocks
  have B111 : ∀ (H : Heap) (locs : List Loc) (ls : Array Slot) (w_o_cells : (Nat → Int32)) (s0 : Int32), va_P D vwCl [(q_o, .inr (1, [.ref q_o_cells])), (q_o_cells, gI Cs 221 w_o_cells)] H → va_D A [(q_o, .inr (1, [.ref q_o_cells])), (q_o_cells, gI Cs 221 w_o_cells)] → va_S A s.heap H locs → lv_has ls 8 [(0, .ref q_o), (1, .int x1), (2, .int x2), (3, .int x3), (4, .int x4)] → P_X1_note_b111 v_o_cells x1 x2 x3 x4 post w_o_cells s0 → W p l e ({ frames := 1, cells := 0, slots := 0, locals := 21 } : Room) s m args below meth c H locs 0 0 Q (F0 m 111 ls [.int s0]) := by
    intro H locs ls w_o_cells s0 hP hD hS hl h
    unfold P_X1_note_b111 at h
    rw [← hQ]
    exact gRetI (u := w_o_cells) hx hb hr rfl h hP hD hS dX1_note_111 hlocks
  have B101 : ∀ (H : Heap) (locs : List Loc) (ls : Array Slot) (w_o_cells : (Nat → Int32)) (x7 : Int32), va_P D vwCl [(q_o, .inr (1, [.ref q_o_cells])), (q_o_cells, gI Cs 221 w_o_cells)] H → va_D A [(q_o, .inr (1, [.ref q_o_cells])), (q_o_cells, gI Cs 221 w_o_cells)] → va_S A s.heap H locs → lv_has ls 8 [(0, .ref q_o), (1, .int x1), (2, .int x2), (3, .int x3), (4, .int x4), (7, .int x7)] → P_X1_note_b101 v_o_cells x1 x2 x3 x4 post w_o_cells x7 → W p l e ({ frames := 1, cells := 0, slots := 0, locals := 21 } : Room) s m args below meth c H locs 0 0 Q (F0 m 101 ls []) := by
    intro H locs ls w_o_cells x7 hP hD hS hl h
    unfold P_X1_note_b101 at h
    refine lv_iload hx hb dX1_note_101 (lv_at hl 5 rfl) ?_
    refine lv_if_eq (tgt := 110) hx hb dX1_note_103 (by decide) (fun c_1 => ?_) (fun c_1 => ?_)
    · have h := h.1 c_1
      refine lv_iconst (v := (0 : Int32)) hx hb dX1_note_110 (by decide) ?_
      exact B111 _ _ _ w_o_cells (0 : Int32) hP hD hS (lv_sub hl [0, 1, 2, 3, 4] rfl) h
    · have h := h.2 c_1
      refine lv_iconst (v := (1 : Int32)) hx hb dX1_note_106 (by decide) ?_
      refine lv_goto (tgt := 111) hx hb dX1_note_107 (by decide) ?_
      exact B111 _ _ _ w_o_cells (1 : Int32) hP hD hS (lv_sub hl [0, 1, 2, 3, 4] rfl) h
  have B86 : ∀ (H : Heap) (locs : List Loc) (ls : Array Slot) (x5 : Int32) (s0 : Int32), va_P D vwCl [(q_o, .inr (1, [.ref q_o_cells])), (q_o_cells, gI Cs 221 v_o_cells)] H → va_D A [(q_o, .inr (1, [.ref q_o_cells])), (q_o_cells, gI Cs 221 v_o_cells)] → va_S A s.heap H locs → lv_has ls 8 [(0, .ref q_o), (1, .int x1), (2, .int x2), (3, .int x3), (4, .int x4), (5, .int x5)] → P_X1_note_b86 v_o_cells x1 x2 x3 x4 post x5 s0 → W p l e ({ frames := 1, cells := 0, slots := 0, locals := 21 } : Room) s m args below meth c H locs 0 0 Q (F0 m 86 ls [.int s0]) := by
    intro H locs ls x5 s0 hP hD hS hl h
    unfold P_X1_note_b86 at h
    refine lv_istore (lv' := [(7, .int s0), (0, .ref q_o), (1, .int x1), (2, .int x2), (3, .int x3), (4, .int x4), (5, .int x5)]) hx hb dX1_note_86 hl (by decide) rfl (fun ls hl => ?_)
    refine lv_iload hx hb dX1_note_88 (lv_at hl 0 rfl) ?_
    refine lv_if_eq (tgt := 101) hx hb dX1_note_90 (by decide) (fun c_2 => ?_) (fun c_2 => ?_)
    · have h := h.1 c_2
      exact B101 _ _ _ v_o_cells s0 hP hD hS (lv_sub hl [1, 2, 3, 4, 5, 0] rfl) h
    · have h := h.2 c_2
      refine lv_aload_n hx hb dX1_note_93 rfl (lv_at hl 1 rfl) ?_
      refine va_get (D := D) (ci := 1) (v := .ref q_o_cells) (C := RX1) (T := TX1) (N := 1) hx hb htb inT_X1 hown hK hP 0 rfl rfl 0 (by decide) (htb _ tb_41) (fun _ h9 => h9) rfl dX1_note_94 ?_
      refine lv_iload hx hb dX1_note_97 (lv_at hl 6 rfl) ?_
      refine lv_iload_n hx hb dX1_note_99 rfl (lv_at hl 4 rfl) ?_
      obtain ⟨hi_3, h⟩ := h
      refine va_iast hx hb hK hP hD hS 1 0 rfl rfl hi_3 dX1_note_100 (fun H locs hP hD hS => ?_)
      have hP : va_P D vwCl [(q_o, .inr (1, [.ref q_o_cells])), (q_o_cells, gI Cs 221 (upd v_o_cells x5.toNatClampNeg x3))] H := hP
      have hD : va_D A [(q_o, .inr (1, [.ref q_o_cells])), (q_o_cells, gI Cs 221 (upd v_o_cells x5.toNatClampNeg x3))] := hD
      exact B101 _ _ _ (upd v_o_cells x5.toNatClampNeg x3) s0 hP hD hS (lv_sub hl [1, 2, 3, 4, 5, 0] rfl) h
  have B81 : ∀ (H : Heap) (locs : List Loc) (ls : Array Slot) (x5 : Int32), va_P D vwCl [(q_o, .inr (1, [.ref q_o_cells])), (q_o_cells, gI Cs 221 v_o_cells)] H → va_D A [(q_o, .inr (1, [.ref q_o_cells])), (q_o_cells, gI Cs 221 v_o_cells)] → va_S A s.heap H locs → lv_has ls 8 [(0, .ref q_o), (1, .int x1), (2, .int x2), (3, .int x3), (4, .int x4), (5, .int x5)] → P_X1_note_b81 v_o_cells x1 x2 x3 x4 post x5 → W p l e ({ frames := 1, cells := 0, slots := 0, locals := 21 } : Room) s m args below meth c H locs 0 0 Q (F0 m 81 ls []) := by
    intro H locs ls x5 hP hD hS hl h
    unfold P_X1_note_b81 at h
    refine lv_iconst (v := (1 : Int32)) hx hb dX1_note_81 (by decide) ?_
    refine lv_goto (tgt := 86) hx hb dX1_note_82 (by decide) ?_
    exact B86 _ _ _ x5 (1 : Int32) hP hD hS (lv_sub hl [0, 1, 2, 3, 4, 5] rfl) h
  have B85 : ∀ (H : Heap) (locs : List Loc) (ls : Array Slot) (x5 : Int32), va_P D vwCl [(q_o, .inr (1, [.ref q_o_cells])), (q_o_cells, gI Cs 221 v_o_cells)] H → va_D A [(q_o, .inr (1, [.ref q_o_cells])), (q_o_cells, gI Cs 221 v_o_cells)] → va_S A s.heap H locs → lv_has ls 8 [(0, .ref q_o), (1, .int x1), (2, .int x2), (3, .int x3), (4, .int x4), (5, .int x5)] → P_X1_note_b85 v_o_cells x1 x2 x3 x4 post x5 → W p l e ({ frames := 1, cells := 0, slots := 0, locals := 21 } : Room) s m args below meth c H locs 0 0 Q (F0 m 85 ls []) := by
    intro H locs ls x5 hP hD hS hl h
    unfold P_X1_note_b85 at h
    refine lv_iconst (v := (0 : Int32)) hx hb dX1_note_85 (by decide) ?_
    exact B86 _ _ _ x5 (0 : Int32) hP hD hS (lv_sub hl [0, 1, 2, 3, 4, 5] rfl) h
  have B37 : ∀ (H : Heap) (locs : List Loc) (ls : Array Slot) (s0 : Int32), va_P D vwCl [(q_o, .inr (1, [.ref q_o_cells])), (q_o_cells, gI Cs 221 v_o_cells)] H → va_D A [(q_o, .inr (1, [.ref q_o_cells])), (q_o_cells, gI Cs 221 v_o_cells)] → va_S A s.heap H locs → lv_has ls 8 [(0, .ref q_o), (1, .int x1), (2, .int x2), (3, .int x3), (4, .int x4)] → P_X1_note_b37 v_o_cells x1 x2 x3 x4 post s0 → W p l e ({ frames := 1, cells := 0, slots := 0, locals := 21 } : Room) s m args below meth c H locs 0 0 Q (F0 m 37 ls [.int s0]) := by
    intro H locs ls s0 hP hD hS hl h
    unfold P_X1_note_b37 at h
    refine lv_iload_n hx hb dX1_note_37 rfl (lv_at hl 1 rfl) ?_
    refine lv_bipush (v := (6 : Int32)) hx hb dX1_note_38 (by decide) ?_
    refine lv_imul hx hb dX1_note_40 ?_
    refine lv_iadd hx hb dX1_note_41 ?_
    refine lv_iload_n hx hb dX1_note_42 rfl (lv_at hl 2 rfl) ?_
    refine lv_iadd hx hb dX1_note_43 ?_
    refine lv_topi (fun x5_4 ex5_4 => ?_)
    have h := h _ ex5_4
    refine lv_istore (lv' := [(5, .int x5_4), (0, .ref q_o), (1, .int x1), (2, .int x2), (3, .int x3), (4, .int x4)]) hx hb dX1_note_44 hl (by decide) rfl (fun ls hl => ?_)
    refine lv_aload_n hx hb dX1_note_46 rfl (lv_at hl 1 rfl) ?_
    refine va_get (D := D) (ci := 1) (v := .ref q_o_cells) (C := RX1) (T := TX1) (N := 1) hx hb htb inT_X1 hown hK hP 0 rfl rfl 0 (by decide) (htb _ tb_41) (fun _ h9 => h9) rfl dX1_note_47 ?_
    refine lv_iload hx hb dX1_note_50 (lv_at hl 0 rfl) ?_
    obtain ⟨hi_5, h⟩ := h
    refine va_iald hx hb hK hP 1 0 rfl rfl hi_5 dX1_note_52 ?_
    refine lv_topi (fun x6_6 ex6_6 => ?_)
    have h := h _ ex6_6
    refine lv_istore (lv' := [(6, .int x6_6), (5, .int x5_4), (0, .ref q_o), (1, .int x1), (2, .int x2), (3, .int x3), (4, .int x4)]) hx hb dX1_note_53 hl (by decide) rfl (fun ls hl => ?_)
    refine lv_iload hx hb dX1_note_55 (lv_at hl 0 rfl) ?_
    refine lv_iconst (v := (-1 : Int32)) hx hb dX1_note_57 (by decide) ?_
    refine lv_icmp_eq (tgt := 81) hx hb dX1_note_58 (by decide) (fun c_7 => ?_) (fun c_7 => ?_)
    · have h := h.1 c_7
      exact B81 _ _ _ x5_4 hP hD hS (lv_sub hl [2, 3, 4, 5, 6, 1] rfl) h
    · have h := h.2 c_7
      refine lv_iload hx hb dX1_note_61 (lv_at hl 6 rfl) ?_
      refine lv_if_eq (tgt := 75) hx hb dX1_note_63 (by decide) (fun c_8 => ?_) (fun c_8 => ?_)
      · have h := h.1 c_8
        refine lv_iload_n hx hb dX1_note_75 rfl (lv_at hl 5 rfl) ?_
        refine lv_iload hx hb dX1_note_76 (lv_at hl 0 rfl) ?_
        refine lv_icmp_le (tgt := 85) hx hb dX1_note_78 (by decide) (fun c_9 => ?_) (fun c_9 => ?_)
        · have h := h.1 c_9
          exact B85 _ _ _ x5_4 hP hD hS (lv_sub hl [2, 3, 4, 5, 6, 1] rfl) h
        · have h := h.2 c_9
          exact B81 _ _ _ x5_4 hP hD hS (lv_sub hl [2, 3, 4, 5, 6, 1] rfl) h
      · have h := h.2 c_8
        refine lv_iload_n hx hb dX1_note_66 rfl (lv_at hl 5 rfl) ?_
        refine lv_iload hx hb dX1_note_67 (lv_at hl 0 rfl) ?_
        refine lv_icmp_ge (tgt := 85) hx hb dX1_note_69 (by decide) (fun c_10 => ?_) (fun c_10 => ?_)
        · have h := h.1 c_10
          exact B85 _ _ _ x5_4 hP hD hS (lv_sub hl [2, 3, 4, 5, 6, 1] rfl) h
        · have h := h.2 c_10
          refine lv_goto (tgt := 81) hx hb dX1_note_72 (by decide) ?_
          exact B81 _ _ _ x5_4 hP hD hS (lv_sub hl [2, 3, 4, 5, 6, 1] rfl) h
  unfold P_X1_note at h
  refine lv_aload_n hx hb dX1_note_0 rfl (lv_at hl 0 rfl) ?_
  refine lv_iload_n hx hb dX1_note_1 rfl (lv_at hl 1 rfl) ?_
  refine gVR (As := [.int x1]) (rest := []) ⟨hx, hb, hml, hown, htb⟩ hK hP hN [0, 1] rfl (c_X1_isTown l D Cs q_o q_o_cells v_o_cells x1 h) (cwV 1 htb (TB_v tb_140 tb_141 tb_142 tb_14 (TB_self tb_143)) rfl rfl rfl z_X1_isTown ⟨Nat.le_of_ble_eq_true rfl, Nat.le_of_ble_eq_true rfl⟩) 0 rfl rfl rfl rfl hl.1 rfl (Nat.le_of_ble_eq_true rfl) ⟨Nat.le_of_ble_eq_true rfl, Nat.le_of_ble_eq_true rfl⟩ dX1_note_2 (fun r_11 h => ?_)
  refine lv_if_eq (tgt := 22) hx hb dX1_note_5 (by decide) (fun c_12 => ?_) (fun c_12 => ?_)
  · have h := h.1 c_12
    exact B22 _ _ _ hP hD hS (lv_sub hl [0, 1, 2, 3, 4] rfl) h
  · have h := h.2 c_12
    refine lv_iload_n hx hb dX1_note_8 rfl (lv_at hl 2 rfl) ?_
    refine gNR (As := [.int x2]) (rest := []) ⟨hx, hb, hml, hown, htb⟩ hK hP hN [] rfl (c_X5_isTrait l D Cs x2 h) (va_cnB 1 htb (TB_self tb_157) rfl rfl rfl (hN (.methodLinkNest RX1 39 yX5_isTrait RX5) (List.mem_of_getElem? (i := 0) rfl)) (htb _ tb_2) z_X5_isTrait.2 ⟨Nat.le_of_ble_eq_true rfl, Nat.le_of_ble_eq_true rfl⟩) (htb _ tb_156) rfl hl.1 rfl (Nat.le_of_ble_eq_true rfl) ⟨Nat.le_of_ble_eq_true rfl, Nat.le_of_ble_eq_true rfl⟩ dX1_note_9 (fun r_13 h => ?_)
    refine lv_if_eq (tgt := 22) hx hb dX1_note_12 (by decide) (fun c_14 => ?_) (fun c_14 => ?_)
    · have h := h.1 c_14
      exact B22 _ _ _ hP hD hS (lv_sub hl [0, 1, 2, 3, 4] rfl) h
    · have h := h.2 c_14
      refine lv_iload_n hx hb dX1_note_15 rfl (lv_at hl 3 rfl) ?_
      refine gNR (As := [.int x3]) (rest := []) ⟨hx, hb, hml, hown, htb⟩ hK hP hN [] rfl (c_X5_isYear l D Cs x3 h) (va_cnB 1 htb (TB_self tb_362) rfl rfl rfl (hN (.methodLinkNest RX1 72 yX5_isYear RX5) (List.mem_of_getElem? (i := 2) rfl)) (htb _ tb_2) z_X5_isYear.2 ⟨Nat.le_of_ble_eq_true rfl, Nat.le_of_ble_eq_true rfl⟩) (htb _ tb_361) rfl hl.1 rfl (Nat.le_of_ble_eq_true rfl) ⟨Nat.le_of_ble_eq_true rfl, Nat.le_of_ble_eq_true rfl⟩ dX1_note_16 (fun r_15 h => ?_)
      refine lv_if_ne (tgt := 24) hx hb dX1_note_19 (by decide) (fun c_16 => ?_) (fun c_16 => ?_)
      · have h := h.2 c_16
        refine lv_iload hx hb dX1_note_24 (lv_at hl 4 rfl) ?_
        refine lv_if_eq (tgt := 34) hx hb dX1_note_26 (by decide) (fun c_17 => ?_) (fun c_17 => ?_)
        · have h := h.1 c_17
          refine lv_sipush (v := (161 : Int32)) hx hb dX1_note_34 (by decide) ?_
          exact B37 _ _ _ (161 : Int32) hP hD hS (lv_sub hl [0, 1, 2, 3, 4] rfl) h
        · have h := h.2 c_17
          refine lv_bipush (v := (101 : Int32)) hx hb dX1_note_29 (by decide) ?_
          refine lv_goto (tgt := 37) hx hb dX1_note_31 (by decide) ?_
          exact B37 _ _ _ (101 : Int32) hP hD hS (lv_sub hl [0, 1, 2, 3, 4] rfl) h
      · have h := h.1 c_16
        exact B22 _ _ _ hP hD hS (lv_sub hl [0, 1, 2, 3, 4] rfl) h
set_option maxHeartbeats 4000000 in
set_option maxRecDepth 100000 in
theorem c_X1_drop (l : Launch) (D : va_G) (Cs : Nat → ClassId) (q_o : Nat) (q_o_cells : Nat) (sz : Nat) (v_o_cells : (Nat → Int32)) (x1 : Int32) (x2 : Int32) {post : Int32 → (Nat → Int32) → Prop} (h : P_X1_drop v_o_cells x1 x2 post) : Met l yX1_drop wsX1_drop ({ frames := 3, cells := 0, slots := 0, locals := 66 } : Room) (va_Pc [.ref q_o, .int x1, .int x2] (gM D Cs [(q_o, .inr (1, [.ref q_o_cells])), (q_o_cells, gI Cs 221 v_o_cells)] sz)) (va_Qi (fun (r : Int32) (u : (Nat → Int32)) => post r u) (gB D (va_A [(q_o, .inr (1, [.ref q_o_cells])), (q_o_cells, gI Cs 221 v_o_cells)] sz) (fun u : (Nat → Int32) => [(q_o, .inr (1, [.ref q_o_cells])), (q_o_cells, gI Cs 221 u)])) (va_A [(q_o, .inr (1, [.ref q_o_cells])), (q_o_cells, gI Cs 221 v_o_cells)] sz)) 0 0 (va_A [(q_o, .inr (1, [.ref q_o_cells])), (q_o_cells, gI Cs 221 v_o_cells)] sz) := by
  refine Met.ofW (cc := cX1_drop) (maxL := 4) (ret := (some .int)) (by decide) rfl ?_
  intro p e s m args below meth c s₁ B hml hv
  obtain ⟨ha, hsz, hP, hK, hD0, hN⟩ := hv
  have hx := B.exec
  have hb := B.bytes
  have hr := B.returns
  have hts := atoms_spec (ws := wsX1_drop) B.pre
  have htb : ∀ w ∈ TB, w.before args s = true := fun w h9 => hts w (List.mem_cons_of_mem _ h9)
  have hown : s.vm.findClass RX1 = some m.cls := findClass_of_methodNamed B.named
  have hlocks := B.notSynchronized
  subst hsz
  have hD := hD0.self (sz := s.heap.size)
  generalize hAe : va_A [(q_o, .inr (1, [.ref q_o_cells])), (q_o_cells, gI Cs 221 v_o_cells)] s.heap.size = A at hD ⊢
  have hA : ∀ q : Nat, s.heap.size ≤ q → A q := fun q h9 => by rw [← hAe]; exact Or.inr h9
  obtain ⟨H, hH⟩ : ∃ z : Heap, z = s.heap := ⟨_, rfl⟩
  have hS : va_S A s.heap H [] := by rw [hH]; exact va_S.rf
  have hP : va_P D vwCl [(q_o, .inr (1, [.ref q_o_cells])), (q_o_cells, gI Cs 221 v_o_cells)] H := by rw [hH]; exact hP
  generalize hQ : MQ below _ args s _ _ _ = Q
  show W p l e ({ frames := 3, cells := 0, slots := 0, locals := 66 } : Room) s m args below meth c s.heap [] 0 0 Q (entryFrame m args 4)
  have hent : entryFrame m args 4 = F0 m 0 ((lg_sl ([.ref q_o, .int x1, .int x2]) ++ List.replicate (4 - (lg_sl ([.ref q_o, .int x1, .int x2])).length) Slot.unset).toArray) [] := by rw [ha]; exact lg_entry_eq m ([.ref q_o, .int x1, .int x2]) 4
  rw [hent]; clear hent
  rw [← hH]
  have hl := lv_entry ([.ref q_o, .int x1, .int x2]) (n := 4) (Nat.le_of_ble_eq_true rfl)
  generalize (lg_sl ([.ref q_o, .int x1, .int x2]) ++ List.replicate (4 - (lg_sl ([.ref q_o, .int x1, .int x2])).length) Slot.unset).toArray = ls at hl ⊢
  have hl : lv_has ls 4 [(0, .ref q_o), (1, .int x1), (2, .int x2)] := hl
  have B15 : ∀ (H : Heap) (locs : List Loc) (ls : Array Slot), va_P D vwCl [(q_o, .inr (1, [.ref q_o_cells])), (q_o_cells, gI Cs 221 v_o_cells)] H → va_D A [(q_o, .inr (1, [.ref q_o_cells])), (q_o_cells, gI Cs 221 v_o_cells)] → va_S A s.heap H locs → lv_has ls 4 [(0, .ref q_o), (1, .int x1), (2, .int x2)] → P_X1_drop_b15 v_o_cells x1 x2 post → W p l e ({ frames := 3, cells := 0, slots := 0, locals := 66 } : Room) s m args below meth c H locs 0 0 Q (F0 m 15 ls []) := by
    intro H locs ls hP hD hS hl h
    unfold P_X1_drop_b15 at h
    refine lv_iconst (v := (-1 : Int32)) hx hb dX1_drop_15 (by decide) ?_
    rw [← hQ]
    exact gRetI (u := v_o_cells) hx hb hr rfl h hP hD hS dX1_drop_16 hlocks
  have B64 : ∀ (H : Heap) (locs : List Loc) (ls : Array Slot) (w_o_cells : (Nat → Int32)) (s0 : Int32), va_P D vwCl [(q_o, .inr (1, [.ref q_o_cells])), (q_o_cells, gI Cs 221 w_o_cells)] H → va_D A [(q_o, .inr (1, [.ref q_o_cells])), (q_o_cells, gI Cs 221 w_o_cells)] → va_S A s.heap H locs → lv_has ls 4 [(0, .ref q_o), (1, .int x1), (2, .int x2)] → P_X1_drop_b64 v_o_cells x1 x2 post w_o_cells s0 → W p l e ({ frames := 3, cells := 0, slots := 0, locals := 66 } : Room) s m args below meth c H locs 0 0 Q (F0 m 64 ls [.int s0]) := by
    intro H locs ls w_o_cells s0 hP hD hS hl h
    unfold P_X1_drop_b64 at h
    rw [← hQ]
    exact gRetI (u := w_o_cells) hx hb hr rfl h hP hD hS dX1_drop_64 hlocks
  unfold P_X1_drop at h
  refine lv_aload_n hx hb dX1_drop_0 rfl (lv_at hl 0 rfl) ?_
  refine lv_iload_n hx hb dX1_drop_1 rfl (lv_at hl 1 rfl) ?_
  refine gVR (As := [.int x1]) (rest := []) ⟨hx, hb, hml, hown, htb⟩ hK hP hN [0, 1] rfl (c_X1_isTown l D Cs q_o q_o_cells v_o_cells x1 h) (cwV 1 htb (TB_v tb_140 tb_141 tb_142 tb_14 (TB_self tb_143)) rfl rfl rfl z_X1_isTown ⟨Nat.le_of_ble_eq_true rfl, Nat.le_of_ble_eq_true rfl⟩) 0 rfl rfl rfl rfl hl.1 rfl (Nat.le_of_ble_eq_true rfl) ⟨Nat.le_of_ble_eq_true rfl, Nat.le_of_ble_eq_true rfl⟩ dX1_drop_2 (fun r_1 h => ?_)
  refine lv_if_eq (tgt := 15) hx hb dX1_drop_5 (by decide) (fun c_2 => ?_) (fun c_2 => ?_)
  · have h := h.1 c_2
    exact B15 _ _ _ hP hD hS (lv_sub hl [0, 1, 2] rfl) h
  · have h := h.2 c_2
    refine lv_iload_n hx hb dX1_drop_8 rfl (lv_at hl 2 rfl) ?_
    refine gNR (As := [.int x2]) (rest := []) ⟨hx, hb, hml, hown, htb⟩ hK hP hN [] rfl (c_X5_isTrait l D Cs x2 h) (va_cnB 1 htb (TB_self tb_157) rfl rfl rfl (hN (.methodLinkNest RX1 39 yX5_isTrait RX5) (List.mem_of_getElem? (i := 0) rfl)) (htb _ tb_2) z_X5_isTrait.2 ⟨Nat.le_of_ble_eq_true rfl, Nat.le_of_ble_eq_true rfl⟩) (htb _ tb_156) rfl hl.1 rfl (Nat.le_of_ble_eq_true rfl) ⟨Nat.le_of_ble_eq_true rfl, Nat.le_of_ble_eq_true rfl⟩ dX1_drop_9 (fun r_3 h => ?_)
    refine lv_if_ne (tgt := 17) hx hb dX1_drop_12 (by decide) (fun c_4 => ?_) (fun c_4 => ?_)
    · have h := h.2 c_4
      refine lv_aload_n hx hb dX1_drop_17 rfl (lv_at hl 0 rfl) ?_
      refine lv_iload_n hx hb dX1_drop_18 rfl (lv_at hl 1 rfl) ?_
      refine lv_iload_n hx hb dX1_drop_19 rfl (lv_at hl 2 rfl) ?_
      refine gVR (As := [.int x1, .int x2]) (rest := []) ⟨hx, hb, hml, hown, htb⟩ hK hP hN [0, 1] rfl (c_X1_isReported l D Cs q_o q_o_cells v_o_cells x1 x2 h) (cwV 2 htb (TB_v tb_148 tb_149 tb_150 tb_14 (TB_self tb_151)) rfl rfl rfl z_X1_isReported ⟨Nat.le_of_ble_eq_true rfl, Nat.le_of_ble_eq_true rfl⟩) 0 rfl rfl rfl rfl hl.1 rfl (Nat.le_of_ble_eq_true rfl) ⟨Nat.le_of_ble_eq_true rfl, Nat.le_of_ble_eq_true rfl⟩ dX1_drop_20 (fun r_5 h => ?_)
      refine lv_istore_n (lv' := [(3, .int r_5), (0, .ref q_o), (1, .int x1), (2, .int x2)]) hx hb dX1_drop_23 rfl hl (by decide) rfl (fun ls hl => ?_)
      refine lv_aload_n hx hb dX1_drop_24 rfl (lv_at hl 1 rfl) ?_
      refine va_get (D := D) (ci := 1) (v := .ref q_o_cells) (C := RX1) (T := TX1) (N := 1) hx hb htb inT_X1 hown hK hP 0 rfl rfl 0 (by decide) (htb _ tb_41) (fun _ h9 => h9) rfl dX1_drop_25 ?_
      refine lv_bipush (v := (101 : Int32)) hx hb dX1_drop_28 (by decide) ?_
      refine lv_iload_n hx hb dX1_drop_30 rfl (lv_at hl 2 rfl) ?_
      refine lv_bipush (v := (6 : Int32)) hx hb dX1_drop_31 (by decide) ?_
      refine lv_imul hx hb dX1_drop_33 ?_
      refine lv_iadd hx hb dX1_drop_34 ?_
      refine lv_iload_n hx hb dX1_drop_35 rfl (lv_at hl 3 rfl) ?_
      refine lv_iadd hx hb dX1_drop_36 ?_
      refine lv_iconst (v := (-1 : Int32)) hx hb dX1_drop_37 (by decide) ?_
      obtain ⟨hi_6, h⟩ := h
      refine va_iast hx hb hK hP hD hS 1 0 rfl rfl hi_6 dX1_drop_38 (fun H locs hP hD hS => ?_)
      have hP : va_P D vwCl [(q_o, .inr (1, [.ref q_o_cells])), (q_o_cells, gI Cs 221 (upd v_o_cells (((101 : Int32) + (x1 * (6 : Int32))) + x2).toNatClampNeg (-1 : Int32)))] H := hP
      have hD : va_D A [(q_o, .inr (1, [.ref q_o_cells])), (q_o_cells, gI Cs 221 (upd v_o_cells (((101 : Int32) + (x1 * (6 : Int32))) + x2).toNatClampNeg (-1 : Int32)))] := hD
      refine lv_aload_n hx hb dX1_drop_39 rfl (lv_at hl 1 rfl) ?_
      refine va_get (D := D) (ci := 1) (v := .ref q_o_cells) (C := RX1) (T := TX1) (N := 1) hx hb htb inT_X1 hown hK hP 0 rfl rfl 0 (by decide) (htb _ tb_41) (fun _ h9 => h9) rfl dX1_drop_40 ?_
      refine lv_sipush (v := (161 : Int32)) hx hb dX1_drop_43 (by decide) ?_
      refine lv_iload_n hx hb dX1_drop_46 rfl (lv_at hl 2 rfl) ?_
      refine lv_bipush (v := (6 : Int32)) hx hb dX1_drop_47 (by decide) ?_
      refine lv_imul hx hb dX1_drop_49 ?_
      refine lv_iadd hx hb dX1_drop_50 ?_
      refine lv_iload_n hx hb dX1_drop_51 rfl (lv_at hl 3 rfl) ?_
      refine lv_iadd hx hb dX1_drop_52 ?_
      refine lv_iconst (v := (-1 : Int32)) hx hb dX1_drop_53 (by decide) ?_
      obtain ⟨hi_7, h⟩ := h
      refine va_iast hx hb hK hP hD hS 1 0 rfl rfl hi_7 dX1_drop_54 (fun H locs hP hD hS => ?_)
      have hP : va_P D vwCl [(q_o, .inr (1, [.ref q_o_cells])), (q_o_cells, gI Cs 221 (upd (upd v_o_cells (((101 : Int32) + (x1 * (6 : Int32))) + x2).toNatClampNeg (-1 : Int32)) (((161 : Int32) + (x1 * (6 : Int32))) + x2).toNatClampNeg (-1 : Int32)))] H := hP
      have hD : va_D A [(q_o, .inr (1, [.ref q_o_cells])), (q_o_cells, gI Cs 221 (upd (upd v_o_cells (((101 : Int32) + (x1 * (6 : Int32))) + x2).toNatClampNeg (-1 : Int32)) (((161 : Int32) + (x1 * (6 : Int32))) + x2).toNatClampNeg (-1 : Int32)))] := hD
      refine lv_iload_n hx hb dX1_drop_55 rfl (lv_at hl 0 rfl) ?_
      refine lv_if_eq (tgt := 63) hx hb dX1_drop_56 (by decide) (fun c_8 => ?_) (fun c_8 => ?_)
      · have h := h.1 c_8
        refine lv_iconst (v := (0 : Int32)) hx hb dX1_drop_63 (by decide) ?_
        exact B64 _ _ _ (upd (upd v_o_cells (((101 : Int32) + (x1 * (6 : Int32))) + x2).toNatClampNeg (-1 : Int32)) (((161 : Int32) + (x1 * (6 : Int32))) + x2).toNatClampNeg (-1 : Int32)) (0 : Int32) hP hD hS (lv_sub hl [1, 2, 3] rfl) h
      · have h := h.2 c_8
        refine lv_iconst (v := (1 : Int32)) hx hb dX1_drop_59 (by decide) ?_
        refine lv_goto (tgt := 64) hx hb dX1_drop_60 (by decide) ?_
        exact B64 _ _ _ (upd (upd v_o_cells (((101 : Int32) + (x1 * (6 : Int32))) + x2).toNatClampNeg (-1 : Int32)) (((161 : Int32) + (x1 * (6 : Int32))) + x2).toNatClampNeg (-1 : Int32)) (1 : Int32) hP hD hS (lv_sub hl [1, 2, 3] rfl) h
    · have h := h.1 c_4
      exact B15 _ _ _ hP hD hS (lv_sub hl [0, 1, 2] rfl) h
