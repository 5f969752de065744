def P_X1_isTown_b25 (v_o_cells : (Nat → Int32)) (x1 : Int32) (post : Int32 → Prop) (s0 : Int32) : Prop :=
  narrow .boolean (.int s0) = .int s0 ∧ post s0
def P_X1_isTown_b24 (v_o_cells : (Nat → Int32)) (x1 : Int32) (post : Int32 → Prop) : Prop :=
  P_X1_isTown_b25 v_o_cells x1 post (0 : Int32)
def P_X1_isTown (v_o_cells : (Nat → Int32)) (x1 : Int32) (post : Int32 → Prop) : Prop :=
  (x1 < 0 → P_X1_isTown_b24 v_o_cells x1 post) ∧ (¬ (x1 < 0) → (((v_o_cells (0 : Int32).toNatClampNeg) ≤ x1 → P_X1_isTown_b24 v_o_cells x1 post) ∧ (¬ ((v_o_cells (0 : Int32).toNatClampNeg) ≤ x1) → (((10 : Int32) ≤ x1 → P_X1_isTown_b24 v_o_cells x1 post) ∧ (¬ ((10 : Int32) ≤ x1) → (P_X1_isTown_b25 v_o_cells x1 post (1 : Int32)))))))
set_option maxHeartbeats 4000000 in
set_option maxRecDepth 100000 in
theorem c_X1_isTown (l : Launch) (D : va_G) (Cs : Nat → ClassId) (q_o : Nat) (q_o_cells : Nat) (v_o_cells : (Nat → Int32)) (x1 : Int32) {post : Int32 → Prop} (h : P_X1_isTown v_o_cells x1 post) : Met l yX1_isTown wsX1_isTown ({ frames := 0, cells := 0, slots := 0, locals := 0 } : Room) (va_Pc [.ref q_o, .int x1] (gR D Cs [(q_o, .inr (1, [.ref q_o_cells])), (q_o_cells, gI Cs 221 v_o_cells)])) (vp_Si post) 0 0 (fun _ => False) := by
  refine Met.ofW (cc := cX1_isTown) (maxL := 2) (ret := (some .boolean)) (by decide) rfl ?_
  intro p e s m args below meth c s₁ B hml hv
  obtain ⟨ha, hP, hK, hN⟩ := hv
  have hx := B.exec
  have hb := B.bytes
  have hr := B.returns
  have hts := atoms_spec (ws := wsX1_isTown) B.pre
  have htb : ∀ w ∈ TB, w.before args s = true := fun w h9 => hts w (List.mem_cons_of_mem _ h9)
  have hown : s.vm.findClass RX1 = some m.cls := findClass_of_methodNamed B.named
  have hlocks := B.notSynchronized
  generalize hQ : MQ below _ args s _ _ _ = Q
  show W p l e ({ frames := 0, cells := 0, slots := 0, locals := 0 } : Room) s m args below meth c s.heap [] 0 0 Q (entryFrame m args 2)
  have hent : entryFrame m args 2 = F0 m 0 ((lg_sl ([.ref q_o, .int x1]) ++ List.replicate (2 - (lg_sl ([.ref q_o, .int x1])).length) Slot.unset).toArray) [] := by rw [ha]; exact lg_entry_eq m ([.ref q_o, .int x1]) 2
  rw [hent]; clear hent
  have hl := lv_entry ([.ref q_o, .int x1]) (n := 2) (Nat.le_of_ble_eq_true rfl)
  generalize (lg_sl ([.ref q_o, .int x1]) ++ List.replicate (2 - (lg_sl ([.ref q_o, .int x1])).length) Slot.unset).toArray = ls at hl ⊢
  have hl : lv_has ls 2 [(0, .ref q_o), (1, .int x1)] := hl
  have B25 : ∀ (ls : Array Slot) (s0 : Int32), lv_has ls 2 [(0, .ref q_o), (1, .int x1)] → P_X1_isTown_b25 v_o_cells x1 post s0 → W p l e ({ frames := 0, cells := 0, slots := 0, locals := 0 } : Room) s m args below meth c s.heap [] 0 0 Q (F0 m 25 ls [.int s0]) := by
    intro ls s0 hl h
    unfold P_X1_isTown_b25 at h
    obtain ⟨hnb, h⟩ := h
    rw [← hQ]
    exact gRetR hx hb hr hnb h dX1_isTown_25 hlocks
  have B24 : ∀ (ls : Array Slot), lv_has ls 2 [(0, .ref q_o), (1, .int x1)] → P_X1_isTown_b24 v_o_cells x1 post → W p l e ({ frames := 0, cells := 0, slots := 0, locals := 0 } : Room) s m args below meth c s.heap [] 0 0 Q (F0 m 24 ls []) := by
    intro ls hl h
    unfold P_X1_isTown_b24 at h
    refine lv_iconst (v := (0 : Int32)) hx hb dX1_isTown_24 (by decide) ?_
    exact B25 _ (0 : Int32) (lv_sub hl [0, 1] rfl) h
  unfold P_X1_isTown at h
  refine lv_iload_n hx hb dX1_isTown_0 rfl (lv_at hl 1 rfl) ?_
  refine lv_if_lt (tgt := 24) hx hb dX1_isTown_1 (by decide) (fun c_1 => ?_) (fun c_1 => ?_)
  · have h := h.1 c_1
    exact B24 _ (lv_sub hl [0, 1] rfl) h
  · have h := h.2 c_1
    refine lv_iload_n hx hb dX1_isTown_4 rfl (lv_at hl 1 rfl) ?_
    refine lv_aload_n hx hb dX1_isTown_5 rfl (lv_at hl 0 rfl) ?_
    refine va_get (D := D) (ci := 1) (v := .ref q_o_cells) (C := RX1) (T := TX1) (N := 1) hx hb htb inT_X1 hown hK hP 0 rfl rfl 0 (by decide) (htb _ tb_43) (fun _ h9 => h9) rfl dX1_isTown_6 ?_
    refine lv_iconst (v := (0 : Int32)) hx hb dX1_isTown_9 (by decide) ?_
    refine va_iald hx hb hK hP 1 0 rfl rfl (by unfold vp_in; decide) dX1_isTown_10 ?_
    refine lv_icmp_ge (tgt := 24) hx hb dX1_isTown_11 (by decide) (fun c_2 => ?_) (fun c_2 => ?_)
    · have h := h.1 c_2
      exact B24 _ (lv_sub hl [0, 1] rfl) h
    · have h := h.2 c_2
      refine lv_iload_n hx hb dX1_isTown_14 rfl (lv_at hl 1 rfl) ?_
      refine lv_bipush (v := (10 : Int32)) hx hb dX1_isTown_15 (by decide) ?_
      refine lv_icmp_ge (tgt := 24) hx hb dX1_isTown_17 (by decide) (fun c_3 => ?_) (fun c_3 => ?_)
      · have h := h.1 c_3
        exact B24 _ (lv_sub hl [0, 1] rfl) h
      · have h := h.2 c_3
        refine lv_iconst (v := (1 : Int32)) hx hb dX1_isTown_20 (by decide) ?_
        refine lv_goto (tgt := 25) hx hb dX1_isTown_21 (by decide) ?_
        exact B25 _ (1 : Int32) (lv_sub hl [0, 1] rfl) h
def P_X1_roadLength_b33 (v_o_cells : (Nat → Int32)) (x1 : Int32) (x2 : Int32) (post : Int32 → Prop) (s0 : Int32) : Prop :=
  post s0
def P_X1_roadLength_b32 (v_o_cells : (Nat → Int32)) (x1 : Int32) (x2 : Int32) (post : Int32 → Prop) : Prop :=
  P_X1_roadLength_b33 v_o_cells x1 x2 post (-1 : Int32)
def P_X1_roadLength (v_o_cells : (Nat → Int32)) (x1 : Int32) (x2 : Int32) (post : Int32 → Prop) : Prop :=
  P_X1_isTown v_o_cells x1 (fun r_1 => (r_1 = 0 → P_X1_roadLength_b32 v_o_cells x1 x2 post) ∧ (¬ (r_1 = 0) → (P_X1_isTown v_o_cells x2 (fun r_3 => (r_3 = 0 → P_X1_roadLength_b32 v_o_cells x1 x2 post) ∧ (¬ (r_3 = 0) → (vp_in (((1 : Int32) + (x1 * (10 : Int32))) + x2) 221 ∧ (P_X1_roadLength_b33 v_o_cells x1 x2 post (v_o_cells (((1 : Int32) + (x1 * (10 : Int32))) + x2).toNatClampNeg))))))))
set_option maxHeartbeats 4000000 in
set_option maxRecDepth 100000 in
theorem c_X1_roadLength (l : Launch) (D : va_G) (Cs : Nat → ClassId) (q_o : Nat) (q_o_cells : Nat) (v_o_cells : (Nat → Int32)) (x1 : Int32) (x2 : Int32) {post : Int32 → Prop} (h : P_X1_roadLength v_o_cells x1 x2 post) : Met l yX1_roadLength wsX1_roadLength ({ frames := 1, cells := 0, slots := 0, locals := 21 } : Room) (va_Pc [.ref q_o, .int x1, .int x2] (gR D Cs [(q_o, .inr (1, [.ref q_o_cells])), (q_o_cells, gI Cs 221 v_o_cells)])) (vp_Si post) 0 0 (fun _ => False) := by
  refine Met.ofW (cc := cX1_roadLength) (maxL := 3) (ret := (some .int)) (by decide) rfl ?_
  intro p e s m args below meth c s₁ B hml hv
  obtain ⟨ha, hP, hK, hN⟩ := hv
  have hx := B.exec
  have hb := B.bytes
  have hr := B.returns
  have hts := atoms_spec (ws := wsX1_roadLength) B.pre
  have htb : ∀ w ∈ TB, w.before args s = true := fun w h9 => hts w (List.mem_cons_of_mem _ h9)
  have hown : s.vm.findClass RX1 = some m.cls := findClass_of_methodNamed B.named
  have hlocks := B.notSynchronized
  generalize hQ : MQ below _ args s _ _ _ = Q
  show W p l e ({ frames := 1, cells := 0, slots := 0, locals := 21 } : Room) s m args below meth c s.heap [] 0 0 Q (entryFrame m args 3)
  have hent : entryFrame m args 3 = F0 m 0 ((lg_sl ([.ref q_o, .int x1, .int x2]) ++ List.replicate (3 - (lg_sl ([.ref q_o, .int x1, .int x2])).length) Slot.unset).toArray) [] := by rw [ha]; exact lg_entry_eq m ([.ref q_o, .int x1, .int x2]) 3
  rw [hent]; clear hent
  have hl := lv_entry ([.ref q_o, .int x1, .int x2]) (n := 3) (Nat.le_of_ble_eq_true rfl)
  generalize (lg_sl ([.ref q_o, .int x1, .int x2]) ++ List.replicate (3 - (lg_sl ([.ref q_o, .int x1, .int x2])).length) Slot.unset).toArray = ls at hl ⊢
  have hl : lv_has ls 3 [(0, .ref q_o), (1, .int x1), (2, .int x2)] := hl
  have B33 : ∀ (ls : Array Slot) (s0 : Int32), lv_has ls 3 [(0, .ref q_o), (1, .int x1), (2, .int x2)] → P_X1_roadLength_b33 v_o_cells x1 x2 post s0 → W p l e ({ frames := 1, cells := 0, slots := 0, locals := 21 } : Room) s m args below meth c s.heap [] 0 0 Q (F0 m 33 ls [.int s0]) := by
    intro ls s0 hl h
    unfold P_X1_roadLength_b33 at h
    rw [← hQ]
    exact gRetR hx hb hr rfl h dX1_roadLength_33 hlocks
  have B32 : ∀ (ls : Array Slot), lv_has ls 3 [(0, .ref q_o), (1, .int x1), (2, .int x2)] → P_X1_roadLength_b32 v_o_cells x1 x2 post → W p l e ({ frames := 1, cells := 0, slots := 0, locals := 21 } : Room) s m args below meth c s.heap [] 0 0 Q (F0 m 32 ls []) := by
    intro ls hl h
    unfold P_X1_roadLength_b32 at h
    refine lv_iconst (v := (-1 : Int32)) hx hb dX1_roadLength_32 (by decide) ?_
    exact B33 _ (-1 : Int32) (lv_sub hl [0, 1, 2] rfl) h
  unfold P_X1_roadLength at h
  refine lv_aload_n hx hb dX1_roadLength_0 rfl (lv_at hl 0 rfl) ?_
  refine lv_iload_n hx hb dX1_roadLength_1 rfl (lv_at hl 1 rfl) ?_
  refine gVR (As := [.int x1]) (rest := []) ⟨hx, hb, hml, hown, htb⟩ hK hP hN [0, 1] rfl (c_X1_isTown l D Cs q_o q_o_cells v_o_cells x1 h) (cwV 1 htb (TB_v tb_225 tb_226 tb_227 tb_16 (TB_self tb_228)) rfl rfl rfl z_X1_isTown ⟨Nat.le_of_ble_eq_true rfl, Nat.le_of_ble_eq_true rfl⟩) 0 rfl rfl rfl rfl hl.1 rfl (Nat.le_of_ble_eq_true rfl) ⟨Nat.le_of_ble_eq_true rfl, Nat.le_of_ble_eq_true rfl⟩ dX1_roadLength_2 (fun r_1 h => ?_)
  refine lv_if_eq (tgt := 32) hx hb dX1_roadLength_5 (by decide) (fun c_2 => ?_) (fun c_2 => ?_)
  · have h := h.1 c_2
    exact B32 _ (lv_sub hl [0, 1, 2] rfl) h
  · have h := h.2 c_2
    refine lv_aload_n hx hb dX1_roadLength_8 rfl (lv_at hl 0 rfl) ?_
    refine lv_iload_n hx hb dX1_roadLength_9 rfl (lv_at hl 2 rfl) ?_
    refine gVR (As := [.int x2]) (rest := []) ⟨hx, hb, hml, hown, htb⟩ hK hP hN [0, 1] rfl (c_X1_isTown l D Cs q_o q_o_cells v_o_cells x2 h) (cwV 1 htb (TB_v tb_225 tb_226 tb_227 tb_16 (TB_self tb_228)) rfl rfl rfl z_X1_isTown ⟨Nat.le_of_ble_eq_true rfl, Nat.le_of_ble_eq_true rfl⟩) 0 rfl rfl rfl rfl hl.1 rfl (Nat.le_of_ble_eq_true rfl) ⟨Nat.le_of_ble_eq_true rfl, Nat.le_of_ble_eq_true rfl⟩ dX1_roadLength_10 (fun r_3 h => ?_)
    refine lv_if_eq (tgt := 32) hx hb dX1_roadLength_13 (by decide) (fun c_4 => ?_) (fun c_4 => ?_)
    · have h := h.1 c_4
      exact B32 _ (lv_sub hl [0, 1, 2] rfl) h
    · have h := h.2 c_4
      refine lv_aload_n hx hb dX1_roadLength_16 rfl (lv_at hl 0 rfl) ?_
      refine va_get (D := D) (ci := 1) (v := .ref q_o_cells) (C := RX1) (T := TX1) (N := 1) hx hb htb inT_X1 hown hK hP 0 rfl rfl 0 (by decide) (htb _ tb_43) (fun _ h9 => h9) rfl dX1_roadLength_17 ?_
      refine lv_iconst (v := (1 : Int32)) hx hb dX1_roadLength_20 (by decide) ?_
      refine lv_iload_n hx hb dX1_roadLength_21 rfl (lv_at hl 1 rfl) ?_
      refine lv_bipush (v := (10 : Int32)) hx hb dX1_roadLength_22 (by decide) ?_
      refine lv_imul hx hb dX1_roadLength_24 ?_
      refine lv_iadd hx hb dX1_roadLength_25 ?_
      refine lv_iload_n hx hb dX1_roadLength_26 rfl (lv_at hl 2 rfl) ?_
      refine lv_iadd hx hb dX1_roadLength_27 ?_
      obtain ⟨hi_5, h⟩ := h
      refine va_iald hx hb hK hP 1 0 rfl rfl hi_5 dX1_roadLength_28 ?_
      refine lv_goto (tgt := 33) hx hb dX1_roadLength_29 (by decide) ?_
      exact B33 _ (v_o_cells (((1 : Int32) + (x1 * (10 : Int32))) + x2).toNatClampNeg) (lv_sub hl [0, 1, 2] rfl) h
def P_X1_roadCount_b41 (v_o_cells : (Nat → Int32)) (post : Int32 → Prop) (K4 : Int32 → Int32 → Prop) (K18 : Int32 → Int32 → Int32 → Prop) (x1 : Int32) (x2 : Int32) (x3 : Int32) : Prop :=
  ∀ x3_1 : Int32, x3_1 = x3 + (1 : Int32) → K18 x1 x2 x3_1
def P_X1_roadCount_b18 (v_o_cells : (Nat → Int32)) (post : Int32 → Prop) (K4 : Int32 → Int32 → Prop) (K18 : Int32 → Int32 → Int32 → Prop) (x1 : Int32) (x2 : Int32) (x3 : Int32) : Prop :=
  ((v_o_cells (0 : Int32).toNatClampNeg) ≤ x3 → (∀ x2_3 : Int32, x2_3 = x2 + (1 : Int32) → K4 x1 x2_3)) ∧ (¬ ((v_o_cells (0 : Int32).toNatClampNeg) ≤ x3) → (P_X1_roadLength v_o_cells x2 x3 (fun r_4 => (r_4 = (-1 : Int32) → P_X1_roadCount_b41 v_o_cells post K4 K18 x1 x2 x3) ∧ (¬ (r_4 = (-1 : Int32)) → (∀ x1_6 : Int32, x1_6 = x1 + (1 : Int32) → P_X1_roadCount_b41 v_o_cells post K4 K18 x1_6 x2 x3)))))
def P_X1_roadCount_l18 (v_o_cells : (Nat → Int32)) (post : Int32 → Prop) (K4 : Int32 → Int32 → Prop) : Nat → Int32 → Int32 → Int32 → Prop
  | 0 => fun _ _ _ => False
  | n + 1 => P_X1_roadCount_b18 v_o_cells post K4 (P_X1_roadCount_l18 v_o_cells post K4 n)
def P_X1_roadCount_b4 (v_o_cells : (Nat → Int32)) (post : Int32 → Prop) (K4 : Int32 → Int32 → Prop) (x1 : Int32) (x2 : Int32) : Prop :=
  ((v_o_cells (0 : Int32).toNatClampNeg) ≤ x2 → post x1) ∧ (¬ ((v_o_cells (0 : Int32).toNatClampNeg) ≤ x2) → (∀ x3_8 : Int32, x3_8 = x2 + (1 : Int32) → ∃ n, P_X1_roadCount_l18 v_o_cells post K4 n x1 x2 x3_8))
def P_X1_roadCount_l4 (v_o_cells : (Nat → Int32)) (post : Int32 → Prop) : Nat → Int32 → Int32 → Prop
  | 0 => fun _ _ => False
  | n + 1 => P_X1_roadCount_b4 v_o_cells post (P_X1_roadCount_l4 v_o_cells post n)
def P_X1_roadCount (v_o_cells : (Nat → Int32)) (post : Int32 → Prop) : Prop :=
  ∃ n, P_X1_roadCount_l4 v_o_cells post n (0 : Int32) (0 : Int32)
set_option maxHeartbeats 4000000 in
set_option maxRecDepth 100000 in
theorem c_X1_roadCount (l : Launch) (D : va_G) (Cs : Nat → ClassId) (q_o : Nat) (q_o_cells : Nat) (v_o_cells : (Nat → Int32)) {post : Int32 → Prop} (h : P_X1_roadCount v_o_cells post) : Met l yX1_roadCount wsX1_roadCount ({ frames := 2, cells := 0, slots := 0, locals := 43 } : Room) (va_Pc [.ref q_o] (gR D Cs [(q_o, .inr (1, [.ref q_o_cells])), (q_o_cells, gI Cs 221 v_o_cells)])) (vp_Si post) 0 0 (fun _ => False) := by
  refine Met.ofW (cc := cX1_roadCount) (maxL := 4) (ret := (some .int)) (by decide) rfl ?_
  intro p e s m args below meth c s₁ B hml hv
  obtain ⟨ha, hP, hK, hN⟩ := hv
  have hx := B.exec
  have hb := B.bytes
  have hr := B.returns
  have hts := atoms_spec (ws := wsX1_roadCount) B.pre
  have htb : ∀ w ∈ TB, w.before args s = true := fun w h9 => hts w (List.mem_cons_of_mem _ h9)
  have hown : s.vm.findClass RX1 = some m.cls := findClass_of_methodNamed B.named
  have hlocks := B.notSynchronized
  generalize hQ : MQ below _ args s _ _ _ = Q
  show W p l e ({ frames := 2, cells := 0, slots := 0, locals := 43 } : Room) s m args below meth c s.heap [] 0 0 Q (entryFrame m args 4)
  have hent : entryFrame m args 4 = F0 m 0 ((lg_sl ([.ref q_o]) ++ List.replicate (4 - (lg_sl ([.ref q_o])).length) Slot.unset).toArray) [] := by rw [ha]; exact lg_entry_eq m ([.ref q_o]) 4
  rw [hent]; clear hent
  have hl := lv_entry ([.ref q_o]) (n := 4) (Nat.le_of_ble_eq_true rfl)
  generalize (lg_sl ([.ref q_o]) ++ List.replicate (4 - (lg_sl ([.ref q_o])).length) Slot.unset).toArray = ls at hl ⊢
  have hl : lv_has ls 4 [(0, .ref q_o)] := hl
  have L4 : ∀ (n : Nat) (ls : Array Slot) (x1 : Int32) (x2 : Int32), lv_has ls 4 [(0, .ref q_o), (1, .int x1), (2, .int x2)] → P_X1_roadCount_l4 v_o_cells post n x1 x2 → W p l e ({ frames := 2, cells := 0, slots := 0, locals := 43 } : Room) s m args below meth c s.heap [] 0 0 Q (F0 m 4 ls []) := by
    intro n4
    induction n4 with
    | zero => intro ls x1 x2 hl h; exact False.elim h
    | succ n4 ih4 =>
      have L18 : ∀ (n : Nat) (ls : Array Slot) (x1 : Int32) (x2 : Int32) (x3 : Int32), lv_has ls 4 [(0, .ref q_o), (1, .int x1), (2, .int x2), (3, .int x3)] → P_X1_roadCount_l18 v_o_cells post (P_X1_roadCount_l4 v_o_cells post n4) n x1 x2 x3 → W p l e ({ frames := 2, cells := 0, slots := 0, locals := 43 } : Room) s m args below meth c s.heap [] 0 0 Q (F0 m 18 ls []) := by
        intro n18
        induction n18 with
        | zero => intro ls x1 x2 x3 hl h; exact False.elim h
        | succ n18 ih18 =>
          have B41 : ∀ (ls : Array Slot) (x1 : Int32) (x2 : Int32) (x3 : Int32), lv_has ls 4 [(0, .ref q_o), (1, .int x1), (2, .int x2), (3, .int x3)] → P_X1_roadCount_b41 v_o_cells post (P_X1_roadCount_l4 v_o_cells post n4) (P_X1_roadCount_l18 v_o_cells post (P_X1_roadCount_l4 v_o_cells post n4) n18) x1 x2 x3 → W p l e ({ frames := 2, cells := 0, slots := 0, locals := 43 } : Room) s m args below meth c s.heap [] 0 0 Q (F0 m 41 ls []) := by
            intro ls x1 x2 x3 hl h
            unfold P_X1_roadCount_b41 at h
            obtain ⟨x3_1, ex3_1⟩ : ∃ y : Int32, y = x3 + (1 : Int32) := ⟨_, rfl⟩
            have h := h _ ex3_1
            refine lv_iinc (v := x3_1) (lv' := [(3, .int x3_1), (0, .ref q_o), (1, .int x1), (2, .int x2)]) hx hb dX1_roadCount_41 hl (k := 3) rfl (by rw [ex3_1]; rfl) (by decide) rfl (fun ls hl => ?_)
            refine lv_goto (tgt := 18) hx hb dX1_roadCount_44 (by decide) ?_
            exact ih18 _ x1 x2 x3_1 (lv_sub hl [1, 2, 3, 0] rfl) h
          intro ls x1 x2 x3 hl h
          replace h : P_X1_roadCount_b18 v_o_cells post (P_X1_roadCount_l4 v_o_cells post n4) (P_X1_roadCount_l18 v_o_cells post (P_X1_roadCount_l4 v_o_cells post n4) n18) := h x1 x2 x3
          unfold P_X1_roadCount_b18 at h
          refine lv_iload_n hx hb dX1_roadCount_18 rfl (lv_at hl 3 rfl) ?_
          refine lv_aload_n hx hb dX1_roadCount_19 rfl (lv_at hl 0 rfl) ?_
          refine va_get (D := D) (ci := 1) (v := .ref q_o_cells) (C := RX1) (T := TX1) (N := 1) hx hb htb inT_X1 hown hK hP 0 rfl rfl 0 (by decide) (htb _ tb_43) (fun _ h9 => h9) rfl dX1_roadCount_20 ?_
          refine lv_iconst (v := (0 : Int32)) hx hb dX1_roadCount_23 (by decide) ?_
          refine va_iald hx hb hK hP 1 0 rfl rfl (by unfold vp_in; decide) dX1_roadCount_24 ?_
          refine lv_icmp_ge (tgt := 47) hx hb dX1_roadCount_25 (by decide) (fun c_2 => ?_) (fun c_2 => ?_)
          · have h := h.1 c_2
            obtain ⟨x2_3, ex2_3⟩ : ∃ y : Int32, y = x2 + (1 : Int32) := ⟨_, rfl⟩
            have h := h _ ex2_3
            refine lv_iinc (v := x2_3) (lv' := [(2, .int x2_3), (0, .ref q_o), (1, .int x1), (3, .int x3)]) hx hb dX1_roadCount_47 hl (k := 2) rfl (by rw [ex2_3]; rfl) (by decide) rfl (fun ls hl => ?_)
            refine lv_goto (tgt := 4) hx hb dX1_roadCount_50 (by decide) ?_
            exact ih4 _ x1 x2_3 (lv_sub hl [1, 2, 0] rfl) h
          · have h := h.2 c_2
            refine lv_aload_n hx hb dX1_roadCount_28 rfl (lv_at hl 0 rfl) ?_
            refine lv_iload_n hx hb dX1_roadCount_29 rfl (lv_at hl 2 rfl) ?_
            refine lv_iload_n hx hb dX1_roadCount_30 rfl (lv_at hl 3 rfl) ?_
            refine gVR (As := [.int x2, .int x3]) (rest := []) ⟨hx, hb, hml, hown, htb⟩ hK hP hN [0, 1] rfl (c_X1_roadLength l D Cs q_o q_o_cells v_o_cells x2 x3 h) (cwV 2 htb (TB_v tb_221 tb_222 tb_223 tb_16 (TB_self tb_224)) rfl rfl rfl z_X1_roadLength ⟨Nat.le_of_ble_eq_true rfl, Nat.le_of_ble_eq_true rfl⟩) 0 rfl rfl rfl rfl hl.1 rfl (Nat.le_of_ble_eq_true rfl) ⟨Nat.le_of_ble_eq_true rfl, Nat.le_of_ble_eq_true rfl⟩ dX1_roadCount_31 (fun r_4 h => ?_)
            refine lv_iconst (v := (-1 : Int32)) hx hb dX1_roadCount_34 (by decide) ?_
            refine lv_icmp_eq (tgt := 41) hx hb dX1_roadCount_35 (by decide) (fun c_5 => ?_) (fun c_5 => ?_)
            · have h := h.1 c_5
              exact B41 _ x1 x2 x3 (lv_sub hl [0, 1, 2, 3] rfl) h
            · have h := h.2 c_5
              obtain ⟨x1_6, ex1_6⟩ : ∃ y : Int32, y = x1 + (1 : Int32) := ⟨_, rfl⟩
              have h := h _ ex1_6
              refine lv_iinc (v := x1_6) (lv' := [(1, .int x1_6), (0, .ref q_o), (2, .int x2), (3, .int x3)]) hx hb dX1_roadCount_38 hl (k := 1) rfl (by rw [ex1_6]; rfl) (by decide) rfl (fun ls hl => ?_)
              exact B41 _ x1_6 x2 x3 (lv_sub hl [1, 0, 2, 3] rfl) h
      intro ls x1 x2 hl h
      replace h : P_X1_roadCount_b4 v_o_cells post (P_X1_roadCount_l4 v_o_cells post n4) := h x1 x2
      unfold P_X1_roadCount_b4 at h
      refine lv_iload_n hx hb dX1_roadCount_4 rfl (lv_at hl 2 rfl) ?_
      refine lv_aload_n hx hb dX1_roadCount_5 rfl (lv_at hl 0 rfl) ?_
      refine va_get (D := D) (ci := 1) (v := .ref q_o_cells) (C := RX1) (T := TX1) (N := 1) hx hb htb inT_X1 hown hK hP 0 rfl rfl 0 (by decide) (htb _ tb_43) (fun _ h9 => h9) rfl dX1_roadCount_6 ?_
      refine lv_iconst (v := (0 : Int32)) hx hb dX1_roadCount_9 (by decide) ?_
      refine va_iald hx hb hK hP 1 0 rfl rfl (by unfold vp_in; decide) dX1_roadCount_10 ?_
      refine lv_icmp_ge (tgt := 53) hx hb dX1_roadCount_11 (by decide) (fun c_7 => ?_) (fun c_7 => ?_)
      · have h := h.1 c_7
        refine lv_iload_n hx hb dX1_roadCount_53 rfl (lv_at hl 1 rfl) ?_
        rw [← hQ]
        exact gRetR hx hb hr rfl h dX1_roadCount_54 hlocks
      · have h := h.2 c_7
        refine lv_iload_n hx hb dX1_roadCount_14 rfl (lv_at hl 2 rfl) ?_
        refine lv_iconst (v := (1 : Int32)) hx hb dX1_roadCount_15 (by decide) ?_
        refine lv_iadd hx hb dX1_roadCount_16 ?_
        refine lv_topi (fun x3_8 ex3_8 => ?_)
        have h := h _ ex3_8
        refine lv_istore_n (lv' := [(3, .int x3_8), (0, .ref q_o), (1, .int x1), (2, .int x2)]) hx hb dX1_roadCount_17 rfl hl (by decide) rfl (fun ls hl => ?_)
        obtain ⟨n, h⟩ := h
        exact L18 n _ x1 x2 x3_8 (lv_sub hl [1, 2, 3, 0] rfl) h
  unfold P_X1_roadCount at h
  refine lv_iconst (v := (0 : Int32)) hx hb dX1_roadCount_0 (by decide) ?_
  refine lv_istore_n (lv' := [(1, .int (0 : Int32)), (0, .ref q_o)]) hx hb dX1_roadCount_1 rfl hl (by decide) rfl (fun ls hl => ?_)
  refine lv_iconst (v := (0 : Int32)) hx hb dX1_roadCount_2 (by decide) ?_
  refine lv_istore_n (lv' := [(2, .int (0 : Int32)), (1, .int (0 : Int32)), (0, .ref q_o)]) hx hb dX1_roadCount_3 rfl hl (by decide) rfl (fun ls hl => ?_)
  obtain ⟨n, h⟩ := h
  exact L4 n _ (0 : Int32) (0 : Int32) (lv_sub hl [2, 1, 0] rfl) h
def P_X1_setRoad_b44 (x1 : Int32) (x2 : Int32) (x3 : Int32) (post : (Nat → Int32) → Prop) (v_o_cells : (Nat → Int32)) : Prop :=
  post v_o_cells
def P_X1_setRoad (v_o_cells : (Nat → Int32)) (x1 : Int32) (x2 : Int32) (x3 : Int32) (post : (Nat → Int32) → Prop) : Prop :=
  P_X1_isTown v_o_cells x1 (fun r_1 => (r_1 = 0 → P_X1_setRoad_b44 x1 x2 x3 post v_o_cells) ∧ (¬ (r_1 = 0) → (P_X1_isTown v_o_cells x2 (fun r_3 => (r_3 = 0 → P_X1_setRoad_b44 x1 x2 x3 post v_o_cells) ∧ (¬ (r_3 = 0) → (vp_in (((1 : Int32) + (x1 * (10 : Int32))) + x2) 221 ∧ (vp_in (((1 : Int32) + (x2 * (10 : Int32))) + x1) 221 ∧ (P_X1_setRoad_b44 x1 x2 x3 post (upd (upd v_o_cells (((1 : Int32) + (x1 * (10 : Int32))) + x2).toNatClampNeg x3) (((1 : Int32) + (x2 * (10 : Int32))) + x1).toNatClampNeg x3)))))))))
set_option maxHeartbeats 4000000 in
set_option maxRecDepth 100000 in
theorem c_X1_setRoad (l : Launch) (D : va_G) (Cs : Nat → ClassId) (q_o : Nat) (q_o_cells : Nat) (sz : Nat) (v_o_cells : (Nat → Int32)) (x1 : Int32) (x2 : Int32) (x3 : Int32) {post : (Nat → Int32) → Prop} (h : P_X1_setRoad v_o_cells x1 x2 x3 post) : Met l yX1_setRoad wsX1_setRoad ({ frames := 1, cells := 0, slots := 0, locals := 21 } : Room) (va_Pc [.ref q_o, .int x1, .int x2, .int x3] (gM D Cs [(q_o, .inr (1, [.ref q_o_cells])), (q_o_cells, gI Cs 221 v_o_cells)] sz)) (va_Qv (fun (u : (Nat → Int32)) => post u) (gB D (va_A [(q_o, .inr (1, [.ref q_o_cells])), (q_o_cells, gI Cs 221 v_o_cells)] sz) (fun u : (Nat → Int32) => [(q_o, .inr (1, [.ref q_o_cells])), (q_o_cells, gI Cs 221 u)])) (va_A [(q_o, .inr (1, [.ref q_o_cells])), (q_o_cells, gI Cs 221 v_o_cells)] sz)) 0 0 (va_A [(q_o, .inr (1, [.ref q_o_cells])), (q_o_cells, gI Cs 221 v_o_cells)] sz) := by
  refine Met.ofW (cc := cX1_setRoad) (maxL := 4) (ret := none) (by decide) rfl ?_
  intro p e s m args below meth c s₁ B hml hv
  obtain ⟨ha, hsz, hP, hK, hD0, hN⟩ := hv
  have hx := B.exec
  have hb := B.bytes
  have hr := B.returns
  have hts := atoms_spec (ws := wsX1_setRoad) B.pre
  have htb : ∀ w ∈ TB, w.before args s = true := fun w h9 => hts w (List.mem_cons_of_mem _ h9)
  have hown : s.vm.findClass RX1 = some m.cls := findClass_of_methodNamed B.named
  have hlocks := B.notSynchronized
  subst hsz
  have hD := hD0.self (sz := s.heap.size)
  generalize hAe : va_A [(q_o, .inr (1, [.ref q_o_cells])), (q_o_cells, gI Cs 221 v_o_cells)] s.heap.size = A at hD ⊢
  have hA : ∀ q : Nat, s.heap.size ≤ q → A q := fun q h9 => by rw [← hAe]; exact Or.inr h9
  have hS : va_S A s.heap s.heap [] := va_S.rf
  have hP : va_P D vwCl [(q_o, .inr (1, [.ref q_o_cells])), (q_o_cells, gI Cs 221 v_o_cells)] s.heap := hP
  generalize hQ : MQ below _ args s _ _ _ = Q
  show W p l e ({ frames := 1, cells := 0, slots := 0, locals := 21 } : Room) s m args below meth c s.heap [] 0 0 Q (entryFrame m args 4)
  have hent : entryFrame m args 4 = F0 m 0 ((lg_sl ([.ref q_o, .int x1, .int x2, .int x3]) ++ List.replicate (4 - (lg_sl ([.ref q_o, .int x1, .int x2, .int x3])).length) Slot.unset).toArray) [] := by rw [ha]; exact lg_entry_eq m ([.ref q_o, .int x1, .int x2, .int x3]) 4
  rw [hent]; clear hent
  have hl := lv_entry ([.ref q_o, .int x1, .int x2, .int x3]) (n := 4) (Nat.le_of_ble_eq_true rfl)
  generalize (lg_sl ([.ref q_o, .int x1, .int x2, .int x3]) ++ List.replicate (4 - (lg_sl ([.ref q_o, .int x1, .int x2, .int x3])).length) Slot.unset).toArray = ls at hl ⊢
  have hl : lv_has ls 4 [(0, .ref q_o), (1, .int x1), (2, .int x2), (3, .int x3)] := hl
  have B44 : ∀ (H : Heap) (locs : List Loc) (ls : Array Slot) (v_o_cells : (Nat → Int32)), va_P D vwCl [(q_o, .inr (1, [.ref q_o_cells])), (q_o_cells, gI Cs 221 v_o_cells)] H → va_D A [(q_o, .inr (1, [.ref q_o_cells])), (q_o_cells, gI Cs 221 v_o_cells)] → va_S A s.heap H locs → lv_has ls 4 [(0, .ref q_o), (1, .int x1), (2, .int x2), (3, .int x3)] → P_X1_setRoad_b44 x1 x2 x3 post v_o_cells → W p l e ({ frames := 1, cells := 0, slots := 0, locals := 21 } : Room) s m args below meth c H locs 0 0 Q (F0 m 44 ls []) := by
    intro H locs ls v_o_cells hP hD hS hl h
    unfold P_X1_setRoad_b44 at h
    rw [← hQ]
    exact gRetV (u := v_o_cells) hx hb hr h hP hD hS dX1_setRoad_44 hlocks
  unfold P_X1_setRoad at h
  refine lv_aload_n hx hb dX1_setRoad_0 rfl (lv_at hl 0 rfl) ?_
  refine lv_iload_n hx hb dX1_setRoad_1 rfl (lv_at hl 1 rfl) ?_
  refine gVR (As := [.int x1]) (rest := []) ⟨hx, hb, hml, hown, htb⟩ hK hP hN [0, 1] rfl (c_X1_isTown l D Cs q_o q_o_cells v_o_cells x1 h) (cwV 1 htb (TB_v tb_225 tb_226 tb_227 tb_16 (TB_self tb_228)) rfl rfl rfl z_X1_isTown ⟨Nat.le_of_ble_eq_true rfl, Nat.le_of_ble_eq_true rfl⟩) 0 rfl rfl rfl rfl hl.1 rfl (Nat.le_of_ble_eq_true rfl) ⟨Nat.le_of_ble_eq_true rfl, Nat.le_of_ble_eq_true rfl⟩ dX1_setRoad_2 (fun r_1 h => ?_)
  refine lv_if_eq (tgt := 44) hx hb dX1_setRoad_5 (by decide) (fun c_2 => ?_) (fun c_2 => ?_)
  · have h := h.1 c_2
    exact B44 _ _ _ v_o_cells hP hD hS (lv_sub hl [0, 1, 2, 3] rfl) h
  · have h := h.2 c_2
    refine lv_aload_n hx hb dX1_setRoad_8 rfl (lv_at hl 0 rfl) ?_
    refine lv_iload_n hx hb dX1_setRoad_9 rfl (lv_at hl 2 rfl) ?_
    refine gVR (As := [.int x2]) (rest := []) ⟨hx, hb, hml, hown, htb⟩ hK hP hN [0, 1] rfl (c_X1_isTown l D Cs q_o q_o_cells v_o_cells x2 h) (cwV 1 htb (TB_v tb_225 tb_226 tb_227 tb_16 (TB_self tb_228)) rfl rfl rfl z_X1_isTown ⟨Nat.le_of_ble_eq_true rfl, Nat.le_of_ble_eq_true rfl⟩) 0 rfl rfl rfl rfl hl.1 rfl (Nat.le_of_ble_eq_true rfl) ⟨Nat.le_of_ble_eq_true rfl, Nat.le_of_ble_eq_true rfl⟩ dX1_setRoad_10 (fun r_3 h => ?_)
    refine lv_if_eq (tgt := 44) hx hb dX1_setRoad_13 (by decide) (fun c_4 => ?_) (fun c_4 => ?_)
    · have h := h.1 c_4
      exact B44 _ _ _ v_o_cells hP hD hS (lv_sub hl [0, 1, 2, 3] rfl) h
    · have h := h.2 c_4
      refine lv_aload_n hx hb dX1_setRoad_16 rfl (lv_at hl 0 rfl) ?_
      refine va_get (D := D) (ci := 1) (v := .ref q_o_cells) (C := RX1) (T := TX1) (N := 1) hx hb htb inT_X1 hown hK hP 0 rfl rfl 0 (by decide) (htb _ tb_43) (fun _ h9 => h9) rfl dX1_setRoad_17 ?_
      refine lv_iconst (v := (1 : Int32)) hx hb dX1_setRoad_20 (by decide) ?_
      refine lv_iload_n hx hb dX1_setRoad_21 rfl (lv_at hl 1 rfl) ?_
      refine lv_bipush (v := (10 : Int32)) hx hb dX1_setRoad_22 (by decide) ?_
      refine lv_imul hx hb dX1_setRoad_24 ?_
      refine lv_iadd hx hb dX1_setRoad_25 ?_
      refine lv_iload_n hx hb dX1_setRoad_26 rfl (lv_at hl 2 rfl) ?_
      refine lv_iadd hx hb dX1_setRoad_27 ?_
      refine lv_iload_n hx hb dX1_setRoad_28 rfl (lv_at hl 3 rfl) ?_
      obtain ⟨hi_5, h⟩ := h
      refine va_iast hx hb hK hP hD hS 1 0 rfl rfl hi_5 dX1_setRoad_29 (fun H locs hP hD hS => ?_)
      have hP : va_P D vwCl [(q_o, .inr (1, [.ref q_o_cells])), (q_o_cells, gI Cs 221 (upd v_o_cells (((1 : Int32) + (x1 * (10 : Int32))) + x2).toNatClampNeg x3))] H := hP
      have hD : va_D A [(q_o, .inr (1, [.ref q_o_cells])), (q_o_cells, gI Cs 221 (upd v_o_cells (((1 : Int32) + (x1 * (10 : Int32))) + x2).toNatClampNeg x3))] := hD
      refine lv_aload_n hx hb dX1_setRoad_30 rfl (lv_at hl 0 rfl) ?_
      refine va_get (D := D) (ci := 1) (v := .ref q_o_cells) (C := RX1) (T := TX1) (N := 1) hx hb htb inT_X1 hown hK hP 0 rfl rfl 0 (by decide) (htb _ tb_43) (fun _ h9 => h9) rfl dX1_setRoad_31 ?_
      refine lv_iconst (v := (1 : Int32)) hx hb dX1_setRoad_34 (by decide) ?_
      refine lv_iload_n hx hb dX1_setRoad_35 rfl (lv_at hl 2 rfl) ?_
      refine lv_bipush (v := (10 : Int32)) hx hb dX1_setRoad_36 (by decide) ?_
      refine lv_imul hx hb dX1_setRoad_38 ?_
      refine lv_iadd hx hb dX1_setRoad_39 ?_
      refine lv_iload_n hx hb dX1_setRoad_40 rfl (lv_at hl 1 rfl) ?_
      refine lv_iadd hx hb dX1_setRoad_41 ?_
      refine lv_iload_n hx hb dX1_setRoad_42 rfl (lv_at hl 3 rfl) ?_
      obtain ⟨hi_6, h⟩ := h
      refine va_iast hx hb hK hP hD hS 1 0 rfl rfl hi_6 dX1_setRoad_43 (fun H locs hP hD hS => ?_)
      have hP : va_P D vwCl [(q_o, .inr (1, [.ref q_o_cells])), (q_o_cells, gI Cs 221 (upd (upd v_o_cells (((1 : Int32) + (x1 * (10 : Int32))) + x2).toNatClampNeg x3) (((1 : Int32) + (x2 * (10 : Int32))) + x1).toNatClampNeg x3))] H := hP
      have hD : va_D A [(q_o, .inr (1, [.ref q_o_cells])), (q_o_cells, gI Cs 221 (upd (upd v_o_cells (((1 : Int32) + (x1 * (10 : Int32))) + x2).toNatClampNeg x3) (((1 : Int32) + (x2 * (10 : Int32))) + x1).toNatClampNeg x3))] := hD
      exact B44 _ _ _ (upd (upd v_o_cells (((1 : Int32) + (x1 * (10 : Int32))) + x2).toNatClampNeg x3) (((1 : Int32) + (x2 * (10 : Int32))) + x1).toNatClampNeg x3) hP hD hS (lv_sub hl [0, 1, 2, 3] rfl) h
