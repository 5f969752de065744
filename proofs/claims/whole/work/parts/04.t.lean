def P_X1_isTown_b25 (v_o_cells : (Nat → Int32)) (x1 : Int32) (post : Int32 → Prop) (s0 : Int32) : Prop :=
  narrow .boolean (.int s0) = .int s0 ∧ post s0
def P_X1_isTown_b24 (v_o_cells : (Nat → Int32)) (x1 : Int32) (post : Int32 → Prop) : Prop :=
  P_X1_isTown_b25 v_o_cells x1 post (0 : Int32)
def P_X1_isTown (v_o_cells : (Nat → Int32)) (x1 : Int32) (post : Int32 → Prop) : Prop :=
  (x1 < 0 → P_X1_isTown_b24 v_o_cells x1 post) ∧ (¬ (x1 < 0) → (((v_o_cells (0 : Int32).toNatClampNeg) ≤ x1 → P_X1_isTown_b24 v_o_cells x1 post) ∧ (¬ ((v_o_cells (0 : Int32).toNatClampNeg) ≤ x1) → (((10 : Int32) ≤ x1 → P_X1_isTown_b24 v_o_cells x1 post) ∧ (¬ ((10 : Int32) ≤ x1) → (P_X1_isTown_b25 v_o_cells x1 post (1 : Int32)))))))
set_option maxHeartbeats 4000000 in
set_option maxRecDepth 100000 in
theorem c_X1_isTown (l : Launch) (D : va_G) (Cs : Nat → ClassId) (q_o : Nat) (q_o_cells : Nat) (v_o_cells : (Nat → Int32)) (x1 : Int32) {post : Int32 → Prop} (h : P_X1_isTown v_o_cells x1 post) : Met l yX1_isTown wsX1_isTown ({ frames := 0, cells := 0, slots := 0, locals := 0 } : Room) (va_Pc [.ref q_o, .int x1] (gR D Cs [(q_o, .inr (1, [.ref q_o_cells])), (q_o_cells, gI Cs 221 v_o_cells)])) (vp_Si post) 0 0 (fun _ => False) := by
  refine Met.ofW (cc := cX1_isTown) (maxL := 2) (ret := (some .boolean)) (by decide) rfl ?_
  intro p e s m args below meth c s₁ B hml hv
  obtain ⟨ha, hP, hK, hN⟩ := hv
  have hx := B.exec
  have hb := B.bytes
  have hr := B.returns
  have hts := atoms_spec (ws := wsX1_isTown) B.pre
  have htb : ∀ w ∈ TB, w.before args s = true := fun w h9 => hts w (List.mem_cons_of_mem _ h9)
  have hown : s.vm.findClass RX1 = some m.cls := findClass_of_methodNamed B.named
  have hlocks := B.notSynchronized
  generalize hQ : MQ below _ args s _ _ _ = Q
  show W p l e ({ frames := 0, cells := 0, slots := 0, locals := 0 } : Room) s m args below meth c s.heap [] 0 0 Q (entryFrame m args 2)
  have hent : entryFrame m args 2 = F0 m 0 ((lg_sl ([.ref q_o, .int x1]) ++ List.replicate (2 - (lg_sl ([.ref q_o, .int x1])).length) Slot.unset).toArray) [] := by rw [ha]; exact lg_entry_eq m ([.ref q_o, .int x1]) 2
  rw [hent]; clear hent
  have hl := lv_entry ([.ref q_o, .int x1]) (n := 2) (Nat.le_of_ble_eq_true rfl)
  generalize (lg_sl ([.ref q_o, .int x1]) ++ List.replicate (2 - (lg_sl ([.ref q_o, .int x1])).length) Slot.unset).toArray = ls at hl ⊢
  have hl : lv_has ls 2 [(0, .ref q_o), (1, .int x1)] := hl
  have B25 : ∀ (ls : Array Slot) (s0 : Int32), lv_has ls 2 [(0, .ref q_o), (1, .int x1)] → P_X1_isTown_b25 v_o_cells x1 post s0 → W p l e ({ frames := 0, cells := 0, slots := 0, locals := 0 } : Room) s m args below meth c s.heap [] 0 0 Q (F0 m 25 ls [.int s0]) := by
    intro ls s0 hl h
    unfold P_X1_isTown_b25 at h
    obtain ⟨hnb, h⟩ := h
    rw [← hQ]
    exact gRetR hx hb hr hnb h dX1_isTown_25 hlocks
  have B24 : ∀ (ls : Array Slot), lv_has ls 2 [(0, .ref q_o), (1, .int x1)] → P_X1_isTown_b24 v_o_cells x1 post → W p l e ({ frames := 0, cells := 0, slots := 0, locals := 0 } : Room) s m args below meth c s.heap [] 0 0 Q (F0 m 24 ls []) := by
    intro ls hl h
    unfold P_X1_isTown_b24 at h
    refine lv_iconst (v := (0 : Int32)) hx hb dX1_isTown_24 (by decide) ?_
    exact B25 _ (0 : Int32) (lv_sub hl [0, 1] rfl) h
  unfold P_X1_isTown at h
  refine lv_iload_n hx hb dX1_isTown_0 rfl (lv_at hl 1 rfl) ?_
  refine lv_if_lt (tgt := 24) hx hb dX1_isTown_1 (by decide) (fun c_1 => ?_) (fun c_1 => ?_)
  · have h := h.1 c_1
    exact B24 _ (lv_sub hl [0, 1] rfl) h
  · have h := h.2 c_1
    refine lv_iload_n hx hb dX1_isTown_4 rfl (lv_at hl 1 rfl) ?_
    refine lv_aload_n hx hb dX1_isTown_5 rfl (lv_at hl 0 rfl) ?_
    refine va_get (D := D) (ci := 1) (v := .ref q_o_cells) (C := RX1) (T := TX1) (N := 1) hx hb htb inT_X1 hown hK hP 0 rfl rfl 0 (by decide) (htb _ tb_43) (fun _ h9 => h9) rfl dX1_isTown_6 ?_
    refine lv_iconst (v := (0 : Int32)) hx hb dX1_isTown_9 (by decide) ?_
    refine va_iald hx hb hK hP 1 0 rfl rfl (by unfold vp_in; decide) dX1_isTown_10 ?_
    refine lv_icmp_ge (tgt := 24) hx hb dX1_isTown_11 (by decide) (fun c_2 => ?_) (fun c_2 => ?_)
    · have h := h.1 c_2
      exact B24 _ (lv_sub hl [0, 1] rfl) h
    · have h := h.2 c_2
      refine lv_iload_n hx hb dX1_isTown_14 rfl (lv_at hl 1 rfl) ?_
      refine lv_bipush (v := (10 : Int32)) hx hb dX1_isTown_15 (by decide) ?_
      refine lv_icmp_ge (tgt := 24) hx hb dX1_isTown_17 (by decide) (fun c_3 => ?_) (fun c_3 => ?_)
      · have h := h.1 c_3
        exact B24 _ (lv_sub hl [0, 1] rfl) h
      · have h := h.2 c_3
        refine lv_iconst (v := (1 : Int32)) hx hb dX1_isTown_20 (by decide) ?_
        refine lv_goto (tgt := 25) hx hb dX1_isTown_21 (by decide) ?_
        exact B25 _ (1 : Int32) (lv_sub hl [0, 1] rfl) h
def P_X1_roadLength_b33 (v_o_cells : (Nat → Int32)) (x1 : Int32) (x2 : Int32) (post : Int32 → Prop) (s0 : Int32) : Prop :=
  post s0
def P_X1_roadLength_b32 (v_o_cells : (Nat → Int32)) (x1 : Int32) (x2 : Int32) (post : Int32 → Prop) : Prop :=
  P_X1_roadLength_b33 v_o_cells x1 x2 post (-1 : Int32)
def P_X1_roadLength (v_o_cells : (Nat → Int32)) (x1 : Int32) (x2 : Int32) (post : Int32 → Prop) : Prop :=
  P_X1_isTown v_o_cells x1 (fun r_1 => (r_1 = 0 → P_X1_roadLength_b32 v_o_cells x1 x2 post) ∧ (¬ (r_1 = 0) → (P_X1_isTown v_o_cells x2 (fun r_3 => (r_3 = 0 → P_X1_roadLength_b32 v_o_cells x1 x2 post) ∧ (¬ (r_3 = 0) → (vp_in (((1 : Int32) + (x1 * (10 : Int32))) + x2) 221 ∧ (P_X1_roadLength_b33 v_o_cells x1 x2 post (v_o_cells (((1 : Int32) + (x1 * (10 : Int32))) + x2).toNatClampNeg))))))))
set_option maxHeartbeats 4000000 in
set_option maxRecDepth 100000 in
theorem c_X1_roadLength (l : Launch) (D : va_G) (Cs : Nat → ClassId) (q_o : Nat) (q_o_cells : Nat) (v_o_cells : (Nat → Int32)) (x1 : Int32) (x2 : Int32) {post : Int32 → Prop} (h : P_X1_roadLength v_o_cells x1 x2 post) : Met l yX1_roadLength wsX1_roadLength ({ frames := 1, cells := 0, slots := 0, locals := 21 } : Room) (va_Pc [.ref q_o, .int x1, .int x2] (gR D Cs [(q_o, .inr (1, [.ref q_o_cells])), (q_o_cells, gI Cs 221 v_o_cells)])) (vp_Si post) 0 0 (fun _ => False) := by
  refine Met.ofW (cc := cX1_roadLength) (maxL := 3) (ret := (some .int)) (by decide) rfl ?_
  intro p e s m args below meth c s₁ B hml hv
  obtain ⟨ha, hP, hK, hN⟩ := hv
  have hx := B.exec
  have hb := B.bytes
  have hr := B.returns
  have hts := atoms_spec (ws := wsX1_roadLength) B.pre
  have htb : ∀ w ∈ TB, w.before args s = true := fun w h9 => hts w (List.mem_cons_of_mem _ h9)
  have hown : s.vm.findClass RX1 = some m.cls := findClass_of_methodNamed B.named
  have hlocks := B.notSynchronized
  generalize hQ : MQ below _ args s _ _ _ = Q
  show W p l e ({ frames := 1, cells := 0, slots := 0, locals := 21 } : Room) s m args below meth c s.heap [] 0 0 Q (entryFrame m args 3)
  have hent : entryFrame m args 3 = F0 m 0 ((lg_sl ([.ref q_o, .int x1, .int x2]) ++ List.replicate (3 - (lg_sl ([.ref q_o, .int x1, .int x2])).length) Slot.unset).toArray) [] := by rw [ha]; exact lg_entry_eq m ([.ref q_o, .int x1, .int x2]) 3
  rw [hent]; clear hent
  have hl := lv_entry ([.ref q_o, .int x1, .int x2]) (n := 3) (Nat.le_of_ble_eq_true rfl)
  generalize (lg_sl ([.ref q_o, .int x1, .int x2]) ++ List.replicate (3 - (lg_sl ([.ref q_o, .int x1, .int x2])).length) Slot.unset).toArray = ls at hl ⊢
  have hl : lv_has ls 3 [(0, .ref q_o), (1, .int x1), (2, .int x2)] := hl
  have B33 : ∀ (ls : Array Slot) (s0 : Int32), lv_has ls 3 [(0, .ref q_o), (1, .int x1), (2, .int x2)] → P_X1_roadLength_b33 v_o_cells x1 x2 post s0 → W p l e ({ frames := 1, cells := 0, slots := 0, locals := 21 } : Room) s m args below meth c s.heap [] 0 0 Q (F0 m 33 ls [.int s0]) := by
    intro ls s0 hl h
    unfold P_X1_roadLength_b33 at h
    rw [← hQ]
    exact gRetR hx hb hr rfl h dX1_roadLength_33 hlocks
  have B32 : ∀ (ls : Array Slot), lv_has ls 3 [(0, .ref q_o), (1, .int x1), (2, .int x2)] → P_X1_roadLength_b32 v_o_cells x1 x2 post → W p l e ({ frames := 1, cells := 0, slots := 0, locals := 21 } : Room) s m args below meth c s.heap [] 0 0 Q (F0 m 32 ls []) := by
    intro ls hl h
    unfold P_X1_roadLength_b32 at h
    refine lv_iconst (v := (-1 : Int32)) hx hb dX1_roadLength_32 (by decide) ?_
    exact B33 _ (-1 : Int32) (lv_sub hl [0, 1, 2] rfl) h
  unfold P_X1_roadLength at h
  refine lv_aload_n hx hb dX1_roadLength_0 rfl (lv_at hl 0 rfl) ?_
  refine lv_iload_n hx hb dX1_roadLength_1 rfl (lv_at hl 1 rfl) ?_
  refine gVR (As := [.int x1]) (rest := []) ⟨hx, hb, hml, hown, htb⟩ hK hP hN [0, 1] rfl (c_X1_isTown l D Cs q_o q_o_cells v_o_cells x1 h) (cwV 1 htb (TB_v tb_225 tb_226 tb_227 tb_16 (TB_self tb_228)) rfl rfl rfl z_X1_isTown ⟨Nat.le_of_ble_eq_true rfl, Nat.le_of_ble_eq_true rfl⟩) 0 rfl rfl rfl rfl hl.1 rfl (Nat.le_of_ble_eq_true rfl) ⟨Nat.le_of_ble_eq_true rfl, Nat.le_of_ble_eq_true rfl⟩ dX1_roadLength_2 (fun r_1 h => ?_)
  refine lv_if_eq (tgt := 32) hx hb dX1_roadLength_5 (by decide) (fun c_2 => ?_) (fun c_2 => ?_)
  · have h := h.1 c_2
    exact B32 _ (lv_sub hl [0, 1, 2] rfl) h
  · have h := h.2 c_2
    refine lv_aload_n hx hb dX1_roadLength_8 rfl (lv_at hl 0 rfl) ?_
    refine lv_iload_n hx hb dX1_roadLength_9 rfl (lv_at hl 2 rfl) ?_
    refine gVR (As := [.int x2]) (rest := []) ⟨hx, hb, hml, hown, htb⟩ hK hP hN [0, 1] rfl (c_X1_isTown l D Cs q_o q_o_cells v_o_cells x2 h) (cwV 1 htb (TB_v tb_225 tb_226 tb_227 tb_16 (TB_self tb_228)) rfl rfl rfl z_X1_isTown ⟨Nat.le_of_ble_eq_true rfl, Nat.le_of_ble_eq_true rfl⟩) 0 rfl rfl rfl rfl hl.1 rfl (Nat.le_of_ble_eq_true rfl) ⟨Nat.le_of_ble_eq_true rfl, Nat.le_of_ble_eq_true rfl⟩ dX1_roadLength_10 (fun r_3 h => ?_)
    refine lv_if_eq (tgt := 32) hx hb dX1_roadLength_13 (by decide) (fun c_4 => ?_) (fun c_4 => ?_)
    · have h := h.1 c_4
      exact B32 _ (lv_sub hl [0, 1, 2] rfl) h
    · have h := h.2 c_4
      refine lv_aload_n hx hb dX1_roadLength_16 rfl (lv_at hl 0 rfl) ?_
      refine va_get (D := D) (ci := 1) (v := .ref q_o_cells) (C := RX1) (T := TX1) (N := 1) hx hb htb inT_X1 hown hK hP 0 rfl rfl 0 (by decide) (htb _ tb_43) (fun _ h9 => h9) rfl dX1_roadLength_17 ?_
      refine lv_iconst (v := (1 : Int32)) hx hb dX1_roadLength_20 (by decide) ?_
      refine lv_iload_n hx hb dX1_roadLength_21 rfl (lv_at hl 1 rfl) ?_
      refine lv_bipush (v := (10 : Int32)) hx hb dX1_roadLength_22 (by decide) ?_
      refine lv_imul hx hb dX1_roadLength_24 ?_
      refine lv_iadd hx hb dX1_roadLength_25 ?_
      refine lv_iload_n hx hb dX1_roadLength_26 rfl (lv_at hl 2 rfl) ?_
      refine lv_iadd hx hb dX1_roadLength_27 ?_
      obtain ⟨hi_5, h⟩ := h
      refine va_iald hx hb hK hP 1 0 rfl rfl hi_5 dX1_roadLength_28 ?_
      refine lv_goto (tgt := 33) hx hb dX1_roadLength_29 (by decide) ?_
      exact B33 _ (v_o_cells (((1 : Int32) + (x1 * (10 : Int32))) + x2).toNatClampNeg) (lv_sub hl [0, 1, 2] rfl) h
def P_X1_roadCount_b41 (v_o_cells : (Nat → Int32)) (post : Int32 → Prop) (K4 : Int32 → Int32 → Prop) (K18 : Int32 → Int32 → Int32 → Prop) (x1 : Int32) (x2 : Int32) (x3 : Int32) : Prop :=
  ∀ x3_1 : Int32, x3_1 = x3 + (1 : Int32) → K18 x1 x2 x3_1
def P_X1_roadCount_b18 (v_o_cells : (Nat → Int32)) (post : Int32 → Prop) (K4 : Int32 → Int32 → Prop) (K18 : Int32 → Int32 → Int32 → Prop) (x1 : Int32) (x2 : Int32) (x3 : Int32) : Prop :=
  ((v_o_cells (0 : Int32).toNatClampNeg) ≤ x3 → (∀ x2_3 : Int32, x2_3 = x2 + (1 : Int32) → K4 x1 x2_3)) ∧ (¬ ((v_o_cells (0 : Int32).toNatClampNeg) ≤ x3) → (P_X1_roadLength v_o_cells x2 x3 (fun r_4 => (r_4 = (-1 : Int32) → P_X1_roadCount_b41 v_o_cells post K4 K18 x1 x2 x3) ∧ (¬ (r_4 = (-1 : Int32)) → (∀ x1_6 : Int32, x1_6 = x1 + (1 : Int32) → P_X1_roadCount_b41 v_o_cells post K4 K18 x1_6 x2 x3)))))
def P_X1_roadCount_l18 (v_o_cells : (Nat → Int32)) (post : Int32 → Prop) (K4 : Int32 → Int32 → Prop) : Nat → Int32 → Int32 → Int32 → Prop
  | 0 => fun _ _ _ => False
  | n + 1 => P_X1_roadCount_b18 v_o_cells post K4 (P_X1_roadCount_l18 v_o_cells post K4 n)
def P_X1_roadCount_b4 (v_o_cells : (Nat → Int32)) (post : Int32 → Prop) (K4 : Int32 → Int32 → Prop) (x1 : Int32) (x2 : Int32) : Prop :=
  ((v_o_cells (0 : Int32).toNatClampNeg) ≤ x2 → post x1) ∧ (¬ ((v_o_cells (0 : Int32).toNatClampNeg) ≤ x2) → (∀ x3_8 : Int32, x3_8 = x2 + (1 : Int32) → ∃ n, P_X1_roadCount_l18 v_o_cells post K4 n x1 x2 x3_8))
def P_X1_roadCount_l4 (v_o_cells : (Nat → Int32)) (post : Int32 → Prop) : Nat → Int32 → Int32 → Prop
  | 0 => fun _ _ => False
  | n + 1 => P_X1_roadCount_b4 v_o_cells post (P_X1_roadCount_l4 v_o_cells post n)
def P_X1_roadCount (v_o_cells : (Nat → Int32)) (post : Int32 → Prop) : Prop :=
  ∃ n, P_X1_roadCount_l4 v_o_cells post n (0 : Int32) (0 : Int32)
set_option maxHeartbeats 4000000 in
set_option maxRecDepth 100000 in
theorem c_X1_roadCount (l : Launch) (D : va_G) (Cs : Nat → ClassId) (q_o : Nat) (q_o_cells : Nat) (v_o_cells : (Nat → Int32)) {post : Int32 → Prop} (h : P_X1_roadCount v_o_cells post) : Met l yX1_roadCount wsX1_roadCount ({ frames := 2, cells := 0, slots := 0, locals := 43 } : Room) (va_Pc [.ref q_o] (gR D Cs [(q_o, .inr (1, [.ref q_o_cells])), (q_o_cells, gI Cs 221 v_o_cells)])) (vp_Si post) 0 0 (fun _ => False) := by
  refine Met.ofW (cc := cX1_roadCount) (maxL := 4) (ret := (some .int)) (by decide) rfl ?_
  intro p e s m args below meth c s₁ B hml hv
  obtain ⟨ha, hP, hK, hN⟩ := hv
  have hx := B.exec
  have hb := B.bytes
  have hr := B.returns
  have hts := atoms_spec (ws := wsX1_roadCount) B.pre
  have htb : ∀ w ∈ TB, w.before args s = true := fun w h9 => hts w (List.mem_cons_of_mem _ h9)
  have hown : s.vm.findClass RX1 = some m.cls := findClass_of_methodNamed B.named
  have hlocks := B.notSynchronized
  generalize hQ : MQ below _ args s _ _ _ = Q
  show W p l e ({ frames := 2, cells := 0, slots := 0, locals := 43 } : Room) s m args below meth c s.heap [] 0 0 Q (entryFrame m args 4)
  have hent : entryFrame m args 4 = F0 m 0 ((lg_sl ([.ref q_o]) ++ List.replicate (4 - (lg_sl ([.ref q_o])).length) Slot.unset).toArray) [] := by rw [ha]; exact lg_entry_eq m ([.ref q_o]) 4
  rw [hent]; clear hent
  have hl := lv_entry ([.ref q_o]) (n := 4) (Nat.le_of_ble_eq_true rfl)
  generalize (lg_sl ([.ref q_o]) ++ List.replicate (4 - (lg_sl ([.ref q_o])).length) Slot.unset).toArray = ls at hl ⊢
  have hl : lv_has ls 4 [(0, .ref q_o)] := hl
  have L4 : ∀ (n : Nat) (ls : Array Slot) (x1 : Int32) (x2 : Int32), lv_has ls 4 [(0, .ref q_o), (1, .int x1), (2, .int x2)] → P_X1_roadCount_l4 v_o_cells post n x1 x2 → W p l e ({ frames := 2, cells := 0, slots := 0, locals := 43 } : Room) s m args below meth c s.heap [] 0 0 Q (F0 m 4 ls []) := by
    intro n4
    induction n4 with
    | zero => intro ls x1 x2 hl h; exact False.elim h
    | succ n4 ih4 =>
      have L18 : ∀ (n : Nat) (ls : Array Slot) (x1 : Int32) (x2 : Int32) (x3 : Int32), lv_has ls 4 [(0, .ref q_o), (1, .int x1), (2, .int x2), (3, .int x3)] → P_X1_roadCount_l18 v_o_cells post (P_X1_roadCount_l4 v_o_cells post n4) n x1 x2 x3 → W p l e ({ frames := 2, cells := 0, slots := 0, locals := 43 } : Room) s m args below meth c s.heap [] 0 0 Q (F0 m 18 ls []) := by
        intro n18
        induction n18 with
        | zero => intro ls x1 x2 x3 hl h; exact False.elim h
        | succ n18 ih18 =>
          have B41 : ∀ (ls : Array Slot) (x1 : Int32) (x2 : Int32) (x3 : Int32), lv_has ls 4 [(0, .ref q_o), (1, .int x1), (2, .int x2), (3, .int x3)] → P_X1_roadCount_b41 v_o_cells post (P_X1_roadCount_l4 v_o_cells post n4) (P_X1_roadCount_l18 v_o_cells post (P_X1_roadCount_l4 v_o_cells post n4) n18) x1 x2 x3 → W p l e ({ frames := 2, cells := 0, slots := 0, locals := 43 } : Room) s m args below meth c s.heap [] 0 0 Q (F0 m 41 ls []) := by
            intro ls x1 x2 x3 hl h
            unfold P_X1_roadCount_b41 at h
            obtain ⟨x3_1, ex3_1⟩ : ∃ y : Int32, y = x3 + (1 : Int32) := ⟨_, rfl⟩
            have h := h _ ex3_1
            refine lv_iinc (v := x3_1) (lv' := [(3, .int x3_1), (0, .ref q_o), (1, .int x1), (2, .int x2)]) hx hb dX1_roadCount_41 hl (k := 3) rfl (by rw [ex3_1]; rfl) (by decide) rfl (fun ls hl => ?_)
            refine lv_goto (tgt := 18) hx hb dX1_roadCount_44 (by decide) ?_
            exact ih18 _ x1 x2 x3_1 (lv_sub hl [1, 2, 3, 0] rfl) h
          intro ls x1 x2 x3 hl h
          replace h : P_X1_roadCount_b18 v_o_cells post (P_X1_roadCount_l4 v_o_cells post n4) (P_X1_roadCount_l18 v_o_cells post (P_X1_roadCount_l4 v_o_cells post n4) n18) x1 x2 x3 := h
          unfold P_X1_roadCount_b18 at h
          refine lv_iload_n hx hb dX1_roadCount_18 rfl (lv_at hl 3 rfl) ?_
          refine lv_aload_n hx hb dX1_roadCount_19 rfl (lv_at hl 0 rfl) ?_
          refine va_get (D := D) (ci := 1) (v := .ref q_o_cells) (C := RX1) (T := TX1) (N := 1) hx hb htb inT_X1 hown hK hP 0 rfl rfl 0 (by decide) (htb _ tb_43) (fun _ h9 => h9) rfl dX1_roadCount_20 ?_
          refine lv_iconst (v := (0 : Int32)) hx hb dX1_roadCount_23 (by decide) ?_
          refine va_iald hx hb hK hP 1 0 rfl rfl (by unfold vp_in; decide) dX1_roadCount_24 ?_
          refine lv_icmp_ge (tgt := 47) hx hb dX1_roadCount_25 (by decide) (fun c_2 => ?_) (fun c_2 => ?_)
          · have h := h.1 c_2
            obtain ⟨x2_3, ex2_3⟩ : ∃ y : Int32, y = x2 + (1 : Int32) := ⟨_, rfl⟩
            have h := h _ ex2_3
            refine lv_iinc (v := x2_3) (lv' := [(2, .int x2_3), (0, .ref q_o), (1, .int x1), (3, .int x3)]) hx hb dX1_roadCount_47 hl (k := 2) rfl (by rw [ex2_3]; rfl) (by decide) rfl (fun ls hl => ?_)
            refine lv_goto (tgt := 4) hx hb dX1_roadCount_50 (by decide) ?_
            exact ih4 _ x1 x2_3 (lv_sub hl [1, 2, 0] rfl) h
          · have h := h.2 c_2
            refine lv_aload_n hx hb dX1_roadCount_28 rfl (lv_at hl 0 rfl) ?_
            refine lv_iload_n hx hb dX1_roadCount_29 rfl (lv_at hl 2 rfl) ?_
            refine lv_iload_n hx hb dX1_roadCount_30 rfl (lv_at hl 3 rfl) ?_
            refine gVR (As := [.int x2, .int x3]) (rest := []) ⟨hx, hb, hml, hown, htb⟩ hK hP hN [0, 1] rfl (c_X1_roadLength l D Cs q_o q_o_cells v_o_cells x2 x3 h) (cwV 2 htb (TB_v tb_221 tb_222 tb_223 tb_16 (TB_self tb_224)) rfl rfl rfl z_X1_roadLength ⟨Nat.le_of_ble_eq_true rfl, Nat.le_of_ble_eq_true rfl⟩) 0 rfl rfl rfl rfl hl.1 rfl (Nat.le_of_ble_eq_true rfl) ⟨Nat.le_of_ble_eq_true rfl, Nat.le_of_ble_eq_true rfl⟩ dX1_roadCount_31 (fun r_4 h => ?_)
            refine lv_iconst (v := (-1 : Int32)) hx hb dX1_roadCount_34 (by decide) ?_
            refine lv_icmp_eq (tgt := 41) hx hb dX1_roadCount_35 (by decide) (fun c_5 => ?_) (fun c_5 => ?_)
            · have h := h.1 c_5
              exact B41 _ x1 x2 x3 (lv_sub hl [0, 1, 2, 3] rfl) h
            · have h := h.2 c_5
              obtain ⟨x1_6, ex1_6⟩ : ∃ y : Int32, y = x1 + (1 : Int32) := ⟨_, rfl⟩
              have h := h _ ex1_6
              refine lv_iinc (v := x1_6) (lv' := [(1, .int x1_6), (0, .ref q_o), (2, .int x2), (3, .int x3)]) hx hb dX1_roadCount_38 hl (k := 1) rfl (by rw [ex1_6]; rfl) (by decide) rfl (fun ls hl => ?_)
              exact B41 _ x1_6 x2 x3 (lv_sub hl [1, 0, 2, 3] rfl) h
      intro ls x1 x2 hl h
      replace h : P_X1_roadCount_b4 v_o_cells post (P_X1_roadCount_l4 v_o_cells post n4) x1 x2 := h
      unfold P_X1_roadCount_b4 at h
      refine lv_iload_n hx hb dX1_roadCount_4 rfl (lv_at hl 2 rfl) ?_
      refine lv_aload_n hx hb dX1_roadCount_5 rfl (lv_at hl 0 rfl) ?_
      refine va_get (D := D) (ci := 1) (v := .ref q_o_cells) (C := RX1) (T := TX1) (N := 1) hx hb htb inT_X1 hown hK hP 0 rfl rfl 0 (by decide) (htb _ tb_43) (fun _ h9 => h9) rfl dX1_roadCount_6 ?_
      refine lv_iconst (v := (0 : Int32)) hx hb dX1_roadCount_9 (by decide) ?_
      refine va_iald hx hb hK hP 1 0 rfl rfl (by unfold vp_in; decide) dX1_roadCount_10 ?_
      refine lv_icmp_ge (tgt := 53) hx hb dX1_roadCount_11 (by decide) (fun c_7 => ?_) (fun c_7 => ?_)
      · have h := h.1 c_7
        refine lv_iload_n hx hb dX1_roadCount_53 rfl (lv_at hl 1 rfl) ?_
        rw [← hQ]
        exact gRetR hx hb hr rfl h dX1_roadCount_54 hlocks
      · have h := h.2 c_7
        refine lv_iload_n hx hb dX1_roadCount_14 rfl (lv_at hl 2 rfl) ?_
        refine lv_iconst (v := (1 : Int32)) hx hb dX1_roadCount_15 (by decide) ?_
        refine lv_iadd hx hb dX1_roadCount_16 ?_
        refine lv_topi (fun x3_8 ex3_8 => ?_)
        have h := h _ ex3_8
        refine lv_istore_n (lv' := [(3, .int x3_8), (0, .ref q_o), (1, .int x1), (2, .int x2)]) hx hb dX1_roadCount_17 rfl hl (by decide) rfl (fun ls hl => ?_)
        obtain ⟨n, h⟩ := h
        exact L18 n _ x1 x2 x3_8 (lv_sub hl [1, 2, 3, 0] rfl) h
  unfold P_X1_roadCount at h
  refine lv_iconst (v := (0 : Int32)) hx hb dX1_roadCount_0 (by decide) ?_
  refine lv_istore_n (lv' := [(1, .int (0 : Int32)), (0, .ref q_o)]) hx hb dX1_roadCount_1 rfl hl (by decide) rfl (fun ls hl => ?_)
  refine lv_iconst (v := (0 : Int32)) hx hb dX1_roadCount_2 (by decide) ?_
  refine lv_istore_n (lv' := [(2, .int (0 : Int32)), (1, .int (0 : Int32)), (0, .ref q_o)]) hx hb dX1_roadCount_3 rfl hl (by decide) rfl (fun ls hl => ?_)
  obtain ⟨n, h⟩ := h
  exact L4 n _ (0 : Int32) (0 : Int32) (lv_sub hl [2, 1, 0] rfl) h
def P_X1_setRoad_b44 (x1 : Int32) (x2 : Int32) (x3 : Int32) (post : (Nat → Int32) → Prop) (v_o_cells : (Nat → Int32)) : Prop :=
  post v_o_cells
def P_X1_setRoad (v_o_cells : (Nat → Int32)) (x1 : Int32) (x2 : Int32) (x3 : Int32) (post : (Nat → Int32) → Prop) : Prop :=
  P_X1_isTown v_o_cells x1 (fun r_1 => (r_1 = 0 → P_X1_setRoad_b44 x1 x2 x3 post v_o_cells) ∧ (¬ (r_1 = 0) → (P_X1_isTown v_o_cells x2 (fun r_3 => (r_3 = 0 → P_X1_setRoad_b44 x1 x2 x3 post v_o_cells) ∧ (¬ (r_3 = 0) → (vp_in (((1 : Int32) + (x1 * (10 : Int32))) + x2) 221 ∧ (vp_in (((1 : Int32) + (x2 * (10 : Int32))) + x1) 221 ∧ (P_X1_setRoad_b44 x1 x2 x3 post (upd (upd v_o_cells (((1 : Int32) + (x1 * (10 : Int32))) + x2).toNatClampNeg x3) (((1 : Int32) + (x2 * (10 : Int32))) + x1).toNatClampNeg x3)))))))))
set_option maxHeartbeats 4000000 in
set_option maxRecDepth 100000 in
theorem c_X1_setRoad (l : Launch) (D : va_G) (Cs : Nat → ClassId) (q_o : Nat) (q_o_cells : Nat) (sz : Nat) (v_o_cells : (Nat → Int32)) (x1 : Int32) (x2 : Int32) (x3 : Int32) {post : (Nat → Int32) → Prop} (h : P_X1_setRoad v_o_cells x1 x2 x3 post) : Met l yX1_setRoad wsX1_setRoad ({ frames := 1, cells := 0, slots := 0, locals := 21 } : Room) (va_Pc [.ref q_o, .int x1, .int x2, .int x3] (gM D Cs [(q_o, .inr (1, [.ref q_o_cells])), (q_o_cells, gI Cs 221 v_o_cells)] sz)) (va_Qv (fun (u : (Nat → Int32)) => post u) (gB D (va_A [(q_o, .inr (1, [.ref q_o_cells])), (q_o_cells, gI Cs 221 v_o_cells)] sz) (fun u : (Nat → Int32) => [(q_o, .inr (1, [.ref q_o_cells])), (q_o_cells, gI Cs 221 u)])) (va_A [(q_o, .inr (1, [.ref q_o_cells])), (q_o_cells, gI Cs 221 v_o_cells)] sz)) 0 0 (va_A [(q_o, .inr (1, [.ref q_o_cells])), (q_o_cells, gI Cs 221 v_o_cells)] sz) := by
  refine Met.ofW (cc := cX1_setRoad) (maxL := 4) (ret := none) (by decide) rfl ?_
  intro p e s m args below meth c s₁ B hml hv
  obtain ⟨ha, hsz, hP, hK, hD0, hN⟩ := hv
  have hx := B.exec
  have hb := B.bytes
  have hr := B.returns
  have hts := atoms_spec (ws := wsX1_setRoad) B.pre
  have htb : ∀ w ∈ TB, w.before args s = true := fun w h9 => hts w (List.mem_cons_of_mem _ h9)
  have hown : s.vm.findClass RX1 = some m.cls := findClass_of_methodNamed B.named
  have hlocks := B.notSynchronized
  subst hsz
  have hD := hD0.self (sz := s.heap.size)
  generalize hAe : va_A [(q_o, .inr (1, [.ref q_o_cells])), (q_o_cells, gI Cs 221 v_o_cells)] s.heap.size = A at hD ⊢
  have hA : ∀ q : Nat, s.heap.size ≤ q → A q := fun q h9 => by rw [← hAe]; exact Or.inr h9
  obtain ⟨H, hH⟩ : ∃ z : Heap, z = s.heap := ⟨_, rfl⟩
  have hS : va_S A s.heap H [] := by rw [hH]; exact va_S.rf
  have hP : va_P D vwCl [(q_o, .inr (1, [.ref q_o_cells])), (q_o_cells, gI Cs 221 v_o_cells)] H := by rw [hH]; exact hP
  generalize hQ : MQ below _ args s _ _ _ = Q
  show W p l e ({ frames := 1, cells := 0, slots := 0, locals := 21 } : Room) s m args below meth c s.heap [] 0 0 Q (entryFrame m args 4)
  have hent : entryFrame m args 4 = F0 m 0 ((lg_sl ([.ref q_o, .int x1, .int x2, .int x3]) ++ List.replicate (4 - (lg_sl ([.ref q_o, .int x1, .int x2, .int x3])).length) Slot.unset).toArray) [] := by rw [ha]; exact lg_entry_eq m ([.ref q_o, .int x1, .int x2, .int x3]) 4
  rw [hent]; clear hent
  rw [← hH]
  have hl := lv_entry ([.ref q_o, .int x1, .int x2, .int x3]) (n := 4) (Nat.le_of_ble_eq_true rfl)
  generalize (lg_sl ([.ref q_o, .int x1, .int x2, .int x3]) ++ List.replicate (4 - (lg_sl ([.ref q_o, .int x1, .int x2, .int x3])).length) Slot.unset).toArray = ls at hl ⊢
  have hl : lv_has ls 4 [(0, .ref q_o), (1, .int x1), (2, .int x2), (3, .int x3)] := hl
  have B44 : ∀ (H : Heap) (locs : List Loc) (ls : Array Slot) (v_o_cells : (Nat → Int32)), va_P D vwCl [(q_o, .inr (1, [.ref q_o_cells])), (q_o_cells, gI Cs 221 v_o_cells)] H → va_D A [(q_o, .inr (1, [.ref q_o_cells])), (q_o_cells, gI Cs 221 v_o_cells)] → va_S A s.heap H locs → lv_has ls 4 [(0, .ref q_o), (1, .int x1), (2, .int x2), (3, .int x3)] → P_X1_setRoad_b44 x1 x2 x3 post v_o_cells → W p l e ({ frames := 1, cells := 0, slots := 0, locals := 21 } : Room) s m args below meth c H locs 0 0 Q (F0 m 44 ls []) := by
    intro H locs ls v_o_cells hP hD hS hl h
    unfold P_X1_setRoad_b44 at h
    rw [← hQ]
    exact gRetV (u := v_o_cells) hx hb hr h hP hD hS dX1_setRoad_44 hlocks
  unfold P_X1_setRoad at h
  refine lv_aload_n hx hb dX1_setRoad_0 rfl (lv_at hl 0 rfl) ?_
  refine lv_iload_n hx hb dX1_setRoad_1 rfl (lv_at hl 1 rfl) ?_
  refine gVR (As := [.int x1]) (rest := []) ⟨hx, hb, hml, hown, htb⟩ hK hP hN [0, 1] rfl (c_X1_isTown l D Cs q_o q_o_cells v_o_cells x1 h) (cwV 1 htb (TB_v tb_225 tb_226 tb_227 tb_16 (TB_self tb_228)) rfl rfl rfl z_X1_isTown ⟨Nat.le_of_ble_eq_true rfl, Nat.le_of_ble_eq_true rfl⟩) 0 rfl rfl rfl rfl hl.1 rfl (Nat.le_of_ble_eq_true rfl) ⟨Nat.le_of_ble_eq_true rfl, Nat.le_of_ble_eq_true rfl⟩ dX1_setRoad_2 (fun r_1 h => ?_)
  refine lv_if_eq (tgt := 44) hx hb dX1_setRoad_5 (by decide) (fun c_2 => ?_) (fun c_2 => ?_)
  · have h := h.1 c_2
    exact B44 _ _ _ v_o_cells hP hD hS (lv_sub hl [0, 1, 2, 3] rfl) h
  · have h := h.2 c_2
    refine lv_aload_n hx hb dX1_setRoad_8 rfl (lv_at hl 0 rfl) ?_
    refine lv_iload_n hx hb dX1_setRoad_9 rfl (lv_at hl 2 rfl) ?_
    refine gVR (As := [.int x2]) (rest := []) ⟨hx, hb, hml, hown, htb⟩ hK hP hN [0, 1] rfl (c_X1_isTown l D Cs q_o q_o_cells v_o_cells x2 h) (cwV 1 htb (TB_v tb_225 tb_226 tb_227 tb_16 (TB_self tb_228)) rfl rfl rfl z_X1_isTown ⟨Nat.le_of_ble_eq_true rfl, Nat.le_of_ble_eq_true rfl⟩) 0 rfl rfl rfl rfl hl.1 rfl (Nat.le_of_ble_eq_true rfl) ⟨Nat.le_of_ble_eq_true rfl, Nat.le_of_ble_eq_true rfl⟩ dX1_setRoad_10 (fun r_3 h => ?_)
    refine lv_if_eq (tgt := 44) hx hb dX1_setRoad_13 (by decide) (fun c_4 => ?_) (fun c_4 => ?_)
    · have h := h.1 c_4
      exact B44 _ _ _ v_o_cells hP hD hS (lv_sub hl [0, 1, 2, 3] rfl) h
    · have h := h.2 c_4
      refine lv_aload_n hx hb dX1_setRoad_16 rfl (lv_at hl 0 rfl) ?_
      refine va_get (D := D) (ci := 1) (v := .ref q_o_cells) (C := RX1) (T := TX1) (N := 1) hx hb htb inT_X1 hown hK hP 0 rfl rfl 0 (by decide) (htb _ tb_43) (fun _ h9 => h9) rfl dX1_setRoad_17 ?_
      refine lv_iconst (v := (1 : Int32)) hx hb dX1_setRoad_20 (by decide) ?_
      refine lv_iload_n hx hb dX1_setRoad_21 rfl (lv_at hl 1 rfl) ?_
      refine lv_bipush (v := (10 : Int32)) hx hb dX1_setRoad_22 (by decide) ?_
      refine lv_imul hx hb dX1_setRoad_24 ?_
      refine lv_iadd hx hb dX1_setRoad_25 ?_
      refine lv_iload_n hx hb dX1_setRoad_26 rfl (lv_at hl 2 rfl) ?_
      refine lv_iadd hx hb dX1_setRoad_27 ?_
      refine lv_iload_n hx hb dX1_setRoad_28 rfl (lv_at hl 3 rfl) ?_
      obtain ⟨hi_5, h⟩ := h
      refine va_iast hx hb hK hP hD hS 1 0 rfl rfl hi_5 dX1_setRoad_29 (fun H locs hP hD hS => ?_)
      have hP : va_P D vwCl [(q_o, .inr (1, [.ref q_o_cells])), (q_o_cells, gI Cs 221 (upd v_o_cells (((1 : Int32) + (x1 * (10 : Int32))) + x2).toNatClampNeg x3))] H := hP
      have hD : va_D A [(q_o, .inr (1, [.ref q_o_cells])), (q_o_cells, gI Cs 221 (upd v_o_cells (((1 : Int32) + (x1 * (10 : Int32))) + x2).toNatClampNeg x3))] := hD
      refine lv_aload_n hx hb dX1_setRoad_30 rfl (lv_at hl 0 rfl) ?_
      refine va_get (D := D) (ci := 1) (v := .ref q_o_cells) (C := RX1) (T := TX1) (N := 1) hx hb htb inT_X1 hown hK hP 0 rfl rfl 0 (by decide) (htb _ tb_43) (fun _ h9 => h9) rfl dX1_setRoad_31 ?_
      refine lv_iconst (v := (1 : Int32)) hx hb dX1_setRoad_34 (by decide) ?_
      refine lv_iload_n hx hb dX1_setRoad_35 rfl (lv_at hl 2 rfl) ?_
      refine lv_bipush (v := (10 : Int32)) hx hb dX1_setRoad_36 (by decide) ?_
      refine lv_imul hx hb dX1_setRoad_38 ?_
      refine lv_iadd hx hb dX1_setRoad_39 ?_
      refine lv_iload_n hx hb dX1_setRoad_40 rfl (lv_at hl 1 rfl) ?_
      refine lv_iadd hx hb dX1_setRoad_41 ?_
      refine lv_iload_n hx hb dX1_setRoad_42 rfl (lv_at hl 3 rfl) ?_
      obtain ⟨hi_6, h⟩ := h
      refine va_iast hx hb hK hP hD hS 1 0 rfl rfl hi_6 dX1_setRoad_43 (fun H locs hP hD hS => ?_)
      have hP : va_P D vwCl [(q_o, .inr (1, [.ref q_o_cells])), (q_o_cells, gI Cs 221 (upd (upd v_o_cells (((1 : Int32) + (x1 * (10 : Int32))) + x2).toNatClampNeg x3) (((1 : Int32) + (x2 * (10 : Int32))) + x1).toNatClampNeg x3))] H := hP
      have hD : va_D A [(q_o, .inr (1, [.ref q_o_cells])), (q_o_cells, gI Cs 221 (upd (upd v_o_cells (((1 : Int32) + (x1 * (10 : Int32))) + x2).toNatClampNeg x3) (((1 : Int32) + (x2 * (10 : Int32))) + x1).toNatClampNeg x3))] := hD
      exact B44 _ _ _ (upd (upd v_o_cells (((1 : Int32) + (x1 * (10 : Int32))) + x2).toNatClampNeg x3) (((1 : Int32) + (x2 * (10 : Int32))) + x1).toNatClampNeg x3) hP hD hS (lv_sub hl [0, 1, 2, 3] rfl) h
def P_X5_isTrait_b15 (x0 : Int32) (post : Int32 → Prop) (s0 : Int32) : Prop :=
  narrow .boolean (.int s0) = .int s0 ∧ post s0
def P_X5_isTrait_b14 (x0 : Int32) (post : Int32 → Prop) : Prop :=
  P_X5_isTrait_b15 x0 post (0 : Int32)
def P_X5_isTrait (x0 : Int32) (post : Int32 → Prop) : Prop :=
  (x0 < 0 → P_X5_isTrait_b14 x0 post) ∧ (¬ (x0 < 0) → (((6 : Int32) ≤ x0 → P_X5_isTrait_b14 x0 post) ∧ (¬ ((6 : Int32) ≤ x0) → (P_X5_isTrait_b15 x0 post (1 : Int32)))))
set_option maxHeartbeats 4000000 in
set_option maxRecDepth 100000 in
theorem c_X5_isTrait (l : Launch) (D : va_G) (Cs : Nat → ClassId) (x0 : Int32) {post : Int32 → Prop} (h : P_X5_isTrait x0 post) : Met l yX5_isTrait wsX5_isTrait ({ frames := 0, cells := 0, slots := 0, locals := 0 } : Room) (va_Pc [.int x0] (gR D Cs [])) (vp_Si post) 0 0 (fun _ => False) := by
  refine Met.ofW (cc := cX5_isTrait) (maxL := 1) (ret := (some .boolean)) (by decide) rfl ?_
  intro p e s m args below meth c s₁ B hml hv
  obtain ⟨ha, hP, hK, hN⟩ := hv
  have hx := B.exec
  have hb := B.bytes
  have hr := B.returns
  have hts := atoms_spec (ws := wsX5_isTrait) B.pre
  have htb : ∀ w ∈ TB, w.before args s = true := fun w h9 => hts w (List.mem_cons_of_mem _ h9)
  have hown : s.vm.findClass RX5 = some m.cls := findClass_of_methodNamed B.named
  have hlocks := B.notSynchronized
  generalize hQ : MQ below _ args s _ _ _ = Q
  show W p l e ({ frames := 0, cells := 0, slots := 0, locals := 0 } : Room) s m args below meth c s.heap [] 0 0 Q (entryFrame m args 1)
  have hent : entryFrame m args 1 = F0 m 0 ((lg_sl ([.int x0]) ++ List.replicate (1 - (lg_sl ([.int x0])).length) Slot.unset).toArray) [] := by rw [ha]; exact lg_entry_eq m ([.int x0]) 1
  rw [hent]; clear hent
  have hl := lv_entry ([.int x0]) (n := 1) (Nat.le_of_ble_eq_true rfl)
  generalize (lg_sl ([.int x0]) ++ List.replicate (1 - (lg_sl ([.int x0])).length) Slot.unset).toArray = ls at hl ⊢
  have hl : lv_has ls 1 [(0, .int x0)] := hl
  have B15 : ∀ (ls : Array Slot) (s0 : Int32), lv_has ls 1 [(0, .int x0)] → P_X5_isTrait_b15 x0 post s0 → W p l e ({ frames := 0, cells := 0, slots := 0, locals := 0 } : Room) s m args below meth c s.heap [] 0 0 Q (F0 m 15 ls [.int s0]) := by
    intro ls s0 hl h
    unfold P_X5_isTrait_b15 at h
    obtain ⟨hnb, h⟩ := h
    rw [← hQ]
    exact gRetR hx hb hr hnb h dX5_isTrait_15 hlocks
  have B14 : ∀ (ls : Array Slot), lv_has ls 1 [(0, .int x0)] → P_X5_isTrait_b14 x0 post → W p l e ({ frames := 0, cells := 0, slots := 0, locals := 0 } : Room) s m args below meth c s.heap [] 0 0 Q (F0 m 14 ls []) := by
    intro ls hl h
    unfold P_X5_isTrait_b14 at h
    refine lv_iconst (v := (0 : Int32)) hx hb dX5_isTrait_14 (by decide) ?_
    exact B15 _ (0 : Int32) (lv_sub hl [0] rfl) h
  unfold P_X5_isTrait at h
  refine lv_iload_n hx hb dX5_isTrait_0 rfl (lv_at hl 0 rfl) ?_
  refine lv_if_lt (tgt := 14) hx hb dX5_isTrait_1 (by decide) (fun c_1 => ?_) (fun c_1 => ?_)
  · have h := h.1 c_1
    exact B14 _ (lv_sub hl [0] rfl) h
  · have h := h.2 c_1
    refine lv_iload_n hx hb dX5_isTrait_4 rfl (lv_at hl 0 rfl) ?_
    refine lv_bipush (v := (6 : Int32)) hx hb dX5_isTrait_5 (by decide) ?_
    refine lv_icmp_ge (tgt := 14) hx hb dX5_isTrait_7 (by decide) (fun c_2 => ?_) (fun c_2 => ?_)
    · have h := h.1 c_2
      exact B14 _ (lv_sub hl [0] rfl) h
    · have h := h.2 c_2
      refine lv_iconst (v := (1 : Int32)) hx hb dX5_isTrait_10 (by decide) ?_
      refine lv_goto (tgt := 15) hx hb dX5_isTrait_11 (by decide) ?_
      exact B15 _ (1 : Int32) (lv_sub hl [0] rfl) h
def P_X5_isYear_b16 (x0 : Int32) (post : Int32 → Prop) (s0 : Int32) : Prop :=
  narrow .boolean (.int s0) = .int s0 ∧ post s0
def P_X5_isYear_b15 (x0 : Int32) (post : Int32 → Prop) : Prop :=
  P_X5_isYear_b16 x0 post (0 : Int32)
def P_X5_isYear (x0 : Int32) (post : Int32 → Prop) : Prop :=
  (x0 < 0 → P_X5_isYear_b15 x0 post) ∧ (¬ (x0 < 0) → (((999 : Int32) < x0 → P_X5_isYear_b15 x0 post) ∧ (¬ ((999 : Int32) < x0) → (P_X5_isYear_b16 x0 post (1 : Int32)))))
set_option maxHeartbeats 4000000 in
set_option maxRecDepth 100000 in
theorem c_X5_isYear (l : Launch) (D : va_G) (Cs : Nat → ClassId) (x0 : Int32) {post : Int32 → Prop} (h : P_X5_isYear x0 post) : Met l yX5_isYear wsX5_isYear ({ frames := 0, cells := 0, slots := 0, locals := 0 } : Room) (va_Pc [.int x0] (gR D Cs [])) (vp_Si post) 0 0 (fun _ => False) := by
  refine Met.ofW (cc := cX5_isYear) (maxL := 1) (ret := (some .boolean)) (by decide) rfl ?_
  intro p e s m args below meth c s₁ B hml hv
  obtain ⟨ha, hP, hK, hN⟩ := hv
  have hx := B.exec
  have hb := B.bytes
  have hr := B.returns
  have hts := atoms_spec (ws := wsX5_isYear) B.pre
  have htb : ∀ w ∈ TB, w.before args s = true := fun w h9 => hts w (List.mem_cons_of_mem _ h9)
  have hown : s.vm.findClass RX5 = some m.cls := findClass_of_methodNamed B.named
  have hlocks := B.notSynchronized
  generalize hQ : MQ below _ args s _ _ _ = Q
  show W p l e ({ frames := 0, cells := 0, slots := 0, locals := 0 } : Room) s m args below meth c s.heap [] 0 0 Q (entryFrame m args 1)
  have hent : entryFrame m args 1 = F0 m 0 ((lg_sl ([.int x0]) ++ List.replicate (1 - (lg_sl ([.int x0])).length) Slot.unset).toArray) [] := by rw [ha]; exact lg_entry_eq m ([.int x0]) 1
  rw [hent]; clear hent
  have hl := lv_entry ([.int x0]) (n := 1) (Nat.le_of_ble_eq_true rfl)
  generalize (lg_sl ([.int x0]) ++ List.replicate (1 - (lg_sl ([.int x0])).length) Slot.unset).toArray = ls at hl ⊢
  have hl : lv_has ls 1 [(0, .int x0)] := hl
  have B16 : ∀ (ls : Array Slot) (s0 : Int32), lv_has ls 1 [(0, .int x0)] → P_X5_isYear_b16 x0 post s0 → W p l e ({ frames := 0, cells := 0, slots := 0, locals := 0 } : Room) s m args below meth c s.heap [] 0 0 Q (F0 m 16 ls [.int s0]) := by
    intro ls s0 hl h
    unfold P_X5_isYear_b16 at h
    obtain ⟨hnb, h⟩ := h
    rw [← hQ]
    exact gRetR hx hb hr hnb h dX5_isYear_16 hlocks
  have B15 : ∀ (ls : Array Slot), lv_has ls 1 [(0, .int x0)] → P_X5_isYear_b15 x0 post → W p l e ({ frames := 0, cells := 0, slots := 0, locals := 0 } : Room) s m args below meth c s.heap [] 0 0 Q (F0 m 15 ls []) := by
    intro ls hl h
    unfold P_X5_isYear_b15 at h
    refine lv_iconst (v := (0 : Int32)) hx hb dX5_isYear_15 (by decide) ?_
    exact B16 _ (0 : Int32) (lv_sub hl [0] rfl) h
  unfold P_X5_isYear at h
  refine lv_iload_n hx hb dX5_isYear_0 rfl (lv_at hl 0 rfl) ?_
  refine lv_if_lt (tgt := 15) hx hb dX5_isYear_1 (by decide) (fun c_1 => ?_) (fun c_1 => ?_)
  · have h := h.1 c_1
    exact B15 _ (lv_sub hl [0] rfl) h
  · have h := h.2 c_1
    refine lv_iload_n hx hb dX5_isYear_4 rfl (lv_at hl 0 rfl) ?_
    refine lv_sipush (v := (999 : Int32)) hx hb dX5_isYear_5 (by decide) ?_
    refine lv_icmp_gt (tgt := 15) hx hb dX5_isYear_8 (by decide) (fun c_2 => ?_) (fun c_2 => ?_)
    · have h := h.1 c_2
      exact B15 _ (lv_sub hl [0] rfl) h
    · have h := h.2 c_2
      refine lv_iconst (v := (1 : Int32)) hx hb dX5_isYear_11 (by decide) ?_
      refine lv_goto (tgt := 16) hx hb dX5_isYear_12 (by decide) ?_
      exact B16 _ (1 : Int32) (lv_sub hl [0] rfl) h
def P_X5_isLength_b16 (x0 : Int32) (post : Int32 → Prop) (s0 : Int32) : Prop :=
  narrow .boolean (.int s0) = .int s0 ∧ post s0
def P_X5_isLength_b15 (x0 : Int32) (post : Int32 → Prop) : Prop :=
  P_X5_isLength_b16 x0 post (0 : Int32)
def P_X5_isLength (x0 : Int32) (post : Int32 → Prop) : Prop :=
  (x0 < (1 : Int32) → P_X5_isLength_b15 x0 post) ∧ (¬ (x0 < (1 : Int32)) → (((99 : Int32) < x0 → P_X5_isLength_b15 x0 post) ∧ (¬ ((99 : Int32) < x0) → (P_X5_isLength_b16 x0 post (1 : Int32)))))
set_option maxHeartbeats 4000000 in
set_option maxRecDepth 100000 in
theorem c_X5_isLength (l : Launch) (D : va_G) (Cs : Nat → ClassId) (x0 : Int32) {post : Int32 → Prop} (h : P_X5_isLength x0 post) : Met l yX5_isLength wsX5_isLength ({ frames := 0, cells := 0, slots := 0, locals := 0 } : Room) (va_Pc [.int x0] (gR D Cs [])) (vp_Si post) 0 0 (fun _ => False) := by
  refine Met.ofW (cc := cX5_isLength) (maxL := 1) (ret := (some .boolean)) (by decide) rfl ?_
  intro p e s m args below meth c s₁ B hml hv
  obtain ⟨ha, hP, hK, hN⟩ := hv
  have hx := B.exec
  have hb := B.bytes
  have hr := B.returns
  have hts := atoms_spec (ws := wsX5_isLength) B.pre
  have htb : ∀ w ∈ TB, w.before args s = true := fun w h9 => hts w (List.mem_cons_of_mem _ h9)
  have hown : s.vm.findClass RX5 = some m.cls := findClass_of_methodNamed B.named
  have hlocks := B.notSynchronized
  generalize hQ : MQ below _ args s _ _ _ = Q
  show W p l e ({ frames := 0, cells := 0, slots := 0, locals := 0 } : Room) s m args below meth c s.heap [] 0 0 Q (entryFrame m args 1)
  have hent : entryFrame m args 1 = F0 m 0 ((lg_sl ([.int x0]) ++ List.replicate (1 - (lg_sl ([.int x0])).length) Slot.unset).toArray) [] := by rw [ha]; exact lg_entry_eq m ([.int x0]) 1
  rw [hent]; clear hent
  have hl := lv_entry ([.int x0]) (n := 1) (Nat.le_of_ble_eq_true rfl)
  generalize (lg_sl ([.int x0]) ++ List.replicate (1 - (lg_sl ([.int x0])).length) Slot.unset).toArray = ls at hl ⊢
  have hl : lv_has ls 1 [(0, .int x0)] := hl
  have B16 : ∀ (ls : Array Slot) (s0 : Int32), lv_has ls 1 [(0, .int x0)] → P_X5_isLength_b16 x0 post s0 → W p l e ({ frames := 0, cells := 0, slots := 0, locals := 0 } : Room) s m args below meth c s.heap [] 0 0 Q (F0 m 16 ls [.int s0]) := by
    intro ls s0 hl h
    unfold P_X5_isLength_b16 at h
    obtain ⟨hnb, h⟩ := h
    rw [← hQ]
    exact gRetR hx hb hr hnb h dX5_isLength_16 hlocks
  have B15 : ∀ (ls : Array Slot), lv_has ls 1 [(0, .int x0)] → P_X5_isLength_b15 x0 post → W p l e ({ frames := 0, cells := 0, slots := 0, locals := 0 } : Room) s m args below meth c s.heap [] 0 0 Q (F0 m 15 ls []) := by
    intro ls hl h
    unfold P_X5_isLength_b15 at h
    refine lv_iconst (v := (0 : Int32)) hx hb dX5_isLength_15 (by decide) ?_
    exact B16 _ (0 : Int32) (lv_sub hl [0] rfl) h
  unfold P_X5_isLength at h
  refine lv_iload_n hx hb dX5_isLength_0 rfl (lv_at hl 0 rfl) ?_
  refine lv_iconst (v := (1 : Int32)) hx hb dX5_isLength_1 (by decide) ?_
  refine lv_icmp_lt (tgt := 15) hx hb dX5_isLength_2 (by decide) (fun c_1 => ?_) (fun c_1 => ?_)
  · have h := h.1 c_1
    exact B15 _ (lv_sub hl [0] rfl) h
  · have h := h.2 c_1
    refine lv_iload_n hx hb dX5_isLength_5 rfl (lv_at hl 0 rfl) ?_
    refine lv_bipush (v := (99 : Int32)) hx hb dX5_isLength_6 (by decide) ?_
    refine lv_icmp_gt (tgt := 15) hx hb dX5_isLength_8 (by decide) (fun c_2 => ?_) (fun c_2 => ?_)
    · have h := h.1 c_2
      exact B15 _ (lv_sub hl [0] rfl) h
    · have h := h.2 c_2
      refine lv_iconst (v := (1 : Int32)) hx hb dX5_isLength_11 (by decide) ?_
      refine lv_goto (tgt := 16) hx hb dX5_isLength_12 (by decide) ?_
      exact B16 _ (1 : Int32) (lv_sub hl [0] rfl) h
def P_X1_reportedYear_b15 (v_o_cells : (Nat → Int32)) (x1 : Int32) (x2 : Int32) (x3 : Int32) (post : Int32 → Prop) : Prop :=
  post (-1 : Int32)
def P_X1_reportedYear_b33 (v_o_cells : (Nat → Int32)) (x1 : Int32) (x2 : Int32) (x3 : Int32) (post : Int32 → Prop) (s1 : Int32) : Prop :=
  vp_in ((s1 + (x1 * (6 : Int32))) + x2) 221 ∧ (post (v_o_cells ((s1 + (x1 * (6 : Int32))) + x2).toNatClampNeg))
def P_X1_reportedYear (v_o_cells : (Nat → Int32)) (x1 : Int32) (x2 : Int32) (x3 : Int32) (post : Int32 → Prop) : Prop :=
  P_X1_isTown v_o_cells x1 (fun r_2 => (r_2 = 0 → P_X1_reportedYear_b15 v_o_cells x1 x2 x3 post) ∧ (¬ (r_2 = 0) → (P_X5_isTrait x2 (fun r_4 => (r_4 = 0 → P_X1_reportedYear_b15 v_o_cells x1 x2 x3 post) ∧ (¬ (r_4 = 0) → ((x3 = 0 → (P_X1_reportedYear_b33 v_o_cells x1 x2 x3 post (161 : Int32))) ∧ (¬ (x3 = 0) → (P_X1_reportedYear_b33 v_o_cells x1 x2 x3 post (101 : Int32)))))))))
set_option maxHeartbeats 4000000 in
set_option maxRecDepth 100000 in
theorem c_X1_reportedYear (l : Launch) (D : va_G) (Cs : Nat → ClassId) (q_o : Nat) (q_o_cells : Nat) (v_o_cells : (Nat → Int32)) (x1 : Int32) (x2 : Int32) (x3 : Int32) {post : Int32 → Prop} (h : P_X1_reportedYear v_o_cells x1 x2 x3 post) : Met l yX1_reportedYear wsX1_reportedYear ({ frames := 1, cells := 0, slots := 0, locals := 21 } : Room) (va_Pc [.ref q_o, .int x1, .int x2, .int x3] (gR D Cs [(q_o, .inr (1, [.ref q_o_cells])), (q_o_cells, gI Cs 221 v_o_cells)])) (vp_Si post) 0 0 (fun _ => False) := by
  refine Met.ofW (cc := cX1_reportedYear) (maxL := 4) (ret := (some .int)) (by decide) rfl ?_
  intro p e s m args below meth c s₁ B hml hv
  obtain ⟨ha, hP, hK, hN⟩ := hv
  have hx := B.exec
  have hb := B.bytes
  have hr := B.returns
  have hts := atoms_spec (ws := wsX1_reportedYear) B.pre
  have htb : ∀ w ∈ TB, w.before args s = true := fun w h9 => hts w (List.mem_cons_of_mem _ h9)
  have hown : s.vm.findClass RX1 = some m.cls := findClass_of_methodNamed B.named
  have hlocks := B.notSynchronized
  generalize hQ : MQ below _ args s _ _ _ = Q
  show W p l e ({ frames := 1, cells := 0, slots := 0, locals := 21 } : Room) s m args below meth c s.heap [] 0 0 Q (entryFrame m args 4)
  have hent : entryFrame m args 4 = F0 m 0 ((lg_sl ([.ref q_o, .int x1, .int x2, .int x3]) ++ List.replicate (4 - (lg_sl ([.ref q_o, .int x1, .int x2, .int x3])).length) Slot.unset).toArray) [] := by rw [ha]; exact lg_entry_eq m ([.ref q_o, .int x1, .int x2, .int x3]) 4
  rw [hent]; clear hent
  have hl := lv_entry ([.ref q_o, .int x1, .int x2, .int x3]) (n := 4) (Nat.le_of_ble_eq_true rfl)
  generalize (lg_sl ([.ref q_o, .int x1, .int x2, .int x3]) ++ List.replicate (4 - (lg_sl ([.ref q_o, .int x1, .int x2, .int x3])).length) Slot.unset).toArray = ls at hl ⊢
  have hl : lv_has ls 4 [(0, .ref q_o), (1, .int x1), (2, .int x2), (3, .int x3)] := hl
  have B15 : ∀ (ls : Array Slot), lv_has ls 4 [(0, .ref q_o), (1, .int x1), (2, .int x2), (3, .int x3)] → P_X1_reportedYear_b15 v_o_cells x1 x2 x3 post → W p l e ({ frames := 1, cells := 0, slots := 0, locals := 21 } : Room) s m args below meth c s.heap [] 0 0 Q (F0 m 15 ls []) := by
    intro ls hl h
    unfold P_X1_reportedYear_b15 at h
    refine lv_iconst (v := (-1 : Int32)) hx hb dX1_reportedYear_15 (by decide) ?_
    rw [← hQ]
    exact gRetR hx hb hr rfl h dX1_reportedYear_16 hlocks
  have B33 : ∀ (ls : Array Slot) (s1 : Int32), lv_has ls 4 [(0, .ref q_o), (1, .int x1), (2, .int x2), (3, .int x3)] → P_X1_reportedYear_b33 v_o_cells x1 x2 x3 post s1 → W p l e ({ frames := 1, cells := 0, slots := 0, locals := 21 } : Room) s m args below meth c s.heap [] 0 0 Q (F0 m 33 ls [.int s1, .ref q_o_cells]) := by
    intro ls s1 hl h
    unfold P_X1_reportedYear_b33 at h
    refine lv_iload_n hx hb dX1_reportedYear_33 rfl (lv_at hl 1 rfl) ?_
    refine lv_bipush (v := (6 : Int32)) hx hb dX1_reportedYear_34 (by decide) ?_
    refine lv_imul hx hb dX1_reportedYear_36 ?_
    refine lv_iadd hx hb dX1_reportedYear_37 ?_
    refine lv_iload_n hx hb dX1_reportedYear_38 rfl (lv_at hl 2 rfl) ?_
    refine lv_iadd hx hb dX1_reportedYear_39 ?_
    obtain ⟨hi_1, h⟩ := h
    refine va_iald hx hb hK hP 1 0 rfl rfl hi_1 dX1_reportedYear_40 ?_
    rw [← hQ]
    exact gRetR hx hb hr rfl h dX1_reportedYear_41 hlocks
  unfold P_X1_reportedYear at h
  refine lv_aload_n hx hb dX1_reportedYear_0 rfl (lv_at hl 0 rfl) ?_
  refine lv_iload_n hx hb dX1_reportedYear_1 rfl (lv_at hl 1 rfl) ?_
  refine gVR (As := [.int x1]) (rest := []) ⟨hx, hb, hml, hown, htb⟩ hK hP hN [0, 1] rfl (c_X1_isTown l D Cs q_o q_o_cells v_o_cells x1 h) (cwV 1 htb (TB_v tb_225 tb_226 tb_227 tb_16 (TB_self tb_228)) rfl rfl rfl z_X1_isTown ⟨Nat.le_of_ble_eq_true rfl, Nat.le_of_ble_eq_true rfl⟩) 0 rfl rfl rfl rfl hl.1 rfl (Nat.le_of_ble_eq_true rfl) ⟨Nat.le_of_ble_eq_true rfl, Nat.le_of_ble_eq_true rfl⟩ dX1_reportedYear_2 (fun r_2 h => ?_)
  refine lv_if_eq (tgt := 15) hx hb dX1_reportedYear_5 (by decide) (fun c_3 => ?_) (fun c_3 => ?_)
  · have h := h.1 c_3
    exact B15 _ (lv_sub hl [0, 1, 2, 3] rfl) h
  · have h := h.2 c_3
    refine lv_iload_n hx hb dX1_reportedYear_8 rfl (lv_at hl 2 rfl) ?_
    refine gNR (As := [.int x2]) (rest := []) ⟨hx, hb, hml, hown, htb⟩ hK hP hN [] rfl (c_X5_isTrait l D Cs x2 h) (va_cnB 1 htb (TB_self tb_165) rfl rfl rfl (hN (.methodLinkNest RX1 39 yX5_isTrait RX5) (List.mem_of_getElem? (i := 0) rfl)) (htb _ tb_2) z_X5_isTrait.2 ⟨Nat.le_of_ble_eq_true rfl, Nat.le_of_ble_eq_true rfl⟩) (htb _ tb_164) rfl hl.1 rfl (Nat.le_of_ble_eq_true rfl) ⟨Nat.le_of_ble_eq_true rfl, Nat.le_of_ble_eq_true rfl⟩ dX1_reportedYear_9 (fun r_4 h => ?_)
    refine lv_if_ne (tgt := 17) hx hb dX1_reportedYear_12 (by decide) (fun c_5 => ?_) (fun c_5 => ?_)
    · have h := h.2 c_5
      refine lv_aload_n hx hb dX1_reportedYear_17 rfl (lv_at hl 0 rfl) ?_
      refine va_get (D := D) (ci := 1) (v := .ref q_o_cells) (C := RX1) (T := TX1) (N := 1) hx hb htb inT_X1 hown hK hP 0 rfl rfl 0 (by decide) (htb _ tb_43) (fun _ h9 => h9) rfl dX1_reportedYear_18 ?_
      refine lv_iload_n hx hb dX1_reportedYear_21 rfl (lv_at hl 3 rfl) ?_
      refine lv_if_eq (tgt := 30) hx hb dX1_reportedYear_22 (by decide) (fun c_6 => ?_) (fun c_6 => ?_)
      · have h := h.1 c_6
        refine lv_sipush (v := (161 : Int32)) hx hb dX1_reportedYear_30 (by decide) ?_
        exact B33 _ (161 : Int32) (lv_sub hl [0, 1, 2, 3] rfl) h
      · have h := h.2 c_6
        refine lv_bipush (v := (101 : Int32)) hx hb dX1_reportedYear_25 (by decide) ?_
        refine lv_goto (tgt := 33) hx hb dX1_reportedYear_27 (by decide) ?_
        exact B33 _ (101 : Int32) (lv_sub hl [0, 1, 2, 3] rfl) h
    · have h := h.1 c_5
      exact B15 _ (lv_sub hl [0, 1, 2, 3] rfl) h
def P_X1_note_b22 (x1 : Int32) (x2 : Int32) (x3 : Int32) (x4 : Int32) (post : Int32 → (Nat → Int32) → Prop) (v_o_cells : (Nat → Int32)) : Prop :=
  post (-1 : Int32) v_o_cells
def P_X1_note_b111 (x1 : Int32) (x2 : Int32) (x3 : Int32) (x4 : Int32) (post : Int32 → (Nat → Int32) → Prop) (v_o_cells : (Nat → Int32)) (s0 : Int32) : Prop :=
  post s0 v_o_cells
def P_X1_note_b101 (x1 : Int32) (x2 : Int32) (x3 : Int32) (x4 : Int32) (post : Int32 → (Nat → Int32) → Prop) (v_o_cells : (Nat → Int32)) (x7 : Int32) : Prop :=
  (x7 = 0 → (P_X1_note_b111 x1 x2 x3 x4 post v_o_cells (0 : Int32))) ∧ (¬ (x7 = 0) → (P_X1_note_b111 x1 x2 x3 x4 post v_o_cells (1 : Int32)))
def P_X1_note_b86 (x1 : Int32) (x2 : Int32) (x3 : Int32) (x4 : Int32) (post : Int32 → (Nat → Int32) → Prop) (v_o_cells : (Nat → Int32)) (x5 : Int32) (s0 : Int32) : Prop :=
  (s0 = 0 → P_X1_note_b101 x1 x2 x3 x4 post v_o_cells s0) ∧ (¬ (s0 = 0) → (vp_in x5 221 ∧ (P_X1_note_b101 x1 x2 x3 x4 post (upd v_o_cells x5.toNatClampNeg x3) s0)))
def P_X1_note_b81 (x1 : Int32) (x2 : Int32) (x3 : Int32) (x4 : Int32) (post : Int32 → (Nat → Int32) → Prop) (v_o_cells : (Nat → Int32)) (x5 : Int32) : Prop :=
  P_X1_note_b86 x1 x2 x3 x4 post v_o_cells x5 (1 : Int32)
def P_X1_note_b85 (x1 : Int32) (x2 : Int32) (x3 : Int32) (x4 : Int32) (post : Int32 → (Nat → Int32) → Prop) (v_o_cells : (Nat → Int32)) (x5 : Int32) : Prop :=
  P_X1_note_b86 x1 x2 x3 x4 post v_o_cells x5 (0 : Int32)
def P_X1_note_b37 (x1 : Int32) (x2 : Int32) (x3 : Int32) (x4 : Int32) (post : Int32 → (Nat → Int32) → Prop) (v_o_cells : (Nat → Int32)) (s0 : Int32) : Prop :=
  ∀ x5_4 : Int32, x5_4 = (s0 + (x1 * (6 : Int32))) + x2 → vp_in x5_4 221 ∧ (∀ x6_6 : Int32, x6_6 = v_o_cells x5_4.toNatClampNeg → (x6_6 = (-1 : Int32) → P_X1_note_b81 x1 x2 x3 x4 post v_o_cells x5_4) ∧ (¬ (x6_6 = (-1 : Int32)) → ((x4 = 0 → ((x3 ≤ x6_6 → P_X1_note_b85 x1 x2 x3 x4 post v_o_cells x5_4) ∧ (¬ (x3 ≤ x6_6) → P_X1_note_b81 x1 x2 x3 x4 post v_o_cells x5_4))) ∧ (¬ (x4 = 0) → ((x6_6 ≤ x3 → P_X1_note_b85 x1 x2 x3 x4 post v_o_cells x5_4) ∧ (¬ (x6_6 ≤ x3) → P_X1_note_b81 x1 x2 x3 x4 post v_o_cells x5_4))))))
def P_X1_note (v_o_cells : (Nat → Int32)) (x1 : Int32) (x2 : Int32) (x3 : Int32) (x4 : Int32) (post : Int32 → (Nat → Int32) → Prop) : Prop :=
  P_X1_isTown v_o_cells x1 (fun r_11 => (r_11 = 0 → P_X1_note_b22 x1 x2 x3 x4 post v_o_cells) ∧ (¬ (r_11 = 0) → (P_X5_isTrait x2 (fun r_13 => (r_13 = 0 → P_X1_note_b22 x1 x2 x3 x4 post v_o_cells) ∧ (¬ (r_13 = 0) → (P_X5_isYear x3 (fun r_15 => (r_15 = 0 → P_X1_note_b22 x1 x2 x3 x4 post v_o_cells) ∧ (¬ (r_15 = 0) → ((x4 = 0 → (P_X1_note_b37 x1 x2 x3 x4 post v_o_cells (161 : Int32))) ∧ (¬ (x4 = 0) → (P_X1_note_b37 x1 x2 x3 x4 post v_o_cells (101 : Int32))))))))))))
set_option maxHeartbeats 4000000 in
set_option maxRecDepth 100000 in
theorem c_X1_note (l : Launch) (D : va_G) (Cs : Nat → ClassId) (q_o : Nat) (q_o_cells : Nat) (sz : Nat) (v_o_cells : (Nat → Int32)) (x1 : Int32) (x2 : Int32) (x3 : Int32) (x4 : Int32) {post : Int32 → (Nat → Int32) → Prop} (h : P_X1_note v_o_cells x1 x2 x3 x4 post) : Met l yX1_note wsX1_note ({ frames := 1, cells := 0, slots := 0, locals := 21 } : Room) (va_Pc [.ref q_o, .int x1, .int x2, .int x3, .int x4] (gM D Cs [(q_o, .inr (1, [.ref q_o_cells])), (q_o_cells, gI Cs 221 v_o_cells)] sz)) (va_Qi (fun (r : Int32) (u : (Nat → Int32)) => post r u) (gB D (va_A [(q_o, .inr (1, [.ref q_o_cells])), (q_o_cells, gI Cs 221 v_o_cells)] sz) (fun u : (Nat → Int32) => [(q_o, .inr (1, [.ref q_o_cells])), (q_o_cells, gI Cs 221 u)])) (va_A [(q_o, .inr (1, [.ref q_o_cells])), (q_o_cells, gI Cs 221 v_o_cells)] sz)) 0 0 (va_A [(q_o, .inr (1, [.ref q_o_cells])), (q_o_cells, gI Cs 221 v_o_cells)] sz) := by
  refine Met.ofW (cc := cX1_note) (maxL := 8) (ret := (some .int)) (by decide) rfl ?_
  intro p e s m args below meth c s₁ B hml hv
  obtain ⟨ha, hsz, hP, hK, hD0, hN⟩ := hv
  have hx := B.exec
  have hb := B.bytes
  have hr := B.returns
  have hts := atoms_spec (ws := wsX1_note) B.pre
  have htb : ∀ w ∈ TB, w.before args s = true := fun w h9 => hts w (List.mem_cons_of_mem _ h9)
  have hown : s.vm.findClass RX1 = some m.cls := findClass_of_methodNamed B.named
  have hlocks := B.notSynchronized
  subst hsz
  have hD := hD0.self (sz := s.heap.size)
  generalize hAe : va_A [(q_o, .inr (1, [.ref q_o_cells])), (q_o_cells, gI Cs 221 v_o_cells)] s.heap.size = A at hD ⊢
  have hA : ∀ q : Nat, s.heap.size ≤ q → A q := fun q h9 => by rw [← hAe]; exact Or.inr h9
  obtain ⟨H, hH⟩ : ∃ z : Heap, z = s.heap := ⟨_, rfl⟩
  have hS : va_S A s.heap H [] := by rw [hH]; exact va_S.rf
  have hP : va_P D vwCl [(q_o, .inr (1, [.ref q_o_cells])), (q_o_cells, gI Cs 221 v_o_cells)] H := by rw [hH]; exact hP
  generalize hQ : MQ below _ args s _ _ _ = Q
  show W p l e ({ frames := 1, cells := 0, slots := 0, locals := 21 } : Room) s m args below meth c s.heap [] 0 0 Q (entryFrame m args 8)
  have hent : entryFrame m args 8 = F0 m 0 ((lg_sl ([.ref q_o, .int x1, .int x2, .int x3, .int x4]) ++ List.replicate (8 - (lg_sl ([.ref q_o, .int x1, .int x2, .int x3, .int x4])).length) Slot.unset).toArray) [] := by rw [ha]; exact lg_entry_eq m ([.ref q_o, .int x1, .int x2, .int x3, .int x4]) 8
  rw [hent]; clear hent
  rw [← hH]
  have hl := lv_entry ([.ref q_o, .int x1, .int x2, .int x3, .int x4]) (n := 8) (Nat.le_of_ble_eq_true rfl)
  generalize (lg_sl ([.ref q_o, .int x1, .int x2, .int x3, .int x4]) ++ List.replicate (8 - (lg_sl ([.ref q_o, .int x1, .int x2, .int x3, .int x4])).length) Slot.unset).toArray = ls at hl ⊢
  have hl : lv_has ls 8 [(0, .ref q_o), (1, .int x1), (2, .int x2), (3, .int x3), (4, .int x4)] := hl
  have B22 : ∀ (H : Heap) (locs : List Loc) (ls : Array Slot) (v_o_cells : (Nat → Int32)), va_P D vwCl [(q_o, .inr (1, [.ref q_o_cells])), (q_o_cells, gI Cs 221 v_o_cells)] H → va_D A [(q_o, .inr (1, [.ref q_o_cells])), (q_o_cells, gI Cs 221 v_o_cells)] → va_S A s.heap H locs → lv_has ls 8 [(0, .ref q_o), (1, .int x1), (2, .int x2), (3, .int x3), (4, .int x4)] → P_X1_note_b22 x1 x2 x3 x4 post v_o_cells → W p l e ({ frames := 1, cells := 0, slots := 0, locals := 21 } : Room) s m args below meth c H locs 0 0 Q (F0 m 22 ls []) := by
    intro H locs ls v_o_cells hP hD hS hl h
    unfold P_X1_note_b22 at h
    refine lv_iconst (v := (-1 : Int32)) hx hb dX1_note_22 (by decide) ?_
    rw [← hQ]
    exact gRetI (u := v_o_cells) hx hb hr rfl h hP hD hS dX1_note_23 hlocks
  have B111 : ∀ (H : Heap) (locs : List Loc) (ls : Array Slot) (v_o_cells : (Nat → Int32)) (s0 : Int32), va_P D vwCl [(q_o, .inr (1, [.ref q_o_cells])), (q_o_cells, gI Cs 221 v_o_cells)] H → va_D A [(q_o, .inr (1, [.ref q_o_cells])), (q_o_cells, gI Cs 221 v_o_cells)] → va_S A s.heap H locs → lv_has ls 8 [(0, .ref q_o), (1, .int x1), (2, .int x2), (3, .int x3), (4, .int x4)] → P_X1_note_b111 x1 x2 x3 x4 post v_o_cells s0 → W p l e ({ frames := 1, cells := 0, slots := 0, locals := 21 } : Room) s m args below meth c H locs 0 0 Q (F0 m 111 ls [.int s0]) := by
    intro H locs ls v_o_cells s0 hP hD hS hl h
    unfold P_X1_note_b111 at h
    rw [← hQ]
    exact gRetI (u := v_o_cells) hx hb hr rfl h hP hD hS dX1_note_111 hlocks
  have B101 : ∀ (H : Heap) (locs : List Loc) (ls : Array Slot) (v_o_cells : (Nat → Int32)) (x7 : Int32), va_P D vwCl [(q_o, .inr (1, [.ref q_o_cells])), (q_o_cells, gI Cs 221 v_o_cells)] H → va_D A [(q_o, .inr (1, [.ref q_o_cells])), (q_o_cells, gI Cs 221 v_o_cells)] → va_S A s.heap H locs → lv_has ls 8 [(0, .ref q_o), (1, .int x1), (2, .int x2), (3, .int x3), (4, .int x4), (7, .int x7)] → P_X1_note_b101 x1 x2 x3 x4 post v_o_cells x7 → W p l e ({ frames := 1, cells := 0, slots := 0, locals := 21 } : Room) s m args below meth c H locs 0 0 Q (F0 m 101 ls []) := by
    intro H locs ls v_o_cells x7 hP hD hS hl h
    unfold P_X1_note_b101 at h
    refine lv_iload hx hb dX1_note_101 (lv_at hl 5 rfl) ?_
    refine lv_if_eq (tgt := 110) hx hb dX1_note_103 (by decide) (fun c_1 => ?_) (fun c_1 => ?_)
    · have h := h.1 c_1
      refine lv_iconst (v := (0 : Int32)) hx hb dX1_note_110 (by decide) ?_
      exact B111 _ _ _ v_o_cells (0 : Int32) hP hD hS (lv_sub hl [0, 1, 2, 3, 4] rfl) h
    · have h := h.2 c_1
      refine lv_iconst (v := (1 : Int32)) hx hb dX1_note_106 (by decide) ?_
      refine lv_goto (tgt := 111) hx hb dX1_note_107 (by decide) ?_
      exact B111 _ _ _ v_o_cells (1 : Int32) hP hD hS (lv_sub hl [0, 1, 2, 3, 4] rfl) h
  have B86 : ∀ (H : Heap) (locs : List Loc) (ls : Array Slot) (v_o_cells : (Nat → Int32)) (x5 : Int32) (s0 : Int32), va_P D vwCl [(q_o, .inr (1, [.ref q_o_cells])), (q_o_cells, gI Cs 221 v_o_cells)] H → va_D A [(q_o, .inr (1, [.ref q_o_cells])), (q_o_cells, gI Cs 221 v_o_cells)] → va_S A s.heap H locs → lv_has ls 8 [(0, .ref q_o), (1, .int x1), (2, .int x2), (3, .int x3), (4, .int x4), (5, .int x5)] → P_X1_note_b86 x1 x2 x3 x4 post v_o_cells x5 s0 → W p l e ({ frames := 1, cells := 0, slots := 0, locals := 21 } : Room) s m args below meth c H locs 0 0 Q (F0 m 86 ls [.int s0]) := by
    intro H locs ls v_o_cells x5 s0 hP hD hS hl h
    unfold P_X1_note_b86 at h
    refine lv_istore (lv' := [(7, .int s0), (0, .ref q_o), (1, .int x1), (2, .int x2), (3, .int x3), (4, .int x4), (5, .int x5)]) hx hb dX1_note_86 hl (by decide) rfl (fun ls hl => ?_)
    refine lv_iload hx hb dX1_note_88 (lv_at hl 0 rfl) ?_
    refine lv_if_eq (tgt := 101) hx hb dX1_note_90 (by decide) (fun c_2 => ?_) (fun c_2 => ?_)
    · have h := h.1 c_2
      exact B101 _ _ _ v_o_cells s0 hP hD hS (lv_sub hl [1, 2, 3, 4, 5, 0] rfl) h
    · have h := h.2 c_2
      refine lv_aload_n hx hb dX1_note_93 rfl (lv_at hl 1 rfl) ?_
      refine va_get (D := D) (ci := 1) (v := .ref q_o_cells) (C := RX1) (T := TX1) (N := 1) hx hb htb inT_X1 hown hK hP 0 rfl rfl 0 (by decide) (htb _ tb_43) (fun _ h9 => h9) rfl dX1_note_94 ?_
      refine lv_iload hx hb dX1_note_97 (lv_at hl 6 rfl) ?_
      refine lv_iload_n hx hb dX1_note_99 rfl (lv_at hl 4 rfl) ?_
      obtain ⟨hi_3, h⟩ := h
      refine va_iast hx hb hK hP hD hS 1 0 rfl rfl hi_3 dX1_note_100 (fun H locs hP hD hS => ?_)
      have hP : va_P D vwCl [(q_o, .inr (1, [.ref q_o_cells])), (q_o_cells, gI Cs 221 (upd v_o_cells x5.toNatClampNeg x3))] H := hP
      have hD : va_D A [(q_o, .inr (1, [.ref q_o_cells])), (q_o_cells, gI Cs 221 (upd v_o_cells x5.toNatClampNeg x3))] := hD
      exact B101 _ _ _ (upd v_o_cells x5.toNatClampNeg x3) s0 hP hD hS (lv_sub hl [1, 2, 3, 4, 5, 0] rfl) h
  have B81 : ∀ (H : Heap) (locs : List Loc) (ls : Array Slot) (v_o_cells : (Nat → Int32)) (x5 : Int32), va_P D vwCl [(q_o, .inr (1, [.ref q_o_cells])), (q_o_cells, gI Cs 221 v_o_cells)] H → va_D A [(q_o, .inr (1, [.ref q_o_cells])), (q_o_cells, gI Cs 221 v_o_cells)] → va_S A s.heap H locs → lv_has ls 8 [(0, .ref q_o), (1, .int x1), (2, .int x2), (3, .int x3), (4, .int x4), (5, .int x5)] → P_X1_note_b81 x1 x2 x3 x4 post v_o_cells x5 → W p l e ({ frames := 1, cells := 0, slots := 0, locals := 21 } : Room) s m args below meth c H locs 0 0 Q (F0 m 81 ls []) := by
    intro H locs ls v_o_cells x5 hP hD hS hl h
    unfold P_X1_note_b81 at h
    refine lv_iconst (v := (1 : Int32)) hx hb dX1_note_81 (by decide) ?_
    refine lv_goto (tgt := 86) hx hb dX1_note_82 (by decide) ?_
    exact B86 _ _ _ v_o_cells x5 (1 : Int32) hP hD hS (lv_sub hl [0, 1, 2, 3, 4, 5] rfl) h
  have B85 : ∀ (H : Heap) (locs : List Loc) (ls : Array Slot) (v_o_cells : (Nat → Int32)) (x5 : Int32), va_P D vwCl [(q_o, .inr (1, [.ref q_o_cells])), (q_o_cells, gI Cs 221 v_o_cells)] H → va_D A [(q_o, .inr (1, [.ref q_o_cells])), (q_o_cells, gI Cs 221 v_o_cells)] → va_S A s.heap H locs → lv_has ls 8 [(0, .ref q_o), (1, .int x1), (2, .int x2), (3, .int x3), (4, .int x4), (5, .int x5)] → P_X1_note_b85 x1 x2 x3 x4 post v_o_cells x5 → W p l e ({ frames := 1, cells := 0, slots := 0, locals := 21 } : Room) s m args below meth c H locs 0 0 Q (F0 m 85 ls []) := by
    intro H locs ls v_o_cells x5 hP hD hS hl h
    unfold P_X1_note_b85 at h
    refine lv_iconst (v := (0 : Int32)) hx hb dX1_note_85 (by decide) ?_
    exact B86 _ _ _ v_o_cells x5 (0 : Int32) hP hD hS (lv_sub hl [0, 1, 2, 3, 4, 5] rfl) h
  have B37 : ∀ (H : Heap) (locs : List Loc) (ls : Array Slot) (v_o_cells : (Nat → Int32)) (s0 : Int32), va_P D vwCl [(q_o, .inr (1, [.ref q_o_cells])), (q_o_cells, gI Cs 221 v_o_cells)] H → va_D A [(q_o, .inr (1, [.ref q_o_cells])), (q_o_cells, gI Cs 221 v_o_cells)] → va_S A s.heap H locs → lv_has ls 8 [(0, .ref q_o), (1, .int x1), (2, .int x2), (3, .int x3), (4, .int x4)] → P_X1_note_b37 x1 x2 x3 x4 post v_o_cells s0 → W p l e ({ frames := 1, cells := 0, slots := 0, locals := 21 } : Room) s m args below meth c H locs 0 0 Q (F0 m 37 ls [.int s0]) := by
    intro H locs ls v_o_cells s0 hP hD hS hl h
    unfold P_X1_note_b37 at h
    refine lv_iload_n hx hb dX1_note_37 rfl (lv_at hl 1 rfl) ?_
    refine lv_bipush (v := (6 : Int32)) hx hb dX1_note_38 (by decide) ?_
    refine lv_imul hx hb dX1_note_40 ?_
    refine lv_iadd hx hb dX1_note_41 ?_
    refine lv_iload_n hx hb dX1_note_42 rfl (lv_at hl 2 rfl) ?_
    refine lv_iadd hx hb dX1_note_43 ?_
    refine lv_topi (fun x5_4 ex5_4 => ?_)
    have h := h _ ex5_4
    refine lv_istore (lv' := [(5, .int x5_4), (0, .ref q_o), (1, .int x1), (2, .int x2), (3, .int x3), (4, .int x4)]) hx hb dX1_note_44 hl (by decide) rfl (fun ls hl => ?_)
    refine lv_aload_n hx hb dX1_note_46 rfl (lv_at hl 1 rfl) ?_
    refine va_get (D := D) (ci := 1) (v := .ref q_o_cells) (C := RX1) (T := TX1) (N := 1) hx hb htb inT_X1 hown hK hP 0 rfl rfl 0 (by decide) (htb _ tb_43) (fun _ h9 => h9) rfl dX1_note_47 ?_
    refine lv_iload hx hb dX1_note_50 (lv_at hl 0 rfl) ?_
    obtain ⟨hi_5, h⟩ := h
    refine va_iald hx hb hK hP 1 0 rfl rfl hi_5 dX1_note_52 ?_
    refine lv_topi (fun x6_6 ex6_6 => ?_)
    have h := h _ ex6_6
    refine lv_istore (lv' := [(6, .int x6_6), (5, .int x5_4), (0, .ref q_o), (1, .int x1), (2, .int x2), (3, .int x3), (4, .int x4)]) hx hb dX1_note_53 hl (by decide) rfl (fun ls hl => ?_)
    refine lv_iload hx hb dX1_note_55 (lv_at hl 0 rfl) ?_
    refine lv_iconst (v := (-1 : Int32)) hx hb dX1_note_57 (by decide) ?_
    refine lv_icmp_eq (tgt := 81) hx hb dX1_note_58 (by decide) (fun c_7 => ?_) (fun c_7 => ?_)
    · have h := h.1 c_7
      exact B81 _ _ _ v_o_cells x5_4 hP hD hS (lv_sub hl [2, 3, 4, 5, 6, 1] rfl) h
    · have h := h.2 c_7
      refine lv_iload hx hb dX1_note_61 (lv_at hl 6 rfl) ?_
      refine lv_if_eq (tgt := 75) hx hb dX1_note_63 (by decide) (fun c_8 => ?_) (fun c_8 => ?_)
      · have h := h.1 c_8
        refine lv_iload_n hx hb dX1_note_75 rfl (lv_at hl 5 rfl) ?_
        refine lv_iload hx hb dX1_note_76 (lv_at hl 0 rfl) ?_
        refine lv_icmp_le (tgt := 85) hx hb dX1_note_78 (by decide) (fun c_9 => ?_) (fun c_9 => ?_)
        · have h := h.1 c_9
          exact B85 _ _ _ v_o_cells x5_4 hP hD hS (lv_sub hl [2, 3, 4, 5, 6, 1] rfl) h
        · have h := h.2 c_9
          exact B81 _ _ _ v_o_cells x5_4 hP hD hS (lv_sub hl [2, 3, 4, 5, 6, 1] rfl) h
      · have h := h.2 c_8
        refine lv_iload_n hx hb dX1_note_66 rfl (lv_at hl 5 rfl) ?_
        refine lv_iload hx hb dX1_note_67 (lv_at hl 0 rfl) ?_
        refine lv_icmp_ge (tgt := 85) hx hb dX1_note_69 (by decide) (fun c_10 => ?_) (fun c_10 => ?_)
        · have h := h.1 c_10
          exact B85 _ _ _ v_o_cells x5_4 hP hD hS (lv_sub hl [2, 3, 4, 5, 6, 1] rfl) h
        · have h := h.2 c_10
          refine lv_goto (tgt := 81) hx hb dX1_note_72 (by decide) ?_
          exact B81 _ _ _ v_o_cells x5_4 hP hD hS (lv_sub hl [2, 3, 4, 5, 6, 1] rfl) h
  unfold P_X1_note at h
  refine lv_aload_n hx hb dX1_note_0 rfl (lv_at hl 0 rfl) ?_
  refine lv_iload_n hx hb dX1_note_1 rfl (lv_at hl 1 rfl) ?_
  refine gVR (As := [.int x1]) (rest := []) ⟨hx, hb, hml, hown, htb⟩ hK hP hN [0, 1] rfl (c_X1_isTown l D Cs q_o q_o_cells v_o_cells x1 h) (cwV 1 htb (TB_v tb_225 tb_226 tb_227 tb_16 (TB_self tb_228)) rfl rfl rfl z_X1_isTown ⟨Nat.le_of_ble_eq_true rfl, Nat.le_of_ble_eq_true rfl⟩) 0 rfl rfl rfl rfl hl.1 rfl (Nat.le_of_ble_eq_true rfl) ⟨Nat.le_of_ble_eq_true rfl, Nat.le_of_ble_eq_true rfl⟩ dX1_note_2 (fun r_11 h => ?_)
  refine lv_if_eq (tgt := 22) hx hb dX1_note_5 (by decide) (fun c_12 => ?_) (fun c_12 => ?_)
  · have h := h.1 c_12
    exact B22 _ _ _ v_o_cells hP hD hS (lv_sub hl [0, 1, 2, 3, 4] rfl) h
  · have h := h.2 c_12
    refine lv_iload_n hx hb dX1_note_8 rfl (lv_at hl 2 rfl) ?_
    refine gNR (As := [.int x2]) (rest := []) ⟨hx, hb, hml, hown, htb⟩ hK hP hN [] rfl (c_X5_isTrait l D Cs x2 h) (va_cnB 1 htb (TB_self tb_165) rfl rfl rfl (hN (.methodLinkNest RX1 39 yX5_isTrait RX5) (List.mem_of_getElem? (i := 0) rfl)) (htb _ tb_2) z_X5_isTrait.2 ⟨Nat.le_of_ble_eq_true rfl, Nat.le_of_ble_eq_true rfl⟩) (htb _ tb_164) rfl hl.1 rfl (Nat.le_of_ble_eq_true rfl) ⟨Nat.le_of_ble_eq_true rfl, Nat.le_of_ble_eq_true rfl⟩ dX1_note_9 (fun r_13 h => ?_)
    refine lv_if_eq (tgt := 22) hx hb dX1_note_12 (by decide) (fun c_14 => ?_) (fun c_14 => ?_)
    · have h := h.1 c_14
      exact B22 _ _ _ v_o_cells hP hD hS (lv_sub hl [0, 1, 2, 3, 4] rfl) h
    · have h := h.2 c_14
      refine lv_iload_n hx hb dX1_note_15 rfl (lv_at hl 3 rfl) ?_
      refine gNR (As := [.int x3]) (rest := []) ⟨hx, hb, hml, hown, htb⟩ hK hP hN [] rfl (c_X5_isYear l D Cs x3 h) (va_cnB 1 htb (TB_self tb_543) rfl rfl rfl (hN (.methodLinkNest RX1 72 yX5_isYear RX5) (List.mem_of_getElem? (i := 2) rfl)) (htb _ tb_2) z_X5_isYear.2 ⟨Nat.le_of_ble_eq_true rfl, Nat.le_of_ble_eq_true rfl⟩) (htb _ tb_542) rfl hl.1 rfl (Nat.le_of_ble_eq_true rfl) ⟨Nat.le_of_ble_eq_true rfl, Nat.le_of_ble_eq_true rfl⟩ dX1_note_16 (fun r_15 h => ?_)
      refine lv_if_ne (tgt := 24) hx hb dX1_note_19 (by decide) (fun c_16 => ?_) (fun c_16 => ?_)
      · have h := h.2 c_16
        refine lv_iload hx hb dX1_note_24 (lv_at hl 4 rfl) ?_
        refine lv_if_eq (tgt := 34) hx hb dX1_note_26 (by decide) (fun c_17 => ?_) (fun c_17 => ?_)
        · have h := h.1 c_17
          refine lv_sipush (v := (161 : Int32)) hx hb dX1_note_34 (by decide) ?_
          exact B37 _ _ _ v_o_cells (161 : Int32) hP hD hS (lv_sub hl [0, 1, 2, 3, 4] rfl) h
        · have h := h.2 c_17
          refine lv_bipush (v := (101 : Int32)) hx hb dX1_note_29 (by decide) ?_
          refine lv_goto (tgt := 37) hx hb dX1_note_31 (by decide) ?_
          exact B37 _ _ _ v_o_cells (101 : Int32) hP hD hS (lv_sub hl [0, 1, 2, 3, 4] rfl) h
      · have h := h.1 c_16
        exact B22 _ _ _ v_o_cells hP hD hS (lv_sub hl [0, 1, 2, 3, 4] rfl) h
def P_X5_needTown (v_o_land_cells : (Nat → Int32)) (x1 : Int32) (post : Prop) (px : String → Prop) : Prop :=
  P_X1_isTown v_o_land_cells x1 (fun r_1 => (r_1 = 0 → (px "java/lang/IndexOutOfBoundsException")) ∧ (¬ (r_1 = 0) → post))
set_option maxHeartbeats 4000000 in
set_option maxRecDepth 100000 in
theorem c_X5_needTown (l : Launch) (D : va_G) (Cs : Nat → ClassId) (q_o : Nat) (q_o_land : Nat) (q_o_past : Nat) (q_o_text : Nat) (q_o_histories : Nat) (q_o_rehearsal : Nat) (q_o_slots : Nat) (q_o_saved : Nat) (q_o_land_cells : Nat) (sz : Nat) (v_o_land_cells : (Nat → Int32)) (x1 : Int32) {post : Prop} {px : String → Prop} (hfl : l.stackTraces = false) (h : P_X5_needTown v_o_land_cells x1 post px) : vx_Met l yX5_needTown wsX5_needTown ({ frames := 6, cells := 1, slots := 6, locals := 86 } : Room) (va_Pc [.ref q_o, .int x1] (gX D Cs [(q_o, .inr (5, [.ref q_o_land, .ref q_o_past, .ref q_o_text, .ref q_o_histories, .ref q_o_rehearsal, .ref q_o_slots, .ref q_o_saved])), (q_o_land, .inr (1, [.ref q_o_land_cells])), (q_o_land_cells, gI Cs 221 v_o_land_cells)] sz)) (va_Qv (fun (_ : Unit) => post) (gB D (va_A [(q_o, .inr (5, [.ref q_o_land, .ref q_o_past, .ref q_o_text, .ref q_o_histories, .ref q_o_rehearsal, .ref q_o_slots, .ref q_o_saved])), (q_o_land, .inr (1, [.ref q_o_land_cells])), (q_o_land_cells, gI Cs 221 v_o_land_cells)] sz) (fun _ : Unit => [(q_o, .inr (5, [.ref q_o_land, .ref q_o_past, .ref q_o_text, .ref q_o_histories, .ref q_o_rehearsal, .ref q_o_slots, .ref q_o_saved])), (q_o_land, .inr (1, [.ref q_o_land_cells])), (q_o_land_cells, gI Cs 221 v_o_land_cells)])) (va_A [(q_o, .inr (5, [.ref q_o_land, .ref q_o_past, .ref q_o_text, .ref q_o_histories, .ref q_o_rehearsal, .ref q_o_slots, .ref q_o_saved])), (q_o_land, .inr (1, [.ref q_o_land_cells])), (q_o_land_cells, gI Cs 221 v_o_land_cells)] sz)) (gXC px D [(q_o, .inr (5, [.ref q_o_land, .ref q_o_past, .ref q_o_text, .ref q_o_histories, .ref q_o_rehearsal, .ref q_o_slots, .ref q_o_saved])), (q_o_land, .inr (1, [.ref q_o_land_cells])), (q_o_land_cells, gI Cs 221 v_o_land_cells)] (va_A [(q_o, .inr (5, [.ref q_o_land, .ref q_o_past, .ref q_o_text, .ref q_o_histories, .ref q_o_rehearsal, .ref q_o_slots, .ref q_o_saved])), (q_o_land, .inr (1, [.ref q_o_land_cells])), (q_o_land_cells, gI Cs 221 v_o_land_cells)] sz)) 1 6 (va_A [(q_o, .inr (5, [.ref q_o_land, .ref q_o_past, .ref q_o_text, .ref q_o_histories, .ref q_o_rehearsal, .ref q_o_slots, .ref q_o_saved])), (q_o_land, .inr (1, [.ref q_o_land_cells])), (q_o_land_cells, gI Cs 221 v_o_land_cells)] sz) := by
  refine vx_ofW (cc := cX5_needTown) (maxL := 2) (ret := none) (by decide) rfl ?_
  intro p e s m args below meth c s₁ B hml hout0 hv
  obtain ⟨ha, hsz, hP, hK, hD0, hN, hX⟩ := hv
  have hx := B.exec
  have hb := B.bytes
  have hr := B.returns
  have hts := atoms_spec (ws := wsX5_needTown) B.pre
  have htb : ∀ w ∈ TB, w.before args s = true := fun w h9 => hts w (List.mem_cons_of_mem _ h9)
  have hown : s.vm.findClass RX5 = some m.cls := findClass_of_methodNamed B.named
  have hlocks := B.notSynchronized
  have hout : ∀ (k : Nat), ∀ x ∈ c.exceptionTable.toList, covers x k = false := fun k x h9 => (hout0 x h9).elim
  subst hsz
  have hD := hD0.self (sz := s.heap.size)
  generalize hAe : va_A [(q_o, .inr (5, [.ref q_o_land, .ref q_o_past, .ref q_o_text, .ref q_o_histories, .ref q_o_rehearsal, .ref q_o_slots, .ref q_o_saved])), (q_o_land, .inr (1, [.ref q_o_land_cells])), (q_o_land_cells, gI Cs 221 v_o_land_cells)] s.heap.size = A at *
  have hA : ∀ q : Nat, s.heap.size ≤ q → A q := fun q h9 => by rw [← hAe]; exact Or.inr h9
  obtain ⟨H, hH⟩ : ∃ z : Heap, z = s.heap := ⟨_, rfl⟩
  have hS : va_S A s.heap H [] := by rw [hH]; exact va_S.rf
  have hP : va_P D vwCl [(q_o, .inr (5, [.ref q_o_land, .ref q_o_past, .ref q_o_text, .ref q_o_histories, .ref q_o_rehearsal, .ref q_o_slots, .ref q_o_saved])), (q_o_land, .inr (1, [.ref q_o_land_cells])), (q_o_land_cells, gI Cs 221 v_o_land_cells)] H := by rw [hH]; exact hP
  generalize hQ : vx_MQ below _ _ args s _ _ _ = Q
  show W p l e ({ frames := 6, cells := 1, slots := 6, locals := 86 } : Room) s m args below meth c s.heap [] 0 0 Q (entryFrame m args 2)
  have hent : entryFrame m args 2 = F0 m 0 ((lg_sl ([.ref q_o, .int x1]) ++ List.replicate (2 - (lg_sl ([.ref q_o, .int x1])).length) Slot.unset).toArray) [] := by rw [ha]; exact lg_entry_eq m ([.ref q_o, .int x1]) 2
  rw [hent]; clear hent
  rw [← hH]
  have hl := lv_entry ([.ref q_o, .int x1]) (n := 2) (Nat.le_of_ble_eq_true rfl)
  generalize (lg_sl ([.ref q_o, .int x1]) ++ List.replicate (2 - (lg_sl ([.ref q_o, .int x1])).length) Slot.unset).toArray = ls at hl ⊢
  have hl : lv_has ls 2 [(0, .ref q_o), (1, .int x1)] := hl
  unfold P_X5_needTown at h
  refine lv_aload_n hx hb dX5_needTown_0 rfl (lv_at hl 0 rfl) ?_
  refine va_get (D := D) (ci := 5) (v := .ref q_o_land) (C := RX5) (T := TX5) (N := 7) hx hb htb inT_X5 hown hK hP 0 rfl rfl 0 (by decide) (htb _ tb_17) (fun _ h9 => h9) rfl dX5_needTown_1 ?_
  refine lv_iload_n hx hb dX5_needTown_4 rfl (lv_at hl 1 rfl) ?_
  refine gVR (As := [.int x1]) (rest := []) ⟨hx, hb, hml, hown, htb⟩ hK hP hN [1, 2] rfl (c_X1_isTown l D Cs q_o_land q_o_land_cells v_o_land_cells x1 h) (cwV 1 htb (TB_v tb_393 tb_226 tb_227 tb_16 (TB_self tb_228)) rfl rfl rfl z_X1_isTown ⟨Nat.le_of_ble_eq_true rfl, Nat.le_of_ble_eq_true rfl⟩) 1 rfl rfl rfl rfl hl.1 rfl (Nat.le_of_ble_eq_true rfl) ⟨Nat.le_of_ble_eq_true rfl, Nat.le_of_ble_eq_true rfl⟩ dX5_needTown_5 (fun r_1 h => ?_)
  refine lv_if_ne (tgt := 22) hx hb dX5_needTown_8 (by decide) (fun c_2 => ?_) (fun c_2 => ?_)
  · have h := h.2 c_2
    refine W.widen (k := 1) (n := 6) (by omega) (by omega) ?_
    rw [← hQ]
    exact vx_ret (gRetV (u := ()) hx hb hr h hP hD hS dX5_needTown_22 hlocks)
  · have h := h.1 c_2
    refine gThrowW (rest := []) (text := "no such town") hx hb hfl hown (by decide) (htb _ tb_391) (htb _ tb_392) (List.mem_of_getElem? (i := 11) rfl) hX (gx_at261 htb hX.2.2.1) gx_ok261 hP hD hS hl.1 hml dX5_needTown_11 dX5_needTown_14 dX5_needTown_15 dX5_needTown_18 dX5_needTown_21 hout (Nat.le_of_ble_eq_true rfl) (Nat.le_of_ble_eq_true rfl) ⟨Nat.le_of_ble_eq_true rfl, Nat.le_of_ble_eq_true rfl⟩ ⟨Nat.le_of_ble_eq_true rfl, Nat.le_of_ble_eq_true rfl⟩ hlocks hQ [0, 1, 2] (by decide) rfl h
def P_X5_needTrait (x0 : Int32) (post : Prop) (px : String → Prop) : Prop :=
  P_X5_isTrait x0 (fun r_1 => (r_1 = 0 → (px "java/lang/IllegalArgumentException")) ∧ (¬ (r_1 = 0) → post))
set_option maxHeartbeats 4000000 in
set_option maxRecDepth 100000 in
theorem c_X5_needTrait (l : Launch) (D : va_G) (Cs : Nat → ClassId) (sz : Nat) (x0 : Int32) {post : Prop} {px : String → Prop} (hfl : l.stackTraces = false) (h : P_X5_needTrait x0 post px) : vx_Met l yX5_needTrait wsX5_needTrait ({ frames := 6, cells := 1, slots := 6, locals := 86 } : Room) (va_Pc [.int x0] (gX D Cs [] sz)) (va_Qv (fun (_ : Unit) => post) (gB D (va_A [] sz) (fun _ : Unit => [])) (va_A [] sz)) (gXC px D [] (va_A [] sz)) 1 6 (va_A [] sz) := by
  refine vx_ofW (cc := cX5_needTrait) (maxL := 1) (ret := none) (by decide) rfl ?_
  intro p e s m args below meth c s₁ B hml hout0 hv
  obtain ⟨ha, hsz, hP, hK, hD0, hN, hX⟩ := hv
  have hx := B.exec
  have hb := B.bytes
  have hr := B.returns
  have hts := atoms_spec (ws := wsX5_needTrait) B.pre
  have htb : ∀ w ∈ TB, w.before args s = true := fun w h9 => hts w (List.mem_cons_of_mem _ h9)
  have hown : s.vm.findClass RX5 = some m.cls := findClass_of_methodNamed B.named
  have hlocks := B.notSynchronized
  have hout : ∀ (k : Nat), ∀ x ∈ c.exceptionTable.toList, covers x k = false := fun k x h9 => (hout0 x h9).elim
  subst hsz
  have hD := hD0.self (sz := s.heap.size)
  generalize hAe : va_A [] s.heap.size = A at *
  have hA : ∀ q : Nat, s.heap.size ≤ q → A q := fun q h9 => by rw [← hAe]; exact Or.inr h9
  obtain ⟨H, hH⟩ : ∃ z : Heap, z = s.heap := ⟨_, rfl⟩
  have hS : va_S A s.heap H [] := by rw [hH]; exact va_S.rf
  have hP : va_P D vwCl [] H := by rw [hH]; exact hP
  generalize hQ : vx_MQ below _ _ args s _ _ _ = Q
  show W p l e ({ frames := 6, cells := 1, slots := 6, locals := 86 } : Room) s m args below meth c s.heap [] 0 0 Q (entryFrame m args 1)
  have hent : entryFrame m args 1 = F0 m 0 ((lg_sl ([.int x0]) ++ List.replicate (1 - (lg_sl ([.int x0])).length) Slot.unset).toArray) [] := by rw [ha]; exact lg_entry_eq m ([.int x0]) 1
  rw [hent]; clear hent
  rw [← hH]
  have hl := lv_entry ([.int x0]) (n := 1) (Nat.le_of_ble_eq_true rfl)
  generalize (lg_sl ([.int x0]) ++ List.replicate (1 - (lg_sl ([.int x0])).length) Slot.unset).toArray = ls at hl ⊢
  have hl : lv_has ls 1 [(0, .int x0)] := hl
  unfold P_X5_needTrait at h
  refine lv_iload_n hx hb dX5_needTrait_0 rfl (lv_at hl 0 rfl) ?_
  refine gSR (As := [.int x0]) (rest := []) ⟨hx, hb, hml, hown, htb⟩ hK hP hN [] rfl (c_X5_isTrait l D Cs x0 h) (va_cwS 1 htb (TB_s tb_430 tb_164 tb_2 (TB_self tb_165)) rfl rfl rfl z_X5_isTrait.2 ⟨Nat.le_of_ble_eq_true rfl, Nat.le_of_ble_eq_true rfl⟩) rfl hl.1 rfl (Nat.le_of_ble_eq_true rfl) ⟨Nat.le_of_ble_eq_true rfl, Nat.le_of_ble_eq_true rfl⟩ dX5_needTrait_1 (fun r_1 h => ?_)
  refine lv_if_ne (tgt := 18) hx hb dX5_needTrait_4 (by decide) (fun c_2 => ?_) (fun c_2 => ?_)
  · have h := h.2 c_2
    refine W.widen (k := 1) (n := 6) (by omega) (by omega) ?_
    rw [← hQ]
    exact vx_ret (gRetV (u := ()) hx hb hr h hP hD hS dX5_needTrait_18 hlocks)
  · have h := h.1 c_2
    refine gThrowW (rest := []) (text := "no such trait") hx hb hfl hown (by decide) (htb _ tb_107) (htb _ tb_108) (List.mem_of_getElem? (i := 14) rfl) hX (gx_at57 htb hX.2.2.1) gx_ok57 hP hD hS hl.1 hml dX5_needTrait_7 dX5_needTrait_10 dX5_needTrait_11 dX5_needTrait_14 dX5_needTrait_17 hout (Nat.le_of_ble_eq_true rfl) (Nat.le_of_ble_eq_true rfl) ⟨Nat.le_of_ble_eq_true rfl, Nat.le_of_ble_eq_true rfl⟩ ⟨Nat.le_of_ble_eq_true rfl, Nat.le_of_ble_eq_true rfl⟩ hlocks hQ [] (by decide) rfl h
def P_X5_road (v_o_land_cells : (Nat → Int32)) (x1 : Int32) (x2 : Int32) (post : Int32 → Prop) (px : String → Prop) : Prop :=
  P_X5_needTown v_o_land_cells x1 (P_X5_needTown v_o_land_cells x2 (P_X1_roadLength v_o_land_cells x1 x2 (fun r_3 => post r_3)) px) px
set_option maxHeartbeats 4000000 in
set_option maxRecDepth 100000 in
theorem c_X5_road (l : Launch) (D : va_G) (Cs : Nat → ClassId) (q_o : Nat) (q_o_land : Nat) (q_o_past : Nat) (q_o_text : Nat) (q_o_histories : Nat) (q_o_rehearsal : Nat) (q_o_slots : Nat) (q_o_saved : Nat) (q_o_land_cells : Nat) (sz : Nat) (v_o_land_cells : (Nat → Int32)) (x1 : Int32) (x2 : Int32) {post : Int32 → Prop} {px : String → Prop} (hfl : l.stackTraces = false) (h : P_X5_road v_o_land_cells x1 x2 post px) : vx_Met l yX5_road wsX5_road ({ frames := 7, cells := 2, slots := 12, locals := 107 } : Room) (va_Pc [.ref q_o, .int x1, .int x2] (gX D Cs [(q_o, .inr (5, [.ref q_o_land, .ref q_o_past, .ref q_o_text, .ref q_o_histories, .ref q_o_rehearsal, .ref q_o_slots, .ref q_o_saved])), (q_o_land, .inr (1, [.ref q_o_land_cells])), (q_o_land_cells, gI Cs 221 v_o_land_cells)] sz)) (va_Qi (fun (r : Int32) (_ : Unit) => post r) (gB D (va_A [(q_o, .inr (5, [.ref q_o_land, .ref q_o_past, .ref q_o_text, .ref q_o_histories, .ref q_o_rehearsal, .ref q_o_slots, .ref q_o_saved])), (q_o_land, .inr (1, [.ref q_o_land_cells])), (q_o_land_cells, gI Cs 221 v_o_land_cells)] sz) (fun _ : Unit => [(q_o, .inr (5, [.ref q_o_land, .ref q_o_past, .ref q_o_text, .ref q_o_histories, .ref q_o_rehearsal, .ref q_o_slots, .ref q_o_saved])), (q_o_land, .inr (1, [.ref q_o_land_cells])), (q_o_land_cells, gI Cs 221 v_o_land_cells)])) (va_A [(q_o, .inr (5, [.ref q_o_land, .ref q_o_past, .ref q_o_text, .ref q_o_histories, .ref q_o_rehearsal, .ref q_o_slots, .ref q_o_saved])), (q_o_land, .inr (1, [.ref q_o_land_cells])), (q_o_land_cells, gI Cs 221 v_o_land_cells)] sz)) (gXC px D [(q_o, .inr (5, [.ref q_o_land, .ref q_o_past, .ref q_o_text, .ref q_o_histories, .ref q_o_rehearsal, .ref q_o_slots, .ref q_o_saved])), (q_o_land, .inr (1, [.ref q_o_land_cells])), (q_o_land_cells, gI Cs 221 v_o_land_cells)] (va_A [(q_o, .inr (5, [.ref q_o_land, .ref q_o_past, .ref q_o_text, .ref q_o_histories, .ref q_o_rehearsal, .ref q_o_slots, .ref q_o_saved])), (q_o_land, .inr (1, [.ref q_o_land_cells])), (q_o_land_cells, gI Cs 221 v_o_land_cells)] sz)) 2 12 (va_A [(q_o, .inr (5, [.ref q_o_land, .ref q_o_past, .ref q_o_text, .ref q_o_histories, .ref q_o_rehearsal, .ref q_o_slots, .ref q_o_saved])), (q_o_land, .inr (1, [.ref q_o_land_cells])), (q_o_land_cells, gI Cs 221 v_o_land_cells)] sz) := by
  refine vx_ofW (cc := cX5_road) (maxL := 3) (ret := (some .int)) (by decide) rfl ?_
  intro p e s m args below meth c s₁ B hml hout0 hv
  obtain ⟨ha, hsz, hP, hK, hD0, hN, hX⟩ := hv
  have hx := B.exec
  have hb := B.bytes
  have hr := B.returns
  have hts := atoms_spec (ws := wsX5_road) B.pre
  have htb : ∀ w ∈ TB, w.before args s = true := fun w h9 => hts w (List.mem_cons_of_mem _ h9)
  have hown : s.vm.findClass RX5 = some m.cls := findClass_of_methodNamed B.named
  have hlocks := B.notSynchronized
  have hout : ∀ (k : Nat), ∀ x ∈ c.exceptionTable.toList, covers x k = false := fun k x h9 => (hout0 x h9).elim
  subst hsz
  have hD := hD0.self (sz := s.heap.size)
  generalize hAe : va_A [(q_o, .inr (5, [.ref q_o_land, .ref q_o_past, .ref q_o_text, .ref q_o_histories, .ref q_o_rehearsal, .ref q_o_slots, .ref q_o_saved])), (q_o_land, .inr (1, [.ref q_o_land_cells])), (q_o_land_cells, gI Cs 221 v_o_land_cells)] s.heap.size = A at *
  have hA : ∀ q : Nat, s.heap.size ≤ q → A q := fun q h9 => by rw [← hAe]; exact Or.inr h9
  obtain ⟨H, hH⟩ : ∃ z : Heap, z = s.heap := ⟨_, rfl⟩
  have hS : va_S A s.heap H [] := by rw [hH]; exact va_S.rf
  have hP : va_P D vwCl [(q_o, .inr (5, [.ref q_o_land, .ref q_o_past, .ref q_o_text, .ref q_o_histories, .ref q_o_rehearsal, .ref q_o_slots, .ref q_o_saved])), (q_o_land, .inr (1, [.ref q_o_land_cells])), (q_o_land_cells, gI Cs 221 v_o_land_cells)] H := by rw [hH]; exact hP
  generalize hQ : vx_MQ below _ _ args s _ _ _ = Q
  show W p l e ({ frames := 7, cells := 2, slots := 12, locals := 107 } : Room) s m args below meth c s.heap [] 0 0 Q (entryFrame m args 3)
  have hent : entryFrame m args 3 = F0 m 0 ((lg_sl ([.ref q_o, .int x1, .int x2]) ++ List.replicate (3 - (lg_sl ([.ref q_o, .int x1, .int x2])).length) Slot.unset).toArray) [] := by rw [ha]; exact lg_entry_eq m ([.ref q_o, .int x1, .int x2]) 3
  rw [hent]; clear hent
  rw [← hH]
  have hl := lv_entry ([.ref q_o, .int x1, .int x2]) (n := 3) (Nat.le_of_ble_eq_true rfl)
  generalize (lg_sl ([.ref q_o, .int x1, .int x2]) ++ List.replicate (3 - (lg_sl ([.ref q_o, .int x1, .int x2])).length) Slot.unset).toArray = ls at hl ⊢
  have hl : lv_has ls 3 [(0, .ref q_o), (1, .int x1), (2, .int x2)] := hl
  unfold P_X5_road at h
  refine lv_aload_n hx hb dX5_road_0 rfl (lv_at hl 0 rfl) ?_
  refine lv_iload_n hx hb dX5_road_1 rfl (lv_at hl 1 rfl) ?_
  refine gVXv (wr := []) (As := [.int x1]) (rest := []) ⟨hx, hb, hml, hown, htb⟩ hK hP hD hS hA hN hX [0, 1, 2] [] rfl (by decide) rfl (by decide) (by decide) (c_X5_needTown l D Cs q_o q_o_land q_o_past q_o_text q_o_histories q_o_rehearsal q_o_slots q_o_saved q_o_land_cells H.size v_o_land_cells x1 hfl h) (cwV 1 htb (TB_v tb_387 tb_388 tb_389 tb_2 (TB_self tb_390)) rfl rfl rfl z_X5_needTown ⟨Nat.le_of_ble_eq_true rfl, Nat.le_of_ble_eq_true rfl⟩) 0 rfl rfl rfl rfl hl.1 rfl (Nat.le_of_ble_eq_true rfl) ⟨Nat.le_of_ble_eq_true rfl, Nat.le_of_ble_eq_true rfl⟩ dX5_road_2 hlocks hout hQ [0, 1, 2] (by decide) rfl ⟨Nat.le_of_ble_eq_true rfl, Nat.le_of_ble_eq_true rfl⟩ (fun u H locs h hP hD hS => ?_)
  have hP : va_P D vwCl [(q_o, .inr (5, [.ref q_o_land, .ref q_o_past, .ref q_o_text, .ref q_o_histories, .ref q_o_rehearsal, .ref q_o_slots, .ref q_o_saved])), (q_o_land, .inr (1, [.ref q_o_land_cells])), (q_o_land_cells, gI Cs 221 v_o_land_cells)] H := hP
  have hD : va_D A [(q_o, .inr (5, [.ref q_o_land, .ref q_o_past, .ref q_o_text, .ref q_o_histories, .ref q_o_rehearsal, .ref q_o_slots, .ref q_o_saved])), (q_o_land, .inr (1, [.ref q_o_land_cells])), (q_o_land_cells, gI Cs 221 v_o_land_cells)] := hD
  refine lv_aload_n hx hb dX5_road_5 rfl (lv_at hl 0 rfl) ?_
  refine lv_iload_n hx hb dX5_road_6 rfl (lv_at hl 2 rfl) ?_
  refine gVXv (wr := []) (As := [.int x2]) (rest := []) ⟨hx, hb, hml, hown, htb⟩ hK hP hD hS hA hN hX [0, 1, 2] [] rfl (by decide) rfl (by decide) (by decide) (c_X5_needTown l D Cs q_o q_o_land q_o_past q_o_text q_o_histories q_o_rehearsal q_o_slots q_o_saved q_o_land_cells H.size v_o_land_cells x2 hfl h) (cwV 1 htb (TB_v tb_387 tb_388 tb_389 tb_2 (TB_self tb_390)) rfl rfl rfl z_X5_needTown ⟨Nat.le_of_ble_eq_true rfl, Nat.le_of_ble_eq_true rfl⟩) 0 rfl rfl rfl rfl hl.1 rfl (Nat.le_of_ble_eq_true rfl) ⟨Nat.le_of_ble_eq_true rfl, Nat.le_of_ble_eq_true rfl⟩ dX5_road_7 hlocks hout hQ [0, 1, 2] (by decide) rfl ⟨Nat.le_of_ble_eq_true rfl, Nat.le_of_ble_eq_true rfl⟩ (fun u H locs h hP hD hS => ?_)
  have hP : va_P D vwCl [(q_o, .inr (5, [.ref q_o_land, .ref q_o_past, .ref q_o_text, .ref q_o_histories, .ref q_o_rehearsal, .ref q_o_slots, .ref q_o_saved])), (q_o_land, .inr (1, [.ref q_o_land_cells])), (q_o_land_cells, gI Cs 221 v_o_land_cells)] H := hP
  have hD : va_D A [(q_o, .inr (5, [.ref q_o_land, .ref q_o_past, .ref q_o_text, .ref q_o_histories, .ref q_o_rehearsal, .ref q_o_slots, .ref q_o_saved])), (q_o_land, .inr (1, [.ref q_o_land_cells])), (q_o_land_cells, gI Cs 221 v_o_land_cells)] := hD
  refine lv_aload_n hx hb dX5_road_10 rfl (lv_at hl 0 rfl) ?_
  refine va_get (D := D) (ci := 5) (v := .ref q_o_land) (C := RX5) (T := TX5) (N := 7) hx hb htb inT_X5 hown hK hP 0 rfl rfl 0 (by decide) (htb _ tb_17) (fun _ h9 => h9) rfl dX5_road_11 ?_
  refine lv_iload_n hx hb dX5_road_14 rfl (lv_at hl 1 rfl) ?_
  refine lv_iload_n hx hb dX5_road_15 rfl (lv_at hl 2 rfl) ?_
  refine gVR (As := [.int x1, .int x2]) (rest := []) ⟨hx, hb, hml, hown, htb⟩ hK hP hN [1, 2] rfl (c_X1_roadLength l D Cs q_o_land q_o_land_cells v_o_land_cells x1 x2 h) (cwV 2 htb (TB_v tb_394 tb_222 tb_223 tb_16 (TB_self tb_224)) rfl rfl rfl z_X1_roadLength ⟨Nat.le_of_ble_eq_true rfl, Nat.le_of_ble_eq_true rfl⟩) 1 rfl rfl rfl rfl hl.1 rfl (Nat.le_of_ble_eq_true rfl) ⟨Nat.le_of_ble_eq_true rfl, Nat.le_of_ble_eq_true rfl⟩ dX5_road_16 (fun r_3 h => ?_)
  rw [← hQ]
  exact vx_ret (gRetI (u := ()) hx hb hr rfl h hP hD hS dX5_road_19 hlocks)
def P_X0_passOn_b29 (v_o_earliest : (Nat → Int32)) (x1 : Int32) (x2 : Int32) (x3 : Int32) (post : Int32 → (Nat → Int32) → Prop) (v_o_years : (Nat → Int32)) (x4 : Int32) : Prop :=
  vp_in x2 10 ∧ ((x4 < (v_o_years x2.toNatClampNeg) → (vp_in x2 10 ∧ (post (1 : Int32) (upd v_o_years x2.toNatClampNeg x4)))) ∧ (¬ (x4 < (v_o_years x2.toNatClampNeg)) → (post (0 : Int32) v_o_years)))
def P_X0_passOn (v_o_earliest : (Nat → Int32)) (v_o_years : (Nat → Int32)) (x1 : Int32) (x2 : Int32) (x3 : Int32) (post : Int32 → (Nat → Int32) → Prop) : Prop :=
  vp_in x1 10 ∧ (∀ x4_5 : Int32, x4_5 = (v_o_years x1.toNatClampNeg) + x3 → vp_in x2 10 ∧ (((v_o_earliest x2.toNatClampNeg) ≤ x4_5 → P_X0_passOn_b29 v_o_earliest x1 x2 x3 post v_o_years x4_5) ∧ (¬ ((v_o_earliest x2.toNatClampNeg) ≤ x4_5) → (vp_in x2 10 ∧ (∀ x4_9 : Int32, x4_9 = v_o_earliest x2.toNatClampNeg → P_X0_passOn_b29 v_o_earliest x1 x2 x3 post v_o_years x4_9)))))
set_option maxHeartbeats 4000000 in
set_option maxRecDepth 100000 in
theorem c_X0_passOn (l : Launch) (D : va_G) (Cs : Nat → ClassId) (q_o : Nat) (q_o_from : Nat) (q_o_to : Nat) (q_o_lengths : Nat) (q_o_earliest : Nat) (q_o_latest : Nat) (q_o_years : Nat) (q_o_explained : Nat) (q_o_together : Nat) (sz : Nat) (v_o_earliest : (Nat → Int32)) (v_o_years : (Nat → Int32)) (v_o_towns : Int32) (v_o_roads : Int32) (v_o_known : Int32) (v_o_fewest : Int32) (v_o_origins : Int32) (v_o_always : Int32) (v_o_sometimes : Int32) (v_o_leastSets : Int32) (x1 : Int32) (x2 : Int32) (x3 : Int32) {post : Int32 → (Nat → Int32) → Prop} (h : P_X0_passOn v_o_earliest v_o_years x1 x2 x3 post) : Met l yX0_passOn wsX0_passOn ({ frames := 0, cells := 0, slots := 0, locals := 0 } : Room) (va_Pc [.ref q_o, .int x1, .int x2, .int x3] (gM D Cs [(q_o, .inr (0, [.ref q_o_from, .ref q_o_to, .ref q_o_lengths, .ref q_o_earliest, .ref q_o_latest, .ref q_o_years, .ref q_o_explained, .ref q_o_together, .int v_o_towns, .int v_o_roads, .int v_o_known, .int v_o_fewest, .int v_o_origins, .int v_o_always, .int v_o_sometimes, .int v_o_leastSets])), (q_o_earliest, gI Cs 10 v_o_earliest), (q_o_years, gI Cs 10 v_o_years)] sz)) (va_Qi (fun (r : Int32) (u : (Nat → Int32)) => post r u) (gB D (va_A [(q_o, .inr (0, [.ref q_o_from, .ref q_o_to, .ref q_o_lengths, .ref q_o_earliest, .ref q_o_latest, .ref q_o_years, .ref q_o_explained, .ref q_o_together, .int v_o_towns, .int v_o_roads, .int v_o_known, .int v_o_fewest, .int v_o_origins, .int v_o_always, .int v_o_sometimes, .int v_o_leastSets])), (q_o_earliest, gI Cs 10 v_o_earliest), (q_o_years, gI Cs 10 v_o_years)] sz) (fun u : (Nat → Int32) => [(q_o, .inr (0, [.ref q_o_from, .ref q_o_to, .ref q_o_lengths, .ref q_o_earliest, .ref q_o_latest, .ref q_o_years, .ref q_o_explained, .ref q_o_together, .int v_o_towns, .int v_o_roads, .int v_o_known, .int v_o_fewest, .int v_o_origins, .int v_o_always, .int v_o_sometimes, .int v_o_leastSets])), (q_o_earliest, gI Cs 10 v_o_earliest), (q_o_years, gI Cs 10 u)])) (va_A [(q_o, .inr (0, [.ref q_o_from, .ref q_o_to, .ref q_o_lengths, .ref q_o_earliest, .ref q_o_latest, .ref q_o_years, .ref q_o_explained, .ref q_o_together, .int v_o_towns, .int v_o_roads, .int v_o_known, .int v_o_fewest, .int v_o_origins, .int v_o_always, .int v_o_sometimes, .int v_o_leastSets])), (q_o_earliest, gI Cs 10 v_o_earliest), (q_o_years, gI Cs 10 v_o_years)] sz)) 0 0 (va_A [(q_o, .inr (0, [.ref q_o_from, .ref q_o_to, .ref q_o_lengths, .ref q_o_earliest, .ref q_o_latest, .ref q_o_years, .ref q_o_explained, .ref q_o_together, .int v_o_towns, .int v_o_roads, .int v_o_known, .int v_o_fewest, .int v_o_origins, .int v_o_always, .int v_o_sometimes, .int v_o_leastSets])), (q_o_earliest, gI Cs 10 v_o_earliest), (q_o_years, gI Cs 10 v_o_years)] sz) := by
  refine Met.ofW (cc := cX0_passOn) (maxL := 5) (ret := (some .boolean)) (by decide) rfl ?_
  intro p e s m args below meth c s₁ B hml hv
  obtain ⟨ha, hsz, hP, hK, hD0, hN⟩ := hv
  have hx := B.exec
  have hb := B.bytes
  have hr := B.returns
  have hts := atoms_spec (ws := wsX0_passOn) B.pre
  have htb : ∀ w ∈ TB, w.before args s = true := fun w h9 => hts w (List.mem_cons_of_mem _ h9)
  have hown : s.vm.findClass RX0 = some m.cls := findClass_of_methodNamed B.named
  have hlocks := B.notSynchronized
  subst hsz
  have hD := hD0.self (sz := s.heap.size)
  generalize hAe : va_A [(q_o, .inr (0, [.ref q_o_from, .ref q_o_to, .ref q_o_lengths, .ref q_o_earliest, .ref q_o_latest, .ref q_o_years, .ref q_o_explained, .ref q_o_together, .int v_o_towns, .int v_o_roads, .int v_o_known, .int v_o_fewest, .int v_o_origins, .int v_o_always, .int v_o_sometimes, .int v_o_leastSets])), (q_o_earliest, gI Cs 10 v_o_earliest), (q_o_years, gI Cs 10 v_o_years)] s.heap.size = A at hD ⊢
  have hA : ∀ q : Nat, s.heap.size ≤ q → A q := fun q h9 => by rw [← hAe]; exact Or.inr h9
  obtain ⟨H, hH⟩ : ∃ z : Heap, z = s.heap := ⟨_, rfl⟩
  have hS : va_S A s.heap H [] := by rw [hH]; exact va_S.rf
  have hP : va_P D vwCl [(q_o, .inr (0, [.ref q_o_from, .ref q_o_to, .ref q_o_lengths, .ref q_o_earliest, .ref q_o_latest, .ref q_o_years, .ref q_o_explained, .ref q_o_together, .int v_o_towns, .int v_o_roads, .int v_o_known, .int v_o_fewest, .int v_o_origins, .int v_o_always, .int v_o_sometimes, .int v_o_leastSets])), (q_o_earliest, gI Cs 10 v_o_earliest), (q_o_years, gI Cs 10 v_o_years)] H := by rw [hH]; exact hP
  generalize hQ : MQ below _ args s _ _ _ = Q
  show W p l e ({ frames := 0, cells := 0, slots := 0, locals := 0 } : Room) s m args below meth c s.heap [] 0 0 Q (entryFrame m args 5)
  have hent : entryFrame m args 5 = F0 m 0 ((lg_sl ([.ref q_o, .int x1, .int x2, .int x3]) ++ List.replicate (5 - (lg_sl ([.ref q_o, .int x1, .int x2, .int x3])).length) Slot.unset).toArray) [] := by rw [ha]; exact lg_entry_eq m ([.ref q_o, .int x1, .int x2, .int x3]) 5
  rw [hent]; clear hent
  rw [← hH]
  have hl := lv_entry ([.ref q_o, .int x1, .int x2, .int x3]) (n := 5) (Nat.le_of_ble_eq_true rfl)
  generalize (lg_sl ([.ref q_o, .int x1, .int x2, .int x3]) ++ List.replicate (5 - (lg_sl ([.ref q_o, .int x1, .int x2, .int x3])).length) Slot.unset).toArray = ls at hl ⊢
  have hl : lv_has ls 5 [(0, .ref q_o), (1, .int x1), (2, .int x2), (3, .int x3)] := hl
  have B29 : ∀ (H : Heap) (locs : List Loc) (ls : Array Slot) (v_o_years : (Nat → Int32)) (x4 : Int32), va_P D vwCl [(q_o, .inr (0, [.ref q_o_from, .ref q_o_to, .ref q_o_lengths, .ref q_o_earliest, .ref q_o_latest, .ref q_o_years, .ref q_o_explained, .ref q_o_together, .int v_o_towns, .int v_o_roads, .int v_o_known, .int v_o_fewest, .int v_o_origins, .int v_o_always, .int v_o_sometimes, .int v_o_leastSets])), (q_o_earliest, gI Cs 10 v_o_earliest), (q_o_years, gI Cs 10 v_o_years)] H → va_D A [(q_o, .inr (0, [.ref q_o_from, .ref q_o_to, .ref q_o_lengths, .ref q_o_earliest, .ref q_o_latest, .ref q_o_years, .ref q_o_explained, .ref q_o_together, .int v_o_towns, .int v_o_roads, .int v_o_known, .int v_o_fewest, .int v_o_origins, .int v_o_always, .int v_o_sometimes, .int v_o_leastSets])), (q_o_earliest, gI Cs 10 v_o_earliest), (q_o_years, gI Cs 10 v_o_years)] → va_S A s.heap H locs → lv_has ls 5 [(0, .ref q_o), (1, .int x1), (2, .int x2), (3, .int x3), (4, .int x4)] → P_X0_passOn_b29 v_o_earliest x1 x2 x3 post v_o_years x4 → W p l e ({ frames := 0, cells := 0, slots := 0, locals := 0 } : Room) s m args below meth c H locs 0 0 Q (F0 m 29 ls []) := by
    intro H locs ls v_o_years x4 hP hD hS hl h
    unfold P_X0_passOn_b29 at h
    refine lv_iload hx hb dX0_passOn_29 (lv_at hl 4 rfl) ?_
    refine lv_aload_n hx hb dX0_passOn_31 rfl (lv_at hl 0 rfl) ?_
    refine va_get (D := D) (ci := 0) (v := .ref q_o_years) (C := RX0) (T := TX0) (N := 16) hx hb htb inT_X0 hown hK hP 0 rfl rfl 5 (by decide) (htb _ tb_72) (fun _ h9 => h9) rfl dX0_passOn_32 ?_
    refine lv_iload_n hx hb dX0_passOn_35 rfl (lv_at hl 2 rfl) ?_
    obtain ⟨hi_1, h⟩ := h
    refine va_iald hx hb hK hP 2 0 rfl rfl hi_1 dX0_passOn_36 ?_
    refine lv_icmp_lt (tgt := 42) hx hb dX0_passOn_37 (by decide) (fun c_2 => ?_) (fun c_2 => ?_)
    · have h := h.1 c_2
      refine lv_aload_n hx hb dX0_passOn_42 rfl (lv_at hl 0 rfl) ?_
      refine va_get (D := D) (ci := 0) (v := .ref q_o_years) (C := RX0) (T := TX0) (N := 16) hx hb htb inT_X0 hown hK hP 0 rfl rfl 5 (by decide) (htb _ tb_72) (fun _ h9 => h9) rfl dX0_passOn_43 ?_
      refine lv_iload_n hx hb dX0_passOn_46 rfl (lv_at hl 2 rfl) ?_
      refine lv_iload hx hb dX0_passOn_47 (lv_at hl 4 rfl) ?_
      obtain ⟨hi_3, h⟩ := h
      refine va_iast hx hb hK hP hD hS 2 0 rfl rfl hi_3 dX0_passOn_49 (fun H locs hP hD hS => ?_)
      have hP : va_P D vwCl [(q_o, .inr (0, [.ref q_o_from, .ref q_o_to, .ref q_o_lengths, .ref q_o_earliest, .ref q_o_latest, .ref q_o_years, .ref q_o_explained, .ref q_o_together, .int v_o_towns, .int v_o_roads, .int v_o_known, .int v_o_fewest, .int v_o_origins, .int v_o_always, .int v_o_sometimes, .int v_o_leastSets])), (q_o_earliest, gI Cs 10 v_o_earliest), (q_o_years, gI Cs 10 (upd v_o_years x2.toNatClampNeg x4))] H := hP
      have hD : va_D A [(q_o, .inr (0, [.ref q_o_from, .ref q_o_to, .ref q_o_lengths, .ref q_o_earliest, .ref q_o_latest, .ref q_o_years, .ref q_o_explained, .ref q_o_together, .int v_o_towns, .int v_o_roads, .int v_o_known, .int v_o_fewest, .int v_o_origins, .int v_o_always, .int v_o_sometimes, .int v_o_leastSets])), (q_o_earliest, gI Cs 10 v_o_earliest), (q_o_years, gI Cs 10 (upd v_o_years x2.toNatClampNeg x4))] := hD
      refine lv_iconst (v := (1 : Int32)) hx hb dX0_passOn_50 (by decide) ?_
      rw [← hQ]
      exact gRetI (u := (upd v_o_years x2.toNatClampNeg x4)) hx hb hr rfl h hP hD hS dX0_passOn_51 hlocks
    · have h := h.2 c_2
      refine lv_iconst (v := (0 : Int32)) hx hb dX0_passOn_40 (by decide) ?_
      rw [← hQ]
      exact gRetI (u := v_o_years) hx hb hr rfl h hP hD hS dX0_passOn_41 hlocks
  unfold P_X0_passOn at h
  refine lv_aload_n hx hb dX0_passOn_0 rfl (lv_at hl 0 rfl) ?_
  refine va_get (D := D) (ci := 0) (v := .ref q_o_years) (C := RX0) (T := TX0) (N := 16) hx hb htb inT_X0 hown hK hP 0 rfl rfl 5 (by decide) (htb _ tb_72) (fun _ h9 => h9) rfl dX0_passOn_1 ?_
  refine lv_iload_n hx hb dX0_passOn_4 rfl (lv_at hl 1 rfl) ?_
  obtain ⟨hi_4, h⟩ := h
  refine va_iald hx hb hK hP 2 0 rfl rfl hi_4 dX0_passOn_5 ?_
  refine lv_iload_n hx hb dX0_passOn_6 rfl (lv_at hl 3 rfl) ?_
  refine lv_iadd hx hb dX0_passOn_7 ?_
  refine lv_topi (fun x4_5 ex4_5 => ?_)
  have h := h _ ex4_5
  refine lv_istore (lv' := [(4, .int x4_5), (0, .ref q_o), (1, .int x1), (2, .int x2), (3, .int x3)]) hx hb dX0_passOn_8 hl (by decide) rfl (fun ls hl => ?_)
  refine lv_iload hx hb dX0_passOn_10 (lv_at hl 0 rfl) ?_
  refine lv_aload_n hx hb dX0_passOn_12 rfl (lv_at hl 1 rfl) ?_
  refine va_get (D := D) (ci := 0) (v := .ref q_o_earliest) (C := RX0) (T := TX0) (N := 16) hx hb htb inT_X0 hown hK hP 0 rfl rfl 3 (by decide) (htb _ tb_70) (fun _ h9 => h9) rfl dX0_passOn_13 ?_
  refine lv_iload_n hx hb dX0_passOn_16 rfl (lv_at hl 3 rfl) ?_
  obtain ⟨hi_6, h⟩ := h
  refine va_iald hx hb hK hP 1 0 rfl rfl hi_6 dX0_passOn_17 ?_
  refine lv_icmp_ge (tgt := 29) hx hb dX0_passOn_18 (by decide) (fun c_7 => ?_) (fun c_7 => ?_)
  · have h := h.1 c_7
    exact B29 _ _ _ v_o_years x4_5 hP hD hS (lv_sub hl [1, 2, 3, 4, 0] rfl) h
  · have h := h.2 c_7
    refine lv_aload_n hx hb dX0_passOn_21 rfl (lv_at hl 1 rfl) ?_
    refine va_get (D := D) (ci := 0) (v := .ref q_o_earliest) (C := RX0) (T := TX0) (N := 16) hx hb htb inT_X0 hown hK hP 0 rfl rfl 3 (by decide) (htb _ tb_70) (fun _ h9 => h9) rfl dX0_passOn_22 ?_
    refine lv_iload_n hx hb dX0_passOn_25 rfl (lv_at hl 3 rfl) ?_
    obtain ⟨hi_8, h⟩ := h
    refine va_iald hx hb hK hP 1 0 rfl rfl hi_8 dX0_passOn_26 ?_
    refine lv_topi (fun x4_9 ex4_9 => ?_)
    have h := h _ ex4_9
    refine lv_istore (lv' := [(4, .int x4_9), (0, .ref q_o), (1, .int x1), (2, .int x2), (3, .int x3)]) hx hb dX0_passOn_27 hl (by decide) rfl (fun ls hl => ?_)
    exact B29 _ _ _ v_o_years x4_9 hP hD hS (lv_sub hl [1, 2, 3, 4, 0] rfl) h
def P_X0_spread_b95 (v_o_towns : Int32) (v_o_roads : Int32) (v_o_from : (Nat → Int32)) (v_o_to : (Nat → Int32)) (v_o_lengths : (Nat → Int32)) (v_o_earliest : (Nat → Int32)) (post : (Nat → Int32) → Prop) (K4 : (Nat → Int32) → Int32 → Int32 → Prop) (K20 : (Nat → Int32) → Int32 → Int32 → Int32 → Prop) (v_o_years : (Nat → Int32)) (x2 : Int32) (x3 : Int32) (s0 : Int32) : Prop :=
  ∀ x3_1 : Int32, x3_1 = x3 + (1 : Int32) → K20 v_o_years s0 x2 x3_1
def P_X0_spread_b90 (v_o_towns : Int32) (v_o_roads : Int32) (v_o_from : (Nat → Int32)) (v_o_to : (Nat → Int32)) (v_o_lengths : (Nat → Int32)) (v_o_earliest : (Nat → Int32)) (post : (Nat → Int32) → Prop) (K4 : (Nat → Int32) → Int32 → Int32 → Prop) (K20 : (Nat → Int32) → Int32 → Int32 → Int32 → Prop) (v_o_years : (Nat → Int32)) (x2 : Int32) (x3 : Int32) : Prop :=
  P_X0_spread_b95 v_o_towns v_o_roads v_o_from v_o_to v_o_lengths v_o_earliest post K4 K20 v_o_years x2 x3 (1 : Int32)
def P_X0_spread_b20 (v_o_towns : Int32) (v_o_roads : Int32) (v_o_from : (Nat → Int32)) (v_o_to : (Nat → Int32)) (v_o_lengths : (Nat → Int32)) (v_o_earliest : (Nat → Int32)) (post : (Nat → Int32) → Prop) (K4 : (Nat → Int32) → Int32 → Int32 → Prop) (K20 : (Nat → Int32) → Int32 → Int32 → Int32 → Prop) (v_o_years : (Nat → Int32)) (x1 : Int32) (x2 : Int32) (x3 : Int32) : Prop :=
  (v_o_roads ≤ x3 → (∀ x2_3 : Int32, x2_3 = x2 + (1 : Int32) → K4 v_o_years x1 x2_3)) ∧ (¬ (v_o_roads ≤ x3) → (vp_in x3 15 ∧ (vp_in x3 15 ∧ (vp_in x3 15 ∧ (P_X0_passOn v_o_earliest v_o_years (v_o_from x3.toNatClampNeg) (v_o_to x3.toNatClampNeg) (v_o_lengths x3.toNatClampNeg) (fun r_7 m_8 => vp_in x3 15 ∧ (vp_in x3 15 ∧ (vp_in x3 15 ∧ (P_X0_passOn v_o_earliest m_8 (v_o_to x3.toNatClampNeg) (v_o_from x3.toNatClampNeg) (v_o_lengths x3.toNatClampNeg) (fun r_12 m_13 => (x1 = 0 → ((r_7 = 0 → ((r_12 = 0 → (P_X0_spread_b95 v_o_towns v_o_roads v_o_from v_o_to v_o_lengths v_o_earliest post K4 K20 m_13 x2 x3 (0 : Int32))) ∧ (¬ (r_12 = 0) → P_X0_spread_b90 v_o_towns v_o_roads v_o_from v_o_to v_o_lengths v_o_earliest post K4 K20 m_13 x2 x3))) ∧ (¬ (r_7 = 0) → P_X0_spread_b90 v_o_towns v_o_roads v_o_from v_o_to v_o_lengths v_o_earliest post K4 K20 m_13 x2 x3))) ∧ (¬ (x1 = 0) → P_X0_spread_b90 v_o_towns v_o_roads v_o_from v_o_to v_o_lengths v_o_earliest post K4 K20 m_13 x2 x3)))))))))))
def P_X0_spread_l20 (v_o_towns : Int32) (v_o_roads : Int32) (v_o_from : (Nat → Int32)) (v_o_to : (Nat → Int32)) (v_o_lengths : (Nat → Int32)) (v_o_earliest : (Nat → Int32)) (post : (Nat → Int32) → Prop) (K4 : (Nat → Int32) → Int32 → Int32 → Prop) : Nat → (Nat → Int32) → Int32 → Int32 → Int32 → Prop
  | 0 => fun _ _ _ _ => False
  | n + 1 => P_X0_spread_b20 v_o_towns v_o_roads v_o_from v_o_to v_o_lengths v_o_earliest post K4 (P_X0_spread_l20 v_o_towns v_o_roads v_o_from v_o_to v_o_lengths v_o_earliest post K4 n)
def P_X0_spread_b108 (v_o_towns : Int32) (v_o_roads : Int32) (v_o_from : (Nat → Int32)) (v_o_to : (Nat → Int32)) (v_o_lengths : (Nat → Int32)) (v_o_earliest : (Nat → Int32)) (post : (Nat → Int32) → Prop) (v_o_years : (Nat → Int32)) : Prop :=
  post v_o_years
def P_X0_spread_b4 (v_o_towns : Int32) (v_o_roads : Int32) (v_o_from : (Nat → Int32)) (v_o_to : (Nat → Int32)) (v_o_lengths : (Nat → Int32)) (v_o_earliest : (Nat → Int32)) (post : (Nat → Int32) → Prop) (K4 : (Nat → Int32) → Int32 → Int32 → Prop) (v_o_years : (Nat → Int32)) (x1 : Int32) (x2 : Int32) : Prop :=
  (v_o_towns ≤ x2 → P_X0_spread_b108 v_o_towns v_o_roads v_o_from v_o_to v_o_lengths v_o_earliest post v_o_years) ∧ (¬ (v_o_towns ≤ x2) → ((x1 = 0 → P_X0_spread_b108 v_o_towns v_o_roads v_o_from v_o_to v_o_lengths v_o_earliest post v_o_years) ∧ (¬ (x1 = 0) → (∃ n, P_X0_spread_l20 v_o_towns v_o_roads v_o_from v_o_to v_o_lengths v_o_earliest post K4 n v_o_years (0 : Int32) x2 (0 : Int32)))))
def P_X0_spread_l4 (v_o_towns : Int32) (v_o_roads : Int32) (v_o_from : (Nat → Int32)) (v_o_to : (Nat → Int32)) (v_o_lengths : (Nat → Int32)) (v_o_earliest : (Nat → Int32)) (post : (Nat → Int32) → Prop) : Nat → (Nat → Int32) → Int32 → Int32 → Prop
  | 0 => fun _ _ _ => False
  | n + 1 => P_X0_spread_b4 v_o_towns v_o_roads v_o_from v_o_to v_o_lengths v_o_earliest post (P_X0_spread_l4 v_o_towns v_o_roads v_o_from v_o_to v_o_lengths v_o_earliest post n)
def P_X0_spread (v_o_towns : Int32) (v_o_roads : Int32) (v_o_from : (Nat → Int32)) (v_o_to : (Nat → Int32)) (v_o_lengths : (Nat → Int32)) (v_o_earliest : (Nat → Int32)) (v_o_years : (Nat → Int32)) (post : (Nat → Int32) → Prop) : Prop :=
  ∃ n, P_X0_spread_l4 v_o_towns v_o_roads v_o_from v_o_to v_o_lengths v_o_earliest post n v_o_years (1 : Int32) (0 : Int32)
set_option maxHeartbeats 4000000 in
set_option maxRecDepth 100000 in
theorem c_X0_spread (l : Launch) (D : va_G) (Cs : Nat → ClassId) (q_o : Nat) (q_o_from : Nat) (q_o_to : Nat) (q_o_lengths : Nat) (q_o_earliest : Nat) (q_o_latest : Nat) (q_o_years : Nat) (q_o_explained : Nat) (q_o_together : Nat) (sz : Nat) (v_o_towns : Int32) (v_o_roads : Int32) (v_o_from : (Nat → Int32)) (v_o_to : (Nat → Int32)) (v_o_lengths : (Nat → Int32)) (v_o_earliest : (Nat → Int32)) (v_o_years : (Nat → Int32)) (v_o_known : Int32) (v_o_fewest : Int32) (v_o_origins : Int32) (v_o_always : Int32) (v_o_sometimes : Int32) (v_o_leastSets : Int32) {post : (Nat → Int32) → Prop} (h : P_X0_spread v_o_towns v_o_roads v_o_from v_o_to v_o_lengths v_o_earliest v_o_years post) : Met l yX0_spread wsX0_spread ({ frames := 1, cells := 0, slots := 0, locals := 24 } : Room) (va_Pc [.ref q_o] (gM D Cs [(q_o, .inr (0, [.ref q_o_from, .ref q_o_to, .ref q_o_lengths, .ref q_o_earliest, .ref q_o_latest, .ref q_o_years, .ref q_o_explained, .ref q_o_together, .int v_o_towns, .int v_o_roads, .int v_o_known, .int v_o_fewest, .int v_o_origins, .int v_o_always, .int v_o_sometimes, .int v_o_leastSets])), (q_o_from, gI Cs 15 v_o_from), (q_o_to, gI Cs 15 v_o_to), (q_o_lengths, gI Cs 15 v_o_lengths), (q_o_earliest, gI Cs 10 v_o_earliest), (q_o_years, gI Cs 10 v_o_years)] sz)) (va_Qv (fun (u : (Nat → Int32)) => post u) (gB D (va_A [(q_o, .inr (0, [.ref q_o_from, .ref q_o_to, .ref q_o_lengths, .ref q_o_earliest, .ref q_o_latest, .ref q_o_years, .ref q_o_explained, .ref q_o_together, .int v_o_towns, .int v_o_roads, .int v_o_known, .int v_o_fewest, .int v_o_origins, .int v_o_always, .int v_o_sometimes, .int v_o_leastSets])), (q_o_from, gI Cs 15 v_o_from), (q_o_to, gI Cs 15 v_o_to), (q_o_lengths, gI Cs 15 v_o_lengths), (q_o_earliest, gI Cs 10 v_o_earliest), (q_o_years, gI Cs 10 v_o_years)] sz) (fun u : (Nat → Int32) => [(q_o, .inr (0, [.ref q_o_from, .ref q_o_to, .ref q_o_lengths, .ref q_o_earliest, .ref q_o_latest, .ref q_o_years, .ref q_o_explained, .ref q_o_together, .int v_o_towns, .int v_o_roads, .int v_o_known, .int v_o_fewest, .int v_o_origins, .int v_o_always, .int v_o_sometimes, .int v_o_leastSets])), (q_o_from, gI Cs 15 v_o_from), (q_o_to, gI Cs 15 v_o_to), (q_o_lengths, gI Cs 15 v_o_lengths), (q_o_earliest, gI Cs 10 v_o_earliest), (q_o_years, gI Cs 10 u)])) (va_A [(q_o, .inr (0, [.ref q_o_from, .ref q_o_to, .ref q_o_lengths, .ref q_o_earliest, .ref q_o_latest, .ref q_o_years, .ref q_o_explained, .ref q_o_together, .int v_o_towns, .int v_o_roads, .int v_o_known, .int v_o_fewest, .int v_o_origins, .int v_o_always, .int v_o_sometimes, .int v_o_leastSets])), (q_o_from, gI Cs 15 v_o_from), (q_o_to, gI Cs 15 v_o_to), (q_o_lengths, gI Cs 15 v_o_lengths), (q_o_earliest, gI Cs 10 v_o_earliest), (q_o_years, gI Cs 10 v_o_years)] sz)) 0 0 (va_A [(q_o, .inr (0, [.ref q_o_from, .ref q_o_to, .ref q_o_lengths, .ref q_o_earliest, .ref q_o_latest, .ref q_o_years, .ref q_o_explained, .ref q_o_together, .int v_o_towns, .int v_o_roads, .int v_o_known, .int v_o_fewest, .int v_o_origins, .int v_o_always, .int v_o_sometimes, .int v_o_leastSets])), (q_o_from, gI Cs 15 v_o_from), (q_o_to, gI Cs 15 v_o_to), (q_o_lengths, gI Cs 15 v_o_lengths), (q_o_earliest, gI Cs 10 v_o_earliest), (q_o_years, gI Cs 10 v_o_years)] sz) := by
  refine Met.ofW (cc := cX0_spread) (maxL := 6) (ret := none) (by decide) rfl ?_
  intro p e s m args below meth c s₁ B hml hv
  obtain ⟨ha, hsz, hP, hK, hD0, hN⟩ := hv
  have hx := B.exec
  have hb := B.bytes
  have hr := B.returns
  have hts := atoms_spec (ws := wsX0_spread) B.pre
  have htb : ∀ w ∈ TB, w.before args s = true := fun w h9 => hts w (List.mem_cons_of_mem _ h9)
  have hown : s.vm.findClass RX0 = some m.cls := findClass_of_methodNamed B.named
  have hlocks := B.notSynchronized
  subst hsz
  have hD := hD0.self (sz := s.heap.size)
  generalize hAe : va_A [(q_o, .inr (0, [.ref q_o_from, .ref q_o_to, .ref q_o_lengths, .ref q_o_earliest, .ref q_o_latest, .ref q_o_years, .ref q_o_explained, .ref q_o_together, .int v_o_towns, .int v_o_roads, .int v_o_known, .int v_o_fewest, .int v_o_origins, .int v_o_always, .int v_o_sometimes, .int v_o_leastSets])), (q_o_from, gI Cs 15 v_o_from), (q_o_to, gI Cs 15 v_o_to), (q_o_lengths, gI Cs 15 v_o_lengths), (q_o_earliest, gI Cs 10 v_o_earliest), (q_o_years, gI Cs 10 v_o_years)] s.heap.size = A at hD ⊢
  have hA : ∀ q : Nat, s.heap.size ≤ q → A q := fun q h9 => by rw [← hAe]; exact Or.inr h9
  obtain ⟨H, hH⟩ : ∃ z : Heap, z = s.heap := ⟨_, rfl⟩
  have hS : va_S A s.heap H [] := by rw [hH]; exact va_S.rf
  have hP : va_P D vwCl [(q_o, .inr (0, [.ref q_o_from, .ref q_o_to, .ref q_o_lengths, .ref q_o_earliest, .ref q_o_latest, .ref q_o_years, .ref q_o_explained, .ref q_o_together, .int v_o_towns, .int v_o_roads, .int v_o_known, .int v_o_fewest, .int v_o_origins, .int v_o_always, .int v_o_sometimes, .int v_o_leastSets])), (q_o_from, gI Cs 15 v_o_from), (q_o_to, gI Cs 15 v_o_to), (q_o_lengths, gI Cs 15 v_o_lengths), (q_o_earliest, gI Cs 10 v_o_earliest), (q_o_years, gI Cs 10 v_o_years)] H := by rw [hH]; exact hP
  generalize hQ : MQ below _ args s _ _ _ = Q
  show W p l e ({ frames := 1, cells := 0, slots := 0, locals := 24 } : Room) s m args below meth c s.heap [] 0 0 Q (entryFrame m args 6)
  have hent : entryFrame m args 6 = F0 m 0 ((lg_sl ([.ref q_o]) ++ List.replicate (6 - (lg_sl ([.ref q_o])).length) Slot.unset).toArray) [] := by rw [ha]; exact lg_entry_eq m ([.ref q_o]) 6
  rw [hent]; clear hent
  rw [← hH]
  have hl := lv_entry ([.ref q_o]) (n := 6) (Nat.le_of_ble_eq_true rfl)
  generalize (lg_sl ([.ref q_o]) ++ List.replicate (6 - (lg_sl ([.ref q_o])).length) Slot.unset).toArray = ls at hl ⊢
  have hl : lv_has ls 6 [(0, .ref q_o)] := hl
  have B108 : ∀ (H : Heap) (locs : List Loc) (ls : Array Slot) (v_o_years : (Nat → Int32)), va_P D vwCl [(q_o, .inr (0, [.ref q_o_from, .ref q_o_to, .ref q_o_lengths, .ref q_o_earliest, .ref q_o_latest, .ref q_o_years, .ref q_o_explained, .ref q_o_together, .int v_o_towns, .int v_o_roads, .int v_o_known, .int v_o_fewest, .int v_o_origins, .int v_o_always, .int v_o_sometimes, .int v_o_leastSets])), (q_o_from, gI Cs 15 v_o_from), (q_o_to, gI Cs 15 v_o_to), (q_o_lengths, gI Cs 15 v_o_lengths), (q_o_earliest, gI Cs 10 v_o_earliest), (q_o_years, gI Cs 10 v_o_years)] H → va_D A [(q_o, .inr (0, [.ref q_o_from, .ref q_o_to, .ref q_o_lengths, .ref q_o_earliest, .ref q_o_latest, .ref q_o_years, .ref q_o_explained, .ref q_o_together, .int v_o_towns, .int v_o_roads, .int v_o_known, .int v_o_fewest, .int v_o_origins, .int v_o_always, .int v_o_sometimes, .int v_o_leastSets])), (q_o_from, gI Cs 15 v_o_from), (q_o_to, gI Cs 15 v_o_to), (q_o_lengths, gI Cs 15 v_o_lengths), (q_o_earliest, gI Cs 10 v_o_earliest), (q_o_years, gI Cs 10 v_o_years)] → va_S A s.heap H locs → lv_has ls 6 [(0, .ref q_o)] → P_X0_spread_b108 v_o_towns v_o_roads v_o_from v_o_to v_o_lengths v_o_earliest post v_o_years → W p l e ({ frames := 1, cells := 0, slots := 0, locals := 24 } : Room) s m args below meth c H locs 0 0 Q (F0 m 108 ls []) := by
    intro H locs ls v_o_years hP hD hS hl h
    unfold P_X0_spread_b108 at h
    rw [← hQ]
    exact gRetV (u := v_o_years) hx hb hr h hP hD hS dX0_spread_108 hlocks
  have L4 : ∀ (n : Nat) (H : Heap) (locs : List Loc) (ls : Array Slot) (v_o_years : (Nat → Int32)) (x1 : Int32) (x2 : Int32), va_P D vwCl [(q_o, .inr (0, [.ref q_o_from, .ref q_o_to, .ref q_o_lengths, .ref q_o_earliest, .ref q_o_latest, .ref q_o_years, .ref q_o_explained, .ref q_o_together, .int v_o_towns, .int v_o_roads, .int v_o_known, .int v_o_fewest, .int v_o_origins, .int v_o_always, .int v_o_sometimes, .int v_o_leastSets])), (q_o_from, gI Cs 15 v_o_from), (q_o_to, gI Cs 15 v_o_to), (q_o_lengths, gI Cs 15 v_o_lengths), (q_o_earliest, gI Cs 10 v_o_earliest), (q_o_years, gI Cs 10 v_o_years)] H → va_D A [(q_o, .inr (0, [.ref q_o_from, .ref q_o_to, .ref q_o_lengths, .ref q_o_earliest, .ref q_o_latest, .ref q_o_years, .ref q_o_explained, .ref q_o_together, .int v_o_towns, .int v_o_roads, .int v_o_known, .int v_o_fewest, .int v_o_origins, .int v_o_always, .int v_o_sometimes, .int v_o_leastSets])), (q_o_from, gI Cs 15 v_o_from), (q_o_to, gI Cs 15 v_o_to), (q_o_lengths, gI Cs 15 v_o_lengths), (q_o_earliest, gI Cs 10 v_o_earliest), (q_o_years, gI Cs 10 v_o_years)] → va_S A s.heap H locs → lv_has ls 6 [(0, .ref q_o), (1, .int x1), (2, .int x2)] → P_X0_spread_l4 v_o_towns v_o_roads v_o_from v_o_to v_o_lengths v_o_earliest post n v_o_years x1 x2 → W p l e ({ frames := 1, cells := 0, slots := 0, locals := 24 } : Room) s m args below meth c H locs 0 0 Q (F0 m 4 ls []) := by
    intro n4
    induction n4 with
    | zero => intro H locs ls v_o_years x1 x2 hP hD hS hl h; exact False.elim h
    | succ n4 ih4 =>
      have L20 : ∀ (n : Nat) (H : Heap) (locs : List Loc) (ls : Array Slot) (v_o_years : (Nat → Int32)) (x1 : Int32) (x2 : Int32) (x3 : Int32), va_P D vwCl [(q_o, .inr (0, [.ref q_o_from, .ref q_o_to, .ref q_o_lengths, .ref q_o_earliest, .ref q_o_latest, .ref q_o_years, .ref q_o_explained, .ref q_o_together, .int v_o_towns, .int v_o_roads, .int v_o_known, .int v_o_fewest, .int v_o_origins, .int v_o_always, .int v_o_sometimes, .int v_o_leastSets])), (q_o_from, gI Cs 15 v_o_from), (q_o_to, gI Cs 15 v_o_to), (q_o_lengths, gI Cs 15 v_o_lengths), (q_o_earliest, gI Cs 10 v_o_earliest), (q_o_years, gI Cs 10 v_o_years)] H → va_D A [(q_o, .inr (0, [.ref q_o_from, .ref q_o_to, .ref q_o_lengths, .ref q_o_earliest, .ref q_o_latest, .ref q_o_years, .ref q_o_explained, .ref q_o_together, .int v_o_towns, .int v_o_roads, .int v_o_known, .int v_o_fewest, .int v_o_origins, .int v_o_always, .int v_o_sometimes, .int v_o_leastSets])), (q_o_from, gI Cs 15 v_o_from), (q_o_to, gI Cs 15 v_o_to), (q_o_lengths, gI Cs 15 v_o_lengths), (q_o_earliest, gI Cs 10 v_o_earliest), (q_o_years, gI Cs 10 v_o_years)] → va_S A s.heap H locs → lv_has ls 6 [(0, .ref q_o), (1, .int x1), (2, .int x2), (3, .int x3)] → P_X0_spread_l20 v_o_towns v_o_roads v_o_from v_o_to v_o_lengths v_o_earliest post (P_X0_spread_l4 v_o_towns v_o_roads v_o_from v_o_to v_o_lengths v_o_earliest post n4) n v_o_years x1 x2 x3 → W p l e ({ frames := 1, cells := 0, slots := 0, locals := 24 } : Room) s m args below meth c H locs 0 0 Q (F0 m 20 ls []) := by
        intro n20
        induction n20 with
        | zero => intro H locs ls v_o_years x1 x2 x3 hP hD hS hl h; exact False.elim h
        | succ n20 ih20 =>
          have B95 : ∀ (H : Heap) (locs : List Loc) (ls : Array Slot) (v_o_years : (Nat → Int32)) (x2 : Int32) (x3 : Int32) (s0 : Int32), va_P D vwCl [(q_o, .inr (0, [.ref q_o_from, .ref q_o_to, .ref q_o_lengths, .ref q_o_earliest, .ref q_o_latest, .ref q_o_years, .ref q_o_explained, .ref q_o_together, .int v_o_towns, .int v_o_roads, .int v_o_known, .int v_o_fewest, .int v_o_origins, .int v_o_always, .int v_o_sometimes, .int v_o_leastSets])), (q_o_from, gI Cs 15 v_o_from), (q_o_to, gI Cs 15 v_o_to), (q_o_lengths, gI Cs 15 v_o_lengths), (q_o_earliest, gI Cs 10 v_o_earliest), (q_o_years, gI Cs 10 v_o_years)] H → va_D A [(q_o, .inr (0, [.ref q_o_from, .ref q_o_to, .ref q_o_lengths, .ref q_o_earliest, .ref q_o_latest, .ref q_o_years, .ref q_o_explained, .ref q_o_together, .int v_o_towns, .int v_o_roads, .int v_o_known, .int v_o_fewest, .int v_o_origins, .int v_o_always, .int v_o_sometimes, .int v_o_leastSets])), (q_o_from, gI Cs 15 v_o_from), (q_o_to, gI Cs 15 v_o_to), (q_o_lengths, gI Cs 15 v_o_lengths), (q_o_earliest, gI Cs 10 v_o_earliest), (q_o_years, gI Cs 10 v_o_years)] → va_S A s.heap H locs → lv_has ls 6 [(0, .ref q_o), (2, .int x2), (3, .int x3)] → P_X0_spread_b95 v_o_towns v_o_roads v_o_from v_o_to v_o_lengths v_o_earliest post (P_X0_spread_l4 v_o_towns v_o_roads v_o_from v_o_to v_o_lengths v_o_earliest post n4) (P_X0_spread_l20 v_o_towns v_o_roads v_o_from v_o_to v_o_lengths v_o_earliest post (P_X0_spread_l4 v_o_towns v_o_roads v_o_from v_o_to v_o_lengths v_o_earliest post n4) n20) v_o_years x2 x3 s0 → W p l e ({ frames := 1, cells := 0, slots := 0, locals := 24 } : Room) s m args below meth c H locs 0 0 Q (F0 m 95 ls [.int s0]) := by
            intro H locs ls v_o_years x2 x3 s0 hP hD hS hl h
            unfold P_X0_spread_b95 at h
            refine lv_istore_n (lv' := [(1, .int s0), (0, .ref q_o), (2, .int x2), (3, .int x3)]) hx hb dX0_spread_95 rfl hl (by decide) rfl (fun ls hl => ?_)
            obtain ⟨x3_1, ex3_1⟩ : ∃ y : Int32, y = x3 + (1 : Int32) := ⟨_, rfl⟩
            have h := h _ ex3_1
            refine lv_iinc (v := x3_1) (lv' := [(3, .int x3_1), (1, .int s0), (0, .ref q_o), (2, .int x2)]) hx hb dX0_spread_96 hl (k := 3) rfl (by rw [ex3_1]; rfl) (by decide) rfl (fun ls hl => ?_)
            refine lv_goto (tgt := 20) hx hb dX0_spread_99 (by decide) ?_
            exact ih20 _ _ _ v_o_years s0 x2 x3_1 hP hD hS (lv_sub hl [2, 1, 3, 0] rfl) h
          have B90 : ∀ (H : Heap) (locs : List Loc) (ls : Array Slot) (v_o_years : (Nat → Int32)) (x2 : Int32) (x3 : Int32), va_P D vwCl [(q_o, .inr (0, [.ref q_o_from, .ref q_o_to, .ref q_o_lengths, .ref q_o_earliest, .ref q_o_latest, .ref q_o_years, .ref q_o_explained, .ref q_o_together, .int v_o_towns, .int v_o_roads, .int v_o_known, .int v_o_fewest, .int v_o_origins, .int v_o_always, .int v_o_sometimes, .int v_o_leastSets])), (q_o_from, gI Cs 15 v_o_from), (q_o_to, gI Cs 15 v_o_to), (q_o_lengths, gI Cs 15 v_o_lengths), (q_o_earliest, gI Cs 10 v_o_earliest), (q_o_years, gI Cs 10 v_o_years)] H → va_D A [(q_o, .inr (0, [.ref q_o_from, .ref q_o_to, .ref q_o_lengths, .ref q_o_earliest, .ref q_o_latest, .ref q_o_years, .ref q_o_explained, .ref q_o_together, .int v_o_towns, .int v_o_roads, .int v_o_known, .int v_o_fewest, .int v_o_origins, .int v_o_always, .int v_o_sometimes, .int v_o_leastSets])), (q_o_from, gI Cs 15 v_o_from), (q_o_to, gI Cs 15 v_o_to), (q_o_lengths, gI Cs 15 v_o_lengths), (q_o_earliest, gI Cs 10 v_o_earliest), (q_o_years, gI Cs 10 v_o_years)] → va_S A s.heap H locs → lv_has ls 6 [(0, .ref q_o), (2, .int x2), (3, .int x3)] → P_X0_spread_b90 v_o_towns v_o_roads v_o_from v_o_to v_o_lengths v_o_earliest post (P_X0_spread_l4 v_o_towns v_o_roads v_o_from v_o_to v_o_lengths v_o_earliest post n4) (P_X0_spread_l20 v_o_towns v_o_roads v_o_from v_o_to v_o_lengths v_o_earliest post (P_X0_spread_l4 v_o_towns v_o_roads v_o_from v_o_to v_o_lengths v_o_earliest post n4) n20) v_o_years x2 x3 → W p l e ({ frames := 1, cells := 0, slots := 0, locals := 24 } : Room) s m args below meth c H locs 0 0 Q (F0 m 90 ls []) := by
            intro H locs ls v_o_years x2 x3 hP hD hS hl h
            unfold P_X0_spread_b90 at h
            refine lv_iconst (v := (1 : Int32)) hx hb dX0_spread_90 (by decide) ?_
            refine lv_goto (tgt := 95) hx hb dX0_spread_91 (by decide) ?_
            exact B95 _ _ _ v_o_years x2 x3 (1 : Int32) hP hD hS (lv_sub hl [0, 1, 2] rfl) h
          intro H locs ls v_o_years x1 x2 x3 hP hD hS hl h
          replace h : P_X0_spread_b20 v_o_towns v_o_roads v_o_from v_o_to v_o_lengths v_o_earliest post (P_X0_spread_l4 v_o_towns v_o_roads v_o_from v_o_to v_o_lengths v_o_earliest post n4) (P_X0_spread_l20 v_o_towns v_o_roads v_o_from v_o_to v_o_lengths v_o_earliest post (P_X0_spread_l4 v_o_towns v_o_roads v_o_from v_o_to v_o_lengths v_o_earliest post n4) n20) v_o_years x1 x2 x3 := h
          unfold P_X0_spread_b20 at h
          refine lv_iload_n hx hb dX0_spread_20 rfl (lv_at hl 3 rfl) ?_
          refine lv_aload_n hx hb dX0_spread_21 rfl (lv_at hl 0 rfl) ?_
          refine va_get (D := D) (ci := 0) (v := .int v_o_roads) (C := RX0) (T := TX0) (N := 16) hx hb htb inT_X0 hown hK hP 0 rfl rfl 9 (by decide) (htb _ tb_269) (fun _ h9 => h9) rfl dX0_spread_22 ?_
          refine lv_icmp_ge (tgt := 102) hx hb dX0_spread_25 (by decide) (fun c_2 => ?_) (fun c_2 => ?_)
          · have h := h.1 c_2
            obtain ⟨x2_3, ex2_3⟩ : ∃ y : Int32, y = x2 + (1 : Int32) := ⟨_, rfl⟩
            have h := h _ ex2_3
            refine lv_iinc (v := x2_3) (lv' := [(2, .int x2_3), (0, .ref q_o), (1, .int x1), (3, .int x3)]) hx hb dX0_spread_102 hl (k := 2) rfl (by rw [ex2_3]; rfl) (by decide) rfl (fun ls hl => ?_)
            refine lv_goto (tgt := 4) hx hb dX0_spread_105 (by decide) ?_
            exact ih4 _ _ _ v_o_years x1 x2_3 hP hD hS (lv_sub hl [1, 2, 0] rfl) h
          · have h := h.2 c_2
            refine lv_aload_n hx hb dX0_spread_28 rfl (lv_at hl 0 rfl) ?_
            refine lv_aload_n hx hb dX0_spread_29 rfl (lv_at hl 0 rfl) ?_
            refine va_get (D := D) (ci := 0) (v := .ref q_o_from) (C := RX0) (T := TX0) (N := 16) hx hb htb inT_X0 hown hK hP 0 rfl rfl 0 (by decide) (htb _ tb_67) (fun _ h9 => h9) rfl dX0_spread_30 ?_
            refine lv_iload_n hx hb dX0_spread_33 rfl (lv_at hl 3 rfl) ?_
            obtain ⟨hi_4, h⟩ := h
            refine va_iald hx hb hK hP 1 0 rfl rfl hi_4 dX0_spread_34 ?_
            refine lv_aload_n hx hb dX0_spread_35 rfl (lv_at hl 0 rfl) ?_
            refine va_get (D := D) (ci := 0) (v := .ref q_o_to) (C := RX0) (T := TX0) (N := 16) hx hb htb inT_X0 hown hK hP 0 rfl rfl 1 (by decide) (htb _ tb_68) (fun _ h9 => h9) rfl dX0_spread_36 ?_
            refine lv_iload_n hx hb dX0_spread_39 rfl (lv_at hl 3 rfl) ?_
            obtain ⟨hi_5, h⟩ := h
            refine va_iald hx hb hK hP 2 0 rfl rfl hi_5 dX0_spread_40 ?_
            refine lv_aload_n hx hb dX0_spread_41 rfl (lv_at hl 0 rfl) ?_
            refine va_get (D := D) (ci := 0) (v := .ref q_o_lengths) (C := RX0) (T := TX0) (N := 16) hx hb htb inT_X0 hown hK hP 0 rfl rfl 2 (by decide) (htb _ tb_69) (fun _ h9 => h9) rfl dX0_spread_42 ?_
            refine lv_iload_n hx hb dX0_spread_45 rfl (lv_at hl 3 rfl) ?_
            obtain ⟨hi_6, h⟩ := h
            refine va_iald hx hb hK hP 3 0 rfl rfl hi_6 dX0_spread_46 ?_
            refine gVM (wr := [(q_o_from, gI Cs 15 v_o_from), (q_o_to, gI Cs 15 v_o_to), (q_o_lengths, gI Cs 15 v_o_lengths)]) (As := [.int (v_o_from x3.toNatClampNeg), .int (v_o_to x3.toNatClampNeg), .int (v_o_lengths x3.toNatClampNeg)]) (rest := []) ⟨hx, hb, hml, hown, htb⟩ hK hP hD hS hA hN [0, 4, 5] [1, 2, 3] rfl (by decide) rfl (by decide) (by decide) (c_X0_passOn l D Cs q_o q_o_from q_o_to q_o_lengths q_o_earliest q_o_latest q_o_years q_o_explained q_o_together H.size v_o_earliest v_o_years v_o_towns v_o_roads v_o_known v_o_fewest v_o_origins v_o_always v_o_sometimes v_o_leastSets (v_o_from x3.toNatClampNeg) (v_o_to x3.toNatClampNeg) (v_o_lengths x3.toNatClampNeg) h) (cwV 3 htb (TB_v tb_289 tb_290 tb_291 tb_28 (TB_self tb_292)) rfl rfl rfl z_X0_passOn ⟨Nat.le_of_ble_eq_true rfl, Nat.le_of_ble_eq_true rfl⟩) 0 rfl rfl rfl rfl hl.1 rfl (Nat.le_of_ble_eq_true rfl) ⟨Nat.le_of_ble_eq_true rfl, Nat.le_of_ble_eq_true rfl⟩ dX0_spread_47 (fun r_7 m_8 H locs h hP hD hS => ?_)
            have hP : va_P D vwCl [(q_o_from, gI Cs 15 v_o_from), (q_o_to, gI Cs 15 v_o_to), (q_o_lengths, gI Cs 15 v_o_lengths), (q_o, .inr (0, [.ref q_o_from, .ref q_o_to, .ref q_o_lengths, .ref q_o_earliest, .ref q_o_latest, .ref q_o_years, .ref q_o_explained, .ref q_o_together, .int v_o_towns, .int v_o_roads, .int v_o_known, .int v_o_fewest, .int v_o_origins, .int v_o_always, .int v_o_sometimes, .int v_o_leastSets])), (q_o_earliest, gI Cs 10 v_o_earliest), (q_o_years, gI Cs 10 m_8)] H := hP
            have hD : va_D A [(q_o_from, gI Cs 15 v_o_from), (q_o_to, gI Cs 15 v_o_to), (q_o_lengths, gI Cs 15 v_o_lengths), (q_o, .inr (0, [.ref q_o_from, .ref q_o_to, .ref q_o_lengths, .ref q_o_earliest, .ref q_o_latest, .ref q_o_years, .ref q_o_explained, .ref q_o_together, .int v_o_towns, .int v_o_roads, .int v_o_known, .int v_o_fewest, .int v_o_origins, .int v_o_always, .int v_o_sometimes, .int v_o_leastSets])), (q_o_earliest, gI Cs 10 v_o_earliest), (q_o_years, gI Cs 10 m_8)] := hD
            refine lv_istore (lv' := [(4, .int r_7), (0, .ref q_o), (1, .int x1), (2, .int x2), (3, .int x3)]) hx hb dX0_spread_50 hl (by decide) rfl (fun ls hl => ?_)
            refine lv_aload_n hx hb dX0_spread_52 rfl (lv_at hl 1 rfl) ?_
            refine lv_aload_n hx hb dX0_spread_53 rfl (lv_at hl 1 rfl) ?_
            refine va_get (D := D) (ci := 0) (v := .ref q_o_to) (C := RX0) (T := TX0) (N := 16) hx hb htb inT_X0 hown hK hP 3 rfl rfl 1 (by decide) (htb _ tb_68) (fun _ h9 => h9) rfl dX0_spread_54 ?_
            refine lv_iload_n hx hb dX0_spread_57 rfl (lv_at hl 4 rfl) ?_
            obtain ⟨hi_9, h⟩ := h
            refine va_iald hx hb hK hP 1 0 rfl rfl hi_9 dX0_spread_58 ?_
            refine lv_aload_n hx hb dX0_spread_59 rfl (lv_at hl 1 rfl) ?_
            refine va_get (D := D) (ci := 0) (v := .ref q_o_from) (C := RX0) (T := TX0) (N := 16) hx hb htb inT_X0 hown hK hP 3 rfl rfl 0 (by decide) (htb _ tb_67) (fun _ h9 => h9) rfl dX0_spread_60 ?_
            refine lv_iload_n hx hb dX0_spread_63 rfl (lv_at hl 4 rfl) ?_
            obtain ⟨hi_10, h⟩ := h
            refine va_iald hx hb hK hP 0 0 rfl rfl hi_10 dX0_spread_64 ?_
            refine lv_aload_n hx hb dX0_spread_65 rfl (lv_at hl 1 rfl) ?_
            refine va_get (D := D) (ci := 0) (v := .ref q_o_lengths) (C := RX0) (T := TX0) (N := 16) hx hb htb inT_X0 hown hK hP 3 rfl rfl 2 (by decide) (htb _ tb_69) (fun _ h9 => h9) rfl dX0_spread_66 ?_
            refine lv_iload_n hx hb dX0_spread_69 rfl (lv_at hl 4 rfl) ?_
            obtain ⟨hi_11, h⟩ := h
            refine va_iald hx hb hK hP 2 0 rfl rfl hi_11 dX0_spread_70 ?_
            refine gVM (wr := [(q_o_from, gI Cs 15 v_o_from), (q_o_to, gI Cs 15 v_o_to), (q_o_lengths, gI Cs 15 v_o_lengths)]) (As := [.int (v_o_to x3.toNatClampNeg), .int (v_o_from x3.toNatClampNeg), .int (v_o_lengths x3.toNatClampNeg)]) (rest := []) ⟨hx, hb, hml, hown, htb⟩ hK hP hD hS hA hN [3, 4, 5] [0, 1, 2] rfl (by decide) rfl (by decide) (by decide) (c_X0_passOn l D Cs q_o q_o_from q_o_to q_o_lengths q_o_earliest q_o_latest q_o_years q_o_explained q_o_together H.size v_o_earliest m_8 v_o_towns v_o_roads v_o_known v_o_fewest v_o_origins v_o_always v_o_sometimes v_o_leastSets (v_o_to x3.toNatClampNeg) (v_o_from x3.toNatClampNeg) (v_o_lengths x3.toNatClampNeg) h) (cwV 3 htb (TB_v tb_289 tb_290 tb_291 tb_28 (TB_self tb_292)) rfl rfl rfl z_X0_passOn ⟨Nat.le_of_ble_eq_true rfl, Nat.le_of_ble_eq_true rfl⟩) 3 rfl rfl rfl rfl hl.1 rfl (Nat.le_of_ble_eq_true rfl) ⟨Nat.le_of_ble_eq_true rfl, Nat.le_of_ble_eq_true rfl⟩ dX0_spread_71 (fun r_12 m_13 H locs h hP hD hS => ?_)
            have hP : va_P D vwCl [(q_o_from, gI Cs 15 v_o_from), (q_o_to, gI Cs 15 v_o_to), (q_o_lengths, gI Cs 15 v_o_lengths), (q_o, .inr (0, [.ref q_o_from, .ref q_o_to, .ref q_o_lengths, .ref q_o_earliest, .ref q_o_latest, .ref q_o_years, .ref q_o_explained, .ref q_o_together, .int v_o_towns, .int v_o_roads, .int v_o_known, .int v_o_fewest, .int v_o_origins, .int v_o_always, .int v_o_sometimes, .int v_o_leastSets])), (q_o_earliest, gI Cs 10 v_o_earliest), (q_o_years, gI Cs 10 m_13)] H := hP
            have hD : va_D A [(q_o_from, gI Cs 15 v_o_from), (q_o_to, gI Cs 15 v_o_to), (q_o_lengths, gI Cs 15 v_o_lengths), (q_o, .inr (0, [.ref q_o_from, .ref q_o_to, .ref q_o_lengths, .ref q_o_earliest, .ref q_o_latest, .ref q_o_years, .ref q_o_explained, .ref q_o_together, .int v_o_towns, .int v_o_roads, .int v_o_known, .int v_o_fewest, .int v_o_origins, .int v_o_always, .int v_o_sometimes, .int v_o_leastSets])), (q_o_earliest, gI Cs 10 v_o_earliest), (q_o_years, gI Cs 10 m_13)] := hD
            refine lv_istore (lv' := [(5, .int r_12), (4, .int r_7), (0, .ref q_o), (1, .int x1), (2, .int x2), (3, .int x3)]) hx hb dX0_spread_74 hl (by decide) rfl (fun ls hl => ?_)
            refine lv_iload_n hx hb dX0_spread_76 rfl (lv_at hl 3 rfl) ?_
            refine lv_if_ne (tgt := 90) hx hb dX0_spread_77 (by decide) (fun c_14 => ?_) (fun c_14 => ?_)
            · have h := h.2 c_14
              exact B90 _ _ _ m_13 x2 x3 (hP.sub [3, 0, 1, 2, 4, 5] rfl) (hD.sub [3, 0, 1, 2, 4, 5] (by decide) rfl) hS (lv_sub hl [2, 4, 5] rfl) h
            · have h := h.1 c_14
              refine lv_iload hx hb dX0_spread_80 (lv_at hl 1 rfl) ?_
              refine lv_if_ne (tgt := 90) hx hb dX0_spread_82 (by decide) (fun c_15 => ?_) (fun c_15 => ?_)
              · have h := h.2 c_15
                exact B90 _ _ _ m_13 x2 x3 (hP.sub [3, 0, 1, 2, 4, 5] rfl) (hD.sub [3, 0, 1, 2, 4, 5] (by decide) rfl) hS (lv_sub hl [2, 4, 5] rfl) h
              · have h := h.1 c_15
                refine lv_iload hx hb dX0_spread_85 (lv_at hl 0 rfl) ?_
                refine lv_if_eq (tgt := 94) hx hb dX0_spread_87 (by decide) (fun c_16 => ?_) (fun c_16 => ?_)
                · have h := h.1 c_16
                  refine lv_iconst (v := (0 : Int32)) hx hb dX0_spread_94 (by decide) ?_
                  exact B95 _ _ _ m_13 x2 x3 (0 : Int32) (hP.sub [3, 0, 1, 2, 4, 5] rfl) (hD.sub [3, 0, 1, 2, 4, 5] (by decide) rfl) hS (lv_sub hl [2, 4, 5] rfl) h
                · have h := h.2 c_16
                  exact B90 _ _ _ m_13 x2 x3 (hP.sub [3, 0, 1, 2, 4, 5] rfl) (hD.sub [3, 0, 1, 2, 4, 5] (by decide) rfl) hS (lv_sub hl [2, 4, 5] rfl) h
      intro H locs ls v_o_years x1 x2 hP hD hS hl h
      replace h : P_X0_spread_b4 v_o_towns v_o_roads v_o_from v_o_to v_o_lengths v_o_earliest post (P_X0_spread_l4 v_o_towns v_o_roads v_o_from v_o_to v_o_lengths v_o_earliest post n4) v_o_years x1 x2 := h
      unfold P_X0_spread_b4 at h
      refine lv_iload_n hx hb dX0_spread_4 rfl (lv_at hl 2 rfl) ?_
      refine lv_aload_n hx hb dX0_spread_5 rfl (lv_at hl 0 rfl) ?_
      refine va_get (D := D) (ci := 0) (v := .int v_o_towns) (C := RX0) (T := TX0) (N := 16) hx hb htb inT_X0 hown hK hP 0 rfl rfl 8 (by decide) (htb _ tb_261) (fun _ h9 => h9) rfl dX0_spread_6 ?_
      refine lv_icmp_ge (tgt := 108) hx hb dX0_spread_9 (by decide) (fun c_17 => ?_) (fun c_17 => ?_)
      · have h := h.1 c_17
        exact B108 _ _ _ v_o_years hP hD hS (lv_sub hl [0] rfl) h
      · have h := h.2 c_17
        refine lv_iload_n hx hb dX0_spread_12 rfl (lv_at hl 1 rfl) ?_
        refine lv_if_eq (tgt := 108) hx hb dX0_spread_13 (by decide) (fun c_18 => ?_) (fun c_18 => ?_)
        · have h := h.1 c_18
          exact B108 _ _ _ v_o_years hP hD hS (lv_sub hl [0] rfl) h
        · have h := h.2 c_18
          refine lv_iconst (v := (0 : Int32)) hx hb dX0_spread_16 (by decide) ?_
          refine lv_istore_n (lv' := [(1, .int (0 : Int32)), (0, .ref q_o), (2, .int x2)]) hx hb dX0_spread_17 rfl hl (by decide) rfl (fun ls hl => ?_)
          refine lv_iconst (v := (0 : Int32)) hx hb dX0_spread_18 (by decide) ?_
          refine lv_istore_n (lv' := [(3, .int (0 : Int32)), (1, .int (0 : Int32)), (0, .ref q_o), (2, .int x2)]) hx hb dX0_spread_19 rfl hl (by decide) rfl (fun ls hl => ?_)
          obtain ⟨n, h⟩ := h
          exact L20 n _ _ _ v_o_years (0 : Int32) x2 (0 : Int32) hP hD hS (lv_sub hl [2, 1, 3, 0] rfl) h
  unfold P_X0_spread at h
  refine lv_iconst (v := (1 : Int32)) hx hb dX0_spread_0 (by decide) ?_
  refine lv_istore_n (lv' := [(1, .int (1 : Int32)), (0, .ref q_o)]) hx hb dX0_spread_1 rfl hl (by decide) rfl (fun ls hl => ?_)
  refine lv_iconst (v := (0 : Int32)) hx hb dX0_spread_2 (by decide) ?_
  refine lv_istore_n (lv' := [(2, .int (0 : Int32)), (1, .int (1 : Int32)), (0, .ref q_o)]) hx hb dX0_spread_3 rfl hl (by decide) rfl (fun ls hl => ?_)
  obtain ⟨n, h⟩ := h
  exact L4 n _ _ _ v_o_years (1 : Int32) (0 : Int32) hP hD hS (lv_sub hl [2, 1, 0] rfl) h
def P_X6_length (n_a0 : Nat) (v_a0 : (Nat → Int32)) (x1 : Int32) (x2 : Int32) (post : Int32 → Prop) : Prop :=
  vp_in (((1 : Int32) + ((10 : Int32) * x1)) + x2) n_a0 ∧ (post (v_a0 (((1 : Int32) + ((10 : Int32) * x1)) + x2).toNatClampNeg))
set_option maxHeartbeats 4000000 in
set_option maxRecDepth 100000 in
theorem c_X6_length (l : Launch) (D : va_G) (Cs : Nat → ClassId) (q_a0 : Nat) (n_a0 : Nat) (v_a0 : (Nat → Int32)) (x1 : Int32) (x2 : Int32) {post : Int32 → Prop} (h : P_X6_length n_a0 v_a0 x1 x2 post) : Met l yX6_length wsX6_length ({ frames := 0, cells := 0, slots := 0, locals := 0 } : Room) (va_Pc [.ref q_a0, .int x1, .int x2] (gR D Cs [(q_a0, gI Cs n_a0 v_a0)])) (vp_Si post) 0 0 (fun _ => False) := by
  refine Met.ofW (cc := cX6_length) (maxL := 3) (ret := (some .int)) (by decide) rfl ?_
  intro p e s m args below meth c s₁ B hml hv
  obtain ⟨ha, hP, hK, hN⟩ := hv
  have hx := B.exec
  have hb := B.bytes
  have hr := B.returns
  have hts := atoms_spec (ws := wsX6_length) B.pre
  have htb : ∀ w ∈ TB, w.before args s = true := fun w h9 => hts w (List.mem_cons_of_mem _ h9)
  have hown : s.vm.findClass RX6 = some m.cls := findClass_of_methodNamed B.named
  have hlocks := B.notSynchronized
  generalize hQ : MQ below _ args s _ _ _ = Q
  show W p l e ({ frames := 0, cells := 0, slots := 0, locals := 0 } : Room) s m args below meth c s.heap [] 0 0 Q (entryFrame m args 3)
  have hent : entryFrame m args 3 = F0 m 0 ((lg_sl ([.ref q_a0, .int x1, .int x2]) ++ List.replicate (3 - (lg_sl ([.ref q_a0, .int x1, .int x2])).length) Slot.unset).toArray) [] := by rw [ha]; exact lg_entry_eq m ([.ref q_a0, .int x1, .int x2]) 3
  rw [hent]; clear hent
  have hl := lv_entry ([.ref q_a0, .int x1, .int x2]) (n := 3) (Nat.le_of_ble_eq_true rfl)
  generalize (lg_sl ([.ref q_a0, .int x1, .int x2]) ++ List.replicate (3 - (lg_sl ([.ref q_a0, .int x1, .int x2])).length) Slot.unset).toArray = ls at hl ⊢
  have hl : lv_has ls 3 [(0, .ref q_a0), (1, .int x1), (2, .int x2)] := hl
  unfold P_X6_length at h
  refine lv_aload_n hx hb dX6_length_0 rfl (lv_at hl 0 rfl) ?_
  refine lv_iconst (v := (1 : Int32)) hx hb dX6_length_1 (by decide) ?_
  refine lv_bipush (v := (10 : Int32)) hx hb dX6_length_2 (by decide) ?_
  refine lv_iload_n hx hb dX6_length_4 rfl (lv_at hl 1 rfl) ?_
  refine lv_imul hx hb dX6_length_5 ?_
  refine lv_iadd hx hb dX6_length_6 ?_
  refine lv_iload_n hx hb dX6_length_7 rfl (lv_at hl 2 rfl) ?_
  refine lv_iadd hx hb dX6_length_8 ?_
  obtain ⟨hi_1, h⟩ := h
  refine va_iald hx hb hK hP 0 0 rfl rfl hi_1 dX6_length_9 ?_
  rw [← hQ]
  exact gRetR hx hb hr rfl h dX6_length_10 hlocks
def P_X6_bound (n_a0 : Nat) (v_a0 : (Nat → Int32)) (x1 : Int32) (x2 : Int32) (post : Int32 → Prop) : Prop :=
  P_X6_at x1 x2 (fun r_1 => vp_in ((161 : Int32) + r_1) n_a0 ∧ (post (v_a0 ((161 : Int32) + r_1).toNatClampNeg)))
set_option maxHeartbeats 4000000 in
set_option maxRecDepth 100000 in
theorem c_X6_bound (l : Launch) (D : va_G) (Cs : Nat → ClassId) (q_a0 : Nat) (n_a0 : Nat) (v_a0 : (Nat → Int32)) (x1 : Int32) (x2 : Int32) {post : Int32 → Prop} (h : P_X6_bound n_a0 v_a0 x1 x2 post) : Met l yX6_bound wsX6_bound ({ frames := 1, cells := 0, slots := 0, locals := 21 } : Room) (va_Pc [.ref q_a0, .int x1, .int x2] (gR D Cs [(q_a0, gI Cs n_a0 v_a0)])) (vp_Si post) 0 0 (fun _ => False) := by
  refine Met.ofW (cc := cX6_bound) (maxL := 3) (ret := (some .int)) (by decide) rfl ?_
  intro p e s m args below meth c s₁ B hml hv
  obtain ⟨ha, hP, hK, hN⟩ := hv
  have hx := B.exec
  have hb := B.bytes
  have hr := B.returns
  have hts := atoms_spec (ws := wsX6_bound) B.pre
  have htb : ∀ w ∈ TB, w.before args s = true := fun w h9 => hts w (List.mem_cons_of_mem _ h9)
  have hown : s.vm.findClass RX6 = some m.cls := findClass_of_methodNamed B.named
  have hlocks := B.notSynchronized
  generalize hQ : MQ below _ args s _ _ _ = Q
  show W p l e ({ frames := 1, cells := 0, slots := 0, locals := 21 } : Room) s m args below meth c s.heap [] 0 0 Q (entryFrame m args 3)
  have hent : entryFrame m args 3 = F0 m 0 ((lg_sl ([.ref q_a0, .int x1, .int x2]) ++ List.replicate (3 - (lg_sl ([.ref q_a0, .int x1, .int x2])).length) Slot.unset).toArray) [] := by rw [ha]; exact lg_entry_eq m ([.ref q_a0, .int x1, .int x2]) 3
  rw [hent]; clear hent
  have hl := lv_entry ([.ref q_a0, .int x1, .int x2]) (n := 3) (Nat.le_of_ble_eq_true rfl)
  generalize (lg_sl ([.ref q_a0, .int x1, .int x2]) ++ List.replicate (3 - (lg_sl ([.ref q_a0, .int x1, .int x2])).length) Slot.unset).toArray = ls at hl ⊢
  have hl : lv_has ls 3 [(0, .ref q_a0), (1, .int x1), (2, .int x2)] := hl
  unfold P_X6_bound at h
  refine lv_aload_n hx hb dX6_bound_0 rfl (lv_at hl 0 rfl) ?_
  refine lv_sipush (v := (161 : Int32)) hx hb dX6_bound_1 (by decide) ?_
  refine lv_iload_n hx hb dX6_bound_4 rfl (lv_at hl 1 rfl) ?_
  refine lv_iload_n hx hb dX6_bound_5 rfl (lv_at hl 2 rfl) ?_
  refine gSR (As := [.int x1, .int x2]) (rest := [.int (161 : Int32), .ref q_a0]) ⟨hx, hb, hml, hown, htb⟩ hK hP hN [] rfl (c_X6_at l D Cs x1 x2 h) (va_cwS 2 htb (TB_s tb_203 tb_204 tb_5 (TB_self tb_205)) rfl rfl rfl z_X6_at.2 ⟨Nat.le_of_ble_eq_true rfl, Nat.le_of_ble_eq_true rfl⟩) rfl hl.1 rfl (Nat.le_of_ble_eq_true rfl) ⟨Nat.le_of_ble_eq_true rfl, Nat.le_of_ble_eq_true rfl⟩ dX6_bound_6 (fun r_1 h => ?_)
  refine lv_iadd hx hb dX6_bound_9 ?_
  obtain ⟨hi_2, h⟩ := h
  refine va_iald hx hb hK hP 0 0 rfl rfl hi_2 dX6_bound_10 ?_
  rw [← hQ]
  exact gRetR hx hb hr rfl h dX6_bound_11 hlocks
def P_X6_spread_b130 (n_a1 : Nat) (v_a1 : (Nat → Int32)) (x2 : Int32) (x3 : Int32) (post : (Nat → Int32) → Prop) (K3 : (Nat → Int32) → Int32 → Prop) (K14 : (Nat → Int32) → Int32 → Int32 → Prop) (K25 : (Nat → Int32) → Int32 → Int32 → Int32 → Prop) (v_o_years : (Nat → Int32)) (x4 : Int32) (x5 : Int32) (x6 : Int32) : Prop :=
  ∀ x6_1 : Int32, x6_1 = x6 + (1 : Int32) → K25 v_o_years x4 x5 x6_1
def P_X6_spread_b97 (n_a1 : Nat) (v_a1 : (Nat → Int32)) (x2 : Int32) (x3 : Int32) (post : (Nat → Int32) → Prop) (K3 : (Nat → Int32) → Int32 → Prop) (K14 : (Nat → Int32) → Int32 → Int32 → Prop) (K25 : (Nat → Int32) → Int32 → Int32 → Int32 → Prop) (v_o_years : (Nat → Int32)) (x4 : Int32) (x5 : Int32) (x6 : Int32) (s0 : Int32) : Prop :=
  vp_in x6 10 ∧ (((v_o_years x6.toNatClampNeg) ≤ s0 → P_X6_spread_b130 n_a1 v_a1 x2 x3 post K3 K14 K25 v_o_years x4 x5 x6) ∧ (¬ ((v_o_years x6.toNatClampNeg) ≤ s0) → (((100000 : Int32) ≤ s0 → P_X6_spread_b130 n_a1 v_a1 x2 x3 post K3 K14 K25 v_o_years x4 x5 x6) ∧ (¬ ((100000 : Int32) ≤ s0) → (vp_in x6 10 ∧ (P_X6_spread_b130 n_a1 v_a1 x2 x3 post K3 K14 K25 (upd v_o_years x6.toNatClampNeg s0) (1 : Int32) x5 x6))))))
def P_X6_spread_b71 (n_a1 : Nat) (v_a1 : (Nat → Int32)) (x2 : Int32) (x3 : Int32) (post : (Nat → Int32) → Prop) (K3 : (Nat → Int32) → Int32 → Prop) (K14 : (Nat → Int32) → Int32 → Int32 → Prop) (K25 : (Nat → Int32) → Int32 → Int32 → Int32 → Prop) (v_o_years : (Nat → Int32)) (x4 : Int32) (x5 : Int32) (x6 : Int32) (s0 : Int32) : Prop :=
  P_X6_bound n_a1 v_a1 x6 x2 (fun r_6 => (r_6 ≤ s0 → P_X6_spread_b97 n_a1 v_a1 x2 x3 post K3 K14 K25 v_o_years x4 x5 x6 s0) ∧ (¬ (r_6 ≤ s0) → (P_X6_bound n_a1 v_a1 x6 x2 (fun r_8 => P_X6_spread_b97 n_a1 v_a1 x2 x3 post K3 K14 K25 v_o_years x4 x5 x6 r_8))))
def P_X6_spread_b50 (n_a1 : Nat) (v_a1 : (Nat → Int32)) (x2 : Int32) (x3 : Int32) (post : (Nat → Int32) → Prop) (K3 : (Nat → Int32) → Int32 → Prop) (K14 : (Nat → Int32) → Int32 → Int32 → Prop) (K25 : (Nat → Int32) → Int32 → Int32 → Int32 → Prop) (v_o_years : (Nat → Int32)) (x4 : Int32) (x5 : Int32) (x6 : Int32) : Prop :=
  P_X6_spread_b71 n_a1 v_a1 x2 x3 post K3 K14 K25 v_o_years x4 x5 x6 (100000 : Int32)
def P_X6_spread_b25 (n_a1 : Nat) (v_a1 : (Nat → Int32)) (x2 : Int32) (x3 : Int32) (post : (Nat → Int32) → Prop) (K3 : (Nat → Int32) → Int32 → Prop) (K14 : (Nat → Int32) → Int32 → Int32 → Prop) (K25 : (Nat → Int32) → Int32 → Int32 → Int32 → Prop) (v_o_years : (Nat → Int32)) (x4 : Int32) (x5 : Int32) (x6 : Int32) : Prop :=
  vp_in (0 : Int32) n_a1 ∧ (((v_a1 (0 : Int32).toNatClampNeg) ≤ x6 → (∀ x5_11 : Int32, x5_11 = x5 + (1 : Int32) → K14 v_o_years x4 x5_11)) ∧ (¬ ((v_a1 (0 : Int32).toNatClampNeg) ≤ x6) → (P_X6_length n_a1 v_a1 x5 x6 (fun r_12 => (r_12 = 0 → P_X6_spread_b50 n_a1 v_a1 x2 x3 post K3 K14 K25 v_o_years x4 x5 x6) ∧ (¬ (r_12 = 0) → ((x6 = x3 → P_X6_spread_b50 n_a1 v_a1 x2 x3 post K3 K14 K25 v_o_years x4 x5 x6) ∧ (¬ (x6 = x3) → (vp_in x5 10 ∧ (P_X6_length n_a1 v_a1 x5 x6 (fun r_16 => P_X6_spread_b71 n_a1 v_a1 x2 x3 post K3 K14 K25 v_o_years x4 x5 x6 ((v_o_years x5.toNatClampNeg) + r_16)))))))))))
def P_X6_spread_l25 (n_a1 : Nat) (v_a1 : (Nat → Int32)) (x2 : Int32) (x3 : Int32) (post : (Nat → Int32) → Prop) (K3 : (Nat → Int32) → Int32 → Prop) (K14 : (Nat → Int32) → Int32 → Int32 → Prop) : Nat → (Nat → Int32) → Int32 → Int32 → Int32 → Prop
  | 0 => fun _ _ _ _ => False
  | n + 1 => P_X6_spread_b25 n_a1 v_a1 x2 x3 post K3 K14 (P_X6_spread_l25 n_a1 v_a1 x2 x3 post K3 K14 n)
def P_X6_spread_b14 (n_a1 : Nat) (v_a1 : (Nat → Int32)) (x2 : Int32) (x3 : Int32) (post : (Nat → Int32) → Prop) (K3 : (Nat → Int32) → Int32 → Prop) (K14 : (Nat → Int32) → Int32 → Int32 → Prop) (v_o_years : (Nat → Int32)) (x4 : Int32) (x5 : Int32) : Prop :=
  vp_in (0 : Int32) n_a1 ∧ (((v_a1 (0 : Int32).toNatClampNeg) ≤ x5 → K3 v_o_years x4) ∧ (¬ ((v_a1 (0 : Int32).toNatClampNeg) ≤ x5) → (∃ n, P_X6_spread_l25 n_a1 v_a1 x2 x3 post K3 K14 n v_o_years x4 x5 (0 : Int32))))
def P_X6_spread_l14 (n_a1 : Nat) (v_a1 : (Nat → Int32)) (x2 : Int32) (x3 : Int32) (post : (Nat → Int32) → Prop) (K3 : (Nat → Int32) → Int32 → Prop) : Nat → (Nat → Int32) → Int32 → Int32 → Prop
  | 0 => fun _ _ _ => False
  | n + 1 => P_X6_spread_b14 n_a1 v_a1 x2 x3 post K3 (P_X6_spread_l14 n_a1 v_a1 x2 x3 post K3 n)
def P_X6_spread_b3 (n_a1 : Nat) (v_a1 : (Nat → Int32)) (x2 : Int32) (x3 : Int32) (post : (Nat → Int32) → Prop) (K3 : (Nat → Int32) → Int32 → Prop) (v_o_years : (Nat → Int32)) (x4 : Int32) : Prop :=
  (x4 = 0 → post v_o_years) ∧ (¬ (x4 = 0) → (∃ n, P_X6_spread_l14 n_a1 v_a1 x2 x3 post K3 n v_o_years (0 : Int32) (0 : Int32)))
def P_X6_spread_l3 (n_a1 : Nat) (v_a1 : (Nat → Int32)) (x2 : Int32) (x3 : Int32) (post : (Nat → Int32) → Prop) : Nat → (Nat → Int32) → Int32 → Prop
  | 0 => fun _ _ => False
  | n + 1 => P_X6_spread_b3 n_a1 v_a1 x2 x3 post (P_X6_spread_l3 n_a1 v_a1 x2 x3 post n)
def P_X6_spread (n_a1 : Nat) (v_o_years : (Nat → Int32)) (v_a1 : (Nat → Int32)) (x2 : Int32) (x3 : Int32) (post : (Nat → Int32) → Prop) : Prop :=
  ∃ n, P_X6_spread_l3 n_a1 v_a1 x2 x3 post n v_o_years (1 : Int32)
set_option maxHeartbeats 4000000 in
set_option maxRecDepth 100000 in
theorem c_X6_spread (l : Launch) (D : va_G) (Cs : Nat → ClassId) (q_o : Nat) (q_a1 : Nat) (q_o_text : Nat) (q_o_now : Nat) (q_o_trial : Nat) (q_o_diary : Nat) (q_o_kept : Nat) (q_o_isKept : Nat) (q_o_years : Nat) (n_a1 : Nat) (sz : Nat) (v_o_years : (Nat → Int32)) (v_a1 : (Nat → Int32)) (v_o_refusal : Int32) (v_o_size : Int32) (v_o_acts : Int32) (v_o_least : Int32) (v_o_origins : Int32) (v_o_ofAll : Int32) (v_o_ofSome : Int32) (v_o_sets : Int32) (v_o_spot : Int32) (v_o_out : Int32) (x2 : Int32) (x3 : Int32) {post : (Nat → Int32) → Prop} (h : P_X6_spread n_a1 v_o_years v_a1 x2 x3 post) : Met l yX6_spread wsX6_spread ({ frames := 2, cells := 0, slots := 0, locals := 43 } : Room) (va_Pc [.ref q_o, .ref q_a1, .int x2, .int x3] (gM D Cs [(q_o, .inr (6, [.int v_o_refusal, .ref q_o_text, .int v_o_size, .ref q_o_now, .ref q_o_trial, .ref q_o_diary, .int v_o_acts, .ref q_o_kept, .ref q_o_isKept, .ref q_o_years, .int v_o_least, .int v_o_origins, .int v_o_ofAll, .int v_o_ofSome, .int v_o_sets, .int v_o_spot, .int v_o_out])), (q_o_years, gI Cs 10 v_o_years), (q_a1, gI Cs n_a1 v_a1)] sz)) (va_Qv (fun (u : (Nat → Int32)) => post u) (gB D (va_A [(q_o, .inr (6, [.int v_o_refusal, .ref q_o_text, .int v_o_size, .ref q_o_now, .ref q_o_trial, .ref q_o_diary, .int v_o_acts, .ref q_o_kept, .ref q_o_isKept, .ref q_o_years, .int v_o_least, .int v_o_origins, .int v_o_ofAll, .int v_o_ofSome, .int v_o_sets, .int v_o_spot, .int v_o_out])), (q_o_years, gI Cs 10 v_o_years), (q_a1, gI Cs n_a1 v_a1)] sz) (fun u : (Nat → Int32) => [(q_o, .inr (6, [.int v_o_refusal, .ref q_o_text, .int v_o_size, .ref q_o_now, .ref q_o_trial, .ref q_o_diary, .int v_o_acts, .ref q_o_kept, .ref q_o_isKept, .ref q_o_years, .int v_o_least, .int v_o_origins, .int v_o_ofAll, .int v_o_ofSome, .int v_o_sets, .int v_o_spot, .int v_o_out])), (q_o_years, gI Cs 10 u), (q_a1, gI Cs n_a1 v_a1)])) (va_A [(q_o, .inr (6, [.int v_o_refusal, .ref q_o_text, .int v_o_size, .ref q_o_now, .ref q_o_trial, .ref q_o_diary, .int v_o_acts, .ref q_o_kept, .ref q_o_isKept, .ref q_o_years, .int v_o_least, .int v_o_origins, .int v_o_ofAll, .int v_o_ofSome, .int v_o_sets, .int v_o_spot, .int v_o_out])), (q_o_years, gI Cs 10 v_o_years), (q_a1, gI Cs n_a1 v_a1)] sz)) 0 0 (va_A [(q_o, .inr (6, [.int v_o_refusal, .ref q_o_text, .int v_o_size, .ref q_o_now, .ref q_o_trial, .ref q_o_diary, .int v_o_acts, .ref q_o_kept, .ref q_o_isKept, .ref q_o_years, .int v_o_least, .int v_o_origins, .int v_o_ofAll, .int v_o_ofSome, .int v_o_sets, .int v_o_spot, .int v_o_out])), (q_o_years, gI Cs 10 v_o_years), (q_a1, gI Cs n_a1 v_a1)] sz) := by
  refine Met.ofW (cc := cX6_spread) (maxL := 8) (ret := none) (by decide) rfl ?_
  intro p e s m args below meth c s₁ B hml hv
  obtain ⟨ha, hsz, hP, hK, hD0, hN⟩ := hv
  have hx := B.exec
  have hb := B.bytes
  have hr := B.returns
  have hts := atoms_spec (ws := wsX6_spread) B.pre
  have htb : ∀ w ∈ TB, w.before args s = true := fun w h9 => hts w (List.mem_cons_of_mem _ h9)
  have hown : s.vm.findClass RX6 = some m.cls := findClass_of_methodNamed B.named
  have hlocks := B.notSynchronized
  subst hsz
  have hD := hD0.self (sz := s.heap.size)
  generalize hAe : va_A [(q_o, .inr (6, [.int v_o_refusal, .ref q_o_text, .int v_o_size, .ref q_o_now, .ref q_o_trial, .ref q_o_diary, .int v_o_acts, .ref q_o_kept, .ref q_o_isKept, .ref q_o_years, .int v_o_least, .int v_o_origins, .int v_o_ofAll, .int v_o_ofSome, .int v_o_sets, .int v_o_spot, .int v_o_out])), (q_o_years, gI Cs 10 v_o_years), (q_a1, gI Cs n_a1 v_a1)] s.heap.size = A at hD ⊢
  have hA : ∀ q : Nat, s.heap.size ≤ q → A q := fun q h9 => by rw [← hAe]; exact Or.inr h9
  obtain ⟨H, hH⟩ : ∃ z : Heap, z = s.heap := ⟨_, rfl⟩
  have hS : va_S A s.heap H [] := by rw [hH]; exact va_S.rf
  have hP : va_P D vwCl [(q_o, .inr (6, [.int v_o_refusal, .ref q_o_text, .int v_o_size, .ref q_o_now, .ref q_o_trial, .ref q_o_diary, .int v_o_acts, .ref q_o_kept, .ref q_o_isKept, .ref q_o_years, .int v_o_least, .int v_o_origins, .int v_o_ofAll, .int v_o_ofSome, .int v_o_sets, .int v_o_spot, .int v_o_out])), (q_o_years, gI Cs 10 v_o_years), (q_a1, gI Cs n_a1 v_a1)] H := by rw [hH]; exact hP
  generalize hQ : MQ below _ args s _ _ _ = Q
  show W p l e ({ frames := 2, cells := 0, slots := 0, locals := 43 } : Room) s m args below meth c s.heap [] 0 0 Q (entryFrame m args 8)
  have hent : entryFrame m args 8 = F0 m 0 ((lg_sl ([.ref q_o, .ref q_a1, .int x2, .int x3]) ++ List.replicate (8 - (lg_sl ([.ref q_o, .ref q_a1, .int x2, .int x3])).length) Slot.unset).toArray) [] := by rw [ha]; exact lg_entry_eq m ([.ref q_o, .ref q_a1, .int x2, .int x3]) 8
  rw [hent]; clear hent
  rw [← hH]
  have hl := lv_entry ([.ref q_o, .ref q_a1, .int x2, .int x3]) (n := 8) (Nat.le_of_ble_eq_true rfl)
  generalize (lg_sl ([.ref q_o, .ref q_a1, .int x2, .int x3]) ++ List.replicate (8 - (lg_sl ([.ref q_o, .ref q_a1, .int x2, .int x3])).length) Slot.unset).toArray = ls at hl ⊢
  have hl : lv_has ls 8 [(0, .ref q_o), (1, .ref q_a1), (2, .int x2), (3, .int x3)] := hl
  have L3 : ∀ (n : Nat) (H : Heap) (locs : List Loc) (ls : Array Slot) (v_o_years : (Nat → Int32)) (x4 : Int32), va_P D vwCl [(q_o, .inr (6, [.int v_o_refusal, .ref q_o_text, .int v_o_size, .ref q_o_now, .ref q_o_trial, .ref q_o_diary, .int v_o_acts, .ref q_o_kept, .ref q_o_isKept, .ref q_o_years, .int v_o_least, .int v_o_origins, .int v_o_ofAll, .int v_o_ofSome, .int v_o_sets, .int v_o_spot, .int v_o_out])), (q_o_years, gI Cs 10 v_o_years), (q_a1, gI Cs n_a1 v_a1)] H → va_D A [(q_o, .inr (6, [.int v_o_refusal, .ref q_o_text, .int v_o_size, .ref q_o_now, .ref q_o_trial, .ref q_o_diary, .int v_o_acts, .ref q_o_kept, .ref q_o_isKept, .ref q_o_years, .int v_o_least, .int v_o_origins, .int v_o_ofAll, .int v_o_ofSome, .int v_o_sets, .int v_o_spot, .int v_o_out])), (q_o_years, gI Cs 10 v_o_years), (q_a1, gI Cs n_a1 v_a1)] → va_S A s.heap H locs → lv_has ls 8 [(0, .ref q_o), (1, .ref q_a1), (2, .int x2), (3, .int x3), (4, .int x4)] → P_X6_spread_l3 n_a1 v_a1 x2 x3 post n v_o_years x4 → W p l e ({ frames := 2, cells := 0, slots := 0, locals := 43 } : Room) s m args below meth c H locs 0 0 Q (F0 m 3 ls []) := by
    intro n3
    induction n3 with
    | zero => intro H locs ls v_o_years x4 hP hD hS hl h; exact False.elim h
    | succ n3 ih3 =>
      have L14 : ∀ (n : Nat) (H : Heap) (locs : List Loc) (ls : Array Slot) (v_o_years : (Nat → Int32)) (x4 : Int32) (x5 : Int32), va_P D vwCl [(q_o, .inr (6, [.int v_o_refusal, .ref q_o_text, .int v_o_size, .ref q_o_now, .ref q_o_trial, .ref q_o_diary, .int v_o_acts, .ref q_o_kept, .ref q_o_isKept, .ref q_o_years, .int v_o_least, .int v_o_origins, .int v_o_ofAll, .int v_o_ofSome, .int v_o_sets, .int v_o_spot, .int v_o_out])), (q_o_years, gI Cs 10 v_o_years), (q_a1, gI Cs n_a1 v_a1)] H → va_D A [(q_o, .inr (6, [.int v_o_refusal, .ref q_o_text, .int v_o_size, .ref q_o_now, .ref q_o_trial, .ref q_o_diary, .int v_o_acts, .ref q_o_kept, .ref q_o_isKept, .ref q_o_years, .int v_o_least, .int v_o_origins, .int v_o_ofAll, .int v_o_ofSome, .int v_o_sets, .int v_o_spot, .int v_o_out])), (q_o_years, gI Cs 10 v_o_years), (q_a1, gI Cs n_a1 v_a1)] → va_S A s.heap H locs → lv_has ls 8 [(0, .ref q_o), (1, .ref q_a1), (2, .int x2), (3, .int x3), (4, .int x4), (5, .int x5)] → P_X6_spread_l14 n_a1 v_a1 x2 x3 post (P_X6_spread_l3 n_a1 v_a1 x2 x3 post n3) n v_o_years x4 x5 → W p l e ({ frames := 2, cells := 0, slots := 0, locals := 43 } : Room) s m args below meth c H locs 0 0 Q (F0 m 14 ls []) := by
        intro n14
        induction n14 with
        | zero => intro H locs ls v_o_years x4 x5 hP hD hS hl h; exact False.elim h
        | succ n14 ih14 =>
          have L25 : ∀ (n : Nat) (H : Heap) (locs : List Loc) (ls : Array Slot) (v_o_years : (Nat → Int32)) (x4 : Int32) (x5 : Int32) (x6 : Int32), va_P D vwCl [(q_o, .inr (6, [.int v_o_refusal, .ref q_o_text, .int v_o_size, .ref q_o_now, .ref q_o_trial, .ref q_o_diary, .int v_o_acts, .ref q_o_kept, .ref q_o_isKept, .ref q_o_years, .int v_o_least, .int v_o_origins, .int v_o_ofAll, .int v_o_ofSome, .int v_o_sets, .int v_o_spot, .int v_o_out])), (q_o_years, gI Cs 10 v_o_years), (q_a1, gI Cs n_a1 v_a1)] H → va_D A [(q_o, .inr (6, [.int v_o_refusal, .ref q_o_text, .int v_o_size, .ref q_o_now, .ref q_o_trial, .ref q_o_diary, .int v_o_acts, .ref q_o_kept, .ref q_o_isKept, .ref q_o_years, .int v_o_least, .int v_o_origins, .int v_o_ofAll, .int v_o_ofSome, .int v_o_sets, .int v_o_spot, .int v_o_out])), (q_o_years, gI Cs 10 v_o_years), (q_a1, gI Cs n_a1 v_a1)] → va_S A s.heap H locs → lv_has ls 8 [(0, .ref q_o), (1, .ref q_a1), (2, .int x2), (3, .int x3), (4, .int x4), (5, .int x5), (6, .int x6)] → P_X6_spread_l25 n_a1 v_a1 x2 x3 post (P_X6_spread_l3 n_a1 v_a1 x2 x3 post n3) (P_X6_spread_l14 n_a1 v_a1 x2 x3 post (P_X6_spread_l3 n_a1 v_a1 x2 x3 post n3) n14) n v_o_years x4 x5 x6 → W p l e ({ frames := 2, cells := 0, slots := 0, locals := 43 } : Room) s m args below meth c H locs 0 0 Q (F0 m 25 ls []) := by
            intro n25
            induction n25 with
            | zero => intro H locs ls v_o_years x4 x5 x6 hP hD hS hl h; exact False.elim h
            | succ n25 ih25 =>
              have B130 : ∀ (H : Heap) (locs : List Loc) (ls : Array Slot) (v_o_years : (Nat → Int32)) (x4 : Int32) (x5 : Int32) (x6 : Int32), va_P D vwCl [(q_o, .inr (6, [.int v_o_refusal, .ref q_o_text, .int v_o_size, .ref q_o_now, .ref q_o_trial, .ref q_o_diary, .int v_o_acts, .ref q_o_kept, .ref q_o_isKept, .ref q_o_years, .int v_o_least, .int v_o_origins, .int v_o_ofAll, .int v_o_ofSome, .int v_o_sets, .int v_o_spot, .int v_o_out])), (q_o_years, gI Cs 10 v_o_years), (q_a1, gI Cs n_a1 v_a1)] H → va_D A [(q_o, .inr (6, [.int v_o_refusal, .ref q_o_text, .int v_o_size, .ref q_o_now, .ref q_o_trial, .ref q_o_diary, .int v_o_acts, .ref q_o_kept, .ref q_o_isKept, .ref q_o_years, .int v_o_least, .int v_o_origins, .int v_o_ofAll, .int v_o_ofSome, .int v_o_sets, .int v_o_spot, .int v_o_out])), (q_o_years, gI Cs 10 v_o_years), (q_a1, gI Cs n_a1 v_a1)] → va_S A s.heap H locs → lv_has ls 8 [(0, .ref q_o), (1, .ref q_a1), (2, .int x2), (3, .int x3), (4, .int x4), (5, .int x5), (6, .int x6)] → P_X6_spread_b130 n_a1 v_a1 x2 x3 post (P_X6_spread_l3 n_a1 v_a1 x2 x3 post n3) (P_X6_spread_l14 n_a1 v_a1 x2 x3 post (P_X6_spread_l3 n_a1 v_a1 x2 x3 post n3) n14) (P_X6_spread_l25 n_a1 v_a1 x2 x3 post (P_X6_spread_l3 n_a1 v_a1 x2 x3 post n3) (P_X6_spread_l14 n_a1 v_a1 x2 x3 post (P_X6_spread_l3 n_a1 v_a1 x2 x3 post n3) n14) n25) v_o_years x4 x5 x6 → W p l e ({ frames := 2, cells := 0, slots := 0, locals := 43 } : Room) s m args below meth c H locs 0 0 Q (F0 m 130 ls []) := by
                intro H locs ls v_o_years x4 x5 x6 hP hD hS hl h
                unfold P_X6_spread_b130 at h
                obtain ⟨x6_1, ex6_1⟩ : ∃ y : Int32, y = x6 + (1 : Int32) := ⟨_, rfl⟩
                have h := h _ ex6_1
                refine lv_iinc (v := x6_1) (lv' := [(6, .int x6_1), (0, .ref q_o), (1, .ref q_a1), (2, .int x2), (3, .int x3), (4, .int x4), (5, .int x5)]) hx hb dX6_spread_130 hl (k := 6) rfl (by rw [ex6_1]; rfl) (by decide) rfl (fun ls hl => ?_)
                refine lv_goto (tgt := 25) hx hb dX6_spread_133 (by decide) ?_
                exact ih25 _ _ _ v_o_years x4 x5 x6_1 hP hD hS (lv_sub hl [1, 2, 3, 4, 5, 6, 0] rfl) h
              have B97 : ∀ (H : Heap) (locs : List Loc) (ls : Array Slot) (v_o_years : (Nat → Int32)) (x4 : Int32) (x5 : Int32) (x6 : Int32) (s0 : Int32), va_P D vwCl [(q_o, .inr (6, [.int v_o_refusal, .ref q_o_text, .int v_o_size, .ref q_o_now, .ref q_o_trial, .ref q_o_diary, .int v_o_acts, .ref q_o_kept, .ref q_o_isKept, .ref q_o_years, .int v_o_least, .int v_o_origins, .int v_o_ofAll, .int v_o_ofSome, .int v_o_sets, .int v_o_spot, .int v_o_out])), (q_o_years, gI Cs 10 v_o_years), (q_a1, gI Cs n_a1 v_a1)] H → va_D A [(q_o, .inr (6, [.int v_o_refusal, .ref q_o_text, .int v_o_size, .ref q_o_now, .ref q_o_trial, .ref q_o_diary, .int v_o_acts, .ref q_o_kept, .ref q_o_isKept, .ref q_o_years, .int v_o_least, .int v_o_origins, .int v_o_ofAll, .int v_o_ofSome, .int v_o_sets, .int v_o_spot, .int v_o_out])), (q_o_years, gI Cs 10 v_o_years), (q_a1, gI Cs n_a1 v_a1)] → va_S A s.heap H locs → lv_has ls 8 [(0, .ref q_o), (1, .ref q_a1), (2, .int x2), (3, .int x3), (4, .int x4), (5, .int x5), (6, .int x6)] → P_X6_spread_b97 n_a1 v_a1 x2 x3 post (P_X6_spread_l3 n_a1 v_a1 x2 x3 post n3) (P_X6_spread_l14 n_a1 v_a1 x2 x3 post (P_X6_spread_l3 n_a1 v_a1 x2 x3 post n3) n14) (P_X6_spread_l25 n_a1 v_a1 x2 x3 post (P_X6_spread_l3 n_a1 v_a1 x2 x3 post n3) (P_X6_spread_l14 n_a1 v_a1 x2 x3 post (P_X6_spread_l3 n_a1 v_a1 x2 x3 post n3) n14) n25) v_o_years x4 x5 x6 s0 → W p l e ({ frames := 2, cells := 0, slots := 0, locals := 43 } : Room) s m args below meth c H locs 0 0 Q (F0 m 97 ls [.int s0]) := by
                intro H locs ls v_o_years x4 x5 x6 s0 hP hD hS hl h
                unfold P_X6_spread_b97 at h
                refine lv_istore (lv' := [(7, .int s0), (0, .ref q_o), (1, .ref q_a1), (2, .int x2), (3, .int x3), (4, .int x4), (5, .int x5), (6, .int x6)]) hx hb dX6_spread_97 hl (by decide) rfl (fun ls hl => ?_)
                refine lv_iload hx hb dX6_spread_99 (lv_at hl 0 rfl) ?_
                refine lv_aload_n hx hb dX6_spread_101 rfl (lv_at hl 1 rfl) ?_
                refine va_get (D := D) (ci := 6) (v := .ref q_o_years) (C := RX6) (T := TX6) (N := 17) hx hb htb inT_X6 hown hK hP 0 rfl rfl 9 (by decide) (htb _ tb_95) (fun _ h9 => h9) rfl dX6_spread_102 ?_
                refine lv_iload hx hb dX6_spread_105 (lv_at hl 7 rfl) ?_
                obtain ⟨hi_2, h⟩ := h
                refine va_iald hx hb hK hP 1 0 rfl rfl hi_2 dX6_spread_107 ?_
                refine lv_icmp_ge (tgt := 130) hx hb dX6_spread_108 (by decide) (fun c_3 => ?_) (fun c_3 => ?_)
                · have h := h.1 c_3
                  exact B130 _ _ _ v_o_years x4 x5 x6 hP hD hS (lv_sub hl [1, 2, 3, 4, 5, 6, 7] rfl) h
                · have h := h.2 c_3
                  refine lv_iload hx hb dX6_spread_111 (lv_at hl 0 rfl) ?_
                  refine lv_ldc (v := (100000 : Int32)) hx hb hown (htb _ tb_360) dX6_spread_113 ?_
                  refine lv_icmp_ge (tgt := 130) hx hb dX6_spread_115 (by decide) (fun c_4 => ?_) (fun c_4 => ?_)
                  · have h := h.1 c_4
                    exact B130 _ _ _ v_o_years x4 x5 x6 hP hD hS (lv_sub hl [1, 2, 3, 4, 5, 6, 7] rfl) h
                  · have h := h.2 c_4
                    refine lv_aload_n hx hb dX6_spread_118 rfl (lv_at hl 1 rfl) ?_
                    refine va_get (D := D) (ci := 6) (v := .ref q_o_years) (C := RX6) (T := TX6) (N := 17) hx hb htb inT_X6 hown hK hP 0 rfl rfl 9 (by decide) (htb _ tb_95) (fun _ h9 => h9) rfl dX6_spread_119 ?_
                    refine lv_iload hx hb dX6_spread_122 (lv_at hl 7 rfl) ?_
                    refine lv_iload hx hb dX6_spread_124 (lv_at hl 0 rfl) ?_
                    obtain ⟨hi_5, h⟩ := h
                    refine va_iast hx hb hK hP hD hS 1 0 rfl rfl hi_5 dX6_spread_126 (fun H locs hP hD hS => ?_)
                    have hP : va_P D vwCl [(q_o, .inr (6, [.int v_o_refusal, .ref q_o_text, .int v_o_size, .ref q_o_now, .ref q_o_trial, .ref q_o_diary, .int v_o_acts, .ref q_o_kept, .ref q_o_isKept, .ref q_o_years, .int v_o_least, .int v_o_origins, .int v_o_ofAll, .int v_o_ofSome, .int v_o_sets, .int v_o_spot, .int v_o_out])), (q_o_years, gI Cs 10 (upd v_o_years x6.toNatClampNeg s0)), (q_a1, gI Cs n_a1 v_a1)] H := hP
                    have hD : va_D A [(q_o, .inr (6, [.int v_o_refusal, .ref q_o_text, .int v_o_size, .ref q_o_now, .ref q_o_trial, .ref q_o_diary, .int v_o_acts, .ref q_o_kept, .ref q_o_isKept, .ref q_o_years, .int v_o_least, .int v_o_origins, .int v_o_ofAll, .int v_o_ofSome, .int v_o_sets, .int v_o_spot, .int v_o_out])), (q_o_years, gI Cs 10 (upd v_o_years x6.toNatClampNeg s0)), (q_a1, gI Cs n_a1 v_a1)] := hD
                    refine lv_iconst (v := (1 : Int32)) hx hb dX6_spread_127 (by decide) ?_
                    refine lv_istore (lv' := [(4, .int (1 : Int32)), (7, .int s0), (0, .ref q_o), (1, .ref q_a1), (2, .int x2), (3, .int x3), (5, .int x5), (6, .int x6)]) hx hb dX6_spread_128 hl (by decide) rfl (fun ls hl => ?_)
                    exact B130 _ _ _ (upd v_o_years x6.toNatClampNeg s0) (1 : Int32) x5 x6 hP hD hS (lv_sub hl [2, 3, 4, 5, 0, 6, 7] rfl) h
              have B71 : ∀ (H : Heap) (locs : List Loc) (ls : Array Slot) (v_o_years : (Nat → Int32)) (x4 : Int32) (x5 : Int32) (x6 : Int32) (s0 : Int32), va_P D vwCl [(q_o, .inr (6, [.int v_o_refusal, .ref q_o_text, .int v_o_size, .ref q_o_now, .ref q_o_trial, .ref q_o_diary, .int v_o_acts, .ref q_o_kept, .ref q_o_isKept, .ref q_o_years, .int v_o_least, .int v_o_origins, .int v_o_ofAll, .int v_o_ofSome, .int v_o_sets, .int v_o_spot, .int v_o_out])), (q_o_years, gI Cs 10 v_o_years), (q_a1, gI Cs n_a1 v_a1)] H → va_D A [(q_o, .inr (6, [.int v_o_refusal, .ref q_o_text, .int v_o_size, .ref q_o_now, .ref q_o_trial, .ref q_o_diary, .int v_o_acts, .ref q_o_kept, .ref q_o_isKept, .ref q_o_years, .int v_o_least, .int v_o_origins, .int v_o_ofAll, .int v_o_ofSome, .int v_o_sets, .int v_o_spot, .int v_o_out])), (q_o_years, gI Cs 10 v_o_years), (q_a1, gI Cs n_a1 v_a1)] → va_S A s.heap H locs → lv_has ls 8 [(0, .ref q_o), (1, .ref q_a1), (2, .int x2), (3, .int x3), (4, .int x4), (5, .int x5), (6, .int x6)] → P_X6_spread_b71 n_a1 v_a1 x2 x3 post (P_X6_spread_l3 n_a1 v_a1 x2 x3 post n3) (P_X6_spread_l14 n_a1 v_a1 x2 x3 post (P_X6_spread_l3 n_a1 v_a1 x2 x3 post n3) n14) (P_X6_spread_l25 n_a1 v_a1 x2 x3 post (P_X6_spread_l3 n_a1 v_a1 x2 x3 post n3) (P_X6_spread_l14 n_a1 v_a1 x2 x3 post (P_X6_spread_l3 n_a1 v_a1 x2 x3 post n3) n14) n25) v_o_years x4 x5 x6 s0 → W p l e ({ frames := 2, cells := 0, slots := 0, locals := 43 } : Room) s m args below meth c H locs 0 0 Q (F0 m 71 ls [.int s0]) := by
                intro H locs ls v_o_years x4 x5 x6 s0 hP hD hS hl h
                unfold P_X6_spread_b71 at h
                refine lv_istore (lv' := [(7, .int s0), (0, .ref q_o), (1, .ref q_a1), (2, .int x2), (3, .int x3), (4, .int x4), (5, .int x5), (6, .int x6)]) hx hb dX6_spread_71 hl (by decide) rfl (fun ls hl => ?_)
                refine lv_iload hx hb dX6_spread_73 (lv_at hl 0 rfl) ?_
                refine lv_aload_n hx hb dX6_spread_75 rfl (lv_at hl 2 rfl) ?_
                refine lv_iload hx hb dX6_spread_76 (lv_at hl 7 rfl) ?_
                refine lv_iload_n hx hb dX6_spread_78 rfl (lv_at hl 3 rfl) ?_
                refine gSR (As := [.ref q_a1, .int x6, .int x2]) (rest := [.int s0]) ⟨hx, hb, hml, hown, htb⟩ hK hP hN [2] rfl (c_X6_bound l D Cs q_a1 n_a1 v_a1 x6 x2 h) (va_cwS 3 htb (TB_s tb_361 tb_362 tb_5 (TB_self tb_363)) rfl rfl rfl z_X6_bound.2 ⟨Nat.le_of_ble_eq_true rfl, Nat.le_of_ble_eq_true rfl⟩) rfl hl.1 rfl (Nat.le_of_ble_eq_true rfl) ⟨Nat.le_of_ble_eq_true rfl, Nat.le_of_ble_eq_true rfl⟩ dX6_spread_79 (fun r_6 h => ?_)
                refine lv_icmp_ge (tgt := 95) hx hb dX6_spread_82 (by decide) (fun c_7 => ?_) (fun c_7 => ?_)
                · have h := h.1 c_7
                  refine lv_iload hx hb dX6_spread_95 (lv_at hl 0 rfl) ?_
                  exact B97 _ _ _ v_o_years x4 x5 x6 s0 hP hD hS (lv_sub hl [1, 2, 3, 4, 5, 6, 7] rfl) h
                · have h := h.2 c_7
                  refine lv_aload_n hx hb dX6_spread_85 rfl (lv_at hl 2 rfl) ?_
                  refine lv_iload hx hb dX6_spread_86 (lv_at hl 7 rfl) ?_
                  refine lv_iload_n hx hb dX6_spread_88 rfl (lv_at hl 3 rfl) ?_
                  refine gSR (As := [.ref q_a1, .int x6, .int x2]) (rest := []) ⟨hx, hb, hml, hown, htb⟩ hK hP hN [2] rfl (c_X6_bound l D Cs q_a1 n_a1 v_a1 x6 x2 h) (va_cwS 3 htb (TB_s tb_361 tb_362 tb_5 (TB_self tb_363)) rfl rfl rfl z_X6_bound.2 ⟨Nat.le_of_ble_eq_true rfl, Nat.le_of_ble_eq_true rfl⟩) rfl hl.1 rfl (Nat.le_of_ble_eq_true rfl) ⟨Nat.le_of_ble_eq_true rfl, Nat.le_of_ble_eq_true rfl⟩ dX6_spread_89 (fun r_8 h => ?_)
                  refine lv_goto (tgt := 97) hx hb dX6_spread_92 (by decide) ?_
                  exact B97 _ _ _ v_o_years x4 x5 x6 r_8 hP hD hS (lv_sub hl [1, 2, 3, 4, 5, 6, 7] rfl) h
              have B50 : ∀ (H : Heap) (locs : List Loc) (ls : Array Slot) (v_o_years : (Nat → Int32)) (x4 : Int32) (x5 : Int32) (x6 : Int32), va_P D vwCl [(q_o, .inr (6, [.int v_o_refusal, .ref q_o_text, .int v_o_size, .ref q_o_now, .ref q_o_trial, .ref q_o_diary, .int v_o_acts, .ref q_o_kept, .ref q_o_isKept, .ref q_o_years, .int v_o_least, .int v_o_origins, .int v_o_ofAll, .int v_o_ofSome, .int v_o_sets, .int v_o_spot, .int v_o_out])), (q_o_years, gI Cs 10 v_o_years), (q_a1, gI Cs n_a1 v_a1)] H → va_D A [(q_o, .inr (6, [.int v_o_refusal, .ref q_o_text, .int v_o_size, .ref q_o_now, .ref q_o_trial, .ref q_o_diary, .int v_o_acts, .ref q_o_kept, .ref q_o_isKept, .ref q_o_years, .int v_o_least, .int v_o_origins, .int v_o_ofAll, .int v_o_ofSome, .int v_o_sets, .int v_o_spot, .int v_o_out])), (q_o_years, gI Cs 10 v_o_years), (q_a1, gI Cs n_a1 v_a1)] → va_S A s.heap H locs → lv_has ls 8 [(0, .ref q_o), (1, .ref q_a1), (2, .int x2), (3, .int x3), (4, .int x4), (5, .int x5), (6, .int x6)] → P_X6_spread_b50 n_a1 v_a1 x2 x3 post (P_X6_spread_l3 n_a1 v_a1 x2 x3 post n3) (P_X6_spread_l14 n_a1 v_a1 x2 x3 post (P_X6_spread_l3 n_a1 v_a1 x2 x3 post n3) n14) (P_X6_spread_l25 n_a1 v_a1 x2 x3 post (P_X6_spread_l3 n_a1 v_a1 x2 x3 post n3) (P_X6_spread_l14 n_a1 v_a1 x2 x3 post (P_X6_spread_l3 n_a1 v_a1 x2 x3 post n3) n14) n25) v_o_years x4 x5 x6 → W p l e ({ frames := 2, cells := 0, slots := 0, locals := 43 } : Room) s m args below meth c H locs 0 0 Q (F0 m 50 ls []) := by
                intro H locs ls v_o_years x4 x5 x6 hP hD hS hl h
                unfold P_X6_spread_b50 at h
                refine lv_ldc (v := (100000 : Int32)) hx hb hown (htb _ tb_360) dX6_spread_50 ?_
                refine lv_goto (tgt := 71) hx hb dX6_spread_52 (by decide) ?_
                exact B71 _ _ _ v_o_years x4 x5 x6 (100000 : Int32) hP hD hS (lv_sub hl [0, 1, 2, 3, 4, 5, 6] rfl) h
              intro H locs ls v_o_years x4 x5 x6 hP hD hS hl h
              replace h : P_X6_spread_b25 n_a1 v_a1 x2 x3 post (P_X6_spread_l3 n_a1 v_a1 x2 x3 post n3) (P_X6_spread_l14 n_a1 v_a1 x2 x3 post (P_X6_spread_l3 n_a1 v_a1 x2 x3 post n3) n14) (P_X6_spread_l25 n_a1 v_a1 x2 x3 post (P_X6_spread_l3 n_a1 v_a1 x2 x3 post n3) (P_X6_spread_l14 n_a1 v_a1 x2 x3 post (P_X6_spread_l3 n_a1 v_a1 x2 x3 post n3) n14) n25) v_o_years x4 x5 x6 := h
              unfold P_X6_spread_b25 at h
              refine lv_iload hx hb dX6_spread_25 (lv_at hl 6 rfl) ?_
              refine lv_aload_n hx hb dX6_spread_27 rfl (lv_at hl 1 rfl) ?_
              refine lv_iconst (v := (0 : Int32)) hx hb dX6_spread_28 (by decide) ?_
              obtain ⟨hi_9, h⟩ := h
              refine va_iald hx hb hK hP 2 0 rfl rfl hi_9 dX6_spread_29 ?_
              refine lv_icmp_ge (tgt := 136) hx hb dX6_spread_30 (by decide) (fun c_10 => ?_) (fun c_10 => ?_)
              · have h := h.1 c_10
                obtain ⟨x5_11, ex5_11⟩ : ∃ y : Int32, y = x5 + (1 : Int32) := ⟨_, rfl⟩
                have h := h _ ex5_11
                refine lv_iinc (v := x5_11) (lv' := [(5, .int x5_11), (0, .ref q_o), (1, .ref q_a1), (2, .int x2), (3, .int x3), (4, .int x4), (6, .int x6)]) hx hb dX6_spread_136 hl (k := 5) rfl (by rw [ex5_11]; rfl) (by decide) rfl (fun ls hl => ?_)
                refine lv_goto (tgt := 14) hx hb dX6_spread_139 (by decide) ?_
                exact ih14 _ _ _ v_o_years x4 x5_11 hP hD hS (lv_sub hl [1, 2, 3, 4, 5, 0] rfl) h
              · have h := h.2 c_10
                refine lv_aload_n hx hb dX6_spread_33 rfl (lv_at hl 1 rfl) ?_
                refine lv_iload hx hb dX6_spread_34 (lv_at hl 5 rfl) ?_
                refine lv_iload hx hb dX6_spread_36 (lv_at hl 6 rfl) ?_
                refine gSR (As := [.ref q_a1, .int x5, .int x6]) (rest := []) ⟨hx, hb, hml, hown, htb⟩ hK hP hN [2] rfl (c_X6_length l D Cs q_a1 n_a1 v_a1 x5 x6 h) (va_cwS 3 htb (TB_s tb_368 tb_369 tb_5 (TB_self tb_370)) rfl rfl rfl z_X6_length.2 ⟨Nat.le_of_ble_eq_true rfl, Nat.le_of_ble_eq_true rfl⟩) rfl hl.1 rfl (Nat.le_of_ble_eq_true rfl) ⟨Nat.le_of_ble_eq_true rfl, Nat.le_of_ble_eq_true rfl⟩ dX6_spread_38 (fun r_12 h => ?_)
                refine lv_if_eq (tgt := 50) hx hb dX6_spread_41 (by decide) (fun c_13 => ?_) (fun c_13 => ?_)
                · have h := h.1 c_13
                  exact B50 _ _ _ v_o_years x4 x5 x6 hP hD hS (lv_sub hl [0, 1, 2, 3, 4, 5, 6] rfl) h
                · have h := h.2 c_13
                  refine lv_iload hx hb dX6_spread_44 (lv_at hl 6 rfl) ?_
                  refine lv_iload_n hx hb dX6_spread_46 rfl (lv_at hl 3 rfl) ?_
                  refine lv_icmp_ne (tgt := 55) hx hb dX6_spread_47 (by decide) (fun c_14 => ?_) (fun c_14 => ?_)
                  · have h := h.2 c_14
                    refine lv_aload_n hx hb dX6_spread_55 rfl (lv_at hl 0 rfl) ?_
                    refine va_get (D := D) (ci := 6) (v := .ref q_o_years) (C := RX6) (T := TX6) (N := 17) hx hb htb inT_X6 hown hK hP 0 rfl rfl 9 (by decide) (htb _ tb_95) (fun _ h9 => h9) rfl dX6_spread_56 ?_
                    refine lv_iload hx hb dX6_spread_59 (lv_at hl 5 rfl) ?_
                    obtain ⟨hi_15, h⟩ := h
                    refine va_iald hx hb hK hP 1 0 rfl rfl hi_15 dX6_spread_61 ?_
                    refine lv_aload_n hx hb dX6_spread_62 rfl (lv_at hl 1 rfl) ?_
                    refine lv_iload hx hb dX6_spread_63 (lv_at hl 5 rfl) ?_
                    refine lv_iload hx hb dX6_spread_65 (lv_at hl 6 rfl) ?_
                    refine gSR (As := [.ref q_a1, .int x5, .int x6]) (rest := [.int (v_o_years x5.toNatClampNeg)]) ⟨hx, hb, hml, hown, htb⟩ hK hP hN [2] rfl (c_X6_length l D Cs q_a1 n_a1 v_a1 x5 x6 h) (va_cwS 3 htb (TB_s tb_368 tb_369 tb_5 (TB_self tb_370)) rfl rfl rfl z_X6_length.2 ⟨Nat.le_of_ble_eq_true rfl, Nat.le_of_ble_eq_true rfl⟩) rfl hl.1 rfl (Nat.le_of_ble_eq_true rfl) ⟨Nat.le_of_ble_eq_true rfl, Nat.le_of_ble_eq_true rfl⟩ dX6_spread_67 (fun r_16 h => ?_)
                    refine lv_iadd hx hb dX6_spread_70 ?_
                    exact B71 _ _ _ v_o_years x4 x5 x6 ((v_o_years x5.toNatClampNeg) + r_16) hP hD hS (lv_sub hl [0, 1, 2, 3, 4, 5, 6] rfl) h
                  · have h := h.1 c_14
                    exact B50 _ _ _ v_o_years x4 x5 x6 hP hD hS (lv_sub hl [0, 1, 2, 3, 4, 5, 6] rfl) h
          intro H locs ls v_o_years x4 x5 hP hD hS hl h
          replace h : P_X6_spread_b14 n_a1 v_a1 x2 x3 post (P_X6_spread_l3 n_a1 v_a1 x2 x3 post n3) (P_X6_spread_l14 n_a1 v_a1 x2 x3 post (P_X6_spread_l3 n_a1 v_a1 x2 x3 post n3) n14) v_o_years x4 x5 := h
          unfold P_X6_spread_b14 at h
          refine lv_iload hx hb dX6_spread_14 (lv_at hl 5 rfl) ?_
          refine lv_aload_n hx hb dX6_spread_16 rfl (lv_at hl 1 rfl) ?_
          refine lv_iconst (v := (0 : Int32)) hx hb dX6_spread_17 (by decide) ?_
          obtain ⟨hi_17, h⟩ := h
          refine va_iald hx hb hK hP 2 0 rfl rfl hi_17 dX6_spread_18 ?_
          refine lv_icmp_ge (tgt := 142) hx hb dX6_spread_19 (by decide) (fun c_18 => ?_) (fun c_18 => ?_)
          · have h := h.1 c_18
            refine lv_goto (tgt := 3) hx hb dX6_spread_142 (by decide) ?_
            exact ih3 _ _ _ v_o_years x4 hP hD hS (lv_sub hl [0, 1, 2, 3, 4] rfl) h
          · have h := h.2 c_18
            refine lv_iconst (v := (0 : Int32)) hx hb dX6_spread_22 (by decide) ?_
            refine lv_istore (lv' := [(6, .int (0 : Int32)), (0, .ref q_o), (1, .ref q_a1), (2, .int x2), (3, .int x3), (4, .int x4), (5, .int x5)]) hx hb dX6_spread_23 hl (by decide) rfl (fun ls hl => ?_)
            obtain ⟨n, h⟩ := h
            exact L25 n _ _ _ v_o_years x4 x5 (0 : Int32) hP hD hS (lv_sub hl [1, 2, 3, 4, 5, 6, 0] rfl) h
      intro H locs ls v_o_years x4 hP hD hS hl h
      replace h : P_X6_spread_b3 n_a1 v_a1 x2 x3 post (P_X6_spread_l3 n_a1 v_a1 x2 x3 post n3) v_o_years x4 := h
      unfold P_X6_spread_b3 at h
      refine lv_iload hx hb dX6_spread_3 (lv_at hl 4 rfl) ?_
      refine lv_if_eq (tgt := 145) hx hb dX6_spread_5 (by decide) (fun c_19 => ?_) (fun c_19 => ?_)
      · have h := h.1 c_19
        rw [← hQ]
        exact gRetV (u := v_o_years) hx hb hr h hP hD hS dX6_spread_145 hlocks
      · have h := h.2 c_19
        refine lv_iconst (v := (0 : Int32)) hx hb dX6_spread_8 (by decide) ?_
        refine lv_istore (lv' := [(4, .int (0 : Int32)), (0, .ref q_o), (1, .ref q_a1), (2, .int x2), (3, .int x3)]) hx hb dX6_spread_9 hl (by decide) rfl (fun ls hl => ?_)
        refine lv_iconst (v := (0 : Int32)) hx hb dX6_spread_11 (by decide) ?_
        refine lv_istore (lv' := [(5, .int (0 : Int32)), (4, .int (0 : Int32)), (0, .ref q_o), (1, .ref q_a1), (2, .int x2), (3, .int x3)]) hx hb dX6_spread_12 hl (by decide) rfl (fun ls hl => ?_)
        obtain ⟨n, h⟩ := h
        exact L14 n _ _ _ v_o_years (0 : Int32) (0 : Int32) hP hD hS (lv_sub hl [2, 3, 4, 5, 1, 0] rfl) h
  unfold P_X6_spread at h
  refine lv_iconst (v := (1 : Int32)) hx hb dX6_spread_0 (by decide) ?_
  refine lv_istore (lv' := [(4, .int (1 : Int32)), (0, .ref q_o), (1, .ref q_a1), (2, .int x2), (3, .int x3)]) hx hb dX6_spread_1 hl (by decide) rfl (fun ls hl => ?_)
  obtain ⟨n, h⟩ := h
  exact L3 n _ _ _ v_o_years (1 : Int32) hP hD hS (lv_sub hl [1, 2, 3, 4, 0] rfl) h
