set_option maxHeartbeats 4000000 in
set_option maxRecDepth 100000 in
theorem c_X6_thrown (l : Launch) (D : va_G) (Cs : Nat → ClassId) (q_o : Nat) (q_o_text : Nat) (q_o_now : Nat) (q_o_trial : Nat) (q_o_diary : Nat) (q_o_kept : Nat) (q_o_isKept : Nat) (q_o_years : Nat) (v_o_refusal : Int32) (v_o_size : Int32) (v_o_acts : Int32) (v_o_least : Int32) (v_o_origins : Int32) (v_o_ofAll : Int32) (v_o_ofSome : Int32) (v_o_sets : Int32) (v_o_spot : Int32) (v_o_out : Int32) {post : Int32 → Prop} (h : P_X6_thrown v_o_refusal post) : Met l yX6_thrown wsX6_thrown ({ frames := 0, cells := 0, slots := 0, locals := 0 } : Room) (va_Pc [.ref q_o] (gR D Cs [(q_o, .inr (6, [.int v_o_refusal, .ref q_o_text, .int v_o_size, .ref q_o_now, .ref q_o_trial, .ref q_o_diary, .int v_o_acts, .ref q_o_kept, .ref q_o_isKept, .ref q_o_years, .int v_o_least, .int v_o_origins, .int v_o_ofAll, .int v_o_ofSome, .int v_o_sets, .int v_o_spot, .int v_o_out]))])) (vp_Si post) 0 0 (fun _ => False) := by
  refine Met.ofW (cc := cX6_thrown) (maxL := 1) (ret := (some .int)) (by decide) rfl ?_
  intro p e s m args below meth c s₁ B hml hv
  obtain ⟨ha, hP, hK, hN⟩ := hv
  have hx := B.exec
  have hb := B.bytes
  have hr := B.returns
  have hts := atoms_spec (ws := wsX6_thrown) B.pre
  have htb : ∀ w ∈ TB, w.before args s = true := fun w h9 => hts w (List.mem_cons_of_mem _ h9)
  have hown : s.vm.findClass RX6 = some m.cls := findClass_of_methodNamed B.named
  have hlocks := B.notSynchronized
  generalize hQ : MQ below _ args s _ _ _ = Q
  show W p l e ({ frames := 0, cells := 0, slots := 0, locals := 0 } : Room) s m args below meth c s.heap [] 0 0 Q (entryFrame m args 1)
  have hent : entryFrame m args 1 = F0 m 0 ((lg_sl ([.ref q_o]) ++ List.replicate (1 - (lg_sl ([.ref q_o])).length) Slot.unset).toArray) [] := by rw [ha]; exact lg_entry_eq m ([.ref q_o]) 1
  rw [hent]; clear hent
  have hl := lv_entry ([.ref q_o]) (n := 1) (Nat.le_of_ble_eq_true rfl)
  generalize (lg_sl ([.ref q_o]) ++ List.replicate (1 - (lg_sl ([.ref q_o])).length) Slot.unset).toArray = ls at hl ⊢
  have hl : lv_has ls 1 [(0, .ref q_o)] := hl
  unfold P_X6_thrown at h
  refine lv_aload_n hx hb dX6_thrown_0 rfl (lv_at hl 0 rfl) ?_
  refine va_get (D := D) (ci := 6) (v := .int v_o_refusal) (C := RX6) (T := TX6) (N := 17) hx hb htb inT_X6 hown hK hP 0 rfl rfl 0 (by decide) (htb _ tb_132) (fun _ h9 => h9) rfl dX6_thrown_1 ?_
  rw [← hQ]
  exact gRetR hx hb hr rfl h dX6_thrown_4 hlocks
set_option maxHeartbeats 4000000 in
set_option maxRecDepth 100000 in
theorem c_X6_refused (l : Launch) (D : va_G) (Cs : Nat → ClassId) (q_o : Nat) (q_o_text : Nat) (q_o_now : Nat) (q_o_trial : Nat) (q_o_diary : Nat) (q_o_kept : Nat) (q_o_isKept : Nat) (q_o_years : Nat) (sz : Nat) (v_o_refusal : Int32) (v_o_size : Int32) (v_o_acts : Int32) (v_o_least : Int32) (v_o_origins : Int32) (v_o_ofAll : Int32) (v_o_ofSome : Int32) (v_o_sets : Int32) (v_o_spot : Int32) (v_o_out : Int32) (x1 : Int32) {post : Int32 → Int32 → Prop} (h : P_X6_refused v_o_refusal x1 post) : Met l yX6_refused wsX6_refused ({ frames := 0, cells := 0, slots := 0, locals := 0 } : Room) (va_Pc [.ref q_o, .int x1] (gM D Cs [(q_o, .inr (6, [.int v_o_refusal, .ref q_o_text, .int v_o_size, .ref q_o_now, .ref q_o_trial, .ref q_o_diary, .int v_o_acts, .ref q_o_kept, .ref q_o_isKept, .ref q_o_years, .int v_o_least, .int v_o_origins, .int v_o_ofAll, .int v_o_ofSome, .int v_o_sets, .int v_o_spot, .int v_o_out]))] sz)) (va_Qi (fun (r : Int32) (u : Int32) => post r u) (gB D (va_A [(q_o, .inr (6, [.int v_o_refusal, .ref q_o_text, .int v_o_size, .ref q_o_now, .ref q_o_trial, .ref q_o_diary, .int v_o_acts, .ref q_o_kept, .ref q_o_isKept, .ref q_o_years, .int v_o_least, .int v_o_origins, .int v_o_ofAll, .int v_o_ofSome, .int v_o_sets, .int v_o_spot, .int v_o_out]))] sz) (fun u : Int32 => [(q_o, .inr (6, [.int u, .ref q_o_text, .int v_o_size, .ref q_o_now, .ref q_o_trial, .ref q_o_diary, .int v_o_acts, .ref q_o_kept, .ref q_o_isKept, .ref q_o_years, .int v_o_least, .int v_o_origins, .int v_o_ofAll, .int v_o_ofSome, .int v_o_sets, .int v_o_spot, .int v_o_out]))])) (va_A [(q_o, .inr (6, [.int v_o_refusal, .ref q_o_text, .int v_o_size, .ref q_o_now, .ref q_o_trial, .ref q_o_diary, .int v_o_acts, .ref q_o_kept, .ref q_o_isKept, .ref q_o_years, .int v_o_least, .int v_o_origins, .int v_o_ofAll, .int v_o_ofSome, .int v_o_sets, .int v_o_spot, .int v_o_out]))] sz)) 0 0 (va_A [(q_o, .inr (6, [.int v_o_refusal, .ref q_o_text, .int v_o_size, .ref q_o_now, .ref q_o_trial, .ref q_o_diary, .int v_o_acts, .ref q_o_kept, .ref q_o_isKept, .ref q_o_years, .int v_o_least, .int v_o_origins, .int v_o_ofAll, .int v_o_ofSome, .int v_o_sets, .int v_o_spot, .int v_o_out]))] sz) := by
  refine Met.ofW (cc := cX6_refused) (maxL := 2) (ret := (some .boolean)) (by decide) rfl ?_
  intro p e s m args below meth c s₁ B hml hv
  obtain ⟨ha, hsz, hP, hK, hD0, hN⟩ := hv
  have hx := B.exec
  have hb := B.bytes
  have hr := B.returns
  have hts := atoms_spec (ws := wsX6_refused) B.pre
  have htb : ∀ w ∈ TB, w.before args s = true := fun w h9 => hts w (List.mem_cons_of_mem _ h9)
  have hown : s.vm.findClass RX6 = some m.cls := findClass_of_methodNamed B.named
  have hlocks := B.notSynchronized
  subst hsz
  have hD := hD0.self (sz := s.heap.size)
  generalize hAe : va_A [(q_o, .inr (6, [.int v_o_refusal, .ref q_o_text, .int v_o_size, .ref q_o_now, .ref q_o_trial, .ref q_o_diary, .int v_o_acts, .ref q_o_kept, .ref q_o_isKept, .ref q_o_years, .int v_o_least, .int v_o_origins, .int v_o_ofAll, .int v_o_ofSome, .int v_o_sets, .int v_o_spot, .int v_o_out]))] s.heap.size = A at hD ⊢
  have hA : ∀ q : Nat, s.heap.size ≤ q → A q := fun q h9 => by rw [← hAe]; exact Or.inr h9
  obtain ⟨H, hH⟩ : ∃ z : Heap, z = s.heap := ⟨_, rfl⟩
  have hS : va_S A s.heap H [] := by rw [hH]; exact va_S.rf
  have hP : va_P D vwCl [(q_o, .inr (6, [.int v_o_refusal, .ref q_o_text, .int v_o_size, .ref q_o_now, .ref q_o_trial, .ref q_o_diary, .int v_o_acts, .ref q_o_kept, .ref q_o_isKept, .ref q_o_years, .int v_o_least, .int v_o_origins, .int v_o_ofAll, .int v_o_ofSome, .int v_o_sets, .int v_o_spot, .int v_o_out]))] H := by rw [hH]; exact hP
  generalize hQ : MQ below _ args s _ _ _ = Q
  show W p l e ({ frames := 0, cells := 0, slots := 0, locals := 0 } : Room) s m args below meth c s.heap [] 0 0 Q (entryFrame m args 2)
  have hent : entryFrame m args 2 = F0 m 0 ((lg_sl ([.ref q_o, .int x1]) ++ List.replicate (2 - (lg_sl ([.ref q_o, .int x1])).length) Slot.unset).toArray) [] := by rw [ha]; exact lg_entry_eq m ([.ref q_o, .int x1]) 2
  rw [hent]; clear hent
  rw [← hH]
  have hl := lv_entry ([.ref q_o, .int x1]) (n := 2) (Nat.le_of_ble_eq_true rfl)
  generalize (lg_sl ([.ref q_o, .int x1]) ++ List.replicate (2 - (lg_sl ([.ref q_o, .int x1])).length) Slot.unset).toArray = ls at hl ⊢
  have hl : lv_has ls 2 [(0, .ref q_o), (1, .int x1)] := hl
  have B14 : ∀ (H : Heap) (locs : List Loc) (ls : Array Slot) (w_o_refusal : Int32) (s0 : Int32), va_P D vwCl [(q_o, .inr (6, [.int w_o_refusal, .ref q_o_text, .int v_o_size, .ref q_o_now, .ref q_o_trial, .ref q_o_diary, .int v_o_acts, .ref q_o_kept, .ref q_o_isKept, .ref q_o_years, .int v_o_least, .int v_o_origins, .int v_o_ofAll, .int v_o_ofSome, .int v_o_sets, .int v_o_spot, .int v_o_out]))] H → va_D A [(q_o, .inr (6, [.int w_o_refusal, .ref q_o_text, .int v_o_size, .ref q_o_now, .ref q_o_trial, .ref q_o_diary, .int v_o_acts, .ref q_o_kept, .ref q_o_isKept, .ref q_o_years, .int v_o_least, .int v_o_origins, .int v_o_ofAll, .int v_o_ofSome, .int v_o_sets, .int v_o_spot, .int v_o_out]))] → va_S A s.heap H locs → lv_has ls 2 [(0, .ref q_o), (1, .int x1)] → P_X6_refused_b14 v_o_refusal x1 post w_o_refusal s0 → W p l e ({ frames := 0, cells := 0, slots := 0, locals := 0 } : Room) s m args below meth c H locs 0 0 Q (F0 m 14 ls [.int s0]) := by
    intro H locs ls w_o_refusal s0 hP hD hS hl h
    unfold P_X6_refused_b14 at h
    obtain ⟨hnb, h⟩ := h
    rw [← hQ]
    exact gRetI (u := w_o_refusal) hx hb hr hnb h hP hD hS dX6_refused_14 hlocks
  unfold P_X6_refused at h
  refine lv_aload_n hx hb dX6_refused_0 rfl (lv_at hl 0 rfl) ?_
  refine lv_iload_n hx hb dX6_refused_1 rfl (lv_at hl 1 rfl) ?_
  refine va_put (D := D) (ci := 6) (v := .int x1) (ty := .int) (C := RX6) (T := TX6) (N := 17) hx hb htb inT_X6 tyX6 tyX6_ok nmX6 hown hK hP hD hS 0 rfl rfl 0 (by decide) (htb _ tb_132) (fun _ h9 => h9) rfl (tyX6_ok 0 (by decide)) rfl rfl (Nat.le_of_ble_eq_true rfl) dX6_refused_2 (fun H locs hP hD hS => ?_)
  have hP : va_P D vwCl [(q_o, .inr (6, [.int x1, .ref q_o_text, .int v_o_size, .ref q_o_now, .ref q_o_trial, .ref q_o_diary, .int v_o_acts, .ref q_o_kept, .ref q_o_isKept, .ref q_o_years, .int v_o_least, .int v_o_origins, .int v_o_ofAll, .int v_o_ofSome, .int v_o_sets, .int v_o_spot, .int v_o_out]))] H := hP
  have hD : va_D A [(q_o, .inr (6, [.int x1, .ref q_o_text, .int v_o_size, .ref q_o_now, .ref q_o_trial, .ref q_o_diary, .int v_o_acts, .ref q_o_kept, .ref q_o_isKept, .ref q_o_years, .int v_o_least, .int v_o_origins, .int v_o_ofAll, .int v_o_ofSome, .int v_o_sets, .int v_o_spot, .int v_o_out]))] := hD
  refine lv_iload_n hx hb dX6_refused_5 rfl (lv_at hl 1 rfl) ?_
  refine lv_if_le (tgt := 13) hx hb dX6_refused_6 (by decide) (fun c_1 => ?_) (fun c_1 => ?_)
  · have h := h.1 c_1
    refine lv_iconst (v := (0 : Int32)) hx hb dX6_refused_13 (by decide) ?_
    exact B14 _ _ _ x1 (0 : Int32) hP hD hS (lv_sub hl [0, 1] rfl) h
  · have h := h.2 c_1
    refine lv_iconst (v := (1 : Int32)) hx hb dX6_refused_9 (by decide) ?_
    refine lv_goto (tgt := 14) hx hb dX6_refused_10 (by decide) ?_
    exact B14 _ _ _ x1 (1 : Int32) hP hD hS (lv_sub hl [0, 1] rfl) h
set_option maxHeartbeats 4000000 in
set_option maxRecDepth 100000 in
theorem c_X6_in (l : Launch) (D : va_G) (Cs : Nat → ClassId) (x0 : Int64) (x2 : Int64) (x4 : Int64) {post : Int32 → Prop} (h : P_X6_in x0 x2 x4 post) : Met l yX6_in wsX6_in ({ frames := 0, cells := 0, slots := 0, locals := 0 } : Room) (va_Pc [.long x0, .long x2, .long x4] (gR D Cs [])) (vp_Si post) 0 0 (fun _ => False) := by
  refine Met.ofW (cc := cX6_in) (maxL := 6) (ret := (some .boolean)) (by decide) rfl ?_
  intro p e s m args below meth c s₁ B hml hv
  obtain ⟨ha, hP, hK, hN⟩ := hv
  have hx := B.exec
  have hb := B.bytes
  have hr := B.returns
  have hts := atoms_spec (ws := wsX6_in) B.pre
  have htb : ∀ w ∈ TB, w.before args s = true := fun w h9 => hts w (List.mem_cons_of_mem _ h9)
  have hown : s.vm.findClass RX6 = some m.cls := findClass_of_methodNamed B.named
  have hlocks := B.notSynchronized
  generalize hQ : MQ below _ args s _ _ _ = Q
  show W p l e ({ frames := 0, cells := 0, slots := 0, locals := 0 } : Room) s m args below meth c s.heap [] 0 0 Q (entryFrame m args 6)
  have hent : entryFrame m args 6 = F0 m 0 ((lg_sl ([.long x0, .long x2, .long x4]) ++ List.replicate (6 - (lg_sl ([.long x0, .long x2, .long x4])).length) Slot.unset).toArray) [] := by rw [ha]; exact lg_entry_eq m ([.long x0, .long x2, .long x4]) 6
  rw [hent]; clear hent
  have hl := lv_entry ([.long x0, .long x2, .long x4]) (n := 6) (Nat.le_of_ble_eq_true rfl)
  generalize (lg_sl ([.long x0, .long x2, .long x4]) ++ List.replicate (6 - (lg_sl ([.long x0, .long x2, .long x4])).length) Slot.unset).toArray = ls at hl ⊢
  have hl : lv_has ls 6 [(0, .long x0), (2, .long x2), (4, .long x4)] := hl
  have B18 : ∀ (ls : Array Slot) (s0 : Int32), lv_has ls 6 [(0, .long x0), (2, .long x2), (4, .long x4)] → P_X6_in_b18 x0 x2 x4 post s0 → W p l e ({ frames := 0, cells := 0, slots := 0, locals := 0 } : Room) s m args below meth c s.heap [] 0 0 Q (F0 m 18 ls [.int s0]) := by
    intro ls s0 hl h
    unfold P_X6_in_b18 at h
    obtain ⟨hnb, h⟩ := h
    rw [← hQ]
    exact gRetR hx hb hr hnb h dX6_in_18 hlocks
  have B17 : ∀ (ls : Array Slot), lv_has ls 6 [(0, .long x0), (2, .long x2), (4, .long x4)] → P_X6_in_b17 x0 x2 x4 post → W p l e ({ frames := 0, cells := 0, slots := 0, locals := 0 } : Room) s m args below meth c s.heap [] 0 0 Q (F0 m 17 ls []) := by
    intro ls hl h
    unfold P_X6_in_b17 at h
    refine lv_iconst (v := (0 : Int32)) hx hb dX6_in_17 (by decide) ?_
    exact B18 _ (0 : Int32) (lv_sub hl [0, 1, 2] rfl) h
  unfold P_X6_in at h
  refine lv_lload_n hx hb dX6_in_0 rfl (lv_at hl 0 rfl) ?_
  refine lv_lload_n hx hb dX6_in_1 rfl (lv_at hl 1 rfl) ?_
  refine W.lcmp hx hb dX6_in_2 ?_
  refine lv_if_lt (tgt := 17) hx hb dX6_in_3 (by decide) (fun c_1 => ?_) (fun c_1 => ?_)
  · have h := h.1 c_1
    exact B17 _ (lv_sub hl [0, 1, 2] rfl) h
  · have h := h.2 c_1
    refine lv_lload_n hx hb dX6_in_6 rfl (lv_at hl 0 rfl) ?_
    refine lv_lload hx hb dX6_in_7 (lv_at hl 2 rfl) ?_
    refine W.lcmp hx hb dX6_in_9 ?_
    refine lv_if_gt (tgt := 17) hx hb dX6_in_10 (by decide) (fun c_2 => ?_) (fun c_2 => ?_)
    · have h := h.1 c_2
      exact B17 _ (lv_sub hl [0, 1, 2] rfl) h
    · have h := h.2 c_2
      refine lv_iconst (v := (1 : Int32)) hx hb dX6_in_13 (by decide) ?_
      refine lv_goto (tgt := 18) hx hb dX6_in_14 (by decide) ?_
      exact B18 _ (1 : Int32) (lv_sub hl [0, 1, 2] rfl) h
set_option maxHeartbeats 4000000 in
set_option maxRecDepth 100000 in
theorem c_X6_copyState (l : Launch) (D : va_G) (Cs : Nat → ClassId) (q_a0 : Nat) (q_a2 : Nat) (n_a0 : Nat) (n_a2 : Nat) (sz : Nat) (v_a0 : (Nat → Int32)) (v_a2 : (Nat → Int32)) (x1 : Int32) (x3 : Int32) {post : (Nat → Int32) → Prop} (h : P_X6_copyState n_a0 n_a2 v_a0 v_a2 x1 x3 post) : Met l yX6_copyState wsX6_copyState ({ frames := 0, cells := 0, slots := 0, locals := 0 } : Room) (va_Pc [.ref q_a0, .int x1, .ref q_a2, .int x3] (gM D Cs [(q_a0, gI Cs n_a0 v_a0), (q_a2, gI Cs n_a2 v_a2)] sz)) (va_Qv (fun (u : (Nat → Int32)) => post u) (gB D (va_A [(q_a0, gI Cs n_a0 v_a0), (q_a2, gI Cs n_a2 v_a2)] sz) (fun u : (Nat → Int32) => [(q_a0, gI Cs n_a0 v_a0), (q_a2, gI Cs n_a2 u)])) (va_A [(q_a0, gI Cs n_a0 v_a0), (q_a2, gI Cs n_a2 v_a2)] sz)) 0 0 (va_A [(q_a0, gI Cs n_a0 v_a0), (q_a2, gI Cs n_a2 v_a2)] sz) := by
  refine Met.ofW (cc := cX6_copyState) (maxL := 5) (ret := none) (by decide) rfl ?_
  intro p e s m args below meth c s₁ B hml hv
  obtain ⟨ha, hsz, hP, hK, hD0, hN⟩ := hv
  have hx := B.exec
  have hb := B.bytes
  have hr := B.returns
  have hts := atoms_spec (ws := wsX6_copyState) B.pre
  have htb : ∀ w ∈ TB, w.before args s = true := fun w h9 => hts w (List.mem_cons_of_mem _ h9)
  have hown : s.vm.findClass RX6 = some m.cls := findClass_of_methodNamed B.named
  have hlocks := B.notSynchronized
  subst hsz
  have hD := hD0.self (sz := s.heap.size)
  generalize hAe : va_A [(q_a0, gI Cs n_a0 v_a0), (q_a2, gI Cs n_a2 v_a2)] s.heap.size = A at hD ⊢
  have hA : ∀ q : Nat, s.heap.size ≤ q → A q := fun q h9 => by rw [← hAe]; exact Or.inr h9
  obtain ⟨H, hH⟩ : ∃ z : Heap, z = s.heap := ⟨_, rfl⟩
  have hS : va_S A s.heap H [] := by rw [hH]; exact va_S.rf
  have hP : va_P D vwCl [(q_a0, gI Cs n_a0 v_a0), (q_a2, gI Cs n_a2 v_a2)] H := by rw [hH]; exact hP
  generalize hQ : MQ below _ args s _ _ _ = Q
  show W p l e ({ frames := 0, cells := 0, slots := 0, locals := 0 } : Room) s m args below meth c s.heap [] 0 0 Q (entryFrame m args 5)
  have hent : entryFrame m args 5 = F0 m 0 ((lg_sl ([.ref q_a0, .int x1, .ref q_a2, .int x3]) ++ List.replicate (5 - (lg_sl ([.ref q_a0, .int x1, .ref q_a2, .int x3])).length) Slot.unset).toArray) [] := by rw [ha]; exact lg_entry_eq m ([.ref q_a0, .int x1, .ref q_a2, .int x3]) 5
  rw [hent]; clear hent
  rw [← hH]
  have hl := lv_entry ([.ref q_a0, .int x1, .ref q_a2, .int x3]) (n := 5) (Nat.le_of_ble_eq_true rfl)
  generalize (lg_sl ([.ref q_a0, .int x1, .ref q_a2, .int x3]) ++ List.replicate (5 - (lg_sl ([.ref q_a0, .int x1, .ref q_a2, .int x3])).length) Slot.unset).toArray = ls at hl ⊢
  have hl : lv_has ls 5 [(0, .ref q_a0), (1, .int x1), (2, .ref q_a2), (3, .int x3)] := hl
  have L3 : ∀ (n : Nat) (H : Heap) (locs : List Loc) (ls : Array Slot) (w_a2 : (Nat → Int32)) (x4 : Int32), va_P D vwCl [(q_a0, gI Cs n_a0 v_a0), (q_a2, gI Cs n_a2 w_a2)] H → va_D A [(q_a0, gI Cs n_a0 v_a0), (q_a2, gI Cs n_a2 w_a2)] → va_S A s.heap H locs → lv_has ls 5 [(0, .ref q_a0), (1, .int x1), (2, .ref q_a2), (3, .int x3), (4, .int x4)] → P_X6_copyState_l3 n_a0 n_a2 v_a0 v_a2 x1 x3 post n w_a2 x4 → W p l e ({ frames := 0, cells := 0, slots := 0, locals := 0 } : Room) s m args below meth c H locs 0 0 Q (F0 m 3 ls []) := by
    intro n3
    induction n3 with
    | zero => intro H locs ls w_a2 x4 hP hD hS hl h; exact False.elim h
    | succ n3 ih3 =>
      intro H locs ls w_a2 x4 hP hD hS hl h
      replace h : P_X6_copyState_b3 n_a0 n_a2 v_a0 v_a2 x1 x3 post (P_X6_copyState_l3 n_a0 n_a2 v_a0 v_a2 x1 x3 post n3) w_a2 x4 := h
      unfold P_X6_copyState_b3 at h
      refine lv_iload hx hb dX6_copyState_3 (lv_at hl 4 rfl) ?_
      refine lv_sipush (v := (221 : Int32)) hx hb dX6_copyState_5 (by decide) ?_
      refine lv_icmp_ge (tgt := 29) hx hb dX6_copyState_8 (by decide) (fun c_1 => ?_) (fun c_1 => ?_)
      · have h := h.1 c_1
        rw [← hQ]
        exact gRetV (u := w_a2) hx hb hr h hP hD hS dX6_copyState_29 hlocks
      · have h := h.2 c_1
        refine lv_aload_n hx hb dX6_copyState_11 rfl (lv_at hl 2 rfl) ?_
        refine lv_iload_n hx hb dX6_copyState_12 rfl (lv_at hl 3 rfl) ?_
        refine lv_iload hx hb dX6_copyState_13 (lv_at hl 4 rfl) ?_
        refine lv_iadd hx hb dX6_copyState_15 ?_
        refine lv_aload_n hx hb dX6_copyState_16 rfl (lv_at hl 0 rfl) ?_
        refine lv_iload_n hx hb dX6_copyState_17 rfl (lv_at hl 1 rfl) ?_
        refine lv_iload hx hb dX6_copyState_18 (lv_at hl 4 rfl) ?_
        refine lv_iadd hx hb dX6_copyState_20 ?_
        obtain ⟨hi_2, h⟩ := h
        refine va_iald hx hb hK hP 0 0 rfl rfl hi_2 dX6_copyState_21 ?_
        obtain ⟨hi_3, h⟩ := h
        refine va_iast hx hb hK hP hD hS 1 0 rfl rfl hi_3 dX6_copyState_22 (fun H locs hP hD hS => ?_)
        have hP : va_P D vwCl [(q_a0, gI Cs n_a0 v_a0), (q_a2, gI Cs n_a2 (upd w_a2 (x3 + x4).toNatClampNeg (v_a0 (x1 + x4).toNatClampNeg)))] H := hP
        have hD : va_D A [(q_a0, gI Cs n_a0 v_a0), (q_a2, gI Cs n_a2 (upd w_a2 (x3 + x4).toNatClampNeg (v_a0 (x1 + x4).toNatClampNeg)))] := hD
        obtain ⟨x4_4, ex4_4⟩ : ∃ y : Int32, y = x4 + (1 : Int32) := ⟨_, rfl⟩
        have h := h _ ex4_4
        refine lv_iinc (v := x4_4) (lv' := [(4, .int x4_4), (0, .ref q_a0), (1, .int x1), (2, .ref q_a2), (3, .int x3)]) hx hb dX6_copyState_23 hl (k := 4) rfl (by rw [ex4_4]; rfl) (by decide) rfl (fun ls hl => ?_)
        refine lv_goto (tgt := 3) hx hb dX6_copyState_26 (by decide) ?_
        exact ih3 _ _ _ (upd w_a2 (x3 + x4).toNatClampNeg (v_a0 (x1 + x4).toNatClampNeg)) x4_4 hP hD hS (lv_sub hl [1, 2, 3, 4, 0] rfl) h
  unfold P_X6_copyState at h
  refine lv_iconst (v := (0 : Int32)) hx hb dX6_copyState_0 (by decide) ?_
  refine lv_istore (lv' := [(4, .int (0 : Int32)), (0, .ref q_a0), (1, .int x1), (2, .ref q_a2), (3, .int x3)]) hx hb dX6_copyState_1 hl (by decide) rfl (fun ls hl => ?_)
  obtain ⟨n, h⟩ := h
  exact L3 n _ _ _ v_a2 (0 : Int32) hP hD hS (lv_sub hl [1, 2, 3, 4, 0] rfl) h
set_option maxHeartbeats 4000000 in
set_option maxRecDepth 100000 in
theorem c_X6_isTown (l : Launch) (D : va_G) (Cs : Nat → ClassId) (q_a0 : Nat) (n_a0 : Nat) (v_a0 : (Nat → Int32)) (x1 : Int32) {post : Int32 → Prop} (h : P_X6_isTown n_a0 v_a0 x1 post) : Met l yX6_isTown wsX6_isTown ({ frames := 1, cells := 0, slots := 0, locals := 25 } : Room) (va_Pc [.ref q_a0, .int x1] (gR D Cs [(q_a0, gI Cs n_a0 v_a0)])) (vp_Si post) 0 0 (fun _ => False) := by
  refine Met.ofW (cc := cX6_isTown) (maxL := 2) (ret := (some .boolean)) (by decide) rfl ?_
  intro p e s m args below meth c s₁ B hml hv
  obtain ⟨ha, hP, hK, hN⟩ := hv
  have hx := B.exec
  have hb := B.bytes
  have hr := B.returns
  have hts := atoms_spec (ws := wsX6_isTown) B.pre
  have htb : ∀ w ∈ TB, w.before args s = true := fun w h9 => hts w (List.mem_cons_of_mem _ h9)
  have hown : s.vm.findClass RX6 = some m.cls := findClass_of_methodNamed B.named
  have hlocks := B.notSynchronized
  generalize hQ : MQ below _ args s _ _ _ = Q
  show W p l e ({ frames := 1, cells := 0, slots := 0, locals := 25 } : Room) s m args below meth c s.heap [] 0 0 Q (entryFrame m args 2)
  have hent : entryFrame m args 2 = F0 m 0 ((lg_sl ([.ref q_a0, .int x1]) ++ List.replicate (2 - (lg_sl ([.ref q_a0, .int x1])).length) Slot.unset).toArray) [] := by rw [ha]; exact lg_entry_eq m ([.ref q_a0, .int x1]) 2
  rw [hent]; clear hent
  have hl := lv_entry ([.ref q_a0, .int x1]) (n := 2) (Nat.le_of_ble_eq_true rfl)
  generalize (lg_sl ([.ref q_a0, .int x1]) ++ List.replicate (2 - (lg_sl ([.ref q_a0, .int x1])).length) Slot.unset).toArray = ls at hl ⊢
  have hl : lv_has ls 2 [(0, .ref q_a0), (1, .int x1)] := hl
  unfold P_X6_isTown at h
  refine lv_iload_n hx hb dX6_isTown_0 rfl (lv_at hl 1 rfl) ?_
  refine lv_i2l (v := x1.toInt64) hx hb dX6_isTown_1 rfl ?_
  refine lv_lconst (v := (0 : Int64)) hx hb dX6_isTown_2 rfl ?_
  refine lv_aload_n hx hb dX6_isTown_3 rfl (lv_at hl 0 rfl) ?_
  refine lv_iconst (v := (0 : Int32)) hx hb dX6_isTown_4 (by decide) ?_
  obtain ⟨hi_1, h⟩ := h
  refine va_iald hx hb hK hP 0 0 rfl rfl hi_1 dX6_isTown_5 ?_
  refine lv_iconst (v := (1 : Int32)) hx hb dX6_isTown_6 (by decide) ?_
  refine lv_isub hx hb dX6_isTown_7 ?_
  refine lv_i2l (v := ((v_a0 (0 : Int32).toNatClampNeg) - (1 : Int32)).toInt64) hx hb dX6_isTown_8 rfl ?_
  refine gSR (As := [.long x1.toInt64, .long (0 : Int64), .long (((v_a0 (0 : Int32).toNatClampNeg) - (1 : Int32)).toInt64)]) (rest := []) ⟨hx, hb, hml, hown, htb⟩ hK hP hN [] rfl (c_X6_in l D Cs x1.toInt64 (0 : Int64) (((v_a0 (0 : Int32).toNatClampNeg) - (1 : Int32)).toInt64) h) (va_cwS 3 htb (TB_s tb_125 tb_126 tb_5 (TB_self tb_127)) rfl rfl rfl z_X6_in.2 ⟨Nat.le_of_ble_eq_true rfl, Nat.le_of_ble_eq_true rfl⟩) rfl hl.1 rfl (Nat.le_of_ble_eq_true rfl) ⟨Nat.le_of_ble_eq_true rfl, Nat.le_of_ble_eq_true rfl⟩ dX6_isTown_9 (fun r_2 h => ?_)
  obtain ⟨hnb, h⟩ := h
  rw [← hQ]
  exact gRetR hx hb hr hnb h dX6_isTown_12 hlocks
set_option maxHeartbeats 4000000 in
set_option maxRecDepth 100000 in
theorem c_X6_isTrait (l : Launch) (D : va_G) (Cs : Nat → ClassId) (x0 : Int32) {post : Int32 → Prop} (h : P_X6_isTrait x0 post) : Met l yX6_isTrait wsX6_isTrait ({ frames := 1, cells := 0, slots := 0, locals := 25 } : Room) (va_Pc [.int x0] (gR D Cs [])) (vp_Si post) 0 0 (fun _ => False) := by
  refine Met.ofW (cc := cX6_isTrait) (maxL := 1) (ret := (some .boolean)) (by decide) rfl ?_
  intro p e s m args below meth c s₁ B hml hv
  obtain ⟨ha, hP, hK, hN⟩ := hv
  have hx := B.exec
  have hb := B.bytes
  have hr := B.returns
  have hts := atoms_spec (ws := wsX6_isTrait) B.pre
  have htb : ∀ w ∈ TB, w.before args s = true := fun w h9 => hts w (List.mem_cons_of_mem _ h9)
  have hown : s.vm.findClass RX6 = some m.cls := findClass_of_methodNamed B.named
  have hlocks := B.notSynchronized
  generalize hQ : MQ below _ args s _ _ _ = Q
  show W p l e ({ frames := 1, cells := 0, slots := 0, locals := 25 } : Room) s m args below meth c s.heap [] 0 0 Q (entryFrame m args 1)
  have hent : entryFrame m args 1 = F0 m 0 ((lg_sl ([.int x0]) ++ List.replicate (1 - (lg_sl ([.int x0])).length) Slot.unset).toArray) [] := by rw [ha]; exact lg_entry_eq m ([.int x0]) 1
  rw [hent]; clear hent
  have hl := lv_entry ([.int x0]) (n := 1) (Nat.le_of_ble_eq_true rfl)
  generalize (lg_sl ([.int x0]) ++ List.replicate (1 - (lg_sl ([.int x0])).length) Slot.unset).toArray = ls at hl ⊢
  have hl : lv_has ls 1 [(0, .int x0)] := hl
  unfold P_X6_isTrait at h
  refine lv_iload_n hx hb dX6_isTrait_0 rfl (lv_at hl 0 rfl) ?_
  refine lv_i2l (v := x0.toInt64) hx hb dX6_isTrait_1 rfl ?_
  refine lv_lconst (v := (0 : Int64)) hx hb dX6_isTrait_2 rfl ?_
  refine lv_ldc2 (v := (5 : Int64)) hx hb hown (htb _ tb_326) dX6_isTrait_3 ?_
  refine gSR (As := [.long x0.toInt64, .long (0 : Int64), .long (5 : Int64)]) (rest := []) ⟨hx, hb, hml, hown, htb⟩ hK hP hN [] rfl (c_X6_in l D Cs x0.toInt64 (0 : Int64) (5 : Int64) h) (va_cwS 3 htb (TB_s tb_125 tb_126 tb_5 (TB_self tb_127)) rfl rfl rfl z_X6_in.2 ⟨Nat.le_of_ble_eq_true rfl, Nat.le_of_ble_eq_true rfl⟩) rfl hl.1 rfl (Nat.le_of_ble_eq_true rfl) ⟨Nat.le_of_ble_eq_true rfl, Nat.le_of_ble_eq_true rfl⟩ dX6_isTrait_6 (fun r_1 h => ?_)
  obtain ⟨hnb, h⟩ := h
  rw [← hQ]
  exact gRetR hx hb hr hnb h dX6_isTrait_9 hlocks
set_option maxHeartbeats 4000000 in
set_option maxRecDepth 100000 in
theorem c_X6_at (l : Launch) (D : va_G) (Cs : Nat → ClassId) (x0 : Int32) (x1 : Int32) {post : Int32 → Prop} (h : P_X6_at x0 x1 post) : Met l yX6_at wsX6_at ({ frames := 0, cells := 0, slots := 0, locals := 0 } : Room) (va_Pc [.int x0, .int x1] (gR D Cs [])) (vp_Si post) 0 0 (fun _ => False) := by
  refine Met.ofW (cc := cX6_at) (maxL := 2) (ret := (some .int)) (by decide) rfl ?_
  intro p e s m args below meth c s₁ B hml hv
  obtain ⟨ha, hP, hK, hN⟩ := hv
  have hx := B.exec
  have hb := B.bytes
  have hr := B.returns
  have hts := atoms_spec (ws := wsX6_at) B.pre
  have htb : ∀ w ∈ TB, w.before args s = true := fun w h9 => hts w (List.mem_cons_of_mem _ h9)
  have hown : s.vm.findClass RX6 = some m.cls := findClass_of_methodNamed B.named
  have hlocks := B.notSynchronized
  generalize hQ : MQ below _ args s _ _ _ = Q
  show W p l e ({ frames := 0, cells := 0, slots := 0, locals := 0 } : Room) s m args below meth c s.heap [] 0 0 Q (entryFrame m args 2)
  have hent : entryFrame m args 2 = F0 m 0 ((lg_sl ([.int x0, .int x1]) ++ List.replicate (2 - (lg_sl ([.int x0, .int x1])).length) Slot.unset).toArray) [] := by rw [ha]; exact lg_entry_eq m ([.int x0, .int x1]) 2
  rw [hent]; clear hent
  have hl := lv_entry ([.int x0, .int x1]) (n := 2) (Nat.le_of_ble_eq_true rfl)
  generalize (lg_sl ([.int x0, .int x1]) ++ List.replicate (2 - (lg_sl ([.int x0, .int x1])).length) Slot.unset).toArray = ls at hl ⊢
  have hl : lv_has ls 2 [(0, .int x0), (1, .int x1)] := hl
  unfold P_X6_at at h
  refine lv_bipush (v := (6 : Int32)) hx hb dX6_at_0 (by decide) ?_
  refine lv_iload_n hx hb dX6_at_2 rfl (lv_at hl 0 rfl) ?_
  refine lv_imul hx hb dX6_at_3 ?_
  refine lv_iload_n hx hb dX6_at_4 rfl (lv_at hl 1 rfl) ?_
  refine lv_iadd hx hb dX6_at_5 ?_
  rw [← hQ]
  exact gRetR hx hb hr rfl h dX6_at_6 hlocks
set_option maxHeartbeats 4000000 in
set_option maxRecDepth 100000 in
theorem c_X6_length (l : Launch) (D : va_G) (Cs : Nat → ClassId) (q_a0 : Nat) (n_a0 : Nat) (v_a0 : (Nat → Int32)) (x1 : Int32) (x2 : Int32) {post : Int32 → Prop} (h : P_X6_length n_a0 v_a0 x1 x2 post) : Met l yX6_length wsX6_length ({ frames := 0, cells := 0, slots := 0, locals := 0 } : Room) (va_Pc [.ref q_a0, .int x1, .int x2] (gR D Cs [(q_a0, gI Cs n_a0 v_a0)])) (vp_Si post) 0 0 (fun _ => False) := by
  refine Met.ofW (cc := cX6_length) (maxL := 3) (ret := (some .int)) (by decide) rfl ?_
  intro p e s m args below meth c s₁ B hml hv
  obtain ⟨ha, hP, hK, hN⟩ := hv
  have hx := B.exec
  have hb := B.bytes
  have hr := B.returns
  have hts := atoms_spec (ws := wsX6_length) B.pre
  have htb : ∀ w ∈ TB, w.before args s = true := fun w h9 => hts w (List.mem_cons_of_mem _ h9)
  have hown : s.vm.findClass RX6 = some m.cls := findClass_of_methodNamed B.named
  have hlocks := B.notSynchronized
  generalize hQ : MQ below _ args s _ _ _ = Q
  show W p l e ({ frames := 0, cells := 0, slots := 0, locals := 0 } : Room) s m args below meth c s.heap [] 0 0 Q (entryFrame m args 3)
  have hent : entryFrame m args 3 = F0 m 0 ((lg_sl ([.ref q_a0, .int x1, .int x2]) ++ List.replicate (3 - (lg_sl ([.ref q_a0, .int x1, .int x2])).length) Slot.unset).toArray) [] := by rw [ha]; exact lg_entry_eq m ([.ref q_a0, .int x1, .int x2]) 3
  rw [hent]; clear hent
  have hl := lv_entry ([.ref q_a0, .int x1, .int x2]) (n := 3) (Nat.le_of_ble_eq_true rfl)
  generalize (lg_sl ([.ref q_a0, .int x1, .int x2]) ++ List.replicate (3 - (lg_sl ([.ref q_a0, .int x1, .int x2])).length) Slot.unset).toArray = ls at hl ⊢
  have hl : lv_has ls 3 [(0, .ref q_a0), (1, .int x1), (2, .int x2)] := hl
  unfold P_X6_length at h
  refine lv_aload_n hx hb dX6_length_0 rfl (lv_at hl 0 rfl) ?_
  refine lv_iconst (v := (1 : Int32)) hx hb dX6_length_1 (by decide) ?_
  refine lv_bipush (v := (10 : Int32)) hx hb dX6_length_2 (by decide) ?_
  refine lv_iload_n hx hb dX6_length_4 rfl (lv_at hl 1 rfl) ?_
  refine lv_imul hx hb dX6_length_5 ?_
  refine lv_iadd hx hb dX6_length_6 ?_
  refine lv_iload_n hx hb dX6_length_7 rfl (lv_at hl 2 rfl) ?_
  refine lv_iadd hx hb dX6_length_8 ?_
  obtain ⟨hi_1, h⟩ := h
  refine va_iald hx hb hK hP 0 0 rfl rfl hi_1 dX6_length_9 ?_
  rw [← hQ]
  exact gRetR hx hb hr rfl h dX6_length_10 hlocks
set_option maxHeartbeats 4000000 in
set_option maxRecDepth 100000 in
theorem c_X6_roads (l : Launch) (D : va_G) (Cs : Nat → ClassId) (q_a0 : Nat) (n_a0 : Nat) (v_a0 : (Nat → Int32)) {post : Int32 → Prop} (h : P_X6_roads n_a0 v_a0 post) : Met l yX6_roads wsX6_roads ({ frames := 0, cells := 0, slots := 0, locals := 0 } : Room) (va_Pc [.ref q_a0] (gR D Cs [(q_a0, gI Cs n_a0 v_a0)])) (vp_Si post) 0 0 (fun _ => False) := by
  refine Met.ofW (cc := cX6_roads) (maxL := 3) (ret := (some .int)) (by decide) rfl ?_
  intro p e s m args below meth c s₁ B hml hv
  obtain ⟨ha, hP, hK, hN⟩ := hv
  have hx := B.exec
  have hb := B.bytes
  have hr := B.returns
  have hts := atoms_spec (ws := wsX6_roads) B.pre
  have htb : ∀ w ∈ TB, w.before args s = true := fun w h9 => hts w (List.mem_cons_of_mem _ h9)
  have hown : s.vm.findClass RX6 = some m.cls := findClass_of_methodNamed B.named
  have hlocks := B.notSynchronized
  generalize hQ : MQ below _ args s _ _ _ = Q
  show W p l e ({ frames := 0, cells := 0, slots := 0, locals := 0 } : Room) s m args below meth c s.heap [] 0 0 Q (entryFrame m args 3)
  have hent : entryFrame m args 3 = F0 m 0 ((lg_sl ([.ref q_a0]) ++ List.replicate (3 - (lg_sl ([.ref q_a0])).length) Slot.unset).toArray) [] := by rw [ha]; exact lg_entry_eq m ([.ref q_a0]) 3
  rw [hent]; clear hent
  have hl := lv_entry ([.ref q_a0]) (n := 3) (Nat.le_of_ble_eq_true rfl)
  generalize (lg_sl ([.ref q_a0]) ++ List.replicate (3 - (lg_sl ([.ref q_a0])).length) Slot.unset).toArray = ls at hl ⊢
  have hl : lv_has ls 3 [(0, .ref q_a0)] := hl
  have L4 : ∀ (n : Nat) (ls : Array Slot) (x1 : Int32) (x2 : Int32), lv_has ls 3 [(0, .ref q_a0), (1, .int x1), (2, .int x2)] → P_X6_roads_l4 n_a0 v_a0 post n x1 x2 → W p l e ({ frames := 0, cells := 0, slots := 0, locals := 0 } : Room) s m args below meth c s.heap [] 0 0 Q (F0 m 4 ls []) := by
    intro n4
    induction n4 with
    | zero => intro ls x1 x2 hl h; exact False.elim h
    | succ n4 ih4 =>
      have B24 : ∀ (ls : Array Slot) (x2 : Int32) (s0 : Int32) (s1 : Int32), lv_has ls 3 [(0, .ref q_a0), (2, .int x2)] → P_X6_roads_b24 n_a0 v_a0 post (P_X6_roads_l4 n_a0 v_a0 post n4) x2 s0 s1 → W p l e ({ frames := 0, cells := 0, slots := 0, locals := 0 } : Room) s m args below meth c s.heap [] 0 0 Q (F0 m 24 ls [.int s1, .int s0]) := by
        intro ls x2 s0 s1 hl h
        unfold P_X6_roads_b24 at h
        refine lv_iadd hx hb dX6_roads_24 ?_
        refine lv_topi (fun x1_1 ex1_1 => ?_)
        have h := h _ ex1_1
        refine lv_istore_n (lv' := [(1, .int x1_1), (0, .ref q_a0), (2, .int x2)]) hx hb dX6_roads_25 rfl hl (by decide) rfl (fun ls hl => ?_)
        obtain ⟨x2_2, ex2_2⟩ : ∃ y : Int32, y = x2 + (1 : Int32) := ⟨_, rfl⟩
        have h := h _ ex2_2
        refine lv_iinc (v := x2_2) (lv' := [(2, .int x2_2), (1, .int x1_1), (0, .ref q_a0)]) hx hb dX6_roads_26 hl (k := 2) rfl (by rw [ex2_2]; rfl) (by decide) rfl (fun ls hl => ?_)
        refine lv_goto (tgt := 4) hx hb dX6_roads_29 (by decide) ?_
        exact ih4 _ x1_1 x2_2 (lv_sub hl [2, 1, 0] rfl) h
      intro ls x1 x2 hl h
      replace h : P_X6_roads_b4 n_a0 v_a0 post (P_X6_roads_l4 n_a0 v_a0 post n4) x1 x2 := h
      unfold P_X6_roads_b4 at h
      refine lv_iload_n hx hb dX6_roads_4 rfl (lv_at hl 2 rfl) ?_
      refine lv_bipush (v := (100 : Int32)) hx hb dX6_roads_5 (by decide) ?_
      refine lv_icmp_ge (tgt := 32) hx hb dX6_roads_7 (by decide) (fun c_3 => ?_) (fun c_3 => ?_)
      · have h := h.1 c_3
        refine lv_iload_n hx hb dX6_roads_32 rfl (lv_at hl 1 rfl) ?_
        refine lv_iconst (v := (2 : Int32)) hx hb dX6_roads_33 (by decide) ?_
        refine lv_idiv hx hb dX6_roads_34 (by decide) ?_
        rw [← hQ]
        exact gRetR hx hb hr rfl h dX6_roads_35 hlocks
      · have h := h.2 c_3
        refine lv_iload_n hx hb dX6_roads_10 rfl (lv_at hl 1 rfl) ?_
        refine lv_aload_n hx hb dX6_roads_11 rfl (lv_at hl 0 rfl) ?_
        refine lv_iconst (v := (1 : Int32)) hx hb dX6_roads_12 (by decide) ?_
        refine lv_iload_n hx hb dX6_roads_13 rfl (lv_at hl 2 rfl) ?_
        refine lv_iadd hx hb dX6_roads_14 ?_
        obtain ⟨hi_4, h⟩ := h
        refine va_iald hx hb hK hP 0 0 rfl rfl hi_4 dX6_roads_15 ?_
        refine lv_if_le (tgt := 23) hx hb dX6_roads_16 (by decide) (fun c_5 => ?_) (fun c_5 => ?_)
        · have h := h.1 c_5
          refine lv_iconst (v := (0 : Int32)) hx hb dX6_roads_23 (by decide) ?_
          exact B24 _ x2 x1 (0 : Int32) (lv_sub hl [0, 2] rfl) h
        · have h := h.2 c_5
          refine lv_iconst (v := (1 : Int32)) hx hb dX6_roads_19 (by decide) ?_
          refine lv_goto (tgt := 24) hx hb dX6_roads_20 (by decide) ?_
          exact B24 _ x2 x1 (1 : Int32) (lv_sub hl [0, 2] rfl) h
  unfold P_X6_roads at h
  refine lv_iconst (v := (0 : Int32)) hx hb dX6_roads_0 (by decide) ?_
  refine lv_istore_n (lv' := [(1, .int (0 : Int32)), (0, .ref q_a0)]) hx hb dX6_roads_1 rfl hl (by decide) rfl (fun ls hl => ?_)
  refine lv_iconst (v := (0 : Int32)) hx hb dX6_roads_2 (by decide) ?_
  refine lv_istore_n (lv' := [(2, .int (0 : Int32)), (1, .int (0 : Int32)), (0, .ref q_a0)]) hx hb dX6_roads_3 rfl hl (by decide) rfl (fun ls hl => ?_)
  obtain ⟨n, h⟩ := h
  exact L4 n _ (0 : Int32) (0 : Int32) (lv_sub hl [2, 1, 0] rfl) h
set_option maxHeartbeats 4000000 in
set_option maxRecDepth 100000 in
theorem c_X6_meet (l : Launch) (D : va_G) (Cs : Nat → ClassId) (q_a0 : Nat) (n_a0 : Nat) (v_a0 : (Nat → Int32)) (x1 : Int32) {post : Int32 → Prop} (h : P_X6_meet n_a0 v_a0 x1 post) : Met l yX6_meet wsX6_meet ({ frames := 1, cells := 0, slots := 0, locals := 22 } : Room) (va_Pc [.ref q_a0, .int x1] (gR D Cs [(q_a0, gI Cs n_a0 v_a0)])) (vp_Si post) 0 0 (fun _ => False) := by
  refine Met.ofW (cc := cX6_meet) (maxL := 4) (ret := (some .int)) (by decide) rfl ?_
  intro p e s m args below meth c s₁ B hml hv
  obtain ⟨ha, hP, hK, hN⟩ := hv
  have hx := B.exec
  have hb := B.bytes
  have hr := B.returns
  have hts := atoms_spec (ws := wsX6_meet) B.pre
  have htb : ∀ w ∈ TB, w.before args s = true := fun w h9 => hts w (List.mem_cons_of_mem _ h9)
  have hown : s.vm.findClass RX6 = some m.cls := findClass_of_methodNamed B.named
  have hlocks := B.notSynchronized
  generalize hQ : MQ below _ args s _ _ _ = Q
  show W p l e ({ frames := 1, cells := 0, slots := 0, locals := 22 } : Room) s m args below meth c s.heap [] 0 0 Q (entryFrame m args 4)
  have hent : entryFrame m args 4 = F0 m 0 ((lg_sl ([.ref q_a0, .int x1]) ++ List.replicate (4 - (lg_sl ([.ref q_a0, .int x1])).length) Slot.unset).toArray) [] := by rw [ha]; exact lg_entry_eq m ([.ref q_a0, .int x1]) 4
  rw [hent]; clear hent
  have hl := lv_entry ([.ref q_a0, .int x1]) (n := 4) (Nat.le_of_ble_eq_true rfl)
  generalize (lg_sl ([.ref q_a0, .int x1]) ++ List.replicate (4 - (lg_sl ([.ref q_a0, .int x1])).length) Slot.unset).toArray = ls at hl ⊢
  have hl : lv_has ls 4 [(0, .ref q_a0), (1, .int x1)] := hl
  have L4 : ∀ (n : Nat) (ls : Array Slot) (x2 : Int32) (x3 : Int32), lv_has ls 4 [(0, .ref q_a0), (1, .int x1), (2, .int x2), (3, .int x3)] → P_X6_meet_l4 n_a0 v_a0 x1 post n x2 x3 → W p l e ({ frames := 1, cells := 0, slots := 0, locals := 22 } : Room) s m args below meth c s.heap [] 0 0 Q (F0 m 4 ls []) := by
    intro n4
    induction n4 with
    | zero => intro ls x2 x3 hl h; exact False.elim h
    | succ n4 ih4 =>
      have B25 : ∀ (ls : Array Slot) (x3 : Int32) (s0 : Int32) (s1 : Int32), lv_has ls 4 [(0, .ref q_a0), (1, .int x1), (3, .int x3)] → P_X6_meet_b25 n_a0 v_a0 x1 post (P_X6_meet_l4 n_a0 v_a0 x1 post n4) x3 s0 s1 → W p l e ({ frames := 1, cells := 0, slots := 0, locals := 22 } : Room) s m args below meth c s.heap [] 0 0 Q (F0 m 25 ls [.int s1, .int s0]) := by
        intro ls x3 s0 s1 hl h
        unfold P_X6_meet_b25 at h
        refine lv_iadd hx hb dX6_meet_25 ?_
        refine lv_topi (fun x2_1 ex2_1 => ?_)
        have h := h _ ex2_1
        refine lv_istore_n (lv' := [(2, .int x2_1), (0, .ref q_a0), (1, .int x1), (3, .int x3)]) hx hb dX6_meet_26 rfl hl (by decide) rfl (fun ls hl => ?_)
        obtain ⟨x3_2, ex3_2⟩ : ∃ y : Int32, y = x3 + (1 : Int32) := ⟨_, rfl⟩
        have h := h _ ex3_2
        refine lv_iinc (v := x3_2) (lv' := [(3, .int x3_2), (2, .int x2_1), (0, .ref q_a0), (1, .int x1)]) hx hb dX6_meet_27 hl (k := 3) rfl (by rw [ex3_2]; rfl) (by decide) rfl (fun ls hl => ?_)
        refine lv_goto (tgt := 4) hx hb dX6_meet_30 (by decide) ?_
        exact ih4 _ x2_1 x3_2 (lv_sub hl [2, 3, 1, 0] rfl) h
      intro ls x2 x3 hl h
      replace h : P_X6_meet_b4 n_a0 v_a0 x1 post (P_X6_meet_l4 n_a0 v_a0 x1 post n4) x2 x3 := h
      unfold P_X6_meet_b4 at h
      refine lv_iload_n hx hb dX6_meet_4 rfl (lv_at hl 3 rfl) ?_
      refine lv_bipush (v := (10 : Int32)) hx hb dX6_meet_5 (by decide) ?_
      refine lv_icmp_ge (tgt := 33) hx hb dX6_meet_7 (by decide) (fun c_3 => ?_) (fun c_3 => ?_)
      · have h := h.1 c_3
        refine lv_iload_n hx hb dX6_meet_33 rfl (lv_at hl 2 rfl) ?_
        rw [← hQ]
        exact gRetR hx hb hr rfl h dX6_meet_34 hlocks
      · have h := h.2 c_3
        refine lv_iload_n hx hb dX6_meet_10 rfl (lv_at hl 2 rfl) ?_
        refine lv_aload_n hx hb dX6_meet_11 rfl (lv_at hl 0 rfl) ?_
        refine lv_iload_n hx hb dX6_meet_12 rfl (lv_at hl 1 rfl) ?_
        refine lv_iload_n hx hb dX6_meet_13 rfl (lv_at hl 3 rfl) ?_
        refine gSR (As := [.ref q_a0, .int x1, .int x3]) (rest := [.int x2]) ⟨hx, hb, hml, hown, htb⟩ hK hP hN [0] rfl (c_X6_length l D Cs q_a0 n_a0 v_a0 x1 x3 h) (va_cwS 3 htb (TB_s tb_368 tb_369 tb_5 (TB_self tb_370)) rfl rfl rfl z_X6_length.2 ⟨Nat.le_of_ble_eq_true rfl, Nat.le_of_ble_eq_true rfl⟩) rfl hl.1 rfl (Nat.le_of_ble_eq_true rfl) ⟨Nat.le_of_ble_eq_true rfl, Nat.le_of_ble_eq_true rfl⟩ dX6_meet_14 (fun r_4 h => ?_)
        refine lv_if_le (tgt := 24) hx hb dX6_meet_17 (by decide) (fun c_5 => ?_) (fun c_5 => ?_)
        · have h := h.1 c_5
          refine lv_iconst (v := (0 : Int32)) hx hb dX6_meet_24 (by decide) ?_
          exact B25 _ x3 x2 (0 : Int32) (lv_sub hl [0, 1, 3] rfl) h
        · have h := h.2 c_5
          refine lv_iconst (v := (1 : Int32)) hx hb dX6_meet_20 (by decide) ?_
          refine lv_goto (tgt := 25) hx hb dX6_meet_21 (by decide) ?_
          exact B25 _ x3 x2 (1 : Int32) (lv_sub hl [0, 1, 3] rfl) h
  unfold P_X6_meet at h
  refine lv_iconst (v := (0 : Int32)) hx hb dX6_meet_0 (by decide) ?_
  refine lv_istore_n (lv' := [(2, .int (0 : Int32)), (0, .ref q_a0), (1, .int x1)]) hx hb dX6_meet_1 rfl hl (by decide) rfl (fun ls hl => ?_)
  refine lv_iconst (v := (0 : Int32)) hx hb dX6_meet_2 (by decide) ?_
  refine lv_istore_n (lv' := [(3, .int (0 : Int32)), (2, .int (0 : Int32)), (0, .ref q_a0), (1, .int x1)]) hx hb dX6_meet_3 rfl hl (by decide) rfl (fun ls hl => ?_)
  obtain ⟨n, h⟩ := h
  exact L4 n _ (0 : Int32) (0 : Int32) (lv_sub hl [2, 3, 1, 0] rfl) h
set_option maxHeartbeats 4000000 in
set_option maxRecDepth 100000 in
theorem c_X6_areAgainst (l : Launch) (D : va_G) (Cs : Nat → ClassId) (q_a0 : Nat) (n_a0 : Nat) (v_a0 : (Nat → Int32)) (x1 : Int32) (x2 : Int32) {post : Int32 → Prop} (h : P_X6_areAgainst n_a0 v_a0 x1 x2 post) : Met l yX6_areAgainst wsX6_areAgainst ({ frames := 1, cells := 0, slots := 0, locals := 21 } : Room) (va_Pc [.ref q_a0, .int x1, .int x2] (gR D Cs [(q_a0, gI Cs n_a0 v_a0)])) (vp_Si post) 0 0 (fun _ => False) := by
  refine Met.ofW (cc := cX6_areAgainst) (maxL := 3) (ret := (some .boolean)) (by decide) rfl ?_
  intro p e s m args below meth c s₁ B hml hv
  obtain ⟨ha, hP, hK, hN⟩ := hv
  have hx := B.exec
  have hb := B.bytes
  have hr := B.returns
  have hts := atoms_spec (ws := wsX6_areAgainst) B.pre
  have htb : ∀ w ∈ TB, w.before args s = true := fun w h9 => hts w (List.mem_cons_of_mem _ h9)
  have hown : s.vm.findClass RX6 = some m.cls := findClass_of_methodNamed B.named
  have hlocks := B.notSynchronized
  generalize hQ : MQ below _ args s _ _ _ = Q
  show W p l e ({ frames := 1, cells := 0, slots := 0, locals := 21 } : Room) s m args below meth c s.heap [] 0 0 Q (entryFrame m args 3)
  have hent : entryFrame m args 3 = F0 m 0 ((lg_sl ([.ref q_a0, .int x1, .int x2]) ++ List.replicate (3 - (lg_sl ([.ref q_a0, .int x1, .int x2])).length) Slot.unset).toArray) [] := by rw [ha]; exact lg_entry_eq m ([.ref q_a0, .int x1, .int x2]) 3
  rw [hent]; clear hent
  have hl := lv_entry ([.ref q_a0, .int x1, .int x2]) (n := 3) (Nat.le_of_ble_eq_true rfl)
  generalize (lg_sl ([.ref q_a0, .int x1, .int x2]) ++ List.replicate (3 - (lg_sl ([.ref q_a0, .int x1, .int x2])).length) Slot.unset).toArray = ls at hl ⊢
  have hl : lv_has ls 3 [(0, .ref q_a0), (1, .int x1), (2, .int x2)] := hl
  have B42 : ∀ (ls : Array Slot) (s0 : Int32), lv_has ls 3 [(0, .ref q_a0), (1, .int x1), (2, .int x2)] → P_X6_areAgainst_b42 n_a0 v_a0 x1 x2 post s0 → W p l e ({ frames := 1, cells := 0, slots := 0, locals := 21 } : Room) s m args below meth c s.heap [] 0 0 Q (F0 m 42 ls [.int s0]) := by
    intro ls s0 hl h
    unfold P_X6_areAgainst_b42 at h
    obtain ⟨hnb, h⟩ := h
    rw [← hQ]
    exact gRetR hx hb hr hnb h dX6_areAgainst_42 hlocks
  have B41 : ∀ (ls : Array Slot), lv_has ls 3 [(0, .ref q_a0), (1, .int x1), (2, .int x2)] → P_X6_areAgainst_b41 n_a0 v_a0 x1 x2 post → W p l e ({ frames := 1, cells := 0, slots := 0, locals := 21 } : Room) s m args below meth c s.heap [] 0 0 Q (F0 m 41 ls []) := by
    intro ls hl h
    unfold P_X6_areAgainst_b41 at h
    refine lv_iconst (v := (0 : Int32)) hx hb dX6_areAgainst_41 (by decide) ?_
    exact B42 _ (0 : Int32) (lv_sub hl [0, 1, 2] rfl) h
  unfold P_X6_areAgainst at h
  refine lv_aload_n hx hb dX6_areAgainst_0 rfl (lv_at hl 0 rfl) ?_
  refine lv_bipush (v := (101 : Int32)) hx hb dX6_areAgainst_1 (by decide) ?_
  refine lv_iload_n hx hb dX6_areAgainst_3 rfl (lv_at hl 1 rfl) ?_
  refine lv_iload_n hx hb dX6_areAgainst_4 rfl (lv_at hl 2 rfl) ?_
  refine gSR (As := [.int x1, .int x2]) (rest := [.int (101 : Int32), .ref q_a0]) ⟨hx, hb, hml, hown, htb⟩ hK hP hN [] rfl (c_X6_at l D Cs x1 x2 h) (va_cwS 2 htb (TB_s tb_203 tb_204 tb_5 (TB_self tb_205)) rfl rfl rfl z_X6_at.2 ⟨Nat.le_of_ble_eq_true rfl, Nat.le_of_ble_eq_true rfl⟩) rfl hl.1 rfl (Nat.le_of_ble_eq_true rfl) ⟨Nat.le_of_ble_eq_true rfl, Nat.le_of_ble_eq_true rfl⟩ dX6_areAgainst_5 (fun r_1 h => ?_)
  refine lv_iadd hx hb dX6_areAgainst_8 ?_
  obtain ⟨hi_2, h⟩ := h
  refine va_iald hx hb hK hP 0 0 rfl rfl hi_2 dX6_areAgainst_9 ?_
  refine lv_if_le (tgt := 41) hx hb dX6_areAgainst_10 (by decide) (fun c_3 => ?_) (fun c_3 => ?_)
  · have h := h.1 c_3
    exact B41 _ (lv_sub hl [0, 1, 2] rfl) h
  · have h := h.2 c_3
    refine lv_aload_n hx hb dX6_areAgainst_13 rfl (lv_at hl 0 rfl) ?_
    refine lv_bipush (v := (101 : Int32)) hx hb dX6_areAgainst_14 (by decide) ?_
    refine lv_iload_n hx hb dX6_areAgainst_16 rfl (lv_at hl 1 rfl) ?_
    refine lv_iload_n hx hb dX6_areAgainst_17 rfl (lv_at hl 2 rfl) ?_
    refine gSR (As := [.int x1, .int x2]) (rest := [.int (101 : Int32), .ref q_a0]) ⟨hx, hb, hml, hown, htb⟩ hK hP hN [] rfl (c_X6_at l D Cs x1 x2 h) (va_cwS 2 htb (TB_s tb_203 tb_204 tb_5 (TB_self tb_205)) rfl rfl rfl z_X6_at.2 ⟨Nat.le_of_ble_eq_true rfl, Nat.le_of_ble_eq_true rfl⟩) rfl hl.1 rfl (Nat.le_of_ble_eq_true rfl) ⟨Nat.le_of_ble_eq_true rfl, Nat.le_of_ble_eq_true rfl⟩ dX6_areAgainst_18 (fun r_4 h => ?_)
    refine lv_iadd hx hb dX6_areAgainst_21 ?_
    obtain ⟨hi_5, h⟩ := h
    refine va_iald hx hb hK hP 0 0 rfl rfl hi_5 dX6_areAgainst_22 ?_
    refine lv_aload_n hx hb dX6_areAgainst_23 rfl (lv_at hl 0 rfl) ?_
    refine lv_sipush (v := (161 : Int32)) hx hb dX6_areAgainst_24 (by decide) ?_
    refine lv_iload_n hx hb dX6_areAgainst_27 rfl (lv_at hl 1 rfl) ?_
    refine lv_iload_n hx hb dX6_areAgainst_28 rfl (lv_at hl 2 rfl) ?_
    refine gSR (As := [.int x1, .int x2]) (rest := [.int (161 : Int32), .ref q_a0, .int (v_a0 ((101 : Int32) + r_4).toNatClampNeg)]) ⟨hx, hb, hml, hown, htb⟩ hK hP hN [] rfl (c_X6_at l D Cs x1 x2 h) (va_cwS 2 htb (TB_s tb_203 tb_204 tb_5 (TB_self tb_205)) rfl rfl rfl z_X6_at.2 ⟨Nat.le_of_ble_eq_true rfl, Nat.le_of_ble_eq_true rfl⟩) rfl hl.1 rfl (Nat.le_of_ble_eq_true rfl) ⟨Nat.le_of_ble_eq_true rfl, Nat.le_of_ble_eq_true rfl⟩ dX6_areAgainst_29 (fun r_6 h => ?_)
    refine lv_iadd hx hb dX6_areAgainst_32 ?_
    obtain ⟨hi_7, h⟩ := h
    refine va_iald hx hb hK hP 0 0 rfl rfl hi_7 dX6_areAgainst_33 ?_
    refine lv_icmp_gt (tgt := 41) hx hb dX6_areAgainst_34 (by decide) (fun c_8 => ?_) (fun c_8 => ?_)
    · have h := h.1 c_8
      exact B41 _ (lv_sub hl [0, 1, 2] rfl) h
    · have h := h.2 c_8
      refine lv_iconst (v := (1 : Int32)) hx hb dX6_areAgainst_37 (by decide) ?_
      refine lv_goto (tgt := 42) hx hb dX6_areAgainst_38 (by decide) ?_
      exact B42 _ (1 : Int32) (lv_sub hl [0, 1, 2] rfl) h
set_option maxHeartbeats 4000000 in
set_option maxRecDepth 100000 in
theorem c_X6_hasHistory (l : Launch) (D : va_G) (Cs : Nat → ClassId) (q_a0 : Nat) (n_a0 : Nat) (v_a0 : (Nat → Int32)) (x1 : Int32) {post : Int32 → Prop} (h : P_X6_hasHistory n_a0 v_a0 x1 post) : Met l yX6_hasHistory wsX6_hasHistory ({ frames := 2, cells := 0, slots := 0, locals := 43 } : Room) (va_Pc [.ref q_a0, .int x1] (gR D Cs [(q_a0, gI Cs n_a0 v_a0)])) (vp_Si post) 0 0 (fun _ => False) := by
  refine Met.ofW (cc := cX6_hasHistory) (maxL := 4) (ret := (some .boolean)) (by decide) rfl ?_
  intro p e s m args below meth c s₁ B hml hv
  obtain ⟨ha, hP, hK, hN⟩ := hv
  have hx := B.exec
  have hb := B.bytes
  have hr := B.returns
  have hts := atoms_spec (ws := wsX6_hasHistory) B.pre
  have htb : ∀ w ∈ TB, w.before args s = true := fun w h9 => hts w (List.mem_cons_of_mem _ h9)
  have hown : s.vm.findClass RX6 = some m.cls := findClass_of_methodNamed B.named
  have hlocks := B.notSynchronized
  generalize hQ : MQ below _ args s _ _ _ = Q
  show W p l e ({ frames := 2, cells := 0, slots := 0, locals := 43 } : Room) s m args below meth c s.heap [] 0 0 Q (entryFrame m args 4)
  have hent : entryFrame m args 4 = F0 m 0 ((lg_sl ([.ref q_a0, .int x1]) ++ List.replicate (4 - (lg_sl ([.ref q_a0, .int x1])).length) Slot.unset).toArray) [] := by rw [ha]; exact lg_entry_eq m ([.ref q_a0, .int x1]) 4
  rw [hent]; clear hent
  have hl := lv_entry ([.ref q_a0, .int x1]) (n := 4) (Nat.le_of_ble_eq_true rfl)
  generalize (lg_sl ([.ref q_a0, .int x1]) ++ List.replicate (4 - (lg_sl ([.ref q_a0, .int x1])).length) Slot.unset).toArray = ls at hl ⊢
  have hl : lv_has ls 4 [(0, .ref q_a0), (1, .int x1)] := hl
  have L4 : ∀ (n : Nat) (ls : Array Slot) (x2 : Int32) (x3 : Int32), lv_has ls 4 [(0, .ref q_a0), (1, .int x1), (2, .int x2), (3, .int x3)] → P_X6_hasHistory_l4 n_a0 v_a0 x1 post n x2 x3 → W p l e ({ frames := 2, cells := 0, slots := 0, locals := 43 } : Room) s m args below meth c s.heap [] 0 0 Q (F0 m 4 ls []) := by
    intro n4
    induction n4 with
    | zero => intro ls x2 x3 hl h; exact False.elim h
    | succ n4 ih4 =>
      have B29 : ∀ (ls : Array Slot) (x3 : Int32) (s0 : Int32), lv_has ls 4 [(0, .ref q_a0), (1, .int x1), (3, .int x3)] → P_X6_hasHistory_b29 n_a0 v_a0 x1 post (P_X6_hasHistory_l4 n_a0 v_a0 x1 post n4) x3 s0 → W p l e ({ frames := 2, cells := 0, slots := 0, locals := 43 } : Room) s m args below meth c s.heap [] 0 0 Q (F0 m 29 ls [.int s0]) := by
        intro ls x3 s0 hl h
        unfold P_X6_hasHistory_b29 at h
        refine lv_istore_n (lv' := [(2, .int s0), (0, .ref q_a0), (1, .int x1), (3, .int x3)]) hx hb dX6_hasHistory_29 rfl hl (by decide) rfl (fun ls hl => ?_)
        obtain ⟨x3_1, ex3_1⟩ : ∃ y : Int32, y = x3 + (1 : Int32) := ⟨_, rfl⟩
        have h := h _ ex3_1
        refine lv_iinc (v := x3_1) (lv' := [(3, .int x3_1), (2, .int s0), (0, .ref q_a0), (1, .int x1)]) hx hb dX6_hasHistory_30 hl (k := 3) rfl (by rw [ex3_1]; rfl) (by decide) rfl (fun ls hl => ?_)
        refine lv_goto (tgt := 4) hx hb dX6_hasHistory_33 (by decide) ?_
        exact ih4 _ s0 x3_1 (lv_sub hl [2, 3, 1, 0] rfl) h
      have B28 : ∀ (ls : Array Slot) (x3 : Int32), lv_has ls 4 [(0, .ref q_a0), (1, .int x1), (3, .int x3)] → P_X6_hasHistory_b28 n_a0 v_a0 x1 post (P_X6_hasHistory_l4 n_a0 v_a0 x1 post n4) x3 → W p l e ({ frames := 2, cells := 0, slots := 0, locals := 43 } : Room) s m args below meth c s.heap [] 0 0 Q (F0 m 28 ls []) := by
        intro ls x3 hl h
        unfold P_X6_hasHistory_b28 at h
        refine lv_iconst (v := (0 : Int32)) hx hb dX6_hasHistory_28 (by decide) ?_
        exact B29 _ x3 (0 : Int32) (lv_sub hl [0, 1, 2] rfl) h
      intro ls x2 x3 hl h
      replace h : P_X6_hasHistory_b4 n_a0 v_a0 x1 post (P_X6_hasHistory_l4 n_a0 v_a0 x1 post n4) x2 x3 := h
      unfold P_X6_hasHistory_b4 at h
      refine lv_iload_n hx hb dX6_hasHistory_4 rfl (lv_at hl 3 rfl) ?_
      refine lv_aload_n hx hb dX6_hasHistory_5 rfl (lv_at hl 0 rfl) ?_
      refine lv_iconst (v := (0 : Int32)) hx hb dX6_hasHistory_6 (by decide) ?_
      obtain ⟨hi_2, h⟩ := h
      refine va_iald hx hb hK hP 0 0 rfl rfl hi_2 dX6_hasHistory_7 ?_
      refine lv_icmp_ge (tgt := 36) hx hb dX6_hasHistory_8 (by decide) (fun c_3 => ?_) (fun c_3 => ?_)
      · have h := h.1 c_3
        refine lv_iload_n hx hb dX6_hasHistory_36 rfl (lv_at hl 2 rfl) ?_
        obtain ⟨hnb, h⟩ := h
        rw [← hQ]
        exact gRetR hx hb hr hnb h dX6_hasHistory_37 hlocks
      · have h := h.2 c_3
        refine lv_iload_n hx hb dX6_hasHistory_11 rfl (lv_at hl 2 rfl) ?_
        refine lv_if_eq (tgt := 28) hx hb dX6_hasHistory_12 (by decide) (fun c_4 => ?_) (fun c_4 => ?_)
        · have h := h.1 c_4
          exact B28 _ x3 (lv_sub hl [0, 1, 3] rfl) h
        · have h := h.2 c_4
          refine lv_aload_n hx hb dX6_hasHistory_15 rfl (lv_at hl 0 rfl) ?_
          refine lv_iload_n hx hb dX6_hasHistory_16 rfl (lv_at hl 3 rfl) ?_
          refine lv_iload_n hx hb dX6_hasHistory_17 rfl (lv_at hl 1 rfl) ?_
          refine gSR (As := [.ref q_a0, .int x3, .int x1]) (rest := []) ⟨hx, hb, hml, hown, htb⟩ hK hP hN [0] rfl (c_X6_areAgainst l D Cs q_a0 n_a0 v_a0 x3 x1 h) (va_cwS 3 htb (TB_s tb_334 tb_335 tb_5 (TB_self tb_336)) rfl rfl rfl z_X6_areAgainst.2 ⟨Nat.le_of_ble_eq_true rfl, Nat.le_of_ble_eq_true rfl⟩) rfl hl.1 rfl (Nat.le_of_ble_eq_true rfl) ⟨Nat.le_of_ble_eq_true rfl, Nat.le_of_ble_eq_true rfl⟩ dX6_hasHistory_18 (fun r_5 h => ?_)
          refine lv_if_ne (tgt := 28) hx hb dX6_hasHistory_21 (by decide) (fun c_6 => ?_) (fun c_6 => ?_)
          · have h := h.2 c_6
            exact B28 _ x3 (lv_sub hl [0, 1, 3] rfl) h
          · have h := h.1 c_6
            refine lv_iconst (v := (1 : Int32)) hx hb dX6_hasHistory_24 (by decide) ?_
            refine lv_goto (tgt := 29) hx hb dX6_hasHistory_25 (by decide) ?_
            exact B29 _ x3 (1 : Int32) (lv_sub hl [0, 1, 3] rfl) h
  unfold P_X6_hasHistory at h
  refine lv_iconst (v := (1 : Int32)) hx hb dX6_hasHistory_0 (by decide) ?_
  refine lv_istore_n (lv' := [(2, .int (1 : Int32)), (0, .ref q_a0), (1, .int x1)]) hx hb dX6_hasHistory_1 rfl hl (by decide) rfl (fun ls hl => ?_)
  refine lv_iconst (v := (0 : Int32)) hx hb dX6_hasHistory_2 (by decide) ?_
  refine lv_istore_n (lv' := [(3, .int (0 : Int32)), (2, .int (1 : Int32)), (0, .ref q_a0), (1, .int x1)]) hx hb dX6_hasHistory_3 rfl hl (by decide) rfl (fun ls hl => ?_)
  obtain ⟨n, h⟩ := h
  exact L4 n _ (1 : Int32) (0 : Int32) (lv_sub hl [2, 3, 1, 0] rfl) h
set_option maxHeartbeats 4000000 in
set_option maxRecDepth 100000 in
theorem c_X6_bound (l : Launch) (D : va_G) (Cs : Nat → ClassId) (q_a0 : Nat) (n_a0 : Nat) (v_a0 : (Nat → Int32)) (x1 : Int32) (x2 : Int32) {post : Int32 → Prop} (h : P_X6_bound n_a0 v_a0 x1 x2 post) : Met l yX6_bound wsX6_bound ({ frames := 1, cells := 0, slots := 0, locals := 21 } : Room) (va_Pc [.ref q_a0, .int x1, .int x2] (gR D Cs [(q_a0, gI Cs n_a0 v_a0)])) (vp_Si post) 0 0 (fun _ => False) := by
  refine Met.ofW (cc := cX6_bound) (maxL := 3) (ret := (some .int)) (by decide) rfl ?_
  intro p e s m args below meth c s₁ B hml hv
  obtain ⟨ha, hP, hK, hN⟩ := hv
  have hx := B.exec
  have hb := B.bytes
  have hr := B.returns
  have hts := atoms_spec (ws := wsX6_bound) B.pre
  have htb : ∀ w ∈ TB, w.before args s = true := fun w h9 => hts w (List.mem_cons_of_mem _ h9)
  have hown : s.vm.findClass RX6 = some m.cls := findClass_of_methodNamed B.named
  have hlocks := B.notSynchronized
  generalize hQ : MQ below _ args s _ _ _ = Q
  show W p l e ({ frames := 1, cells := 0, slots := 0, locals := 21 } : Room) s m args below meth c s.heap [] 0 0 Q (entryFrame m args 3)
  have hent : entryFrame m args 3 = F0 m 0 ((lg_sl ([.ref q_a0, .int x1, .int x2]) ++ List.replicate (3 - (lg_sl ([.ref q_a0, .int x1, .int x2])).length) Slot.unset).toArray) [] := by rw [ha]; exact lg_entry_eq m ([.ref q_a0, .int x1, .int x2]) 3
  rw [hent]; clear hent
  have hl := lv_entry ([.ref q_a0, .int x1, .int x2]) (n := 3) (Nat.le_of_ble_eq_true rfl)
  generalize (lg_sl ([.ref q_a0, .int x1, .int x2]) ++ List.replicate (3 - (lg_sl ([.ref q_a0, .int x1, .int x2])).length) Slot.unset).toArray = ls at hl ⊢
  have hl : lv_has ls 3 [(0, .ref q_a0), (1, .int x1), (2, .int x2)] := hl
  unfold P_X6_bound at h
  refine lv_aload_n hx hb dX6_bound_0 rfl (lv_at hl 0 rfl) ?_
  refine lv_sipush (v := (161 : Int32)) hx hb dX6_bound_1 (by decide) ?_
  refine lv_iload_n hx hb dX6_bound_4 rfl (lv_at hl 1 rfl) ?_
  refine lv_iload_n hx hb dX6_bound_5 rfl (lv_at hl 2 rfl) ?_
  refine gSR (As := [.int x1, .int x2]) (rest := [.int (161 : Int32), .ref q_a0]) ⟨hx, hb, hml, hown, htb⟩ hK hP hN [] rfl (c_X6_at l D Cs x1 x2 h) (va_cwS 2 htb (TB_s tb_203 tb_204 tb_5 (TB_self tb_205)) rfl rfl rfl z_X6_at.2 ⟨Nat.le_of_ble_eq_true rfl, Nat.le_of_ble_eq_true rfl⟩) rfl hl.1 rfl (Nat.le_of_ble_eq_true rfl) ⟨Nat.le_of_ble_eq_true rfl, Nat.le_of_ble_eq_true rfl⟩ dX6_bound_6 (fun r_1 h => ?_)
  refine lv_iadd hx hb dX6_bound_9 ?_
  obtain ⟨hi_2, h⟩ := h
  refine va_iald hx hb hK hP 0 0 rfl rfl hi_2 dX6_bound_10 ?_
  rw [← hQ]
  exact gRetR hx hb hr rfl h dX6_bound_11 hlocks
set_option maxHeartbeats 4000000 in
set_option maxRecDepth 100000 in
theorem c_X6_spread (l : Launch) (D : va_G) (Cs : Nat → ClassId) (q_o : Nat) (q_a1 : Nat) (q_o_text : Nat) (q_o_now : Nat) (q_o_trial : Nat) (q_o_diary : Nat) (q_o_kept : Nat) (q_o_isKept : Nat) (q_o_years : Nat) (n_a1 : Nat) (sz : Nat) (v_o_years : (Nat → Int32)) (v_a1 : (Nat → Int32)) (v_o_refusal : Int32) (v_o_size : Int32) (v_o_acts : Int32) (v_o_least : Int32) (v_o_origins : Int32) (v_o_ofAll : Int32) (v_o_ofSome : Int32) (v_o_sets : Int32) (v_o_spot : Int32) (v_o_out : Int32) (x2 : Int32) (x3 : Int32) {post : (Nat → Int32) → Prop} (h : P_X6_spread n_a1 v_o_years v_a1 x2 x3 post) : Met l yX6_spread wsX6_spread ({ frames := 2, cells := 0, slots := 0, locals := 43 } : Room) (va_Pc [.ref q_o, .ref q_a1, .int x2, .int x3] (gM D Cs [(q_o, .inr (6, [.int v_o_refusal, .ref q_o_text, .int v_o_size, .ref q_o_now, .ref q_o_trial, .ref q_o_diary, .int v_o_acts, .ref q_o_kept, .ref q_o_isKept, .ref q_o_years, .int v_o_least, .int v_o_origins, .int v_o_ofAll, .int v_o_ofSome, .int v_o_sets, .int v_o_spot, .int v_o_out])), (q_o_years, gI Cs 10 v_o_years), (q_a1, gI Cs n_a1 v_a1)] sz)) (va_Qv (fun (u : (Nat → Int32)) => post u) (gB D (va_A [(q_o, .inr (6, [.int v_o_refusal, .ref q_o_text, .int v_o_size, .ref q_o_now, .ref q_o_trial, .ref q_o_diary, .int v_o_acts, .ref q_o_kept, .ref q_o_isKept, .ref q_o_years, .int v_o_least, .int v_o_origins, .int v_o_ofAll, .int v_o_ofSome, .int v_o_sets, .int v_o_spot, .int v_o_out])), (q_o_years, gI Cs 10 v_o_years), (q_a1, gI Cs n_a1 v_a1)] sz) (fun u : (Nat → Int32) => [(q_o, .inr (6, [.int v_o_refusal, .ref q_o_text, .int v_o_size, .ref q_o_now, .ref q_o_trial, .ref q_o_diary, .int v_o_acts, .ref q_o_kept, .ref q_o_isKept, .ref q_o_years, .int v_o_least, .int v_o_origins, .int v_o_ofAll, .int v_o_ofSome, .int v_o_sets, .int v_o_spot, .int v_o_out])), (q_o_years, gI Cs 10 u), (q_a1, gI Cs n_a1 v_a1)])) (va_A [(q_o, .inr (6, [.int v_o_refusal, .ref q_o_text, .int v_o_size, .ref q_o_now, .ref q_o_trial, .ref q_o_diary, .int v_o_acts, .ref q_o_kept, .ref q_o_isKept, .ref q_o_years, .int v_o_least, .int v_o_origins, .int v_o_ofAll, .int v_o_ofSome, .int v_o_sets, .int v_o_spot, .int v_o_out])), (q_o_years, gI Cs 10 v_o_years), (q_a1, gI Cs n_a1 v_a1)] sz)) 0 0 (va_A [(q_o, .inr (6, [.int v_o_refusal, .ref q_o_text, .int v_o_size, .ref q_o_now, .ref q_o_trial, .ref q_o_diary, .int v_o_acts, .ref q_o_kept, .ref q_o_isKept, .ref q_o_years, .int v_o_least, .int v_o_origins, .int v_o_ofAll, .int v_o_ofSome, .int v_o_sets, .int v_o_spot, .int v_o_out])), (q_o_years, gI Cs 10 v_o_years), (q_a1, gI Cs n_a1 v_a1)] sz) := by
  refine Met.ofW (cc := cX6_spread) (maxL := 8) (ret := none) (by decide) rfl ?_
  intro p e s m args below meth c s₁ B hml hv
  obtain ⟨ha, hsz, hP, hK, hD0, hN⟩ := hv
  have hx := B.exec
  have hb := B.bytes
  have hr := B.returns
  have hts := atoms_spec (ws := wsX6_spread) B.pre
  have htb : ∀ w ∈ TB, w.before args s = true := fun w h9 => hts w (List.mem_cons_of_mem _ h9)
  have hown : s.vm.findClass RX6 = some m.cls := findClass_of_methodNamed B.named
  have hlocks := B.notSynchronized
  subst hsz
  have hD := hD0.self (sz := s.heap.size)
  generalize hAe : va_A [(q_o, .inr (6, [.int v_o_refusal, .ref q_o_text, .int v_o_size, .ref q_o_now, .ref q_o_trial, .ref q_o_diary, .int v_o_acts, .ref q_o_kept, .ref q_o_isKept, .ref q_o_years, .int v_o_least, .int v_o_origins, .int v_o_ofAll, .int v_o_ofSome, .int v_o_sets, .int v_o_spot, .int v_o_out])), (q_o_years, gI Cs 10 v_o_years), (q_a1, gI Cs n_a1 v_a1)] s.heap.size = A at hD ⊢
  have hA : ∀ q : Nat, s.heap.size ≤ q → A q := fun q h9 => by rw [← hAe]; exact Or.inr h9
  obtain ⟨H, hH⟩ : ∃ z : Heap, z = s.heap := ⟨_, rfl⟩
  have hS : va_S A s.heap H [] := by rw [hH]; exact va_S.rf
  have hP : va_P D vwCl [(q_o, .inr (6, [.int v_o_refusal, .ref q_o_text, .int v_o_size, .ref q_o_now, .ref q_o_trial, .ref q_o_diary, .int v_o_acts, .ref q_o_kept, .ref q_o_isKept, .ref q_o_years, .int v_o_least, .int v_o_origins, .int v_o_ofAll, .int v_o_ofSome, .int v_o_sets, .int v_o_spot, .int v_o_out])), (q_o_years, gI Cs 10 v_o_years), (q_a1, gI Cs n_a1 v_a1)] H := by rw [hH]; exact hP
  generalize hQ : MQ below _ args s _ _ _ = Q
  show W p l e ({ frames := 2, cells := 0, slots := 0, locals := 43 } : Room) s m args below meth c s.heap [] 0 0 Q (entryFrame m args 8)
  have hent : entryFrame m args 8 = F0 m 0 ((lg_sl ([.ref q_o, .ref q_a1, .int x2, .int x3]) ++ List.replicate (8 - (lg_sl ([.ref q_o, .ref q_a1, .int x2, .int x3])).length) Slot.unset).toArray) [] := by rw [ha]; exact lg_entry_eq m ([.ref q_o, .ref q_a1, .int x2, .int x3]) 8
  rw [hent]; clear hent
  rw [← hH]
  have hl := lv_entry ([.ref q_o, .ref q_a1, .int x2, .int x3]) (n := 8) (Nat.le_of_ble_eq_true rfl)
  generalize (lg_sl ([.ref q_o, .ref q_a1, .int x2, .int x3]) ++ List.replicate (8 - (lg_sl ([.ref q_o, .ref q_a1, .int x2, .int x3])).length) Slot.unset).toArray = ls at hl ⊢
  have hl : lv_has ls 8 [(0, .ref q_o), (1, .ref q_a1), (2, .int x2), (3, .int x3)] := hl
  have L3 : ∀ (n : Nat) (H : Heap) (locs : List Loc) (ls : Array Slot) (w_o_years : (Nat → Int32)) (x4 : Int32), va_P D vwCl [(q_o, .inr (6, [.int v_o_refusal, .ref q_o_text, .int v_o_size, .ref q_o_now, .ref q_o_trial, .ref q_o_diary, .int v_o_acts, .ref q_o_kept, .ref q_o_isKept, .ref q_o_years, .int v_o_least, .int v_o_origins, .int v_o_ofAll, .int v_o_ofSome, .int v_o_sets, .int v_o_spot, .int v_o_out])), (q_o_years, gI Cs 10 w_o_years), (q_a1, gI Cs n_a1 v_a1)] H → va_D A [(q_o, .inr (6, [.int v_o_refusal, .ref q_o_text, .int v_o_size, .ref q_o_now, .ref q_o_trial, .ref q_o_diary, .int v_o_acts, .ref q_o_kept, .ref q_o_isKept, .ref q_o_years, .int v_o_least, .int v_o_origins, .int v_o_ofAll, .int v_o_ofSome, .int v_o_sets, .int v_o_spot, .int v_o_out])), (q_o_years, gI Cs 10 w_o_years), (q_a1, gI Cs n_a1 v_a1)] → va_S A s.heap H locs → lv_has ls 8 [(0, .ref q_o), (1, .ref q_a1), (2, .int x2), (3, .int x3), (4, .int x4)] → P_X6_spread_l3 n_a1 v_o_years v_a1 x2 x3 post n w_o_years x4 → W p l e ({ frames := 2, cells := 0, slots := 0, locals := 43 } : Room) s m args below meth c H locs 0 0 Q (F0 m 3 ls []) := by
    intro n3
    induction n3 with
    | zero => intro H locs ls w_o_years x4 hP hD hS hl h; exact False.elim h
    | succ n3 ih3 =>
      have L14 : ∀ (n : Nat) (H : Heap) (locs : List Loc) (ls : Array Slot) (w_o_years : (Nat → Int32)) (x4 : Int32) (x5 : Int32), va_P D vwCl [(q_o, .inr (6, [.int v_o_refusal, .ref q_o_text, .int v_o_size, .ref q_o_now, .ref q_o_trial, .ref q_o_diary, .int v_o_acts, .ref q_o_kept, .ref q_o_isKept, .ref q_o_years, .int v_o_least, .int v_o_origins, .int v_o_ofAll, .int v_o_ofSome, .int v_o_sets, .int v_o_spot, .int v_o_out])), (q_o_years, gI Cs 10 w_o_years), (q_a1, gI Cs n_a1 v_a1)] H → va_D A [(q_o, .inr (6, [.int v_o_refusal, .ref q_o_text, .int v_o_size, .ref q_o_now, .ref q_o_trial, .ref q_o_diary, .int v_o_acts, .ref q_o_kept, .ref q_o_isKept, .ref q_o_years, .int v_o_least, .int v_o_origins, .int v_o_ofAll, .int v_o_ofSome, .int v_o_sets, .int v_o_spot, .int v_o_out])), (q_o_years, gI Cs 10 w_o_years), (q_a1, gI Cs n_a1 v_a1)] → va_S A s.heap H locs → lv_has ls 8 [(0, .ref q_o), (1, .ref q_a1), (2, .int x2), (3, .int x3), (4, .int x4), (5, .int x5)] → P_X6_spread_l14 n_a1 v_o_years v_a1 x2 x3 post (P_X6_spread_l3 n_a1 v_o_years v_a1 x2 x3 post n3) n w_o_years x4 x5 → W p l e ({ frames := 2, cells := 0, slots := 0, locals := 43 } : Room) s m args below meth c H locs 0 0 Q (F0 m 14 ls []) := by
        intro n14
        induction n14 with
        | zero => intro H locs ls w_o_years x4 x5 hP hD hS hl h; exact False.elim h
        | succ n14 ih14 =>
          have L25 : ∀ (n : Nat) (H : Heap) (locs : List Loc) (ls : Array Slot) (w_o_years : (Nat → Int32)) (x4 : Int32) (x5 : Int32) (x6 : Int32), va_P D vwCl [(q_o, .inr (6, [.int v_o_refusal, .ref q_o_text, .int v_o_size, .ref q_o_now, .ref q_o_trial, .ref q_o_diary, .int v_o_acts, .ref q_o_kept, .ref q_o_isKept, .ref q_o_years, .int v_o_least, .int v_o_origins, .int v_o_ofAll, .int v_o_ofSome, .int v_o_sets, .int v_o_spot, .int v_o_out])), (q_o_years, gI Cs 10 w_o_years), (q_a1, gI Cs n_a1 v_a1)] H → va_D A [(q_o, .inr (6, [.int v_o_refusal, .ref q_o_text, .int v_o_size, .ref q_o_now, .ref q_o_trial, .ref q_o_diary, .int v_o_acts, .ref q_o_kept, .ref q_o_isKept, .ref q_o_years, .int v_o_least, .int v_o_origins, .int v_o_ofAll, .int v_o_ofSome, .int v_o_sets, .int v_o_spot, .int v_o_out])), (q_o_years, gI Cs 10 w_o_years), (q_a1, gI Cs n_a1 v_a1)] → va_S A s.heap H locs → lv_has ls 8 [(0, .ref q_o), (1, .ref q_a1), (2, .int x2), (3, .int x3), (4, .int x4), (5, .int x5), (6, .int x6)] → P_X6_spread_l25 n_a1 v_o_years v_a1 x2 x3 post (P_X6_spread_l3 n_a1 v_o_years v_a1 x2 x3 post n3) (P_X6_spread_l14 n_a1 v_o_years v_a1 x2 x3 post (P_X6_spread_l3 n_a1 v_o_years v_a1 x2 x3 post n3) n14) n w_o_years x4 x5 x6 → W p l e ({ frames := 2, cells := 0, slots := 0, locals := 43 } : Room) s m args below meth c H locs 0 0 Q (F0 m 25 ls []) := by
            intro n25
            induction n25 with
            | zero => intro H locs ls w_o_years x4 x5 x6 hP hD hS hl h; exact False.elim h
            | succ n25 ih25 =>
              have B130 : ∀ (H : Heap) (locs : List Loc) (ls : Array Slot) (w_o_years : (Nat → Int32)) (x4 : Int32) (x5 : Int32) (x6 : Int32), va_P D vwCl [(q_o, .inr (6, [.int v_o_refusal, .ref q_o_text, .int v_o_size, .ref q_o_now, .ref q_o_trial, .ref q_o_diary, .int v_o_acts, .ref q_o_kept, .ref q_o_isKept, .ref q_o_years, .int v_o_least, .int v_o_origins, .int v_o_ofAll, .int v_o_ofSome, .int v_o_sets, .int v_o_spot, .int v_o_out])), (q_o_years, gI Cs 10 w_o_years), (q_a1, gI Cs n_a1 v_a1)] H → va_D A [(q_o, .inr (6, [.int v_o_refusal, .ref q_o_text, .int v_o_size, .ref q_o_now, .ref q_o_trial, .ref q_o_diary, .int v_o_acts, .ref q_o_kept, .ref q_o_isKept, .ref q_o_years, .int v_o_least, .int v_o_origins, .int v_o_ofAll, .int v_o_ofSome, .int v_o_sets, .int v_o_spot, .int v_o_out])), (q_o_years, gI Cs 10 w_o_years), (q_a1, gI Cs n_a1 v_a1)] → va_S A s.heap H locs → lv_has ls 8 [(0, .ref q_o), (1, .ref q_a1), (2, .int x2), (3, .int x3), (4, .int x4), (5, .int x5), (6, .int x6)] → P_X6_spread_b130 n_a1 v_o_years v_a1 x2 x3 post (P_X6_spread_l3 n_a1 v_o_years v_a1 x2 x3 post n3) (P_X6_spread_l14 n_a1 v_o_years v_a1 x2 x3 post (P_X6_spread_l3 n_a1 v_o_years v_a1 x2 x3 post n3) n14) (P_X6_spread_l25 n_a1 v_o_years v_a1 x2 x3 post (P_X6_spread_l3 n_a1 v_o_years v_a1 x2 x3 post n3) (P_X6_spread_l14 n_a1 v_o_years v_a1 x2 x3 post (P_X6_spread_l3 n_a1 v_o_years v_a1 x2 x3 post n3) n14) n25) w_o_years x4 x5 x6 → W p l e ({ frames := 2, cells := 0, slots := 0, locals := 43 } : Room) s m args below meth c H locs 0 0 Q (F0 m 130 ls []) := by
                intro H locs ls w_o_years x4 x5 x6 hP hD hS hl h
                unfold P_X6_spread_b130 at h
                obtain ⟨x6_1, ex6_1⟩ : ∃ y : Int32, y = x6 + (1 : Int32) := ⟨_, rfl⟩
                have h := h _ ex6_1
                refine lv_iinc (v := x6_1) (lv' := [(6, .int x6_1), (0, .ref q_o), (1, .ref q_a1), (2, .int x2), (3, .int x3), (4, .int x4), (5, .int x5)]) hx hb dX6_spread_130 hl (k := 6) rfl (by rw [ex6_1]; rfl) (by decide) rfl (fun ls hl => ?_)
                refine lv_goto (tgt := 25) hx hb dX6_spread_133 (by decide) ?_
                exact ih25 _ _ _ w_o_years x4 x5 x6_1 hP hD hS (lv_sub hl [1, 2, 3, 4, 5, 6, 0] rfl) h
              have B97 : ∀ (H : Heap) (locs : List Loc) (ls : Array Slot) (w_o_years : (Nat → Int32)) (x4 : Int32) (x5 : Int32) (x6 : Int32) (s0 : Int32), va_P D vwCl [(q_o, .inr (6, [.int v_o_refusal, .ref q_o_text, .int v_o_size, .ref q_o_now, .ref q_o_trial, .ref q_o_diary, .int v_o_acts, .ref q_o_kept, .ref q_o_isKept, .ref q_o_years, .int v_o_least, .int v_o_origins, .int v_o_ofAll, .int v_o_ofSome, .int v_o_sets, .int v_o_spot, .int v_o_out])), (q_o_years, gI Cs 10 w_o_years), (q_a1, gI Cs n_a1 v_a1)] H → va_D A [(q_o, .inr (6, [.int v_o_refusal, .ref q_o_text, .int v_o_size, .ref q_o_now, .ref q_o_trial, .ref q_o_diary, .int v_o_acts, .ref q_o_kept, .ref q_o_isKept, .ref q_o_years, .int v_o_least, .int v_o_origins, .int v_o_ofAll, .int v_o_ofSome, .int v_o_sets, .int v_o_spot, .int v_o_out])), (q_o_years, gI Cs 10 w_o_years), (q_a1, gI Cs n_a1 v_a1)] → va_S A s.heap H locs → lv_has ls 8 [(0, .ref q_o), (1, .ref q_a1), (2, .int x2), (3, .int x3), (4, .int x4), (5, .int x5), (6, .int x6)] → P_X6_spread_b97 n_a1 v_o_years v_a1 x2 x3 post (P_X6_spread_l3 n_a1 v_o_years v_a1 x2 x3 post n3) (P_X6_spread_l14 n_a1 v_o_years v_a1 x2 x3 post (P_X6_spread_l3 n_a1 v_o_years v_a1 x2 x3 post n3) n14) (P_X6_spread_l25 n_a1 v_o_years v_a1 x2 x3 post (P_X6_spread_l3 n_a1 v_o_years v_a1 x2 x3 post n3) (P_X6_spread_l14 n_a1 v_o_years v_a1 x2 x3 post (P_X6_spread_l3 n_a1 v_o_years v_a1 x2 x3 post n3) n14) n25) w_o_years x4 x5 x6 s0 → W p l e ({ frames := 2, cells := 0, slots := 0, locals := 43 } : Room) s m args below meth c H locs 0 0 Q (F0 m 97 ls [.int s0]) := by
                intro H locs ls w_o_years x4 x5 x6 s0 hP hD hS hl h
                unfold P_X6_spread_b97 at h
                refine lv_istore (lv' := [(7, .int s0), (0, .ref q_o), (1, .ref q_a1), (2, .int x2), (3, .int x3), (4, .int x4), (5, .int x5), (6, .int x6)]) hx hb dX6_spread_97 hl (by decide) rfl (fun ls hl => ?_)
                refine lv_iload hx hb dX6_spread_99 (lv_at hl 0 rfl) ?_
                refine lv_aload_n hx hb dX6_spread_101 rfl (lv_at hl 1 rfl) ?_
                refine va_get (D := D) (ci := 6) (v := .ref q_o_years) (C := RX6) (T := TX6) (N := 17) hx hb htb inT_X6 hown hK hP 0 rfl rfl 9 (by decide) (htb _ tb_95) (fun _ h9 => h9) rfl dX6_spread_102 ?_
                refine lv_iload hx hb dX6_spread_105 (lv_at hl 7 rfl) ?_
                obtain ⟨hi_2, h⟩ := h
                refine va_iald hx hb hK hP 1 0 rfl rfl hi_2 dX6_spread_107 ?_
                refine lv_icmp_ge (tgt := 130) hx hb dX6_spread_108 (by decide) (fun c_3 => ?_) (fun c_3 => ?_)
                · have h := h.1 c_3
                  exact B130 _ _ _ w_o_years x4 x5 x6 hP hD hS (lv_sub hl [1, 2, 3, 4, 5, 6, 7] rfl) h
                · have h := h.2 c_3
                  refine lv_iload hx hb dX6_spread_111 (lv_at hl 0 rfl) ?_
                  refine lv_ldc (v := (100000 : Int32)) hx hb hown (htb _ tb_360) dX6_spread_113 ?_
                  refine lv_icmp_ge (tgt := 130) hx hb dX6_spread_115 (by decide) (fun c_4 => ?_) (fun c_4 => ?_)
                  · have h := h.1 c_4
                    exact B130 _ _ _ w_o_years x4 x5 x6 hP hD hS (lv_sub hl [1, 2, 3, 4, 5, 6, 7] rfl) h
                  · have h := h.2 c_4
                    refine lv_aload_n hx hb dX6_spread_118 rfl (lv_at hl 1 rfl) ?_
                    refine va_get (D := D) (ci := 6) (v := .ref q_o_years) (C := RX6) (T := TX6) (N := 17) hx hb htb inT_X6 hown hK hP 0 rfl rfl 9 (by decide) (htb _ tb_95) (fun _ h9 => h9) rfl dX6_spread_119 ?_
                    refine lv_iload hx hb dX6_spread_122 (lv_at hl 7 rfl) ?_
                    refine lv_iload hx hb dX6_spread_124 (lv_at hl 0 rfl) ?_
                    obtain ⟨hi_5, h⟩ := h
                    refine va_iast hx hb hK hP hD hS 1 0 rfl rfl hi_5 dX6_spread_126 (fun H locs hP hD hS => ?_)
                    have hP : va_P D vwCl [(q_o, .inr (6, [.int v_o_refusal, .ref q_o_text, .int v_o_size, .ref q_o_now, .ref q_o_trial, .ref q_o_diary, .int v_o_acts, .ref q_o_kept, .ref q_o_isKept, .ref q_o_years, .int v_o_least, .int v_o_origins, .int v_o_ofAll, .int v_o_ofSome, .int v_o_sets, .int v_o_spot, .int v_o_out])), (q_o_years, gI Cs 10 (upd w_o_years x6.toNatClampNeg s0)), (q_a1, gI Cs n_a1 v_a1)] H := hP
                    have hD : va_D A [(q_o, .inr (6, [.int v_o_refusal, .ref q_o_text, .int v_o_size, .ref q_o_now, .ref q_o_trial, .ref q_o_diary, .int v_o_acts, .ref q_o_kept, .ref q_o_isKept, .ref q_o_years, .int v_o_least, .int v_o_origins, .int v_o_ofAll, .int v_o_ofSome, .int v_o_sets, .int v_o_spot, .int v_o_out])), (q_o_years, gI Cs 10 (upd w_o_years x6.toNatClampNeg s0)), (q_a1, gI Cs n_a1 v_a1)] := hD
                    refine lv_iconst (v := (1 : Int32)) hx hb dX6_spread_127 (by decide) ?_
                    refine lv_istore (lv' := [(4, .int (1 : Int32)), (7, .int s0), (0, .ref q_o), (1, .ref q_a1), (2, .int x2), (3, .int x3), (5, .int x5), (6, .int x6)]) hx hb dX6_spread_128 hl (by decide) rfl (fun ls hl => ?_)
                    exact B130 _ _ _ (upd w_o_years x6.toNatClampNeg s0) (1 : Int32) x5 x6 hP hD hS (lv_sub hl [2, 3, 4, 5, 0, 6, 7] rfl) h
              have B71 : ∀ (H : Heap) (locs : List Loc) (ls : Array Slot) (w_o_years : (Nat → Int32)) (x4 : Int32) (x5 : Int32) (x6 : Int32) (s0 : Int32), va_P D vwCl [(q_o, .inr (6, [.int v_o_refusal, .ref q_o_text, .int v_o_size, .ref q_o_now, .ref q_o_trial, .ref q_o_diary, .int v_o_acts, .ref q_o_kept, .ref q_o_isKept, .ref q_o_years, .int v_o_least, .int v_o_origins, .int v_o_ofAll, .int v_o_ofSome, .int v_o_sets, .int v_o_spot, .int v_o_out])), (q_o_years, gI Cs 10 w_o_years), (q_a1, gI Cs n_a1 v_a1)] H → va_D A [(q_o, .inr (6, [.int v_o_refusal, .ref q_o_text, .int v_o_size, .ref q_o_now, .ref q_o_trial, .ref q_o_diary, .int v_o_acts, .ref q_o_kept, .ref q_o_isKept, .ref q_o_years, .int v_o_least, .int v_o_origins, .int v_o_ofAll, .int v_o_ofSome, .int v_o_sets, .int v_o_spot, .int v_o_out])), (q_o_years, gI Cs 10 w_o_years), (q_a1, gI Cs n_a1 v_a1)] → va_S A s.heap H locs → lv_has ls 8 [(0, .ref q_o), (1, .ref q_a1), (2, .int x2), (3, .int x3), (4, .int x4), (5, .int x5), (6, .int x6)] → P_X6_spread_b71 n_a1 v_o_years v_a1 x2 x3 post (P_X6_spread_l3 n_a1 v_o_years v_a1 x2 x3 post n3) (P_X6_spread_l14 n_a1 v_o_years v_a1 x2 x3 post (P_X6_spread_l3 n_a1 v_o_years v_a1 x2 x3 post n3) n14) (P_X6_spread_l25 n_a1 v_o_years v_a1 x2 x3 post (P_X6_spread_l3 n_a1 v_o_years v_a1 x2 x3 post n3) (P_X6_spread_l14 n_a1 v_o_years v_a1 x2 x3 post (P_X6_spread_l3 n_a1 v_o_years v_a1 x2 x3 post n3) n14) n25) w_o_years x4 x5 x6 s0 → W p l e ({ frames := 2, cells := 0, slots := 0, locals := 43 } : Room) s m args below meth c H locs 0 0 Q (F0 m 71 ls [.int s0]) := by
                intro H locs ls w_o_years x4 x5 x6 s0 hP hD hS hl h
                unfold P_X6_spread_b71 at h
                refine lv_istore (lv' := [(7, .int s0), (0, .ref q_o), (1, .ref q_a1), (2, .int x2), (3, .int x3), (4, .int x4), (5, .int x5), (6, .int x6)]) hx hb dX6_spread_71 hl (by decide) rfl (fun ls hl => ?_)
                refine lv_iload hx hb dX6_spread_73 (lv_at hl 0 rfl) ?_
                refine lv_aload_n hx hb dX6_spread_75 rfl (lv_at hl 2 rfl) ?_
                refine lv_iload hx hb dX6_spread_76 (lv_at hl 7 rfl) ?_
                refine lv_iload_n hx hb dX6_spread_78 rfl (lv_at hl 3 rfl) ?_
                refine gSR (As := [.ref q_a1, .int x6, .int x2]) (rest := [.int s0]) ⟨hx, hb, hml, hown, htb⟩ hK hP hN [2] rfl (c_X6_bound l D Cs q_a1 n_a1 v_a1 x6 x2 h) (va_cwS 3 htb (TB_s tb_361 tb_362 tb_5 (TB_self tb_363)) rfl rfl rfl z_X6_bound.2 ⟨Nat.le_of_ble_eq_true rfl, Nat.le_of_ble_eq_true rfl⟩) rfl hl.1 rfl (Nat.le_of_ble_eq_true rfl) ⟨Nat.le_of_ble_eq_true rfl, Nat.le_of_ble_eq_true rfl⟩ dX6_spread_79 (fun r_6 h => ?_)
                refine lv_icmp_ge (tgt := 95) hx hb dX6_spread_82 (by decide) (fun c_7 => ?_) (fun c_7 => ?_)
                · have h := h.1 c_7
                  refine lv_iload hx hb dX6_spread_95 (lv_at hl 0 rfl) ?_
                  exact B97 _ _ _ w_o_years x4 x5 x6 s0 hP hD hS (lv_sub hl [1, 2, 3, 4, 5, 6, 7] rfl) h
                · have h := h.2 c_7
                  refine lv_aload_n hx hb dX6_spread_85 rfl (lv_at hl 2 rfl) ?_
                  refine lv_iload hx hb dX6_spread_86 (lv_at hl 7 rfl) ?_
                  refine lv_iload_n hx hb dX6_spread_88 rfl (lv_at hl 3 rfl) ?_
                  refine gSR (As := [.ref q_a1, .int x6, .int x2]) (rest := []) ⟨hx, hb, hml, hown, htb⟩ hK hP hN [2] rfl (c_X6_bound l D Cs q_a1 n_a1 v_a1 x6 x2 h) (va_cwS 3 htb (TB_s tb_361 tb_362 tb_5 (TB_self tb_363)) rfl rfl rfl z_X6_bound.2 ⟨Nat.le_of_ble_eq_true rfl, Nat.le_of_ble_eq_true rfl⟩) rfl hl.1 rfl (Nat.le_of_ble_eq_true rfl) ⟨Nat.le_of_ble_eq_true rfl, Nat.le_of_ble_eq_true rfl⟩ dX6_spread_89 (fun r_8 h => ?_)
                  refine lv_goto (tgt := 97) hx hb dX6_spread_92 (by decide) ?_
                  exact B97 _ _ _ w_o_years x4 x5 x6 r_8 hP hD hS (lv_sub hl [1, 2, 3, 4, 5, 6, 7] rfl) h
              have B50 : ∀ (H : Heap) (locs : List Loc) (ls : Array Slot) (w_o_years : (Nat → Int32)) (x4 : Int32) (x5 : Int32) (x6 : Int32), va_P D vwCl [(q_o, .inr (6, [.int v_o_refusal, .ref q_o_text, .int v_o_size, .ref q_o_now, .ref q_o_trial, .ref q_o_diary, .int v_o_acts, .ref q_o_kept, .ref q_o_isKept, .ref q_o_years, .int v_o_least, .int v_o_origins, .int v_o_ofAll, .int v_o_ofSome, .int v_o_sets, .int v_o_spot, .int v_o_out])), (q_o_years, gI Cs 10 w_o_years), (q_a1, gI Cs n_a1 v_a1)] H → va_D A [(q_o, .inr (6, [.int v_o_refusal, .ref q_o_text, .int v_o_size, .ref q_o_now, .ref q_o_trial, .ref q_o_diary, .int v_o_acts, .ref q_o_kept, .ref q_o_isKept, .ref q_o_years, .int v_o_least, .int v_o_origins, .int v_o_ofAll, .int v_o_ofSome, .int v_o_sets, .int v_o_spot, .int v_o_out])), (q_o_years, gI Cs 10 w_o_years), (q_a1, gI Cs n_a1 v_a1)] → va_S A s.heap H locs → lv_has ls 8 [(0, .ref q_o), (1, .ref q_a1), (2, .int x2), (3, .int x3), (4, .int x4), (5, .int x5), (6, .int x6)] → P_X6_spread_b50 n_a1 v_o_years v_a1 x2 x3 post (P_X6_spread_l3 n_a1 v_o_years v_a1 x2 x3 post n3) (P_X6_spread_l14 n_a1 v_o_years v_a1 x2 x3 post (P_X6_spread_l3 n_a1 v_o_years v_a1 x2 x3 post n3) n14) (P_X6_spread_l25 n_a1 v_o_years v_a1 x2 x3 post (P_X6_spread_l3 n_a1 v_o_years v_a1 x2 x3 post n3) (P_X6_spread_l14 n_a1 v_o_years v_a1 x2 x3 post (P_X6_spread_l3 n_a1 v_o_years v_a1 x2 x3 post n3) n14) n25) w_o_years x4 x5 x6 → W p l e ({ frames := 2, cells := 0, slots := 0, locals := 43 } : Room) s m args below meth c H locs 0 0 Q (F0 m 50 ls []) := by
                intro H locs ls w_o_years x4 x5 x6 hP hD hS hl h
                unfold P_X6_spread_b50 at h
                refine lv_ldc (v := (100000 : Int32)) hx hb hown (htb _ tb_360) dX6_spread_50 ?_
                refine lv_goto (tgt := 71) hx hb dX6_spread_52 (by decide) ?_
                exact B71 _ _ _ w_o_years x4 x5 x6 (100000 : Int32) hP hD hS (lv_sub hl [0, 1, 2, 3, 4, 5, 6] rfl) h
              intro H locs ls w_o_years x4 x5 x6 hP hD hS hl h
              replace h : P_X6_spread_b25 n_a1 v_o_years v_a1 x2 x3 post (P_X6_spread_l3 n_a1 v_o_years v_a1 x2 x3 post n3) (P_X6_spread_l14 n_a1 v_o_years v_a1 x2 x3 post (P_X6_spread_l3 n_a1 v_o_years v_a1 x2 x3 post n3) n14) (P_X6_spread_l25 n_a1 v_o_years v_a1 x2 x3 post (P_X6_spread_l3 n_a1 v_o_years v_a1 x2 x3 post n3) (P_X6_spread_l14 n_a1 v_o_years v_a1 x2 x3 post (P_X6_spread_l3 n_a1 v_o_years v_a1 x2 x3 post n3) n14) n25) w_o_years x4 x5 x6 := h
              unfold P_X6_spread_b25 at h
              refine lv_iload hx hb dX6_spread_25 (lv_at hl 6 rfl) ?_
              refine lv_aload_n hx hb dX6_spread_27 rfl (lv_at hl 1 rfl) ?_
              refine lv_iconst (v := (0 : Int32)) hx hb dX6_spread_28 (by decide) ?_
              obtain ⟨hi_9, h⟩ := h
              refine va_iald hx hb hK hP 2 0 rfl rfl hi_9 dX6_spread_29 ?_
              refine lv_icmp_ge (tgt := 136) hx hb dX6_spread_30 (by decide) (fun c_10 => ?_) (fun c_10 => ?_)
              · have h := h.1 c_10
                obtain ⟨x5_11, ex5_11⟩ : ∃ y : Int32, y = x5 + (1 : Int32) := ⟨_, rfl⟩
                have h := h _ ex5_11
                refine lv_iinc (v := x5_11) (lv' := [(5, .int x5_11), (0, .ref q_o), (1, .ref q_a1), (2, .int x2), (3, .int x3), (4, .int x4), (6, .int x6)]) hx hb dX6_spread_136 hl (k := 5) rfl (by rw [ex5_11]; rfl) (by decide) rfl (fun ls hl => ?_)
                refine lv_goto (tgt := 14) hx hb dX6_spread_139 (by decide) ?_
                exact ih14 _ _ _ w_o_years x4 x5_11 hP hD hS (lv_sub hl [1, 2, 3, 4, 5, 0] rfl) h
              · have h := h.2 c_10
                refine lv_aload_n hx hb dX6_spread_33 rfl (lv_at hl 1 rfl) ?_
                refine lv_iload hx hb dX6_spread_34 (lv_at hl 5 rfl) ?_
                refine lv_iload hx hb dX6_spread_36 (lv_at hl 6 rfl) ?_
                refine gSR (As := [.ref q_a1, .int x5, .int x6]) (rest := []) ⟨hx, hb, hml, hown, htb⟩ hK hP hN [2] rfl (c_X6_length l D Cs q_a1 n_a1 v_a1 x5 x6 h) (va_cwS 3 htb (TB_s tb_368 tb_369 tb_5 (TB_self tb_370)) rfl rfl rfl z_X6_length.2 ⟨Nat.le_of_ble_eq_true rfl, Nat.le_of_ble_eq_true rfl⟩) rfl hl.1 rfl (Nat.le_of_ble_eq_true rfl) ⟨Nat.le_of_ble_eq_true rfl, Nat.le_of_ble_eq_true rfl⟩ dX6_spread_38 (fun r_12 h => ?_)
                refine lv_if_eq (tgt := 50) hx hb dX6_spread_41 (by decide) (fun c_13 => ?_) (fun c_13 => ?_)
                · have h := h.1 c_13
                  exact B50 _ _ _ w_o_years x4 x5 x6 hP hD hS (lv_sub hl [0, 1, 2, 3, 4, 5, 6] rfl) h
                · have h := h.2 c_13
                  refine lv_iload hx hb dX6_spread_44 (lv_at hl 6 rfl) ?_
                  refine lv_iload_n hx hb dX6_spread_46 rfl (lv_at hl 3 rfl) ?_
                  refine lv_icmp_ne (tgt := 55) hx hb dX6_spread_47 (by decide) (fun c_14 => ?_) (fun c_14 => ?_)
                  · have h := h.2 c_14
                    refine lv_aload_n hx hb dX6_spread_55 rfl (lv_at hl 0 rfl) ?_
                    refine va_get (D := D) (ci := 6) (v := .ref q_o_years) (C := RX6) (T := TX6) (N := 17) hx hb htb inT_X6 hown hK hP 0 rfl rfl 9 (by decide) (htb _ tb_95) (fun _ h9 => h9) rfl dX6_spread_56 ?_
                    refine lv_iload hx hb dX6_spread_59 (lv_at hl 5 rfl) ?_
                    obtain ⟨hi_15, h⟩ := h
                    refine va_iald hx hb hK hP 1 0 rfl rfl hi_15 dX6_spread_61 ?_
                    refine lv_aload_n hx hb dX6_spread_62 rfl (lv_at hl 1 rfl) ?_
                    refine lv_iload hx hb dX6_spread_63 (lv_at hl 5 rfl) ?_
                    refine lv_iload hx hb dX6_spread_65 (lv_at hl 6 rfl) ?_
                    refine gSR (As := [.ref q_a1, .int x5, .int x6]) (rest := [.int (w_o_years x5.toNatClampNeg)]) ⟨hx, hb, hml, hown, htb⟩ hK hP hN [2] rfl (c_X6_length l D Cs q_a1 n_a1 v_a1 x5 x6 h) (va_cwS 3 htb (TB_s tb_368 tb_369 tb_5 (TB_self tb_370)) rfl rfl rfl z_X6_length.2 ⟨Nat.le_of_ble_eq_true rfl, Nat.le_of_ble_eq_true rfl⟩) rfl hl.1 rfl (Nat.le_of_ble_eq_true rfl) ⟨Nat.le_of_ble_eq_true rfl, Nat.le_of_ble_eq_true rfl⟩ dX6_spread_67 (fun r_16 h => ?_)
                    refine lv_iadd hx hb dX6_spread_70 ?_
                    exact B71 _ _ _ w_o_years x4 x5 x6 ((w_o_years x5.toNatClampNeg) + r_16) hP hD hS (lv_sub hl [0, 1, 2, 3, 4, 5, 6] rfl) h
                  · have h := h.1 c_14
                    exact B50 _ _ _ w_o_years x4 x5 x6 hP hD hS (lv_sub hl [0, 1, 2, 3, 4, 5, 6] rfl) h
          intro H locs ls w_o_years x4 x5 hP hD hS hl h
          replace h : P_X6_spread_b14 n_a1 v_o_years v_a1 x2 x3 post (P_X6_spread_l3 n_a1 v_o_years v_a1 x2 x3 post n3) (P_X6_spread_l14 n_a1 v_o_years v_a1 x2 x3 post (P_X6_spread_l3 n_a1 v_o_years v_a1 x2 x3 post n3) n14) w_o_years x4 x5 := h
          unfold P_X6_spread_b14 at h
          refine lv_iload hx hb dX6_spread_14 (lv_at hl 5 rfl) ?_
          refine lv_aload_n hx hb dX6_spread_16 rfl (lv_at hl 1 rfl) ?_
          refine lv_iconst (v := (0 : Int32)) hx hb dX6_spread_17 (by decide) ?_
          obtain ⟨hi_17, h⟩ := h
          refine va_iald hx hb hK hP 2 0 rfl rfl hi_17 dX6_spread_18 ?_
          refine lv_icmp_ge (tgt := 142) hx hb dX6_spread_19 (by decide) (fun c_18 => ?_) (fun c_18 => ?_)
          · have h := h.1 c_18
            refine lv_goto (tgt := 3) hx hb dX6_spread_142 (by decide) ?_
            exact ih3 _ _ _ w_o_years x4 hP hD hS (lv_sub hl [0, 1, 2, 3, 4] rfl) h
          · have h := h.2 c_18
            refine lv_iconst (v := (0 : Int32)) hx hb dX6_spread_22 (by decide) ?_
            refine lv_istore (lv' := [(6, .int (0 : Int32)), (0, .ref q_o), (1, .ref q_a1), (2, .int x2), (3, .int x3), (4, .int x4), (5, .int x5)]) hx hb dX6_spread_23 hl (by decide) rfl (fun ls hl => ?_)
            obtain ⟨n, h⟩ := h
            exact L25 n _ _ _ w_o_years x4 x5 (0 : Int32) hP hD hS (lv_sub hl [1, 2, 3, 4, 5, 6, 0] rfl) h
      intro H locs ls w_o_years x4 hP hD hS hl h
      replace h : P_X6_spread_b3 n_a1 v_o_years v_a1 x2 x3 post (P_X6_spread_l3 n_a1 v_o_years v_a1 x2 x3 post n3) w_o_years x4 := h
      unfold P_X6_spread_b3 at h
      refine lv_iload hx hb dX6_spread_3 (lv_at hl 4 rfl) ?_
      refine lv_if_eq (tgt := 145) hx hb dX6_spread_5 (by decide) (fun c_19 => ?_) (fun c_19 => ?_)
      · have h := h.1 c_19
        rw [← hQ]
        exact gRetV (u := w_o_years) hx hb hr h hP hD hS dX6_spread_145 hlocks
      · have h := h.2 c_19
        refine lv_iconst (v := (0 : Int32)) hx hb dX6_spread_8 (by decide) ?_
        refine lv_istore (lv' := [(4, .int (0 : Int32)), (0, .ref q_o), (1, .ref q_a1), (2, .int x2), (3, .int x3)]) hx hb dX6_spread_9 hl (by decide) rfl (fun ls hl => ?_)
        refine lv_iconst (v := (0 : Int32)) hx hb dX6_spread_11 (by decide) ?_
        refine lv_istore (lv' := [(5, .int (0 : Int32)), (4, .int (0 : Int32)), (0, .ref q_o), (1, .ref q_a1), (2, .int x2), (3, .int x3)]) hx hb dX6_spread_12 hl (by decide) rfl (fun ls hl => ?_)
        obtain ⟨n, h⟩ := h
        exact L14 n _ _ _ w_o_years (0 : Int32) (0 : Int32) hP hD hS (lv_sub hl [2, 3, 4, 5, 1, 0] rfl) h
  unfold P_X6_spread at h
  refine lv_iconst (v := (1 : Int32)) hx hb dX6_spread_0 (by decide) ?_
  refine lv_istore (lv' := [(4, .int (1 : Int32)), (0, .ref q_o), (1, .ref q_a1), (2, .int x2), (3, .int x3)]) hx hb dX6_spread_1 hl (by decide) rfl (fun ls hl => ?_)
  obtain ⟨n, h⟩ := h
  exact L3 n _ _ _ v_o_years (1 : Int32) hP hD hS (lv_sub hl [1, 2, 3, 4, 0] rfl) h
set_option maxHeartbeats 4000000 in
set_option maxRecDepth 100000 in
theorem c_X6_layOrigins (l : Launch) (D : va_G) (Cs : Nat → ClassId) (q_o : Nat) (q_a1 : Nat) (q_o_text : Nat) (q_o_now : Nat) (q_o_trial : Nat) (q_o_diary : Nat) (q_o_kept : Nat) (q_o_isKept : Nat) (q_o_years : Nat) (n_a1 : Nat) (sz : Nat) (v_o_years : (Nat → Int32)) (v_a1 : (Nat → Int32)) (v_o_refusal : Int32) (v_o_size : Int32) (v_o_acts : Int32) (v_o_least : Int32) (v_o_origins : Int32) (v_o_ofAll : Int32) (v_o_ofSome : Int32) (v_o_sets : Int32) (v_o_spot : Int32) (v_o_out : Int32) (x2 : Int32) (x3 : Int32) {post : (Nat → Int32) → Prop} (h : P_X6_layOrigins n_a1 v_o_years v_a1 x2 x3 post) : Met l yX6_layOrigins wsX6_layOrigins ({ frames := 2, cells := 0, slots := 0, locals := 43 } : Room) (va_Pc [.ref q_o, .ref q_a1, .int x2, .int x3] (gM D Cs [(q_o, .inr (6, [.int v_o_refusal, .ref q_o_text, .int v_o_size, .ref q_o_now, .ref q_o_trial, .ref q_o_diary, .int v_o_acts, .ref q_o_kept, .ref q_o_isKept, .ref q_o_years, .int v_o_least, .int v_o_origins, .int v_o_ofAll, .int v_o_ofSome, .int v_o_sets, .int v_o_spot, .int v_o_out])), (q_o_years, gI Cs 10 v_o_years), (q_a1, gI Cs n_a1 v_a1)] sz)) (va_Qv (fun (u : (Nat → Int32)) => post u) (gB D (va_A [(q_o, .inr (6, [.int v_o_refusal, .ref q_o_text, .int v_o_size, .ref q_o_now, .ref q_o_trial, .ref q_o_diary, .int v_o_acts, .ref q_o_kept, .ref q_o_isKept, .ref q_o_years, .int v_o_least, .int v_o_origins, .int v_o_ofAll, .int v_o_ofSome, .int v_o_sets, .int v_o_spot, .int v_o_out])), (q_o_years, gI Cs 10 v_o_years), (q_a1, gI Cs n_a1 v_a1)] sz) (fun u : (Nat → Int32) => [(q_o, .inr (6, [.int v_o_refusal, .ref q_o_text, .int v_o_size, .ref q_o_now, .ref q_o_trial, .ref q_o_diary, .int v_o_acts, .ref q_o_kept, .ref q_o_isKept, .ref q_o_years, .int v_o_least, .int v_o_origins, .int v_o_ofAll, .int v_o_ofSome, .int v_o_sets, .int v_o_spot, .int v_o_out])), (q_o_years, gI Cs 10 u), (q_a1, gI Cs n_a1 v_a1)])) (va_A [(q_o, .inr (6, [.int v_o_refusal, .ref q_o_text, .int v_o_size, .ref q_o_now, .ref q_o_trial, .ref q_o_diary, .int v_o_acts, .ref q_o_kept, .ref q_o_isKept, .ref q_o_years, .int v_o_least, .int v_o_origins, .int v_o_ofAll, .int v_o_ofSome, .int v_o_sets, .int v_o_spot, .int v_o_out])), (q_o_years, gI Cs 10 v_o_years), (q_a1, gI Cs n_a1 v_a1)] sz)) 0 0 (va_A [(q_o, .inr (6, [.int v_o_refusal, .ref q_o_text, .int v_o_size, .ref q_o_now, .ref q_o_trial, .ref q_o_diary, .int v_o_acts, .ref q_o_kept, .ref q_o_isKept, .ref q_o_years, .int v_o_least, .int v_o_origins, .int v_o_ofAll, .int v_o_ofSome, .int v_o_sets, .int v_o_spot, .int v_o_out])), (q_o_years, gI Cs 10 v_o_years), (q_a1, gI Cs n_a1 v_a1)] sz) := by
  refine Met.ofW (cc := cX6_layOrigins) (maxL := 5) (ret := none) (by decide) rfl ?_
  intro p e s m args below meth c s₁ B hml hv
  obtain ⟨ha, hsz, hP, hK, hD0, hN⟩ := hv
  have hx := B.exec
  have hb := B.bytes
  have hr := B.returns
  have hts := atoms_spec (ws := wsX6_layOrigins) B.pre
  have htb : ∀ w ∈ TB, w.before args s = true := fun w h9 => hts w (List.mem_cons_of_mem _ h9)
  have hown : s.vm.findClass RX6 = some m.cls := findClass_of_methodNamed B.named
  have hlocks := B.notSynchronized
  subst hsz
  have hD := hD0.self (sz := s.heap.size)
  generalize hAe : va_A [(q_o, .inr (6, [.int v_o_refusal, .ref q_o_text, .int v_o_size, .ref q_o_now, .ref q_o_trial, .ref q_o_diary, .int v_o_acts, .ref q_o_kept, .ref q_o_isKept, .ref q_o_years, .int v_o_least, .int v_o_origins, .int v_o_ofAll, .int v_o_ofSome, .int v_o_sets, .int v_o_spot, .int v_o_out])), (q_o_years, gI Cs 10 v_o_years), (q_a1, gI Cs n_a1 v_a1)] s.heap.size = A at hD ⊢
  have hA : ∀ q : Nat, s.heap.size ≤ q → A q := fun q h9 => by rw [← hAe]; exact Or.inr h9
  obtain ⟨H, hH⟩ : ∃ z : Heap, z = s.heap := ⟨_, rfl⟩
  have hS : va_S A s.heap H [] := by rw [hH]; exact va_S.rf
  have hP : va_P D vwCl [(q_o, .inr (6, [.int v_o_refusal, .ref q_o_text, .int v_o_size, .ref q_o_now, .ref q_o_trial, .ref q_o_diary, .int v_o_acts, .ref q_o_kept, .ref q_o_isKept, .ref q_o_years, .int v_o_least, .int v_o_origins, .int v_o_ofAll, .int v_o_ofSome, .int v_o_sets, .int v_o_spot, .int v_o_out])), (q_o_years, gI Cs 10 v_o_years), (q_a1, gI Cs n_a1 v_a1)] H := by rw [hH]; exact hP
  generalize hQ : MQ below _ args s _ _ _ = Q
  show W p l e ({ frames := 2, cells := 0, slots := 0, locals := 43 } : Room) s m args below meth c s.heap [] 0 0 Q (entryFrame m args 5)
  have hent : entryFrame m args 5 = F0 m 0 ((lg_sl ([.ref q_o, .ref q_a1, .int x2, .int x3]) ++ List.replicate (5 - (lg_sl ([.ref q_o, .ref q_a1, .int x2, .int x3])).length) Slot.unset).toArray) [] := by rw [ha]; exact lg_entry_eq m ([.ref q_o, .ref q_a1, .int x2, .int x3]) 5
  rw [hent]; clear hent
  rw [← hH]
  have hl := lv_entry ([.ref q_o, .ref q_a1, .int x2, .int x3]) (n := 5) (Nat.le_of_ble_eq_true rfl)
  generalize (lg_sl ([.ref q_o, .ref q_a1, .int x2, .int x3]) ++ List.replicate (5 - (lg_sl ([.ref q_o, .ref q_a1, .int x2, .int x3])).length) Slot.unset).toArray = ls at hl ⊢
  have hl : lv_has ls 5 [(0, .ref q_o), (1, .ref q_a1), (2, .int x2), (3, .int x3)] := hl
  have L3 : ∀ (n : Nat) (H : Heap) (locs : List Loc) (ls : Array Slot) (w_o_years : (Nat → Int32)) (x4 : Int32), va_P D vwCl [(q_o, .inr (6, [.int v_o_refusal, .ref q_o_text, .int v_o_size, .ref q_o_now, .ref q_o_trial, .ref q_o_diary, .int v_o_acts, .ref q_o_kept, .ref q_o_isKept, .ref q_o_years, .int v_o_least, .int v_o_origins, .int v_o_ofAll, .int v_o_ofSome, .int v_o_sets, .int v_o_spot, .int v_o_out])), (q_o_years, gI Cs 10 w_o_years), (q_a1, gI Cs n_a1 v_a1)] H → va_D A [(q_o, .inr (6, [.int v_o_refusal, .ref q_o_text, .int v_o_size, .ref q_o_now, .ref q_o_trial, .ref q_o_diary, .int v_o_acts, .ref q_o_kept, .ref q_o_isKept, .ref q_o_years, .int v_o_least, .int v_o_origins, .int v_o_ofAll, .int v_o_ofSome, .int v_o_sets, .int v_o_spot, .int v_o_out])), (q_o_years, gI Cs 10 w_o_years), (q_a1, gI Cs n_a1 v_a1)] → va_S A s.heap H locs → lv_has ls 5 [(0, .ref q_o), (1, .ref q_a1), (2, .int x2), (3, .int x3), (4, .int x4)] → P_X6_layOrigins_l3 n_a1 v_o_years v_a1 x2 x3 post n w_o_years x4 → W p l e ({ frames := 2, cells := 0, slots := 0, locals := 43 } : Room) s m args below meth c H locs 0 0 Q (F0 m 3 ls []) := by
    intro n3
    induction n3 with
    | zero => intro H locs ls w_o_years x4 hP hD hS hl h; exact False.elim h
    | succ n3 ih3 =>
      have B39 : ∀ (H : Heap) (locs : List Loc) (ls : Array Slot) (w_o_years : (Nat → Int32)) (x4 : Int32) (s1 : Int32) (s2 : Int32), va_P D vwCl [(q_o, .inr (6, [.int v_o_refusal, .ref q_o_text, .int v_o_size, .ref q_o_now, .ref q_o_trial, .ref q_o_diary, .int v_o_acts, .ref q_o_kept, .ref q_o_isKept, .ref q_o_years, .int v_o_least, .int v_o_origins, .int v_o_ofAll, .int v_o_ofSome, .int v_o_sets, .int v_o_spot, .int v_o_out])), (q_o_years, gI Cs 10 w_o_years), (q_a1, gI Cs n_a1 v_a1)] H → va_D A [(q_o, .inr (6, [.int v_o_refusal, .ref q_o_text, .int v_o_size, .ref q_o_now, .ref q_o_trial, .ref q_o_diary, .int v_o_acts, .ref q_o_kept, .ref q_o_isKept, .ref q_o_years, .int v_o_least, .int v_o_origins, .int v_o_ofAll, .int v_o_ofSome, .int v_o_sets, .int v_o_spot, .int v_o_out])), (q_o_years, gI Cs 10 w_o_years), (q_a1, gI Cs n_a1 v_a1)] → va_S A s.heap H locs → lv_has ls 5 [(0, .ref q_o), (1, .ref q_a1), (2, .int x2), (3, .int x3), (4, .int x4)] → P_X6_layOrigins_b39 n_a1 v_o_years v_a1 x2 x3 post (P_X6_layOrigins_l3 n_a1 v_o_years v_a1 x2 x3 post n3) w_o_years x4 s1 s2 → W p l e ({ frames := 2, cells := 0, slots := 0, locals := 43 } : Room) s m args below meth c H locs 0 0 Q (F0 m 39 ls [.int s2, .int s1, .ref q_o_years]) := by
        intro H locs ls w_o_years x4 s1 s2 hP hD hS hl h
        unfold P_X6_layOrigins_b39 at h
        obtain ⟨hi_1, h⟩ := h
        refine va_iast hx hb hK hP hD hS 1 0 rfl rfl hi_1 dX6_layOrigins_39 (fun H locs hP hD hS => ?_)
        have hP : va_P D vwCl [(q_o, .inr (6, [.int v_o_refusal, .ref q_o_text, .int v_o_size, .ref q_o_now, .ref q_o_trial, .ref q_o_diary, .int v_o_acts, .ref q_o_kept, .ref q_o_isKept, .ref q_o_years, .int v_o_least, .int v_o_origins, .int v_o_ofAll, .int v_o_ofSome, .int v_o_sets, .int v_o_spot, .int v_o_out])), (q_o_years, gI Cs 10 (upd w_o_years s1.toNatClampNeg s2)), (q_a1, gI Cs n_a1 v_a1)] H := hP
        have hD : va_D A [(q_o, .inr (6, [.int v_o_refusal, .ref q_o_text, .int v_o_size, .ref q_o_now, .ref q_o_trial, .ref q_o_diary, .int v_o_acts, .ref q_o_kept, .ref q_o_isKept, .ref q_o_years, .int v_o_least, .int v_o_origins, .int v_o_ofAll, .int v_o_ofSome, .int v_o_sets, .int v_o_spot, .int v_o_out])), (q_o_years, gI Cs 10 (upd w_o_years s1.toNatClampNeg s2)), (q_a1, gI Cs n_a1 v_a1)] := hD
        obtain ⟨x4_2, ex4_2⟩ : ∃ y : Int32, y = x4 + (1 : Int32) := ⟨_, rfl⟩
        have h := h _ ex4_2
        refine lv_iinc (v := x4_2) (lv' := [(4, .int x4_2), (0, .ref q_o), (1, .ref q_a1), (2, .int x2), (3, .int x3)]) hx hb dX6_layOrigins_40 hl (k := 4) rfl (by rw [ex4_2]; rfl) (by decide) rfl (fun ls hl => ?_)
        refine lv_goto (tgt := 3) hx hb dX6_layOrigins_43 (by decide) ?_
        exact ih3 _ _ _ (upd w_o_years s1.toNatClampNeg s2) x4_2 hP hD hS (lv_sub hl [1, 2, 3, 4, 0] rfl) h
      intro H locs ls w_o_years x4 hP hD hS hl h
      replace h : P_X6_layOrigins_b3 n_a1 v_o_years v_a1 x2 x3 post (P_X6_layOrigins_l3 n_a1 v_o_years v_a1 x2 x3 post n3) w_o_years x4 := h
      unfold P_X6_layOrigins_b3 at h
      refine lv_iload hx hb dX6_layOrigins_3 (lv_at hl 4 rfl) ?_
      refine lv_aload_n hx hb dX6_layOrigins_5 rfl (lv_at hl 1 rfl) ?_
      refine lv_iconst (v := (0 : Int32)) hx hb dX6_layOrigins_6 (by decide) ?_
      obtain ⟨hi_3, h⟩ := h
      refine va_iald hx hb hK hP 2 0 rfl rfl hi_3 dX6_layOrigins_7 ?_
      refine lv_icmp_ge (tgt := 46) hx hb dX6_layOrigins_8 (by decide) (fun c_4 => ?_) (fun c_4 => ?_)
      · have h := h.1 c_4
        rw [← hQ]
        exact gRetV (u := w_o_years) hx hb hr h hP hD hS dX6_layOrigins_46 hlocks
      · have h := h.2 c_4
        refine lv_aload_n hx hb dX6_layOrigins_11 rfl (lv_at hl 0 rfl) ?_
        refine va_get (D := D) (ci := 6) (v := .ref q_o_years) (C := RX6) (T := TX6) (N := 17) hx hb htb inT_X6 hown hK hP 0 rfl rfl 9 (by decide) (htb _ tb_95) (fun _ h9 => h9) rfl dX6_layOrigins_12 ?_
        refine lv_iload hx hb dX6_layOrigins_15 (lv_at hl 4 rfl) ?_
        refine lv_iload_n hx hb dX6_layOrigins_17 rfl (lv_at hl 3 rfl) ?_
        refine lv_iload hx hb dX6_layOrigins_18 (lv_at hl 4 rfl) ?_
        refine lv_ishr hx hb dX6_layOrigins_20 ?_
        refine lv_iconst (v := (1 : Int32)) hx hb dX6_layOrigins_21 (by decide) ?_
        refine lv_iand hx hb dX6_layOrigins_22 ?_
        refine lv_iconst (v := (1 : Int32)) hx hb dX6_layOrigins_23 (by decide) ?_
        refine lv_icmp_ne (tgt := 37) hx hb dX6_layOrigins_24 (by decide) (fun c_5 => ?_) (fun c_5 => ?_)
        · have h := h.2 c_5
          refine lv_ldc (v := (100000 : Int32)) hx hb hown (htb _ tb_360) dX6_layOrigins_37 ?_
          exact B39 _ _ _ w_o_years x4 x4 (100000 : Int32) hP hD hS (lv_sub hl [0, 1, 2, 3, 4] rfl) h
        · have h := h.1 c_5
          refine lv_aload_n hx hb dX6_layOrigins_27 rfl (lv_at hl 1 rfl) ?_
          refine lv_iload hx hb dX6_layOrigins_28 (lv_at hl 4 rfl) ?_
          refine lv_iload_n hx hb dX6_layOrigins_30 rfl (lv_at hl 2 rfl) ?_
          refine gSR (As := [.ref q_a1, .int x4, .int x2]) (rest := [.int x4, .ref q_o_years]) ⟨hx, hb, hml, hown, htb⟩ hK hP hN [2] rfl (c_X6_bound l D Cs q_a1 n_a1 v_a1 x4 x2 h) (va_cwS 3 htb (TB_s tb_361 tb_362 tb_5 (TB_self tb_363)) rfl rfl rfl z_X6_bound.2 ⟨Nat.le_of_ble_eq_true rfl, Nat.le_of_ble_eq_true rfl⟩) rfl hl.1 rfl (Nat.le_of_ble_eq_true rfl) ⟨Nat.le_of_ble_eq_true rfl, Nat.le_of_ble_eq_true rfl⟩ dX6_layOrigins_31 (fun r_6 h => ?_)
          refine lv_goto (tgt := 39) hx hb dX6_layOrigins_34 (by decide) ?_
          exact B39 _ _ _ w_o_years x4 x4 r_6 hP hD hS (lv_sub hl [0, 1, 2, 3, 4] rfl) h
  unfold P_X6_layOrigins at h
  refine lv_iconst (v := (0 : Int32)) hx hb dX6_layOrigins_0 (by decide) ?_
  refine lv_istore (lv' := [(4, .int (0 : Int32)), (0, .ref q_o), (1, .ref q_a1), (2, .int x2), (3, .int x3)]) hx hb dX6_layOrigins_1 hl (by decide) rfl (fun ls hl => ?_)
  obtain ⟨n, h⟩ := h
  exact L3 n _ _ _ v_o_years (0 : Int32) hP hD hS (lv_sub hl [1, 2, 3, 4, 0] rfl) h
set_option maxHeartbeats 4000000 in
set_option maxRecDepth 100000 in
theorem c_X6_allInTime (l : Launch) (D : va_G) (Cs : Nat → ClassId) (q_o : Nat) (q_a1 : Nat) (q_o_text : Nat) (q_o_now : Nat) (q_o_trial : Nat) (q_o_diary : Nat) (q_o_kept : Nat) (q_o_isKept : Nat) (q_o_years : Nat) (n_a1 : Nat) (v_o_years : (Nat → Int32)) (v_a1 : (Nat → Int32)) (v_o_refusal : Int32) (v_o_size : Int32) (v_o_acts : Int32) (v_o_least : Int32) (v_o_origins : Int32) (v_o_ofAll : Int32) (v_o_ofSome : Int32) (v_o_sets : Int32) (v_o_spot : Int32) (v_o_out : Int32) (x2 : Int32) {post : Int32 → Prop} (h : P_X6_allInTime n_a1 v_o_years v_a1 x2 post) : Met l yX6_allInTime wsX6_allInTime ({ frames := 1, cells := 0, slots := 0, locals := 21 } : Room) (va_Pc [.ref q_o, .ref q_a1, .int x2] (gR D Cs [(q_o, .inr (6, [.int v_o_refusal, .ref q_o_text, .int v_o_size, .ref q_o_now, .ref q_o_trial, .ref q_o_diary, .int v_o_acts, .ref q_o_kept, .ref q_o_isKept, .ref q_o_years, .int v_o_least, .int v_o_origins, .int v_o_ofAll, .int v_o_ofSome, .int v_o_sets, .int v_o_spot, .int v_o_out])), (q_o_years, gI Cs 10 v_o_years), (q_a1, gI Cs n_a1 v_a1)])) (vp_Si post) 0 0 (fun _ => False) := by
  refine Met.ofW (cc := cX6_allInTime) (maxL := 6) (ret := (some .boolean)) (by decide) rfl ?_
  intro p e s m args below meth c s₁ B hml hv
  obtain ⟨ha, hP, hK, hN⟩ := hv
  have hx := B.exec
  have hb := B.bytes
  have hr := B.returns
  have hts := atoms_spec (ws := wsX6_allInTime) B.pre
  have htb : ∀ w ∈ TB, w.before args s = true := fun w h9 => hts w (List.mem_cons_of_mem _ h9)
  have hown : s.vm.findClass RX6 = some m.cls := findClass_of_methodNamed B.named
  have hlocks := B.notSynchronized
  generalize hQ : MQ below _ args s _ _ _ = Q
  show W p l e ({ frames := 1, cells := 0, slots := 0, locals := 21 } : Room) s m args below meth c s.heap [] 0 0 Q (entryFrame m args 6)
  have hent : entryFrame m args 6 = F0 m 0 ((lg_sl ([.ref q_o, .ref q_a1, .int x2]) ++ List.replicate (6 - (lg_sl ([.ref q_o, .ref q_a1, .int x2])).length) Slot.unset).toArray) [] := by rw [ha]; exact lg_entry_eq m ([.ref q_o, .ref q_a1, .int x2]) 6
  rw [hent]; clear hent
  have hl := lv_entry ([.ref q_o, .ref q_a1, .int x2]) (n := 6) (Nat.le_of_ble_eq_true rfl)
  generalize (lg_sl ([.ref q_o, .ref q_a1, .int x2]) ++ List.replicate (6 - (lg_sl ([.ref q_o, .ref q_a1, .int x2])).length) Slot.unset).toArray = ls at hl ⊢
  have hl : lv_has ls 6 [(0, .ref q_o), (1, .ref q_a1), (2, .int x2)] := hl
  have L5 : ∀ (n : Nat) (ls : Array Slot) (x3 : Int32) (x4 : Int32), lv_has ls 6 [(0, .ref q_o), (1, .ref q_a1), (2, .int x2), (3, .int x3), (4, .int x4)] → P_X6_allInTime_l5 n_a1 v_o_years v_a1 x2 post n x3 x4 → W p l e ({ frames := 1, cells := 0, slots := 0, locals := 21 } : Room) s m args below meth c s.heap [] 0 0 Q (F0 m 5 ls []) := by
    intro n5
    induction n5 with
    | zero => intro ls x3 x4 hl h; exact False.elim h
    | succ n5 ih5 =>
      have B54 : ∀ (ls : Array Slot) (x4 : Int32) (s0 : Int32), lv_has ls 6 [(0, .ref q_o), (1, .ref q_a1), (2, .int x2), (4, .int x4)] → P_X6_allInTime_b54 n_a1 v_o_years v_a1 x2 post (P_X6_allInTime_l5 n_a1 v_o_years v_a1 x2 post n5) x4 s0 → W p l e ({ frames := 1, cells := 0, slots := 0, locals := 21 } : Room) s m args below meth c s.heap [] 0 0 Q (F0 m 54 ls [.int s0]) := by
        intro ls x4 s0 hl h
        unfold P_X6_allInTime_b54 at h
        refine lv_istore_n (lv' := [(3, .int s0), (0, .ref q_o), (1, .ref q_a1), (2, .int x2), (4, .int x4)]) hx hb dX6_allInTime_54 rfl hl (by decide) rfl (fun ls hl => ?_)
        obtain ⟨x4_1, ex4_1⟩ : ∃ y : Int32, y = x4 + (1 : Int32) := ⟨_, rfl⟩
        have h := h _ ex4_1
        refine lv_iinc (v := x4_1) (lv' := [(4, .int x4_1), (3, .int s0), (0, .ref q_o), (1, .ref q_a1), (2, .int x2)]) hx hb dX6_allInTime_55 hl (k := 4) rfl (by rw [ex4_1]; rfl) (by decide) rfl (fun ls hl => ?_)
        refine lv_goto (tgt := 5) hx hb dX6_allInTime_58 (by decide) ?_
        exact ih5 _ s0 x4_1 (lv_sub hl [2, 3, 4, 1, 0] rfl) h
      have B49 : ∀ (ls : Array Slot) (x4 : Int32), lv_has ls 6 [(0, .ref q_o), (1, .ref q_a1), (2, .int x2), (4, .int x4)] → P_X6_allInTime_b49 n_a1 v_o_years v_a1 x2 post (P_X6_allInTime_l5 n_a1 v_o_years v_a1 x2 post n5) x4 → W p l e ({ frames := 1, cells := 0, slots := 0, locals := 21 } : Room) s m args below meth c s.heap [] 0 0 Q (F0 m 49 ls []) := by
        intro ls x4 hl h
        unfold P_X6_allInTime_b49 at h
        refine lv_iconst (v := (1 : Int32)) hx hb dX6_allInTime_49 (by decide) ?_
        refine lv_goto (tgt := 54) hx hb dX6_allInTime_50 (by decide) ?_
        exact B54 _ x4 (1 : Int32) (lv_sub hl [0, 1, 2, 3] rfl) h
      have B53 : ∀ (ls : Array Slot) (x4 : Int32), lv_has ls 6 [(0, .ref q_o), (1, .ref q_a1), (2, .int x2), (4, .int x4)] → P_X6_allInTime_b53 n_a1 v_o_years v_a1 x2 post (P_X6_allInTime_l5 n_a1 v_o_years v_a1 x2 post n5) x4 → W p l e ({ frames := 1, cells := 0, slots := 0, locals := 21 } : Room) s m args below meth c s.heap [] 0 0 Q (F0 m 53 ls []) := by
        intro ls x4 hl h
        unfold P_X6_allInTime_b53 at h
        refine lv_iconst (v := (0 : Int32)) hx hb dX6_allInTime_53 (by decide) ?_
        exact B54 _ x4 (0 : Int32) (lv_sub hl [0, 1, 2, 3] rfl) h
      intro ls x3 x4 hl h
      replace h : P_X6_allInTime_b5 n_a1 v_o_years v_a1 x2 post (P_X6_allInTime_l5 n_a1 v_o_years v_a1 x2 post n5) x3 x4 := h
      unfold P_X6_allInTime_b5 at h
      refine lv_iload hx hb dX6_allInTime_5 (lv_at hl 4 rfl) ?_
      refine lv_aload_n hx hb dX6_allInTime_7 rfl (lv_at hl 1 rfl) ?_
      refine lv_iconst (v := (0 : Int32)) hx hb dX6_allInTime_8 (by decide) ?_
      obtain ⟨hi_2, h⟩ := h
      refine va_iald hx hb hK hP 2 0 rfl rfl hi_2 dX6_allInTime_9 ?_
      refine lv_icmp_ge (tgt := 61) hx hb dX6_allInTime_10 (by decide) (fun c_3 => ?_) (fun c_3 => ?_)
      · have h := h.1 c_3
        refine lv_iload_n hx hb dX6_allInTime_61 rfl (lv_at hl 3 rfl) ?_
        obtain ⟨hnb, h⟩ := h
        rw [← hQ]
        exact gRetR hx hb hr hnb h dX6_allInTime_62 hlocks
      · have h := h.2 c_3
        refine lv_aload_n hx hb dX6_allInTime_13 rfl (lv_at hl 1 rfl) ?_
        refine lv_bipush (v := (101 : Int32)) hx hb dX6_allInTime_14 (by decide) ?_
        refine lv_iload hx hb dX6_allInTime_16 (lv_at hl 4 rfl) ?_
        refine lv_iload_n hx hb dX6_allInTime_18 rfl (lv_at hl 2 rfl) ?_
        refine gSR (As := [.int x4, .int x2]) (rest := [.int (101 : Int32), .ref q_a1]) ⟨hx, hb, hml, hown, htb⟩ hK hP hN [] rfl (c_X6_at l D Cs x4 x2 h) (va_cwS 2 htb (TB_s tb_203 tb_204 tb_5 (TB_self tb_205)) rfl rfl rfl z_X6_at.2 ⟨Nat.le_of_ble_eq_true rfl, Nat.le_of_ble_eq_true rfl⟩) rfl hl.1 rfl (Nat.le_of_ble_eq_true rfl) ⟨Nat.le_of_ble_eq_true rfl, Nat.le_of_ble_eq_true rfl⟩ dX6_allInTime_19 (fun r_4 h => ?_)
        refine lv_iadd hx hb dX6_allInTime_22 ?_
        obtain ⟨hi_5, h⟩ := h
        refine va_iald hx hb hK hP 2 0 rfl rfl hi_5 dX6_allInTime_23 ?_
        refine lv_topi (fun x5_6 ex5_6 => ?_)
        have h := h _ ex5_6
        refine lv_istore (lv' := [(5, .int x5_6), (0, .ref q_o), (1, .ref q_a1), (2, .int x2), (3, .int x3), (4, .int x4)]) hx hb dX6_allInTime_24 hl (by decide) rfl (fun ls hl => ?_)
        refine lv_iload_n hx hb dX6_allInTime_26 rfl (lv_at hl 4 rfl) ?_
        refine lv_if_eq (tgt := 53) hx hb dX6_allInTime_27 (by decide) (fun c_7 => ?_) (fun c_7 => ?_)
        · have h := h.1 c_7
          exact B53 _ x4 (lv_sub hl [1, 2, 3, 5] rfl) h
        · have h := h.2 c_7
          refine lv_iload hx hb dX6_allInTime_30 (lv_at hl 0 rfl) ?_
          refine lv_if_eq (tgt := 49) hx hb dX6_allInTime_32 (by decide) (fun c_8 => ?_) (fun c_8 => ?_)
          · have h := h.1 c_8
            exact B49 _ x4 (lv_sub hl [1, 2, 3, 5] rfl) h
          · have h := h.2 c_8
            refine lv_aload_n hx hb dX6_allInTime_35 rfl (lv_at hl 1 rfl) ?_
            refine va_get (D := D) (ci := 6) (v := .ref q_o_years) (C := RX6) (T := TX6) (N := 17) hx hb htb inT_X6 hown hK hP 0 rfl rfl 9 (by decide) (htb _ tb_95) (fun _ h9 => h9) rfl dX6_allInTime_36 ?_
            refine lv_iload hx hb dX6_allInTime_39 (lv_at hl 5 rfl) ?_
            obtain ⟨hi_9, h⟩ := h
            refine va_iald hx hb hK hP 1 0 rfl rfl hi_9 dX6_allInTime_41 ?_
            refine lv_iload hx hb dX6_allInTime_42 (lv_at hl 0 rfl) ?_
            refine lv_iconst (v := (1 : Int32)) hx hb dX6_allInTime_44 (by decide) ?_
            refine lv_isub hx hb dX6_allInTime_45 ?_
            refine lv_icmp_gt (tgt := 53) hx hb dX6_allInTime_46 (by decide) (fun c_10 => ?_) (fun c_10 => ?_)
            · have h := h.1 c_10
              exact B53 _ x4 (lv_sub hl [1, 2, 3, 5] rfl) h
            · have h := h.2 c_10
              exact B49 _ x4 (lv_sub hl [1, 2, 3, 5] rfl) h
  unfold P_X6_allInTime at h
  refine lv_iconst (v := (1 : Int32)) hx hb dX6_allInTime_0 (by decide) ?_
  refine lv_istore_n (lv' := [(3, .int (1 : Int32)), (0, .ref q_o), (1, .ref q_a1), (2, .int x2)]) hx hb dX6_allInTime_1 rfl hl (by decide) rfl (fun ls hl => ?_)
  refine lv_iconst (v := (0 : Int32)) hx hb dX6_allInTime_2 (by decide) ?_
  refine lv_istore (lv' := [(4, .int (0 : Int32)), (3, .int (1 : Int32)), (0, .ref q_o), (1, .ref q_a1), (2, .int x2)]) hx hb dX6_allInTime_3 hl (by decide) rfl (fun ls hl => ?_)
  obtain ⟨n, h⟩ := h
  exact L5 n _ (1 : Int32) (0 : Int32) (lv_sub hl [2, 3, 4, 1, 0] rfl) h
set_option maxHeartbeats 4000000 in
set_option maxRecDepth 100000 in
theorem c_X6_ones (l : Launch) (D : va_G) (Cs : Nat → ClassId) (x0 : Int32) {post : Int32 → Prop} (h : P_X6_ones x0 post) : Met l yX6_ones wsX6_ones ({ frames := 0, cells := 0, slots := 0, locals := 0 } : Room) (va_Pc [.int x0] (gR D Cs [])) (vp_Si post) 0 0 (fun _ => False) := by
  refine Met.ofW (cc := cX6_ones) (maxL := 3) (ret := (some .int)) (by decide) rfl ?_
  intro p e s m args below meth c s₁ B hml hv
  obtain ⟨ha, hP, hK, hN⟩ := hv
  have hx := B.exec
  have hb := B.bytes
  have hr := B.returns
  have hts := atoms_spec (ws := wsX6_ones) B.pre
  have htb : ∀ w ∈ TB, w.before args s = true := fun w h9 => hts w (List.mem_cons_of_mem _ h9)
  have hown : s.vm.findClass RX6 = some m.cls := findClass_of_methodNamed B.named
  have hlocks := B.notSynchronized
  generalize hQ : MQ below _ args s _ _ _ = Q
  show W p l e ({ frames := 0, cells := 0, slots := 0, locals := 0 } : Room) s m args below meth c s.heap [] 0 0 Q (entryFrame m args 3)
  have hent : entryFrame m args 3 = F0 m 0 ((lg_sl ([.int x0]) ++ List.replicate (3 - (lg_sl ([.int x0])).length) Slot.unset).toArray) [] := by rw [ha]; exact lg_entry_eq m ([.int x0]) 3
  rw [hent]; clear hent
  have hl := lv_entry ([.int x0]) (n := 3) (Nat.le_of_ble_eq_true rfl)
  generalize (lg_sl ([.int x0]) ++ List.replicate (3 - (lg_sl ([.int x0])).length) Slot.unset).toArray = ls at hl ⊢
  have hl : lv_has ls 3 [(0, .int x0)] := hl
  have L4 : ∀ (n : Nat) (ls : Array Slot) (x1 : Int32) (x2 : Int32), lv_has ls 3 [(0, .int x0), (1, .int x1), (2, .int x2)] → P_X6_ones_l4 x0 post n x1 x2 → W p l e ({ frames := 0, cells := 0, slots := 0, locals := 0 } : Room) s m args below meth c s.heap [] 0 0 Q (F0 m 4 ls []) := by
    intro n4
    induction n4 with
    | zero => intro ls x1 x2 hl h; exact False.elim h
    | succ n4 ih4 =>
      intro ls x1 x2 hl h
      replace h : P_X6_ones_b4 x0 post (P_X6_ones_l4 x0 post n4) x1 x2 := h
      unfold P_X6_ones_b4 at h
      refine lv_iload_n hx hb dX6_ones_4 rfl (lv_at hl 2 rfl) ?_
      refine lv_bipush (v := (10 : Int32)) hx hb dX6_ones_5 (by decide) ?_
      refine lv_icmp_ge (tgt := 24) hx hb dX6_ones_7 (by decide) (fun c_1 => ?_) (fun c_1 => ?_)
      · have h := h.1 c_1
        refine lv_iload_n hx hb dX6_ones_24 rfl (lv_at hl 1 rfl) ?_
        rw [← hQ]
        exact gRetR hx hb hr rfl h dX6_ones_25 hlocks
      · have h := h.2 c_1
        refine lv_iload_n hx hb dX6_ones_10 rfl (lv_at hl 1 rfl) ?_
        refine lv_iload_n hx hb dX6_ones_11 rfl (lv_at hl 0 rfl) ?_
        refine lv_iload_n hx hb dX6_ones_12 rfl (lv_at hl 2 rfl) ?_
        refine lv_ishr hx hb dX6_ones_13 ?_
        refine lv_iconst (v := (1 : Int32)) hx hb dX6_ones_14 (by decide) ?_
        refine lv_iand hx hb dX6_ones_15 ?_
        refine lv_iadd hx hb dX6_ones_16 ?_
        refine lv_topi (fun x1_2 ex1_2 => ?_)
        have h := h _ ex1_2
        refine lv_istore_n (lv' := [(1, .int x1_2), (0, .int x0), (2, .int x2)]) hx hb dX6_ones_17 rfl hl (by decide) rfl (fun ls hl => ?_)
        obtain ⟨x2_3, ex2_3⟩ : ∃ y : Int32, y = x2 + (1 : Int32) := ⟨_, rfl⟩
        have h := h _ ex2_3
        refine lv_iinc (v := x2_3) (lv' := [(2, .int x2_3), (1, .int x1_2), (0, .int x0)]) hx hb dX6_ones_18 hl (k := 2) rfl (by rw [ex2_3]; rfl) (by decide) rfl (fun ls hl => ?_)
        refine lv_goto (tgt := 4) hx hb dX6_ones_21 (by decide) ?_
        exact ih4 _ x1_2 x2_3 (lv_sub hl [2, 1, 0] rfl) h
  unfold P_X6_ones at h
  refine lv_iconst (v := (0 : Int32)) hx hb dX6_ones_0 (by decide) ?_
  refine lv_istore_n (lv' := [(1, .int (0 : Int32)), (0, .int x0)]) hx hb dX6_ones_1 rfl hl (by decide) rfl (fun ls hl => ?_)
  refine lv_iconst (v := (0 : Int32)) hx hb dX6_ones_2 (by decide) ?_
  refine lv_istore_n (lv' := [(2, .int (0 : Int32)), (1, .int (0 : Int32)), (0, .int x0)]) hx hb dX6_ones_3 rfl hl (by decide) rfl (fun ls hl => ?_)
  obtain ⟨n, h⟩ := h
  exact L4 n _ (0 : Int32) (0 : Int32) (lv_sub hl [2, 1, 0] rfl) h
set_option maxHeartbeats 4000000 in
set_option maxRecDepth 100000 in
theorem c_X6_findLeast (l : Launch) (D : va_G) (Cs : Nat → ClassId) (q_o : Nat) (q_a1 : Nat) (q_o_text : Nat) (q_o_now : Nat) (q_o_trial : Nat) (q_o_diary : Nat) (q_o_kept : Nat) (q_o_isKept : Nat) (q_o_years : Nat) (n_a1 : Nat) (sz : Nat) (b_o : BM) (v_a1 : (Nat → Int32)) (v_o_refusal : Int32) (v_o_size : Int32) (v_o_acts : Int32) (v_o_spot : Int32) (v_o_out : Int32) (x2 : Int32) {post : BM → Prop} (h : P_X6_findLeast n_a1 b_o v_a1 x2 post) : Met l yX6_findLeast wsX6_findLeast ({ frames := 3, cells := 0, slots := 0, locals := 70 } : Room) (va_Pc [.ref q_o, .ref q_a1, .int x2] (gM D Cs [(q_o, .inr (6, [.int v_o_refusal, .ref q_o_text, .int v_o_size, .ref q_o_now, .ref q_o_trial, .ref q_o_diary, .int v_o_acts, .ref q_o_kept, .ref q_o_isKept, .ref q_o_years, .int b_o.1, .int b_o.2.1, .int b_o.2.2.1, .int b_o.2.2.2.1, .int b_o.2.2.2.2.1, .int v_o_spot, .int v_o_out])), (q_o_years, gI Cs 10 b_o.2.2.2.2.2), (q_a1, gI Cs n_a1 v_a1)] sz)) (va_Qv (fun (u : BM) => post u) (gB D (va_A [(q_o, .inr (6, [.int v_o_refusal, .ref q_o_text, .int v_o_size, .ref q_o_now, .ref q_o_trial, .ref q_o_diary, .int v_o_acts, .ref q_o_kept, .ref q_o_isKept, .ref q_o_years, .int b_o.1, .int b_o.2.1, .int b_o.2.2.1, .int b_o.2.2.2.1, .int b_o.2.2.2.2.1, .int v_o_spot, .int v_o_out])), (q_o_years, gI Cs 10 b_o.2.2.2.2.2), (q_a1, gI Cs n_a1 v_a1)] sz) (fun u : BM => [(q_o, .inr (6, [.int v_o_refusal, .ref q_o_text, .int v_o_size, .ref q_o_now, .ref q_o_trial, .ref q_o_diary, .int v_o_acts, .ref q_o_kept, .ref q_o_isKept, .ref q_o_years, .int u.1, .int u.2.1, .int u.2.2.1, .int u.2.2.2.1, .int u.2.2.2.2.1, .int v_o_spot, .int v_o_out])), (q_o_years, gI Cs 10 u.2.2.2.2.2), (q_a1, gI Cs n_a1 v_a1)])) (va_A [(q_o, .inr (6, [.int v_o_refusal, .ref q_o_text, .int v_o_size, .ref q_o_now, .ref q_o_trial, .ref q_o_diary, .int v_o_acts, .ref q_o_kept, .ref q_o_isKept, .ref q_o_years, .int b_o.1, .int b_o.2.1, .int b_o.2.2.1, .int b_o.2.2.2.1, .int b_o.2.2.2.2.1, .int v_o_spot, .int v_o_out])), (q_o_years, gI Cs 10 b_o.2.2.2.2.2), (q_a1, gI Cs n_a1 v_a1)] sz)) 0 0 (va_A [(q_o, .inr (6, [.int v_o_refusal, .ref q_o_text, .int v_o_size, .ref q_o_now, .ref q_o_trial, .ref q_o_diary, .int v_o_acts, .ref q_o_kept, .ref q_o_isKept, .ref q_o_years, .int b_o.1, .int b_o.2.1, .int b_o.2.2.1, .int b_o.2.2.2.1, .int b_o.2.2.2.2.1, .int v_o_spot, .int v_o_out])), (q_o_years, gI Cs 10 b_o.2.2.2.2.2), (q_a1, gI Cs n_a1 v_a1)] sz) := by
  refine Met.ofW (cc := cX6_findLeast) (maxL := 6) (ret := none) (by decide) rfl ?_
  intro p e s m args below meth c s₁ B hml hv
  obtain ⟨ha, hsz, hP, hK, hD0, hN⟩ := hv
  have hx := B.exec
  have hb := B.bytes
  have hr := B.returns
  have hts := atoms_spec (ws := wsX6_findLeast) B.pre
  have htb : ∀ w ∈ TB, w.before args s = true := fun w h9 => hts w (List.mem_cons_of_mem _ h9)
  have hown : s.vm.findClass RX6 = some m.cls := findClass_of_methodNamed B.named
  have hlocks := B.notSynchronized
  subst hsz
  have hD := hD0.self (sz := s.heap.size)
  generalize hAe : va_A [(q_o, .inr (6, [.int v_o_refusal, .ref q_o_text, .int v_o_size, .ref q_o_now, .ref q_o_trial, .ref q_o_diary, .int v_o_acts, .ref q_o_kept, .ref q_o_isKept, .ref q_o_years, .int b_o.1, .int b_o.2.1, .int b_o.2.2.1, .int b_o.2.2.2.1, .int b_o.2.2.2.2.1, .int v_o_spot, .int v_o_out])), (q_o_years, gI Cs 10 b_o.2.2.2.2.2), (q_a1, gI Cs n_a1 v_a1)] s.heap.size = A at hD ⊢
  have hA : ∀ q : Nat, s.heap.size ≤ q → A q := fun q h9 => by rw [← hAe]; exact Or.inr h9
  obtain ⟨H, hH⟩ : ∃ z : Heap, z = s.heap := ⟨_, rfl⟩
  have hS : va_S A s.heap H [] := by rw [hH]; exact va_S.rf
  have hP : va_P D vwCl [(q_o, .inr (6, [.int v_o_refusal, .ref q_o_text, .int v_o_size, .ref q_o_now, .ref q_o_trial, .ref q_o_diary, .int v_o_acts, .ref q_o_kept, .ref q_o_isKept, .ref q_o_years, .int b_o.1, .int b_o.2.1, .int b_o.2.2.1, .int b_o.2.2.2.1, .int b_o.2.2.2.2.1, .int v_o_spot, .int v_o_out])), (q_o_years, gI Cs 10 b_o.2.2.2.2.2), (q_a1, gI Cs n_a1 v_a1)] H := by rw [hH]; exact hP
  generalize hQ : MQ below _ args s _ _ _ = Q
  show W p l e ({ frames := 3, cells := 0, slots := 0, locals := 70 } : Room) s m args below meth c s.heap [] 0 0 Q (entryFrame m args 6)
  have hent : entryFrame m args 6 = F0 m 0 ((lg_sl ([.ref q_o, .ref q_a1, .int x2]) ++ List.replicate (6 - (lg_sl ([.ref q_o, .ref q_a1, .int x2])).length) Slot.unset).toArray) [] := by rw [ha]; exact lg_entry_eq m ([.ref q_o, .ref q_a1, .int x2]) 6
  rw [hent]; clear hent
  rw [← hH]
  have hl := lv_entry ([.ref q_o, .ref q_a1, .int x2]) (n := 6) (Nat.le_of_ble_eq_true rfl)
  generalize (lg_sl ([.ref q_o, .ref q_a1, .int x2]) ++ List.replicate (6 - (lg_sl ([.ref q_o, .ref q_a1, .int x2])).length) Slot.unset).toArray = ls at hl ⊢
  have hl : lv_has ls 6 [(0, .ref q_o), (1, .ref q_a1), (2, .int x2)] := hl
  have B200 : ∀ (H : Heap) (locs : List Loc) (ls : Array Slot) (d_o : BM), va_P D vwCl [(q_o, .inr (6, [.int v_o_refusal, .ref q_o_text, .int v_o_size, .ref q_o_now, .ref q_o_trial, .ref q_o_diary, .int v_o_acts, .ref q_o_kept, .ref q_o_isKept, .ref q_o_years, .int d_o.1, .int d_o.2.1, .int d_o.2.2.1, .int d_o.2.2.2.1, .int d_o.2.2.2.2.1, .int v_o_spot, .int v_o_out])), (q_o_years, gI Cs 10 d_o.2.2.2.2.2), (q_a1, gI Cs n_a1 v_a1)] H → va_D A [(q_o, .inr (6, [.int v_o_refusal, .ref q_o_text, .int v_o_size, .ref q_o_now, .ref q_o_trial, .ref q_o_diary, .int v_o_acts, .ref q_o_kept, .ref q_o_isKept, .ref q_o_years, .int d_o.1, .int d_o.2.1, .int d_o.2.2.1, .int d_o.2.2.2.1, .int d_o.2.2.2.2.1, .int v_o_spot, .int v_o_out])), (q_o_years, gI Cs 10 d_o.2.2.2.2.2), (q_a1, gI Cs n_a1 v_a1)] → va_S A s.heap H locs → lv_has ls 6 [(0, .ref q_o), (1, .ref q_a1), (2, .int x2)] → P_X6_findLeast_b200 n_a1 b_o v_a1 x2 post d_o → W p l e ({ frames := 3, cells := 0, slots := 0, locals := 70 } : Room) s m args below meth c H locs 0 0 Q (F0 m 200 ls []) := by
    intro H locs ls d_o hP hD hS hl h
    unfold P_X6_findLeast_b200 at h
    rw [← hQ]
    exact gRetV (u := d_o) hx hb hr h hP hD hS dX6_findLeast_200 hlocks
  have L27 : ∀ (n : Nat) (H : Heap) (locs : List Loc) (ls : Array Slot) (d_o : BM) (x3 : Int32), va_P D vwCl [(q_o, .inr (6, [.int v_o_refusal, .ref q_o_text, .int v_o_size, .ref q_o_now, .ref q_o_trial, .ref q_o_diary, .int v_o_acts, .ref q_o_kept, .ref q_o_isKept, .ref q_o_years, .int d_o.1, .int d_o.2.1, .int d_o.2.2.1, .int d_o.2.2.2.1, .int d_o.2.2.2.2.1, .int v_o_spot, .int v_o_out])), (q_o_years, gI Cs 10 d_o.2.2.2.2.2), (q_a1, gI Cs n_a1 v_a1)] H → va_D A [(q_o, .inr (6, [.int v_o_refusal, .ref q_o_text, .int v_o_size, .ref q_o_now, .ref q_o_trial, .ref q_o_diary, .int v_o_acts, .ref q_o_kept, .ref q_o_isKept, .ref q_o_years, .int d_o.1, .int d_o.2.1, .int d_o.2.2.1, .int d_o.2.2.2.1, .int d_o.2.2.2.2.1, .int v_o_spot, .int v_o_out])), (q_o_years, gI Cs 10 d_o.2.2.2.2.2), (q_a1, gI Cs n_a1 v_a1)] → va_S A s.heap H locs → lv_has ls 6 [(0, .ref q_o), (1, .ref q_a1), (2, .int x2), (3, .int x3)] → P_X6_findLeast_l27 n_a1 b_o v_a1 x2 post n d_o x3 → W p l e ({ frames := 3, cells := 0, slots := 0, locals := 70 } : Room) s m args below meth c H locs 0 0 Q (F0 m 27 ls []) := by
    intro n27
    induction n27 with
    | zero => intro H locs ls d_o x3 hP hD hS hl h; exact False.elim h
    | succ n27 ih27 =>
      have B194 : ∀ (H : Heap) (locs : List Loc) (ls : Array Slot) (d_o : BM) (x3 : Int32), va_P D vwCl [(q_o, .inr (6, [.int v_o_refusal, .ref q_o_text, .int v_o_size, .ref q_o_now, .ref q_o_trial, .ref q_o_diary, .int v_o_acts, .ref q_o_kept, .ref q_o_isKept, .ref q_o_years, .int d_o.1, .int d_o.2.1, .int d_o.2.2.1, .int d_o.2.2.2.1, .int d_o.2.2.2.2.1, .int v_o_spot, .int v_o_out])), (q_o_years, gI Cs 10 d_o.2.2.2.2.2), (q_a1, gI Cs n_a1 v_a1)] H → va_D A [(q_o, .inr (6, [.int v_o_refusal, .ref q_o_text, .int v_o_size, .ref q_o_now, .ref q_o_trial, .ref q_o_diary, .int v_o_acts, .ref q_o_kept, .ref q_o_isKept, .ref q_o_years, .int d_o.1, .int d_o.2.1, .int d_o.2.2.1, .int d_o.2.2.2.1, .int d_o.2.2.2.2.1, .int v_o_spot, .int v_o_out])), (q_o_years, gI Cs 10 d_o.2.2.2.2.2), (q_a1, gI Cs n_a1 v_a1)] → va_S A s.heap H locs → lv_has ls 6 [(0, .ref q_o), (1, .ref q_a1), (2, .int x2), (3, .int x3)] → P_X6_findLeast_b194 n_a1 b_o v_a1 x2 post (P_X6_findLeast_l27 n_a1 b_o v_a1 x2 post n27) d_o x3 → W p l e ({ frames := 3, cells := 0, slots := 0, locals := 70 } : Room) s m args below meth c H locs 0 0 Q (F0 m 194 ls []) := by
        intro H locs ls d_o x3 hP hD hS hl h
        unfold P_X6_findLeast_b194 at h
        obtain ⟨x3_1, ex3_1⟩ : ∃ y : Int32, y = x3 + (1 : Int32) := ⟨_, rfl⟩
        have h := h _ ex3_1
        refine lv_iinc (v := x3_1) (lv' := [(3, .int x3_1), (0, .ref q_o), (1, .ref q_a1), (2, .int x2)]) hx hb dX6_findLeast_194 hl (k := 3) rfl (by rw [ex3_1]; rfl) (by decide) rfl (fun ls hl => ?_)
        refine lv_goto (tgt := 27) hx hb dX6_findLeast_197 (by decide) ?_
        exact ih27 _ _ _ d_o x3_1 hP hD hS (lv_sub hl [1, 2, 3, 0] rfl) h
      have B185 : ∀ (H : Heap) (locs : List Loc) (ls : Array Slot) (d_o : BM) (x3 : Int32) (x4 : Int32) (s1 : Int32), va_P D vwCl [(q_o, .inr (6, [.int v_o_refusal, .ref q_o_text, .int v_o_size, .ref q_o_now, .ref q_o_trial, .ref q_o_diary, .int v_o_acts, .ref q_o_kept, .ref q_o_isKept, .ref q_o_years, .int d_o.1, .int d_o.2.1, .int d_o.2.2.1, .int d_o.2.2.2.1, .int d_o.2.2.2.2.1, .int v_o_spot, .int v_o_out])), (q_o_years, gI Cs 10 d_o.2.2.2.2.2), (q_a1, gI Cs n_a1 v_a1)] H → va_D A [(q_o, .inr (6, [.int v_o_refusal, .ref q_o_text, .int v_o_size, .ref q_o_now, .ref q_o_trial, .ref q_o_diary, .int v_o_acts, .ref q_o_kept, .ref q_o_isKept, .ref q_o_years, .int d_o.1, .int d_o.2.1, .int d_o.2.2.1, .int d_o.2.2.2.1, .int d_o.2.2.2.2.1, .int v_o_spot, .int v_o_out])), (q_o_years, gI Cs 10 d_o.2.2.2.2.2), (q_a1, gI Cs n_a1 v_a1)] → va_S A s.heap H locs → lv_has ls 6 [(0, .ref q_o), (1, .ref q_a1), (2, .int x2), (3, .int x3), (4, .int x4)] → P_X6_findLeast_b185 n_a1 b_o v_a1 x2 post (P_X6_findLeast_l27 n_a1 b_o v_a1 x2 post n27) d_o x3 x4 s1 → W p l e ({ frames := 3, cells := 0, slots := 0, locals := 70 } : Room) s m args below meth c H locs 0 0 Q (F0 m 185 ls [.int s1, .ref q_o]) := by
        intro H locs ls d_o x3 x4 s1 hP hD hS hl h
        unfold P_X6_findLeast_b185 at h
        refine va_put (D := D) (ci := 6) (v := .int s1) (ty := .int) (C := RX6) (T := TX6) (N := 17) hx hb htb inT_X6 tyX6 tyX6_ok nmX6 hown hK hP hD hS 0 rfl rfl 14 (by decide) (htb _ tb_349) (fun _ h9 => h9) rfl (tyX6_ok 14 (by decide)) rfl rfl (Nat.le_of_ble_eq_true rfl) dX6_findLeast_185 (fun H locs hP hD hS => ?_)
        have hP : va_P D vwCl [(q_o, .inr (6, [.int v_o_refusal, .ref q_o_text, .int v_o_size, .ref q_o_now, .ref q_o_trial, .ref q_o_diary, .int v_o_acts, .ref q_o_kept, .ref q_o_isKept, .ref q_o_years, .int d_o.1, .int d_o.2.1, .int d_o.2.2.1, .int d_o.2.2.2.1, .int s1, .int v_o_spot, .int v_o_out])), (q_o_years, gI Cs 10 d_o.2.2.2.2.2), (q_a1, gI Cs n_a1 v_a1)] H := hP
        have hD : va_D A [(q_o, .inr (6, [.int v_o_refusal, .ref q_o_text, .int v_o_size, .ref q_o_now, .ref q_o_trial, .ref q_o_diary, .int v_o_acts, .ref q_o_kept, .ref q_o_isKept, .ref q_o_years, .int d_o.1, .int d_o.2.1, .int d_o.2.2.1, .int d_o.2.2.2.1, .int s1, .int v_o_spot, .int v_o_out])), (q_o_years, gI Cs 10 d_o.2.2.2.2.2), (q_a1, gI Cs n_a1 v_a1)] := hD
        refine lv_aload_n hx hb dX6_findLeast_188 rfl (lv_at hl 0 rfl) ?_
        refine lv_iload hx hb dX6_findLeast_189 (lv_at hl 4 rfl) ?_
        refine va_put (D := D) (ci := 6) (v := .int x4) (ty := .int) (C := RX6) (T := TX6) (N := 17) hx hb htb inT_X6 tyX6 tyX6_ok nmX6 hown hK hP hD hS 0 rfl rfl 10 (by decide) (htb _ tb_341) (fun _ h9 => h9) rfl (tyX6_ok 10 (by decide)) rfl rfl (Nat.le_of_ble_eq_true rfl) dX6_findLeast_191 (fun H locs hP hD hS => ?_)
        have hP : va_P D vwCl [(q_o, .inr (6, [.int v_o_refusal, .ref q_o_text, .int v_o_size, .ref q_o_now, .ref q_o_trial, .ref q_o_diary, .int v_o_acts, .ref q_o_kept, .ref q_o_isKept, .ref q_o_years, .int x4, .int d_o.2.1, .int d_o.2.2.1, .int d_o.2.2.2.1, .int s1, .int v_o_spot, .int v_o_out])), (q_o_years, gI Cs 10 d_o.2.2.2.2.2), (q_a1, gI Cs n_a1 v_a1)] H := hP
        have hD : va_D A [(q_o, .inr (6, [.int v_o_refusal, .ref q_o_text, .int v_o_size, .ref q_o_now, .ref q_o_trial, .ref q_o_diary, .int v_o_acts, .ref q_o_kept, .ref q_o_isKept, .ref q_o_years, .int x4, .int d_o.2.1, .int d_o.2.2.1, .int d_o.2.2.2.1, .int s1, .int v_o_spot, .int v_o_out])), (q_o_years, gI Cs 10 d_o.2.2.2.2.2), (q_a1, gI Cs n_a1 v_a1)] := hD
        exact B194 _ _ _ (x4, d_o.2.1, d_o.2.2.1, d_o.2.2.2.1, s1, d_o.2.2.2.2.2) x3 hP hD hS (lv_sub hl [0, 1, 2, 3] rfl) h
      have B166 : ∀ (H : Heap) (locs : List Loc) (ls : Array Slot) (d_o : BM) (x3 : Int32) (x4 : Int32) (x5 : Int32) (s1 : Int32), va_P D vwCl [(q_o, .inr (6, [.int v_o_refusal, .ref q_o_text, .int v_o_size, .ref q_o_now, .ref q_o_trial, .ref q_o_diary, .int v_o_acts, .ref q_o_kept, .ref q_o_isKept, .ref q_o_years, .int d_o.1, .int d_o.2.1, .int d_o.2.2.1, .int d_o.2.2.2.1, .int d_o.2.2.2.2.1, .int v_o_spot, .int v_o_out])), (q_o_years, gI Cs 10 d_o.2.2.2.2.2), (q_a1, gI Cs n_a1 v_a1)] H → va_D A [(q_o, .inr (6, [.int v_o_refusal, .ref q_o_text, .int v_o_size, .ref q_o_now, .ref q_o_trial, .ref q_o_diary, .int v_o_acts, .ref q_o_kept, .ref q_o_isKept, .ref q_o_years, .int d_o.1, .int d_o.2.1, .int d_o.2.2.1, .int d_o.2.2.2.1, .int d_o.2.2.2.2.1, .int v_o_spot, .int v_o_out])), (q_o_years, gI Cs 10 d_o.2.2.2.2.2), (q_a1, gI Cs n_a1 v_a1)] → va_S A s.heap H locs → lv_has ls 6 [(0, .ref q_o), (1, .ref q_a1), (2, .int x2), (3, .int x3), (4, .int x4), (5, .int x5)] → P_X6_findLeast_b166 n_a1 b_o v_a1 x2 post (P_X6_findLeast_l27 n_a1 b_o v_a1 x2 post n27) d_o x3 x4 x5 s1 → W p l e ({ frames := 3, cells := 0, slots := 0, locals := 70 } : Room) s m args below meth c H locs 0 0 Q (F0 m 166 ls [.int s1, .ref q_o]) := by
        intro H locs ls d_o x3 x4 x5 s1 hP hD hS hl h
        unfold P_X6_findLeast_b166 at h
        refine va_put (D := D) (ci := 6) (v := .int s1) (ty := .int) (C := RX6) (T := TX6) (N := 17) hx hb htb inT_X6 tyX6 tyX6_ok nmX6 hown hK hP hD hS 0 rfl rfl 13 (by decide) (htb _ tb_348) (fun _ h9 => h9) rfl (tyX6_ok 13 (by decide)) rfl rfl (Nat.le_of_ble_eq_true rfl) dX6_findLeast_166 (fun H locs hP hD hS => ?_)
        have hP : va_P D vwCl [(q_o, .inr (6, [.int v_o_refusal, .ref q_o_text, .int v_o_size, .ref q_o_now, .ref q_o_trial, .ref q_o_diary, .int v_o_acts, .ref q_o_kept, .ref q_o_isKept, .ref q_o_years, .int d_o.1, .int d_o.2.1, .int d_o.2.2.1, .int s1, .int d_o.2.2.2.2.1, .int v_o_spot, .int v_o_out])), (q_o_years, gI Cs 10 d_o.2.2.2.2.2), (q_a1, gI Cs n_a1 v_a1)] H := hP
        have hD : va_D A [(q_o, .inr (6, [.int v_o_refusal, .ref q_o_text, .int v_o_size, .ref q_o_now, .ref q_o_trial, .ref q_o_diary, .int v_o_acts, .ref q_o_kept, .ref q_o_isKept, .ref q_o_years, .int d_o.1, .int d_o.2.1, .int d_o.2.2.1, .int s1, .int d_o.2.2.2.2.1, .int v_o_spot, .int v_o_out])), (q_o_years, gI Cs 10 d_o.2.2.2.2.2), (q_a1, gI Cs n_a1 v_a1)] := hD
        refine lv_aload_n hx hb dX6_findLeast_169 rfl (lv_at hl 0 rfl) ?_
        refine lv_iload hx hb dX6_findLeast_170 (lv_at hl 5 rfl) ?_
        refine lv_if_eq (tgt := 179) hx hb dX6_findLeast_172 (by decide) (fun c_2 => ?_) (fun c_2 => ?_)
        · have h := h.1 c_2
          refine lv_aload_n hx hb dX6_findLeast_179 rfl (lv_at hl 0 rfl) ?_
          refine va_get (D := D) (ci := 6) (v := .int d_o.2.2.2.2.1) (C := RX6) (T := TX6) (N := 17) hx hb htb inT_X6 hown hK hP 0 rfl rfl 14 (by decide) (htb _ tb_349) (fun _ h9 => h9) rfl dX6_findLeast_180 ?_
          refine lv_iconst (v := (1 : Int32)) hx hb dX6_findLeast_183 (by decide) ?_
          refine lv_iadd hx hb dX6_findLeast_184 ?_
          exact B185 _ _ _ (d_o.1, d_o.2.1, d_o.2.2.1, s1, d_o.2.2.2.2.1, d_o.2.2.2.2.2) x3 x4 (d_o.2.2.2.2.1 + (1 : Int32)) hP hD hS (lv_sub hl [0, 1, 2, 3, 4] rfl) h
        · have h := h.2 c_2
          refine lv_iconst (v := (1 : Int32)) hx hb dX6_findLeast_175 (by decide) ?_
          refine lv_goto (tgt := 185) hx hb dX6_findLeast_176 (by decide) ?_
          exact B185 _ _ _ (d_o.1, d_o.2.1, d_o.2.2.1, s1, d_o.2.2.2.2.1, d_o.2.2.2.2.2) x3 x4 (1 : Int32) hP hD hS (lv_sub hl [0, 1, 2, 3, 4] rfl) h
      have B147 : ∀ (H : Heap) (locs : List Loc) (ls : Array Slot) (d_o : BM) (x3 : Int32) (x4 : Int32) (x5 : Int32) (s1 : Int32), va_P D vwCl [(q_o, .inr (6, [.int v_o_refusal, .ref q_o_text, .int v_o_size, .ref q_o_now, .ref q_o_trial, .ref q_o_diary, .int v_o_acts, .ref q_o_kept, .ref q_o_isKept, .ref q_o_years, .int d_o.1, .int d_o.2.1, .int d_o.2.2.1, .int d_o.2.2.2.1, .int d_o.2.2.2.2.1, .int v_o_spot, .int v_o_out])), (q_o_years, gI Cs 10 d_o.2.2.2.2.2), (q_a1, gI Cs n_a1 v_a1)] H → va_D A [(q_o, .inr (6, [.int v_o_refusal, .ref q_o_text, .int v_o_size, .ref q_o_now, .ref q_o_trial, .ref q_o_diary, .int v_o_acts, .ref q_o_kept, .ref q_o_isKept, .ref q_o_years, .int d_o.1, .int d_o.2.1, .int d_o.2.2.1, .int d_o.2.2.2.1, .int d_o.2.2.2.2.1, .int v_o_spot, .int v_o_out])), (q_o_years, gI Cs 10 d_o.2.2.2.2.2), (q_a1, gI Cs n_a1 v_a1)] → va_S A s.heap H locs → lv_has ls 6 [(0, .ref q_o), (1, .ref q_a1), (2, .int x2), (3, .int x3), (4, .int x4), (5, .int x5)] → P_X6_findLeast_b147 n_a1 b_o v_a1 x2 post (P_X6_findLeast_l27 n_a1 b_o v_a1 x2 post n27) d_o x3 x4 x5 s1 → W p l e ({ frames := 3, cells := 0, slots := 0, locals := 70 } : Room) s m args below meth c H locs 0 0 Q (F0 m 147 ls [.int s1, .ref q_o]) := by
        intro H locs ls d_o x3 x4 x5 s1 hP hD hS hl h
        unfold P_X6_findLeast_b147 at h
        refine va_put (D := D) (ci := 6) (v := .int s1) (ty := .int) (C := RX6) (T := TX6) (N := 17) hx hb htb inT_X6 tyX6 tyX6_ok nmX6 hown hK hP hD hS 0 rfl rfl 12 (by decide) (htb _ tb_347) (fun _ h9 => h9) rfl (tyX6_ok 12 (by decide)) rfl rfl (Nat.le_of_ble_eq_true rfl) dX6_findLeast_147 (fun H locs hP hD hS => ?_)
        have hP : va_P D vwCl [(q_o, .inr (6, [.int v_o_refusal, .ref q_o_text, .int v_o_size, .ref q_o_now, .ref q_o_trial, .ref q_o_diary, .int v_o_acts, .ref q_o_kept, .ref q_o_isKept, .ref q_o_years, .int d_o.1, .int d_o.2.1, .int s1, .int d_o.2.2.2.1, .int d_o.2.2.2.2.1, .int v_o_spot, .int v_o_out])), (q_o_years, gI Cs 10 d_o.2.2.2.2.2), (q_a1, gI Cs n_a1 v_a1)] H := hP
        have hD : va_D A [(q_o, .inr (6, [.int v_o_refusal, .ref q_o_text, .int v_o_size, .ref q_o_now, .ref q_o_trial, .ref q_o_diary, .int v_o_acts, .ref q_o_kept, .ref q_o_isKept, .ref q_o_years, .int d_o.1, .int d_o.2.1, .int s1, .int d_o.2.2.2.1, .int d_o.2.2.2.2.1, .int v_o_spot, .int v_o_out])), (q_o_years, gI Cs 10 d_o.2.2.2.2.2), (q_a1, gI Cs n_a1 v_a1)] := hD
        refine lv_aload_n hx hb dX6_findLeast_150 rfl (lv_at hl 0 rfl) ?_
        refine lv_iload hx hb dX6_findLeast_151 (lv_at hl 5 rfl) ?_
        refine lv_if_eq (tgt := 160) hx hb dX6_findLeast_153 (by decide) (fun c_3 => ?_) (fun c_3 => ?_)
        · have h := h.1 c_3
          refine lv_aload_n hx hb dX6_findLeast_160 rfl (lv_at hl 0 rfl) ?_
          refine va_get (D := D) (ci := 6) (v := .int d_o.2.2.2.1) (C := RX6) (T := TX6) (N := 17) hx hb htb inT_X6 hown hK hP 0 rfl rfl 13 (by decide) (htb _ tb_348) (fun _ h9 => h9) rfl dX6_findLeast_161 ?_
          refine lv_iload_n hx hb dX6_findLeast_164 rfl (lv_at hl 3 rfl) ?_
          refine lv_ior hx hb dX6_findLeast_165 ?_
          exact B166 _ _ _ (d_o.1, d_o.2.1, s1, d_o.2.2.2.1, d_o.2.2.2.2.1, d_o.2.2.2.2.2) x3 x4 x5 (d_o.2.2.2.1 ||| x3) hP hD hS (lv_sub hl [0, 1, 2, 3, 4, 5] rfl) h
        · have h := h.2 c_3
          refine lv_iload_n hx hb dX6_findLeast_156 rfl (lv_at hl 3 rfl) ?_
          refine lv_goto (tgt := 166) hx hb dX6_findLeast_157 (by decide) ?_
          exact B166 _ _ _ (d_o.1, d_o.2.1, s1, d_o.2.2.2.1, d_o.2.2.2.2.1, d_o.2.2.2.2.2) x3 x4 x5 x3 hP hD hS (lv_sub hl [0, 1, 2, 3, 4, 5] rfl) h
      have B128 : ∀ (H : Heap) (locs : List Loc) (ls : Array Slot) (d_o : BM) (x3 : Int32) (x4 : Int32) (x5 : Int32) (s1 : Int32), va_P D vwCl [(q_o, .inr (6, [.int v_o_refusal, .ref q_o_text, .int v_o_size, .ref q_o_now, .ref q_o_trial, .ref q_o_diary, .int v_o_acts, .ref q_o_kept, .ref q_o_isKept, .ref q_o_years, .int d_o.1, .int d_o.2.1, .int d_o.2.2.1, .int d_o.2.2.2.1, .int d_o.2.2.2.2.1, .int v_o_spot, .int v_o_out])), (q_o_years, gI Cs 10 d_o.2.2.2.2.2), (q_a1, gI Cs n_a1 v_a1)] H → va_D A [(q_o, .inr (6, [.int v_o_refusal, .ref q_o_text, .int v_o_size, .ref q_o_now, .ref q_o_trial, .ref q_o_diary, .int v_o_acts, .ref q_o_kept, .ref q_o_isKept, .ref q_o_years, .int d_o.1, .int d_o.2.1, .int d_o.2.2.1, .int d_o.2.2.2.1, .int d_o.2.2.2.2.1, .int v_o_spot, .int v_o_out])), (q_o_years, gI Cs 10 d_o.2.2.2.2.2), (q_a1, gI Cs n_a1 v_a1)] → va_S A s.heap H locs → lv_has ls 6 [(0, .ref q_o), (1, .ref q_a1), (2, .int x2), (3, .int x3), (4, .int x4), (5, .int x5)] → P_X6_findLeast_b128 n_a1 b_o v_a1 x2 post (P_X6_findLeast_l27 n_a1 b_o v_a1 x2 post n27) d_o x3 x4 x5 s1 → W p l e ({ frames := 3, cells := 0, slots := 0, locals := 70 } : Room) s m args below meth c H locs 0 0 Q (F0 m 128 ls [.int s1, .ref q_o]) := by
        intro H locs ls d_o x3 x4 x5 s1 hP hD hS hl h
        unfold P_X6_findLeast_b128 at h
        refine va_put (D := D) (ci := 6) (v := .int s1) (ty := .int) (C := RX6) (T := TX6) (N := 17) hx hb htb inT_X6 tyX6 tyX6_ok nmX6 hown hK hP hD hS 0 rfl rfl 11 (by decide) (htb _ tb_346) (fun _ h9 => h9) rfl (tyX6_ok 11 (by decide)) rfl rfl (Nat.le_of_ble_eq_true rfl) dX6_findLeast_128 (fun H locs hP hD hS => ?_)
        have hP : va_P D vwCl [(q_o, .inr (6, [.int v_o_refusal, .ref q_o_text, .int v_o_size, .ref q_o_now, .ref q_o_trial, .ref q_o_diary, .int v_o_acts, .ref q_o_kept, .ref q_o_isKept, .ref q_o_years, .int d_o.1, .int s1, .int d_o.2.2.1, .int d_o.2.2.2.1, .int d_o.2.2.2.2.1, .int v_o_spot, .int v_o_out])), (q_o_years, gI Cs 10 d_o.2.2.2.2.2), (q_a1, gI Cs n_a1 v_a1)] H := hP
        have hD : va_D A [(q_o, .inr (6, [.int v_o_refusal, .ref q_o_text, .int v_o_size, .ref q_o_now, .ref q_o_trial, .ref q_o_diary, .int v_o_acts, .ref q_o_kept, .ref q_o_isKept, .ref q_o_years, .int d_o.1, .int s1, .int d_o.2.2.1, .int d_o.2.2.2.1, .int d_o.2.2.2.2.1, .int v_o_spot, .int v_o_out])), (q_o_years, gI Cs 10 d_o.2.2.2.2.2), (q_a1, gI Cs n_a1 v_a1)] := hD
        refine lv_aload_n hx hb dX6_findLeast_131 rfl (lv_at hl 0 rfl) ?_
        refine lv_iload hx hb dX6_findLeast_132 (lv_at hl 5 rfl) ?_
        refine lv_if_eq (tgt := 141) hx hb dX6_findLeast_134 (by decide) (fun c_4 => ?_) (fun c_4 => ?_)
        · have h := h.1 c_4
          refine lv_aload_n hx hb dX6_findLeast_141 rfl (lv_at hl 0 rfl) ?_
          refine va_get (D := D) (ci := 6) (v := .int d_o.2.2.1) (C := RX6) (T := TX6) (N := 17) hx hb htb inT_X6 hown hK hP 0 rfl rfl 12 (by decide) (htb _ tb_347) (fun _ h9 => h9) rfl dX6_findLeast_142 ?_
          refine lv_iload_n hx hb dX6_findLeast_145 rfl (lv_at hl 3 rfl) ?_
          refine lv_iand hx hb dX6_findLeast_146 ?_
          exact B147 _ _ _ (d_o.1, s1, d_o.2.2.1, d_o.2.2.2.1, d_o.2.2.2.2.1, d_o.2.2.2.2.2) x3 x4 x5 (d_o.2.2.1 &&& x3) hP hD hS (lv_sub hl [0, 1, 2, 3, 4, 5] rfl) h
        · have h := h.2 c_4
          refine lv_iload_n hx hb dX6_findLeast_137 rfl (lv_at hl 3 rfl) ?_
          refine lv_goto (tgt := 147) hx hb dX6_findLeast_138 (by decide) ?_
          exact B147 _ _ _ (d_o.1, s1, d_o.2.2.1, d_o.2.2.2.1, d_o.2.2.2.2.1, d_o.2.2.2.2.2) x3 x4 x5 x3 hP hD hS (lv_sub hl [0, 1, 2, 3, 4, 5] rfl) h
      have B112 : ∀ (H : Heap) (locs : List Loc) (ls : Array Slot) (d_o : BM) (x3 : Int32) (x4 : Int32) (s0 : Int32), va_P D vwCl [(q_o, .inr (6, [.int v_o_refusal, .ref q_o_text, .int v_o_size, .ref q_o_now, .ref q_o_trial, .ref q_o_diary, .int v_o_acts, .ref q_o_kept, .ref q_o_isKept, .ref q_o_years, .int d_o.1, .int d_o.2.1, .int d_o.2.2.1, .int d_o.2.2.2.1, .int d_o.2.2.2.2.1, .int v_o_spot, .int v_o_out])), (q_o_years, gI Cs 10 d_o.2.2.2.2.2), (q_a1, gI Cs n_a1 v_a1)] H → va_D A [(q_o, .inr (6, [.int v_o_refusal, .ref q_o_text, .int v_o_size, .ref q_o_now, .ref q_o_trial, .ref q_o_diary, .int v_o_acts, .ref q_o_kept, .ref q_o_isKept, .ref q_o_years, .int d_o.1, .int d_o.2.1, .int d_o.2.2.1, .int d_o.2.2.2.1, .int d_o.2.2.2.2.1, .int v_o_spot, .int v_o_out])), (q_o_years, gI Cs 10 d_o.2.2.2.2.2), (q_a1, gI Cs n_a1 v_a1)] → va_S A s.heap H locs → lv_has ls 6 [(0, .ref q_o), (1, .ref q_a1), (2, .int x2), (3, .int x3), (4, .int x4)] → P_X6_findLeast_b112 n_a1 b_o v_a1 x2 post (P_X6_findLeast_l27 n_a1 b_o v_a1 x2 post n27) d_o x3 x4 s0 → W p l e ({ frames := 3, cells := 0, slots := 0, locals := 70 } : Room) s m args below meth c H locs 0 0 Q (F0 m 112 ls [.int s0]) := by
        intro H locs ls d_o x3 x4 s0 hP hD hS hl h
        unfold P_X6_findLeast_b112 at h
        refine lv_istore (lv' := [(5, .int s0), (0, .ref q_o), (1, .ref q_a1), (2, .int x2), (3, .int x3), (4, .int x4)]) hx hb dX6_findLeast_112 hl (by decide) rfl (fun ls hl => ?_)
        refine lv_aload_n hx hb dX6_findLeast_114 rfl (lv_at hl 1 rfl) ?_
        refine lv_iload hx hb dX6_findLeast_115 (lv_at hl 0 rfl) ?_
        refine lv_if_eq (tgt := 124) hx hb dX6_findLeast_117 (by decide) (fun c_5 => ?_) (fun c_5 => ?_)
        · have h := h.1 c_5
          refine lv_aload_n hx hb dX6_findLeast_124 rfl (lv_at hl 1 rfl) ?_
          refine va_get (D := D) (ci := 6) (v := .int d_o.2.1) (C := RX6) (T := TX6) (N := 17) hx hb htb inT_X6 hown hK hP 0 rfl rfl 11 (by decide) (htb _ tb_346) (fun _ h9 => h9) rfl dX6_findLeast_125 ?_
          exact B128 _ _ _ d_o x3 x4 s0 d_o.2.1 hP hD hS (lv_sub hl [1, 2, 3, 4, 5, 0] rfl) h
        · have h := h.2 c_5
          refine lv_iload_n hx hb dX6_findLeast_120 rfl (lv_at hl 4 rfl) ?_
          refine lv_goto (tgt := 128) hx hb dX6_findLeast_121 (by decide) ?_
          exact B128 _ _ _ d_o x3 x4 s0 x3 hP hD hS (lv_sub hl [1, 2, 3, 4, 5, 0] rfl) h
      have B107 : ∀ (H : Heap) (locs : List Loc) (ls : Array Slot) (d_o : BM) (x3 : Int32) (x4 : Int32), va_P D vwCl [(q_o, .inr (6, [.int v_o_refusal, .ref q_o_text, .int v_o_size, .ref q_o_now, .ref q_o_trial, .ref q_o_diary, .int v_o_acts, .ref q_o_kept, .ref q_o_isKept, .ref q_o_years, .int d_o.1, .int d_o.2.1, .int d_o.2.2.1, .int d_o.2.2.2.1, .int d_o.2.2.2.2.1, .int v_o_spot, .int v_o_out])), (q_o_years, gI Cs 10 d_o.2.2.2.2.2), (q_a1, gI Cs n_a1 v_a1)] H → va_D A [(q_o, .inr (6, [.int v_o_refusal, .ref q_o_text, .int v_o_size, .ref q_o_now, .ref q_o_trial, .ref q_o_diary, .int v_o_acts, .ref q_o_kept, .ref q_o_isKept, .ref q_o_years, .int d_o.1, .int d_o.2.1, .int d_o.2.2.1, .int d_o.2.2.2.1, .int d_o.2.2.2.2.1, .int v_o_spot, .int v_o_out])), (q_o_years, gI Cs 10 d_o.2.2.2.2.2), (q_a1, gI Cs n_a1 v_a1)] → va_S A s.heap H locs → lv_has ls 6 [(0, .ref q_o), (1, .ref q_a1), (2, .int x2), (3, .int x3), (4, .int x4)] → P_X6_findLeast_b107 n_a1 b_o v_a1 x2 post (P_X6_findLeast_l27 n_a1 b_o v_a1 x2 post n27) d_o x3 x4 → W p l e ({ frames := 3, cells := 0, slots := 0, locals := 70 } : Room) s m args below meth c H locs 0 0 Q (F0 m 107 ls []) := by
        intro H locs ls d_o x3 x4 hP hD hS hl h
        unfold P_X6_findLeast_b107 at h
        refine lv_iconst (v := (1 : Int32)) hx hb dX6_findLeast_107 (by decide) ?_
        refine lv_goto (tgt := 112) hx hb dX6_findLeast_108 (by decide) ?_
        exact B112 _ _ _ d_o x3 x4 (1 : Int32) hP hD hS (lv_sub hl [0, 1, 2, 3, 4] rfl) h
      have B67 : ∀ (H : Heap) (locs : List Loc) (ls : Array Slot) (d_o : BM) (x3 : Int32) (x4 : Int32), va_P D vwCl [(q_o, .inr (6, [.int v_o_refusal, .ref q_o_text, .int v_o_size, .ref q_o_now, .ref q_o_trial, .ref q_o_diary, .int v_o_acts, .ref q_o_kept, .ref q_o_isKept, .ref q_o_years, .int d_o.1, .int d_o.2.1, .int d_o.2.2.1, .int d_o.2.2.2.1, .int d_o.2.2.2.2.1, .int v_o_spot, .int v_o_out])), (q_o_years, gI Cs 10 d_o.2.2.2.2.2), (q_a1, gI Cs n_a1 v_a1)] H → va_D A [(q_o, .inr (6, [.int v_o_refusal, .ref q_o_text, .int v_o_size, .ref q_o_now, .ref q_o_trial, .ref q_o_diary, .int v_o_acts, .ref q_o_kept, .ref q_o_isKept, .ref q_o_years, .int d_o.1, .int d_o.2.1, .int d_o.2.2.1, .int d_o.2.2.2.1, .int d_o.2.2.2.2.1, .int v_o_spot, .int v_o_out])), (q_o_years, gI Cs 10 d_o.2.2.2.2.2), (q_a1, gI Cs n_a1 v_a1)] → va_S A s.heap H locs → lv_has ls 6 [(0, .ref q_o), (1, .ref q_a1), (2, .int x2), (3, .int x3), (4, .int x4)] → P_X6_findLeast_b67 n_a1 b_o v_a1 x2 post (P_X6_findLeast_l27 n_a1 b_o v_a1 x2 post n27) d_o x3 x4 → W p l e ({ frames := 3, cells := 0, slots := 0, locals := 70 } : Room) s m args below meth c H locs 0 0 Q (F0 m 67 ls []) := by
        intro H locs ls d_o x3 x4 hP hD hS hl h
        unfold P_X6_findLeast_b67 at h
        refine lv_aload_n hx hb dX6_findLeast_67 rfl (lv_at hl 0 rfl) ?_
        refine lv_aload_n hx hb dX6_findLeast_68 rfl (lv_at hl 1 rfl) ?_
        refine lv_iload_n hx hb dX6_findLeast_69 rfl (lv_at hl 2 rfl) ?_
        refine lv_iload_n hx hb dX6_findLeast_70 rfl (lv_at hl 3 rfl) ?_
        refine gVMv (wr := []) (As := [.ref q_a1, .int x2, .int x3]) (rest := []) ⟨hx, hb, hml, hown, htb⟩ hK hP hD hS hA hN [0, 1, 2] [] rfl (by decide) rfl (by decide) (by decide) (c_X6_layOrigins l D Cs q_o q_a1 q_o_text q_o_now q_o_trial q_o_diary q_o_kept q_o_isKept q_o_years n_a1 H.size d_o.2.2.2.2.2 v_a1 v_o_refusal v_o_size v_o_acts d_o.1 d_o.2.1 d_o.2.2.1 d_o.2.2.2.1 d_o.2.2.2.2.1 v_o_spot v_o_out x2 x3 h) (cwV 3 htb (TB_v tb_356 tb_357 tb_358 tb_5 (TB_self tb_359)) rfl rfl rfl z_X6_layOrigins ⟨Nat.le_of_ble_eq_true rfl, Nat.le_of_ble_eq_true rfl⟩) 0 rfl rfl rfl rfl hl.1 rfl (Nat.le_of_ble_eq_true rfl) ⟨Nat.le_of_ble_eq_true rfl, Nat.le_of_ble_eq_true rfl⟩ dX6_findLeast_71 (fun m_7 H locs h hP hD hS => ?_)
        have hP : va_P D vwCl [(q_o, .inr (6, [.int v_o_refusal, .ref q_o_text, .int v_o_size, .ref q_o_now, .ref q_o_trial, .ref q_o_diary, .int v_o_acts, .ref q_o_kept, .ref q_o_isKept, .ref q_o_years, .int d_o.1, .int d_o.2.1, .int d_o.2.2.1, .int d_o.2.2.2.1, .int d_o.2.2.2.2.1, .int v_o_spot, .int v_o_out])), (q_o_years, gI Cs 10 m_7), (q_a1, gI Cs n_a1 v_a1)] H := hP
        have hD : va_D A [(q_o, .inr (6, [.int v_o_refusal, .ref q_o_text, .int v_o_size, .ref q_o_now, .ref q_o_trial, .ref q_o_diary, .int v_o_acts, .ref q_o_kept, .ref q_o_isKept, .ref q_o_years, .int d_o.1, .int d_o.2.1, .int d_o.2.2.1, .int d_o.2.2.2.1, .int d_o.2.2.2.2.1, .int v_o_spot, .int v_o_out])), (q_o_years, gI Cs 10 m_7), (q_a1, gI Cs n_a1 v_a1)] := hD
        refine lv_aload_n hx hb dX6_findLeast_74 rfl (lv_at hl 0 rfl) ?_
        refine lv_aload_n hx hb dX6_findLeast_75 rfl (lv_at hl 1 rfl) ?_
        refine lv_iload_n hx hb dX6_findLeast_76 rfl (lv_at hl 2 rfl) ?_
        refine lv_iconst (v := (-1 : Int32)) hx hb dX6_findLeast_77 (by decide) ?_
        refine gVMv (wr := []) (As := [.ref q_a1, .int x2, .int (-1 : Int32)]) (rest := []) ⟨hx, hb, hml, hown, htb⟩ hK hP hD hS hA hN [0, 1, 2] [] rfl (by decide) rfl (by decide) (by decide) (c_X6_spread l D Cs q_o q_a1 q_o_text q_o_now q_o_trial q_o_diary q_o_kept q_o_isKept q_o_years n_a1 H.size m_7 v_a1 v_o_refusal v_o_size v_o_acts d_o.1 d_o.2.1 d_o.2.2.1 d_o.2.2.2.1 d_o.2.2.2.2.1 v_o_spot v_o_out x2 (-1 : Int32) h) (cwV 3 htb (TB_v tb_364 tb_365 tb_366 tb_5 (TB_self tb_367)) rfl rfl rfl z_X6_spread ⟨Nat.le_of_ble_eq_true rfl, Nat.le_of_ble_eq_true rfl⟩) 0 rfl rfl rfl rfl hl.1 rfl (Nat.le_of_ble_eq_true rfl) ⟨Nat.le_of_ble_eq_true rfl, Nat.le_of_ble_eq_true rfl⟩ dX6_findLeast_78 (fun m_9 H locs h hP hD hS => ?_)
        have hP : va_P D vwCl [(q_o, .inr (6, [.int v_o_refusal, .ref q_o_text, .int v_o_size, .ref q_o_now, .ref q_o_trial, .ref q_o_diary, .int v_o_acts, .ref q_o_kept, .ref q_o_isKept, .ref q_o_years, .int d_o.1, .int d_o.2.1, .int d_o.2.2.1, .int d_o.2.2.2.1, .int d_o.2.2.2.2.1, .int v_o_spot, .int v_o_out])), (q_o_years, gI Cs 10 m_9), (q_a1, gI Cs n_a1 v_a1)] H := hP
        have hD : va_D A [(q_o, .inr (6, [.int v_o_refusal, .ref q_o_text, .int v_o_size, .ref q_o_now, .ref q_o_trial, .ref q_o_diary, .int v_o_acts, .ref q_o_kept, .ref q_o_isKept, .ref q_o_years, .int d_o.1, .int d_o.2.1, .int d_o.2.2.1, .int d_o.2.2.2.1, .int d_o.2.2.2.2.1, .int v_o_spot, .int v_o_out])), (q_o_years, gI Cs 10 m_9), (q_a1, gI Cs n_a1 v_a1)] := hD
        refine lv_aload_n hx hb dX6_findLeast_81 rfl (lv_at hl 0 rfl) ?_
        refine lv_aload_n hx hb dX6_findLeast_82 rfl (lv_at hl 1 rfl) ?_
        refine lv_iload_n hx hb dX6_findLeast_83 rfl (lv_at hl 2 rfl) ?_
        refine gVR (As := [.ref q_a1, .int x2]) (rest := []) ⟨hx, hb, hml, hown, htb⟩ hK hP hN [0, 1, 2] rfl (c_X6_allInTime l D Cs q_o q_a1 q_o_text q_o_now q_o_trial q_o_diary q_o_kept q_o_isKept q_o_years n_a1 m_9 v_a1 v_o_refusal v_o_size v_o_acts d_o.1 d_o.2.1 d_o.2.2.1 d_o.2.2.2.1 d_o.2.2.2.2.1 v_o_spot v_o_out x2 h) (cwV 2 htb (TB_v tb_371 tb_372 tb_373 tb_5 (TB_self tb_374)) rfl rfl rfl z_X6_allInTime ⟨Nat.le_of_ble_eq_true rfl, Nat.le_of_ble_eq_true rfl⟩) 0 rfl rfl rfl rfl hl.1 rfl (Nat.le_of_ble_eq_true rfl) ⟨Nat.le_of_ble_eq_true rfl, Nat.le_of_ble_eq_true rfl⟩ dX6_findLeast_84 (fun r_10 h => ?_)
        refine lv_if_eq (tgt := 194) hx hb dX6_findLeast_87 (by decide) (fun c_11 => ?_) (fun c_11 => ?_)
        · have h := h.1 c_11
          exact B194 _ _ _ (d_o.1, d_o.2.1, d_o.2.2.1, d_o.2.2.2.1, d_o.2.2.2.2.1, m_9) x3 hP hD hS (lv_sub hl [0, 1, 2, 3] rfl) h
        · have h := h.2 c_11
          refine lv_aload_n hx hb dX6_findLeast_90 rfl (lv_at hl 0 rfl) ?_
          refine va_get (D := D) (ci := 6) (v := .int d_o.1) (C := RX6) (T := TX6) (N := 17) hx hb htb inT_X6 hown hK hP 0 rfl rfl 10 (by decide) (htb _ tb_341) (fun _ h9 => h9) rfl dX6_findLeast_91 ?_
          refine lv_iconst (v := (-1 : Int32)) hx hb dX6_findLeast_94 (by decide) ?_
          refine lv_icmp_eq (tgt := 107) hx hb dX6_findLeast_95 (by decide) (fun c_12 => ?_) (fun c_12 => ?_)
          · have h := h.1 c_12
            exact B107 _ _ _ (d_o.1, d_o.2.1, d_o.2.2.1, d_o.2.2.2.1, d_o.2.2.2.2.1, m_9) x3 x4 hP hD hS (lv_sub hl [0, 1, 2, 3, 4] rfl) h
          · have h := h.2 c_12
            refine lv_iload hx hb dX6_findLeast_98 (lv_at hl 4 rfl) ?_
            refine lv_aload_n hx hb dX6_findLeast_100 rfl (lv_at hl 0 rfl) ?_
            refine va_get (D := D) (ci := 6) (v := .int d_o.1) (C := RX6) (T := TX6) (N := 17) hx hb htb inT_X6 hown hK hP 0 rfl rfl 10 (by decide) (htb _ tb_341) (fun _ h9 => h9) rfl dX6_findLeast_101 ?_
            refine lv_icmp_ge (tgt := 111) hx hb dX6_findLeast_104 (by decide) (fun c_13 => ?_) (fun c_13 => ?_)
            · have h := h.1 c_13
              refine lv_iconst (v := (0 : Int32)) hx hb dX6_findLeast_111 (by decide) ?_
              exact B112 _ _ _ (d_o.1, d_o.2.1, d_o.2.2.1, d_o.2.2.2.1, d_o.2.2.2.2.1, m_9) x3 x4 (0 : Int32) hP hD hS (lv_sub hl [0, 1, 2, 3, 4] rfl) h
            · have h := h.2 c_13
              exact B107 _ _ _ (d_o.1, d_o.2.1, d_o.2.2.1, d_o.2.2.2.1, d_o.2.2.2.2.1, m_9) x3 x4 hP hD hS (lv_sub hl [0, 1, 2, 3, 4] rfl) h
      intro H locs ls d_o x3 hP hD hS hl h
      replace h : P_X6_findLeast_b27 n_a1 b_o v_a1 x2 post (P_X6_findLeast_l27 n_a1 b_o v_a1 x2 post n27) d_o x3 := h
      unfold P_X6_findLeast_b27 at h
      refine lv_iload_n hx hb dX6_findLeast_27 rfl (lv_at hl 3 rfl) ?_
      refine lv_iconst (v := (1 : Int32)) hx hb dX6_findLeast_28 (by decide) ?_
      refine lv_aload_n hx hb dX6_findLeast_29 rfl (lv_at hl 1 rfl) ?_
      refine lv_iconst (v := (0 : Int32)) hx hb dX6_findLeast_30 (by decide) ?_
      obtain ⟨hi_14, h⟩ := h
      refine va_iald hx hb hK hP 2 0 rfl rfl hi_14 dX6_findLeast_31 ?_
      refine lv_ishl hx hb dX6_findLeast_32 ?_
      refine lv_icmp_ge (tgt := 200) hx hb dX6_findLeast_33 (by decide) (fun c_15 => ?_) (fun c_15 => ?_)
      · have h := h.1 c_15
        exact B200 _ _ _ d_o hP hD hS (lv_sub hl [0, 1, 2] rfl) h
      · have h := h.2 c_15
        refine lv_aload_n hx hb dX6_findLeast_36 rfl (lv_at hl 1 rfl) ?_
        refine lv_iload_n hx hb dX6_findLeast_37 rfl (lv_at hl 2 rfl) ?_
        refine gSR (As := [.ref q_a1, .int x2]) (rest := []) ⟨hx, hb, hml, hown, htb⟩ hK hP hN [2] rfl (c_X6_hasHistory l D Cs q_a1 n_a1 v_a1 x2 h) (va_cwS 2 htb (TB_s tb_350 tb_351 tb_5 (TB_self tb_352)) rfl rfl rfl z_X6_hasHistory.2 ⟨Nat.le_of_ble_eq_true rfl, Nat.le_of_ble_eq_true rfl⟩) rfl hl.1 rfl (Nat.le_of_ble_eq_true rfl) ⟨Nat.le_of_ble_eq_true rfl, Nat.le_of_ble_eq_true rfl⟩ dX6_findLeast_38 (fun r_16 h => ?_)
        refine lv_if_eq (tgt := 200) hx hb dX6_findLeast_41 (by decide) (fun c_17 => ?_) (fun c_17 => ?_)
        · have h := h.1 c_17
          exact B200 _ _ _ d_o hP hD hS (lv_sub hl [0, 1, 2] rfl) h
        · have h := h.2 c_17
          refine lv_iload_n hx hb dX6_findLeast_44 rfl (lv_at hl 3 rfl) ?_
          refine gSR (As := [.int x3]) (rest := []) ⟨hx, hb, hml, hown, htb⟩ hK hP hN [] rfl (c_X6_ones l D Cs x3 h) (va_cwS 1 htb (TB_s tb_353 tb_354 tb_5 (TB_self tb_355)) rfl rfl rfl z_X6_ones.2 ⟨Nat.le_of_ble_eq_true rfl, Nat.le_of_ble_eq_true rfl⟩) rfl hl.1 rfl (Nat.le_of_ble_eq_true rfl) ⟨Nat.le_of_ble_eq_true rfl, Nat.le_of_ble_eq_true rfl⟩ dX6_findLeast_45 (fun r_18 h => ?_)
          refine lv_istore (lv' := [(4, .int r_18), (0, .ref q_o), (1, .ref q_a1), (2, .int x2), (3, .int x3)]) hx hb dX6_findLeast_48 hl (by decide) rfl (fun ls hl => ?_)
          refine lv_aload_n hx hb dX6_findLeast_50 rfl (lv_at hl 1 rfl) ?_
          refine va_get (D := D) (ci := 6) (v := .int d_o.1) (C := RX6) (T := TX6) (N := 17) hx hb htb inT_X6 hown hK hP 0 rfl rfl 10 (by decide) (htb _ tb_341) (fun _ h9 => h9) rfl dX6_findLeast_51 ?_
          refine lv_iconst (v := (-1 : Int32)) hx hb dX6_findLeast_54 (by decide) ?_
          refine lv_icmp_eq (tgt := 67) hx hb dX6_findLeast_55 (by decide) (fun c_19 => ?_) (fun c_19 => ?_)
          · have h := h.1 c_19
            exact B67 _ _ _ d_o x3 r_18 hP hD hS (lv_sub hl [1, 2, 3, 4, 0] rfl) h
          · have h := h.2 c_19
            refine lv_iload hx hb dX6_findLeast_58 (lv_at hl 0 rfl) ?_
            refine lv_aload_n hx hb dX6_findLeast_60 rfl (lv_at hl 1 rfl) ?_
            refine va_get (D := D) (ci := 6) (v := .int d_o.1) (C := RX6) (T := TX6) (N := 17) hx hb htb inT_X6 hown hK hP 0 rfl rfl 10 (by decide) (htb _ tb_341) (fun _ h9 => h9) rfl dX6_findLeast_61 ?_
            refine lv_icmp_gt (tgt := 194) hx hb dX6_findLeast_64 (by decide) (fun c_20 => ?_) (fun c_20 => ?_)
            · have h := h.1 c_20
              exact B194 _ _ _ d_o x3 hP hD hS (lv_sub hl [1, 2, 3, 4] rfl) h
            · have h := h.2 c_20
              exact B67 _ _ _ d_o x3 r_18 hP hD hS (lv_sub hl [1, 2, 3, 4, 0] rfl) h
  unfold P_X6_findLeast at h
  refine lv_aload_n hx hb dX6_findLeast_0 rfl (lv_at hl 0 rfl) ?_
  refine lv_iconst (v := (-1 : Int32)) hx hb dX6_findLeast_1 (by decide) ?_
  refine va_put (D := D) (ci := 6) (v := .int (-1 : Int32)) (ty := .int) (C := RX6) (T := TX6) (N := 17) hx hb htb inT_X6 tyX6 tyX6_ok nmX6 hown hK hP hD hS 0 rfl rfl 10 (by decide) (htb _ tb_341) (fun _ h9 => h9) rfl (tyX6_ok 10 (by decide)) rfl rfl (Nat.le_of_ble_eq_true rfl) dX6_findLeast_2 (fun H locs hP hD hS => ?_)
  have hP : va_P D vwCl [(q_o, .inr (6, [.int v_o_refusal, .ref q_o_text, .int v_o_size, .ref q_o_now, .ref q_o_trial, .ref q_o_diary, .int v_o_acts, .ref q_o_kept, .ref q_o_isKept, .ref q_o_years, .int (-1 : Int32), .int b_o.2.1, .int b_o.2.2.1, .int b_o.2.2.2.1, .int b_o.2.2.2.2.1, .int v_o_spot, .int v_o_out])), (q_o_years, gI Cs 10 b_o.2.2.2.2.2), (q_a1, gI Cs n_a1 v_a1)] H := hP
  have hD : va_D A [(q_o, .inr (6, [.int v_o_refusal, .ref q_o_text, .int v_o_size, .ref q_o_now, .ref q_o_trial, .ref q_o_diary, .int v_o_acts, .ref q_o_kept, .ref q_o_isKept, .ref q_o_years, .int (-1 : Int32), .int b_o.2.1, .int b_o.2.2.1, .int b_o.2.2.2.1, .int b_o.2.2.2.2.1, .int v_o_spot, .int v_o_out])), (q_o_years, gI Cs 10 b_o.2.2.2.2.2), (q_a1, gI Cs n_a1 v_a1)] := hD
  refine lv_aload_n hx hb dX6_findLeast_5 rfl (lv_at hl 0 rfl) ?_
  refine lv_iconst (v := (-1 : Int32)) hx hb dX6_findLeast_6 (by decide) ?_
  refine va_put (D := D) (ci := 6) (v := .int (-1 : Int32)) (ty := .int) (C := RX6) (T := TX6) (N := 17) hx hb htb inT_X6 tyX6 tyX6_ok nmX6 hown hK hP hD hS 0 rfl rfl 11 (by decide) (htb _ tb_346) (fun _ h9 => h9) rfl (tyX6_ok 11 (by decide)) rfl rfl (Nat.le_of_ble_eq_true rfl) dX6_findLeast_7 (fun H locs hP hD hS => ?_)
  have hP : va_P D vwCl [(q_o, .inr (6, [.int v_o_refusal, .ref q_o_text, .int v_o_size, .ref q_o_now, .ref q_o_trial, .ref q_o_diary, .int v_o_acts, .ref q_o_kept, .ref q_o_isKept, .ref q_o_years, .int (-1 : Int32), .int (-1 : Int32), .int b_o.2.2.1, .int b_o.2.2.2.1, .int b_o.2.2.2.2.1, .int v_o_spot, .int v_o_out])), (q_o_years, gI Cs 10 b_o.2.2.2.2.2), (q_a1, gI Cs n_a1 v_a1)] H := hP
  have hD : va_D A [(q_o, .inr (6, [.int v_o_refusal, .ref q_o_text, .int v_o_size, .ref q_o_now, .ref q_o_trial, .ref q_o_diary, .int v_o_acts, .ref q_o_kept, .ref q_o_isKept, .ref q_o_years, .int (-1 : Int32), .int (-1 : Int32), .int b_o.2.2.1, .int b_o.2.2.2.1, .int b_o.2.2.2.2.1, .int v_o_spot, .int v_o_out])), (q_o_years, gI Cs 10 b_o.2.2.2.2.2), (q_a1, gI Cs n_a1 v_a1)] := hD
  refine lv_aload_n hx hb dX6_findLeast_10 rfl (lv_at hl 0 rfl) ?_
  refine lv_iconst (v := (-1 : Int32)) hx hb dX6_findLeast_11 (by decide) ?_
  refine va_put (D := D) (ci := 6) (v := .int (-1 : Int32)) (ty := .int) (C := RX6) (T := TX6) (N := 17) hx hb htb inT_X6 tyX6 tyX6_ok nmX6 hown hK hP hD hS 0 rfl rfl 12 (by decide) (htb _ tb_347) (fun _ h9 => h9) rfl (tyX6_ok 12 (by decide)) rfl rfl (Nat.le_of_ble_eq_true rfl) dX6_findLeast_12 (fun H locs hP hD hS => ?_)
  have hP : va_P D vwCl [(q_o, .inr (6, [.int v_o_refusal, .ref q_o_text, .int v_o_size, .ref q_o_now, .ref q_o_trial, .ref q_o_diary, .int v_o_acts, .ref q_o_kept, .ref q_o_isKept, .ref q_o_years, .int (-1 : Int32), .int (-1 : Int32), .int (-1 : Int32), .int b_o.2.2.2.1, .int b_o.2.2.2.2.1, .int v_o_spot, .int v_o_out])), (q_o_years, gI Cs 10 b_o.2.2.2.2.2), (q_a1, gI Cs n_a1 v_a1)] H := hP
  have hD : va_D A [(q_o, .inr (6, [.int v_o_refusal, .ref q_o_text, .int v_o_size, .ref q_o_now, .ref q_o_trial, .ref q_o_diary, .int v_o_acts, .ref q_o_kept, .ref q_o_isKept, .ref q_o_years, .int (-1 : Int32), .int (-1 : Int32), .int (-1 : Int32), .int b_o.2.2.2.1, .int b_o.2.2.2.2.1, .int v_o_spot, .int v_o_out])), (q_o_years, gI Cs 10 b_o.2.2.2.2.2), (q_a1, gI Cs n_a1 v_a1)] := hD
  refine lv_aload_n hx hb dX6_findLeast_15 rfl (lv_at hl 0 rfl) ?_
  refine lv_iconst (v := (-1 : Int32)) hx hb dX6_findLeast_16 (by decide) ?_
  refine va_put (D := D) (ci := 6) (v := .int (-1 : Int32)) (ty := .int) (C := RX6) (T := TX6) (N := 17) hx hb htb inT_X6 tyX6 tyX6_ok nmX6 hown hK hP hD hS 0 rfl rfl 13 (by decide) (htb _ tb_348) (fun _ h9 => h9) rfl (tyX6_ok 13 (by decide)) rfl rfl (Nat.le_of_ble_eq_true rfl) dX6_findLeast_17 (fun H locs hP hD hS => ?_)
  have hP : va_P D vwCl [(q_o, .inr (6, [.int v_o_refusal, .ref q_o_text, .int v_o_size, .ref q_o_now, .ref q_o_trial, .ref q_o_diary, .int v_o_acts, .ref q_o_kept, .ref q_o_isKept, .ref q_o_years, .int (-1 : Int32), .int (-1 : Int32), .int (-1 : Int32), .int (-1 : Int32), .int b_o.2.2.2.2.1, .int v_o_spot, .int v_o_out])), (q_o_years, gI Cs 10 b_o.2.2.2.2.2), (q_a1, gI Cs n_a1 v_a1)] H := hP
  have hD : va_D A [(q_o, .inr (6, [.int v_o_refusal, .ref q_o_text, .int v_o_size, .ref q_o_now, .ref q_o_trial, .ref q_o_diary, .int v_o_acts, .ref q_o_kept, .ref q_o_isKept, .ref q_o_years, .int (-1 : Int32), .int (-1 : Int32), .int (-1 : Int32), .int (-1 : Int32), .int b_o.2.2.2.2.1, .int v_o_spot, .int v_o_out])), (q_o_years, gI Cs 10 b_o.2.2.2.2.2), (q_a1, gI Cs n_a1 v_a1)] := hD
  refine lv_aload_n hx hb dX6_findLeast_20 rfl (lv_at hl 0 rfl) ?_
  refine lv_iconst (v := (-1 : Int32)) hx hb dX6_findLeast_21 (by decide) ?_
  refine va_put (D := D) (ci := 6) (v := .int (-1 : Int32)) (ty := .int) (C := RX6) (T := TX6) (N := 17) hx hb htb inT_X6 tyX6 tyX6_ok nmX6 hown hK hP hD hS 0 rfl rfl 14 (by decide) (htb _ tb_349) (fun _ h9 => h9) rfl (tyX6_ok 14 (by decide)) rfl rfl (Nat.le_of_ble_eq_true rfl) dX6_findLeast_22 (fun H locs hP hD hS => ?_)
  have hP : va_P D vwCl [(q_o, .inr (6, [.int v_o_refusal, .ref q_o_text, .int v_o_size, .ref q_o_now, .ref q_o_trial, .ref q_o_diary, .int v_o_acts, .ref q_o_kept, .ref q_o_isKept, .ref q_o_years, .int (-1 : Int32), .int (-1 : Int32), .int (-1 : Int32), .int (-1 : Int32), .int (-1 : Int32), .int v_o_spot, .int v_o_out])), (q_o_years, gI Cs 10 b_o.2.2.2.2.2), (q_a1, gI Cs n_a1 v_a1)] H := hP
  have hD : va_D A [(q_o, .inr (6, [.int v_o_refusal, .ref q_o_text, .int v_o_size, .ref q_o_now, .ref q_o_trial, .ref q_o_diary, .int v_o_acts, .ref q_o_kept, .ref q_o_isKept, .ref q_o_years, .int (-1 : Int32), .int (-1 : Int32), .int (-1 : Int32), .int (-1 : Int32), .int (-1 : Int32), .int v_o_spot, .int v_o_out])), (q_o_years, gI Cs 10 b_o.2.2.2.2.2), (q_a1, gI Cs n_a1 v_a1)] := hD
  refine lv_iconst (v := (0 : Int32)) hx hb dX6_findLeast_25 (by decide) ?_
  refine lv_istore_n (lv' := [(3, .int (0 : Int32)), (0, .ref q_o), (1, .ref q_a1), (2, .int x2)]) hx hb dX6_findLeast_26 rfl hl (by decide) rfl (fun ls hl => ?_)
  obtain ⟨n, h⟩ := h
  exact L27 n _ _ _ ((-1 : Int32), (-1 : Int32), (-1 : Int32), (-1 : Int32), (-1 : Int32), b_o.2.2.2.2.2) (0 : Int32) hP hD hS (lv_sub hl [1, 2, 3, 0] rfl) h
set_option maxHeartbeats 4000000 in
set_option maxRecDepth 100000 in
theorem c_X6_inventionsInAll (l : Launch) (D : va_G) (Cs : Nat → ClassId) (q_o : Nat) (q_a1 : Nat) (q_o_text : Nat) (q_o_now : Nat) (q_o_trial : Nat) (q_o_diary : Nat) (q_o_kept : Nat) (q_o_isKept : Nat) (q_o_years : Nat) (n_a1 : Nat) (sz : Nat) (b_o : BM) (v_a1 : (Nat → Int32)) (v_o_refusal : Int32) (v_o_size : Int32) (v_o_acts : Int32) (v_o_spot : Int32) (v_o_out : Int32) {post : Int32 → BM → Prop} (h : P_X6_inventionsInAll n_a1 b_o v_a1 post) : Met l yX6_inventionsInAll wsX6_inventionsInAll ({ frames := 4, cells := 0, slots := 0, locals := 95 } : Room) (va_Pc [.ref q_o, .ref q_a1] (gM D Cs [(q_o, .inr (6, [.int v_o_refusal, .ref q_o_text, .int v_o_size, .ref q_o_now, .ref q_o_trial, .ref q_o_diary, .int v_o_acts, .ref q_o_kept, .ref q_o_isKept, .ref q_o_years, .int b_o.1, .int b_o.2.1, .int b_o.2.2.1, .int b_o.2.2.2.1, .int b_o.2.2.2.2.1, .int v_o_spot, .int v_o_out])), (q_o_years, gI Cs 10 b_o.2.2.2.2.2), (q_a1, gI Cs n_a1 v_a1)] sz)) (va_Qi (fun (r : Int32) (u : BM) => post r u) (gB D (va_A [(q_o, .inr (6, [.int v_o_refusal, .ref q_o_text, .int v_o_size, .ref q_o_now, .ref q_o_trial, .ref q_o_diary, .int v_o_acts, .ref q_o_kept, .ref q_o_isKept, .ref q_o_years, .int b_o.1, .int b_o.2.1, .int b_o.2.2.1, .int b_o.2.2.2.1, .int b_o.2.2.2.2.1, .int v_o_spot, .int v_o_out])), (q_o_years, gI Cs 10 b_o.2.2.2.2.2), (q_a1, gI Cs n_a1 v_a1)] sz) (fun u : BM => [(q_o, .inr (6, [.int v_o_refusal, .ref q_o_text, .int v_o_size, .ref q_o_now, .ref q_o_trial, .ref q_o_diary, .int v_o_acts, .ref q_o_kept, .ref q_o_isKept, .ref q_o_years, .int u.1, .int u.2.1, .int u.2.2.1, .int u.2.2.2.1, .int u.2.2.2.2.1, .int v_o_spot, .int v_o_out])), (q_o_years, gI Cs 10 u.2.2.2.2.2), (q_a1, gI Cs n_a1 v_a1)])) (va_A [(q_o, .inr (6, [.int v_o_refusal, .ref q_o_text, .int v_o_size, .ref q_o_now, .ref q_o_trial, .ref q_o_diary, .int v_o_acts, .ref q_o_kept, .ref q_o_isKept, .ref q_o_years, .int b_o.1, .int b_o.2.1, .int b_o.2.2.1, .int b_o.2.2.2.1, .int b_o.2.2.2.2.1, .int v_o_spot, .int v_o_out])), (q_o_years, gI Cs 10 b_o.2.2.2.2.2), (q_a1, gI Cs n_a1 v_a1)] sz)) 0 0 (va_A [(q_o, .inr (6, [.int v_o_refusal, .ref q_o_text, .int v_o_size, .ref q_o_now, .ref q_o_trial, .ref q_o_diary, .int v_o_acts, .ref q_o_kept, .ref q_o_isKept, .ref q_o_years, .int b_o.1, .int b_o.2.1, .int b_o.2.2.1, .int b_o.2.2.2.1, .int b_o.2.2.2.2.1, .int v_o_spot, .int v_o_out])), (q_o_years, gI Cs 10 b_o.2.2.2.2.2), (q_a1, gI Cs n_a1 v_a1)] sz) := by
  refine Met.ofW (cc := cX6_inventionsInAll) (maxL := 4) (ret := (some .int)) (by decide) rfl ?_
  intro p e s m args below meth c s₁ B hml hv
  obtain ⟨ha, hsz, hP, hK, hD0, hN⟩ := hv
  have hx := B.exec
  have hb := B.bytes
  have hr := B.returns
  have hts := atoms_spec (ws := wsX6_inventionsInAll) B.pre
  have htb : ∀ w ∈ TB, w.before args s = true := fun w h9 => hts w (List.mem_cons_of_mem _ h9)
  have hown : s.vm.findClass RX6 = some m.cls := findClass_of_methodNamed B.named
  have hlocks := B.notSynchronized
  subst hsz
  have hD := hD0.self (sz := s.heap.size)
  generalize hAe : va_A [(q_o, .inr (6, [.int v_o_refusal, .ref q_o_text, .int v_o_size, .ref q_o_now, .ref q_o_trial, .ref q_o_diary, .int v_o_acts, .ref q_o_kept, .ref q_o_isKept, .ref q_o_years, .int b_o.1, .int b_o.2.1, .int b_o.2.2.1, .int b_o.2.2.2.1, .int b_o.2.2.2.2.1, .int v_o_spot, .int v_o_out])), (q_o_years, gI Cs 10 b_o.2.2.2.2.2), (q_a1, gI Cs n_a1 v_a1)] s.heap.size = A at hD ⊢
  have hA : ∀ q : Nat, s.heap.size ≤ q → A q := fun q h9 => by rw [← hAe]; exact Or.inr h9
  obtain ⟨H, hH⟩ : ∃ z : Heap, z = s.heap := ⟨_, rfl⟩
  have hS : va_S A s.heap H [] := by rw [hH]; exact va_S.rf
  have hP : va_P D vwCl [(q_o, .inr (6, [.int v_o_refusal, .ref q_o_text, .int v_o_size, .ref q_o_now, .ref q_o_trial, .ref q_o_diary, .int v_o_acts, .ref q_o_kept, .ref q_o_isKept, .ref q_o_years, .int b_o.1, .int b_o.2.1, .int b_o.2.2.1, .int b_o.2.2.2.1, .int b_o.2.2.2.2.1, .int v_o_spot, .int v_o_out])), (q_o_years, gI Cs 10 b_o.2.2.2.2.2), (q_a1, gI Cs n_a1 v_a1)] H := by rw [hH]; exact hP
  generalize hQ : MQ below _ args s _ _ _ = Q
  show W p l e ({ frames := 4, cells := 0, slots := 0, locals := 95 } : Room) s m args below meth c s.heap [] 0 0 Q (entryFrame m args 4)
  have hent : entryFrame m args 4 = F0 m 0 ((lg_sl ([.ref q_o, .ref q_a1]) ++ List.replicate (4 - (lg_sl ([.ref q_o, .ref q_a1])).length) Slot.unset).toArray) [] := by rw [ha]; exact lg_entry_eq m ([.ref q_o, .ref q_a1]) 4
  rw [hent]; clear hent
  rw [← hH]
  have hl := lv_entry ([.ref q_o, .ref q_a1]) (n := 4) (Nat.le_of_ble_eq_true rfl)
  generalize (lg_sl ([.ref q_o, .ref q_a1]) ++ List.replicate (4 - (lg_sl ([.ref q_o, .ref q_a1])).length) Slot.unset).toArray = ls at hl ⊢
  have hl : lv_has ls 4 [(0, .ref q_o), (1, .ref q_a1)] := hl
  have L4 : ∀ (n : Nat) (H : Heap) (locs : List Loc) (ls : Array Slot) (d_o : BM) (x2 : Int32) (x3 : Int32), va_P D vwCl [(q_o, .inr (6, [.int v_o_refusal, .ref q_o_text, .int v_o_size, .ref q_o_now, .ref q_o_trial, .ref q_o_diary, .int v_o_acts, .ref q_o_kept, .ref q_o_isKept, .ref q_o_years, .int d_o.1, .int d_o.2.1, .int d_o.2.2.1, .int d_o.2.2.2.1, .int d_o.2.2.2.2.1, .int v_o_spot, .int v_o_out])), (q_o_years, gI Cs 10 d_o.2.2.2.2.2), (q_a1, gI Cs n_a1 v_a1)] H → va_D A [(q_o, .inr (6, [.int v_o_refusal, .ref q_o_text, .int v_o_size, .ref q_o_now, .ref q_o_trial, .ref q_o_diary, .int v_o_acts, .ref q_o_kept, .ref q_o_isKept, .ref q_o_years, .int d_o.1, .int d_o.2.1, .int d_o.2.2.1, .int d_o.2.2.2.1, .int d_o.2.2.2.2.1, .int v_o_spot, .int v_o_out])), (q_o_years, gI Cs 10 d_o.2.2.2.2.2), (q_a1, gI Cs n_a1 v_a1)] → va_S A s.heap H locs → lv_has ls 4 [(0, .ref q_o), (1, .ref q_a1), (2, .int x2), (3, .int x3)] → P_X6_inventionsInAll_l4 n_a1 b_o v_a1 post n d_o x2 x3 → W p l e ({ frames := 4, cells := 0, slots := 0, locals := 95 } : Room) s m args below meth c H locs 0 0 Q (F0 m 4 ls []) := by
    intro n4
    induction n4 with
    | zero => intro H locs ls d_o x2 x3 hP hD hS hl h; exact False.elim h
    | succ n4 ih4 =>
      have B33 : ∀ (H : Heap) (locs : List Loc) (ls : Array Slot) (d_o : BM) (x3 : Int32) (s0 : Int32) (s1 : Int32), va_P D vwCl [(q_o, .inr (6, [.int v_o_refusal, .ref q_o_text, .int v_o_size, .ref q_o_now, .ref q_o_trial, .ref q_o_diary, .int v_o_acts, .ref q_o_kept, .ref q_o_isKept, .ref q_o_years, .int d_o.1, .int d_o.2.1, .int d_o.2.2.1, .int d_o.2.2.2.1, .int d_o.2.2.2.2.1, .int v_o_spot, .int v_o_out])), (q_o_years, gI Cs 10 d_o.2.2.2.2.2), (q_a1, gI Cs n_a1 v_a1)] H → va_D A [(q_o, .inr (6, [.int v_o_refusal, .ref q_o_text, .int v_o_size, .ref q_o_now, .ref q_o_trial, .ref q_o_diary, .int v_o_acts, .ref q_o_kept, .ref q_o_isKept, .ref q_o_years, .int d_o.1, .int d_o.2.1, .int d_o.2.2.1, .int d_o.2.2.2.1, .int d_o.2.2.2.2.1, .int v_o_spot, .int v_o_out])), (q_o_years, gI Cs 10 d_o.2.2.2.2.2), (q_a1, gI Cs n_a1 v_a1)] → va_S A s.heap H locs → lv_has ls 4 [(0, .ref q_o), (1, .ref q_a1), (3, .int x3)] → P_X6_inventionsInAll_b33 n_a1 b_o v_a1 post (P_X6_inventionsInAll_l4 n_a1 b_o v_a1 post n4) d_o x3 s0 s1 → W p l e ({ frames := 4, cells := 0, slots := 0, locals := 95 } : Room) s m args below meth c H locs 0 0 Q (F0 m 33 ls [.int s1, .int s0]) := by
        intro H locs ls d_o x3 s0 s1 hP hD hS hl h
        unfold P_X6_inventionsInAll_b33 at h
        refine lv_iadd hx hb dX6_inventionsInAll_33 ?_
        refine lv_topi (fun x2_1 ex2_1 => ?_)
        have h := h _ ex2_1
        refine lv_istore_n (lv' := [(2, .int x2_1), (0, .ref q_o), (1, .ref q_a1), (3, .int x3)]) hx hb dX6_inventionsInAll_34 rfl hl (by decide) rfl (fun ls hl => ?_)
        obtain ⟨x3_2, ex3_2⟩ : ∃ y : Int32, y = x3 + (1 : Int32) := ⟨_, rfl⟩
        have h := h _ ex3_2
        refine lv_iinc (v := x3_2) (lv' := [(3, .int x3_2), (2, .int x2_1), (0, .ref q_o), (1, .ref q_a1)]) hx hb dX6_inventionsInAll_35 hl (k := 3) rfl (by rw [ex3_2]; rfl) (by decide) rfl (fun ls hl => ?_)
        refine lv_goto (tgt := 4) hx hb dX6_inventionsInAll_38 (by decide) ?_
        exact ih4 _ _ _ d_o x2_1 x3_2 hP hD hS (lv_sub hl [2, 3, 1, 0] rfl) h
      intro H locs ls d_o x2 x3 hP hD hS hl h
      replace h : P_X6_inventionsInAll_b4 n_a1 b_o v_a1 post (P_X6_inventionsInAll_l4 n_a1 b_o v_a1 post n4) d_o x2 x3 := h
      unfold P_X6_inventionsInAll_b4 at h
      refine lv_iload_n hx hb dX6_inventionsInAll_4 rfl (lv_at hl 3 rfl) ?_
      refine lv_bipush (v := (6 : Int32)) hx hb dX6_inventionsInAll_5 (by decide) ?_
      refine lv_icmp_ge (tgt := 41) hx hb dX6_inventionsInAll_7 (by decide) (fun c_3 => ?_) (fun c_3 => ?_)
      · have h := h.1 c_3
        refine lv_iload_n hx hb dX6_inventionsInAll_41 rfl (lv_at hl 2 rfl) ?_
        rw [← hQ]
        exact gRetI (u := d_o) hx hb hr rfl h hP hD hS dX6_inventionsInAll_42 hlocks
      · have h := h.2 c_3
        refine lv_aload_n hx hb dX6_inventionsInAll_10 rfl (lv_at hl 0 rfl) ?_
        refine lv_aload_n hx hb dX6_inventionsInAll_11 rfl (lv_at hl 1 rfl) ?_
        refine lv_iload_n hx hb dX6_inventionsInAll_12 rfl (lv_at hl 3 rfl) ?_
        refine gVMv (wr := []) (As := [.ref q_a1, .int x3]) (rest := []) ⟨hx, hb, hml, hown, htb⟩ hK hP hD hS hA hN [0, 1, 2] [] rfl (by decide) rfl (by decide) (by decide) (c_X6_findLeast l D Cs q_o q_a1 q_o_text q_o_now q_o_trial q_o_diary q_o_kept q_o_isKept q_o_years n_a1 H.size d_o v_a1 v_o_refusal v_o_size v_o_acts v_o_spot v_o_out x3 h) (cwV 2 htb (TB_v tb_342 tb_343 tb_344 tb_5 (TB_self tb_345)) rfl rfl rfl z_X6_findLeast ⟨Nat.le_of_ble_eq_true rfl, Nat.le_of_ble_eq_true rfl⟩) 0 rfl rfl rfl rfl hl.1 rfl (Nat.le_of_ble_eq_true rfl) ⟨Nat.le_of_ble_eq_true rfl, Nat.le_of_ble_eq_true rfl⟩ dX6_inventionsInAll_13 (fun m_5 H locs h hP hD hS => ?_)
        have hP : va_P D vwCl [(q_o, .inr (6, [.int v_o_refusal, .ref q_o_text, .int v_o_size, .ref q_o_now, .ref q_o_trial, .ref q_o_diary, .int v_o_acts, .ref q_o_kept, .ref q_o_isKept, .ref q_o_years, .int m_5.1, .int m_5.2.1, .int m_5.2.2.1, .int m_5.2.2.2.1, .int m_5.2.2.2.2.1, .int v_o_spot, .int v_o_out])), (q_o_years, gI Cs 10 m_5.2.2.2.2.2), (q_a1, gI Cs n_a1 v_a1)] H := hP
        have hD : va_D A [(q_o, .inr (6, [.int v_o_refusal, .ref q_o_text, .int v_o_size, .ref q_o_now, .ref q_o_trial, .ref q_o_diary, .int v_o_acts, .ref q_o_kept, .ref q_o_isKept, .ref q_o_years, .int m_5.1, .int m_5.2.1, .int m_5.2.2.1, .int m_5.2.2.2.1, .int m_5.2.2.2.2.1, .int v_o_spot, .int v_o_out])), (q_o_years, gI Cs 10 m_5.2.2.2.2.2), (q_a1, gI Cs n_a1 v_a1)] := hD
        refine lv_iload_n hx hb dX6_inventionsInAll_16 rfl (lv_at hl 2 rfl) ?_
        refine lv_aload_n hx hb dX6_inventionsInAll_17 rfl (lv_at hl 0 rfl) ?_
        refine va_get (D := D) (ci := 6) (v := .int m_5.1) (C := RX6) (T := TX6) (N := 17) hx hb htb inT_X6 hown hK hP 0 rfl rfl 10 (by decide) (htb _ tb_341) (fun _ h9 => h9) rfl dX6_inventionsInAll_18 ?_
        refine lv_iconst (v := (-1 : Int32)) hx hb dX6_inventionsInAll_21 (by decide) ?_
        refine lv_icmp_ne (tgt := 29) hx hb dX6_inventionsInAll_22 (by decide) (fun c_6 => ?_) (fun c_6 => ?_)
        · have h := h.2 c_6
          refine lv_aload_n hx hb dX6_inventionsInAll_29 rfl (lv_at hl 0 rfl) ?_
          refine va_get (D := D) (ci := 6) (v := .int m_5.1) (C := RX6) (T := TX6) (N := 17) hx hb htb inT_X6 hown hK hP 0 rfl rfl 10 (by decide) (htb _ tb_341) (fun _ h9 => h9) rfl dX6_inventionsInAll_30 ?_
          exact B33 _ _ _ m_5 x3 x2 m_5.1 hP hD hS (lv_sub hl [0, 1, 3] rfl) h
        · have h := h.1 c_6
          refine lv_iconst (v := (0 : Int32)) hx hb dX6_inventionsInAll_25 (by decide) ?_
          refine lv_goto (tgt := 33) hx hb dX6_inventionsInAll_26 (by decide) ?_
          exact B33 _ _ _ m_5 x3 x2 (0 : Int32) hP hD hS (lv_sub hl [0, 1, 3] rfl) h
  unfold P_X6_inventionsInAll at h
  refine lv_iconst (v := (0 : Int32)) hx hb dX6_inventionsInAll_0 (by decide) ?_
  refine lv_istore_n (lv' := [(2, .int (0 : Int32)), (0, .ref q_o), (1, .ref q_a1)]) hx hb dX6_inventionsInAll_1 rfl hl (by decide) rfl (fun ls hl => ?_)
  refine lv_iconst (v := (0 : Int32)) hx hb dX6_inventionsInAll_2 (by decide) ?_
  refine lv_istore_n (lv' := [(3, .int (0 : Int32)), (2, .int (0 : Int32)), (0, .ref q_o), (1, .ref q_a1)]) hx hb dX6_inventionsInAll_3 rfl hl (by decide) rfl (fun ls hl => ?_)
  obtain ⟨n, h⟩ := h
  exact L4 n _ _ _ b_o (0 : Int32) (0 : Int32) hP hD hS (lv_sub hl [2, 3, 1, 0] rfl) h
set_option maxHeartbeats 4000000 in
set_option maxRecDepth 100000 in
theorem c_X6_layYears (l : Launch) (D : va_G) (Cs : Nat → ClassId) (q_o : Nat) (q_a1 : Nat) (q_o_text : Nat) (q_o_now : Nat) (q_o_trial : Nat) (q_o_diary : Nat) (q_o_kept : Nat) (q_o_isKept : Nat) (q_o_years : Nat) (n_a1 : Nat) (sz : Nat) (b_o : BM) (v_a1 : (Nat → Int32)) (v_o_refusal : Int32) (v_o_size : Int32) (v_o_acts : Int32) (v_o_spot : Int32) (v_o_out : Int32) (x2 : Int32) {post : BM → Prop} (h : P_X6_layYears n_a1 b_o v_a1 x2 post) : Met l yX6_layYears wsX6_layYears ({ frames := 4, cells := 0, slots := 0, locals := 95 } : Room) (va_Pc [.ref q_o, .ref q_a1, .int x2] (gM D Cs [(q_o, .inr (6, [.int v_o_refusal, .ref q_o_text, .int v_o_size, .ref q_o_now, .ref q_o_trial, .ref q_o_diary, .int v_o_acts, .ref q_o_kept, .ref q_o_isKept, .ref q_o_years, .int b_o.1, .int b_o.2.1, .int b_o.2.2.1, .int b_o.2.2.2.1, .int b_o.2.2.2.2.1, .int v_o_spot, .int v_o_out])), (q_o_years, gI Cs 10 b_o.2.2.2.2.2), (q_a1, gI Cs n_a1 v_a1)] sz)) (va_Qv (fun (u : BM) => post u) (gB D (va_A [(q_o, .inr (6, [.int v_o_refusal, .ref q_o_text, .int v_o_size, .ref q_o_now, .ref q_o_trial, .ref q_o_diary, .int v_o_acts, .ref q_o_kept, .ref q_o_isKept, .ref q_o_years, .int b_o.1, .int b_o.2.1, .int b_o.2.2.1, .int b_o.2.2.2.1, .int b_o.2.2.2.2.1, .int v_o_spot, .int v_o_out])), (q_o_years, gI Cs 10 b_o.2.2.2.2.2), (q_a1, gI Cs n_a1 v_a1)] sz) (fun u : BM => [(q_o, .inr (6, [.int v_o_refusal, .ref q_o_text, .int v_o_size, .ref q_o_now, .ref q_o_trial, .ref q_o_diary, .int v_o_acts, .ref q_o_kept, .ref q_o_isKept, .ref q_o_years, .int u.1, .int u.2.1, .int u.2.2.1, .int u.2.2.2.1, .int u.2.2.2.2.1, .int v_o_spot, .int v_o_out])), (q_o_years, gI Cs 10 u.2.2.2.2.2), (q_a1, gI Cs n_a1 v_a1)])) (va_A [(q_o, .inr (6, [.int v_o_refusal, .ref q_o_text, .int v_o_size, .ref q_o_now, .ref q_o_trial, .ref q_o_diary, .int v_o_acts, .ref q_o_kept, .ref q_o_isKept, .ref q_o_years, .int b_o.1, .int b_o.2.1, .int b_o.2.2.1, .int b_o.2.2.2.1, .int b_o.2.2.2.2.1, .int v_o_spot, .int v_o_out])), (q_o_years, gI Cs 10 b_o.2.2.2.2.2), (q_a1, gI Cs n_a1 v_a1)] sz)) 0 0 (va_A [(q_o, .inr (6, [.int v_o_refusal, .ref q_o_text, .int v_o_size, .ref q_o_now, .ref q_o_trial, .ref q_o_diary, .int v_o_acts, .ref q_o_kept, .ref q_o_isKept, .ref q_o_years, .int b_o.1, .int b_o.2.1, .int b_o.2.2.1, .int b_o.2.2.2.1, .int b_o.2.2.2.2.1, .int v_o_spot, .int v_o_out])), (q_o_years, gI Cs 10 b_o.2.2.2.2.2), (q_a1, gI Cs n_a1 v_a1)] sz) := by
  refine Met.ofW (cc := cX6_layYears) (maxL := 3) (ret := none) (by decide) rfl ?_
  intro p e s m args below meth c s₁ B hml hv
  obtain ⟨ha, hsz, hP, hK, hD0, hN⟩ := hv
  have hx := B.exec
  have hb := B.bytes
  have hr := B.returns
  have hts := atoms_spec (ws := wsX6_layYears) B.pre
  have htb : ∀ w ∈ TB, w.before args s = true := fun w h9 => hts w (List.mem_cons_of_mem _ h9)
  have hown : s.vm.findClass RX6 = some m.cls := findClass_of_methodNamed B.named
  have hlocks := B.notSynchronized
  subst hsz
  have hD := hD0.self (sz := s.heap.size)
  generalize hAe : va_A [(q_o, .inr (6, [.int v_o_refusal, .ref q_o_text, .int v_o_size, .ref q_o_now, .ref q_o_trial, .ref q_o_diary, .int v_o_acts, .ref q_o_kept, .ref q_o_isKept, .ref q_o_years, .int b_o.1, .int b_o.2.1, .int b_o.2.2.1, .int b_o.2.2.2.1, .int b_o.2.2.2.2.1, .int v_o_spot, .int v_o_out])), (q_o_years, gI Cs 10 b_o.2.2.2.2.2), (q_a1, gI Cs n_a1 v_a1)] s.heap.size = A at hD ⊢
  have hA : ∀ q : Nat, s.heap.size ≤ q → A q := fun q h9 => by rw [← hAe]; exact Or.inr h9
  obtain ⟨H, hH⟩ : ∃ z : Heap, z = s.heap := ⟨_, rfl⟩
  have hS : va_S A s.heap H [] := by rw [hH]; exact va_S.rf
  have hP : va_P D vwCl [(q_o, .inr (6, [.int v_o_refusal, .ref q_o_text, .int v_o_size, .ref q_o_now, .ref q_o_trial, .ref q_o_diary, .int v_o_acts, .ref q_o_kept, .ref q_o_isKept, .ref q_o_years, .int b_o.1, .int b_o.2.1, .int b_o.2.2.1, .int b_o.2.2.2.1, .int b_o.2.2.2.2.1, .int v_o_spot, .int v_o_out])), (q_o_years, gI Cs 10 b_o.2.2.2.2.2), (q_a1, gI Cs n_a1 v_a1)] H := by rw [hH]; exact hP
  generalize hQ : MQ below _ args s _ _ _ = Q
  show W p l e ({ frames := 4, cells := 0, slots := 0, locals := 95 } : Room) s m args below meth c s.heap [] 0 0 Q (entryFrame m args 3)
  have hent : entryFrame m args 3 = F0 m 0 ((lg_sl ([.ref q_o, .ref q_a1, .int x2]) ++ List.replicate (3 - (lg_sl ([.ref q_o, .ref q_a1, .int x2])).length) Slot.unset).toArray) [] := by rw [ha]; exact lg_entry_eq m ([.ref q_o, .ref q_a1, .int x2]) 3
  rw [hent]; clear hent
  rw [← hH]
  have hl := lv_entry ([.ref q_o, .ref q_a1, .int x2]) (n := 3) (Nat.le_of_ble_eq_true rfl)
  generalize (lg_sl ([.ref q_o, .ref q_a1, .int x2]) ++ List.replicate (3 - (lg_sl ([.ref q_o, .ref q_a1, .int x2])).length) Slot.unset).toArray = ls at hl ⊢
  have hl : lv_has ls 3 [(0, .ref q_o), (1, .ref q_a1), (2, .int x2)] := hl
  have B25 : ∀ (H : Heap) (locs : List Loc) (ls : Array Slot) (d_o : BM) (s2 : Int32) (s3 : Int32), va_P D vwCl [(q_o, .inr (6, [.int v_o_refusal, .ref q_o_text, .int v_o_size, .ref q_o_now, .ref q_o_trial, .ref q_o_diary, .int v_o_acts, .ref q_o_kept, .ref q_o_isKept, .ref q_o_years, .int d_o.1, .int d_o.2.1, .int d_o.2.2.1, .int d_o.2.2.2.1, .int d_o.2.2.2.2.1, .int v_o_spot, .int v_o_out])), (q_o_years, gI Cs 10 d_o.2.2.2.2.2), (q_a1, gI Cs n_a1 v_a1)] H → va_D A [(q_o, .inr (6, [.int v_o_refusal, .ref q_o_text, .int v_o_size, .ref q_o_now, .ref q_o_trial, .ref q_o_diary, .int v_o_acts, .ref q_o_kept, .ref q_o_isKept, .ref q_o_years, .int d_o.1, .int d_o.2.1, .int d_o.2.2.1, .int d_o.2.2.2.1, .int d_o.2.2.2.2.1, .int v_o_spot, .int v_o_out])), (q_o_years, gI Cs 10 d_o.2.2.2.2.2), (q_a1, gI Cs n_a1 v_a1)] → va_S A s.heap H locs → lv_has ls 3 [(0, .ref q_o), (1, .ref q_a1), (2, .int x2)] → P_X6_layYears_b25 n_a1 b_o v_a1 x2 post d_o s2 s3 → W p l e ({ frames := 4, cells := 0, slots := 0, locals := 95 } : Room) s m args below meth c H locs 0 0 Q (F0 m 25 ls [.int s3, .int s2, .ref q_a1, .ref q_o]) := by
    intro H locs ls d_o s2 s3 hP hD hS hl h
    unfold P_X6_layYears_b25 at h
    refine gVMv (wr := []) (As := [.ref q_a1, .int s2, .int s3]) (rest := []) ⟨hx, hb, hml, hown, htb⟩ hK hP hD hS hA hN [0, 1, 2] [] rfl (by decide) rfl (by decide) (by decide) (c_X6_layOrigins l D Cs q_o q_a1 q_o_text q_o_now q_o_trial q_o_diary q_o_kept q_o_isKept q_o_years n_a1 H.size d_o.2.2.2.2.2 v_a1 v_o_refusal v_o_size v_o_acts d_o.1 d_o.2.1 d_o.2.2.1 d_o.2.2.2.1 d_o.2.2.2.2.1 v_o_spot v_o_out s2 s3 h) (cwV 3 htb (TB_v tb_356 tb_357 tb_358 tb_5 (TB_self tb_359)) rfl rfl rfl z_X6_layOrigins ⟨Nat.le_of_ble_eq_true rfl, Nat.le_of_ble_eq_true rfl⟩) 0 rfl rfl rfl rfl hl.1 rfl (Nat.le_of_ble_eq_true rfl) ⟨Nat.le_of_ble_eq_true rfl, Nat.le_of_ble_eq_true rfl⟩ dX6_layYears_25 (fun m_2 H locs h hP hD hS => ?_)
    have hP : va_P D vwCl [(q_o, .inr (6, [.int v_o_refusal, .ref q_o_text, .int v_o_size, .ref q_o_now, .ref q_o_trial, .ref q_o_diary, .int v_o_acts, .ref q_o_kept, .ref q_o_isKept, .ref q_o_years, .int d_o.1, .int d_o.2.1, .int d_o.2.2.1, .int d_o.2.2.2.1, .int d_o.2.2.2.2.1, .int v_o_spot, .int v_o_out])), (q_o_years, gI Cs 10 m_2), (q_a1, gI Cs n_a1 v_a1)] H := hP
    have hD : va_D A [(q_o, .inr (6, [.int v_o_refusal, .ref q_o_text, .int v_o_size, .ref q_o_now, .ref q_o_trial, .ref q_o_diary, .int v_o_acts, .ref q_o_kept, .ref q_o_isKept, .ref q_o_years, .int d_o.1, .int d_o.2.1, .int d_o.2.2.1, .int d_o.2.2.2.1, .int d_o.2.2.2.2.1, .int v_o_spot, .int v_o_out])), (q_o_years, gI Cs 10 m_2), (q_a1, gI Cs n_a1 v_a1)] := hD
    refine lv_aload_n hx hb dX6_layYears_28 rfl (lv_at hl 0 rfl) ?_
    refine lv_aload_n hx hb dX6_layYears_29 rfl (lv_at hl 1 rfl) ?_
    refine lv_iload_n hx hb dX6_layYears_30 rfl (lv_at hl 2 rfl) ?_
    refine lv_iconst (v := (-1 : Int32)) hx hb dX6_layYears_31 (by decide) ?_
    refine gVMv (wr := []) (As := [.ref q_a1, .int x2, .int (-1 : Int32)]) (rest := []) ⟨hx, hb, hml, hown, htb⟩ hK hP hD hS hA hN [0, 1, 2] [] rfl (by decide) rfl (by decide) (by decide) (c_X6_spread l D Cs q_o q_a1 q_o_text q_o_now q_o_trial q_o_diary q_o_kept q_o_isKept q_o_years n_a1 H.size m_2 v_a1 v_o_refusal v_o_size v_o_acts d_o.1 d_o.2.1 d_o.2.2.1 d_o.2.2.2.1 d_o.2.2.2.2.1 v_o_spot v_o_out x2 (-1 : Int32) h) (cwV 3 htb (TB_v tb_364 tb_365 tb_366 tb_5 (TB_self tb_367)) rfl rfl rfl z_X6_spread ⟨Nat.le_of_ble_eq_true rfl, Nat.le_of_ble_eq_true rfl⟩) 0 rfl rfl rfl rfl hl.1 rfl (Nat.le_of_ble_eq_true rfl) ⟨Nat.le_of_ble_eq_true rfl, Nat.le_of_ble_eq_true rfl⟩ dX6_layYears_32 (fun m_4 H locs h hP hD hS => ?_)
    have hP : va_P D vwCl [(q_o, .inr (6, [.int v_o_refusal, .ref q_o_text, .int v_o_size, .ref q_o_now, .ref q_o_trial, .ref q_o_diary, .int v_o_acts, .ref q_o_kept, .ref q_o_isKept, .ref q_o_years, .int d_o.1, .int d_o.2.1, .int d_o.2.2.1, .int d_o.2.2.2.1, .int d_o.2.2.2.2.1, .int v_o_spot, .int v_o_out])), (q_o_years, gI Cs 10 m_4), (q_a1, gI Cs n_a1 v_a1)] H := hP
    have hD : va_D A [(q_o, .inr (6, [.int v_o_refusal, .ref q_o_text, .int v_o_size, .ref q_o_now, .ref q_o_trial, .ref q_o_diary, .int v_o_acts, .ref q_o_kept, .ref q_o_isKept, .ref q_o_years, .int d_o.1, .int d_o.2.1, .int d_o.2.2.1, .int d_o.2.2.2.1, .int d_o.2.2.2.2.1, .int v_o_spot, .int v_o_out])), (q_o_years, gI Cs 10 m_4), (q_a1, gI Cs n_a1 v_a1)] := hD
    rw [← hQ]
    exact gRetV (u := (d_o.1, d_o.2.1, d_o.2.2.1, d_o.2.2.2.1, d_o.2.2.2.2.1, m_4)) hx hb hr h hP hD hS dX6_layYears_35 hlocks
  unfold P_X6_layYears at h
  refine lv_aload_n hx hb dX6_layYears_0 rfl (lv_at hl 0 rfl) ?_
  refine lv_aload_n hx hb dX6_layYears_1 rfl (lv_at hl 1 rfl) ?_
  refine lv_iload_n hx hb dX6_layYears_2 rfl (lv_at hl 2 rfl) ?_
  refine gVMv (wr := []) (As := [.ref q_a1, .int x2]) (rest := []) ⟨hx, hb, hml, hown, htb⟩ hK hP hD hS hA hN [0, 1, 2] [] rfl (by decide) rfl (by decide) (by decide) (c_X6_findLeast l D Cs q_o q_a1 q_o_text q_o_now q_o_trial q_o_diary q_o_kept q_o_isKept q_o_years n_a1 H.size b_o v_a1 v_o_refusal v_o_size v_o_acts v_o_spot v_o_out x2 h) (cwV 2 htb (TB_v tb_342 tb_343 tb_344 tb_5 (TB_self tb_345)) rfl rfl rfl z_X6_findLeast ⟨Nat.le_of_ble_eq_true rfl, Nat.le_of_ble_eq_true rfl⟩) 0 rfl rfl rfl rfl hl.1 rfl (Nat.le_of_ble_eq_true rfl) ⟨Nat.le_of_ble_eq_true rfl, Nat.le_of_ble_eq_true rfl⟩ dX6_layYears_3 (fun m_6 H locs h hP hD hS => ?_)
  have hP : va_P D vwCl [(q_o, .inr (6, [.int v_o_refusal, .ref q_o_text, .int v_o_size, .ref q_o_now, .ref q_o_trial, .ref q_o_diary, .int v_o_acts, .ref q_o_kept, .ref q_o_isKept, .ref q_o_years, .int m_6.1, .int m_6.2.1, .int m_6.2.2.1, .int m_6.2.2.2.1, .int m_6.2.2.2.2.1, .int v_o_spot, .int v_o_out])), (q_o_years, gI Cs 10 m_6.2.2.2.2.2), (q_a1, gI Cs n_a1 v_a1)] H := hP
  have hD : va_D A [(q_o, .inr (6, [.int v_o_refusal, .ref q_o_text, .int v_o_size, .ref q_o_now, .ref q_o_trial, .ref q_o_diary, .int v_o_acts, .ref q_o_kept, .ref q_o_isKept, .ref q_o_years, .int m_6.1, .int m_6.2.1, .int m_6.2.2.1, .int m_6.2.2.2.1, .int m_6.2.2.2.2.1, .int v_o_spot, .int v_o_out])), (q_o_years, gI Cs 10 m_6.2.2.2.2.2), (q_a1, gI Cs n_a1 v_a1)] := hD
  refine lv_aload_n hx hb dX6_layYears_6 rfl (lv_at hl 0 rfl) ?_
  refine lv_aload_n hx hb dX6_layYears_7 rfl (lv_at hl 1 rfl) ?_
  refine lv_iload_n hx hb dX6_layYears_8 rfl (lv_at hl 2 rfl) ?_
  refine lv_aload_n hx hb dX6_layYears_9 rfl (lv_at hl 0 rfl) ?_
  refine va_get (D := D) (ci := 6) (v := .int m_6.2.1) (C := RX6) (T := TX6) (N := 17) hx hb htb inT_X6 hown hK hP 0 rfl rfl 11 (by decide) (htb _ tb_346) (fun _ h9 => h9) rfl dX6_layYears_10 ?_
  refine lv_iconst (v := (-1 : Int32)) hx hb dX6_layYears_13 (by decide) ?_
  refine lv_icmp_ne (tgt := 21) hx hb dX6_layYears_14 (by decide) (fun c_7 => ?_) (fun c_7 => ?_)
  · have h := h.2 c_7
    refine lv_aload_n hx hb dX6_layYears_21 rfl (lv_at hl 0 rfl) ?_
    refine va_get (D := D) (ci := 6) (v := .int m_6.2.1) (C := RX6) (T := TX6) (N := 17) hx hb htb inT_X6 hown hK hP 0 rfl rfl 11 (by decide) (htb _ tb_346) (fun _ h9 => h9) rfl dX6_layYears_22 ?_
    exact B25 _ _ _ m_6 x2 m_6.2.1 hP hD hS (lv_sub hl [0, 1, 2] rfl) h
  · have h := h.1 c_7
    refine lv_iconst (v := (0 : Int32)) hx hb dX6_layYears_17 (by decide) ?_
    refine lv_goto (tgt := 25) hx hb dX6_layYears_18 (by decide) ?_
    exact B25 _ _ _ m_6 x2 (0 : Int32) hP hD hS (lv_sub hl [0, 1, 2] rfl) h
set_option maxHeartbeats 4000000 in
set_option maxRecDepth 100000 in
theorem c_X6_sinceOn (l : Launch) (D : va_G) (Cs : Nat → ClassId) (q_o : Nat) (q_a1 : Nat) (q_o_text : Nat) (q_o_now : Nat) (q_o_trial : Nat) (q_o_diary : Nat) (q_o_kept : Nat) (q_o_isKept : Nat) (q_o_years : Nat) (n_a1 : Nat) (sz : Nat) (b_o : BM) (v_a1 : (Nat → Int32)) (v_o_refusal : Int32) (v_o_size : Int32) (v_o_acts : Int32) (v_o_spot : Int32) (v_o_out : Int32) (x2 : Int32) (x3 : Int32) {post : Int32 → BM → Prop} (h : P_X6_sinceOn n_a1 b_o v_a1 x2 x3 post) : Met l yX6_sinceOn wsX6_sinceOn ({ frames := 5, cells := 0, slots := 0, locals := 117 } : Room) (va_Pc [.ref q_o, .ref q_a1, .int x2, .int x3] (gM D Cs [(q_o, .inr (6, [.int v_o_refusal, .ref q_o_text, .int v_o_size, .ref q_o_now, .ref q_o_trial, .ref q_o_diary, .int v_o_acts, .ref q_o_kept, .ref q_o_isKept, .ref q_o_years, .int b_o.1, .int b_o.2.1, .int b_o.2.2.1, .int b_o.2.2.2.1, .int b_o.2.2.2.2.1, .int v_o_spot, .int v_o_out])), (q_o_years, gI Cs 10 b_o.2.2.2.2.2), (q_a1, gI Cs n_a1 v_a1)] sz)) (va_Qi (fun (r : Int32) (u : BM) => post r u) (gB D (va_A [(q_o, .inr (6, [.int v_o_refusal, .ref q_o_text, .int v_o_size, .ref q_o_now, .ref q_o_trial, .ref q_o_diary, .int v_o_acts, .ref q_o_kept, .ref q_o_isKept, .ref q_o_years, .int b_o.1, .int b_o.2.1, .int b_o.2.2.1, .int b_o.2.2.2.1, .int b_o.2.2.2.2.1, .int v_o_spot, .int v_o_out])), (q_o_years, gI Cs 10 b_o.2.2.2.2.2), (q_a1, gI Cs n_a1 v_a1)] sz) (fun u : BM => [(q_o, .inr (6, [.int v_o_refusal, .ref q_o_text, .int v_o_size, .ref q_o_now, .ref q_o_trial, .ref q_o_diary, .int v_o_acts, .ref q_o_kept, .ref q_o_isKept, .ref q_o_years, .int u.1, .int u.2.1, .int u.2.2.1, .int u.2.2.2.1, .int u.2.2.2.2.1, .int v_o_spot, .int v_o_out])), (q_o_years, gI Cs 10 u.2.2.2.2.2), (q_a1, gI Cs n_a1 v_a1)])) (va_A [(q_o, .inr (6, [.int v_o_refusal, .ref q_o_text, .int v_o_size, .ref q_o_now, .ref q_o_trial, .ref q_o_diary, .int v_o_acts, .ref q_o_kept, .ref q_o_isKept, .ref q_o_years, .int b_o.1, .int b_o.2.1, .int b_o.2.2.1, .int b_o.2.2.2.1, .int b_o.2.2.2.2.1, .int v_o_spot, .int v_o_out])), (q_o_years, gI Cs 10 b_o.2.2.2.2.2), (q_a1, gI Cs n_a1 v_a1)] sz)) 0 0 (va_A [(q_o, .inr (6, [.int v_o_refusal, .ref q_o_text, .int v_o_size, .ref q_o_now, .ref q_o_trial, .ref q_o_diary, .int v_o_acts, .ref q_o_kept, .ref q_o_isKept, .ref q_o_years, .int b_o.1, .int b_o.2.1, .int b_o.2.2.1, .int b_o.2.2.2.1, .int b_o.2.2.2.2.1, .int v_o_spot, .int v_o_out])), (q_o_years, gI Cs 10 b_o.2.2.2.2.2), (q_a1, gI Cs n_a1 v_a1)] sz) := by
  refine Met.ofW (cc := cX6_sinceOn) (maxL := 4) (ret := (some .int)) (by decide) rfl ?_
  intro p e s m args below meth c s₁ B hml hv
  obtain ⟨ha, hsz, hP, hK, hD0, hN⟩ := hv
  have hx := B.exec
  have hb := B.bytes
  have hr := B.returns
  have hts := atoms_spec (ws := wsX6_sinceOn) B.pre
  have htb : ∀ w ∈ TB, w.before args s = true := fun w h9 => hts w (List.mem_cons_of_mem _ h9)
  have hown : s.vm.findClass RX6 = some m.cls := findClass_of_methodNamed B.named
  have hlocks := B.notSynchronized
  subst hsz
  have hD := hD0.self (sz := s.heap.size)
  generalize hAe : va_A [(q_o, .inr (6, [.int v_o_refusal, .ref q_o_text, .int v_o_size, .ref q_o_now, .ref q_o_trial, .ref q_o_diary, .int v_o_acts, .ref q_o_kept, .ref q_o_isKept, .ref q_o_years, .int b_o.1, .int b_o.2.1, .int b_o.2.2.1, .int b_o.2.2.2.1, .int b_o.2.2.2.2.1, .int v_o_spot, .int v_o_out])), (q_o_years, gI Cs 10 b_o.2.2.2.2.2), (q_a1, gI Cs n_a1 v_a1)] s.heap.size = A at hD ⊢
  have hA : ∀ q : Nat, s.heap.size ≤ q → A q := fun q h9 => by rw [← hAe]; exact Or.inr h9
  obtain ⟨H, hH⟩ : ∃ z : Heap, z = s.heap := ⟨_, rfl⟩
  have hS : va_S A s.heap H [] := by rw [hH]; exact va_S.rf
  have hP : va_P D vwCl [(q_o, .inr (6, [.int v_o_refusal, .ref q_o_text, .int v_o_size, .ref q_o_now, .ref q_o_trial, .ref q_o_diary, .int v_o_acts, .ref q_o_kept, .ref q_o_isKept, .ref q_o_years, .int b_o.1, .int b_o.2.1, .int b_o.2.2.1, .int b_o.2.2.2.1, .int b_o.2.2.2.2.1, .int v_o_spot, .int v_o_out])), (q_o_years, gI Cs 10 b_o.2.2.2.2.2), (q_a1, gI Cs n_a1 v_a1)] H := by rw [hH]; exact hP
  generalize hQ : MQ below _ args s _ _ _ = Q
  show W p l e ({ frames := 5, cells := 0, slots := 0, locals := 117 } : Room) s m args below meth c s.heap [] 0 0 Q (entryFrame m args 4)
  have hent : entryFrame m args 4 = F0 m 0 ((lg_sl ([.ref q_o, .ref q_a1, .int x2, .int x3]) ++ List.replicate (4 - (lg_sl ([.ref q_o, .ref q_a1, .int x2, .int x3])).length) Slot.unset).toArray) [] := by rw [ha]; exact lg_entry_eq m ([.ref q_o, .ref q_a1, .int x2, .int x3]) 4
  rw [hent]; clear hent
  rw [← hH]
  have hl := lv_entry ([.ref q_o, .ref q_a1, .int x2, .int x3]) (n := 4) (Nat.le_of_ble_eq_true rfl)
  generalize (lg_sl ([.ref q_o, .ref q_a1, .int x2, .int x3]) ++ List.replicate (4 - (lg_sl ([.ref q_o, .ref q_a1, .int x2, .int x3])).length) Slot.unset).toArray = ls at hl ⊢
  have hl : lv_has ls 4 [(0, .ref q_o), (1, .ref q_a1), (2, .int x2), (3, .int x3)] := hl
  have B28 : ∀ (H : Heap) (locs : List Loc) (ls : Array Slot) (d_o : BM) (s0 : Int32), va_P D vwCl [(q_o, .inr (6, [.int v_o_refusal, .ref q_o_text, .int v_o_size, .ref q_o_now, .ref q_o_trial, .ref q_o_diary, .int v_o_acts, .ref q_o_kept, .ref q_o_isKept, .ref q_o_years, .int d_o.1, .int d_o.2.1, .int d_o.2.2.1, .int d_o.2.2.2.1, .int d_o.2.2.2.2.1, .int v_o_spot, .int v_o_out])), (q_o_years, gI Cs 10 d_o.2.2.2.2.2), (q_a1, gI Cs n_a1 v_a1)] H → va_D A [(q_o, .inr (6, [.int v_o_refusal, .ref q_o_text, .int v_o_size, .ref q_o_now, .ref q_o_trial, .ref q_o_diary, .int v_o_acts, .ref q_o_kept, .ref q_o_isKept, .ref q_o_years, .int d_o.1, .int d_o.2.1, .int d_o.2.2.1, .int d_o.2.2.2.1, .int d_o.2.2.2.2.1, .int v_o_spot, .int v_o_out])), (q_o_years, gI Cs 10 d_o.2.2.2.2.2), (q_a1, gI Cs n_a1 v_a1)] → va_S A s.heap H locs → lv_has ls 4 [(0, .ref q_o), (1, .ref q_a1), (2, .int x2), (3, .int x3)] → P_X6_sinceOn_b28 n_a1 b_o v_a1 x2 x3 post d_o s0 → W p l e ({ frames := 5, cells := 0, slots := 0, locals := 117 } : Room) s m args below meth c H locs 0 0 Q (F0 m 28 ls [.int s0]) := by
    intro H locs ls d_o s0 hP hD hS hl h
    unfold P_X6_sinceOn_b28 at h
    rw [← hQ]
    exact gRetI (u := d_o) hx hb hr rfl h hP hD hS dX6_sinceOn_28 hlocks
  unfold P_X6_sinceOn at h
  refine lv_aload_n hx hb dX6_sinceOn_0 rfl (lv_at hl 0 rfl) ?_
  refine lv_aload_n hx hb dX6_sinceOn_1 rfl (lv_at hl 1 rfl) ?_
  refine lv_iload_n hx hb dX6_sinceOn_2 rfl (lv_at hl 3 rfl) ?_
  refine gVMv (wr := []) (As := [.ref q_a1, .int x3]) (rest := []) ⟨hx, hb, hml, hown, htb⟩ hK hP hD hS hA hN [0, 1, 2] [] rfl (by decide) rfl (by decide) (by decide) (c_X6_layYears l D Cs q_o q_a1 q_o_text q_o_now q_o_trial q_o_diary q_o_kept q_o_isKept q_o_years n_a1 H.size b_o v_a1 v_o_refusal v_o_size v_o_acts v_o_spot v_o_out x3 h) (cwV 2 htb (TB_v tb_667 tb_668 tb_669 tb_5 (TB_self tb_670)) rfl rfl rfl z_X6_layYears ⟨Nat.le_of_ble_eq_true rfl, Nat.le_of_ble_eq_true rfl⟩) 0 rfl rfl rfl rfl hl.1 rfl (Nat.le_of_ble_eq_true rfl) ⟨Nat.le_of_ble_eq_true rfl, Nat.le_of_ble_eq_true rfl⟩ dX6_sinceOn_3 (fun m_2 H locs h hP hD hS => ?_)
  have hP : va_P D vwCl [(q_o, .inr (6, [.int v_o_refusal, .ref q_o_text, .int v_o_size, .ref q_o_now, .ref q_o_trial, .ref q_o_diary, .int v_o_acts, .ref q_o_kept, .ref q_o_isKept, .ref q_o_years, .int m_2.1, .int m_2.2.1, .int m_2.2.2.1, .int m_2.2.2.2.1, .int m_2.2.2.2.2.1, .int v_o_spot, .int v_o_out])), (q_o_years, gI Cs 10 m_2.2.2.2.2.2), (q_a1, gI Cs n_a1 v_a1)] H := hP
  have hD : va_D A [(q_o, .inr (6, [.int v_o_refusal, .ref q_o_text, .int v_o_size, .ref q_o_now, .ref q_o_trial, .ref q_o_diary, .int v_o_acts, .ref q_o_kept, .ref q_o_isKept, .ref q_o_years, .int m_2.1, .int m_2.2.1, .int m_2.2.2.1, .int m_2.2.2.2.1, .int m_2.2.2.2.2.1, .int v_o_spot, .int v_o_out])), (q_o_years, gI Cs 10 m_2.2.2.2.2.2), (q_a1, gI Cs n_a1 v_a1)] := hD
  refine lv_aload_n hx hb dX6_sinceOn_6 rfl (lv_at hl 0 rfl) ?_
  refine va_get (D := D) (ci := 6) (v := .ref q_o_years) (C := RX6) (T := TX6) (N := 17) hx hb htb inT_X6 hown hK hP 0 rfl rfl 9 (by decide) (htb _ tb_95) (fun _ h9 => h9) rfl dX6_sinceOn_7 ?_
  refine lv_iload_n hx hb dX6_sinceOn_10 rfl (lv_at hl 2 rfl) ?_
  obtain ⟨hi_3, h⟩ := h
  refine va_iald hx hb hK hP 1 0 rfl rfl hi_3 dX6_sinceOn_11 ?_
  refine lv_sipush (v := (1000 : Int32)) hx hb dX6_sinceOn_12 (by decide) ?_
  refine lv_icmp_ge (tgt := 27) hx hb dX6_sinceOn_15 (by decide) (fun c_4 => ?_) (fun c_4 => ?_)
  · have h := h.1 c_4
    refine lv_iconst (v := (-1 : Int32)) hx hb dX6_sinceOn_27 (by decide) ?_
    exact B28 _ _ _ m_2 (-1 : Int32) hP hD hS (lv_sub hl [0, 1, 2, 3] rfl) h
  · have h := h.2 c_4
    refine lv_aload_n hx hb dX6_sinceOn_18 rfl (lv_at hl 0 rfl) ?_
    refine va_get (D := D) (ci := 6) (v := .ref q_o_years) (C := RX6) (T := TX6) (N := 17) hx hb htb inT_X6 hown hK hP 0 rfl rfl 9 (by decide) (htb _ tb_95) (fun _ h9 => h9) rfl dX6_sinceOn_19 ?_
    refine lv_iload_n hx hb dX6_sinceOn_22 rfl (lv_at hl 2 rfl) ?_
    obtain ⟨hi_5, h⟩ := h
    refine va_iald hx hb hK hP 1 0 rfl rfl hi_5 dX6_sinceOn_23 ?_
    refine lv_goto (tgt := 28) hx hb dX6_sinceOn_24 (by decide) ?_
    exact B28 _ _ _ m_2 (m_2.2.2.2.2.2 x2.toNatClampNeg) hP hD hS (lv_sub hl [0, 1, 2, 3] rfl) h
set_option maxHeartbeats 4000000 in
set_option maxRecDepth 100000 in
theorem c_X6_append (l : Launch) (D : va_G) (Cs : Nat → ClassId) (q_o : Nat) (q_o_text : Nat) (q_o_now : Nat) (q_o_trial : Nat) (q_o_diary : Nat) (q_o_kept : Nat) (q_o_isKept : Nat) (q_o_years : Nat) (sz : Nat) (v_o_refusal : Int32) (v_o_size : Int32) (v_o_text : (Nat → Int32)) (v_o_acts : Int32) (v_o_least : Int32) (v_o_origins : Int32) (v_o_ofAll : Int32) (v_o_ofSome : Int32) (v_o_sets : Int32) (v_o_spot : Int32) (v_o_out : Int32) (x1 : Int32) {post : Int32 → Int32 → Int32 → (Nat → Int32) → Prop} (h : P_X6_append v_o_refusal v_o_size v_o_text x1 post) : Met l yX6_append wsX6_append ({ frames := 1, cells := 0, slots := 0, locals := 25 } : Room) (va_Pc [.ref q_o, .int x1] (gM D Cs [(q_o, .inr (6, [.int v_o_refusal, .ref q_o_text, .int v_o_size, .ref q_o_now, .ref q_o_trial, .ref q_o_diary, .int v_o_acts, .ref q_o_kept, .ref q_o_isKept, .ref q_o_years, .int v_o_least, .int v_o_origins, .int v_o_ofAll, .int v_o_ofSome, .int v_o_sets, .int v_o_spot, .int v_o_out])), (q_o_text, gI Cs 100 v_o_text)] sz)) (va_Qi (fun (r : Int32) (u : Int32 × Int32 × (Nat → Int32)) => post r u.1 u.2.1 u.2.2) (gB D (va_A [(q_o, .inr (6, [.int v_o_refusal, .ref q_o_text, .int v_o_size, .ref q_o_now, .ref q_o_trial, .ref q_o_diary, .int v_o_acts, .ref q_o_kept, .ref q_o_isKept, .ref q_o_years, .int v_o_least, .int v_o_origins, .int v_o_ofAll, .int v_o_ofSome, .int v_o_sets, .int v_o_spot, .int v_o_out])), (q_o_text, gI Cs 100 v_o_text)] sz) (fun u : Int32 × Int32 × (Nat → Int32) => [(q_o, .inr (6, [.int u.1, .ref q_o_text, .int u.2.1, .ref q_o_now, .ref q_o_trial, .ref q_o_diary, .int v_o_acts, .ref q_o_kept, .ref q_o_isKept, .ref q_o_years, .int v_o_least, .int v_o_origins, .int v_o_ofAll, .int v_o_ofSome, .int v_o_sets, .int v_o_spot, .int v_o_out])), (q_o_text, gI Cs 100 u.2.2)])) (va_A [(q_o, .inr (6, [.int v_o_refusal, .ref q_o_text, .int v_o_size, .ref q_o_now, .ref q_o_trial, .ref q_o_diary, .int v_o_acts, .ref q_o_kept, .ref q_o_isKept, .ref q_o_years, .int v_o_least, .int v_o_origins, .int v_o_ofAll, .int v_o_ofSome, .int v_o_sets, .int v_o_spot, .int v_o_out])), (q_o_text, gI Cs 100 v_o_text)] sz)) 0 0 (va_A [(q_o, .inr (6, [.int v_o_refusal, .ref q_o_text, .int v_o_size, .ref q_o_now, .ref q_o_trial, .ref q_o_diary, .int v_o_acts, .ref q_o_kept, .ref q_o_isKept, .ref q_o_years, .int v_o_least, .int v_o_origins, .int v_o_ofAll, .int v_o_ofSome, .int v_o_sets, .int v_o_spot, .int v_o_out])), (q_o_text, gI Cs 100 v_o_text)] sz) := by
  refine Met.ofW (cc := cX6_append) (maxL := 2) (ret := (some .int)) (by decide) rfl ?_
  intro p e s m args below meth c s₁ B hml hv
  obtain ⟨ha, hsz, hP, hK, hD0, hN⟩ := hv
  have hx := B.exec
  have hb := B.bytes
  have hr := B.returns
  have hts := atoms_spec (ws := wsX6_append) B.pre
  have htb : ∀ w ∈ TB, w.before args s = true := fun w h9 => hts w (List.mem_cons_of_mem _ h9)
  have hown : s.vm.findClass RX6 = some m.cls := findClass_of_methodNamed B.named
  have hlocks := B.notSynchronized
  subst hsz
  have hD := hD0.self (sz := s.heap.size)
  generalize hAe : va_A [(q_o, .inr (6, [.int v_o_refusal, .ref q_o_text, .int v_o_size, .ref q_o_now, .ref q_o_trial, .ref q_o_diary, .int v_o_acts, .ref q_o_kept, .ref q_o_isKept, .ref q_o_years, .int v_o_least, .int v_o_origins, .int v_o_ofAll, .int v_o_ofSome, .int v_o_sets, .int v_o_spot, .int v_o_out])), (q_o_text, gI Cs 100 v_o_text)] s.heap.size = A at hD ⊢
  have hA : ∀ q : Nat, s.heap.size ≤ q → A q := fun q h9 => by rw [← hAe]; exact Or.inr h9
  obtain ⟨H, hH⟩ : ∃ z : Heap, z = s.heap := ⟨_, rfl⟩
  have hS : va_S A s.heap H [] := by rw [hH]; exact va_S.rf
  have hP : va_P D vwCl [(q_o, .inr (6, [.int v_o_refusal, .ref q_o_text, .int v_o_size, .ref q_o_now, .ref q_o_trial, .ref q_o_diary, .int v_o_acts, .ref q_o_kept, .ref q_o_isKept, .ref q_o_years, .int v_o_least, .int v_o_origins, .int v_o_ofAll, .int v_o_ofSome, .int v_o_sets, .int v_o_spot, .int v_o_out])), (q_o_text, gI Cs 100 v_o_text)] H := by rw [hH]; exact hP
  generalize hQ : MQ below _ args s _ _ _ = Q
  show W p l e ({ frames := 1, cells := 0, slots := 0, locals := 25 } : Room) s m args below meth c s.heap [] 0 0 Q (entryFrame m args 2)
  have hent : entryFrame m args 2 = F0 m 0 ((lg_sl ([.ref q_o, .int x1]) ++ List.replicate (2 - (lg_sl ([.ref q_o, .int x1])).length) Slot.unset).toArray) [] := by rw [ha]; exact lg_entry_eq m ([.ref q_o, .int x1]) 2
  rw [hent]; clear hent
  rw [← hH]
  have hl := lv_entry ([.ref q_o, .int x1]) (n := 2) (Nat.le_of_ble_eq_true rfl)
  generalize (lg_sl ([.ref q_o, .int x1]) ++ List.replicate (2 - (lg_sl ([.ref q_o, .int x1])).length) Slot.unset).toArray = ls at hl ⊢
  have hl : lv_has ls 2 [(0, .ref q_o), (1, .int x1)] := hl
  have B31 : ∀ (H : Heap) (locs : List Loc) (ls : Array Slot) (s1 : Int32), va_P D vwCl [(q_o, .inr (6, [.int v_o_refusal, .ref q_o_text, .int v_o_size, .ref q_o_now, .ref q_o_trial, .ref q_o_diary, .int v_o_acts, .ref q_o_kept, .ref q_o_isKept, .ref q_o_years, .int v_o_least, .int v_o_origins, .int v_o_ofAll, .int v_o_ofSome, .int v_o_sets, .int v_o_spot, .int v_o_out])), (q_o_text, gI Cs 100 v_o_text)] H → va_D A [(q_o, .inr (6, [.int v_o_refusal, .ref q_o_text, .int v_o_size, .ref q_o_now, .ref q_o_trial, .ref q_o_diary, .int v_o_acts, .ref q_o_kept, .ref q_o_isKept, .ref q_o_years, .int v_o_least, .int v_o_origins, .int v_o_ofAll, .int v_o_ofSome, .int v_o_sets, .int v_o_spot, .int v_o_out])), (q_o_text, gI Cs 100 v_o_text)] → va_S A s.heap H locs → lv_has ls 2 [(0, .ref q_o), (1, .int x1)] → P_X6_append_b31 v_o_refusal v_o_size v_o_text x1 post s1 → W p l e ({ frames := 1, cells := 0, slots := 0, locals := 25 } : Room) s m args below meth c H locs 0 0 Q (F0 m 31 ls [.int s1, .ref q_o]) := by
    intro H locs ls s1 hP hD hS hl h
    unfold P_X6_append_b31 at h
    refine gVM (wr := [(q_o_text, gI Cs 100 v_o_text)]) (As := [.int s1]) (rest := []) ⟨hx, hb, hml, hown, htb⟩ hK hP hD hS hA hN [0] [1] rfl (by decide) rfl (by decide) (by decide) (c_X6_refused l D Cs q_o q_o_text q_o_now q_o_trial q_o_diary q_o_kept q_o_isKept q_o_years H.size v_o_refusal v_o_size v_o_acts v_o_least v_o_origins v_o_ofAll v_o_ofSome v_o_sets v_o_spot v_o_out s1 h) (cwV 1 htb (TB_v tb_128 tb_129 tb_130 tb_5 (TB_self tb_131)) rfl rfl rfl z_X6_refused ⟨Nat.le_of_ble_eq_true rfl, Nat.le_of_ble_eq_true rfl⟩) 0 rfl rfl rfl rfl hl.1 rfl (Nat.le_of_ble_eq_true rfl) ⟨Nat.le_of_ble_eq_true rfl, Nat.le_of_ble_eq_true rfl⟩ dX6_append_31 (fun r_1 m_2 H locs h hP hD hS => ?_)
    have hP : va_P D vwCl [(q_o_text, gI Cs 100 v_o_text), (q_o, .inr (6, [.int m_2, .ref q_o_text, .int v_o_size, .ref q_o_now, .ref q_o_trial, .ref q_o_diary, .int v_o_acts, .ref q_o_kept, .ref q_o_isKept, .ref q_o_years, .int v_o_least, .int v_o_origins, .int v_o_ofAll, .int v_o_ofSome, .int v_o_sets, .int v_o_spot, .int v_o_out]))] H := hP
    have hD : va_D A [(q_o_text, gI Cs 100 v_o_text), (q_o, .inr (6, [.int m_2, .ref q_o_text, .int v_o_size, .ref q_o_now, .ref q_o_trial, .ref q_o_diary, .int v_o_acts, .ref q_o_kept, .ref q_o_isKept, .ref q_o_years, .int v_o_least, .int v_o_origins, .int v_o_ofAll, .int v_o_ofSome, .int v_o_sets, .int v_o_spot, .int v_o_out]))] := hD
    refine lv_if_eq (tgt := 39) hx hb dX6_append_34 (by decide) (fun c_3 => ?_) (fun c_3 => ?_)
    · have h := h.1 c_3
      refine lv_aload_n hx hb dX6_append_39 rfl (lv_at hl 0 rfl) ?_
      refine va_get (D := D) (ci := 6) (v := .ref q_o_text) (C := RX6) (T := TX6) (N := 17) hx hb htb inT_X6 hown hK hP 1 rfl rfl 1 (by decide) (htb _ tb_89) (fun _ h9 => h9) rfl dX6_append_40 ?_
      refine lv_aload_n hx hb dX6_append_43 rfl (lv_at hl 0 rfl) ?_
      refine va_get (D := D) (ci := 6) (v := .int v_o_size) (C := RX6) (T := TX6) (N := 17) hx hb htb inT_X6 hown hK hP 1 rfl rfl 2 (by decide) (htb _ tb_124) (fun _ h9 => h9) rfl dX6_append_44 ?_
      refine lv_iload_n hx hb dX6_append_47 rfl (lv_at hl 1 rfl) ?_
      obtain ⟨hi_4, h⟩ := h
      refine va_iast hx hb hK hP hD hS 0 0 rfl rfl hi_4 dX6_append_48 (fun H locs hP hD hS => ?_)
      have hP : va_P D vwCl [(q_o_text, gI Cs 100 (upd v_o_text v_o_size.toNatClampNeg x1)), (q_o, .inr (6, [.int m_2, .ref q_o_text, .int v_o_size, .ref q_o_now, .ref q_o_trial, .ref q_o_diary, .int v_o_acts, .ref q_o_kept, .ref q_o_isKept, .ref q_o_years, .int v_o_least, .int v_o_origins, .int v_o_ofAll, .int v_o_ofSome, .int v_o_sets, .int v_o_spot, .int v_o_out]))] H := hP
      have hD : va_D A [(q_o_text, gI Cs 100 (upd v_o_text v_o_size.toNatClampNeg x1)), (q_o, .inr (6, [.int m_2, .ref q_o_text, .int v_o_size, .ref q_o_now, .ref q_o_trial, .ref q_o_diary, .int v_o_acts, .ref q_o_kept, .ref q_o_isKept, .ref q_o_years, .int v_o_least, .int v_o_origins, .int v_o_ofAll, .int v_o_ofSome, .int v_o_sets, .int v_o_spot, .int v_o_out]))] := hD
      refine lv_aload_n hx hb dX6_append_49 rfl (lv_at hl 0 rfl) ?_
      refine lv_dup hx hb dX6_append_50 rfl ?_
      refine va_get (D := D) (ci := 6) (v := .int v_o_size) (C := RX6) (T := TX6) (N := 17) hx hb htb inT_X6 hown hK hP 1 rfl rfl 2 (by decide) (htb _ tb_124) (fun _ h9 => h9) rfl dX6_append_51 ?_
      refine lv_iconst (v := (1 : Int32)) hx hb dX6_append_54 (by decide) ?_
      refine lv_iadd hx hb dX6_append_55 ?_
      refine lv_topi (fun f_size_5 ef_size_5 => ?_)
      have h := h _ ef_size_5
      refine va_put (D := D) (ci := 6) (v := .int f_size_5) (ty := .int) (C := RX6) (T := TX6) (N := 17) hx hb htb inT_X6 tyX6 tyX6_ok nmX6 hown hK hP hD hS 1 rfl rfl 2 (by decide) (htb _ tb_124) (fun _ h9 => h9) rfl (tyX6_ok 2 (by decide)) rfl rfl (Nat.le_of_ble_eq_true rfl) dX6_append_56 (fun H locs hP hD hS => ?_)
      have hP : va_P D vwCl [(q_o_text, gI Cs 100 (upd v_o_text v_o_size.toNatClampNeg x1)), (q_o, .inr (6, [.int m_2, .ref q_o_text, .int f_size_5, .ref q_o_now, .ref q_o_trial, .ref q_o_diary, .int v_o_acts, .ref q_o_kept, .ref q_o_isKept, .ref q_o_years, .int v_o_least, .int v_o_origins, .int v_o_ofAll, .int v_o_ofSome, .int v_o_sets, .int v_o_spot, .int v_o_out]))] H := hP
      have hD : va_D A [(q_o_text, gI Cs 100 (upd v_o_text v_o_size.toNatClampNeg x1)), (q_o, .inr (6, [.int m_2, .ref q_o_text, .int f_size_5, .ref q_o_now, .ref q_o_trial, .ref q_o_diary, .int v_o_acts, .ref q_o_kept, .ref q_o_isKept, .ref q_o_years, .int v_o_least, .int v_o_origins, .int v_o_ofAll, .int v_o_ofSome, .int v_o_sets, .int v_o_spot, .int v_o_out]))] := hD
      refine lv_aload_n hx hb dX6_append_59 rfl (lv_at hl 0 rfl) ?_
      refine va_get (D := D) (ci := 6) (v := .int f_size_5) (C := RX6) (T := TX6) (N := 17) hx hb htb inT_X6 hown hK hP 1 rfl rfl 2 (by decide) (htb _ tb_124) (fun _ h9 => h9) rfl dX6_append_60 ?_
      rw [← hQ]
      exact gRetI (u := (m_2, f_size_5, (upd v_o_text v_o_size.toNatClampNeg x1))) hx hb hr rfl h (hP.sub [1, 0] rfl) (hD.sub [1, 0] (by decide) rfl) hS dX6_append_63 hlocks
    · have h := h.2 c_3
      refine lv_iconst (v := (0 : Int32)) hx hb dX6_append_37 (by decide) ?_
      rw [← hQ]
      exact gRetI (u := (m_2, v_o_size, v_o_text)) hx hb hr rfl h (hP.sub [1, 0] rfl) (hD.sub [1, 0] (by decide) rfl) hS dX6_append_38 hlocks
  unfold P_X6_append at h
  refine lv_aload_n hx hb dX6_append_0 rfl (lv_at hl 0 rfl) ?_
  refine lv_iload_n hx hb dX6_append_1 rfl (lv_at hl 1 rfl) ?_
  refine lv_i2l (v := x1.toInt64) hx hb dX6_append_2 rfl ?_
  refine lv_lconst (v := (0 : Int64)) hx hb dX6_append_3 rfl ?_
  refine lv_ldc2 (v := (255 : Int64)) hx hb hown (htb _ tb_123) dX6_append_4 ?_
  refine gSR (As := [.long x1.toInt64, .long (0 : Int64), .long (255 : Int64)]) (rest := [.ref q_o]) ⟨hx, hb, hml, hown, htb⟩ hK hP hN [] rfl (c_X6_in l D Cs x1.toInt64 (0 : Int64) (255 : Int64) h) (va_cwS 3 htb (TB_s tb_125 tb_126 tb_5 (TB_self tb_127)) rfl rfl rfl z_X6_in.2 ⟨Nat.le_of_ble_eq_true rfl, Nat.le_of_ble_eq_true rfl⟩) rfl hl.1 rfl (Nat.le_of_ble_eq_true rfl) ⟨Nat.le_of_ble_eq_true rfl, Nat.le_of_ble_eq_true rfl⟩ dX6_append_7 (fun r_6 h => ?_)
  refine lv_if_ne (tgt := 17) hx hb dX6_append_10 (by decide) (fun c_7 => ?_) (fun c_7 => ?_)
  · have h := h.2 c_7
    refine lv_aload_n hx hb dX6_append_17 rfl (lv_at hl 0 rfl) ?_
    refine va_get (D := D) (ci := 6) (v := .int v_o_size) (C := RX6) (T := TX6) (N := 17) hx hb htb inT_X6 hown hK hP 0 rfl rfl 2 (by decide) (htb _ tb_124) (fun _ h9 => h9) rfl dX6_append_18 ?_
    refine lv_bipush (v := (100 : Int32)) hx hb dX6_append_21 (by decide) ?_
    refine lv_icmp_ne (tgt := 30) hx hb dX6_append_23 (by decide) (fun c_8 => ?_) (fun c_8 => ?_)
    · have h := h.2 c_8
      refine lv_iconst (v := (0 : Int32)) hx hb dX6_append_30 (by decide) ?_
      exact B31 _ _ _ (0 : Int32) hP hD hS (lv_sub hl [0, 1] rfl) h
    · have h := h.1 c_8
      refine lv_iconst (v := (2 : Int32)) hx hb dX6_append_26 (by decide) ?_
      refine lv_goto (tgt := 31) hx hb dX6_append_27 (by decide) ?_
      exact B31 _ _ _ (2 : Int32) hP hD hS (lv_sub hl [0, 1] rfl) h
  · have h := h.1 c_7
    refine lv_iconst (v := (1 : Int32)) hx hb dX6_append_13 (by decide) ?_
    refine lv_goto (tgt := 31) hx hb dX6_append_14 (by decide) ?_
    exact B31 _ _ _ (1 : Int32) hP hD hS (lv_sub hl [0, 1] rfl) h
set_option maxHeartbeats 4000000 in
set_option maxRecDepth 100000 in
theorem c_X6_clearText (l : Launch) (D : va_G) (Cs : Nat → ClassId) (q_o : Nat) (q_o_text : Nat) (q_o_now : Nat) (q_o_trial : Nat) (q_o_diary : Nat) (q_o_kept : Nat) (q_o_isKept : Nat) (q_o_years : Nat) (sz : Nat) (v_o_refusal : Int32) (v_o_size : Int32) (v_o_acts : Int32) (v_o_least : Int32) (v_o_origins : Int32) (v_o_ofAll : Int32) (v_o_ofSome : Int32) (v_o_sets : Int32) (v_o_spot : Int32) (v_o_out : Int32) {post : Int32 → Int32 → Int32 → Prop} (h : P_X6_clearText v_o_refusal v_o_size post) : Met l yX6_clearText wsX6_clearText ({ frames := 0, cells := 0, slots := 0, locals := 0 } : Room) (va_Pc [.ref q_o] (gM D Cs [(q_o, .inr (6, [.int v_o_refusal, .ref q_o_text, .int v_o_size, .ref q_o_now, .ref q_o_trial, .ref q_o_diary, .int v_o_acts, .ref q_o_kept, .ref q_o_isKept, .ref q_o_years, .int v_o_least, .int v_o_origins, .int v_o_ofAll, .int v_o_ofSome, .int v_o_sets, .int v_o_spot, .int v_o_out]))] sz)) (va_Qi (fun (r : Int32) (u : Int32 × Int32) => post r u.1 u.2) (gB D (va_A [(q_o, .inr (6, [.int v_o_refusal, .ref q_o_text, .int v_o_size, .ref q_o_now, .ref q_o_trial, .ref q_o_diary, .int v_o_acts, .ref q_o_kept, .ref q_o_isKept, .ref q_o_years, .int v_o_least, .int v_o_origins, .int v_o_ofAll, .int v_o_ofSome, .int v_o_sets, .int v_o_spot, .int v_o_out]))] sz) (fun u : Int32 × Int32 => [(q_o, .inr (6, [.int u.1, .ref q_o_text, .int u.2, .ref q_o_now, .ref q_o_trial, .ref q_o_diary, .int v_o_acts, .ref q_o_kept, .ref q_o_isKept, .ref q_o_years, .int v_o_least, .int v_o_origins, .int v_o_ofAll, .int v_o_ofSome, .int v_o_sets, .int v_o_spot, .int v_o_out]))])) (va_A [(q_o, .inr (6, [.int v_o_refusal, .ref q_o_text, .int v_o_size, .ref q_o_now, .ref q_o_trial, .ref q_o_diary, .int v_o_acts, .ref q_o_kept, .ref q_o_isKept, .ref q_o_years, .int v_o_least, .int v_o_origins, .int v_o_ofAll, .int v_o_ofSome, .int v_o_sets, .int v_o_spot, .int v_o_out]))] sz)) 0 0 (va_A [(q_o, .inr (6, [.int v_o_refusal, .ref q_o_text, .int v_o_size, .ref q_o_now, .ref q_o_trial, .ref q_o_diary, .int v_o_acts, .ref q_o_kept, .ref q_o_isKept, .ref q_o_years, .int v_o_least, .int v_o_origins, .int v_o_ofAll, .int v_o_ofSome, .int v_o_sets, .int v_o_spot, .int v_o_out]))] sz) := by
  refine Met.ofW (cc := cX6_clearText) (maxL := 2) (ret := (some .int)) (by decide) rfl ?_
  intro p e s m args below meth c s₁ B hml hv
  obtain ⟨ha, hsz, hP, hK, hD0, hN⟩ := hv
  have hx := B.exec
  have hb := B.bytes
  have hr := B.returns
  have hts := atoms_spec (ws := wsX6_clearText) B.pre
  have htb : ∀ w ∈ TB, w.before args s = true := fun w h9 => hts w (List.mem_cons_of_mem _ h9)
  have hown : s.vm.findClass RX6 = some m.cls := findClass_of_methodNamed B.named
  have hlocks := B.notSynchronized
  subst hsz
  have hD := hD0.self (sz := s.heap.size)
  generalize hAe : va_A [(q_o, .inr (6, [.int v_o_refusal, .ref q_o_text, .int v_o_size, .ref q_o_now, .ref q_o_trial, .ref q_o_diary, .int v_o_acts, .ref q_o_kept, .ref q_o_isKept, .ref q_o_years, .int v_o_least, .int v_o_origins, .int v_o_ofAll, .int v_o_ofSome, .int v_o_sets, .int v_o_spot, .int v_o_out]))] s.heap.size = A at hD ⊢
  have hA : ∀ q : Nat, s.heap.size ≤ q → A q := fun q h9 => by rw [← hAe]; exact Or.inr h9
  obtain ⟨H, hH⟩ : ∃ z : Heap, z = s.heap := ⟨_, rfl⟩
  have hS : va_S A s.heap H [] := by rw [hH]; exact va_S.rf
  have hP : va_P D vwCl [(q_o, .inr (6, [.int v_o_refusal, .ref q_o_text, .int v_o_size, .ref q_o_now, .ref q_o_trial, .ref q_o_diary, .int v_o_acts, .ref q_o_kept, .ref q_o_isKept, .ref q_o_years, .int v_o_least, .int v_o_origins, .int v_o_ofAll, .int v_o_ofSome, .int v_o_sets, .int v_o_spot, .int v_o_out]))] H := by rw [hH]; exact hP
  generalize hQ : MQ below _ args s _ _ _ = Q
  show W p l e ({ frames := 0, cells := 0, slots := 0, locals := 0 } : Room) s m args below meth c s.heap [] 0 0 Q (entryFrame m args 2)
  have hent : entryFrame m args 2 = F0 m 0 ((lg_sl ([.ref q_o]) ++ List.replicate (2 - (lg_sl ([.ref q_o])).length) Slot.unset).toArray) [] := by rw [ha]; exact lg_entry_eq m ([.ref q_o]) 2
  rw [hent]; clear hent
  rw [← hH]
  have hl := lv_entry ([.ref q_o]) (n := 2) (Nat.le_of_ble_eq_true rfl)
  generalize (lg_sl ([.ref q_o]) ++ List.replicate (2 - (lg_sl ([.ref q_o])).length) Slot.unset).toArray = ls at hl ⊢
  have hl : lv_has ls 2 [(0, .ref q_o)] := hl
  unfold P_X6_clearText at h
  refine lv_aload_n hx hb dX6_clearText_0 rfl (lv_at hl 0 rfl) ?_
  refine lv_iconst (v := (0 : Int32)) hx hb dX6_clearText_1 (by decide) ?_
  refine va_put (D := D) (ci := 6) (v := .int (0 : Int32)) (ty := .int) (C := RX6) (T := TX6) (N := 17) hx hb htb inT_X6 tyX6 tyX6_ok nmX6 hown hK hP hD hS 0 rfl rfl 0 (by decide) (htb _ tb_132) (fun _ h9 => h9) rfl (tyX6_ok 0 (by decide)) rfl rfl (Nat.le_of_ble_eq_true rfl) dX6_clearText_2 (fun H locs hP hD hS => ?_)
  have hP : va_P D vwCl [(q_o, .inr (6, [.int (0 : Int32), .ref q_o_text, .int v_o_size, .ref q_o_now, .ref q_o_trial, .ref q_o_diary, .int v_o_acts, .ref q_o_kept, .ref q_o_isKept, .ref q_o_years, .int v_o_least, .int v_o_origins, .int v_o_ofAll, .int v_o_ofSome, .int v_o_sets, .int v_o_spot, .int v_o_out]))] H := hP
  have hD : va_D A [(q_o, .inr (6, [.int (0 : Int32), .ref q_o_text, .int v_o_size, .ref q_o_now, .ref q_o_trial, .ref q_o_diary, .int v_o_acts, .ref q_o_kept, .ref q_o_isKept, .ref q_o_years, .int v_o_least, .int v_o_origins, .int v_o_ofAll, .int v_o_ofSome, .int v_o_sets, .int v_o_spot, .int v_o_out]))] := hD
  refine lv_aload_n hx hb dX6_clearText_5 rfl (lv_at hl 0 rfl) ?_
  refine va_get (D := D) (ci := 6) (v := .int v_o_size) (C := RX6) (T := TX6) (N := 17) hx hb htb inT_X6 hown hK hP 0 rfl rfl 2 (by decide) (htb _ tb_124) (fun _ h9 => h9) rfl dX6_clearText_6 ?_
  refine lv_istore_n (lv' := [(1, .int v_o_size), (0, .ref q_o)]) hx hb dX6_clearText_9 rfl hl (by decide) rfl (fun ls hl => ?_)
  refine lv_aload_n hx hb dX6_clearText_10 rfl (lv_at hl 1 rfl) ?_
  refine lv_iconst (v := (0 : Int32)) hx hb dX6_clearText_11 (by decide) ?_
  refine va_put (D := D) (ci := 6) (v := .int (0 : Int32)) (ty := .int) (C := RX6) (T := TX6) (N := 17) hx hb htb inT_X6 tyX6 tyX6_ok nmX6 hown hK hP hD hS 0 rfl rfl 2 (by decide) (htb _ tb_124) (fun _ h9 => h9) rfl (tyX6_ok 2 (by decide)) rfl rfl (Nat.le_of_ble_eq_true rfl) dX6_clearText_12 (fun H locs hP hD hS => ?_)
  have hP : va_P D vwCl [(q_o, .inr (6, [.int (0 : Int32), .ref q_o_text, .int (0 : Int32), .ref q_o_now, .ref q_o_trial, .ref q_o_diary, .int v_o_acts, .ref q_o_kept, .ref q_o_isKept, .ref q_o_years, .int v_o_least, .int v_o_origins, .int v_o_ofAll, .int v_o_ofSome, .int v_o_sets, .int v_o_spot, .int v_o_out]))] H := hP
  have hD : va_D A [(q_o, .inr (6, [.int (0 : Int32), .ref q_o_text, .int (0 : Int32), .ref q_o_now, .ref q_o_trial, .ref q_o_diary, .int v_o_acts, .ref q_o_kept, .ref q_o_isKept, .ref q_o_years, .int v_o_least, .int v_o_origins, .int v_o_ofAll, .int v_o_ofSome, .int v_o_sets, .int v_o_spot, .int v_o_out]))] := hD
  refine lv_iload_n hx hb dX6_clearText_15 rfl (lv_at hl 0 rfl) ?_
  rw [← hQ]
  exact gRetI (u := ((0 : Int32), (0 : Int32))) hx hb hr rfl h hP hD hS dX6_clearText_16 hlocks
set_option maxHeartbeats 4000000 in
set_option maxRecDepth 100000 in
theorem c_X6_sign (l : Launch) (D : va_G) (Cs : Nat → ClassId) (q_o : Nat) (q_o_text : Nat) (q_o_now : Nat) (q_o_trial : Nat) (q_o_diary : Nat) (q_o_kept : Nat) (q_o_isKept : Nat) (q_o_years : Nat) (v_o_size : Int32) (v_o_spot : Int32) (v_o_text : (Nat → Int32)) (v_o_refusal : Int32) (v_o_acts : Int32) (v_o_least : Int32) (v_o_origins : Int32) (v_o_ofAll : Int32) (v_o_ofSome : Int32) (v_o_sets : Int32) (v_o_out : Int32) {post : Int32 → Prop} (h : P_X6_sign v_o_size v_o_spot v_o_text post) : Met l yX6_sign wsX6_sign ({ frames := 0, cells := 0, slots := 0, locals := 0 } : Room) (va_Pc [.ref q_o] (gR D Cs [(q_o, .inr (6, [.int v_o_refusal, .ref q_o_text, .int v_o_size, .ref q_o_now, .ref q_o_trial, .ref q_o_diary, .int v_o_acts, .ref q_o_kept, .ref q_o_isKept, .ref q_o_years, .int v_o_least, .int v_o_origins, .int v_o_ofAll, .int v_o_ofSome, .int v_o_sets, .int v_o_spot, .int v_o_out])), (q_o_text, gI Cs 100 v_o_text)])) (vp_Si post) 0 0 (fun _ => False) := by
  refine Met.ofW (cc := cX6_sign) (maxL := 1) (ret := (some .int)) (by decide) rfl ?_
  intro p e s m args below meth c s₁ B hml hv
  obtain ⟨ha, hP, hK, hN⟩ := hv
  have hx := B.exec
  have hb := B.bytes
  have hr := B.returns
  have hts := atoms_spec (ws := wsX6_sign) B.pre
  have htb : ∀ w ∈ TB, w.before args s = true := fun w h9 => hts w (List.mem_cons_of_mem _ h9)
  have hown : s.vm.findClass RX6 = some m.cls := findClass_of_methodNamed B.named
  have hlocks := B.notSynchronized
  generalize hQ : MQ below _ args s _ _ _ = Q
  show W p l e ({ frames := 0, cells := 0, slots := 0, locals := 0 } : Room) s m args below meth c s.heap [] 0 0 Q (entryFrame m args 1)
  have hent : entryFrame m args 1 = F0 m 0 ((lg_sl ([.ref q_o]) ++ List.replicate (1 - (lg_sl ([.ref q_o])).length) Slot.unset).toArray) [] := by rw [ha]; exact lg_entry_eq m ([.ref q_o]) 1
  rw [hent]; clear hent
  have hl := lv_entry ([.ref q_o]) (n := 1) (Nat.le_of_ble_eq_true rfl)
  generalize (lg_sl ([.ref q_o]) ++ List.replicate (1 - (lg_sl ([.ref q_o])).length) Slot.unset).toArray = ls at hl ⊢
  have hl : lv_has ls 1 [(0, .ref q_o)] := hl
  have B24 : ∀ (ls : Array Slot) (s0 : Int32), lv_has ls 1 [(0, .ref q_o)] → P_X6_sign_b24 v_o_size v_o_spot v_o_text post s0 → W p l e ({ frames := 0, cells := 0, slots := 0, locals := 0 } : Room) s m args below meth c s.heap [] 0 0 Q (F0 m 24 ls [.int s0]) := by
    intro ls s0 hl h
    unfold P_X6_sign_b24 at h
    rw [← hQ]
    exact gRetR hx hb hr rfl h dX6_sign_24 hlocks
  unfold P_X6_sign at h
  refine lv_aload_n hx hb dX6_sign_0 rfl (lv_at hl 0 rfl) ?_
  refine va_get (D := D) (ci := 6) (v := .int v_o_spot) (C := RX6) (T := TX6) (N := 17) hx hb htb inT_X6 hown hK hP 0 rfl rfl 15 (by decide) (htb _ tb_177) (fun _ h9 => h9) rfl dX6_sign_1 ?_
  refine lv_aload_n hx hb dX6_sign_4 rfl (lv_at hl 0 rfl) ?_
  refine va_get (D := D) (ci := 6) (v := .int v_o_size) (C := RX6) (T := TX6) (N := 17) hx hb htb inT_X6 hown hK hP 0 rfl rfl 2 (by decide) (htb _ tb_124) (fun _ h9 => h9) rfl dX6_sign_5 ?_
  refine lv_icmp_ge (tgt := 23) hx hb dX6_sign_8 (by decide) (fun c_1 => ?_) (fun c_1 => ?_)
  · have h := h.1 c_1
    refine lv_iconst (v := (-1 : Int32)) hx hb dX6_sign_23 (by decide) ?_
    exact B24 _ (-1 : Int32) (lv_sub hl [0] rfl) h
  · have h := h.2 c_1
    refine lv_aload_n hx hb dX6_sign_11 rfl (lv_at hl 0 rfl) ?_
    refine va_get (D := D) (ci := 6) (v := .ref q_o_text) (C := RX6) (T := TX6) (N := 17) hx hb htb inT_X6 hown hK hP 0 rfl rfl 1 (by decide) (htb _ tb_89) (fun _ h9 => h9) rfl dX6_sign_12 ?_
    refine lv_aload_n hx hb dX6_sign_15 rfl (lv_at hl 0 rfl) ?_
    refine va_get (D := D) (ci := 6) (v := .int v_o_spot) (C := RX6) (T := TX6) (N := 17) hx hb htb inT_X6 hown hK hP 0 rfl rfl 15 (by decide) (htb _ tb_177) (fun _ h9 => h9) rfl dX6_sign_16 ?_
    obtain ⟨hi_2, h⟩ := h
    refine va_iald hx hb hK hP 1 0 rfl rfl hi_2 dX6_sign_19 ?_
    refine lv_goto (tgt := 24) hx hb dX6_sign_20 (by decide) ?_
    exact B24 _ (v_o_text v_o_spot.toNatClampNeg) (lv_sub hl [0] rfl) h
set_option maxHeartbeats 4000000 in
set_option maxRecDepth 100000 in
theorem c_X6_taken (l : Launch) (D : va_G) (Cs : Nat → ClassId) (q_o : Nat) (q_o_text : Nat) (q_o_now : Nat) (q_o_trial : Nat) (q_o_diary : Nat) (q_o_kept : Nat) (q_o_isKept : Nat) (q_o_years : Nat) (sz : Nat) (v_o_size : Int32) (v_o_spot : Int32) (v_o_text : (Nat → Int32)) (v_o_refusal : Int32) (v_o_acts : Int32) (v_o_least : Int32) (v_o_origins : Int32) (v_o_ofAll : Int32) (v_o_ofSome : Int32) (v_o_sets : Int32) (v_o_out : Int32) (x1 : Int32) (x2 : Int32) {post : Int32 → Int32 → Prop} (h : P_X6_taken v_o_size v_o_spot v_o_text x1 x2 post) : Met l yX6_taken wsX6_taken ({ frames := 1, cells := 0, slots := 0, locals := 25 } : Room) (va_Pc [.ref q_o, .int x1, .int x2] (gM D Cs [(q_o, .inr (6, [.int v_o_refusal, .ref q_o_text, .int v_o_size, .ref q_o_now, .ref q_o_trial, .ref q_o_diary, .int v_o_acts, .ref q_o_kept, .ref q_o_isKept, .ref q_o_years, .int v_o_least, .int v_o_origins, .int v_o_ofAll, .int v_o_ofSome, .int v_o_sets, .int v_o_spot, .int v_o_out])), (q_o_text, gI Cs 100 v_o_text)] sz)) (va_Qi (fun (r : Int32) (u : Int32) => post r u) (gB D (va_A [(q_o, .inr (6, [.int v_o_refusal, .ref q_o_text, .int v_o_size, .ref q_o_now, .ref q_o_trial, .ref q_o_diary, .int v_o_acts, .ref q_o_kept, .ref q_o_isKept, .ref q_o_years, .int v_o_least, .int v_o_origins, .int v_o_ofAll, .int v_o_ofSome, .int v_o_sets, .int v_o_spot, .int v_o_out])), (q_o_text, gI Cs 100 v_o_text)] sz) (fun u : Int32 => [(q_o, .inr (6, [.int v_o_refusal, .ref q_o_text, .int v_o_size, .ref q_o_now, .ref q_o_trial, .ref q_o_diary, .int v_o_acts, .ref q_o_kept, .ref q_o_isKept, .ref q_o_years, .int v_o_least, .int v_o_origins, .int v_o_ofAll, .int v_o_ofSome, .int v_o_sets, .int u, .int v_o_out])), (q_o_text, gI Cs 100 v_o_text)])) (va_A [(q_o, .inr (6, [.int v_o_refusal, .ref q_o_text, .int v_o_size, .ref q_o_now, .ref q_o_trial, .ref q_o_diary, .int v_o_acts, .ref q_o_kept, .ref q_o_isKept, .ref q_o_years, .int v_o_least, .int v_o_origins, .int v_o_ofAll, .int v_o_ofSome, .int v_o_sets, .int v_o_spot, .int v_o_out])), (q_o_text, gI Cs 100 v_o_text)] sz)) 0 0 (va_A [(q_o, .inr (6, [.int v_o_refusal, .ref q_o_text, .int v_o_size, .ref q_o_now, .ref q_o_trial, .ref q_o_diary, .int v_o_acts, .ref q_o_kept, .ref q_o_isKept, .ref q_o_years, .int v_o_least, .int v_o_origins, .int v_o_ofAll, .int v_o_ofSome, .int v_o_sets, .int v_o_spot, .int v_o_out])), (q_o_text, gI Cs 100 v_o_text)] sz) := by
  refine Met.ofW (cc := cX6_taken) (maxL := 4) (ret := (some .int)) (by decide) rfl ?_
  intro p e s m args below meth c s₁ B hml hv
  obtain ⟨ha, hsz, hP, hK, hD0, hN⟩ := hv
  have hx := B.exec
  have hb := B.bytes
  have hr := B.returns
  have hts := atoms_spec (ws := wsX6_taken) B.pre
  have htb : ∀ w ∈ TB, w.before args s = true := fun w h9 => hts w (List.mem_cons_of_mem _ h9)
  have hown : s.vm.findClass RX6 = some m.cls := findClass_of_methodNamed B.named
  have hlocks := B.notSynchronized
  subst hsz
  have hD := hD0.self (sz := s.heap.size)
  generalize hAe : va_A [(q_o, .inr (6, [.int v_o_refusal, .ref q_o_text, .int v_o_size, .ref q_o_now, .ref q_o_trial, .ref q_o_diary, .int v_o_acts, .ref q_o_kept, .ref q_o_isKept, .ref q_o_years, .int v_o_least, .int v_o_origins, .int v_o_ofAll, .int v_o_ofSome, .int v_o_sets, .int v_o_spot, .int v_o_out])), (q_o_text, gI Cs 100 v_o_text)] s.heap.size = A at hD ⊢
  have hA : ∀ q : Nat, s.heap.size ≤ q → A q := fun q h9 => by rw [← hAe]; exact Or.inr h9
  obtain ⟨H, hH⟩ : ∃ z : Heap, z = s.heap := ⟨_, rfl⟩
  have hS : va_S A s.heap H [] := by rw [hH]; exact va_S.rf
  have hP : va_P D vwCl [(q_o, .inr (6, [.int v_o_refusal, .ref q_o_text, .int v_o_size, .ref q_o_now, .ref q_o_trial, .ref q_o_diary, .int v_o_acts, .ref q_o_kept, .ref q_o_isKept, .ref q_o_years, .int v_o_least, .int v_o_origins, .int v_o_ofAll, .int v_o_ofSome, .int v_o_sets, .int v_o_spot, .int v_o_out])), (q_o_text, gI Cs 100 v_o_text)] H := by rw [hH]; exact hP
  generalize hQ : MQ below _ args s _ _ _ = Q
  show W p l e ({ frames := 1, cells := 0, slots := 0, locals := 25 } : Room) s m args below meth c s.heap [] 0 0 Q (entryFrame m args 4)
  have hent : entryFrame m args 4 = F0 m 0 ((lg_sl ([.ref q_o, .int x1, .int x2]) ++ List.replicate (4 - (lg_sl ([.ref q_o, .int x1, .int x2])).length) Slot.unset).toArray) [] := by rw [ha]; exact lg_entry_eq m ([.ref q_o, .int x1, .int x2]) 4
  rw [hent]; clear hent
  rw [← hH]
  have hl := lv_entry ([.ref q_o, .int x1, .int x2]) (n := 4) (Nat.le_of_ble_eq_true rfl)
  generalize (lg_sl ([.ref q_o, .int x1, .int x2]) ++ List.replicate (4 - (lg_sl ([.ref q_o, .int x1, .int x2])).length) Slot.unset).toArray = ls at hl ⊢
  have hl : lv_has ls 4 [(0, .ref q_o), (1, .int x1), (2, .int x2)] := hl
  unfold P_X6_taken at h
  refine lv_aload_n hx hb dX6_taken_0 rfl (lv_at hl 0 rfl) ?_
  refine gVR (As := []) (rest := []) ⟨hx, hb, hml, hown, htb⟩ hK hP hN [0, 1] rfl (c_X6_sign l D Cs q_o q_o_text q_o_now q_o_trial q_o_diary q_o_kept q_o_isKept q_o_years v_o_size v_o_spot v_o_text v_o_refusal v_o_acts v_o_least v_o_origins v_o_ofAll v_o_ofSome v_o_sets v_o_out h) (cwV 0 htb (TB_v tb_187 tb_188 tb_189 tb_5 (TB_self tb_190)) rfl rfl rfl z_X6_sign ⟨Nat.le_of_ble_eq_true rfl, Nat.le_of_ble_eq_true rfl⟩) 0 rfl rfl rfl rfl hl.1 rfl (Nat.le_of_ble_eq_true rfl) ⟨Nat.le_of_ble_eq_true rfl, Nat.le_of_ble_eq_true rfl⟩ dX6_taken_1 (fun r_1 h => ?_)
  refine lv_istore_n (lv' := [(3, .int r_1), (0, .ref q_o), (1, .int x1), (2, .int x2)]) hx hb dX6_taken_4 rfl hl (by decide) rfl (fun ls hl => ?_)
  refine lv_iload_n hx hb dX6_taken_5 rfl (lv_at hl 0 rfl) ?_
  refine lv_i2l (v := r_1.toInt64) hx hb dX6_taken_6 rfl ?_
  refine lv_iload_n hx hb dX6_taken_7 rfl (lv_at hl 2 rfl) ?_
  refine lv_i2l (v := x1.toInt64) hx hb dX6_taken_8 rfl ?_
  refine lv_iload_n hx hb dX6_taken_9 rfl (lv_at hl 3 rfl) ?_
  refine lv_i2l (v := x2.toInt64) hx hb dX6_taken_10 rfl ?_
  refine gSR (As := [.long r_1.toInt64, .long x1.toInt64, .long x2.toInt64]) (rest := []) ⟨hx, hb, hml, hown, htb⟩ hK hP hN [] rfl (c_X6_in l D Cs r_1.toInt64 x1.toInt64 x2.toInt64 h) (va_cwS 3 htb (TB_s tb_125 tb_126 tb_5 (TB_self tb_127)) rfl rfl rfl z_X6_in.2 ⟨Nat.le_of_ble_eq_true rfl, Nat.le_of_ble_eq_true rfl⟩) rfl hl.1 rfl (Nat.le_of_ble_eq_true rfl) ⟨Nat.le_of_ble_eq_true rfl, Nat.le_of_ble_eq_true rfl⟩ dX6_taken_11 (fun r_2 h => ?_)
  refine lv_if_ne (tgt := 19) hx hb dX6_taken_14 (by decide) (fun c_3 => ?_) (fun c_3 => ?_)
  · have h := h.2 c_3
    refine lv_aload_n hx hb dX6_taken_19 rfl (lv_at hl 1 rfl) ?_
    refine lv_dup hx hb dX6_taken_20 rfl ?_
    refine va_get (D := D) (ci := 6) (v := .int v_o_spot) (C := RX6) (T := TX6) (N := 17) hx hb htb inT_X6 hown hK hP 0 rfl rfl 15 (by decide) (htb _ tb_177) (fun _ h9 => h9) rfl dX6_taken_21 ?_
    refine lv_iconst (v := (1 : Int32)) hx hb dX6_taken_24 (by decide) ?_
    refine lv_iadd hx hb dX6_taken_25 ?_
    refine lv_topi (fun f_spot_4 ef_spot_4 => ?_)
    have h := h _ ef_spot_4
    refine va_put (D := D) (ci := 6) (v := .int f_spot_4) (ty := .int) (C := RX6) (T := TX6) (N := 17) hx hb htb inT_X6 tyX6 tyX6_ok nmX6 hown hK hP hD hS 0 rfl rfl 15 (by decide) (htb _ tb_177) (fun _ h9 => h9) rfl (tyX6_ok 15 (by decide)) rfl rfl (Nat.le_of_ble_eq_true rfl) dX6_taken_26 (fun H locs hP hD hS => ?_)
    have hP : va_P D vwCl [(q_o, .inr (6, [.int v_o_refusal, .ref q_o_text, .int v_o_size, .ref q_o_now, .ref q_o_trial, .ref q_o_diary, .int v_o_acts, .ref q_o_kept, .ref q_o_isKept, .ref q_o_years, .int v_o_least, .int v_o_origins, .int v_o_ofAll, .int v_o_ofSome, .int v_o_sets, .int f_spot_4, .int v_o_out])), (q_o_text, gI Cs 100 v_o_text)] H := hP
    have hD : va_D A [(q_o, .inr (6, [.int v_o_refusal, .ref q_o_text, .int v_o_size, .ref q_o_now, .ref q_o_trial, .ref q_o_diary, .int v_o_acts, .ref q_o_kept, .ref q_o_isKept, .ref q_o_years, .int v_o_least, .int v_o_origins, .int v_o_ofAll, .int v_o_ofSome, .int v_o_sets, .int f_spot_4, .int v_o_out])), (q_o_text, gI Cs 100 v_o_text)] := hD
    refine lv_iload_n hx hb dX6_taken_29 rfl (lv_at hl 0 rfl) ?_
    refine lv_iload_n hx hb dX6_taken_30 rfl (lv_at hl 2 rfl) ?_
    refine lv_isub hx hb dX6_taken_31 ?_
    rw [← hQ]
    exact gRetI (u := f_spot_4) hx hb hr rfl h hP hD hS dX6_taken_32 hlocks
  · have h := h.1 c_3
    refine lv_iconst (v := (-1 : Int32)) hx hb dX6_taken_17 (by decide) ?_
    rw [← hQ]
    exact gRetI (u := v_o_spot) hx hb hr rfl h hP hD hS dX6_taken_18 hlocks
set_option maxHeartbeats 4000000 in
set_option maxRecDepth 100000 in
theorem c_X6_readYear (l : Launch) (D : va_G) (Cs : Nat → ClassId) (q_o : Nat) (q_o_text : Nat) (q_o_now : Nat) (q_o_trial : Nat) (q_o_diary : Nat) (q_o_kept : Nat) (q_o_isKept : Nat) (q_o_years : Nat) (sz : Nat) (v_o_size : Int32) (v_o_spot : Int32) (v_o_text : (Nat → Int32)) (v_o_refusal : Int32) (v_o_acts : Int32) (v_o_least : Int32) (v_o_origins : Int32) (v_o_ofAll : Int32) (v_o_ofSome : Int32) (v_o_sets : Int32) (v_o_out : Int32) {post : Int32 → Int32 → Prop} (h : P_X6_readYear v_o_size v_o_spot v_o_text post) : Met l yX6_readYear wsX6_readYear ({ frames := 2, cells := 0, slots := 0, locals := 48 } : Room) (va_Pc [.ref q_o] (gM D Cs [(q_o, .inr (6, [.int v_o_refusal, .ref q_o_text, .int v_o_size, .ref q_o_now, .ref q_o_trial, .ref q_o_diary, .int v_o_acts, .ref q_o_kept, .ref q_o_isKept, .ref q_o_years, .int v_o_least, .int v_o_origins, .int v_o_ofAll, .int v_o_ofSome, .int v_o_sets, .int v_o_spot, .int v_o_out])), (q_o_text, gI Cs 100 v_o_text)] sz)) (va_Qi (fun (r : Int32) (u : Int32) => post r u) (gB D (va_A [(q_o, .inr (6, [.int v_o_refusal, .ref q_o_text, .int v_o_size, .ref q_o_now, .ref q_o_trial, .ref q_o_diary, .int v_o_acts, .ref q_o_kept, .ref q_o_isKept, .ref q_o_years, .int v_o_least, .int v_o_origins, .int v_o_ofAll, .int v_o_ofSome, .int v_o_sets, .int v_o_spot, .int v_o_out])), (q_o_text, gI Cs 100 v_o_text)] sz) (fun u : Int32 => [(q_o, .inr (6, [.int v_o_refusal, .ref q_o_text, .int v_o_size, .ref q_o_now, .ref q_o_trial, .ref q_o_diary, .int v_o_acts, .ref q_o_kept, .ref q_o_isKept, .ref q_o_years, .int v_o_least, .int v_o_origins, .int v_o_ofAll, .int v_o_ofSome, .int v_o_sets, .int u, .int v_o_out])), (q_o_text, gI Cs 100 v_o_text)])) (va_A [(q_o, .inr (6, [.int v_o_refusal, .ref q_o_text, .int v_o_size, .ref q_o_now, .ref q_o_trial, .ref q_o_diary, .int v_o_acts, .ref q_o_kept, .ref q_o_isKept, .ref q_o_years, .int v_o_least, .int v_o_origins, .int v_o_ofAll, .int v_o_ofSome, .int v_o_sets, .int v_o_spot, .int v_o_out])), (q_o_text, gI Cs 100 v_o_text)] sz)) 0 0 (va_A [(q_o, .inr (6, [.int v_o_refusal, .ref q_o_text, .int v_o_size, .ref q_o_now, .ref q_o_trial, .ref q_o_diary, .int v_o_acts, .ref q_o_kept, .ref q_o_isKept, .ref q_o_years, .int v_o_least, .int v_o_origins, .int v_o_ofAll, .int v_o_ofSome, .int v_o_sets, .int v_o_spot, .int v_o_out])), (q_o_text, gI Cs 100 v_o_text)] sz) := by
  refine Met.ofW (cc := cX6_readYear) (maxL := 2) (ret := (some .int)) (by decide) rfl ?_
  intro p e s m args below meth c s₁ B hml hv
  obtain ⟨ha, hsz, hP, hK, hD0, hN⟩ := hv
  have hx := B.exec
  have hb := B.bytes
  have hr := B.returns
  have hts := atoms_spec (ws := wsX6_readYear) B.pre
  have htb : ∀ w ∈ TB, w.before args s = true := fun w h9 => hts w (List.mem_cons_of_mem _ h9)
  have hown : s.vm.findClass RX6 = some m.cls := findClass_of_methodNamed B.named
  have hlocks := B.notSynchronized
  subst hsz
  have hD := hD0.self (sz := s.heap.size)
  generalize hAe : va_A [(q_o, .inr (6, [.int v_o_refusal, .ref q_o_text, .int v_o_size, .ref q_o_now, .ref q_o_trial, .ref q_o_diary, .int v_o_acts, .ref q_o_kept, .ref q_o_isKept, .ref q_o_years, .int v_o_least, .int v_o_origins, .int v_o_ofAll, .int v_o_ofSome, .int v_o_sets, .int v_o_spot, .int v_o_out])), (q_o_text, gI Cs 100 v_o_text)] s.heap.size = A at hD ⊢
  have hA : ∀ q : Nat, s.heap.size ≤ q → A q := fun q h9 => by rw [← hAe]; exact Or.inr h9
  obtain ⟨H, hH⟩ : ∃ z : Heap, z = s.heap := ⟨_, rfl⟩
  have hS : va_S A s.heap H [] := by rw [hH]; exact va_S.rf
  have hP : va_P D vwCl [(q_o, .inr (6, [.int v_o_refusal, .ref q_o_text, .int v_o_size, .ref q_o_now, .ref q_o_trial, .ref q_o_diary, .int v_o_acts, .ref q_o_kept, .ref q_o_isKept, .ref q_o_years, .int v_o_least, .int v_o_origins, .int v_o_ofAll, .int v_o_ofSome, .int v_o_sets, .int v_o_spot, .int v_o_out])), (q_o_text, gI Cs 100 v_o_text)] H := by rw [hH]; exact hP
  generalize hQ : MQ below _ args s _ _ _ = Q
  show W p l e ({ frames := 2, cells := 0, slots := 0, locals := 48 } : Room) s m args below meth c s.heap [] 0 0 Q (entryFrame m args 2)
  have hent : entryFrame m args 2 = F0 m 0 ((lg_sl ([.ref q_o]) ++ List.replicate (2 - (lg_sl ([.ref q_o])).length) Slot.unset).toArray) [] := by rw [ha]; exact lg_entry_eq m ([.ref q_o]) 2
  rw [hent]; clear hent
  rw [← hH]
  have hl := lv_entry ([.ref q_o]) (n := 2) (Nat.le_of_ble_eq_true rfl)
  generalize (lg_sl ([.ref q_o]) ++ List.replicate (2 - (lg_sl ([.ref q_o])).length) Slot.unset).toArray = ls at hl ⊢
  have hl : lv_has ls 2 [(0, .ref q_o)] := hl
  have B74 : ∀ (H : Heap) (locs : List Loc) (ls : Array Slot) (w_o_spot : Int32) (x1 : Int32), va_P D vwCl [(q_o, .inr (6, [.int v_o_refusal, .ref q_o_text, .int v_o_size, .ref q_o_now, .ref q_o_trial, .ref q_o_diary, .int v_o_acts, .ref q_o_kept, .ref q_o_isKept, .ref q_o_years, .int v_o_least, .int v_o_origins, .int v_o_ofAll, .int v_o_ofSome, .int v_o_sets, .int w_o_spot, .int v_o_out])), (q_o_text, gI Cs 100 v_o_text)] H → va_D A [(q_o, .inr (6, [.int v_o_refusal, .ref q_o_text, .int v_o_size, .ref q_o_now, .ref q_o_trial, .ref q_o_diary, .int v_o_acts, .ref q_o_kept, .ref q_o_isKept, .ref q_o_years, .int v_o_least, .int v_o_origins, .int v_o_ofAll, .int v_o_ofSome, .int v_o_sets, .int w_o_spot, .int v_o_out])), (q_o_text, gI Cs 100 v_o_text)] → va_S A s.heap H locs → lv_has ls 2 [(0, .ref q_o), (1, .int x1)] → P_X6_readYear_b74 v_o_size v_o_spot v_o_text post w_o_spot x1 → W p l e ({ frames := 2, cells := 0, slots := 0, locals := 48 } : Room) s m args below meth c H locs 0 0 Q (F0 m 74 ls []) := by
    intro H locs ls w_o_spot x1 hP hD hS hl h
    unfold P_X6_readYear_b74 at h
    refine lv_iload_n hx hb dX6_readYear_74 rfl (lv_at hl 1 rfl) ?_
    rw [← hQ]
    exact gRetI (u := w_o_spot) hx hb hr rfl h hP hD hS dX6_readYear_75 hlocks
  have L9 : ∀ (n : Nat) (H : Heap) (locs : List Loc) (ls : Array Slot) (w_o_spot : Int32) (x1 : Int32), va_P D vwCl [(q_o, .inr (6, [.int v_o_refusal, .ref q_o_text, .int v_o_size, .ref q_o_now, .ref q_o_trial, .ref q_o_diary, .int v_o_acts, .ref q_o_kept, .ref q_o_isKept, .ref q_o_years, .int v_o_least, .int v_o_origins, .int v_o_ofAll, .int v_o_ofSome, .int v_o_sets, .int w_o_spot, .int v_o_out])), (q_o_text, gI Cs 100 v_o_text)] H → va_D A [(q_o, .inr (6, [.int v_o_refusal, .ref q_o_text, .int v_o_size, .ref q_o_now, .ref q_o_trial, .ref q_o_diary, .int v_o_acts, .ref q_o_kept, .ref q_o_isKept, .ref q_o_years, .int v_o_least, .int v_o_origins, .int v_o_ofAll, .int v_o_ofSome, .int v_o_sets, .int w_o_spot, .int v_o_out])), (q_o_text, gI Cs 100 v_o_text)] → va_S A s.heap H locs → lv_has ls 2 [(0, .ref q_o), (1, .int x1)] → P_X6_readYear_l9 v_o_size v_o_spot v_o_text post n w_o_spot x1 → W p l e ({ frames := 2, cells := 0, slots := 0, locals := 48 } : Room) s m args below meth c H locs 0 0 Q (F0 m 9 ls []) := by
    intro n9
    induction n9 with
    | zero => intro H locs ls w_o_spot x1 hP hD hS hl h; exact False.elim h
    | succ n9 ih9 =>
      intro H locs ls w_o_spot x1 hP hD hS hl h
      replace h : P_X6_readYear_b9 v_o_size v_o_spot v_o_text post (P_X6_readYear_l9 v_o_size v_o_spot v_o_text post n9) w_o_spot x1 := h
      unfold P_X6_readYear_b9 at h
      refine lv_iload_n hx hb dX6_readYear_9 rfl (lv_at hl 1 rfl) ?_
      refine lv_if_le (tgt := 74) hx hb dX6_readYear_10 (by decide) (fun c_1 => ?_) (fun c_1 => ?_)
      · have h := h.1 c_1
        exact B74 _ _ _ w_o_spot x1 hP hD hS (lv_sub hl [0, 1] rfl) h
      · have h := h.2 c_1
        refine lv_aload_n hx hb dX6_readYear_13 rfl (lv_at hl 0 rfl) ?_
        refine gVR (As := []) (rest := []) ⟨hx, hb, hml, hown, htb⟩ hK hP hN [0, 1] rfl (c_X6_sign l D Cs q_o q_o_text q_o_now q_o_trial q_o_diary q_o_kept q_o_isKept q_o_years v_o_size w_o_spot v_o_text v_o_refusal v_o_acts v_o_least v_o_origins v_o_ofAll v_o_ofSome v_o_sets v_o_out h) (cwV 0 htb (TB_v tb_187 tb_188 tb_189 tb_5 (TB_self tb_190)) rfl rfl rfl z_X6_sign ⟨Nat.le_of_ble_eq_true rfl, Nat.le_of_ble_eq_true rfl⟩) 0 rfl rfl rfl rfl hl.1 rfl (Nat.le_of_ble_eq_true rfl) ⟨Nat.le_of_ble_eq_true rfl, Nat.le_of_ble_eq_true rfl⟩ dX6_readYear_14 (fun r_2 h => ?_)
        refine lv_i2l (v := r_2.toInt64) hx hb dX6_readYear_17 rfl ?_
        refine lv_ldc2 (v := (48 : Int64)) hx hb hown (htb _ tb_195) dX6_readYear_18 ?_
        refine lv_ldc2 (v := (57 : Int64)) hx hb hown (htb _ tb_196) dX6_readYear_21 ?_
        refine gSR (As := [.long r_2.toInt64, .long (48 : Int64), .long (57 : Int64)]) (rest := []) ⟨hx, hb, hml, hown, htb⟩ hK hP hN [] rfl (c_X6_in l D Cs r_2.toInt64 (48 : Int64) (57 : Int64) h) (va_cwS 3 htb (TB_s tb_125 tb_126 tb_5 (TB_self tb_127)) rfl rfl rfl z_X6_in.2 ⟨Nat.le_of_ble_eq_true rfl, Nat.le_of_ble_eq_true rfl⟩) rfl hl.1 rfl (Nat.le_of_ble_eq_true rfl) ⟨Nat.le_of_ble_eq_true rfl, Nat.le_of_ble_eq_true rfl⟩ dX6_readYear_24 (fun r_3 h => ?_)
        refine lv_if_eq (tgt := 74) hx hb dX6_readYear_27 (by decide) (fun c_4 => ?_) (fun c_4 => ?_)
        · have h := h.1 c_4
          exact B74 _ _ _ w_o_spot x1 hP hD hS (lv_sub hl [0, 1] rfl) h
        · have h := h.2 c_4
          refine lv_bipush (v := (10 : Int32)) hx hb dX6_readYear_30 (by decide) ?_
          refine lv_iload_n hx hb dX6_readYear_32 rfl (lv_at hl 1 rfl) ?_
          refine lv_imul hx hb dX6_readYear_33 ?_
          refine lv_aload_n hx hb dX6_readYear_34 rfl (lv_at hl 0 rfl) ?_
          refine gVR (As := []) (rest := [.int ((10 : Int32) * x1)]) ⟨hx, hb, hml, hown, htb⟩ hK hP hN [0, 1] rfl (c_X6_sign l D Cs q_o q_o_text q_o_now q_o_trial q_o_diary q_o_kept q_o_isKept q_o_years v_o_size w_o_spot v_o_text v_o_refusal v_o_acts v_o_least v_o_origins v_o_ofAll v_o_ofSome v_o_sets v_o_out h) (cwV 0 htb (TB_v tb_187 tb_188 tb_189 tb_5 (TB_self tb_190)) rfl rfl rfl z_X6_sign ⟨Nat.le_of_ble_eq_true rfl, Nat.le_of_ble_eq_true rfl⟩) 0 rfl rfl rfl rfl hl.1 rfl (Nat.le_of_ble_eq_true rfl) ⟨Nat.le_of_ble_eq_true rfl, Nat.le_of_ble_eq_true rfl⟩ dX6_readYear_35 (fun r_5 h => ?_)
          refine lv_iadd hx hb dX6_readYear_38 ?_
          refine lv_bipush (v := (48 : Int32)) hx hb dX6_readYear_39 (by decide) ?_
          refine lv_isub hx hb dX6_readYear_41 ?_
          refine lv_sipush (v := (1000 : Int32)) hx hb dX6_readYear_42 (by decide) ?_
          refine lv_icmp_ge (tgt := 74) hx hb dX6_readYear_45 (by decide) (fun c_6 => ?_) (fun c_6 => ?_)
          · have h := h.1 c_6
            exact B74 _ _ _ w_o_spot x1 hP hD hS (lv_sub hl [0, 1] rfl) h
          · have h := h.2 c_6
            refine lv_bipush (v := (10 : Int32)) hx hb dX6_readYear_48 (by decide) ?_
            refine lv_iload_n hx hb dX6_readYear_50 rfl (lv_at hl 1 rfl) ?_
            refine lv_imul hx hb dX6_readYear_51 ?_
            refine lv_aload_n hx hb dX6_readYear_52 rfl (lv_at hl 0 rfl) ?_
            refine gVR (As := []) (rest := [.int ((10 : Int32) * x1)]) ⟨hx, hb, hml, hown, htb⟩ hK hP hN [0, 1] rfl (c_X6_sign l D Cs q_o q_o_text q_o_now q_o_trial q_o_diary q_o_kept q_o_isKept q_o_years v_o_size w_o_spot v_o_text v_o_refusal v_o_acts v_o_least v_o_origins v_o_ofAll v_o_ofSome v_o_sets v_o_out h) (cwV 0 htb (TB_v tb_187 tb_188 tb_189 tb_5 (TB_self tb_190)) rfl rfl rfl z_X6_sign ⟨Nat.le_of_ble_eq_true rfl, Nat.le_of_ble_eq_true rfl⟩) 0 rfl rfl rfl rfl hl.1 rfl (Nat.le_of_ble_eq_true rfl) ⟨Nat.le_of_ble_eq_true rfl, Nat.le_of_ble_eq_true rfl⟩ dX6_readYear_53 (fun r_7 h => ?_)
            refine lv_iadd hx hb dX6_readYear_56 ?_
            refine lv_bipush (v := (48 : Int32)) hx hb dX6_readYear_57 (by decide) ?_
            refine lv_isub hx hb dX6_readYear_59 ?_
            refine lv_topi (fun x1_8 ex1_8 => ?_)
            have h := h _ ex1_8
            refine lv_istore_n (lv' := [(1, .int x1_8), (0, .ref q_o)]) hx hb dX6_readYear_60 rfl hl (by decide) rfl (fun ls hl => ?_)
            refine lv_aload_n hx hb dX6_readYear_61 rfl (lv_at hl 1 rfl) ?_
            refine lv_dup hx hb dX6_readYear_62 rfl ?_
            refine va_get (D := D) (ci := 6) (v := .int w_o_spot) (C := RX6) (T := TX6) (N := 17) hx hb htb inT_X6 hown hK hP 0 rfl rfl 15 (by decide) (htb _ tb_177) (fun _ h9 => h9) rfl dX6_readYear_63 ?_
            refine lv_iconst (v := (1 : Int32)) hx hb dX6_readYear_66 (by decide) ?_
            refine lv_iadd hx hb dX6_readYear_67 ?_
            refine lv_topi (fun f_spot_9 ef_spot_9 => ?_)
            have h := h _ ef_spot_9
            refine va_put (D := D) (ci := 6) (v := .int f_spot_9) (ty := .int) (C := RX6) (T := TX6) (N := 17) hx hb htb inT_X6 tyX6 tyX6_ok nmX6 hown hK hP hD hS 0 rfl rfl 15 (by decide) (htb _ tb_177) (fun _ h9 => h9) rfl (tyX6_ok 15 (by decide)) rfl rfl (Nat.le_of_ble_eq_true rfl) dX6_readYear_68 (fun H locs hP hD hS => ?_)
            have hP : va_P D vwCl [(q_o, .inr (6, [.int v_o_refusal, .ref q_o_text, .int v_o_size, .ref q_o_now, .ref q_o_trial, .ref q_o_diary, .int v_o_acts, .ref q_o_kept, .ref q_o_isKept, .ref q_o_years, .int v_o_least, .int v_o_origins, .int v_o_ofAll, .int v_o_ofSome, .int v_o_sets, .int f_spot_9, .int v_o_out])), (q_o_text, gI Cs 100 v_o_text)] H := hP
            have hD : va_D A [(q_o, .inr (6, [.int v_o_refusal, .ref q_o_text, .int v_o_size, .ref q_o_now, .ref q_o_trial, .ref q_o_diary, .int v_o_acts, .ref q_o_kept, .ref q_o_isKept, .ref q_o_years, .int v_o_least, .int v_o_origins, .int v_o_ofAll, .int v_o_ofSome, .int v_o_sets, .int f_spot_9, .int v_o_out])), (q_o_text, gI Cs 100 v_o_text)] := hD
            refine lv_goto (tgt := 9) hx hb dX6_readYear_71 (by decide) ?_
            exact ih9 _ _ _ f_spot_9 x1_8 hP hD hS (lv_sub hl [1, 0] rfl) h
  unfold P_X6_readYear at h
  refine lv_aload_n hx hb dX6_readYear_0 rfl (lv_at hl 0 rfl) ?_
  refine lv_bipush (v := (48 : Int32)) hx hb dX6_readYear_1 (by decide) ?_
  refine lv_bipush (v := (57 : Int32)) hx hb dX6_readYear_3 (by decide) ?_
  refine gVM (wr := []) (As := [.int (48 : Int32), .int (57 : Int32)]) (rest := []) ⟨hx, hb, hml, hown, htb⟩ hK hP hD hS hA hN [0, 1] [] rfl (by decide) rfl (by decide) (by decide) (c_X6_taken l D Cs q_o q_o_text q_o_now q_o_trial q_o_diary q_o_kept q_o_isKept q_o_years H.size v_o_size v_o_spot v_o_text v_o_refusal v_o_acts v_o_least v_o_origins v_o_ofAll v_o_ofSome v_o_sets v_o_out (48 : Int32) (57 : Int32) h) (cwV 2 htb (TB_v tb_183 tb_184 tb_185 tb_5 (TB_self tb_186)) rfl rfl rfl z_X6_taken ⟨Nat.le_of_ble_eq_true rfl, Nat.le_of_ble_eq_true rfl⟩) 0 rfl rfl rfl rfl hl.1 rfl (Nat.le_of_ble_eq_true rfl) ⟨Nat.le_of_ble_eq_true rfl, Nat.le_of_ble_eq_true rfl⟩ dX6_readYear_5 (fun r_10 m_11 H locs h hP hD hS => ?_)
  have hP : va_P D vwCl [(q_o, .inr (6, [.int v_o_refusal, .ref q_o_text, .int v_o_size, .ref q_o_now, .ref q_o_trial, .ref q_o_diary, .int v_o_acts, .ref q_o_kept, .ref q_o_isKept, .ref q_o_years, .int v_o_least, .int v_o_origins, .int v_o_ofAll, .int v_o_ofSome, .int v_o_sets, .int m_11, .int v_o_out])), (q_o_text, gI Cs 100 v_o_text)] H := hP
  have hD : va_D A [(q_o, .inr (6, [.int v_o_refusal, .ref q_o_text, .int v_o_size, .ref q_o_now, .ref q_o_trial, .ref q_o_diary, .int v_o_acts, .ref q_o_kept, .ref q_o_isKept, .ref q_o_years, .int v_o_least, .int v_o_origins, .int v_o_ofAll, .int v_o_ofSome, .int v_o_sets, .int m_11, .int v_o_out])), (q_o_text, gI Cs 100 v_o_text)] := hD
  refine lv_istore_n (lv' := [(1, .int r_10), (0, .ref q_o)]) hx hb dX6_readYear_8 rfl hl (by decide) rfl (fun ls hl => ?_)
  obtain ⟨n, h⟩ := h
  exact L9 n _ _ _ m_11 r_10 hP hD hS (lv_sub hl [1, 0] rfl) h
set_option maxHeartbeats 4000000 in
set_option maxRecDepth 100000 in
theorem c_X6_seeOn (l : Launch) (D : va_G) (Cs : Nat → ClassId) (q_a0 : Nat) (n_a0 : Nat) (sz : Nat) (v_a0 : (Nat → Int32)) (x1 : Int32) (x2 : Int32) (x3 : Int32) (x4 : Int32) {post : Int32 → (Nat → Int32) → Prop} (h : P_X6_seeOn n_a0 v_a0 x1 x2 x3 x4 post) : Met l yX6_seeOn wsX6_seeOn ({ frames := 1, cells := 0, slots := 0, locals := 21 } : Room) (va_Pc [.ref q_a0, .int x1, .int x2, .int x3, .int x4] (gM D Cs [(q_a0, gI Cs n_a0 v_a0)] sz)) (va_Qi (fun (r : Int32) (u : (Nat → Int32)) => post r u) (gB D (va_A [(q_a0, gI Cs n_a0 v_a0)] sz) (fun u : (Nat → Int32) => [(q_a0, gI Cs n_a0 u)])) (va_A [(q_a0, gI Cs n_a0 v_a0)] sz)) 0 0 (va_A [(q_a0, gI Cs n_a0 v_a0)] sz) := by
  refine Met.ofW (cc := cX6_seeOn) (maxL := 7) (ret := (some .int)) (by decide) rfl ?_
  intro p e s m args below meth c s₁ B hml hv
  obtain ⟨ha, hsz, hP, hK, hD0, hN⟩ := hv
  have hx := B.exec
  have hb := B.bytes
  have hr := B.returns
  have hts := atoms_spec (ws := wsX6_seeOn) B.pre
  have htb : ∀ w ∈ TB, w.before args s = true := fun w h9 => hts w (List.mem_cons_of_mem _ h9)
  have hown : s.vm.findClass RX6 = some m.cls := findClass_of_methodNamed B.named
  have hlocks := B.notSynchronized
  subst hsz
  have hD := hD0.self (sz := s.heap.size)
  generalize hAe : va_A [(q_a0, gI Cs n_a0 v_a0)] s.heap.size = A at hD ⊢
  have hA : ∀ q : Nat, s.heap.size ≤ q → A q := fun q h9 => by rw [← hAe]; exact Or.inr h9
  obtain ⟨H, hH⟩ : ∃ z : Heap, z = s.heap := ⟨_, rfl⟩
  have hS : va_S A s.heap H [] := by rw [hH]; exact va_S.rf
  have hP : va_P D vwCl [(q_a0, gI Cs n_a0 v_a0)] H := by rw [hH]; exact hP
  generalize hQ : MQ below _ args s _ _ _ = Q
  show W p l e ({ frames := 1, cells := 0, slots := 0, locals := 21 } : Room) s m args below meth c s.heap [] 0 0 Q (entryFrame m args 7)
  have hent : entryFrame m args 7 = F0 m 0 ((lg_sl ([.ref q_a0, .int x1, .int x2, .int x3, .int x4]) ++ List.replicate (7 - (lg_sl ([.ref q_a0, .int x1, .int x2, .int x3, .int x4])).length) Slot.unset).toArray) [] := by rw [ha]; exact lg_entry_eq m ([.ref q_a0, .int x1, .int x2, .int x3, .int x4]) 7
  rw [hent]; clear hent
  rw [← hH]
  have hl := lv_entry ([.ref q_a0, .int x1, .int x2, .int x3, .int x4]) (n := 7) (Nat.le_of_ble_eq_true rfl)
  generalize (lg_sl ([.ref q_a0, .int x1, .int x2, .int x3, .int x4]) ++ List.replicate (7 - (lg_sl ([.ref q_a0, .int x1, .int x2, .int x3, .int x4])).length) Slot.unset).toArray = ls at hl ⊢
  have hl : lv_has ls 7 [(0, .ref q_a0), (1, .int x1), (2, .int x2), (3, .int x3), (4, .int x4)] := hl
  have B92 : ∀ (H : Heap) (locs : List Loc) (ls : Array Slot) (w_a0 : (Nat → Int32)) (s0 : Int32), va_P D vwCl [(q_a0, gI Cs n_a0 w_a0)] H → va_D A [(q_a0, gI Cs n_a0 w_a0)] → va_S A s.heap H locs → lv_has ls 7 [(0, .ref q_a0), (1, .int x1), (2, .int x2), (3, .int x3), (4, .int x4)] → P_X6_seeOn_b92 n_a0 v_a0 x1 x2 x3 x4 post w_a0 s0 → W p l e ({ frames := 1, cells := 0, slots := 0, locals := 21 } : Room) s m args below meth c H locs 0 0 Q (F0 m 92 ls [.int s0]) := by
    intro H locs ls w_a0 s0 hP hD hS hl h
    unfold P_X6_seeOn_b92 at h
    rw [← hQ]
    exact gRetI (u := w_a0) hx hb hr rfl h hP hD hS dX6_seeOn_92 hlocks
  have B81 : ∀ (H : Heap) (locs : List Loc) (ls : Array Slot) (x6 : Int32) (s1 : Int32) (s2 : Int32), va_P D vwCl [(q_a0, gI Cs n_a0 v_a0)] H → va_D A [(q_a0, gI Cs n_a0 v_a0)] → va_S A s.heap H locs → lv_has ls 7 [(0, .ref q_a0), (1, .int x1), (2, .int x2), (3, .int x3), (4, .int x4), (6, .int x6)] → P_X6_seeOn_b81 n_a0 v_a0 x1 x2 x3 x4 post x6 s1 s2 → W p l e ({ frames := 1, cells := 0, slots := 0, locals := 21 } : Room) s m args below meth c H locs 0 0 Q (F0 m 81 ls [.int s2, .int s1, .ref q_a0]) := by
    intro H locs ls x6 s1 s2 hP hD hS hl h
    unfold P_X6_seeOn_b81 at h
    obtain ⟨hi_1, h⟩ := h
    refine va_iast hx hb hK hP hD hS 0 0 rfl rfl hi_1 dX6_seeOn_81 (fun H locs hP hD hS => ?_)
    have hP : va_P D vwCl [(q_a0, gI Cs n_a0 (upd v_a0 s1.toNatClampNeg s2))] H := hP
    have hD : va_D A [(q_a0, gI Cs n_a0 (upd v_a0 s1.toNatClampNeg s2))] := hD
    refine lv_iload hx hb dX6_seeOn_82 (lv_at hl 5 rfl) ?_
    refine lv_if_eq (tgt := 91) hx hb dX6_seeOn_84 (by decide) (fun c_2 => ?_) (fun c_2 => ?_)
    · have h := h.1 c_2
      refine lv_iconst (v := (0 : Int32)) hx hb dX6_seeOn_91 (by decide) ?_
      exact B92 _ _ _ (upd v_a0 s1.toNatClampNeg s2) (0 : Int32) hP hD hS (lv_sub hl [0, 1, 2, 3, 4] rfl) h
    · have h := h.2 c_2
      refine lv_iconst (v := (1 : Int32)) hx hb dX6_seeOn_87 (by decide) ?_
      refine lv_goto (tgt := 92) hx hb dX6_seeOn_88 (by decide) ?_
      exact B92 _ _ _ (upd v_a0 s1.toNatClampNeg s2) (1 : Int32) hP hD hS (lv_sub hl [0, 1, 2, 3, 4] rfl) h
  have B61 : ∀ (H : Heap) (locs : List Loc) (ls : Array Slot) (x5 : Int32) (s0 : Int32), va_P D vwCl [(q_a0, gI Cs n_a0 v_a0)] H → va_D A [(q_a0, gI Cs n_a0 v_a0)] → va_S A s.heap H locs → lv_has ls 7 [(0, .ref q_a0), (1, .int x1), (2, .int x2), (3, .int x3), (4, .int x4), (5, .int x5)] → P_X6_seeOn_b61 n_a0 v_a0 x1 x2 x3 x4 post x5 s0 → W p l e ({ frames := 1, cells := 0, slots := 0, locals := 21 } : Room) s m args below meth c H locs 0 0 Q (F0 m 61 ls [.int s0]) := by
    intro H locs ls x5 s0 hP hD hS hl h
    unfold P_X6_seeOn_b61 at h
    refine lv_istore (lv' := [(6, .int s0), (0, .ref q_a0), (1, .int x1), (2, .int x2), (3, .int x3), (4, .int x4), (5, .int x5)]) hx hb dX6_seeOn_61 hl (by decide) rfl (fun ls hl => ?_)
    refine lv_aload_n hx hb dX6_seeOn_63 rfl (lv_at hl 1 rfl) ?_
    refine lv_iload hx hb dX6_seeOn_64 (lv_at hl 6 rfl) ?_
    refine lv_iload hx hb dX6_seeOn_66 (lv_at hl 0 rfl) ?_
    refine lv_if_eq (tgt := 77) hx hb dX6_seeOn_68 (by decide) (fun c_3 => ?_) (fun c_3 => ?_)
    · have h := h.1 c_3
      refine lv_aload_n hx hb dX6_seeOn_77 rfl (lv_at hl 1 rfl) ?_
      refine lv_iload hx hb dX6_seeOn_78 (lv_at hl 6 rfl) ?_
      obtain ⟨hi_4, h⟩ := h
      refine va_iald hx hb hK hP 0 0 rfl rfl hi_4 dX6_seeOn_80 ?_
      exact B81 _ _ _ s0 x5 (v_a0 x5.toNatClampNeg) hP hD hS (lv_sub hl [1, 2, 3, 4, 5, 0] rfl) h
    · have h := h.2 c_3
      refine lv_iload_n hx hb dX6_seeOn_71 rfl (lv_at hl 4 rfl) ?_
      refine lv_iconst (v := (1 : Int32)) hx hb dX6_seeOn_72 (by decide) ?_
      refine lv_iadd hx hb dX6_seeOn_73 ?_
      refine lv_goto (tgt := 81) hx hb dX6_seeOn_74 (by decide) ?_
      exact B81 _ _ _ s0 x5 (x3 + (1 : Int32)) hP hD hS (lv_sub hl [1, 2, 3, 4, 5, 0] rfl) h
  have B56 : ∀ (H : Heap) (locs : List Loc) (ls : Array Slot) (x5 : Int32), va_P D vwCl [(q_a0, gI Cs n_a0 v_a0)] H → va_D A [(q_a0, gI Cs n_a0 v_a0)] → va_S A s.heap H locs → lv_has ls 7 [(0, .ref q_a0), (1, .int x1), (2, .int x2), (3, .int x3), (4, .int x4), (5, .int x5)] → P_X6_seeOn_b56 n_a0 v_a0 x1 x2 x3 x4 post x5 → W p l e ({ frames := 1, cells := 0, slots := 0, locals := 21 } : Room) s m args below meth c H locs 0 0 Q (F0 m 56 ls []) := by
    intro H locs ls x5 hP hD hS hl h
    unfold P_X6_seeOn_b56 at h
    refine lv_iconst (v := (1 : Int32)) hx hb dX6_seeOn_56 (by decide) ?_
    refine lv_goto (tgt := 61) hx hb dX6_seeOn_57 (by decide) ?_
    exact B61 _ _ _ x5 (1 : Int32) hP hD hS (lv_sub hl [0, 1, 2, 3, 4, 5] rfl) h
  have B60 : ∀ (H : Heap) (locs : List Loc) (ls : Array Slot) (x5 : Int32), va_P D vwCl [(q_a0, gI Cs n_a0 v_a0)] H → va_D A [(q_a0, gI Cs n_a0 v_a0)] → va_S A s.heap H locs → lv_has ls 7 [(0, .ref q_a0), (1, .int x1), (2, .int x2), (3, .int x3), (4, .int x4), (5, .int x5)] → P_X6_seeOn_b60 n_a0 v_a0 x1 x2 x3 x4 post x5 → W p l e ({ frames := 1, cells := 0, slots := 0, locals := 21 } : Room) s m args below meth c H locs 0 0 Q (F0 m 60 ls []) := by
    intro H locs ls x5 hP hD hS hl h
    unfold P_X6_seeOn_b60 at h
    refine lv_iconst (v := (0 : Int32)) hx hb dX6_seeOn_60 (by decide) ?_
    exact B61 _ _ _ x5 (0 : Int32) hP hD hS (lv_sub hl [0, 1, 2, 3, 4, 5] rfl) h
  have B13 : ∀ (H : Heap) (locs : List Loc) (ls : Array Slot) (s0 : Int32), va_P D vwCl [(q_a0, gI Cs n_a0 v_a0)] H → va_D A [(q_a0, gI Cs n_a0 v_a0)] → va_S A s.heap H locs → lv_has ls 7 [(0, .ref q_a0), (1, .int x1), (2, .int x2), (3, .int x3), (4, .int x4)] → P_X6_seeOn_b13 n_a0 v_a0 x1 x2 x3 x4 post s0 → W p l e ({ frames := 1, cells := 0, slots := 0, locals := 21 } : Room) s m args below meth c H locs 0 0 Q (F0 m 13 ls [.int s0]) := by
    intro H locs ls s0 hP hD hS hl h
    unfold P_X6_seeOn_b13 at h
    refine lv_iload_n hx hb dX6_seeOn_13 rfl (lv_at hl 1 rfl) ?_
    refine lv_iload_n hx hb dX6_seeOn_14 rfl (lv_at hl 2 rfl) ?_
    refine gSR (As := [.int x1, .int x2]) (rest := [.int s0]) ⟨hx, hb, hml, hown, htb⟩ hK hP hN [] rfl (c_X6_at l D Cs x1 x2 h) (va_cwS 2 htb (TB_s tb_203 tb_204 tb_5 (TB_self tb_205)) rfl rfl rfl z_X6_at.2 ⟨Nat.le_of_ble_eq_true rfl, Nat.le_of_ble_eq_true rfl⟩) rfl hl.1 rfl (Nat.le_of_ble_eq_true rfl) ⟨Nat.le_of_ble_eq_true rfl, Nat.le_of_ble_eq_true rfl⟩ dX6_seeOn_15 (fun r_5 h => ?_)
    refine lv_iadd hx hb dX6_seeOn_18 ?_
    refine lv_topi (fun x5_6 ex5_6 => ?_)
    have h := h _ ex5_6
    refine lv_istore (lv' := [(5, .int x5_6), (0, .ref q_a0), (1, .int x1), (2, .int x2), (3, .int x3), (4, .int x4)]) hx hb dX6_seeOn_19 hl (by decide) rfl (fun ls hl => ?_)
    refine lv_aload_n hx hb dX6_seeOn_21 rfl (lv_at hl 1 rfl) ?_
    refine lv_iload hx hb dX6_seeOn_22 (lv_at hl 0 rfl) ?_
    obtain ⟨hi_7, h⟩ := h
    refine va_iald hx hb hK hP 0 0 rfl rfl hi_7 dX6_seeOn_24 ?_
    refine lv_if_eq (tgt := 56) hx hb dX6_seeOn_25 (by decide) (fun c_8 => ?_) (fun c_8 => ?_)
    · have h := h.1 c_8
      exact B56 _ _ _ x5_6 hP hD hS (lv_sub hl [1, 2, 3, 4, 5, 0] rfl) h
    · have h := h.2 c_8
      refine lv_iload hx hb dX6_seeOn_28 (lv_at hl 5 rfl) ?_
      refine lv_if_eq (tgt := 46) hx hb dX6_seeOn_30 (by decide) (fun c_9 => ?_) (fun c_9 => ?_)
      · have h := h.1 c_9
        refine lv_iload_n hx hb dX6_seeOn_46 rfl (lv_at hl 4 rfl) ?_
        refine lv_iconst (v := (1 : Int32)) hx hb dX6_seeOn_47 (by decide) ?_
        refine lv_iadd hx hb dX6_seeOn_48 ?_
        refine lv_aload_n hx hb dX6_seeOn_49 rfl (lv_at hl 1 rfl) ?_
        refine lv_iload hx hb dX6_seeOn_50 (lv_at hl 0 rfl) ?_
        obtain ⟨hi_10, h⟩ := h
        refine va_iald hx hb hK hP 0 0 rfl rfl hi_10 dX6_seeOn_52 ?_
        refine lv_icmp_le (tgt := 60) hx hb dX6_seeOn_53 (by decide) (fun c_11 => ?_) (fun c_11 => ?_)
        · have h := h.1 c_11
          exact B60 _ _ _ x5_6 hP hD hS (lv_sub hl [1, 2, 3, 4, 5, 0] rfl) h
        · have h := h.2 c_11
          exact B56 _ _ _ x5_6 hP hD hS (lv_sub hl [1, 2, 3, 4, 5, 0] rfl) h
      · have h := h.2 c_9
        refine lv_iload_n hx hb dX6_seeOn_33 rfl (lv_at hl 4 rfl) ?_
        refine lv_iconst (v := (1 : Int32)) hx hb dX6_seeOn_34 (by decide) ?_
        refine lv_iadd hx hb dX6_seeOn_35 ?_
        refine lv_aload_n hx hb dX6_seeOn_36 rfl (lv_at hl 1 rfl) ?_
        refine lv_iload hx hb dX6_seeOn_37 (lv_at hl 0 rfl) ?_
        obtain ⟨hi_12, h⟩ := h
        refine va_iald hx hb hK hP 0 0 rfl rfl hi_12 dX6_seeOn_39 ?_
        refine lv_icmp_ge (tgt := 60) hx hb dX6_seeOn_40 (by decide) (fun c_13 => ?_) (fun c_13 => ?_)
        · have h := h.1 c_13
          exact B60 _ _ _ x5_6 hP hD hS (lv_sub hl [1, 2, 3, 4, 5, 0] rfl) h
        · have h := h.2 c_13
          refine lv_goto (tgt := 56) hx hb dX6_seeOn_43 (by decide) ?_
          exact B56 _ _ _ x5_6 hP hD hS (lv_sub hl [1, 2, 3, 4, 5, 0] rfl) h
  unfold P_X6_seeOn at h
  refine lv_iload hx hb dX6_seeOn_0 (lv_at hl 4 rfl) ?_
  refine lv_if_eq (tgt := 10) hx hb dX6_seeOn_2 (by decide) (fun c_14 => ?_) (fun c_14 => ?_)
  · have h := h.1 c_14
    refine lv_sipush (v := (161 : Int32)) hx hb dX6_seeOn_10 (by decide) ?_
    exact B13 _ _ _ (161 : Int32) hP hD hS (lv_sub hl [0, 1, 2, 3, 4] rfl) h
  · have h := h.2 c_14
    refine lv_bipush (v := (101 : Int32)) hx hb dX6_seeOn_5 (by decide) ?_
    refine lv_goto (tgt := 13) hx hb dX6_seeOn_7 (by decide) ?_
    exact B13 _ _ _ (101 : Int32) hP hD hS (lv_sub hl [0, 1, 2, 3, 4] rfl) h
set_option maxHeartbeats 4000000 in
set_option maxRecDepth 100000 in
theorem c_X6_readReport (l : Launch) (D : va_G) (Cs : Nat → ClassId) (q_o : Nat) (q_a1 : Nat) (q_o_text : Nat) (q_o_now : Nat) (q_o_trial : Nat) (q_o_diary : Nat) (q_o_kept : Nat) (q_o_isKept : Nat) (q_o_years : Nat) (n_a1 : Nat) (sz : Nat) (v_o_size : Int32) (v_o_spot : Int32) (v_o_out : Int32) (v_o_text : (Nat → Int32)) (v_a1 : (Nat → Int32)) (v_o_refusal : Int32) (v_o_acts : Int32) (v_o_least : Int32) (v_o_origins : Int32) (v_o_ofAll : Int32) (v_o_ofSome : Int32) (v_o_sets : Int32) {post : Int32 → Int32 → Int32 → (Nat → Int32) → Prop} (h : P_X6_readReport n_a1 v_o_size v_o_spot v_o_out v_o_text v_a1 post) : Met l yX6_readReport wsX6_readReport ({ frames := 3, cells := 0, slots := 0, locals := 69 } : Room) (va_Pc [.ref q_o, .ref q_a1] (gM D Cs [(q_o, .inr (6, [.int v_o_refusal, .ref q_o_text, .int v_o_size, .ref q_o_now, .ref q_o_trial, .ref q_o_diary, .int v_o_acts, .ref q_o_kept, .ref q_o_isKept, .ref q_o_years, .int v_o_least, .int v_o_origins, .int v_o_ofAll, .int v_o_ofSome, .int v_o_sets, .int v_o_spot, .int v_o_out])), (q_o_text, gI Cs 100 v_o_text), (q_a1, gI Cs n_a1 v_a1)] sz)) (va_Qi (fun (r : Int32) (u : Int32 × Int32 × (Nat → Int32)) => post r u.1 u.2.1 u.2.2) (gB D (va_A [(q_o, .inr (6, [.int v_o_refusal, .ref q_o_text, .int v_o_size, .ref q_o_now, .ref q_o_trial, .ref q_o_diary, .int v_o_acts, .ref q_o_kept, .ref q_o_isKept, .ref q_o_years, .int v_o_least, .int v_o_origins, .int v_o_ofAll, .int v_o_ofSome, .int v_o_sets, .int v_o_spot, .int v_o_out])), (q_o_text, gI Cs 100 v_o_text), (q_a1, gI Cs n_a1 v_a1)] sz) (fun u : Int32 × Int32 × (Nat → Int32) => [(q_o, .inr (6, [.int v_o_refusal, .ref q_o_text, .int v_o_size, .ref q_o_now, .ref q_o_trial, .ref q_o_diary, .int v_o_acts, .ref q_o_kept, .ref q_o_isKept, .ref q_o_years, .int v_o_least, .int v_o_origins, .int v_o_ofAll, .int v_o_ofSome, .int v_o_sets, .int u.1, .int u.2.1])), (q_o_text, gI Cs 100 v_o_text), (q_a1, gI Cs n_a1 u.2.2)])) (va_A [(q_o, .inr (6, [.int v_o_refusal, .ref q_o_text, .int v_o_size, .ref q_o_now, .ref q_o_trial, .ref q_o_diary, .int v_o_acts, .ref q_o_kept, .ref q_o_isKept, .ref q_o_years, .int v_o_least, .int v_o_origins, .int v_o_ofAll, .int v_o_ofSome, .int v_o_sets, .int v_o_spot, .int v_o_out])), (q_o_text, gI Cs 100 v_o_text), (q_a1, gI Cs n_a1 v_a1)] sz)) 0 0 (va_A [(q_o, .inr (6, [.int v_o_refusal, .ref q_o_text, .int v_o_size, .ref q_o_now, .ref q_o_trial, .ref q_o_diary, .int v_o_acts, .ref q_o_kept, .ref q_o_isKept, .ref q_o_years, .int v_o_least, .int v_o_origins, .int v_o_ofAll, .int v_o_ofSome, .int v_o_sets, .int v_o_spot, .int v_o_out])), (q_o_text, gI Cs 100 v_o_text), (q_a1, gI Cs n_a1 v_a1)] sz) := by
  refine Met.ofW (cc := cX6_readReport) (maxL := 6) (ret := (some .boolean)) (by decide) rfl ?_
  intro p e s m args below meth c s₁ B hml hv
  obtain ⟨ha, hsz, hP, hK, hD0, hN⟩ := hv
  have hx := B.exec
  have hb := B.bytes
  have hr := B.returns
  have hts := atoms_spec (ws := wsX6_readReport) B.pre
  have htb : ∀ w ∈ TB, w.before args s = true := fun w h9 => hts w (List.mem_cons_of_mem _ h9)
  have hown : s.vm.findClass RX6 = some m.cls := findClass_of_methodNamed B.named
  have hlocks := B.notSynchronized
  subst hsz
  have hD := hD0.self (sz := s.heap.size)
  generalize hAe : va_A [(q_o, .inr (6, [.int v_o_refusal, .ref q_o_text, .int v_o_size, .ref q_o_now, .ref q_o_trial, .ref q_o_diary, .int v_o_acts, .ref q_o_kept, .ref q_o_isKept, .ref q_o_years, .int v_o_least, .int v_o_origins, .int v_o_ofAll, .int v_o_ofSome, .int v_o_sets, .int v_o_spot, .int v_o_out])), (q_o_text, gI Cs 100 v_o_text), (q_a1, gI Cs n_a1 v_a1)] s.heap.size = A at hD ⊢
  have hA : ∀ q : Nat, s.heap.size ≤ q → A q := fun q h9 => by rw [← hAe]; exact Or.inr h9
  obtain ⟨H, hH⟩ : ∃ z : Heap, z = s.heap := ⟨_, rfl⟩
  have hS : va_S A s.heap H [] := by rw [hH]; exact va_S.rf
  have hP : va_P D vwCl [(q_o, .inr (6, [.int v_o_refusal, .ref q_o_text, .int v_o_size, .ref q_o_now, .ref q_o_trial, .ref q_o_diary, .int v_o_acts, .ref q_o_kept, .ref q_o_isKept, .ref q_o_years, .int v_o_least, .int v_o_origins, .int v_o_ofAll, .int v_o_ofSome, .int v_o_sets, .int v_o_spot, .int v_o_out])), (q_o_text, gI Cs 100 v_o_text), (q_a1, gI Cs n_a1 v_a1)] H := by rw [hH]; exact hP
  generalize hQ : MQ below _ args s _ _ _ = Q
  show W p l e ({ frames := 3, cells := 0, slots := 0, locals := 69 } : Room) s m args below meth c s.heap [] 0 0 Q (entryFrame m args 6)
  have hent : entryFrame m args 6 = F0 m 0 ((lg_sl ([.ref q_o, .ref q_a1]) ++ List.replicate (6 - (lg_sl ([.ref q_o, .ref q_a1])).length) Slot.unset).toArray) [] := by rw [ha]; exact lg_entry_eq m ([.ref q_o, .ref q_a1]) 6
  rw [hent]; clear hent
  rw [← hH]
  have hl := lv_entry ([.ref q_o, .ref q_a1]) (n := 6) (Nat.le_of_ble_eq_true rfl)
  generalize (lg_sl ([.ref q_o, .ref q_a1]) ++ List.replicate (6 - (lg_sl ([.ref q_o, .ref q_a1])).length) Slot.unset).toArray = ls at hl ⊢
  have hl : lv_has ls 6 [(0, .ref q_o), (1, .ref q_a1)] := hl
  have B31 : ∀ (H : Heap) (locs : List Loc) (ls : Array Slot) (w_o_spot : Int32), va_P D vwCl [(q_o, .inr (6, [.int v_o_refusal, .ref q_o_text, .int v_o_size, .ref q_o_now, .ref q_o_trial, .ref q_o_diary, .int v_o_acts, .ref q_o_kept, .ref q_o_isKept, .ref q_o_years, .int v_o_least, .int v_o_origins, .int v_o_ofAll, .int v_o_ofSome, .int v_o_sets, .int w_o_spot, .int v_o_out])), (q_o_text, gI Cs 100 v_o_text), (q_a1, gI Cs n_a1 v_a1)] H → va_D A [(q_o, .inr (6, [.int v_o_refusal, .ref q_o_text, .int v_o_size, .ref q_o_now, .ref q_o_trial, .ref q_o_diary, .int v_o_acts, .ref q_o_kept, .ref q_o_isKept, .ref q_o_years, .int v_o_least, .int v_o_origins, .int v_o_ofAll, .int v_o_ofSome, .int v_o_sets, .int w_o_spot, .int v_o_out])), (q_o_text, gI Cs 100 v_o_text), (q_a1, gI Cs n_a1 v_a1)] → va_S A s.heap H locs → lv_has ls 6 [(0, .ref q_o), (1, .ref q_a1)] → P_X6_readReport_b31 n_a1 v_o_size v_o_spot v_o_out v_o_text v_a1 post w_o_spot → W p l e ({ frames := 3, cells := 0, slots := 0, locals := 69 } : Room) s m args below meth c H locs 0 0 Q (F0 m 31 ls []) := by
    intro H locs ls w_o_spot hP hD hS hl h
    unfold P_X6_readReport_b31 at h
    refine lv_iconst (v := (0 : Int32)) hx hb dX6_readReport_31 (by decide) ?_
    rw [← hQ]
    exact gRetI (u := (w_o_spot, v_o_out, v_a1)) hx hb hr rfl h hP hD hS dX6_readReport_32 hlocks
  have B71 : ∀ (H : Heap) (locs : List Loc) (ls : Array Slot) (w_o_spot : Int32), va_P D vwCl [(q_o, .inr (6, [.int v_o_refusal, .ref q_o_text, .int v_o_size, .ref q_o_now, .ref q_o_trial, .ref q_o_diary, .int v_o_acts, .ref q_o_kept, .ref q_o_isKept, .ref q_o_years, .int v_o_least, .int v_o_origins, .int v_o_ofAll, .int v_o_ofSome, .int v_o_sets, .int w_o_spot, .int v_o_out])), (q_o_text, gI Cs 100 v_o_text), (q_a1, gI Cs n_a1 v_a1)] H → va_D A [(q_o, .inr (6, [.int v_o_refusal, .ref q_o_text, .int v_o_size, .ref q_o_now, .ref q_o_trial, .ref q_o_diary, .int v_o_acts, .ref q_o_kept, .ref q_o_isKept, .ref q_o_years, .int v_o_least, .int v_o_origins, .int v_o_ofAll, .int v_o_ofSome, .int v_o_sets, .int w_o_spot, .int v_o_out])), (q_o_text, gI Cs 100 v_o_text), (q_a1, gI Cs n_a1 v_a1)] → va_S A s.heap H locs → lv_has ls 6 [(0, .ref q_o), (1, .ref q_a1)] → P_X6_readReport_b71 n_a1 v_o_size v_o_spot v_o_out v_o_text v_a1 post w_o_spot → W p l e ({ frames := 3, cells := 0, slots := 0, locals := 69 } : Room) s m args below meth c H locs 0 0 Q (F0 m 71 ls []) := by
    intro H locs ls w_o_spot hP hD hS hl h
    unfold P_X6_readReport_b71 at h
    refine lv_iconst (v := (0 : Int32)) hx hb dX6_readReport_71 (by decide) ?_
    rw [← hQ]
    exact gRetI (u := (w_o_spot, v_o_out, v_a1)) hx hb hr rfl h hP hD hS dX6_readReport_72 hlocks
  have B129 : ∀ (H : Heap) (locs : List Loc) (ls : Array Slot) (w_o_spot : Int32) (w_o_out : Int32) (w_a1 : (Nat → Int32)), va_P D vwCl [(q_o, .inr (6, [.int v_o_refusal, .ref q_o_text, .int v_o_size, .ref q_o_now, .ref q_o_trial, .ref q_o_diary, .int v_o_acts, .ref q_o_kept, .ref q_o_isKept, .ref q_o_years, .int v_o_least, .int v_o_origins, .int v_o_ofAll, .int v_o_ofSome, .int v_o_sets, .int w_o_spot, .int w_o_out])), (q_o_text, gI Cs 100 v_o_text), (q_a1, gI Cs n_a1 w_a1)] H → va_D A [(q_o, .inr (6, [.int v_o_refusal, .ref q_o_text, .int v_o_size, .ref q_o_now, .ref q_o_trial, .ref q_o_diary, .int v_o_acts, .ref q_o_kept, .ref q_o_isKept, .ref q_o_years, .int v_o_least, .int v_o_origins, .int v_o_ofAll, .int v_o_ofSome, .int v_o_sets, .int w_o_spot, .int w_o_out])), (q_o_text, gI Cs 100 v_o_text), (q_a1, gI Cs n_a1 w_a1)] → va_S A s.heap H locs → lv_has ls 6 [(0, .ref q_o), (1, .ref q_a1)] → P_X6_readReport_b129 n_a1 v_o_size v_o_spot v_o_out v_o_text v_a1 post w_o_spot w_o_out w_a1 → W p l e ({ frames := 3, cells := 0, slots := 0, locals := 69 } : Room) s m args below meth c H locs 0 0 Q (F0 m 129 ls []) := by
    intro H locs ls w_o_spot w_o_out w_a1 hP hD hS hl h
    unfold P_X6_readReport_b129 at h
    refine lv_iconst (v := (1 : Int32)) hx hb dX6_readReport_129 (by decide) ?_
    rw [← hQ]
    exact gRetI (u := (w_o_spot, w_o_out, w_a1)) hx hb hr rfl h hP hD hS dX6_readReport_130 hlocks
  have B112 : ∀ (H : Heap) (locs : List Loc) (ls : Array Slot) (w_o_spot : Int32) (s1 : Int32) (s2 : Int32) (s3 : Int32) (s4 : Int32), va_P D vwCl [(q_o, .inr (6, [.int v_o_refusal, .ref q_o_text, .int v_o_size, .ref q_o_now, .ref q_o_trial, .ref q_o_diary, .int v_o_acts, .ref q_o_kept, .ref q_o_isKept, .ref q_o_years, .int v_o_least, .int v_o_origins, .int v_o_ofAll, .int v_o_ofSome, .int v_o_sets, .int w_o_spot, .int v_o_out])), (q_o_text, gI Cs 100 v_o_text), (q_a1, gI Cs n_a1 v_a1)] H → va_D A [(q_o, .inr (6, [.int v_o_refusal, .ref q_o_text, .int v_o_size, .ref q_o_now, .ref q_o_trial, .ref q_o_diary, .int v_o_acts, .ref q_o_kept, .ref q_o_isKept, .ref q_o_years, .int v_o_least, .int v_o_origins, .int v_o_ofAll, .int v_o_ofSome, .int v_o_sets, .int w_o_spot, .int v_o_out])), (q_o_text, gI Cs 100 v_o_text), (q_a1, gI Cs n_a1 v_a1)] → va_S A s.heap H locs → lv_has ls 6 [(0, .ref q_o), (1, .ref q_a1)] → P_X6_readReport_b112 n_a1 v_o_size v_o_spot v_o_out v_o_text v_a1 post w_o_spot s1 s2 s3 s4 → W p l e ({ frames := 3, cells := 0, slots := 0, locals := 69 } : Room) s m args below meth c H locs 0 0 Q (F0 m 112 ls [.int s4, .int s3, .int s2, .int s1, .ref q_a1]) := by
    intro H locs ls w_o_spot s1 s2 s3 s4 hP hD hS hl h
    unfold P_X6_readReport_b112 at h
    refine gSM (wr := [(q_o, .inr (6, [.int v_o_refusal, .ref q_o_text, .int v_o_size, .ref q_o_now, .ref q_o_trial, .ref q_o_diary, .int v_o_acts, .ref q_o_kept, .ref q_o_isKept, .ref q_o_years, .int v_o_least, .int v_o_origins, .int v_o_ofAll, .int v_o_ofSome, .int v_o_sets, .int w_o_spot, .int v_o_out])), (q_o_text, gI Cs 100 v_o_text)]) (As := [.ref q_a1, .int s1, .int s2, .int s3, .int s4]) (rest := []) ⟨hx, hb, hml, hown, htb⟩ hK hP hD hS hA hN [2] [0, 1] rfl (by decide) rfl (by decide) (by decide) (c_X6_seeOn l D Cs q_a1 n_a1 H.size v_a1 s1 s2 s3 s4 h) (va_cwS 5 htb (TB_s tb_200 tb_201 tb_5 (TB_self tb_202)) rfl rfl rfl z_X6_seeOn.2 ⟨Nat.le_of_ble_eq_true rfl, Nat.le_of_ble_eq_true rfl⟩) rfl hl.1 rfl (Nat.le_of_ble_eq_true rfl) ⟨Nat.le_of_ble_eq_true rfl, Nat.le_of_ble_eq_true rfl⟩ dX6_readReport_112 (fun r_1 m_2 H locs h hP hD hS => ?_)
    have hP : va_P D vwCl [(q_o, .inr (6, [.int v_o_refusal, .ref q_o_text, .int v_o_size, .ref q_o_now, .ref q_o_trial, .ref q_o_diary, .int v_o_acts, .ref q_o_kept, .ref q_o_isKept, .ref q_o_years, .int v_o_least, .int v_o_origins, .int v_o_ofAll, .int v_o_ofSome, .int v_o_sets, .int w_o_spot, .int v_o_out])), (q_o_text, gI Cs 100 v_o_text), (q_a1, gI Cs n_a1 m_2)] H := hP
    have hD : va_D A [(q_o, .inr (6, [.int v_o_refusal, .ref q_o_text, .int v_o_size, .ref q_o_now, .ref q_o_trial, .ref q_o_diary, .int v_o_acts, .ref q_o_kept, .ref q_o_isKept, .ref q_o_years, .int v_o_least, .int v_o_origins, .int v_o_ofAll, .int v_o_ofSome, .int v_o_sets, .int w_o_spot, .int v_o_out])), (q_o_text, gI Cs 100 v_o_text), (q_a1, gI Cs n_a1 m_2)] := hD
    refine lv_pop hx hb dX6_readReport_115 rfl ?_
    refine lv_goto (tgt := 129) hx hb dX6_readReport_116 (by decide) ?_
    exact B129 _ _ _ w_o_spot v_o_out m_2 hP hD hS (lv_sub hl [0, 1] rfl) h
  have B33 : ∀ (H : Heap) (locs : List Loc) (ls : Array Slot) (w_o_spot : Int32) (x2 : Int32) (x3 : Int32), va_P D vwCl [(q_o, .inr (6, [.int v_o_refusal, .ref q_o_text, .int v_o_size, .ref q_o_now, .ref q_o_trial, .ref q_o_diary, .int v_o_acts, .ref q_o_kept, .ref q_o_isKept, .ref q_o_years, .int v_o_least, .int v_o_origins, .int v_o_ofAll, .int v_o_ofSome, .int v_o_sets, .int w_o_spot, .int v_o_out])), (q_o_text, gI Cs 100 v_o_text), (q_a1, gI Cs n_a1 v_a1)] H → va_D A [(q_o, .inr (6, [.int v_o_refusal, .ref q_o_text, .int v_o_size, .ref q_o_now, .ref q_o_trial, .ref q_o_diary, .int v_o_acts, .ref q_o_kept, .ref q_o_isKept, .ref q_o_years, .int v_o_least, .int v_o_origins, .int v_o_ofAll, .int v_o_ofSome, .int v_o_sets, .int w_o_spot, .int v_o_out])), (q_o_text, gI Cs 100 v_o_text), (q_a1, gI Cs n_a1 v_a1)] → va_S A s.heap H locs → lv_has ls 6 [(0, .ref q_o), (1, .ref q_a1), (2, .int x2), (3, .int x3)] → P_X6_readReport_b33 n_a1 v_o_size v_o_spot v_o_out v_o_text v_a1 post w_o_spot x2 x3 → W p l e ({ frames := 3, cells := 0, slots := 0, locals := 69 } : Room) s m args below meth c H locs 0 0 Q (F0 m 33 ls []) := by
    intro H locs ls w_o_spot x2 x3 hP hD hS hl h
    unfold P_X6_readReport_b33 at h
    refine lv_aload_n hx hb dX6_readReport_33 rfl (lv_at hl 0 rfl) ?_
    refine lv_dup hx hb dX6_readReport_34 rfl ?_
    refine va_get (D := D) (ci := 6) (v := .int w_o_spot) (C := RX6) (T := TX6) (N := 17) hx hb htb inT_X6 hown hK hP 0 rfl rfl 15 (by decide) (htb _ tb_177) (fun _ h9 => h9) rfl dX6_readReport_35 ?_
    refine lv_iconst (v := (1 : Int32)) hx hb dX6_readReport_38 (by decide) ?_
    refine lv_iadd hx hb dX6_readReport_39 ?_
    refine lv_topi (fun f_spot_3 ef_spot_3 => ?_)
    have h := h _ ef_spot_3
    refine va_put (D := D) (ci := 6) (v := .int f_spot_3) (ty := .int) (C := RX6) (T := TX6) (N := 17) hx hb htb inT_X6 tyX6 tyX6_ok nmX6 hown hK hP hD hS 0 rfl rfl 15 (by decide) (htb _ tb_177) (fun _ h9 => h9) rfl (tyX6_ok 15 (by decide)) rfl rfl (Nat.le_of_ble_eq_true rfl) dX6_readReport_40 (fun H locs hP hD hS => ?_)
    have hP : va_P D vwCl [(q_o, .inr (6, [.int v_o_refusal, .ref q_o_text, .int v_o_size, .ref q_o_now, .ref q_o_trial, .ref q_o_diary, .int v_o_acts, .ref q_o_kept, .ref q_o_isKept, .ref q_o_years, .int v_o_least, .int v_o_origins, .int v_o_ofAll, .int v_o_ofSome, .int v_o_sets, .int f_spot_3, .int v_o_out])), (q_o_text, gI Cs 100 v_o_text), (q_a1, gI Cs n_a1 v_a1)] H := hP
    have hD : va_D A [(q_o, .inr (6, [.int v_o_refusal, .ref q_o_text, .int v_o_size, .ref q_o_now, .ref q_o_trial, .ref q_o_diary, .int v_o_acts, .ref q_o_kept, .ref q_o_isKept, .ref q_o_years, .int v_o_least, .int v_o_origins, .int v_o_ofAll, .int v_o_ofSome, .int v_o_sets, .int f_spot_3, .int v_o_out])), (q_o_text, gI Cs 100 v_o_text), (q_a1, gI Cs n_a1 v_a1)] := hD
    refine lv_aload_n hx hb dX6_readReport_43 rfl (lv_at hl 0 rfl) ?_
    refine lv_bipush (v := (48 : Int32)) hx hb dX6_readReport_44 (by decide) ?_
    refine lv_bipush (v := (53 : Int32)) hx hb dX6_readReport_46 (by decide) ?_
    refine gVM (wr := [(q_a1, gI Cs n_a1 v_a1)]) (As := [.int (48 : Int32), .int (53 : Int32)]) (rest := []) ⟨hx, hb, hml, hown, htb⟩ hK hP hD hS hA hN [0, 1] [2] rfl (by decide) rfl (by decide) (by decide) (c_X6_taken l D Cs q_o q_o_text q_o_now q_o_trial q_o_diary q_o_kept q_o_isKept q_o_years H.size v_o_size f_spot_3 v_o_text v_o_refusal v_o_acts v_o_least v_o_origins v_o_ofAll v_o_ofSome v_o_sets v_o_out (48 : Int32) (53 : Int32) h) (cwV 2 htb (TB_v tb_183 tb_184 tb_185 tb_5 (TB_self tb_186)) rfl rfl rfl z_X6_taken ⟨Nat.le_of_ble_eq_true rfl, Nat.le_of_ble_eq_true rfl⟩) 0 rfl rfl rfl rfl hl.1 rfl (Nat.le_of_ble_eq_true rfl) ⟨Nat.le_of_ble_eq_true rfl, Nat.le_of_ble_eq_true rfl⟩ dX6_readReport_48 (fun r_4 m_5 H locs h hP hD hS => ?_)
    have hP : va_P D vwCl [(q_a1, gI Cs n_a1 v_a1), (q_o, .inr (6, [.int v_o_refusal, .ref q_o_text, .int v_o_size, .ref q_o_now, .ref q_o_trial, .ref q_o_diary, .int v_o_acts, .ref q_o_kept, .ref q_o_isKept, .ref q_o_years, .int v_o_least, .int v_o_origins, .int v_o_ofAll, .int v_o_ofSome, .int v_o_sets, .int m_5, .int v_o_out])), (q_o_text, gI Cs 100 v_o_text)] H := hP
    have hD : va_D A [(q_a1, gI Cs n_a1 v_a1), (q_o, .inr (6, [.int v_o_refusal, .ref q_o_text, .int v_o_size, .ref q_o_now, .ref q_o_trial, .ref q_o_diary, .int v_o_acts, .ref q_o_kept, .ref q_o_isKept, .ref q_o_years, .int v_o_least, .int v_o_origins, .int v_o_ofAll, .int v_o_ofSome, .int v_o_sets, .int m_5, .int v_o_out])), (q_o_text, gI Cs 100 v_o_text)] := hD
    refine lv_istore (lv' := [(4, .int r_4), (0, .ref q_o), (1, .ref q_a1), (2, .int x2), (3, .int x3)]) hx hb dX6_readReport_51 hl (by decide) rfl (fun ls hl => ?_)
    refine lv_iload hx hb dX6_readReport_53 (lv_at hl 0 rfl) ?_
    refine lv_iconst (v := (-1 : Int32)) hx hb dX6_readReport_55 (by decide) ?_
    refine lv_icmp_eq (tgt := 71) hx hb dX6_readReport_56 (by decide) (fun c_6 => ?_) (fun c_6 => ?_)
    · have h := h.1 c_6
      exact B71 _ _ _ m_5 (hP.sub [1, 2, 0] rfl) (hD.sub [1, 2, 0] (by decide) rfl) hS (lv_sub hl [1, 2] rfl) h
    · have h := h.2 c_6
      refine lv_aload_n hx hb dX6_readReport_59 rfl (lv_at hl 1 rfl) ?_
      refine lv_bipush (v := (58 : Int32)) hx hb dX6_readReport_60 (by decide) ?_
      refine lv_bipush (v := (58 : Int32)) hx hb dX6_readReport_62 (by decide) ?_
      refine gVM (wr := [(q_a1, gI Cs n_a1 v_a1)]) (As := [.int (58 : Int32), .int (58 : Int32)]) (rest := []) ⟨hx, hb, hml, hown, htb⟩ hK hP hD hS hA hN [1, 2] [0] rfl (by decide) rfl (by decide) (by decide) (c_X6_taken l D Cs q_o q_o_text q_o_now q_o_trial q_o_diary q_o_kept q_o_isKept q_o_years H.size v_o_size m_5 v_o_text v_o_refusal v_o_acts v_o_least v_o_origins v_o_ofAll v_o_ofSome v_o_sets v_o_out (58 : Int32) (58 : Int32) h) (cwV 2 htb (TB_v tb_183 tb_184 tb_185 tb_5 (TB_self tb_186)) rfl rfl rfl z_X6_taken ⟨Nat.le_of_ble_eq_true rfl, Nat.le_of_ble_eq_true rfl⟩) 1 rfl rfl rfl rfl hl.1 rfl (Nat.le_of_ble_eq_true rfl) ⟨Nat.le_of_ble_eq_true rfl, Nat.le_of_ble_eq_true rfl⟩ dX6_readReport_64 (fun r_7 m_8 H locs h hP hD hS => ?_)
      have hP : va_P D vwCl [(q_a1, gI Cs n_a1 v_a1), (q_o, .inr (6, [.int v_o_refusal, .ref q_o_text, .int v_o_size, .ref q_o_now, .ref q_o_trial, .ref q_o_diary, .int v_o_acts, .ref q_o_kept, .ref q_o_isKept, .ref q_o_years, .int v_o_least, .int v_o_origins, .int v_o_ofAll, .int v_o_ofSome, .int v_o_sets, .int m_8, .int v_o_out])), (q_o_text, gI Cs 100 v_o_text)] H := hP
      have hD : va_D A [(q_a1, gI Cs n_a1 v_a1), (q_o, .inr (6, [.int v_o_refusal, .ref q_o_text, .int v_o_size, .ref q_o_now, .ref q_o_trial, .ref q_o_diary, .int v_o_acts, .ref q_o_kept, .ref q_o_isKept, .ref q_o_years, .int v_o_least, .int v_o_origins, .int v_o_ofAll, .int v_o_ofSome, .int v_o_sets, .int m_8, .int v_o_out])), (q_o_text, gI Cs 100 v_o_text)] := hD
      refine lv_iconst (v := (-1 : Int32)) hx hb dX6_readReport_67 (by decide) ?_
      refine lv_icmp_ne (tgt := 73) hx hb dX6_readReport_68 (by decide) (fun c_9 => ?_) (fun c_9 => ?_)
      · have h := h.2 c_9
        refine lv_aload_n hx hb dX6_readReport_73 rfl (lv_at hl 1 rfl) ?_
        refine gVM (wr := [(q_a1, gI Cs n_a1 v_a1)]) (As := []) (rest := []) ⟨hx, hb, hml, hown, htb⟩ hK hP hD hS hA hN [1, 2] [0] rfl (by decide) rfl (by decide) (by decide) (c_X6_readYear l D Cs q_o q_o_text q_o_now q_o_trial q_o_diary q_o_kept q_o_isKept q_o_years H.size v_o_size m_8 v_o_text v_o_refusal v_o_acts v_o_least v_o_origins v_o_ofAll v_o_ofSome v_o_sets v_o_out h) (cwV 0 htb (TB_v tb_191 tb_192 tb_193 tb_5 (TB_self tb_194)) rfl rfl rfl z_X6_readYear ⟨Nat.le_of_ble_eq_true rfl, Nat.le_of_ble_eq_true rfl⟩) 1 rfl rfl rfl rfl hl.1 rfl (Nat.le_of_ble_eq_true rfl) ⟨Nat.le_of_ble_eq_true rfl, Nat.le_of_ble_eq_true rfl⟩ dX6_readReport_74 (fun r_10 m_11 H locs h hP hD hS => ?_)
        have hP : va_P D vwCl [(q_a1, gI Cs n_a1 v_a1), (q_o, .inr (6, [.int v_o_refusal, .ref q_o_text, .int v_o_size, .ref q_o_now, .ref q_o_trial, .ref q_o_diary, .int v_o_acts, .ref q_o_kept, .ref q_o_isKept, .ref q_o_years, .int v_o_least, .int v_o_origins, .int v_o_ofAll, .int v_o_ofSome, .int v_o_sets, .int m_11, .int v_o_out])), (q_o_text, gI Cs 100 v_o_text)] H := hP
        have hD : va_D A [(q_a1, gI Cs n_a1 v_a1), (q_o, .inr (6, [.int v_o_refusal, .ref q_o_text, .int v_o_size, .ref q_o_now, .ref q_o_trial, .ref q_o_diary, .int v_o_acts, .ref q_o_kept, .ref q_o_isKept, .ref q_o_years, .int v_o_least, .int v_o_origins, .int v_o_ofAll, .int v_o_ofSome, .int v_o_sets, .int m_11, .int v_o_out])), (q_o_text, gI Cs 100 v_o_text)] := hD
        refine lv_istore (lv' := [(5, .int r_10), (4, .int r_4), (0, .ref q_o), (1, .ref q_a1), (2, .int x2), (3, .int x3)]) hx hb dX6_readReport_77 hl (by decide) rfl (fun ls hl => ?_)
        refine lv_iload hx hb dX6_readReport_79 (lv_at hl 0 rfl) ?_
        refine lv_iconst (v := (-1 : Int32)) hx hb dX6_readReport_81 (by decide) ?_
        refine lv_icmp_ne (tgt := 87) hx hb dX6_readReport_82 (by decide) (fun c_12 => ?_) (fun c_12 => ?_)
        · have h := h.2 c_12
          refine lv_aload_n hx hb dX6_readReport_87 rfl (lv_at hl 3 rfl) ?_
          refine lv_iload_n hx hb dX6_readReport_88 rfl (lv_at hl 4 rfl) ?_
          refine gSR (As := [.ref q_a1, .int x2]) (rest := []) ⟨hx, hb, hml, hown, htb⟩ hK hP hN [0] rfl (c_X6_isTown l D Cs q_a1 n_a1 v_a1 x2 h) (va_cwS 2 htb (TB_s tb_197 tb_198 tb_5 (TB_self tb_199)) rfl rfl rfl z_X6_isTown.2 ⟨Nat.le_of_ble_eq_true rfl, Nat.le_of_ble_eq_true rfl⟩) rfl hl.1 rfl (Nat.le_of_ble_eq_true rfl) ⟨Nat.le_of_ble_eq_true rfl, Nat.le_of_ble_eq_true rfl⟩ dX6_readReport_89 (fun r_13 h => ?_)
          refine lv_if_eq (tgt := 119) hx hb dX6_readReport_92 (by decide) (fun c_14 => ?_) (fun c_14 => ?_)
          · have h := h.1 c_14
            refine lv_aload_n hx hb dX6_readReport_119 rfl (lv_at hl 2 rfl) ?_
            refine lv_dup hx hb dX6_readReport_120 rfl ?_
            refine va_get (D := D) (ci := 6) (v := .int v_o_out) (C := RX6) (T := TX6) (N := 17) hx hb htb inT_X6 hown hK hP 1 rfl rfl 16 (by decide) (htb _ tb_178) (fun _ h9 => h9) rfl dX6_readReport_121 ?_
            refine lv_iconst (v := (1 : Int32)) hx hb dX6_readReport_124 (by decide) ?_
            refine lv_iadd hx hb dX6_readReport_125 ?_
            refine lv_topi (fun f_out_15 ef_out_15 => ?_)
            have h := h _ ef_out_15
            refine va_put (D := D) (ci := 6) (v := .int f_out_15) (ty := .int) (C := RX6) (T := TX6) (N := 17) hx hb htb inT_X6 tyX6 tyX6_ok nmX6 hown hK hP hD hS 1 rfl rfl 16 (by decide) (htb _ tb_178) (fun _ h9 => h9) rfl (tyX6_ok 16 (by decide)) rfl rfl (Nat.le_of_ble_eq_true rfl) dX6_readReport_126 (fun H locs hP hD hS => ?_)
            have hP : va_P D vwCl [(q_a1, gI Cs n_a1 v_a1), (q_o, .inr (6, [.int v_o_refusal, .ref q_o_text, .int v_o_size, .ref q_o_now, .ref q_o_trial, .ref q_o_diary, .int v_o_acts, .ref q_o_kept, .ref q_o_isKept, .ref q_o_years, .int v_o_least, .int v_o_origins, .int v_o_ofAll, .int v_o_ofSome, .int v_o_sets, .int m_11, .int f_out_15])), (q_o_text, gI Cs 100 v_o_text)] H := hP
            have hD : va_D A [(q_a1, gI Cs n_a1 v_a1), (q_o, .inr (6, [.int v_o_refusal, .ref q_o_text, .int v_o_size, .ref q_o_now, .ref q_o_trial, .ref q_o_diary, .int v_o_acts, .ref q_o_kept, .ref q_o_isKept, .ref q_o_years, .int v_o_least, .int v_o_origins, .int v_o_ofAll, .int v_o_ofSome, .int v_o_sets, .int m_11, .int f_out_15])), (q_o_text, gI Cs 100 v_o_text)] := hD
            exact B129 _ _ _ m_11 f_out_15 v_a1 (hP.sub [1, 2, 0] rfl) (hD.sub [1, 2, 0] (by decide) rfl) hS (lv_sub hl [2, 3] rfl) h
          · have h := h.2 c_14
            refine lv_aload_n hx hb dX6_readReport_95 rfl (lv_at hl 3 rfl) ?_
            refine lv_iload_n hx hb dX6_readReport_96 rfl (lv_at hl 4 rfl) ?_
            refine lv_iload hx hb dX6_readReport_97 (lv_at hl 1 rfl) ?_
            refine lv_iload hx hb dX6_readReport_99 (lv_at hl 0 rfl) ?_
            refine lv_iload_n hx hb dX6_readReport_101 rfl (lv_at hl 5 rfl) ?_
            refine lv_bipush (v := (43 : Int32)) hx hb dX6_readReport_102 (by decide) ?_
            refine lv_icmp_ne (tgt := 111) hx hb dX6_readReport_104 (by decide) (fun c_16 => ?_) (fun c_16 => ?_)
            · have h := h.2 c_16
              refine lv_iconst (v := (0 : Int32)) hx hb dX6_readReport_111 (by decide) ?_
              exact B112 _ _ _ m_11 x2 r_4 r_10 (0 : Int32) (hP.sub [1, 2, 0] rfl) (hD.sub [1, 2, 0] (by decide) rfl) hS (lv_sub hl [2, 3] rfl) h
            · have h := h.1 c_16
              refine lv_iconst (v := (1 : Int32)) hx hb dX6_readReport_107 (by decide) ?_
              refine lv_goto (tgt := 112) hx hb dX6_readReport_108 (by decide) ?_
              exact B112 _ _ _ m_11 x2 r_4 r_10 (1 : Int32) (hP.sub [1, 2, 0] rfl) (hD.sub [1, 2, 0] (by decide) rfl) hS (lv_sub hl [2, 3] rfl) h
        · have h := h.1 c_12
          refine lv_iconst (v := (0 : Int32)) hx hb dX6_readReport_85 (by decide) ?_
          rw [← hQ]
          exact gRetI (u := (m_11, v_o_out, v_a1)) hx hb hr rfl h (hP.sub [1, 2, 0] rfl) (hD.sub [1, 2, 0] (by decide) rfl) hS dX6_readReport_86 hlocks
      · have h := h.1 c_9
        exact B71 _ _ _ m_8 (hP.sub [1, 2, 0] rfl) (hD.sub [1, 2, 0] (by decide) rfl) hS (lv_sub hl [1, 2] rfl) h
  unfold P_X6_readReport at h
  refine lv_aload_n hx hb dX6_readReport_0 rfl (lv_at hl 0 rfl) ?_
  refine lv_bipush (v := (48 : Int32)) hx hb dX6_readReport_1 (by decide) ?_
  refine lv_bipush (v := (57 : Int32)) hx hb dX6_readReport_3 (by decide) ?_
  refine gVM (wr := [(q_a1, gI Cs n_a1 v_a1)]) (As := [.int (48 : Int32), .int (57 : Int32)]) (rest := []) ⟨hx, hb, hml, hown, htb⟩ hK hP hD hS hA hN [0, 1] [2] rfl (by decide) rfl (by decide) (by decide) (c_X6_taken l D Cs q_o q_o_text q_o_now q_o_trial q_o_diary q_o_kept q_o_isKept q_o_years H.size v_o_size v_o_spot v_o_text v_o_refusal v_o_acts v_o_least v_o_origins v_o_ofAll v_o_ofSome v_o_sets v_o_out (48 : Int32) (57 : Int32) h) (cwV 2 htb (TB_v tb_183 tb_184 tb_185 tb_5 (TB_self tb_186)) rfl rfl rfl z_X6_taken ⟨Nat.le_of_ble_eq_true rfl, Nat.le_of_ble_eq_true rfl⟩) 0 rfl rfl rfl rfl hl.1 rfl (Nat.le_of_ble_eq_true rfl) ⟨Nat.le_of_ble_eq_true rfl, Nat.le_of_ble_eq_true rfl⟩ dX6_readReport_5 (fun r_17 m_18 H locs h hP hD hS => ?_)
  have hP : va_P D vwCl [(q_a1, gI Cs n_a1 v_a1), (q_o, .inr (6, [.int v_o_refusal, .ref q_o_text, .int v_o_size, .ref q_o_now, .ref q_o_trial, .ref q_o_diary, .int v_o_acts, .ref q_o_kept, .ref q_o_isKept, .ref q_o_years, .int v_o_least, .int v_o_origins, .int v_o_ofAll, .int v_o_ofSome, .int v_o_sets, .int m_18, .int v_o_out])), (q_o_text, gI Cs 100 v_o_text)] H := hP
  have hD : va_D A [(q_a1, gI Cs n_a1 v_a1), (q_o, .inr (6, [.int v_o_refusal, .ref q_o_text, .int v_o_size, .ref q_o_now, .ref q_o_trial, .ref q_o_diary, .int v_o_acts, .ref q_o_kept, .ref q_o_isKept, .ref q_o_years, .int v_o_least, .int v_o_origins, .int v_o_ofAll, .int v_o_ofSome, .int v_o_sets, .int m_18, .int v_o_out])), (q_o_text, gI Cs 100 v_o_text)] := hD
  refine lv_istore_n (lv' := [(2, .int r_17), (0, .ref q_o), (1, .ref q_a1)]) hx hb dX6_readReport_8 rfl hl (by decide) rfl (fun ls hl => ?_)
  refine lv_aload_n hx hb dX6_readReport_9 rfl (lv_at hl 1 rfl) ?_
  refine gVR (As := []) (rest := []) ⟨hx, hb, hml, hown, htb⟩ hK hP hN [1, 2] rfl (c_X6_sign l D Cs q_o q_o_text q_o_now q_o_trial q_o_diary q_o_kept q_o_isKept q_o_years v_o_size m_18 v_o_text v_o_refusal v_o_acts v_o_least v_o_origins v_o_ofAll v_o_ofSome v_o_sets v_o_out h) (cwV 0 htb (TB_v tb_187 tb_188 tb_189 tb_5 (TB_self tb_190)) rfl rfl rfl z_X6_sign ⟨Nat.le_of_ble_eq_true rfl, Nat.le_of_ble_eq_true rfl⟩) 1 rfl rfl rfl rfl hl.1 rfl (Nat.le_of_ble_eq_true rfl) ⟨Nat.le_of_ble_eq_true rfl, Nat.le_of_ble_eq_true rfl⟩ dX6_readReport_10 (fun r_19 h => ?_)
  refine lv_istore_n (lv' := [(3, .int r_19), (2, .int r_17), (0, .ref q_o), (1, .ref q_a1)]) hx hb dX6_readReport_13 rfl hl (by decide) rfl (fun ls hl => ?_)
  refine lv_iload_n hx hb dX6_readReport_14 rfl (lv_at hl 1 rfl) ?_
  refine lv_iconst (v := (-1 : Int32)) hx hb dX6_readReport_15 (by decide) ?_
  refine lv_icmp_eq (tgt := 31) hx hb dX6_readReport_16 (by decide) (fun c_20 => ?_) (fun c_20 => ?_)
  · have h := h.1 c_20
    exact B31 _ _ _ m_18 (hP.sub [1, 2, 0] rfl) (hD.sub [1, 2, 0] (by decide) rfl) hS (lv_sub hl [2, 3] rfl) h
  · have h := h.2 c_20
    refine lv_iload_n hx hb dX6_readReport_19 rfl (lv_at hl 0 rfl) ?_
    refine lv_bipush (v := (43 : Int32)) hx hb dX6_readReport_20 (by decide) ?_
    refine lv_icmp_eq (tgt := 33) hx hb dX6_readReport_22 (by decide) (fun c_21 => ?_) (fun c_21 => ?_)
    · have h := h.1 c_21
      exact B33 _ _ _ m_18 r_17 r_19 (hP.sub [1, 2, 0] rfl) (hD.sub [1, 2, 0] (by decide) rfl) hS (lv_sub hl [2, 3, 1, 0] rfl) h
    · have h := h.2 c_21
      refine lv_iload_n hx hb dX6_readReport_25 rfl (lv_at hl 0 rfl) ?_
      refine lv_bipush (v := (45 : Int32)) hx hb dX6_readReport_26 (by decide) ?_
      refine lv_icmp_eq (tgt := 33) hx hb dX6_readReport_28 (by decide) (fun c_22 => ?_) (fun c_22 => ?_)
      · have h := h.1 c_22
        exact B33 _ _ _ m_18 r_17 r_19 (hP.sub [1, 2, 0] rfl) (hD.sub [1, 2, 0] (by decide) rfl) hS (lv_sub hl [2, 3, 1, 0] rfl) h
      · have h := h.2 c_22
        exact B31 _ _ _ m_18 (hP.sub [1, 2, 0] rfl) (hD.sub [1, 2, 0] (by decide) rfl) hS (lv_sub hl [2, 3] rfl) h
set_option maxHeartbeats 4000000 in
set_option maxRecDepth 100000 in
theorem c_X6_readAll (l : Launch) (D : va_G) (Cs : Nat → ClassId) (q_o : Nat) (q_a1 : Nat) (q_o_text : Nat) (q_o_now : Nat) (q_o_trial : Nat) (q_o_diary : Nat) (q_o_kept : Nat) (q_o_isKept : Nat) (q_o_years : Nat) (n_a1 : Nat) (sz : Nat) (v_o_size : Int32) (v_o_spot : Int32) (v_o_out : Int32) (v_o_text : (Nat → Int32)) (v_a1 : (Nat → Int32)) (v_o_refusal : Int32) (v_o_acts : Int32) (v_o_least : Int32) (v_o_origins : Int32) (v_o_ofAll : Int32) (v_o_ofSome : Int32) (v_o_sets : Int32) {post : Int32 → Int32 → Int32 → (Nat → Int32) → Prop} (h : P_X6_readAll n_a1 v_o_size v_o_spot v_o_out v_o_text v_a1 post) : Met l yX6_readAll wsX6_readAll ({ frames := 4, cells := 0, slots := 0, locals := 94 } : Room) (va_Pc [.ref q_o, .ref q_a1] (gM D Cs [(q_o, .inr (6, [.int v_o_refusal, .ref q_o_text, .int v_o_size, .ref q_o_now, .ref q_o_trial, .ref q_o_diary, .int v_o_acts, .ref q_o_kept, .ref q_o_isKept, .ref q_o_years, .int v_o_least, .int v_o_origins, .int v_o_ofAll, .int v_o_ofSome, .int v_o_sets, .int v_o_spot, .int v_o_out])), (q_o_text, gI Cs 100 v_o_text), (q_a1, gI Cs n_a1 v_a1)] sz)) (va_Qi (fun (r : Int32) (u : Int32 × Int32 × (Nat → Int32)) => post r u.1 u.2.1 u.2.2) (gB D (va_A [(q_o, .inr (6, [.int v_o_refusal, .ref q_o_text, .int v_o_size, .ref q_o_now, .ref q_o_trial, .ref q_o_diary, .int v_o_acts, .ref q_o_kept, .ref q_o_isKept, .ref q_o_years, .int v_o_least, .int v_o_origins, .int v_o_ofAll, .int v_o_ofSome, .int v_o_sets, .int v_o_spot, .int v_o_out])), (q_o_text, gI Cs 100 v_o_text), (q_a1, gI Cs n_a1 v_a1)] sz) (fun u : Int32 × Int32 × (Nat → Int32) => [(q_o, .inr (6, [.int v_o_refusal, .ref q_o_text, .int v_o_size, .ref q_o_now, .ref q_o_trial, .ref q_o_diary, .int v_o_acts, .ref q_o_kept, .ref q_o_isKept, .ref q_o_years, .int v_o_least, .int v_o_origins, .int v_o_ofAll, .int v_o_ofSome, .int v_o_sets, .int u.1, .int u.2.1])), (q_o_text, gI Cs 100 v_o_text), (q_a1, gI Cs n_a1 u.2.2)])) (va_A [(q_o, .inr (6, [.int v_o_refusal, .ref q_o_text, .int v_o_size, .ref q_o_now, .ref q_o_trial, .ref q_o_diary, .int v_o_acts, .ref q_o_kept, .ref q_o_isKept, .ref q_o_years, .int v_o_least, .int v_o_origins, .int v_o_ofAll, .int v_o_ofSome, .int v_o_sets, .int v_o_spot, .int v_o_out])), (q_o_text, gI Cs 100 v_o_text), (q_a1, gI Cs n_a1 v_a1)] sz)) 0 0 (va_A [(q_o, .inr (6, [.int v_o_refusal, .ref q_o_text, .int v_o_size, .ref q_o_now, .ref q_o_trial, .ref q_o_diary, .int v_o_acts, .ref q_o_kept, .ref q_o_isKept, .ref q_o_years, .int v_o_least, .int v_o_origins, .int v_o_ofAll, .int v_o_ofSome, .int v_o_sets, .int v_o_spot, .int v_o_out])), (q_o_text, gI Cs 100 v_o_text), (q_a1, gI Cs n_a1 v_a1)] sz) := by
  refine Met.ofW (cc := cX6_readAll) (maxL := 3) (ret := (some .int)) (by decide) rfl ?_
  intro p e s m args below meth c s₁ B hml hv
  obtain ⟨ha, hsz, hP, hK, hD0, hN⟩ := hv
  have hx := B.exec
  have hb := B.bytes
  have hr := B.returns
  have hts := atoms_spec (ws := wsX6_readAll) B.pre
  have htb : ∀ w ∈ TB, w.before args s = true := fun w h9 => hts w (List.mem_cons_of_mem _ h9)
  have hown : s.vm.findClass RX6 = some m.cls := findClass_of_methodNamed B.named
  have hlocks := B.notSynchronized
  subst hsz
  have hD := hD0.self (sz := s.heap.size)
  generalize hAe : va_A [(q_o, .inr (6, [.int v_o_refusal, .ref q_o_text, .int v_o_size, .ref q_o_now, .ref q_o_trial, .ref q_o_diary, .int v_o_acts, .ref q_o_kept, .ref q_o_isKept, .ref q_o_years, .int v_o_least, .int v_o_origins, .int v_o_ofAll, .int v_o_ofSome, .int v_o_sets, .int v_o_spot, .int v_o_out])), (q_o_text, gI Cs 100 v_o_text), (q_a1, gI Cs n_a1 v_a1)] s.heap.size = A at hD ⊢
  have hA : ∀ q : Nat, s.heap.size ≤ q → A q := fun q h9 => by rw [← hAe]; exact Or.inr h9
  obtain ⟨H, hH⟩ : ∃ z : Heap, z = s.heap := ⟨_, rfl⟩
  have hS : va_S A s.heap H [] := by rw [hH]; exact va_S.rf
  have hP : va_P D vwCl [(q_o, .inr (6, [.int v_o_refusal, .ref q_o_text, .int v_o_size, .ref q_o_now, .ref q_o_trial, .ref q_o_diary, .int v_o_acts, .ref q_o_kept, .ref q_o_isKept, .ref q_o_years, .int v_o_least, .int v_o_origins, .int v_o_ofAll, .int v_o_ofSome, .int v_o_sets, .int v_o_spot, .int v_o_out])), (q_o_text, gI Cs 100 v_o_text), (q_a1, gI Cs n_a1 v_a1)] H := by rw [hH]; exact hP
  generalize hQ : MQ below _ args s _ _ _ = Q
  show W p l e ({ frames := 4, cells := 0, slots := 0, locals := 94 } : Room) s m args below meth c s.heap [] 0 0 Q (entryFrame m args 3)
  have hent : entryFrame m args 3 = F0 m 0 ((lg_sl ([.ref q_o, .ref q_a1]) ++ List.replicate (3 - (lg_sl ([.ref q_o, .ref q_a1])).length) Slot.unset).toArray) [] := by rw [ha]; exact lg_entry_eq m ([.ref q_o, .ref q_a1]) 3
  rw [hent]; clear hent
  rw [← hH]
  have hl := lv_entry ([.ref q_o, .ref q_a1]) (n := 3) (Nat.le_of_ble_eq_true rfl)
  generalize (lg_sl ([.ref q_o, .ref q_a1]) ++ List.replicate (3 - (lg_sl ([.ref q_o, .ref q_a1])).length) Slot.unset).toArray = ls at hl ⊢
  have hl : lv_has ls 3 [(0, .ref q_o), (1, .ref q_a1)] := hl
  have B69 : ∀ (H : Heap) (locs : List Loc) (ls : Array Slot) (w_o_spot : Int32) (w_o_out : Int32) (w_a1 : (Nat → Int32)) (s0 : Int32), va_P D vwCl [(q_o, .inr (6, [.int v_o_refusal, .ref q_o_text, .int v_o_size, .ref q_o_now, .ref q_o_trial, .ref q_o_diary, .int v_o_acts, .ref q_o_kept, .ref q_o_isKept, .ref q_o_years, .int v_o_least, .int v_o_origins, .int v_o_ofAll, .int v_o_ofSome, .int v_o_sets, .int w_o_spot, .int w_o_out])), (q_o_text, gI Cs 100 v_o_text), (q_a1, gI Cs n_a1 w_a1)] H → va_D A [(q_o, .inr (6, [.int v_o_refusal, .ref q_o_text, .int v_o_size, .ref q_o_now, .ref q_o_trial, .ref q_o_diary, .int v_o_acts, .ref q_o_kept, .ref q_o_isKept, .ref q_o_years, .int v_o_least, .int v_o_origins, .int v_o_ofAll, .int v_o_ofSome, .int v_o_sets, .int w_o_spot, .int w_o_out])), (q_o_text, gI Cs 100 v_o_text), (q_a1, gI Cs n_a1 w_a1)] → va_S A s.heap H locs → lv_has ls 3 [(0, .ref q_o), (1, .ref q_a1)] → P_X6_readAll_b69 n_a1 v_o_size v_o_spot v_o_out v_o_text v_a1 post w_o_spot w_o_out w_a1 s0 → W p l e ({ frames := 4, cells := 0, slots := 0, locals := 94 } : Room) s m args below meth c H locs 0 0 Q (F0 m 69 ls [.int s0]) := by
    intro H locs ls w_o_spot w_o_out w_a1 s0 hP hD hS hl h
    unfold P_X6_readAll_b69 at h
    rw [← hQ]
    exact gRetI (u := (w_o_spot, w_o_out, w_a1)) hx hb hr rfl h hP hD hS dX6_readAll_69 hlocks
  have L12 : ∀ (n : Nat) (H : Heap) (locs : List Loc) (ls : Array Slot) (w_o_spot : Int32) (w_o_out : Int32) (w_a1 : (Nat → Int32)) (x2 : Int32), va_P D vwCl [(q_o, .inr (6, [.int v_o_refusal, .ref q_o_text, .int v_o_size, .ref q_o_now, .ref q_o_trial, .ref q_o_diary, .int v_o_acts, .ref q_o_kept, .ref q_o_isKept, .ref q_o_years, .int v_o_least, .int v_o_origins, .int v_o_ofAll, .int v_o_ofSome, .int v_o_sets, .int w_o_spot, .int w_o_out])), (q_o_text, gI Cs 100 v_o_text), (q_a1, gI Cs n_a1 w_a1)] H → va_D A [(q_o, .inr (6, [.int v_o_refusal, .ref q_o_text, .int v_o_size, .ref q_o_now, .ref q_o_trial, .ref q_o_diary, .int v_o_acts, .ref q_o_kept, .ref q_o_isKept, .ref q_o_years, .int v_o_least, .int v_o_origins, .int v_o_ofAll, .int v_o_ofSome, .int v_o_sets, .int w_o_spot, .int w_o_out])), (q_o_text, gI Cs 100 v_o_text), (q_a1, gI Cs n_a1 w_a1)] → va_S A s.heap H locs → lv_has ls 3 [(0, .ref q_o), (1, .ref q_a1), (2, .int x2)] → P_X6_readAll_l12 n_a1 v_o_size v_o_spot v_o_out v_o_text v_a1 post n w_o_spot w_o_out w_a1 x2 → W p l e ({ frames := 4, cells := 0, slots := 0, locals := 94 } : Room) s m args below meth c H locs 0 0 Q (F0 m 12 ls []) := by
    intro n12
    induction n12 with
    | zero => intro H locs ls w_o_spot w_o_out w_a1 x2 hP hD hS hl h; exact False.elim h
    | succ n12 ih12 =>
      have B46 : ∀ (H : Heap) (locs : List Loc) (ls : Array Slot) (w_o_spot : Int32) (w_o_out : Int32) (w_a1 : (Nat → Int32)) (s0 : Int32), va_P D vwCl [(q_o, .inr (6, [.int v_o_refusal, .ref q_o_text, .int v_o_size, .ref q_o_now, .ref q_o_trial, .ref q_o_diary, .int v_o_acts, .ref q_o_kept, .ref q_o_isKept, .ref q_o_years, .int v_o_least, .int v_o_origins, .int v_o_ofAll, .int v_o_ofSome, .int v_o_sets, .int w_o_spot, .int w_o_out])), (q_o_text, gI Cs 100 v_o_text), (q_a1, gI Cs n_a1 w_a1)] H → va_D A [(q_o, .inr (6, [.int v_o_refusal, .ref q_o_text, .int v_o_size, .ref q_o_now, .ref q_o_trial, .ref q_o_diary, .int v_o_acts, .ref q_o_kept, .ref q_o_isKept, .ref q_o_years, .int v_o_least, .int v_o_origins, .int v_o_ofAll, .int v_o_ofSome, .int v_o_sets, .int w_o_spot, .int w_o_out])), (q_o_text, gI Cs 100 v_o_text), (q_a1, gI Cs n_a1 w_a1)] → va_S A s.heap H locs → lv_has ls 3 [(0, .ref q_o), (1, .ref q_a1)] → P_X6_readAll_b46 n_a1 v_o_size v_o_spot v_o_out v_o_text v_a1 post (P_X6_readAll_l12 n_a1 v_o_size v_o_spot v_o_out v_o_text v_a1 post n12) w_o_spot w_o_out w_a1 s0 → W p l e ({ frames := 4, cells := 0, slots := 0, locals := 94 } : Room) s m args below meth c H locs 0 0 Q (F0 m 46 ls [.int s0]) := by
        intro H locs ls w_o_spot w_o_out w_a1 s0 hP hD hS hl h
        unfold P_X6_readAll_b46 at h
        refine lv_istore_n (lv' := [(2, .int s0), (0, .ref q_o), (1, .ref q_a1)]) hx hb dX6_readAll_46 rfl hl (by decide) rfl (fun ls hl => ?_)
        refine lv_goto (tgt := 12) hx hb dX6_readAll_47 (by decide) ?_
        exact ih12 _ _ _ w_o_spot w_o_out w_a1 s0 hP hD hS (lv_sub hl [1, 2, 0] rfl) h
      intro H locs ls w_o_spot w_o_out w_a1 x2 hP hD hS hl h
      replace h : P_X6_readAll_b12 n_a1 v_o_size v_o_spot v_o_out v_o_text v_a1 post (P_X6_readAll_l12 n_a1 v_o_size v_o_spot v_o_out v_o_text v_a1 post n12) w_o_spot w_o_out w_a1 x2 := h
      unfold P_X6_readAll_b12 at h
      refine lv_iload_n hx hb dX6_readAll_12 rfl (lv_at hl 2 rfl) ?_
      refine lv_if_eq (tgt := 50) hx hb dX6_readAll_13 (by decide) (fun c_1 => ?_) (fun c_1 => ?_)
      · have h := h.1 c_1
        refine lv_aload_n hx hb dX6_readAll_50 rfl (lv_at hl 0 rfl) ?_
        refine va_get (D := D) (ci := 6) (v := .int w_o_spot) (C := RX6) (T := TX6) (N := 17) hx hb htb inT_X6 hown hK hP 0 rfl rfl 15 (by decide) (htb _ tb_177) (fun _ h9 => h9) rfl dX6_readAll_51 ?_
        refine lv_aload_n hx hb dX6_readAll_54 rfl (lv_at hl 0 rfl) ?_
        refine va_get (D := D) (ci := 6) (v := .int v_o_size) (C := RX6) (T := TX6) (N := 17) hx hb htb inT_X6 hown hK hP 0 rfl rfl 2 (by decide) (htb _ tb_124) (fun _ h9 => h9) rfl dX6_readAll_55 ?_
        refine lv_icmp_ge (tgt := 68) hx hb dX6_readAll_58 (by decide) (fun c_2 => ?_) (fun c_2 => ?_)
        · have h := h.1 c_2
          refine lv_iconst (v := (-1 : Int32)) hx hb dX6_readAll_68 (by decide) ?_
          exact B69 _ _ _ w_o_spot w_o_out w_a1 (-1 : Int32) hP hD hS (lv_sub hl [0, 1] rfl) h
        · have h := h.2 c_2
          refine lv_aload_n hx hb dX6_readAll_61 rfl (lv_at hl 0 rfl) ?_
          refine va_get (D := D) (ci := 6) (v := .int w_o_spot) (C := RX6) (T := TX6) (N := 17) hx hb htb inT_X6 hown hK hP 0 rfl rfl 15 (by decide) (htb _ tb_177) (fun _ h9 => h9) rfl dX6_readAll_62 ?_
          refine lv_goto (tgt := 69) hx hb dX6_readAll_65 (by decide) ?_
          exact B69 _ _ _ w_o_spot w_o_out w_a1 w_o_spot hP hD hS (lv_sub hl [0, 1] rfl) h
      · have h := h.2 c_1
        refine lv_aload_n hx hb dX6_readAll_16 rfl (lv_at hl 0 rfl) ?_
        refine lv_aload_n hx hb dX6_readAll_17 rfl (lv_at hl 1 rfl) ?_
        refine gVM (wr := []) (As := [.ref q_a1]) (rest := []) ⟨hx, hb, hml, hown, htb⟩ hK hP hD hS hA hN [0, 1, 2] [] rfl (by decide) rfl (by decide) (by decide) (c_X6_readReport l D Cs q_o q_a1 q_o_text q_o_now q_o_trial q_o_diary q_o_kept q_o_isKept q_o_years n_a1 H.size v_o_size w_o_spot w_o_out v_o_text w_a1 v_o_refusal v_o_acts v_o_least v_o_origins v_o_ofAll v_o_ofSome v_o_sets h) (cwV 1 htb (TB_v tb_179 tb_180 tb_181 tb_5 (TB_self tb_182)) rfl rfl rfl z_X6_readReport ⟨Nat.le_of_ble_eq_true rfl, Nat.le_of_ble_eq_true rfl⟩) 0 rfl rfl rfl rfl hl.1 rfl (Nat.le_of_ble_eq_true rfl) ⟨Nat.le_of_ble_eq_true rfl, Nat.le_of_ble_eq_true rfl⟩ dX6_readAll_18 (fun r_3 u H locs h hP hD hS => ?_)
        obtain ⟨m_4, m_5, m_6⟩ := u
        try dsimp only at h
        have hP : va_P D vwCl [(q_o, .inr (6, [.int v_o_refusal, .ref q_o_text, .int v_o_size, .ref q_o_now, .ref q_o_trial, .ref q_o_diary, .int v_o_acts, .ref q_o_kept, .ref q_o_isKept, .ref q_o_years, .int v_o_least, .int v_o_origins, .int v_o_ofAll, .int v_o_ofSome, .int v_o_sets, .int m_4, .int m_5])), (q_o_text, gI Cs 100 v_o_text), (q_a1, gI Cs n_a1 m_6)] H := hP
        have hD : va_D A [(q_o, .inr (6, [.int v_o_refusal, .ref q_o_text, .int v_o_size, .ref q_o_now, .ref q_o_trial, .ref q_o_diary, .int v_o_acts, .ref q_o_kept, .ref q_o_isKept, .ref q_o_years, .int v_o_least, .int v_o_origins, .int v_o_ofAll, .int v_o_ofSome, .int v_o_sets, .int m_4, .int m_5])), (q_o_text, gI Cs 100 v_o_text), (q_a1, gI Cs n_a1 m_6)] := hD
        refine lv_if_ne (tgt := 29) hx hb dX6_readAll_21 (by decide) (fun c_7 => ?_) (fun c_7 => ?_)
        · have h := h.2 c_7
          refine lv_aload_n hx hb dX6_readAll_29 rfl (lv_at hl 0 rfl) ?_
          refine lv_bipush (v := (59 : Int32)) hx hb dX6_readAll_30 (by decide) ?_
          refine lv_bipush (v := (59 : Int32)) hx hb dX6_readAll_32 (by decide) ?_
          refine gVM (wr := [(q_a1, gI Cs n_a1 m_6)]) (As := [.int (59 : Int32), .int (59 : Int32)]) (rest := []) ⟨hx, hb, hml, hown, htb⟩ hK hP hD hS hA hN [0, 1] [2] rfl (by decide) rfl (by decide) (by decide) (c_X6_taken l D Cs q_o q_o_text q_o_now q_o_trial q_o_diary q_o_kept q_o_isKept q_o_years H.size v_o_size m_4 v_o_text v_o_refusal v_o_acts v_o_least v_o_origins v_o_ofAll v_o_ofSome v_o_sets m_5 (59 : Int32) (59 : Int32) h) (cwV 2 htb (TB_v tb_183 tb_184 tb_185 tb_5 (TB_self tb_186)) rfl rfl rfl z_X6_taken ⟨Nat.le_of_ble_eq_true rfl, Nat.le_of_ble_eq_true rfl⟩) 0 rfl rfl rfl rfl hl.1 rfl (Nat.le_of_ble_eq_true rfl) ⟨Nat.le_of_ble_eq_true rfl, Nat.le_of_ble_eq_true rfl⟩ dX6_readAll_34 (fun r_8 m_9 H locs h hP hD hS => ?_)
          have hP : va_P D vwCl [(q_a1, gI Cs n_a1 m_6), (q_o, .inr (6, [.int v_o_refusal, .ref q_o_text, .int v_o_size, .ref q_o_now, .ref q_o_trial, .ref q_o_diary, .int v_o_acts, .ref q_o_kept, .ref q_o_isKept, .ref q_o_years, .int v_o_least, .int v_o_origins, .int v_o_ofAll, .int v_o_ofSome, .int v_o_sets, .int m_9, .int m_5])), (q_o_text, gI Cs 100 v_o_text)] H := hP
          have hD : va_D A [(q_a1, gI Cs n_a1 m_6), (q_o, .inr (6, [.int v_o_refusal, .ref q_o_text, .int v_o_size, .ref q_o_now, .ref q_o_trial, .ref q_o_diary, .int v_o_acts, .ref q_o_kept, .ref q_o_isKept, .ref q_o_years, .int v_o_least, .int v_o_origins, .int v_o_ofAll, .int v_o_ofSome, .int v_o_sets, .int m_9, .int m_5])), (q_o_text, gI Cs 100 v_o_text)] := hD
          refine lv_iconst (v := (-1 : Int32)) hx hb dX6_readAll_37 (by decide) ?_
          refine lv_icmp_eq (tgt := 45) hx hb dX6_readAll_38 (by decide) (fun c_10 => ?_) (fun c_10 => ?_)
          · have h := h.1 c_10
            refine lv_iconst (v := (0 : Int32)) hx hb dX6_readAll_45 (by decide) ?_
            exact B46 _ _ _ m_9 m_5 m_6 (0 : Int32) (hP.sub [1, 2, 0] rfl) (hD.sub [1, 2, 0] (by decide) rfl) hS (lv_sub hl [0, 1] rfl) h
          · have h := h.2 c_10
            refine lv_iconst (v := (1 : Int32)) hx hb dX6_readAll_41 (by decide) ?_
            refine lv_goto (tgt := 46) hx hb dX6_readAll_42 (by decide) ?_
            exact B46 _ _ _ m_9 m_5 m_6 (1 : Int32) (hP.sub [1, 2, 0] rfl) (hD.sub [1, 2, 0] (by decide) rfl) hS (lv_sub hl [0, 1] rfl) h
        · have h := h.1 c_7
          refine lv_aload_n hx hb dX6_readAll_24 rfl (lv_at hl 0 rfl) ?_
          refine va_get (D := D) (ci := 6) (v := .int m_4) (C := RX6) (T := TX6) (N := 17) hx hb htb inT_X6 hown hK hP 0 rfl rfl 15 (by decide) (htb _ tb_177) (fun _ h9 => h9) rfl dX6_readAll_25 ?_
          rw [← hQ]
          exact gRetI (u := (m_4, m_5, m_6)) hx hb hr rfl h hP hD hS dX6_readAll_28 hlocks
  unfold P_X6_readAll at h
  refine lv_aload_n hx hb dX6_readAll_0 rfl (lv_at hl 0 rfl) ?_
  refine lv_iconst (v := (0 : Int32)) hx hb dX6_readAll_1 (by decide) ?_
  refine va_put (D := D) (ci := 6) (v := .int (0 : Int32)) (ty := .int) (C := RX6) (T := TX6) (N := 17) hx hb htb inT_X6 tyX6 tyX6_ok nmX6 hown hK hP hD hS 0 rfl rfl 15 (by decide) (htb _ tb_177) (fun _ h9 => h9) rfl (tyX6_ok 15 (by decide)) rfl rfl (Nat.le_of_ble_eq_true rfl) dX6_readAll_2 (fun H locs hP hD hS => ?_)
  have hP : va_P D vwCl [(q_o, .inr (6, [.int v_o_refusal, .ref q_o_text, .int v_o_size, .ref q_o_now, .ref q_o_trial, .ref q_o_diary, .int v_o_acts, .ref q_o_kept, .ref q_o_isKept, .ref q_o_years, .int v_o_least, .int v_o_origins, .int v_o_ofAll, .int v_o_ofSome, .int v_o_sets, .int (0 : Int32), .int v_o_out])), (q_o_text, gI Cs 100 v_o_text), (q_a1, gI Cs n_a1 v_a1)] H := hP
  have hD : va_D A [(q_o, .inr (6, [.int v_o_refusal, .ref q_o_text, .int v_o_size, .ref q_o_now, .ref q_o_trial, .ref q_o_diary, .int v_o_acts, .ref q_o_kept, .ref q_o_isKept, .ref q_o_years, .int v_o_least, .int v_o_origins, .int v_o_ofAll, .int v_o_ofSome, .int v_o_sets, .int (0 : Int32), .int v_o_out])), (q_o_text, gI Cs 100 v_o_text), (q_a1, gI Cs n_a1 v_a1)] := hD
  refine lv_aload_n hx hb dX6_readAll_5 rfl (lv_at hl 0 rfl) ?_
  refine lv_iconst (v := (0 : Int32)) hx hb dX6_readAll_6 (by decide) ?_
  refine va_put (D := D) (ci := 6) (v := .int (0 : Int32)) (ty := .int) (C := RX6) (T := TX6) (N := 17) hx hb htb inT_X6 tyX6 tyX6_ok nmX6 hown hK hP hD hS 0 rfl rfl 16 (by decide) (htb _ tb_178) (fun _ h9 => h9) rfl (tyX6_ok 16 (by decide)) rfl rfl (Nat.le_of_ble_eq_true rfl) dX6_readAll_7 (fun H locs hP hD hS => ?_)
  have hP : va_P D vwCl [(q_o, .inr (6, [.int v_o_refusal, .ref q_o_text, .int v_o_size, .ref q_o_now, .ref q_o_trial, .ref q_o_diary, .int v_o_acts, .ref q_o_kept, .ref q_o_isKept, .ref q_o_years, .int v_o_least, .int v_o_origins, .int v_o_ofAll, .int v_o_ofSome, .int v_o_sets, .int (0 : Int32), .int (0 : Int32)])), (q_o_text, gI Cs 100 v_o_text), (q_a1, gI Cs n_a1 v_a1)] H := hP
  have hD : va_D A [(q_o, .inr (6, [.int v_o_refusal, .ref q_o_text, .int v_o_size, .ref q_o_now, .ref q_o_trial, .ref q_o_diary, .int v_o_acts, .ref q_o_kept, .ref q_o_isKept, .ref q_o_years, .int v_o_least, .int v_o_origins, .int v_o_ofAll, .int v_o_ofSome, .int v_o_sets, .int (0 : Int32), .int (0 : Int32)])), (q_o_text, gI Cs 100 v_o_text), (q_a1, gI Cs n_a1 v_a1)] := hD
  refine lv_iconst (v := (1 : Int32)) hx hb dX6_readAll_10 (by decide) ?_
  refine lv_istore_n (lv' := [(2, .int (1 : Int32)), (0, .ref q_o), (1, .ref q_a1)]) hx hb dX6_readAll_11 rfl hl (by decide) rfl (fun ls hl => ?_)
  obtain ⟨n, h⟩ := h
  exact L12 n _ _ _ (0 : Int32) (0 : Int32) v_a1 (1 : Int32) hP hD hS (lv_sub hl [1, 2, 0] rfl) h
set_option maxHeartbeats 4000000 in
set_option maxRecDepth 100000 in
theorem c_X6_errorPosition (l : Launch) (D : va_G) (Cs : Nat → ClassId) (q_o : Nat) (q_o_text : Nat) (q_o_now : Nat) (q_o_trial : Nat) (q_o_diary : Nat) (q_o_kept : Nat) (q_o_isKept : Nat) (q_o_years : Nat) (sz : Nat) (v_o_refusal : Int32) (v_o_size : Int32) (v_o_spot : Int32) (v_o_out : Int32) (v_o_text : (Nat → Int32)) (v_o_now : (Nat → Int32)) (v_o_trial : (Nat → Int32)) (v_o_acts : Int32) (v_o_least : Int32) (v_o_origins : Int32) (v_o_ofAll : Int32) (v_o_ofSome : Int32) (v_o_sets : Int32) {post : Int32 → Int32 → Int32 → Int32 → (Nat → Int32) → Prop} (h : P_X6_errorPosition v_o_refusal v_o_size v_o_spot v_o_out v_o_text v_o_now v_o_trial post) : Met l yX6_errorPosition wsX6_errorPosition ({ frames := 5, cells := 0, slots := 0, locals := 116 } : Room) (va_Pc [.ref q_o] (gM D Cs [(q_o, .inr (6, [.int v_o_refusal, .ref q_o_text, .int v_o_size, .ref q_o_now, .ref q_o_trial, .ref q_o_diary, .int v_o_acts, .ref q_o_kept, .ref q_o_isKept, .ref q_o_years, .int v_o_least, .int v_o_origins, .int v_o_ofAll, .int v_o_ofSome, .int v_o_sets, .int v_o_spot, .int v_o_out])), (q_o_text, gI Cs 100 v_o_text), (q_o_now, gI Cs 221 v_o_now), (q_o_trial, gI Cs 221 v_o_trial)] sz)) (va_Qi (fun (r : Int32) (u : Int32 × Int32 × Int32 × (Nat → Int32)) => post r u.1 u.2.1 u.2.2.1 u.2.2.2) (gB D (va_A [(q_o, .inr (6, [.int v_o_refusal, .ref q_o_text, .int v_o_size, .ref q_o_now, .ref q_o_trial, .ref q_o_diary, .int v_o_acts, .ref q_o_kept, .ref q_o_isKept, .ref q_o_years, .int v_o_least, .int v_o_origins, .int v_o_ofAll, .int v_o_ofSome, .int v_o_sets, .int v_o_spot, .int v_o_out])), (q_o_text, gI Cs 100 v_o_text), (q_o_now, gI Cs 221 v_o_now), (q_o_trial, gI Cs 221 v_o_trial)] sz) (fun u : Int32 × Int32 × Int32 × (Nat → Int32) => [(q_o, .inr (6, [.int u.1, .ref q_o_text, .int v_o_size, .ref q_o_now, .ref q_o_trial, .ref q_o_diary, .int v_o_acts, .ref q_o_kept, .ref q_o_isKept, .ref q_o_years, .int v_o_least, .int v_o_origins, .int v_o_ofAll, .int v_o_ofSome, .int v_o_sets, .int u.2.1, .int u.2.2.1])), (q_o_text, gI Cs 100 v_o_text), (q_o_now, gI Cs 221 v_o_now), (q_o_trial, gI Cs 221 u.2.2.2)])) (va_A [(q_o, .inr (6, [.int v_o_refusal, .ref q_o_text, .int v_o_size, .ref q_o_now, .ref q_o_trial, .ref q_o_diary, .int v_o_acts, .ref q_o_kept, .ref q_o_isKept, .ref q_o_years, .int v_o_least, .int v_o_origins, .int v_o_ofAll, .int v_o_ofSome, .int v_o_sets, .int v_o_spot, .int v_o_out])), (q_o_text, gI Cs 100 v_o_text), (q_o_now, gI Cs 221 v_o_now), (q_o_trial, gI Cs 221 v_o_trial)] sz)) 0 0 (va_A [(q_o, .inr (6, [.int v_o_refusal, .ref q_o_text, .int v_o_size, .ref q_o_now, .ref q_o_trial, .ref q_o_diary, .int v_o_acts, .ref q_o_kept, .ref q_o_isKept, .ref q_o_years, .int v_o_least, .int v_o_origins, .int v_o_ofAll, .int v_o_ofSome, .int v_o_sets, .int v_o_spot, .int v_o_out])), (q_o_text, gI Cs 100 v_o_text), (q_o_now, gI Cs 221 v_o_now), (q_o_trial, gI Cs 221 v_o_trial)] sz) := by
  refine Met.ofW (cc := cX6_errorPosition) (maxL := 1) (ret := (some .int)) (by decide) rfl ?_
  intro p e s m args below meth c s₁ B hml hv
  obtain ⟨ha, hsz, hP, hK, hD0, hN⟩ := hv
  have hx := B.exec
  have hb := B.bytes
  have hr := B.returns
  have hts := atoms_spec (ws := wsX6_errorPosition) B.pre
  have htb : ∀ w ∈ TB, w.before args s = true := fun w h9 => hts w (List.mem_cons_of_mem _ h9)
  have hown : s.vm.findClass RX6 = some m.cls := findClass_of_methodNamed B.named
  have hlocks := B.notSynchronized
  subst hsz
  have hD := hD0.self (sz := s.heap.size)
  generalize hAe : va_A [(q_o, .inr (6, [.int v_o_refusal, .ref q_o_text, .int v_o_size, .ref q_o_now, .ref q_o_trial, .ref q_o_diary, .int v_o_acts, .ref q_o_kept, .ref q_o_isKept, .ref q_o_years, .int v_o_least, .int v_o_origins, .int v_o_ofAll, .int v_o_ofSome, .int v_o_sets, .int v_o_spot, .int v_o_out])), (q_o_text, gI Cs 100 v_o_text), (q_o_now, gI Cs 221 v_o_now), (q_o_trial, gI Cs 221 v_o_trial)] s.heap.size = A at hD ⊢
  have hA : ∀ q : Nat, s.heap.size ≤ q → A q := fun q h9 => by rw [← hAe]; exact Or.inr h9
  obtain ⟨H, hH⟩ : ∃ z : Heap, z = s.heap := ⟨_, rfl⟩
  have hS : va_S A s.heap H [] := by rw [hH]; exact va_S.rf
  have hP : va_P D vwCl [(q_o, .inr (6, [.int v_o_refusal, .ref q_o_text, .int v_o_size, .ref q_o_now, .ref q_o_trial, .ref q_o_diary, .int v_o_acts, .ref q_o_kept, .ref q_o_isKept, .ref q_o_years, .int v_o_least, .int v_o_origins, .int v_o_ofAll, .int v_o_ofSome, .int v_o_sets, .int v_o_spot, .int v_o_out])), (q_o_text, gI Cs 100 v_o_text), (q_o_now, gI Cs 221 v_o_now), (q_o_trial, gI Cs 221 v_o_trial)] H := by rw [hH]; exact hP
  generalize hQ : MQ below _ args s _ _ _ = Q
  show W p l e ({ frames := 5, cells := 0, slots := 0, locals := 116 } : Room) s m args below meth c s.heap [] 0 0 Q (entryFrame m args 1)
  have hent : entryFrame m args 1 = F0 m 0 ((lg_sl ([.ref q_o]) ++ List.replicate (1 - (lg_sl ([.ref q_o])).length) Slot.unset).toArray) [] := by rw [ha]; exact lg_entry_eq m ([.ref q_o]) 1
  rw [hent]; clear hent
  rw [← hH]
  have hl := lv_entry ([.ref q_o]) (n := 1) (Nat.le_of_ble_eq_true rfl)
  generalize (lg_sl ([.ref q_o]) ++ List.replicate (1 - (lg_sl ([.ref q_o])).length) Slot.unset).toArray = ls at hl ⊢
  have hl : lv_has ls 1 [(0, .ref q_o)] := hl
  unfold P_X6_errorPosition at h
  refine lv_aload_n hx hb dX6_errorPosition_0 rfl (lv_at hl 0 rfl) ?_
  refine lv_iconst (v := (0 : Int32)) hx hb dX6_errorPosition_1 (by decide) ?_
  refine va_put (D := D) (ci := 6) (v := .int (0 : Int32)) (ty := .int) (C := RX6) (T := TX6) (N := 17) hx hb htb inT_X6 tyX6 tyX6_ok nmX6 hown hK hP hD hS 0 rfl rfl 0 (by decide) (htb _ tb_132) (fun _ h9 => h9) rfl (tyX6_ok 0 (by decide)) rfl rfl (Nat.le_of_ble_eq_true rfl) dX6_errorPosition_2 (fun H locs hP hD hS => ?_)
  have hP : va_P D vwCl [(q_o, .inr (6, [.int (0 : Int32), .ref q_o_text, .int v_o_size, .ref q_o_now, .ref q_o_trial, .ref q_o_diary, .int v_o_acts, .ref q_o_kept, .ref q_o_isKept, .ref q_o_years, .int v_o_least, .int v_o_origins, .int v_o_ofAll, .int v_o_ofSome, .int v_o_sets, .int v_o_spot, .int v_o_out])), (q_o_text, gI Cs 100 v_o_text), (q_o_now, gI Cs 221 v_o_now), (q_o_trial, gI Cs 221 v_o_trial)] H := hP
  have hD : va_D A [(q_o, .inr (6, [.int (0 : Int32), .ref q_o_text, .int v_o_size, .ref q_o_now, .ref q_o_trial, .ref q_o_diary, .int v_o_acts, .ref q_o_kept, .ref q_o_isKept, .ref q_o_years, .int v_o_least, .int v_o_origins, .int v_o_ofAll, .int v_o_ofSome, .int v_o_sets, .int v_o_spot, .int v_o_out])), (q_o_text, gI Cs 100 v_o_text), (q_o_now, gI Cs 221 v_o_now), (q_o_trial, gI Cs 221 v_o_trial)] := hD
  refine lv_aload_n hx hb dX6_errorPosition_5 rfl (lv_at hl 0 rfl) ?_
  refine va_get (D := D) (ci := 6) (v := .ref q_o_now) (C := RX6) (T := TX6) (N := 17) hx hb htb inT_X6 hown hK hP 0 rfl rfl 3 (by decide) (htb _ tb_90) (fun _ h9 => h9) rfl dX6_errorPosition_6 ?_
  refine lv_iconst (v := (0 : Int32)) hx hb dX6_errorPosition_9 (by decide) ?_
  refine lv_aload_n hx hb dX6_errorPosition_10 rfl (lv_at hl 0 rfl) ?_
  refine va_get (D := D) (ci := 6) (v := .ref q_o_trial) (C := RX6) (T := TX6) (N := 17) hx hb htb inT_X6 hown hK hP 0 rfl rfl 4 (by decide) (htb _ tb_91) (fun _ h9 => h9) rfl dX6_errorPosition_11 ?_
  refine lv_iconst (v := (0 : Int32)) hx hb dX6_errorPosition_14 (by decide) ?_
  refine gSMv (wr := [(q_o, .inr (6, [.int (0 : Int32), .ref q_o_text, .int v_o_size, .ref q_o_now, .ref q_o_trial, .ref q_o_diary, .int v_o_acts, .ref q_o_kept, .ref q_o_isKept, .ref q_o_years, .int v_o_least, .int v_o_origins, .int v_o_ofAll, .int v_o_ofSome, .int v_o_sets, .int v_o_spot, .int v_o_out])), (q_o_text, gI Cs 100 v_o_text)]) (As := [.ref q_o_now, .int (0 : Int32), .ref q_o_trial, .int (0 : Int32)]) (rest := []) ⟨hx, hb, hml, hown, htb⟩ hK hP hD hS hA hN [2, 3] [0, 1] rfl (by decide) rfl (by decide) (by decide) (c_X6_copyState l D Cs q_o_now q_o_trial 221 221 H.size v_o_now v_o_trial (0 : Int32) (0 : Int32) h) (va_cwS 4 htb (TB_s tb_170 tb_171 tb_5 (TB_self tb_172)) rfl rfl rfl z_X6_copyState.2 ⟨Nat.le_of_ble_eq_true rfl, Nat.le_of_ble_eq_true rfl⟩) rfl hl.1 rfl (Nat.le_of_ble_eq_true rfl) ⟨Nat.le_of_ble_eq_true rfl, Nat.le_of_ble_eq_true rfl⟩ dX6_errorPosition_15 (fun m_2 H locs h hP hD hS => ?_)
  have hP : va_P D vwCl [(q_o, .inr (6, [.int (0 : Int32), .ref q_o_text, .int v_o_size, .ref q_o_now, .ref q_o_trial, .ref q_o_diary, .int v_o_acts, .ref q_o_kept, .ref q_o_isKept, .ref q_o_years, .int v_o_least, .int v_o_origins, .int v_o_ofAll, .int v_o_ofSome, .int v_o_sets, .int v_o_spot, .int v_o_out])), (q_o_text, gI Cs 100 v_o_text), (q_o_now, gI Cs 221 v_o_now), (q_o_trial, gI Cs 221 m_2)] H := hP
  have hD : va_D A [(q_o, .inr (6, [.int (0 : Int32), .ref q_o_text, .int v_o_size, .ref q_o_now, .ref q_o_trial, .ref q_o_diary, .int v_o_acts, .ref q_o_kept, .ref q_o_isKept, .ref q_o_years, .int v_o_least, .int v_o_origins, .int v_o_ofAll, .int v_o_ofSome, .int v_o_sets, .int v_o_spot, .int v_o_out])), (q_o_text, gI Cs 100 v_o_text), (q_o_now, gI Cs 221 v_o_now), (q_o_trial, gI Cs 221 m_2)] := hD
  refine lv_aload_n hx hb dX6_errorPosition_18 rfl (lv_at hl 0 rfl) ?_
  refine lv_aload_n hx hb dX6_errorPosition_19 rfl (lv_at hl 0 rfl) ?_
  refine va_get (D := D) (ci := 6) (v := .ref q_o_trial) (C := RX6) (T := TX6) (N := 17) hx hb htb inT_X6 hown hK hP 0 rfl rfl 4 (by decide) (htb _ tb_91) (fun _ h9 => h9) rfl dX6_errorPosition_20 ?_
  refine gVM (wr := [(q_o_now, gI Cs 221 v_o_now)]) (As := [.ref q_o_trial]) (rest := []) ⟨hx, hb, hml, hown, htb⟩ hK hP hD hS hA hN [0, 1, 3] [2] rfl (by decide) rfl (by decide) (by decide) (c_X6_readAll l D Cs q_o q_o_trial q_o_text q_o_now q_o_trial q_o_diary q_o_kept q_o_isKept q_o_years 221 H.size v_o_size v_o_spot v_o_out v_o_text m_2 (0 : Int32) v_o_acts v_o_least v_o_origins v_o_ofAll v_o_ofSome v_o_sets h) (cwV 1 htb (TB_v tb_173 tb_174 tb_175 tb_5 (TB_self tb_176)) rfl rfl rfl z_X6_readAll ⟨Nat.le_of_ble_eq_true rfl, Nat.le_of_ble_eq_true rfl⟩) 0 rfl rfl rfl rfl hl.1 rfl (Nat.le_of_ble_eq_true rfl) ⟨Nat.le_of_ble_eq_true rfl, Nat.le_of_ble_eq_true rfl⟩ dX6_errorPosition_23 (fun r_3 u H locs h hP hD hS => ?_)
  obtain ⟨m_4, m_5, m_6⟩ := u
  try dsimp only at h
  have hP : va_P D vwCl [(q_o_now, gI Cs 221 v_o_now), (q_o, .inr (6, [.int (0 : Int32), .ref q_o_text, .int v_o_size, .ref q_o_now, .ref q_o_trial, .ref q_o_diary, .int v_o_acts, .ref q_o_kept, .ref q_o_isKept, .ref q_o_years, .int v_o_least, .int v_o_origins, .int v_o_ofAll, .int v_o_ofSome, .int v_o_sets, .int m_4, .int m_5])), (q_o_text, gI Cs 100 v_o_text), (q_o_trial, gI Cs 221 m_6)] H := hP
  have hD : va_D A [(q_o_now, gI Cs 221 v_o_now), (q_o, .inr (6, [.int (0 : Int32), .ref q_o_text, .int v_o_size, .ref q_o_now, .ref q_o_trial, .ref q_o_diary, .int v_o_acts, .ref q_o_kept, .ref q_o_isKept, .ref q_o_years, .int v_o_least, .int v_o_origins, .int v_o_ofAll, .int v_o_ofSome, .int v_o_sets, .int m_4, .int m_5])), (q_o_text, gI Cs 100 v_o_text), (q_o_trial, gI Cs 221 m_6)] := hD
  rw [← hQ]
  exact gRetI (u := ((0 : Int32), m_4, m_5, m_6)) hx hb hr rfl h (hP.sub [1, 2, 0, 3] rfl) (hD.sub [1, 2, 0, 3] (by decide) rfl) hS dX6_errorPosition_26 hlocks
set_option maxHeartbeats 4000000 in
set_option maxRecDepth 100000 in
theorem c_X6_countPairs (l : Launch) (D : va_G) (Cs : Nat → ClassId) (q_o : Nat) (q_o_text : Nat) (q_o_now : Nat) (q_o_trial : Nat) (q_o_diary : Nat) (q_o_kept : Nat) (q_o_isKept : Nat) (q_o_years : Nat) (v_o_now : (Nat → Int32)) (v_o_refusal : Int32) (v_o_size : Int32) (v_o_acts : Int32) (v_o_least : Int32) (v_o_origins : Int32) (v_o_ofAll : Int32) (v_o_ofSome : Int32) (v_o_sets : Int32) (v_o_spot : Int32) (v_o_out : Int32) (x1 : Int32) {post : Int32 → Prop} (h : P_X6_countPairs v_o_now x1 post) : Met l yX6_countPairs wsX6_countPairs ({ frames := 2, cells := 0, slots := 0, locals := 43 } : Room) (va_Pc [.ref q_o, .int x1] (gR D Cs [(q_o, .inr (6, [.int v_o_refusal, .ref q_o_text, .int v_o_size, .ref q_o_now, .ref q_o_trial, .ref q_o_diary, .int v_o_acts, .ref q_o_kept, .ref q_o_isKept, .ref q_o_years, .int v_o_least, .int v_o_origins, .int v_o_ofAll, .int v_o_ofSome, .int v_o_sets, .int v_o_spot, .int v_o_out])), (q_o_now, gI Cs 221 v_o_now)])) (vp_Si post) 0 0 (fun _ => False) := by
  refine Met.ofW (cc := cX6_countPairs) (maxL := 6) (ret := (some .int)) (by decide) rfl ?_
  intro p e s m args below meth c s₁ B hml hv
  obtain ⟨ha, hP, hK, hN⟩ := hv
  have hx := B.exec
  have hb := B.bytes
  have hr := B.returns
  have hts := atoms_spec (ws := wsX6_countPairs) B.pre
  have htb : ∀ w ∈ TB, w.before args s = true := fun w h9 => hts w (List.mem_cons_of_mem _ h9)
  have hown : s.vm.findClass RX6 = some m.cls := findClass_of_methodNamed B.named
  have hlocks := B.notSynchronized
  generalize hQ : MQ below _ args s _ _ _ = Q
  show W p l e ({ frames := 2, cells := 0, slots := 0, locals := 43 } : Room) s m args below meth c s.heap [] 0 0 Q (entryFrame m args 6)
  have hent : entryFrame m args 6 = F0 m 0 ((lg_sl ([.ref q_o, .int x1]) ++ List.replicate (6 - (lg_sl ([.ref q_o, .int x1])).length) Slot.unset).toArray) [] := by rw [ha]; exact lg_entry_eq m ([.ref q_o, .int x1]) 6
  rw [hent]; clear hent
  have hl := lv_entry ([.ref q_o, .int x1]) (n := 6) (Nat.le_of_ble_eq_true rfl)
  generalize (lg_sl ([.ref q_o, .int x1]) ++ List.replicate (6 - (lg_sl ([.ref q_o, .int x1])).length) Slot.unset).toArray = ls at hl ⊢
  have hl : lv_has ls 6 [(0, .ref q_o), (1, .int x1)] := hl
  have L4 : ∀ (n : Nat) (ls : Array Slot) (x2 : Int32) (x3 : Int32), lv_has ls 6 [(0, .ref q_o), (1, .int x1), (2, .int x2), (3, .int x3)] → P_X6_countPairs_l4 v_o_now x1 post n x2 x3 → W p l e ({ frames := 2, cells := 0, slots := 0, locals := 43 } : Room) s m args below meth c s.heap [] 0 0 Q (F0 m 4 ls []) := by
    intro n4
    induction n4 with
    | zero => intro ls x2 x3 hl h; exact False.elim h
    | succ n4 ih4 =>
      have L17 : ∀ (n : Nat) (ls : Array Slot) (x2 : Int32) (x3 : Int32) (x4 : Int32), lv_has ls 6 [(0, .ref q_o), (1, .int x1), (2, .int x2), (3, .int x3), (4, .int x4)] → P_X6_countPairs_l17 v_o_now x1 post (P_X6_countPairs_l4 v_o_now x1 post n4) n x2 x3 x4 → W p l e ({ frames := 2, cells := 0, slots := 0, locals := 43 } : Room) s m args below meth c s.heap [] 0 0 Q (F0 m 17 ls []) := by
        intro n17
        induction n17 with
        | zero => intro ls x2 x3 x4 hl h; exact False.elim h
        | succ n17 ih17 =>
          have B95 : ∀ (ls : Array Slot) (x3 : Int32) (x4 : Int32) (s0 : Int32) (s1 : Int32), lv_has ls 6 [(0, .ref q_o), (1, .int x1), (3, .int x3), (4, .int x4)] → P_X6_countPairs_b95 v_o_now x1 post (P_X6_countPairs_l4 v_o_now x1 post n4) (P_X6_countPairs_l17 v_o_now x1 post (P_X6_countPairs_l4 v_o_now x1 post n4) n17) x3 x4 s0 s1 → W p l e ({ frames := 2, cells := 0, slots := 0, locals := 43 } : Room) s m args below meth c s.heap [] 0 0 Q (F0 m 95 ls [.int s1, .int s0]) := by
            intro ls x3 x4 s0 s1 hl h
            unfold P_X6_countPairs_b95 at h
            refine lv_iadd hx hb dX6_countPairs_95 ?_
            refine lv_topi (fun x2_1 ex2_1 => ?_)
            have h := h _ ex2_1
            refine lv_istore_n (lv' := [(2, .int x2_1), (0, .ref q_o), (1, .int x1), (3, .int x3), (4, .int x4)]) hx hb dX6_countPairs_96 rfl hl (by decide) rfl (fun ls hl => ?_)
            obtain ⟨x4_2, ex4_2⟩ : ∃ y : Int32, y = x4 + (1 : Int32) := ⟨_, rfl⟩
            have h := h _ ex4_2
            refine lv_iinc (v := x4_2) (lv' := [(4, .int x4_2), (2, .int x2_1), (0, .ref q_o), (1, .int x1), (3, .int x3)]) hx hb dX6_countPairs_97 hl (k := 4) rfl (by rw [ex4_2]; rfl) (by decide) rfl (fun ls hl => ?_)
            refine lv_goto (tgt := 17) hx hb dX6_countPairs_100 (by decide) ?_
            exact ih17 _ x2_1 x3 x4_2 (lv_sub hl [2, 3, 1, 4, 0] rfl) h
          have B90 : ∀ (ls : Array Slot) (x3 : Int32) (x4 : Int32) (s0 : Int32), lv_has ls 6 [(0, .ref q_o), (1, .int x1), (3, .int x3), (4, .int x4)] → P_X6_countPairs_b90 v_o_now x1 post (P_X6_countPairs_l4 v_o_now x1 post n4) (P_X6_countPairs_l17 v_o_now x1 post (P_X6_countPairs_l4 v_o_now x1 post n4) n17) x3 x4 s0 → W p l e ({ frames := 2, cells := 0, slots := 0, locals := 43 } : Room) s m args below meth c s.heap [] 0 0 Q (F0 m 90 ls [.int s0]) := by
            intro ls x3 x4 s0 hl h
            unfold P_X6_countPairs_b90 at h
            refine lv_iconst (v := (1 : Int32)) hx hb dX6_countPairs_90 (by decide) ?_
            refine lv_goto (tgt := 95) hx hb dX6_countPairs_91 (by decide) ?_
            exact B95 _ x3 x4 s0 (1 : Int32) (lv_sub hl [0, 1, 2, 3] rfl) h
          have B94 : ∀ (ls : Array Slot) (x3 : Int32) (x4 : Int32) (s0 : Int32), lv_has ls 6 [(0, .ref q_o), (1, .int x1), (3, .int x3), (4, .int x4)] → P_X6_countPairs_b94 v_o_now x1 post (P_X6_countPairs_l4 v_o_now x1 post n4) (P_X6_countPairs_l17 v_o_now x1 post (P_X6_countPairs_l4 v_o_now x1 post n4) n17) x3 x4 s0 → W p l e ({ frames := 2, cells := 0, slots := 0, locals := 43 } : Room) s m args below meth c s.heap [] 0 0 Q (F0 m 94 ls [.int s0]) := by
            intro ls x3 x4 s0 hl h
            unfold P_X6_countPairs_b94 at h
            refine lv_iconst (v := (0 : Int32)) hx hb dX6_countPairs_94 (by decide) ?_
            exact B95 _ x3 x4 s0 (0 : Int32) (lv_sub hl [0, 1, 2, 3] rfl) h
          have B62 : ∀ (ls : Array Slot) (x2 : Int32) (x3 : Int32) (x4 : Int32) (s0 : Int32), lv_has ls 6 [(0, .ref q_o), (1, .int x1), (2, .int x2), (3, .int x3), (4, .int x4)] → P_X6_countPairs_b62 v_o_now x1 post (P_X6_countPairs_l4 v_o_now x1 post n4) (P_X6_countPairs_l17 v_o_now x1 post (P_X6_countPairs_l4 v_o_now x1 post n4) n17) x2 x3 x4 s0 → W p l e ({ frames := 2, cells := 0, slots := 0, locals := 43 } : Room) s m args below meth c s.heap [] 0 0 Q (F0 m 62 ls [.int s0]) := by
            intro ls x2 x3 x4 s0 hl h
            unfold P_X6_countPairs_b62 at h
            refine lv_istore (lv' := [(5, .int s0), (0, .ref q_o), (1, .int x1), (2, .int x2), (3, .int x3), (4, .int x4)]) hx hb dX6_countPairs_62 hl (by decide) rfl (fun ls hl => ?_)
            refine lv_iload_n hx hb dX6_countPairs_64 rfl (lv_at hl 3 rfl) ?_
            refine lv_iload_n hx hb dX6_countPairs_65 rfl (lv_at hl 2 rfl) ?_
            refine lv_if_eq (tgt := 85) hx hb dX6_countPairs_66 (by decide) (fun c_3 => ?_) (fun c_3 => ?_)
            · have h := h.1 c_3
              refine lv_iload hx hb dX6_countPairs_85 (lv_at hl 0 rfl) ?_
              refine lv_if_eq (tgt := 94) hx hb dX6_countPairs_87 (by decide) (fun c_4 => ?_) (fun c_4 => ?_)
              · have h := h.1 c_4
                exact B94 _ x3 x4 x2 (lv_sub hl [1, 2, 4, 5] rfl) h
              · have h := h.2 c_4
                exact B90 _ x3 x4 x2 (lv_sub hl [1, 2, 4, 5] rfl) h
            · have h := h.2 c_3
              refine lv_aload_n hx hb dX6_countPairs_69 rfl (lv_at hl 1 rfl) ?_
              refine va_get (D := D) (ci := 6) (v := .ref q_o_now) (C := RX6) (T := TX6) (N := 17) hx hb htb inT_X6 hown hK hP 0 rfl rfl 3 (by decide) (htb _ tb_90) (fun _ h9 => h9) rfl dX6_countPairs_70 ?_
              refine lv_iload_n hx hb dX6_countPairs_73 rfl (lv_at hl 4 rfl) ?_
              refine lv_iload hx hb dX6_countPairs_74 (lv_at hl 5 rfl) ?_
              refine gSR (As := [.ref q_o_now, .int x3, .int x4]) (rest := [.int x2]) ⟨hx, hb, hml, hown, htb⟩ hK hP hN [1] rfl (c_X6_areAgainst l D Cs q_o_now 221 v_o_now x3 x4 h) (va_cwS 3 htb (TB_s tb_334 tb_335 tb_5 (TB_self tb_336)) rfl rfl rfl z_X6_areAgainst.2 ⟨Nat.le_of_ble_eq_true rfl, Nat.le_of_ble_eq_true rfl⟩) rfl hl.1 rfl (Nat.le_of_ble_eq_true rfl) ⟨Nat.le_of_ble_eq_true rfl, Nat.le_of_ble_eq_true rfl⟩ dX6_countPairs_76 (fun r_5 h => ?_)
              refine lv_if_eq (tgt := 94) hx hb dX6_countPairs_79 (by decide) (fun c_6 => ?_) (fun c_6 => ?_)
              · have h := h.1 c_6
                exact B94 _ x3 x4 x2 (lv_sub hl [1, 2, 4, 5] rfl) h
              · have h := h.2 c_6
                refine lv_goto (tgt := 90) hx hb dX6_countPairs_82 (by decide) ?_
                exact B90 _ x3 x4 x2 (lv_sub hl [1, 2, 4, 5] rfl) h
          intro ls x2 x3 x4 hl h
          replace h : P_X6_countPairs_b17 v_o_now x1 post (P_X6_countPairs_l4 v_o_now x1 post n4) (P_X6_countPairs_l17 v_o_now x1 post (P_X6_countPairs_l4 v_o_now x1 post n4) n17) x2 x3 x4 := h
          unfold P_X6_countPairs_b17 at h
          refine lv_iload hx hb dX6_countPairs_17 (lv_at hl 4 rfl) ?_
          refine lv_bipush (v := (6 : Int32)) hx hb dX6_countPairs_19 (by decide) ?_
          refine lv_icmp_ge (tgt := 103) hx hb dX6_countPairs_21 (by decide) (fun c_7 => ?_) (fun c_7 => ?_)
          · have h := h.1 c_7
            obtain ⟨x3_8, ex3_8⟩ : ∃ y : Int32, y = x3 + (1 : Int32) := ⟨_, rfl⟩
            have h := h _ ex3_8
            refine lv_iinc (v := x3_8) (lv' := [(3, .int x3_8), (0, .ref q_o), (1, .int x1), (2, .int x2), (4, .int x4)]) hx hb dX6_countPairs_103 hl (k := 3) rfl (by rw [ex3_8]; rfl) (by decide) rfl (fun ls hl => ?_)
            refine lv_goto (tgt := 4) hx hb dX6_countPairs_106 (by decide) ?_
            exact ih4 _ x2 x3_8 (lv_sub hl [1, 2, 3, 0] rfl) h
          · have h := h.2 c_7
            refine lv_aload_n hx hb dX6_countPairs_24 rfl (lv_at hl 0 rfl) ?_
            refine va_get (D := D) (ci := 6) (v := .ref q_o_now) (C := RX6) (T := TX6) (N := 17) hx hb htb inT_X6 hown hK hP 0 rfl rfl 3 (by decide) (htb _ tb_90) (fun _ h9 => h9) rfl dX6_countPairs_25 ?_
            refine lv_bipush (v := (101 : Int32)) hx hb dX6_countPairs_28 (by decide) ?_
            refine lv_iload_n hx hb dX6_countPairs_30 rfl (lv_at hl 3 rfl) ?_
            refine lv_iload hx hb dX6_countPairs_31 (lv_at hl 4 rfl) ?_
            refine gSR (As := [.int x3, .int x4]) (rest := [.int (101 : Int32), .ref q_o_now]) ⟨hx, hb, hml, hown, htb⟩ hK hP hN [] rfl (c_X6_at l D Cs x3 x4 h) (va_cwS 2 htb (TB_s tb_203 tb_204 tb_5 (TB_self tb_205)) rfl rfl rfl z_X6_at.2 ⟨Nat.le_of_ble_eq_true rfl, Nat.le_of_ble_eq_true rfl⟩) rfl hl.1 rfl (Nat.le_of_ble_eq_true rfl) ⟨Nat.le_of_ble_eq_true rfl, Nat.le_of_ble_eq_true rfl⟩ dX6_countPairs_33 (fun r_9 h => ?_)
            refine lv_iadd hx hb dX6_countPairs_36 ?_
            obtain ⟨hi_10, h⟩ := h
            refine va_iald hx hb hK hP 1 0 rfl rfl hi_10 dX6_countPairs_37 ?_
            refine lv_aload_n hx hb dX6_countPairs_38 rfl (lv_at hl 0 rfl) ?_
            refine va_get (D := D) (ci := 6) (v := .ref q_o_now) (C := RX6) (T := TX6) (N := 17) hx hb htb inT_X6 hown hK hP 0 rfl rfl 3 (by decide) (htb _ tb_90) (fun _ h9 => h9) rfl dX6_countPairs_39 ?_
            refine lv_sipush (v := (161 : Int32)) hx hb dX6_countPairs_42 (by decide) ?_
            refine lv_iload_n hx hb dX6_countPairs_45 rfl (lv_at hl 3 rfl) ?_
            refine lv_iload hx hb dX6_countPairs_46 (lv_at hl 4 rfl) ?_
            refine gSR (As := [.int x3, .int x4]) (rest := [.int (161 : Int32), .ref q_o_now, .int (v_o_now ((101 : Int32) + r_9).toNatClampNeg)]) ⟨hx, hb, hml, hown, htb⟩ hK hP hN [] rfl (c_X6_at l D Cs x3 x4 h) (va_cwS 2 htb (TB_s tb_203 tb_204 tb_5 (TB_self tb_205)) rfl rfl rfl z_X6_at.2 ⟨Nat.le_of_ble_eq_true rfl, Nat.le_of_ble_eq_true rfl⟩) rfl hl.1 rfl (Nat.le_of_ble_eq_true rfl) ⟨Nat.le_of_ble_eq_true rfl, Nat.le_of_ble_eq_true rfl⟩ dX6_countPairs_48 (fun r_11 h => ?_)
            refine lv_iadd hx hb dX6_countPairs_51 ?_
            obtain ⟨hi_12, h⟩ := h
            refine va_iald hx hb hK hP 1 0 rfl rfl hi_12 dX6_countPairs_52 ?_
            refine lv_iadd hx hb dX6_countPairs_53 ?_
            refine lv_if_le (tgt := 61) hx hb dX6_countPairs_54 (by decide) (fun c_13 => ?_) (fun c_13 => ?_)
            · have h := h.1 c_13
              refine lv_iconst (v := (0 : Int32)) hx hb dX6_countPairs_61 (by decide) ?_
              exact B62 _ x2 x3 x4 (0 : Int32) (lv_sub hl [0, 1, 2, 3, 4] rfl) h
            · have h := h.2 c_13
              refine lv_iconst (v := (1 : Int32)) hx hb dX6_countPairs_57 (by decide) ?_
              refine lv_goto (tgt := 62) hx hb dX6_countPairs_58 (by decide) ?_
              exact B62 _ x2 x3 x4 (1 : Int32) (lv_sub hl [0, 1, 2, 3, 4] rfl) h
      intro ls x2 x3 hl h
      replace h : P_X6_countPairs_b4 v_o_now x1 post (P_X6_countPairs_l4 v_o_now x1 post n4) x2 x3 := h
      unfold P_X6_countPairs_b4 at h
      refine lv_iload_n hx hb dX6_countPairs_4 rfl (lv_at hl 3 rfl) ?_
      refine lv_aload_n hx hb dX6_countPairs_5 rfl (lv_at hl 0 rfl) ?_
      refine va_get (D := D) (ci := 6) (v := .ref q_o_now) (C := RX6) (T := TX6) (N := 17) hx hb htb inT_X6 hown hK hP 0 rfl rfl 3 (by decide) (htb _ tb_90) (fun _ h9 => h9) rfl dX6_countPairs_6 ?_
      refine lv_iconst (v := (0 : Int32)) hx hb dX6_countPairs_9 (by decide) ?_
      refine va_iald hx hb hK hP 1 0 rfl rfl (by unfold vp_in; decide) dX6_countPairs_10 ?_
      refine lv_icmp_ge (tgt := 109) hx hb dX6_countPairs_11 (by decide) (fun c_14 => ?_) (fun c_14 => ?_)
      · have h := h.1 c_14
        refine lv_iload_n hx hb dX6_countPairs_109 rfl (lv_at hl 2 rfl) ?_
        rw [← hQ]
        exact gRetR hx hb hr rfl h dX6_countPairs_110 hlocks
      · have h := h.2 c_14
        refine lv_iconst (v := (0 : Int32)) hx hb dX6_countPairs_14 (by decide) ?_
        refine lv_istore (lv' := [(4, .int (0 : Int32)), (0, .ref q_o), (1, .int x1), (2, .int x2), (3, .int x3)]) hx hb dX6_countPairs_15 hl (by decide) rfl (fun ls hl => ?_)
        obtain ⟨n, h⟩ := h
        exact L17 n _ x2 x3 (0 : Int32) (lv_sub hl [1, 2, 3, 4, 0] rfl) h
  unfold P_X6_countPairs at h
  refine lv_iconst (v := (0 : Int32)) hx hb dX6_countPairs_0 (by decide) ?_
  refine lv_istore_n (lv' := [(2, .int (0 : Int32)), (0, .ref q_o), (1, .int x1)]) hx hb dX6_countPairs_1 rfl hl (by decide) rfl (fun ls hl => ?_)
  refine lv_iconst (v := (0 : Int32)) hx hb dX6_countPairs_2 (by decide) ?_
  refine lv_istore_n (lv' := [(3, .int (0 : Int32)), (2, .int (0 : Int32)), (0, .ref q_o), (1, .int x1)]) hx hb dX6_countPairs_3 rfl hl (by decide) rfl (fun ls hl => ?_)
  obtain ⟨n, h⟩ := h
  exact L4 n _ (0 : Int32) (0 : Int32) (lv_sub hl [2, 3, 1, 0] rfl) h
set_option maxHeartbeats 4000000 in
set_option maxRecDepth 100000 in
theorem c_X6_traitsInvented (l : Launch) (D : va_G) (Cs : Nat → ClassId) (q_o : Nat) (q_o_text : Nat) (q_o_now : Nat) (q_o_trial : Nat) (q_o_diary : Nat) (q_o_kept : Nat) (q_o_isKept : Nat) (q_o_years : Nat) (sz : Nat) (b_o : BM) (v_o_now : (Nat → Int32)) (v_o_refusal : Int32) (v_o_size : Int32) (v_o_acts : Int32) (v_o_spot : Int32) (v_o_out : Int32) {post : Int32 → BM → Prop} (h : P_X6_traitsInvented b_o v_o_now post) : Met l yX6_traitsInvented wsX6_traitsInvented ({ frames := 4, cells := 0, slots := 0, locals := 95 } : Room) (va_Pc [.ref q_o] (gM D Cs [(q_o, .inr (6, [.int v_o_refusal, .ref q_o_text, .int v_o_size, .ref q_o_now, .ref q_o_trial, .ref q_o_diary, .int v_o_acts, .ref q_o_kept, .ref q_o_isKept, .ref q_o_years, .int b_o.1, .int b_o.2.1, .int b_o.2.2.1, .int b_o.2.2.2.1, .int b_o.2.2.2.2.1, .int v_o_spot, .int v_o_out])), (q_o_now, gI Cs 221 v_o_now), (q_o_years, gI Cs 10 b_o.2.2.2.2.2)] sz)) (va_Qi (fun (r : Int32) (u : BM) => post r u) (gB D (va_A [(q_o, .inr (6, [.int v_o_refusal, .ref q_o_text, .int v_o_size, .ref q_o_now, .ref q_o_trial, .ref q_o_diary, .int v_o_acts, .ref q_o_kept, .ref q_o_isKept, .ref q_o_years, .int b_o.1, .int b_o.2.1, .int b_o.2.2.1, .int b_o.2.2.2.1, .int b_o.2.2.2.2.1, .int v_o_spot, .int v_o_out])), (q_o_now, gI Cs 221 v_o_now), (q_o_years, gI Cs 10 b_o.2.2.2.2.2)] sz) (fun u : BM => [(q_o, .inr (6, [.int v_o_refusal, .ref q_o_text, .int v_o_size, .ref q_o_now, .ref q_o_trial, .ref q_o_diary, .int v_o_acts, .ref q_o_kept, .ref q_o_isKept, .ref q_o_years, .int u.1, .int u.2.1, .int u.2.2.1, .int u.2.2.2.1, .int u.2.2.2.2.1, .int v_o_spot, .int v_o_out])), (q_o_now, gI Cs 221 v_o_now), (q_o_years, gI Cs 10 u.2.2.2.2.2)])) (va_A [(q_o, .inr (6, [.int v_o_refusal, .ref q_o_text, .int v_o_size, .ref q_o_now, .ref q_o_trial, .ref q_o_diary, .int v_o_acts, .ref q_o_kept, .ref q_o_isKept, .ref q_o_years, .int b_o.1, .int b_o.2.1, .int b_o.2.2.1, .int b_o.2.2.2.1, .int b_o.2.2.2.2.1, .int v_o_spot, .int v_o_out])), (q_o_now, gI Cs 221 v_o_now), (q_o_years, gI Cs 10 b_o.2.2.2.2.2)] sz)) 0 0 (va_A [(q_o, .inr (6, [.int v_o_refusal, .ref q_o_text, .int v_o_size, .ref q_o_now, .ref q_o_trial, .ref q_o_diary, .int v_o_acts, .ref q_o_kept, .ref q_o_isKept, .ref q_o_years, .int b_o.1, .int b_o.2.1, .int b_o.2.2.1, .int b_o.2.2.2.1, .int b_o.2.2.2.2.1, .int v_o_spot, .int v_o_out])), (q_o_now, gI Cs 221 v_o_now), (q_o_years, gI Cs 10 b_o.2.2.2.2.2)] sz) := by
  refine Met.ofW (cc := cX6_traitsInvented) (maxL := 3) (ret := (some .int)) (by decide) rfl ?_
  intro p e s m args below meth c s₁ B hml hv
  obtain ⟨ha, hsz, hP, hK, hD0, hN⟩ := hv
  have hx := B.exec
  have hb := B.bytes
  have hr := B.returns
  have hts := atoms_spec (ws := wsX6_traitsInvented) B.pre
  have htb : ∀ w ∈ TB, w.before args s = true := fun w h9 => hts w (List.mem_cons_of_mem _ h9)
  have hown : s.vm.findClass RX6 = some m.cls := findClass_of_methodNamed B.named
  have hlocks := B.notSynchronized
  subst hsz
  have hD := hD0.self (sz := s.heap.size)
  generalize hAe : va_A [(q_o, .inr (6, [.int v_o_refusal, .ref q_o_text, .int v_o_size, .ref q_o_now, .ref q_o_trial, .ref q_o_diary, .int v_o_acts, .ref q_o_kept, .ref q_o_isKept, .ref q_o_years, .int b_o.1, .int b_o.2.1, .int b_o.2.2.1, .int b_o.2.2.2.1, .int b_o.2.2.2.2.1, .int v_o_spot, .int v_o_out])), (q_o_now, gI Cs 221 v_o_now), (q_o_years, gI Cs 10 b_o.2.2.2.2.2)] s.heap.size = A at hD ⊢
  have hA : ∀ q : Nat, s.heap.size ≤ q → A q := fun q h9 => by rw [← hAe]; exact Or.inr h9
  obtain ⟨H, hH⟩ : ∃ z : Heap, z = s.heap := ⟨_, rfl⟩
  have hS : va_S A s.heap H [] := by rw [hH]; exact va_S.rf
  have hP : va_P D vwCl [(q_o, .inr (6, [.int v_o_refusal, .ref q_o_text, .int v_o_size, .ref q_o_now, .ref q_o_trial, .ref q_o_diary, .int v_o_acts, .ref q_o_kept, .ref q_o_isKept, .ref q_o_years, .int b_o.1, .int b_o.2.1, .int b_o.2.2.1, .int b_o.2.2.2.1, .int b_o.2.2.2.2.1, .int v_o_spot, .int v_o_out])), (q_o_now, gI Cs 221 v_o_now), (q_o_years, gI Cs 10 b_o.2.2.2.2.2)] H := by rw [hH]; exact hP
  generalize hQ : MQ below _ args s _ _ _ = Q
  show W p l e ({ frames := 4, cells := 0, slots := 0, locals := 95 } : Room) s m args below meth c s.heap [] 0 0 Q (entryFrame m args 3)
  have hent : entryFrame m args 3 = F0 m 0 ((lg_sl ([.ref q_o]) ++ List.replicate (3 - (lg_sl ([.ref q_o])).length) Slot.unset).toArray) [] := by rw [ha]; exact lg_entry_eq m ([.ref q_o]) 3
  rw [hent]; clear hent
  rw [← hH]
  have hl := lv_entry ([.ref q_o]) (n := 3) (Nat.le_of_ble_eq_true rfl)
  generalize (lg_sl ([.ref q_o]) ++ List.replicate (3 - (lg_sl ([.ref q_o])).length) Slot.unset).toArray = ls at hl ⊢
  have hl : lv_has ls 3 [(0, .ref q_o)] := hl
  have L4 : ∀ (n : Nat) (H : Heap) (locs : List Loc) (ls : Array Slot) (d_o : BM) (x1 : Int32) (x2 : Int32), va_P D vwCl [(q_o, .inr (6, [.int v_o_refusal, .ref q_o_text, .int v_o_size, .ref q_o_now, .ref q_o_trial, .ref q_o_diary, .int v_o_acts, .ref q_o_kept, .ref q_o_isKept, .ref q_o_years, .int d_o.1, .int d_o.2.1, .int d_o.2.2.1, .int d_o.2.2.2.1, .int d_o.2.2.2.2.1, .int v_o_spot, .int v_o_out])), (q_o_now, gI Cs 221 v_o_now), (q_o_years, gI Cs 10 d_o.2.2.2.2.2)] H → va_D A [(q_o, .inr (6, [.int v_o_refusal, .ref q_o_text, .int v_o_size, .ref q_o_now, .ref q_o_trial, .ref q_o_diary, .int v_o_acts, .ref q_o_kept, .ref q_o_isKept, .ref q_o_years, .int d_o.1, .int d_o.2.1, .int d_o.2.2.1, .int d_o.2.2.2.1, .int d_o.2.2.2.2.1, .int v_o_spot, .int v_o_out])), (q_o_now, gI Cs 221 v_o_now), (q_o_years, gI Cs 10 d_o.2.2.2.2.2)] → va_S A s.heap H locs → lv_has ls 3 [(0, .ref q_o), (1, .int x1), (2, .int x2)] → P_X6_traitsInvented_l4 b_o v_o_now post n d_o x1 x2 → W p l e ({ frames := 4, cells := 0, slots := 0, locals := 95 } : Room) s m args below meth c H locs 0 0 Q (F0 m 4 ls []) := by
    intro n4
    induction n4 with
    | zero => intro H locs ls d_o x1 x2 hP hD hS hl h; exact False.elim h
    | succ n4 ih4 =>
      have B32 : ∀ (H : Heap) (locs : List Loc) (ls : Array Slot) (d_o : BM) (x2 : Int32) (s0 : Int32) (s1 : Int32), va_P D vwCl [(q_o, .inr (6, [.int v_o_refusal, .ref q_o_text, .int v_o_size, .ref q_o_now, .ref q_o_trial, .ref q_o_diary, .int v_o_acts, .ref q_o_kept, .ref q_o_isKept, .ref q_o_years, .int d_o.1, .int d_o.2.1, .int d_o.2.2.1, .int d_o.2.2.2.1, .int d_o.2.2.2.2.1, .int v_o_spot, .int v_o_out])), (q_o_now, gI Cs 221 v_o_now), (q_o_years, gI Cs 10 d_o.2.2.2.2.2)] H → va_D A [(q_o, .inr (6, [.int v_o_refusal, .ref q_o_text, .int v_o_size, .ref q_o_now, .ref q_o_trial, .ref q_o_diary, .int v_o_acts, .ref q_o_kept, .ref q_o_isKept, .ref q_o_years, .int d_o.1, .int d_o.2.1, .int d_o.2.2.1, .int d_o.2.2.2.1, .int d_o.2.2.2.2.1, .int v_o_spot, .int v_o_out])), (q_o_now, gI Cs 221 v_o_now), (q_o_years, gI Cs 10 d_o.2.2.2.2.2)] → va_S A s.heap H locs → lv_has ls 3 [(0, .ref q_o), (2, .int x2)] → P_X6_traitsInvented_b32 b_o v_o_now post (P_X6_traitsInvented_l4 b_o v_o_now post n4) d_o x2 s0 s1 → W p l e ({ frames := 4, cells := 0, slots := 0, locals := 95 } : Room) s m args below meth c H locs 0 0 Q (F0 m 32 ls [.int s1, .int s0]) := by
        intro H locs ls d_o x2 s0 s1 hP hD hS hl h
        unfold P_X6_traitsInvented_b32 at h
        refine lv_iadd hx hb dX6_traitsInvented_32 ?_
        refine lv_topi (fun x1_1 ex1_1 => ?_)
        have h := h _ ex1_1
        refine lv_istore_n (lv' := [(1, .int x1_1), (0, .ref q_o), (2, .int x2)]) hx hb dX6_traitsInvented_33 rfl hl (by decide) rfl (fun ls hl => ?_)
        obtain ⟨x2_2, ex2_2⟩ : ∃ y : Int32, y = x2 + (1 : Int32) := ⟨_, rfl⟩
        have h := h _ ex2_2
        refine lv_iinc (v := x2_2) (lv' := [(2, .int x2_2), (1, .int x1_1), (0, .ref q_o)]) hx hb dX6_traitsInvented_34 hl (k := 2) rfl (by rw [ex2_2]; rfl) (by decide) rfl (fun ls hl => ?_)
        refine lv_goto (tgt := 4) hx hb dX6_traitsInvented_37 (by decide) ?_
        exact ih4 _ _ _ d_o x1_1 x2_2 hP hD hS (lv_sub hl [2, 1, 0] rfl) h
      intro H locs ls d_o x1 x2 hP hD hS hl h
      replace h : P_X6_traitsInvented_b4 b_o v_o_now post (P_X6_traitsInvented_l4 b_o v_o_now post n4) d_o x1 x2 := h
      unfold P_X6_traitsInvented_b4 at h
      refine lv_iload_n hx hb dX6_traitsInvented_4 rfl (lv_at hl 2 rfl) ?_
      refine lv_bipush (v := (6 : Int32)) hx hb dX6_traitsInvented_5 (by decide) ?_
      refine lv_icmp_ge (tgt := 40) hx hb dX6_traitsInvented_7 (by decide) (fun c_3 => ?_) (fun c_3 => ?_)
      · have h := h.1 c_3
        refine lv_iload_n hx hb dX6_traitsInvented_40 rfl (lv_at hl 1 rfl) ?_
        rw [← hQ]
        exact gRetI (u := d_o) hx hb hr rfl h hP hD hS dX6_traitsInvented_41 hlocks
      · have h := h.2 c_3
        refine lv_aload_n hx hb dX6_traitsInvented_10 rfl (lv_at hl 0 rfl) ?_
        refine lv_aload_n hx hb dX6_traitsInvented_11 rfl (lv_at hl 0 rfl) ?_
        refine va_get (D := D) (ci := 6) (v := .ref q_o_now) (C := RX6) (T := TX6) (N := 17) hx hb htb inT_X6 hown hK hP 0 rfl rfl 3 (by decide) (htb _ tb_90) (fun _ h9 => h9) rfl dX6_traitsInvented_12 ?_
        refine lv_iload_n hx hb dX6_traitsInvented_15 rfl (lv_at hl 2 rfl) ?_
        refine gVMv (wr := []) (As := [.ref q_o_now, .int x2]) (rest := []) ⟨hx, hb, hml, hown, htb⟩ hK hP hD hS hA hN [0, 2, 1] [] rfl (by decide) rfl (by decide) (by decide) (c_X6_findLeast l D Cs q_o q_o_now q_o_text q_o_now q_o_trial q_o_diary q_o_kept q_o_isKept q_o_years 221 H.size d_o v_o_now v_o_refusal v_o_size v_o_acts v_o_spot v_o_out x2 h) (cwV 2 htb (TB_v tb_342 tb_343 tb_344 tb_5 (TB_self tb_345)) rfl rfl rfl z_X6_findLeast ⟨Nat.le_of_ble_eq_true rfl, Nat.le_of_ble_eq_true rfl⟩) 0 rfl rfl rfl rfl hl.1 rfl (Nat.le_of_ble_eq_true rfl) ⟨Nat.le_of_ble_eq_true rfl, Nat.le_of_ble_eq_true rfl⟩ dX6_traitsInvented_16 (fun m_5 H locs h hP hD hS => ?_)
        have hP : va_P D vwCl [(q_o, .inr (6, [.int v_o_refusal, .ref q_o_text, .int v_o_size, .ref q_o_now, .ref q_o_trial, .ref q_o_diary, .int v_o_acts, .ref q_o_kept, .ref q_o_isKept, .ref q_o_years, .int m_5.1, .int m_5.2.1, .int m_5.2.2.1, .int m_5.2.2.2.1, .int m_5.2.2.2.2.1, .int v_o_spot, .int v_o_out])), (q_o_years, gI Cs 10 m_5.2.2.2.2.2), (q_o_now, gI Cs 221 v_o_now)] H := hP
        have hD : va_D A [(q_o, .inr (6, [.int v_o_refusal, .ref q_o_text, .int v_o_size, .ref q_o_now, .ref q_o_trial, .ref q_o_diary, .int v_o_acts, .ref q_o_kept, .ref q_o_isKept, .ref q_o_years, .int m_5.1, .int m_5.2.1, .int m_5.2.2.1, .int m_5.2.2.2.1, .int m_5.2.2.2.2.1, .int v_o_spot, .int v_o_out])), (q_o_years, gI Cs 10 m_5.2.2.2.2.2), (q_o_now, gI Cs 221 v_o_now)] := hD
        refine lv_iload_n hx hb dX6_traitsInvented_19 rfl (lv_at hl 1 rfl) ?_
        refine lv_aload_n hx hb dX6_traitsInvented_20 rfl (lv_at hl 0 rfl) ?_
        refine va_get (D := D) (ci := 6) (v := .int m_5.1) (C := RX6) (T := TX6) (N := 17) hx hb htb inT_X6 hown hK hP 0 rfl rfl 10 (by decide) (htb _ tb_341) (fun _ h9 => h9) rfl dX6_traitsInvented_21 ?_
        refine lv_if_le (tgt := 31) hx hb dX6_traitsInvented_24 (by decide) (fun c_6 => ?_) (fun c_6 => ?_)
        · have h := h.1 c_6
          refine lv_iconst (v := (0 : Int32)) hx hb dX6_traitsInvented_31 (by decide) ?_
          exact B32 _ _ _ m_5 x2 x1 (0 : Int32) (hP.sub [0, 2, 1] rfl) (hD.sub [0, 2, 1] (by decide) rfl) hS (lv_sub hl [0, 2] rfl) h
        · have h := h.2 c_6
          refine lv_iconst (v := (1 : Int32)) hx hb dX6_traitsInvented_27 (by decide) ?_
          refine lv_goto (tgt := 32) hx hb dX6_traitsInvented_28 (by decide) ?_
          exact B32 _ _ _ m_5 x2 x1 (1 : Int32) (hP.sub [0, 2, 1] rfl) (hD.sub [0, 2, 1] (by decide) rfl) hS (lv_sub hl [0, 2] rfl) h
  unfold P_X6_traitsInvented at h
  refine lv_iconst (v := (0 : Int32)) hx hb dX6_traitsInvented_0 (by decide) ?_
  refine lv_istore_n (lv' := [(1, .int (0 : Int32)), (0, .ref q_o)]) hx hb dX6_traitsInvented_1 rfl hl (by decide) rfl (fun ls hl => ?_)
  refine lv_iconst (v := (0 : Int32)) hx hb dX6_traitsInvented_2 (by decide) ?_
  refine lv_istore_n (lv' := [(2, .int (0 : Int32)), (1, .int (0 : Int32)), (0, .ref q_o)]) hx hb dX6_traitsInvented_3 rfl hl (by decide) rfl (fun ls hl => ?_)
  obtain ⟨n, h⟩ := h
  exact L4 n _ _ _ b_o (0 : Int32) (0 : Int32) hP hD hS (lv_sub hl [2, 1, 0] rfl) h
set_option maxHeartbeats 4000000 in
set_option maxRecDepth 100000 in
theorem c_X6_about (l : Launch) (D : va_G) (Cs : Nat → ClassId) (q_o : Nat) (q_o_text : Nat) (q_o_now : Nat) (q_o_trial : Nat) (q_o_diary : Nat) (q_o_kept : Nat) (q_o_isKept : Nat) (q_o_years : Nat) (sz : Nat) (v_o_refusal : Int32) (b_o : BM) (v_o_now : (Nat → Int32)) (v_o_size : Int32) (v_o_acts : Int32) (v_o_spot : Int32) (v_o_out : Int32) (x1 : Int32) {post : Int32 → Int32 → BM → Prop} (h : P_X6_about v_o_refusal b_o v_o_now x1 post) : Met l yX6_about wsX6_about ({ frames := 5, cells := 0, slots := 0, locals := 118 } : Room) (va_Pc [.ref q_o, .int x1] (gM D Cs [(q_o, .inr (6, [.int v_o_refusal, .ref q_o_text, .int v_o_size, .ref q_o_now, .ref q_o_trial, .ref q_o_diary, .int v_o_acts, .ref q_o_kept, .ref q_o_isKept, .ref q_o_years, .int b_o.1, .int b_o.2.1, .int b_o.2.2.1, .int b_o.2.2.2.1, .int b_o.2.2.2.2.1, .int v_o_spot, .int v_o_out])), (q_o_now, gI Cs 221 v_o_now), (q_o_years, gI Cs 10 b_o.2.2.2.2.2)] sz)) (va_Qi (fun (r : Int32) (u : Int32 × BM) => post r u.1 u.2) (gB D (va_A [(q_o, .inr (6, [.int v_o_refusal, .ref q_o_text, .int v_o_size, .ref q_o_now, .ref q_o_trial, .ref q_o_diary, .int v_o_acts, .ref q_o_kept, .ref q_o_isKept, .ref q_o_years, .int b_o.1, .int b_o.2.1, .int b_o.2.2.1, .int b_o.2.2.2.1, .int b_o.2.2.2.2.1, .int v_o_spot, .int v_o_out])), (q_o_now, gI Cs 221 v_o_now), (q_o_years, gI Cs 10 b_o.2.2.2.2.2)] sz) (fun u : Int32 × BM => [(q_o, .inr (6, [.int u.1, .ref q_o_text, .int v_o_size, .ref q_o_now, .ref q_o_trial, .ref q_o_diary, .int v_o_acts, .ref q_o_kept, .ref q_o_isKept, .ref q_o_years, .int u.2.1, .int u.2.2.1, .int u.2.2.2.1, .int u.2.2.2.2.1, .int u.2.2.2.2.2.1, .int v_o_spot, .int v_o_out])), (q_o_now, gI Cs 221 v_o_now), (q_o_years, gI Cs 10 u.2.2.2.2.2.2)])) (va_A [(q_o, .inr (6, [.int v_o_refusal, .ref q_o_text, .int v_o_size, .ref q_o_now, .ref q_o_trial, .ref q_o_diary, .int v_o_acts, .ref q_o_kept, .ref q_o_isKept, .ref q_o_years, .int b_o.1, .int b_o.2.1, .int b_o.2.2.1, .int b_o.2.2.2.1, .int b_o.2.2.2.2.1, .int v_o_spot, .int v_o_out])), (q_o_now, gI Cs 221 v_o_now), (q_o_years, gI Cs 10 b_o.2.2.2.2.2)] sz)) 0 0 (va_A [(q_o, .inr (6, [.int v_o_refusal, .ref q_o_text, .int v_o_size, .ref q_o_now, .ref q_o_trial, .ref q_o_diary, .int v_o_acts, .ref q_o_kept, .ref q_o_isKept, .ref q_o_years, .int b_o.1, .int b_o.2.1, .int b_o.2.2.1, .int b_o.2.2.2.1, .int b_o.2.2.2.2.1, .int v_o_spot, .int v_o_out])), (q_o_now, gI Cs 221 v_o_now), (q_o_years, gI Cs 10 b_o.2.2.2.2.2)] sz) := by
  refine Met.ofW (cc := cX6_about) (maxL := 2) (ret := (some .int)) (by decide) rfl ?_
  intro p e s m args below meth c s₁ B hml hv
  obtain ⟨ha, hsz, hP, hK, hD0, hN⟩ := hv
  have hx := B.exec
  have hb := B.bytes
  have hr := B.returns
  have hts := atoms_spec (ws := wsX6_about) B.pre
  have htb : ∀ w ∈ TB, w.before args s = true := fun w h9 => hts w (List.mem_cons_of_mem _ h9)
  have hown : s.vm.findClass RX6 = some m.cls := findClass_of_methodNamed B.named
  have hlocks := B.notSynchronized
  subst hsz
  have hD := hD0.self (sz := s.heap.size)
  generalize hAe : va_A [(q_o, .inr (6, [.int v_o_refusal, .ref q_o_text, .int v_o_size, .ref q_o_now, .ref q_o_trial, .ref q_o_diary, .int v_o_acts, .ref q_o_kept, .ref q_o_isKept, .ref q_o_years, .int b_o.1, .int b_o.2.1, .int b_o.2.2.1, .int b_o.2.2.2.1, .int b_o.2.2.2.2.1, .int v_o_spot, .int v_o_out])), (q_o_now, gI Cs 221 v_o_now), (q_o_years, gI Cs 10 b_o.2.2.2.2.2)] s.heap.size = A at hD ⊢
  have hA : ∀ q : Nat, s.heap.size ≤ q → A q := fun q h9 => by rw [← hAe]; exact Or.inr h9
  obtain ⟨H, hH⟩ : ∃ z : Heap, z = s.heap := ⟨_, rfl⟩
  have hS : va_S A s.heap H [] := by rw [hH]; exact va_S.rf
  have hP : va_P D vwCl [(q_o, .inr (6, [.int v_o_refusal, .ref q_o_text, .int v_o_size, .ref q_o_now, .ref q_o_trial, .ref q_o_diary, .int v_o_acts, .ref q_o_kept, .ref q_o_isKept, .ref q_o_years, .int b_o.1, .int b_o.2.1, .int b_o.2.2.1, .int b_o.2.2.2.1, .int b_o.2.2.2.2.1, .int v_o_spot, .int v_o_out])), (q_o_now, gI Cs 221 v_o_now), (q_o_years, gI Cs 10 b_o.2.2.2.2.2)] H := by rw [hH]; exact hP
  generalize hQ : MQ below _ args s _ _ _ = Q
  show W p l e ({ frames := 5, cells := 0, slots := 0, locals := 118 } : Room) s m args below meth c s.heap [] 0 0 Q (entryFrame m args 2)
  have hent : entryFrame m args 2 = F0 m 0 ((lg_sl ([.ref q_o, .int x1]) ++ List.replicate (2 - (lg_sl ([.ref q_o, .int x1])).length) Slot.unset).toArray) [] := by rw [ha]; exact lg_entry_eq m ([.ref q_o, .int x1]) 2
  rw [hent]; clear hent
  rw [← hH]
  have hl := lv_entry ([.ref q_o, .int x1]) (n := 2) (Nat.le_of_ble_eq_true rfl)
  generalize (lg_sl ([.ref q_o, .int x1]) ++ List.replicate (2 - (lg_sl ([.ref q_o, .int x1])).length) Slot.unset).toArray = ls at hl ⊢
  have hl : lv_has ls 2 [(0, .ref q_o), (1, .int x1)] := hl
  have B96 : ∀ (H : Heap) (locs : List Loc) (ls : Array Slot) (w_o_refusal : Int32) (d_o : BM) (s0 : Int32), va_P D vwCl [(q_o, .inr (6, [.int w_o_refusal, .ref q_o_text, .int v_o_size, .ref q_o_now, .ref q_o_trial, .ref q_o_diary, .int v_o_acts, .ref q_o_kept, .ref q_o_isKept, .ref q_o_years, .int d_o.1, .int d_o.2.1, .int d_o.2.2.1, .int d_o.2.2.2.1, .int d_o.2.2.2.2.1, .int v_o_spot, .int v_o_out])), (q_o_now, gI Cs 221 v_o_now), (q_o_years, gI Cs 10 d_o.2.2.2.2.2)] H → va_D A [(q_o, .inr (6, [.int w_o_refusal, .ref q_o_text, .int v_o_size, .ref q_o_now, .ref q_o_trial, .ref q_o_diary, .int v_o_acts, .ref q_o_kept, .ref q_o_isKept, .ref q_o_years, .int d_o.1, .int d_o.2.1, .int d_o.2.2.1, .int d_o.2.2.2.1, .int d_o.2.2.2.2.1, .int v_o_spot, .int v_o_out])), (q_o_now, gI Cs 221 v_o_now), (q_o_years, gI Cs 10 d_o.2.2.2.2.2)] → va_S A s.heap H locs → lv_has ls 2 [(0, .ref q_o), (1, .int x1)] → P_X6_about_b96 v_o_refusal b_o v_o_now x1 post w_o_refusal d_o s0 → W p l e ({ frames := 5, cells := 0, slots := 0, locals := 118 } : Room) s m args below meth c H locs 0 0 Q (F0 m 96 ls [.int s0]) := by
    intro H locs ls w_o_refusal d_o s0 hP hD hS hl h
    unfold P_X6_about_b96 at h
    rw [← hQ]
    exact gRetI (u := (w_o_refusal, d_o)) hx hb hr rfl h hP hD hS dX6_about_96 hlocks
  have B70 : ∀ (H : Heap) (locs : List Loc) (ls : Array Slot) (w_o_refusal : Int32) (s1 : Int32), va_P D vwCl [(q_o, .inr (6, [.int w_o_refusal, .ref q_o_text, .int v_o_size, .ref q_o_now, .ref q_o_trial, .ref q_o_diary, .int v_o_acts, .ref q_o_kept, .ref q_o_isKept, .ref q_o_years, .int b_o.1, .int b_o.2.1, .int b_o.2.2.1, .int b_o.2.2.2.1, .int b_o.2.2.2.2.1, .int v_o_spot, .int v_o_out])), (q_o_now, gI Cs 221 v_o_now), (q_o_years, gI Cs 10 b_o.2.2.2.2.2)] H → va_D A [(q_o, .inr (6, [.int w_o_refusal, .ref q_o_text, .int v_o_size, .ref q_o_now, .ref q_o_trial, .ref q_o_diary, .int v_o_acts, .ref q_o_kept, .ref q_o_isKept, .ref q_o_years, .int b_o.1, .int b_o.2.1, .int b_o.2.2.1, .int b_o.2.2.2.1, .int b_o.2.2.2.2.1, .int v_o_spot, .int v_o_out])), (q_o_now, gI Cs 221 v_o_now), (q_o_years, gI Cs 10 b_o.2.2.2.2.2)] → va_S A s.heap H locs → lv_has ls 2 [(0, .ref q_o), (1, .int x1)] → P_X6_about_b70 v_o_refusal b_o v_o_now x1 post w_o_refusal s1 → W p l e ({ frames := 5, cells := 0, slots := 0, locals := 118 } : Room) s m args below meth c H locs 0 0 Q (F0 m 70 ls [.int s1, .ref q_o]) := by
    intro H locs ls w_o_refusal s1 hP hD hS hl h
    unfold P_X6_about_b70 at h
    refine gVR (As := [.int s1]) (rest := []) ⟨hx, hb, hml, hown, htb⟩ hK hP hN [0, 1] rfl (c_X6_countPairs l D Cs q_o q_o_text q_o_now q_o_trial q_o_diary q_o_kept q_o_isKept q_o_years v_o_now w_o_refusal v_o_size v_o_acts b_o.1 b_o.2.1 b_o.2.2.1 b_o.2.2.2.1 b_o.2.2.2.2.1 v_o_spot v_o_out s1 h) (cwV 1 htb (TB_v tb_330 tb_331 tb_332 tb_5 (TB_self tb_333)) rfl rfl rfl z_X6_countPairs ⟨Nat.le_of_ble_eq_true rfl, Nat.le_of_ble_eq_true rfl⟩) 0 rfl rfl rfl rfl hl.1 rfl (Nat.le_of_ble_eq_true rfl) ⟨Nat.le_of_ble_eq_true rfl, Nat.le_of_ble_eq_true rfl⟩ dX6_about_70 (fun r_1 h => ?_)
    refine lv_goto (tgt := 96) hx hb dX6_about_73 (by decide) ?_
    exact B96 _ _ _ w_o_refusal b_o r_1 hP hD hS (lv_sub hl [0, 1] rfl) h
  have B18 : ∀ (H : Heap) (locs : List Loc) (ls : Array Slot) (s1 : Int32), va_P D vwCl [(q_o, .inr (6, [.int v_o_refusal, .ref q_o_text, .int v_o_size, .ref q_o_now, .ref q_o_trial, .ref q_o_diary, .int v_o_acts, .ref q_o_kept, .ref q_o_isKept, .ref q_o_years, .int b_o.1, .int b_o.2.1, .int b_o.2.2.1, .int b_o.2.2.2.1, .int b_o.2.2.2.2.1, .int v_o_spot, .int v_o_out])), (q_o_now, gI Cs 221 v_o_now), (q_o_years, gI Cs 10 b_o.2.2.2.2.2)] H → va_D A [(q_o, .inr (6, [.int v_o_refusal, .ref q_o_text, .int v_o_size, .ref q_o_now, .ref q_o_trial, .ref q_o_diary, .int v_o_acts, .ref q_o_kept, .ref q_o_isKept, .ref q_o_years, .int b_o.1, .int b_o.2.1, .int b_o.2.2.1, .int b_o.2.2.2.1, .int b_o.2.2.2.2.1, .int v_o_spot, .int v_o_out])), (q_o_now, gI Cs 221 v_o_now), (q_o_years, gI Cs 10 b_o.2.2.2.2.2)] → va_S A s.heap H locs → lv_has ls 2 [(0, .ref q_o), (1, .int x1)] → P_X6_about_b18 v_o_refusal b_o v_o_now x1 post s1 → W p l e ({ frames := 5, cells := 0, slots := 0, locals := 118 } : Room) s m args below meth c H locs 0 0 Q (F0 m 18 ls [.int s1, .ref q_o]) := by
    intro H locs ls s1 hP hD hS hl h
    unfold P_X6_about_b18 at h
    refine gVM (wr := [(q_o_now, gI Cs 221 v_o_now), (q_o_years, gI Cs 10 b_o.2.2.2.2.2)]) (As := [.int s1]) (rest := []) ⟨hx, hb, hml, hown, htb⟩ hK hP hD hS hA hN [0] [1, 2] rfl (by decide) rfl (by decide) (by decide) (c_X6_refused l D Cs q_o q_o_text q_o_now q_o_trial q_o_diary q_o_kept q_o_isKept q_o_years H.size v_o_refusal v_o_size v_o_acts b_o.1 b_o.2.1 b_o.2.2.1 b_o.2.2.2.1 b_o.2.2.2.2.1 v_o_spot v_o_out s1 h) (cwV 1 htb (TB_v tb_128 tb_129 tb_130 tb_5 (TB_self tb_131)) rfl rfl rfl z_X6_refused ⟨Nat.le_of_ble_eq_true rfl, Nat.le_of_ble_eq_true rfl⟩) 0 rfl rfl rfl rfl hl.1 rfl (Nat.le_of_ble_eq_true rfl) ⟨Nat.le_of_ble_eq_true rfl, Nat.le_of_ble_eq_true rfl⟩ dX6_about_18 (fun r_2 m_3 H locs h hP hD hS => ?_)
    have hP : va_P D vwCl [(q_o_now, gI Cs 221 v_o_now), (q_o_years, gI Cs 10 b_o.2.2.2.2.2), (q_o, .inr (6, [.int m_3, .ref q_o_text, .int v_o_size, .ref q_o_now, .ref q_o_trial, .ref q_o_diary, .int v_o_acts, .ref q_o_kept, .ref q_o_isKept, .ref q_o_years, .int b_o.1, .int b_o.2.1, .int b_o.2.2.1, .int b_o.2.2.2.1, .int b_o.2.2.2.2.1, .int v_o_spot, .int v_o_out]))] H := hP
    have hD : va_D A [(q_o_now, gI Cs 221 v_o_now), (q_o_years, gI Cs 10 b_o.2.2.2.2.2), (q_o, .inr (6, [.int m_3, .ref q_o_text, .int v_o_size, .ref q_o_now, .ref q_o_trial, .ref q_o_diary, .int v_o_acts, .ref q_o_kept, .ref q_o_isKept, .ref q_o_years, .int b_o.1, .int b_o.2.1, .int b_o.2.2.1, .int b_o.2.2.2.1, .int b_o.2.2.2.2.1, .int v_o_spot, .int v_o_out]))] := hD
    refine lv_if_eq (tgt := 26) hx hb dX6_about_21 (by decide) (fun c_4 => ?_) (fun c_4 => ?_)
    · have h := h.1 c_4
      refine lv_iload_n hx hb dX6_about_26 rfl (lv_at hl 1 rfl) ?_
      refine lv_if_ne (tgt := 39) hx hb dX6_about_27 (by decide) (fun c_5 => ?_) (fun c_5 => ?_)
      · have h := h.2 c_5
        refine lv_iload_n hx hb dX6_about_39 rfl (lv_at hl 1 rfl) ?_
        refine lv_iconst (v := (1 : Int32)) hx hb dX6_about_40 (by decide) ?_
        refine lv_icmp_ne (tgt := 54) hx hb dX6_about_41 (by decide) (fun c_6 => ?_) (fun c_6 => ?_)
        · have h := h.2 c_6
          refine lv_iload_n hx hb dX6_about_54 rfl (lv_at hl 1 rfl) ?_
          refine lv_iconst (v := (4 : Int32)) hx hb dX6_about_55 (by decide) ?_
          refine lv_icmp_ge (tgt := 76) hx hb dX6_about_56 (by decide) (fun c_7 => ?_) (fun c_7 => ?_)
          · have h := h.1 c_7
            refine lv_iload_n hx hb dX6_about_76 rfl (lv_at hl 1 rfl) ?_
            refine lv_iconst (v := (4 : Int32)) hx hb dX6_about_77 (by decide) ?_
            refine lv_icmp_ne (tgt := 88) hx hb dX6_about_78 (by decide) (fun c_8 => ?_) (fun c_8 => ?_)
            · have h := h.2 c_8
              refine lv_aload_n hx hb dX6_about_88 rfl (lv_at hl 0 rfl) ?_
              refine lv_aload_n hx hb dX6_about_89 rfl (lv_at hl 0 rfl) ?_
              refine va_get (D := D) (ci := 6) (v := .ref q_o_now) (C := RX6) (T := TX6) (N := 17) hx hb htb inT_X6 hown hK hP 2 rfl rfl 3 (by decide) (htb _ tb_90) (fun _ h9 => h9) rfl dX6_about_90 ?_
              refine gVM (wr := []) (As := [.ref q_o_now]) (rest := []) ⟨hx, hb, hml, hown, htb⟩ hK hP hD hS hA hN [2, 1, 0] [] rfl (by decide) rfl (by decide) (by decide) (c_X6_inventionsInAll l D Cs q_o q_o_now q_o_text q_o_now q_o_trial q_o_diary q_o_kept q_o_isKept q_o_years 221 H.size b_o v_o_now m_3 v_o_size v_o_acts v_o_spot v_o_out h) (cwV 1 htb (TB_v tb_375 tb_376 tb_377 tb_5 (TB_self tb_378)) rfl rfl rfl z_X6_inventionsInAll ⟨Nat.le_of_ble_eq_true rfl, Nat.le_of_ble_eq_true rfl⟩) 2 rfl rfl rfl rfl hl.1 rfl (Nat.le_of_ble_eq_true rfl) ⟨Nat.le_of_ble_eq_true rfl, Nat.le_of_ble_eq_true rfl⟩ dX6_about_93 (fun r_9 m_10 H locs h hP hD hS => ?_)
              have hP : va_P D vwCl [(q_o, .inr (6, [.int m_3, .ref q_o_text, .int v_o_size, .ref q_o_now, .ref q_o_trial, .ref q_o_diary, .int v_o_acts, .ref q_o_kept, .ref q_o_isKept, .ref q_o_years, .int m_10.1, .int m_10.2.1, .int m_10.2.2.1, .int m_10.2.2.2.1, .int m_10.2.2.2.2.1, .int v_o_spot, .int v_o_out])), (q_o_years, gI Cs 10 m_10.2.2.2.2.2), (q_o_now, gI Cs 221 v_o_now)] H := hP
              have hD : va_D A [(q_o, .inr (6, [.int m_3, .ref q_o_text, .int v_o_size, .ref q_o_now, .ref q_o_trial, .ref q_o_diary, .int v_o_acts, .ref q_o_kept, .ref q_o_isKept, .ref q_o_years, .int m_10.1, .int m_10.2.1, .int m_10.2.2.1, .int m_10.2.2.2.1, .int m_10.2.2.2.2.1, .int v_o_spot, .int v_o_out])), (q_o_years, gI Cs 10 m_10.2.2.2.2.2), (q_o_now, gI Cs 221 v_o_now)] := hD
              exact B96 _ _ _ m_3 m_10 r_9 (hP.sub [0, 2, 1] rfl) (hD.sub [0, 2, 1] (by decide) rfl) hS (lv_sub hl [0, 1] rfl) h
            · have h := h.1 c_8
              refine lv_aload_n hx hb dX6_about_81 rfl (lv_at hl 0 rfl) ?_
              refine gVM (wr := []) (As := []) (rest := []) ⟨hx, hb, hml, hown, htb⟩ hK hP hD hS hA hN [2, 0, 1] [] rfl (by decide) rfl (by decide) (by decide) (c_X6_traitsInvented l D Cs q_o q_o_text q_o_now q_o_trial q_o_diary q_o_kept q_o_isKept q_o_years H.size b_o v_o_now m_3 v_o_size v_o_acts v_o_spot v_o_out h) (cwV 0 htb (TB_v tb_337 tb_338 tb_339 tb_5 (TB_self tb_340)) rfl rfl rfl z_X6_traitsInvented ⟨Nat.le_of_ble_eq_true rfl, Nat.le_of_ble_eq_true rfl⟩) 2 rfl rfl rfl rfl hl.1 rfl (Nat.le_of_ble_eq_true rfl) ⟨Nat.le_of_ble_eq_true rfl, Nat.le_of_ble_eq_true rfl⟩ dX6_about_82 (fun r_11 m_12 H locs h hP hD hS => ?_)
              have hP : va_P D vwCl [(q_o, .inr (6, [.int m_3, .ref q_o_text, .int v_o_size, .ref q_o_now, .ref q_o_trial, .ref q_o_diary, .int v_o_acts, .ref q_o_kept, .ref q_o_isKept, .ref q_o_years, .int m_12.1, .int m_12.2.1, .int m_12.2.2.1, .int m_12.2.2.2.1, .int m_12.2.2.2.2.1, .int v_o_spot, .int v_o_out])), (q_o_now, gI Cs 221 v_o_now), (q_o_years, gI Cs 10 m_12.2.2.2.2.2)] H := hP
              have hD : va_D A [(q_o, .inr (6, [.int m_3, .ref q_o_text, .int v_o_size, .ref q_o_now, .ref q_o_trial, .ref q_o_diary, .int v_o_acts, .ref q_o_kept, .ref q_o_isKept, .ref q_o_years, .int m_12.1, .int m_12.2.1, .int m_12.2.2.1, .int m_12.2.2.2.1, .int m_12.2.2.2.2.1, .int v_o_spot, .int v_o_out])), (q_o_now, gI Cs 221 v_o_now), (q_o_years, gI Cs 10 m_12.2.2.2.2.2)] := hD
              refine lv_goto (tgt := 96) hx hb dX6_about_85 (by decide) ?_
              exact B96 _ _ _ m_3 m_12 r_11 hP hD hS (lv_sub hl [0, 1] rfl) h
          · have h := h.2 c_7
            refine lv_aload_n hx hb dX6_about_59 rfl (lv_at hl 0 rfl) ?_
            refine lv_iload_n hx hb dX6_about_60 rfl (lv_at hl 1 rfl) ?_
            refine lv_iconst (v := (3 : Int32)) hx hb dX6_about_61 (by decide) ?_
            refine lv_icmp_ne (tgt := 69) hx hb dX6_about_62 (by decide) (fun c_13 => ?_) (fun c_13 => ?_)
            · have h := h.2 c_13
              refine lv_iconst (v := (0 : Int32)) hx hb dX6_about_69 (by decide) ?_
              exact B70 _ _ _ m_3 (0 : Int32) (hP.sub [2, 0, 1] rfl) (hD.sub [2, 0, 1] (by decide) rfl) hS (lv_sub hl [0, 1] rfl) h
            · have h := h.1 c_13
              refine lv_iconst (v := (1 : Int32)) hx hb dX6_about_65 (by decide) ?_
              refine lv_goto (tgt := 70) hx hb dX6_about_66 (by decide) ?_
              exact B70 _ _ _ m_3 (1 : Int32) (hP.sub [2, 0, 1] rfl) (hD.sub [2, 0, 1] (by decide) rfl) hS (lv_sub hl [0, 1] rfl) h
        · have h := h.1 c_6
          refine lv_aload_n hx hb dX6_about_44 rfl (lv_at hl 0 rfl) ?_
          refine va_get (D := D) (ci := 6) (v := .ref q_o_now) (C := RX6) (T := TX6) (N := 17) hx hb htb inT_X6 hown hK hP 2 rfl rfl 3 (by decide) (htb _ tb_90) (fun _ h9 => h9) rfl dX6_about_45 ?_
          refine gSR (As := [.ref q_o_now]) (rest := []) ⟨hx, hb, hml, hown, htb⟩ hK hP hN [0] rfl (c_X6_roads l D Cs q_o_now 221 v_o_now h) (va_cwS 1 htb (TB_s tb_327 tb_328 tb_5 (TB_self tb_329)) rfl rfl rfl z_X6_roads.2 ⟨Nat.le_of_ble_eq_true rfl, Nat.le_of_ble_eq_true rfl⟩) rfl hl.1 rfl (Nat.le_of_ble_eq_true rfl) ⟨Nat.le_of_ble_eq_true rfl, Nat.le_of_ble_eq_true rfl⟩ dX6_about_48 (fun r_14 h => ?_)
          refine lv_goto (tgt := 96) hx hb dX6_about_51 (by decide) ?_
          exact B96 _ _ _ m_3 b_o r_14 (hP.sub [2, 0, 1] rfl) (hD.sub [2, 0, 1] (by decide) rfl) hS (lv_sub hl [0, 1] rfl) h
      · have h := h.1 c_5
        refine lv_aload_n hx hb dX6_about_30 rfl (lv_at hl 0 rfl) ?_
        refine va_get (D := D) (ci := 6) (v := .ref q_o_now) (C := RX6) (T := TX6) (N := 17) hx hb htb inT_X6 hown hK hP 2 rfl rfl 3 (by decide) (htb _ tb_90) (fun _ h9 => h9) rfl dX6_about_31 ?_
        refine lv_iconst (v := (0 : Int32)) hx hb dX6_about_34 (by decide) ?_
        refine va_iald hx hb hK hP 0 0 rfl rfl (by unfold vp_in; decide) dX6_about_35 ?_
        refine lv_goto (tgt := 96) hx hb dX6_about_36 (by decide) ?_
        exact B96 _ _ _ m_3 b_o (v_o_now (0 : Int32).toNatClampNeg) (hP.sub [2, 0, 1] rfl) (hD.sub [2, 0, 1] (by decide) rfl) hS (lv_sub hl [0, 1] rfl) h
    · have h := h.2 c_4
      refine lv_iconst (v := (0 : Int32)) hx hb dX6_about_24 (by decide) ?_
      rw [← hQ]
      exact gRetI (u := (m_3, b_o)) hx hb hr rfl h (hP.sub [2, 0, 1] rfl) (hD.sub [2, 0, 1] (by decide) rfl) hS dX6_about_25 hlocks
  unfold P_X6_about at h
  refine lv_aload_n hx hb dX6_about_0 rfl (lv_at hl 0 rfl) ?_
  refine lv_iload_n hx hb dX6_about_1 rfl (lv_at hl 1 rfl) ?_
  refine lv_i2l (v := x1.toInt64) hx hb dX6_about_2 rfl ?_
  refine lv_lconst (v := (0 : Int64)) hx hb dX6_about_3 rfl ?_
  refine lv_ldc2 (v := (5 : Int64)) hx hb hown (htb _ tb_326) dX6_about_4 ?_
  refine gSR (As := [.long x1.toInt64, .long (0 : Int64), .long (5 : Int64)]) (rest := [.ref q_o]) ⟨hx, hb, hml, hown, htb⟩ hK hP hN [] rfl (c_X6_in l D Cs x1.toInt64 (0 : Int64) (5 : Int64) h) (va_cwS 3 htb (TB_s tb_125 tb_126 tb_5 (TB_self tb_127)) rfl rfl rfl z_X6_in.2 ⟨Nat.le_of_ble_eq_true rfl, Nat.le_of_ble_eq_true rfl⟩) rfl hl.1 rfl (Nat.le_of_ble_eq_true rfl) ⟨Nat.le_of_ble_eq_true rfl, Nat.le_of_ble_eq_true rfl⟩ dX6_about_7 (fun r_15 h => ?_)
  refine lv_if_eq (tgt := 17) hx hb dX6_about_10 (by decide) (fun c_16 => ?_) (fun c_16 => ?_)
  · have h := h.1 c_16
    refine lv_iconst (v := (1 : Int32)) hx hb dX6_about_17 (by decide) ?_
    exact B18 _ _ _ (1 : Int32) hP hD hS (lv_sub hl [0, 1] rfl) h
  · have h := h.2 c_16
    refine lv_iconst (v := (0 : Int32)) hx hb dX6_about_13 (by decide) ?_
    refine lv_goto (tgt := 18) hx hb dX6_about_14 (by decide) ?_
    exact B18 _ _ _ (0 : Int32) hP hD hS (lv_sub hl [0, 1] rfl) h
set_option maxHeartbeats 4000000 in
set_option maxRecDepth 100000 in
theorem c_X6_areTowns (l : Launch) (D : va_G) (Cs : Nat → ClassId) (q_a0 : Nat) (n_a0 : Nat) (v_a0 : (Nat → Int32)) (x1 : Int32) (x2 : Int32) {post : Int32 → Prop} (h : P_X6_areTowns n_a0 v_a0 x1 x2 post) : Met l yX6_areTowns wsX6_areTowns ({ frames := 2, cells := 0, slots := 0, locals := 46 } : Room) (va_Pc [.ref q_a0, .int x1, .int x2] (gR D Cs [(q_a0, gI Cs n_a0 v_a0)])) (vp_Si post) 0 0 (fun _ => False) := by
  refine Met.ofW (cc := cX6_areTowns) (maxL := 3) (ret := (some .boolean)) (by decide) rfl ?_
  intro p e s m args below meth c s₁ B hml hv
  obtain ⟨ha, hP, hK, hN⟩ := hv
  have hx := B.exec
  have hb := B.bytes
  have hr := B.returns
  have hts := atoms_spec (ws := wsX6_areTowns) B.pre
  have htb : ∀ w ∈ TB, w.before args s = true := fun w h9 => hts w (List.mem_cons_of_mem _ h9)
  have hown : s.vm.findClass RX6 = some m.cls := findClass_of_methodNamed B.named
  have hlocks := B.notSynchronized
  generalize hQ : MQ below _ args s _ _ _ = Q
  show W p l e ({ frames := 2, cells := 0, slots := 0, locals := 46 } : Room) s m args below meth c s.heap [] 0 0 Q (entryFrame m args 3)
  have hent : entryFrame m args 3 = F0 m 0 ((lg_sl ([.ref q_a0, .int x1, .int x2]) ++ List.replicate (3 - (lg_sl ([.ref q_a0, .int x1, .int x2])).length) Slot.unset).toArray) [] := by rw [ha]; exact lg_entry_eq m ([.ref q_a0, .int x1, .int x2]) 3
  rw [hent]; clear hent
  have hl := lv_entry ([.ref q_a0, .int x1, .int x2]) (n := 3) (Nat.le_of_ble_eq_true rfl)
  generalize (lg_sl ([.ref q_a0, .int x1, .int x2]) ++ List.replicate (3 - (lg_sl ([.ref q_a0, .int x1, .int x2])).length) Slot.unset).toArray = ls at hl ⊢
  have hl : lv_has ls 3 [(0, .ref q_a0), (1, .int x1), (2, .int x2)] := hl
  have B21 : ∀ (ls : Array Slot) (s0 : Int32), lv_has ls 3 [(0, .ref q_a0), (1, .int x1), (2, .int x2)] → P_X6_areTowns_b21 n_a0 v_a0 x1 x2 post s0 → W p l e ({ frames := 2, cells := 0, slots := 0, locals := 46 } : Room) s m args below meth c s.heap [] 0 0 Q (F0 m 21 ls [.int s0]) := by
    intro ls s0 hl h
    unfold P_X6_areTowns_b21 at h
    obtain ⟨hnb, h⟩ := h
    rw [← hQ]
    exact gRetR hx hb hr hnb h dX6_areTowns_21 hlocks
  have B20 : ∀ (ls : Array Slot), lv_has ls 3 [(0, .ref q_a0), (1, .int x1), (2, .int x2)] → P_X6_areTowns_b20 n_a0 v_a0 x1 x2 post → W p l e ({ frames := 2, cells := 0, slots := 0, locals := 46 } : Room) s m args below meth c s.heap [] 0 0 Q (F0 m 20 ls []) := by
    intro ls hl h
    unfold P_X6_areTowns_b20 at h
    refine lv_iconst (v := (0 : Int32)) hx hb dX6_areTowns_20 (by decide) ?_
    exact B21 _ (0 : Int32) (lv_sub hl [0, 1, 2] rfl) h
  unfold P_X6_areTowns at h
  refine lv_aload_n hx hb dX6_areTowns_0 rfl (lv_at hl 0 rfl) ?_
  refine lv_iload_n hx hb dX6_areTowns_1 rfl (lv_at hl 1 rfl) ?_
  refine gSR (As := [.ref q_a0, .int x1]) (rest := []) ⟨hx, hb, hml, hown, htb⟩ hK hP hN [0] rfl (c_X6_isTown l D Cs q_a0 n_a0 v_a0 x1 h) (va_cwS 2 htb (TB_s tb_197 tb_198 tb_5 (TB_self tb_199)) rfl rfl rfl z_X6_isTown.2 ⟨Nat.le_of_ble_eq_true rfl, Nat.le_of_ble_eq_true rfl⟩) rfl hl.1 rfl (Nat.le_of_ble_eq_true rfl) ⟨Nat.le_of_ble_eq_true rfl, Nat.le_of_ble_eq_true rfl⟩ dX6_areTowns_2 (fun r_1 h => ?_)
  refine lv_if_eq (tgt := 20) hx hb dX6_areTowns_5 (by decide) (fun c_2 => ?_) (fun c_2 => ?_)
  · have h := h.1 c_2
    exact B20 _ (lv_sub hl [0, 1, 2] rfl) h
  · have h := h.2 c_2
    refine lv_aload_n hx hb dX6_areTowns_8 rfl (lv_at hl 0 rfl) ?_
    refine lv_iload_n hx hb dX6_areTowns_9 rfl (lv_at hl 2 rfl) ?_
    refine gSR (As := [.ref q_a0, .int x2]) (rest := []) ⟨hx, hb, hml, hown, htb⟩ hK hP hN [0] rfl (c_X6_isTown l D Cs q_a0 n_a0 v_a0 x2 h) (va_cwS 2 htb (TB_s tb_197 tb_198 tb_5 (TB_self tb_199)) rfl rfl rfl z_X6_isTown.2 ⟨Nat.le_of_ble_eq_true rfl, Nat.le_of_ble_eq_true rfl⟩) rfl hl.1 rfl (Nat.le_of_ble_eq_true rfl) ⟨Nat.le_of_ble_eq_true rfl, Nat.le_of_ble_eq_true rfl⟩ dX6_areTowns_10 (fun r_3 h => ?_)
    refine lv_if_eq (tgt := 20) hx hb dX6_areTowns_13 (by decide) (fun c_4 => ?_) (fun c_4 => ?_)
    · have h := h.1 c_4
      exact B20 _ (lv_sub hl [0, 1, 2] rfl) h
    · have h := h.2 c_4
      refine lv_iconst (v := (1 : Int32)) hx hb dX6_areTowns_16 (by decide) ?_
      refine lv_goto (tgt := 21) hx hb dX6_areTowns_17 (by decide) ?_
      exact B21 _ (1 : Int32) (lv_sub hl [0, 1, 2] rfl) h
set_option maxHeartbeats 4000000 in
set_option maxRecDepth 100000 in
theorem c_X6_road (l : Launch) (D : va_G) (Cs : Nat → ClassId) (q_o : Nat) (q_o_text : Nat) (q_o_now : Nat) (q_o_trial : Nat) (q_o_diary : Nat) (q_o_kept : Nat) (q_o_isKept : Nat) (q_o_years : Nat) (sz : Nat) (v_o_refusal : Int32) (v_o_now : (Nat → Int32)) (v_o_size : Int32) (v_o_acts : Int32) (v_o_least : Int32) (v_o_origins : Int32) (v_o_ofAll : Int32) (v_o_ofSome : Int32) (v_o_sets : Int32) (v_o_spot : Int32) (v_o_out : Int32) (x1 : Int32) (x2 : Int32) {post : Int32 → Int32 → Prop} (h : P_X6_road v_o_refusal v_o_now x1 x2 post) : Met l yX6_road wsX6_road ({ frames := 3, cells := 0, slots := 0, locals := 68 } : Room) (va_Pc [.ref q_o, .int x1, .int x2] (gM D Cs [(q_o, .inr (6, [.int v_o_refusal, .ref q_o_text, .int v_o_size, .ref q_o_now, .ref q_o_trial, .ref q_o_diary, .int v_o_acts, .ref q_o_kept, .ref q_o_isKept, .ref q_o_years, .int v_o_least, .int v_o_origins, .int v_o_ofAll, .int v_o_ofSome, .int v_o_sets, .int v_o_spot, .int v_o_out])), (q_o_now, gI Cs 221 v_o_now)] sz)) (va_Qi (fun (r : Int32) (u : Int32) => post r u) (gB D (va_A [(q_o, .inr (6, [.int v_o_refusal, .ref q_o_text, .int v_o_size, .ref q_o_now, .ref q_o_trial, .ref q_o_diary, .int v_o_acts, .ref q_o_kept, .ref q_o_isKept, .ref q_o_years, .int v_o_least, .int v_o_origins, .int v_o_ofAll, .int v_o_ofSome, .int v_o_sets, .int v_o_spot, .int v_o_out])), (q_o_now, gI Cs 221 v_o_now)] sz) (fun u : Int32 => [(q_o, .inr (6, [.int u, .ref q_o_text, .int v_o_size, .ref q_o_now, .ref q_o_trial, .ref q_o_diary, .int v_o_acts, .ref q_o_kept, .ref q_o_isKept, .ref q_o_years, .int v_o_least, .int v_o_origins, .int v_o_ofAll, .int v_o_ofSome, .int v_o_sets, .int v_o_spot, .int v_o_out])), (q_o_now, gI Cs 221 v_o_now)])) (va_A [(q_o, .inr (6, [.int v_o_refusal, .ref q_o_text, .int v_o_size, .ref q_o_now, .ref q_o_trial, .ref q_o_diary, .int v_o_acts, .ref q_o_kept, .ref q_o_isKept, .ref q_o_years, .int v_o_least, .int v_o_origins, .int v_o_ofAll, .int v_o_ofSome, .int v_o_sets, .int v_o_spot, .int v_o_out])), (q_o_now, gI Cs 221 v_o_now)] sz)) 0 0 (va_A [(q_o, .inr (6, [.int v_o_refusal, .ref q_o_text, .int v_o_size, .ref q_o_now, .ref q_o_trial, .ref q_o_diary, .int v_o_acts, .ref q_o_kept, .ref q_o_isKept, .ref q_o_years, .int v_o_least, .int v_o_origins, .int v_o_ofAll, .int v_o_ofSome, .int v_o_sets, .int v_o_spot, .int v_o_out])), (q_o_now, gI Cs 221 v_o_now)] sz) := by
  refine Met.ofW (cc := cX6_road) (maxL := 3) (ret := (some .int)) (by decide) rfl ?_
  intro p e s m args below meth c s₁ B hml hv
  obtain ⟨ha, hsz, hP, hK, hD0, hN⟩ := hv
  have hx := B.exec
  have hb := B.bytes
  have hr := B.returns
  have hts := atoms_spec (ws := wsX6_road) B.pre
  have htb : ∀ w ∈ TB, w.before args s = true := fun w h9 => hts w (List.mem_cons_of_mem _ h9)
  have hown : s.vm.findClass RX6 = some m.cls := findClass_of_methodNamed B.named
  have hlocks := B.notSynchronized
  subst hsz
  have hD := hD0.self (sz := s.heap.size)
  generalize hAe : va_A [(q_o, .inr (6, [.int v_o_refusal, .ref q_o_text, .int v_o_size, .ref q_o_now, .ref q_o_trial, .ref q_o_diary, .int v_o_acts, .ref q_o_kept, .ref q_o_isKept, .ref q_o_years, .int v_o_least, .int v_o_origins, .int v_o_ofAll, .int v_o_ofSome, .int v_o_sets, .int v_o_spot, .int v_o_out])), (q_o_now, gI Cs 221 v_o_now)] s.heap.size = A at hD ⊢
  have hA : ∀ q : Nat, s.heap.size ≤ q → A q := fun q h9 => by rw [← hAe]; exact Or.inr h9
  obtain ⟨H, hH⟩ : ∃ z : Heap, z = s.heap := ⟨_, rfl⟩
  have hS : va_S A s.heap H [] := by rw [hH]; exact va_S.rf
  have hP : va_P D vwCl [(q_o, .inr (6, [.int v_o_refusal, .ref q_o_text, .int v_o_size, .ref q_o_now, .ref q_o_trial, .ref q_o_diary, .int v_o_acts, .ref q_o_kept, .ref q_o_isKept, .ref q_o_years, .int v_o_least, .int v_o_origins, .int v_o_ofAll, .int v_o_ofSome, .int v_o_sets, .int v_o_spot, .int v_o_out])), (q_o_now, gI Cs 221 v_o_now)] H := by rw [hH]; exact hP
  generalize hQ : MQ below _ args s _ _ _ = Q
  show W p l e ({ frames := 3, cells := 0, slots := 0, locals := 68 } : Room) s m args below meth c s.heap [] 0 0 Q (entryFrame m args 3)
  have hent : entryFrame m args 3 = F0 m 0 ((lg_sl ([.ref q_o, .int x1, .int x2]) ++ List.replicate (3 - (lg_sl ([.ref q_o, .int x1, .int x2])).length) Slot.unset).toArray) [] := by rw [ha]; exact lg_entry_eq m ([.ref q_o, .int x1, .int x2]) 3
  rw [hent]; clear hent
  rw [← hH]
  have hl := lv_entry ([.ref q_o, .int x1, .int x2]) (n := 3) (Nat.le_of_ble_eq_true rfl)
  generalize (lg_sl ([.ref q_o, .int x1, .int x2]) ++ List.replicate (3 - (lg_sl ([.ref q_o, .int x1, .int x2])).length) Slot.unset).toArray = ls at hl ⊢
  have hl : lv_has ls 3 [(0, .ref q_o), (1, .int x1), (2, .int x2)] := hl
  have B51 : ∀ (H : Heap) (locs : List Loc) (ls : Array Slot) (w_o_refusal : Int32) (s0 : Int32), va_P D vwCl [(q_o, .inr (6, [.int w_o_refusal, .ref q_o_text, .int v_o_size, .ref q_o_now, .ref q_o_trial, .ref q_o_diary, .int v_o_acts, .ref q_o_kept, .ref q_o_isKept, .ref q_o_years, .int v_o_least, .int v_o_origins, .int v_o_ofAll, .int v_o_ofSome, .int v_o_sets, .int v_o_spot, .int v_o_out])), (q_o_now, gI Cs 221 v_o_now)] H → va_D A [(q_o, .inr (6, [.int w_o_refusal, .ref q_o_text, .int v_o_size, .ref q_o_now, .ref q_o_trial, .ref q_o_diary, .int v_o_acts, .ref q_o_kept, .ref q_o_isKept, .ref q_o_years, .int v_o_least, .int v_o_origins, .int v_o_ofAll, .int v_o_ofSome, .int v_o_sets, .int v_o_spot, .int v_o_out])), (q_o_now, gI Cs 221 v_o_now)] → va_S A s.heap H locs → lv_has ls 3 [(0, .ref q_o), (1, .int x1), (2, .int x2)] → P_X6_road_b51 v_o_refusal v_o_now x1 x2 post w_o_refusal s0 → W p l e ({ frames := 3, cells := 0, slots := 0, locals := 68 } : Room) s m args below meth c H locs 0 0 Q (F0 m 51 ls [.int s0]) := by
    intro H locs ls w_o_refusal s0 hP hD hS hl h
    unfold P_X6_road_b51 at h
    rw [← hQ]
    exact gRetI (u := w_o_refusal) hx hb hr rfl h hP hD hS dX6_road_51 hlocks
  have B18 : ∀ (H : Heap) (locs : List Loc) (ls : Array Slot) (s1 : Int32), va_P D vwCl [(q_o, .inr (6, [.int v_o_refusal, .ref q_o_text, .int v_o_size, .ref q_o_now, .ref q_o_trial, .ref q_o_diary, .int v_o_acts, .ref q_o_kept, .ref q_o_isKept, .ref q_o_years, .int v_o_least, .int v_o_origins, .int v_o_ofAll, .int v_o_ofSome, .int v_o_sets, .int v_o_spot, .int v_o_out])), (q_o_now, gI Cs 221 v_o_now)] H → va_D A [(q_o, .inr (6, [.int v_o_refusal, .ref q_o_text, .int v_o_size, .ref q_o_now, .ref q_o_trial, .ref q_o_diary, .int v_o_acts, .ref q_o_kept, .ref q_o_isKept, .ref q_o_years, .int v_o_least, .int v_o_origins, .int v_o_ofAll, .int v_o_ofSome, .int v_o_sets, .int v_o_spot, .int v_o_out])), (q_o_now, gI Cs 221 v_o_now)] → va_S A s.heap H locs → lv_has ls 3 [(0, .ref q_o), (1, .int x1), (2, .int x2)] → P_X6_road_b18 v_o_refusal v_o_now x1 x2 post s1 → W p l e ({ frames := 3, cells := 0, slots := 0, locals := 68 } : Room) s m args below meth c H locs 0 0 Q (F0 m 18 ls [.int s1, .ref q_o]) := by
    intro H locs ls s1 hP hD hS hl h
    unfold P_X6_road_b18 at h
    refine gVM (wr := [(q_o_now, gI Cs 221 v_o_now)]) (As := [.int s1]) (rest := []) ⟨hx, hb, hml, hown, htb⟩ hK hP hD hS hA hN [0] [1] rfl (by decide) rfl (by decide) (by decide) (c_X6_refused l D Cs q_o q_o_text q_o_now q_o_trial q_o_diary q_o_kept q_o_isKept q_o_years H.size v_o_refusal v_o_size v_o_acts v_o_least v_o_origins v_o_ofAll v_o_ofSome v_o_sets v_o_spot v_o_out s1 h) (cwV 1 htb (TB_v tb_128 tb_129 tb_130 tb_5 (TB_self tb_131)) rfl rfl rfl z_X6_refused ⟨Nat.le_of_ble_eq_true rfl, Nat.le_of_ble_eq_true rfl⟩) 0 rfl rfl rfl rfl hl.1 rfl (Nat.le_of_ble_eq_true rfl) ⟨Nat.le_of_ble_eq_true rfl, Nat.le_of_ble_eq_true rfl⟩ dX6_road_18 (fun r_1 m_2 H locs h hP hD hS => ?_)
    have hP : va_P D vwCl [(q_o_now, gI Cs 221 v_o_now), (q_o, .inr (6, [.int m_2, .ref q_o_text, .int v_o_size, .ref q_o_now, .ref q_o_trial, .ref q_o_diary, .int v_o_acts, .ref q_o_kept, .ref q_o_isKept, .ref q_o_years, .int v_o_least, .int v_o_origins, .int v_o_ofAll, .int v_o_ofSome, .int v_o_sets, .int v_o_spot, .int v_o_out]))] H := hP
    have hD : va_D A [(q_o_now, gI Cs 221 v_o_now), (q_o, .inr (6, [.int m_2, .ref q_o_text, .int v_o_size, .ref q_o_now, .ref q_o_trial, .ref q_o_diary, .int v_o_acts, .ref q_o_kept, .ref q_o_isKept, .ref q_o_years, .int v_o_least, .int v_o_origins, .int v_o_ofAll, .int v_o_ofSome, .int v_o_sets, .int v_o_spot, .int v_o_out]))] := hD
    refine lv_if_eq (tgt := 26) hx hb dX6_road_21 (by decide) (fun c_3 => ?_) (fun c_3 => ?_)
    · have h := h.1 c_3
      refine lv_aload_n hx hb dX6_road_26 rfl (lv_at hl 0 rfl) ?_
      refine va_get (D := D) (ci := 6) (v := .ref q_o_now) (C := RX6) (T := TX6) (N := 17) hx hb htb inT_X6 hown hK hP 1 rfl rfl 3 (by decide) (htb _ tb_90) (fun _ h9 => h9) rfl dX6_road_27 ?_
      refine lv_iload_n hx hb dX6_road_30 rfl (lv_at hl 1 rfl) ?_
      refine lv_iload_n hx hb dX6_road_31 rfl (lv_at hl 2 rfl) ?_
      refine gSR (As := [.ref q_o_now, .int x1, .int x2]) (rest := []) ⟨hx, hb, hml, hown, htb⟩ hK hP hN [0] rfl (c_X6_length l D Cs q_o_now 221 v_o_now x1 x2 h) (va_cwS 3 htb (TB_s tb_368 tb_369 tb_5 (TB_self tb_370)) rfl rfl rfl z_X6_length.2 ⟨Nat.le_of_ble_eq_true rfl, Nat.le_of_ble_eq_true rfl⟩) rfl hl.1 rfl (Nat.le_of_ble_eq_true rfl) ⟨Nat.le_of_ble_eq_true rfl, Nat.le_of_ble_eq_true rfl⟩ dX6_road_32 (fun r_4 h => ?_)
      refine lv_if_ne (tgt := 42) hx hb dX6_road_35 (by decide) (fun c_5 => ?_) (fun c_5 => ?_)
      · have h := h.2 c_5
        refine lv_aload_n hx hb dX6_road_42 rfl (lv_at hl 0 rfl) ?_
        refine va_get (D := D) (ci := 6) (v := .ref q_o_now) (C := RX6) (T := TX6) (N := 17) hx hb htb inT_X6 hown hK hP 1 rfl rfl 3 (by decide) (htb _ tb_90) (fun _ h9 => h9) rfl dX6_road_43 ?_
        refine lv_iload_n hx hb dX6_road_46 rfl (lv_at hl 1 rfl) ?_
        refine lv_iload_n hx hb dX6_road_47 rfl (lv_at hl 2 rfl) ?_
        refine gSR (As := [.ref q_o_now, .int x1, .int x2]) (rest := []) ⟨hx, hb, hml, hown, htb⟩ hK hP hN [0] rfl (c_X6_length l D Cs q_o_now 221 v_o_now x1 x2 h) (va_cwS 3 htb (TB_s tb_368 tb_369 tb_5 (TB_self tb_370)) rfl rfl rfl z_X6_length.2 ⟨Nat.le_of_ble_eq_true rfl, Nat.le_of_ble_eq_true rfl⟩) rfl hl.1 rfl (Nat.le_of_ble_eq_true rfl) ⟨Nat.le_of_ble_eq_true rfl, Nat.le_of_ble_eq_true rfl⟩ dX6_road_48 (fun r_6 h => ?_)
        exact B51 _ _ _ m_2 r_6 (hP.sub [1, 0] rfl) (hD.sub [1, 0] (by decide) rfl) hS (lv_sub hl [0, 1, 2] rfl) h
      · have h := h.1 c_5
        refine lv_iconst (v := (-1 : Int32)) hx hb dX6_road_38 (by decide) ?_
        refine lv_goto (tgt := 51) hx hb dX6_road_39 (by decide) ?_
        exact B51 _ _ _ m_2 (-1 : Int32) (hP.sub [1, 0] rfl) (hD.sub [1, 0] (by decide) rfl) hS (lv_sub hl [0, 1, 2] rfl) h
    · have h := h.2 c_3
      refine lv_iconst (v := (0 : Int32)) hx hb dX6_road_24 (by decide) ?_
      rw [← hQ]
      exact gRetI (u := m_2) hx hb hr rfl h (hP.sub [1, 0] rfl) (hD.sub [1, 0] (by decide) rfl) hS dX6_road_25 hlocks
  unfold P_X6_road at h
  refine lv_aload_n hx hb dX6_road_0 rfl (lv_at hl 0 rfl) ?_
  refine lv_aload_n hx hb dX6_road_1 rfl (lv_at hl 0 rfl) ?_
  refine va_get (D := D) (ci := 6) (v := .ref q_o_now) (C := RX6) (T := TX6) (N := 17) hx hb htb inT_X6 hown hK hP 0 rfl rfl 3 (by decide) (htb _ tb_90) (fun _ h9 => h9) rfl dX6_road_2 ?_
  refine lv_iload_n hx hb dX6_road_5 rfl (lv_at hl 1 rfl) ?_
  refine lv_iload_n hx hb dX6_road_6 rfl (lv_at hl 2 rfl) ?_
  refine gSR (As := [.ref q_o_now, .int x1, .int x2]) (rest := [.ref q_o]) ⟨hx, hb, hml, hown, htb⟩ hK hP hN [1] rfl (c_X6_areTowns l D Cs q_o_now 221 v_o_now x1 x2 h) (va_cwS 3 htb (TB_s tb_399 tb_400 tb_5 (TB_self tb_401)) rfl rfl rfl z_X6_areTowns.2 ⟨Nat.le_of_ble_eq_true rfl, Nat.le_of_ble_eq_true rfl⟩) rfl hl.1 rfl (Nat.le_of_ble_eq_true rfl) ⟨Nat.le_of_ble_eq_true rfl, Nat.le_of_ble_eq_true rfl⟩ dX6_road_7 (fun r_7 h => ?_)
  refine lv_if_eq (tgt := 17) hx hb dX6_road_10 (by decide) (fun c_8 => ?_) (fun c_8 => ?_)
  · have h := h.1 c_8
    refine lv_iconst (v := (1 : Int32)) hx hb dX6_road_17 (by decide) ?_
    exact B18 _ _ _ (1 : Int32) hP hD hS (lv_sub hl [0, 1, 2] rfl) h
  · have h := h.2 c_8
    refine lv_iconst (v := (0 : Int32)) hx hb dX6_road_13 (by decide) ?_
    refine lv_goto (tgt := 18) hx hb dX6_road_14 (by decide) ?_
    exact B18 _ _ _ (0 : Int32) hP hD hS (lv_sub hl [0, 1, 2] rfl) h
set_option maxHeartbeats 4000000 in
set_option maxRecDepth 100000 in
theorem c_X6_neighbor (l : Launch) (D : va_G) (Cs : Nat → ClassId) (q_o : Nat) (q_o_text : Nat) (q_o_now : Nat) (q_o_trial : Nat) (q_o_diary : Nat) (q_o_kept : Nat) (q_o_isKept : Nat) (q_o_years : Nat) (sz : Nat) (v_o_refusal : Int32) (v_o_now : (Nat → Int32)) (v_o_size : Int32) (v_o_acts : Int32) (v_o_least : Int32) (v_o_origins : Int32) (v_o_ofAll : Int32) (v_o_ofSome : Int32) (v_o_sets : Int32) (v_o_spot : Int32) (v_o_out : Int32) (x1 : Int32) (x2 : Int32) {post : Int32 → Int32 → Prop} (h : P_X6_neighbor v_o_refusal v_o_now x1 x2 post) : Met l yX6_neighbor wsX6_neighbor ({ frames := 2, cells := 0, slots := 0, locals := 46 } : Room) (va_Pc [.ref q_o, .int x1, .int x2] (gM D Cs [(q_o, .inr (6, [.int v_o_refusal, .ref q_o_text, .int v_o_size, .ref q_o_now, .ref q_o_trial, .ref q_o_diary, .int v_o_acts, .ref q_o_kept, .ref q_o_isKept, .ref q_o_years, .int v_o_least, .int v_o_origins, .int v_o_ofAll, .int v_o_ofSome, .int v_o_sets, .int v_o_spot, .int v_o_out])), (q_o_now, gI Cs 221 v_o_now)] sz)) (va_Qi (fun (r : Int32) (u : Int32) => post r u) (gB D (va_A [(q_o, .inr (6, [.int v_o_refusal, .ref q_o_text, .int v_o_size, .ref q_o_now, .ref q_o_trial, .ref q_o_diary, .int v_o_acts, .ref q_o_kept, .ref q_o_isKept, .ref q_o_years, .int v_o_least, .int v_o_origins, .int v_o_ofAll, .int v_o_ofSome, .int v_o_sets, .int v_o_spot, .int v_o_out])), (q_o_now, gI Cs 221 v_o_now)] sz) (fun u : Int32 => [(q_o, .inr (6, [.int u, .ref q_o_text, .int v_o_size, .ref q_o_now, .ref q_o_trial, .ref q_o_diary, .int v_o_acts, .ref q_o_kept, .ref q_o_isKept, .ref q_o_years, .int v_o_least, .int v_o_origins, .int v_o_ofAll, .int v_o_ofSome, .int v_o_sets, .int v_o_spot, .int v_o_out])), (q_o_now, gI Cs 221 v_o_now)])) (va_A [(q_o, .inr (6, [.int v_o_refusal, .ref q_o_text, .int v_o_size, .ref q_o_now, .ref q_o_trial, .ref q_o_diary, .int v_o_acts, .ref q_o_kept, .ref q_o_isKept, .ref q_o_years, .int v_o_least, .int v_o_origins, .int v_o_ofAll, .int v_o_ofSome, .int v_o_sets, .int v_o_spot, .int v_o_out])), (q_o_now, gI Cs 221 v_o_now)] sz)) 0 0 (va_A [(q_o, .inr (6, [.int v_o_refusal, .ref q_o_text, .int v_o_size, .ref q_o_now, .ref q_o_trial, .ref q_o_diary, .int v_o_acts, .ref q_o_kept, .ref q_o_isKept, .ref q_o_years, .int v_o_least, .int v_o_origins, .int v_o_ofAll, .int v_o_ofSome, .int v_o_sets, .int v_o_spot, .int v_o_out])), (q_o_now, gI Cs 221 v_o_now)] sz) := by
  refine Met.ofW (cc := cX6_neighbor) (maxL := 5) (ret := (some .int)) (by decide) rfl ?_
  intro p e s m args below meth c s₁ B hml hv
  obtain ⟨ha, hsz, hP, hK, hD0, hN⟩ := hv
  have hx := B.exec
  have hb := B.bytes
  have hr := B.returns
  have hts := atoms_spec (ws := wsX6_neighbor) B.pre
  have htb : ∀ w ∈ TB, w.before args s = true := fun w h9 => hts w (List.mem_cons_of_mem _ h9)
  have hown : s.vm.findClass RX6 = some m.cls := findClass_of_methodNamed B.named
  have hlocks := B.notSynchronized
  subst hsz
  have hD := hD0.self (sz := s.heap.size)
  generalize hAe : va_A [(q_o, .inr (6, [.int v_o_refusal, .ref q_o_text, .int v_o_size, .ref q_o_now, .ref q_o_trial, .ref q_o_diary, .int v_o_acts, .ref q_o_kept, .ref q_o_isKept, .ref q_o_years, .int v_o_least, .int v_o_origins, .int v_o_ofAll, .int v_o_ofSome, .int v_o_sets, .int v_o_spot, .int v_o_out])), (q_o_now, gI Cs 221 v_o_now)] s.heap.size = A at hD ⊢
  have hA : ∀ q : Nat, s.heap.size ≤ q → A q := fun q h9 => by rw [← hAe]; exact Or.inr h9
  obtain ⟨H, hH⟩ : ∃ z : Heap, z = s.heap := ⟨_, rfl⟩
  have hS : va_S A s.heap H [] := by rw [hH]; exact va_S.rf
  have hP : va_P D vwCl [(q_o, .inr (6, [.int v_o_refusal, .ref q_o_text, .int v_o_size, .ref q_o_now, .ref q_o_trial, .ref q_o_diary, .int v_o_acts, .ref q_o_kept, .ref q_o_isKept, .ref q_o_years, .int v_o_least, .int v_o_origins, .int v_o_ofAll, .int v_o_ofSome, .int v_o_sets, .int v_o_spot, .int v_o_out])), (q_o_now, gI Cs 221 v_o_now)] H := by rw [hH]; exact hP
  generalize hQ : MQ below _ args s _ _ _ = Q
  show W p l e ({ frames := 2, cells := 0, slots := 0, locals := 46 } : Room) s m args below meth c s.heap [] 0 0 Q (entryFrame m args 5)
  have hent : entryFrame m args 5 = F0 m 0 ((lg_sl ([.ref q_o, .int x1, .int x2]) ++ List.replicate (5 - (lg_sl ([.ref q_o, .int x1, .int x2])).length) Slot.unset).toArray) [] := by rw [ha]; exact lg_entry_eq m ([.ref q_o, .int x1, .int x2]) 5
  rw [hent]; clear hent
  rw [← hH]
  have hl := lv_entry ([.ref q_o, .int x1, .int x2]) (n := 5) (Nat.le_of_ble_eq_true rfl)
  generalize (lg_sl ([.ref q_o, .int x1, .int x2]) ++ List.replicate (5 - (lg_sl ([.ref q_o, .int x1, .int x2])).length) Slot.unset).toArray = ls at hl ⊢
  have hl : lv_has ls 5 [(0, .ref q_o), (1, .int x1), (2, .int x2)] := hl
  have L38 : ∀ (n : Nat) (H : Heap) (locs : List Loc) (ls : Array Slot) (w_o_refusal : Int32) (x3 : Int32) (x4 : Int32), va_P D vwCl [(q_o, .inr (6, [.int w_o_refusal, .ref q_o_text, .int v_o_size, .ref q_o_now, .ref q_o_trial, .ref q_o_diary, .int v_o_acts, .ref q_o_kept, .ref q_o_isKept, .ref q_o_years, .int v_o_least, .int v_o_origins, .int v_o_ofAll, .int v_o_ofSome, .int v_o_sets, .int v_o_spot, .int v_o_out])), (q_o_now, gI Cs 221 v_o_now)] H → va_D A [(q_o, .inr (6, [.int w_o_refusal, .ref q_o_text, .int v_o_size, .ref q_o_now, .ref q_o_trial, .ref q_o_diary, .int v_o_acts, .ref q_o_kept, .ref q_o_isKept, .ref q_o_years, .int v_o_least, .int v_o_origins, .int v_o_ofAll, .int v_o_ofSome, .int v_o_sets, .int v_o_spot, .int v_o_out])), (q_o_now, gI Cs 221 v_o_now)] → va_S A s.heap H locs → lv_has ls 5 [(0, .ref q_o), (1, .int x1), (2, .int x2), (3, .int x3), (4, .int x4)] → P_X6_neighbor_l38 v_o_refusal v_o_now x1 x2 post n w_o_refusal x3 x4 → W p l e ({ frames := 2, cells := 0, slots := 0, locals := 46 } : Room) s m args below meth c H locs 0 0 Q (F0 m 38 ls []) := by
    intro n38
    induction n38 with
    | zero => intro H locs ls w_o_refusal x3 x4 hP hD hS hl h; exact False.elim h
    | succ n38 ih38 =>
      have B72 : ∀ (H : Heap) (locs : List Loc) (ls : Array Slot) (w_o_refusal : Int32) (x3 : Int32) (x4 : Int32), va_P D vwCl [(q_o, .inr (6, [.int w_o_refusal, .ref q_o_text, .int v_o_size, .ref q_o_now, .ref q_o_trial, .ref q_o_diary, .int v_o_acts, .ref q_o_kept, .ref q_o_isKept, .ref q_o_years, .int v_o_least, .int v_o_origins, .int v_o_ofAll, .int v_o_ofSome, .int v_o_sets, .int v_o_spot, .int v_o_out])), (q_o_now, gI Cs 221 v_o_now)] H → va_D A [(q_o, .inr (6, [.int w_o_refusal, .ref q_o_text, .int v_o_size, .ref q_o_now, .ref q_o_trial, .ref q_o_diary, .int v_o_acts, .ref q_o_kept, .ref q_o_isKept, .ref q_o_years, .int v_o_least, .int v_o_origins, .int v_o_ofAll, .int v_o_ofSome, .int v_o_sets, .int v_o_spot, .int v_o_out])), (q_o_now, gI Cs 221 v_o_now)] → va_S A s.heap H locs → lv_has ls 5 [(0, .ref q_o), (1, .int x1), (2, .int x2), (3, .int x3), (4, .int x4)] → P_X6_neighbor_b72 v_o_refusal v_o_now x1 x2 post (P_X6_neighbor_l38 v_o_refusal v_o_now x1 x2 post n38) w_o_refusal x3 x4 → W p l e ({ frames := 2, cells := 0, slots := 0, locals := 46 } : Room) s m args below meth c H locs 0 0 Q (F0 m 72 ls []) := by
        intro H locs ls w_o_refusal x3 x4 hP hD hS hl h
        unfold P_X6_neighbor_b72 at h
        obtain ⟨x4_1, ex4_1⟩ : ∃ y : Int32, y = x4 + (1 : Int32) := ⟨_, rfl⟩
        have h := h _ ex4_1
        refine lv_iinc (v := x4_1) (lv' := [(4, .int x4_1), (0, .ref q_o), (1, .int x1), (2, .int x2), (3, .int x3)]) hx hb dX6_neighbor_72 hl (k := 4) rfl (by rw [ex4_1]; rfl) (by decide) rfl (fun ls hl => ?_)
        refine lv_goto (tgt := 38) hx hb dX6_neighbor_75 (by decide) ?_
        exact ih38 _ _ _ w_o_refusal x3 x4_1 hP hD hS (lv_sub hl [1, 2, 3, 4, 0] rfl) h
      intro H locs ls w_o_refusal x3 x4 hP hD hS hl h
      replace h : P_X6_neighbor_b38 v_o_refusal v_o_now x1 x2 post (P_X6_neighbor_l38 v_o_refusal v_o_now x1 x2 post n38) w_o_refusal x3 x4 := h
      unfold P_X6_neighbor_b38 at h
      refine lv_iload hx hb dX6_neighbor_38 (lv_at hl 4 rfl) ?_
      refine lv_aload_n hx hb dX6_neighbor_40 rfl (lv_at hl 0 rfl) ?_
      refine va_get (D := D) (ci := 6) (v := .ref q_o_now) (C := RX6) (T := TX6) (N := 17) hx hb htb inT_X6 hown hK hP 0 rfl rfl 3 (by decide) (htb _ tb_90) (fun _ h9 => h9) rfl dX6_neighbor_41 ?_
      refine lv_iconst (v := (0 : Int32)) hx hb dX6_neighbor_44 (by decide) ?_
      refine va_iald hx hb hK hP 1 0 rfl rfl (by unfold vp_in; decide) dX6_neighbor_45 ?_
      refine lv_icmp_ge (tgt := 78) hx hb dX6_neighbor_46 (by decide) (fun c_2 => ?_) (fun c_2 => ?_)
      · have h := h.1 c_2
        refine lv_iconst (v := (-1 : Int32)) hx hb dX6_neighbor_78 (by decide) ?_
        rw [← hQ]
        exact gRetI (u := w_o_refusal) hx hb hr rfl h hP hD hS dX6_neighbor_79 hlocks
      · have h := h.2 c_2
        refine lv_aload_n hx hb dX6_neighbor_49 rfl (lv_at hl 0 rfl) ?_
        refine va_get (D := D) (ci := 6) (v := .ref q_o_now) (C := RX6) (T := TX6) (N := 17) hx hb htb inT_X6 hown hK hP 0 rfl rfl 3 (by decide) (htb _ tb_90) (fun _ h9 => h9) rfl dX6_neighbor_50 ?_
        refine lv_iload_n hx hb dX6_neighbor_53 rfl (lv_at hl 1 rfl) ?_
        refine lv_iload hx hb dX6_neighbor_54 (lv_at hl 4 rfl) ?_
        refine gSR (As := [.ref q_o_now, .int x1, .int x4]) (rest := []) ⟨hx, hb, hml, hown, htb⟩ hK hP hN [1] rfl (c_X6_length l D Cs q_o_now 221 v_o_now x1 x4 h) (va_cwS 3 htb (TB_s tb_368 tb_369 tb_5 (TB_self tb_370)) rfl rfl rfl z_X6_length.2 ⟨Nat.le_of_ble_eq_true rfl, Nat.le_of_ble_eq_true rfl⟩) rfl hl.1 rfl (Nat.le_of_ble_eq_true rfl) ⟨Nat.le_of_ble_eq_true rfl, Nat.le_of_ble_eq_true rfl⟩ dX6_neighbor_56 (fun r_3 h => ?_)
        refine lv_if_le (tgt := 72) hx hb dX6_neighbor_59 (by decide) (fun c_4 => ?_) (fun c_4 => ?_)
        · have h := h.1 c_4
          exact B72 _ _ _ w_o_refusal x3 x4 hP hD hS (lv_sub hl [0, 1, 2, 3, 4] rfl) h
        · have h := h.2 c_4
          refine lv_iload_n hx hb dX6_neighbor_62 rfl (lv_at hl 3 rfl) ?_
          refine lv_if_ne (tgt := 69) hx hb dX6_neighbor_63 (by decide) (fun c_5 => ?_) (fun c_5 => ?_)
          · have h := h.2 c_5
            obtain ⟨x3_6, ex3_6⟩ : ∃ y : Int32, y = x3 + (-1 : Int32) := ⟨_, rfl⟩
            have h := h _ ex3_6
            refine lv_iinc (v := x3_6) (lv' := [(3, .int x3_6), (0, .ref q_o), (1, .int x1), (2, .int x2), (4, .int x4)]) hx hb dX6_neighbor_69 hl (k := 3) rfl (by rw [ex3_6]; rfl) (by decide) rfl (fun ls hl => ?_)
            exact B72 _ _ _ w_o_refusal x3_6 x4 hP hD hS (lv_sub hl [1, 2, 3, 0, 4] rfl) h
          · have h := h.1 c_5
            refine lv_iload hx hb dX6_neighbor_66 (lv_at hl 4 rfl) ?_
            rw [← hQ]
            exact gRetI (u := w_o_refusal) hx hb hr rfl h hP hD hS dX6_neighbor_68 hlocks
  have B25 : ∀ (H : Heap) (locs : List Loc) (ls : Array Slot) (s1 : Int32), va_P D vwCl [(q_o, .inr (6, [.int v_o_refusal, .ref q_o_text, .int v_o_size, .ref q_o_now, .ref q_o_trial, .ref q_o_diary, .int v_o_acts, .ref q_o_kept, .ref q_o_isKept, .ref q_o_years, .int v_o_least, .int v_o_origins, .int v_o_ofAll, .int v_o_ofSome, .int v_o_sets, .int v_o_spot, .int v_o_out])), (q_o_now, gI Cs 221 v_o_now)] H → va_D A [(q_o, .inr (6, [.int v_o_refusal, .ref q_o_text, .int v_o_size, .ref q_o_now, .ref q_o_trial, .ref q_o_diary, .int v_o_acts, .ref q_o_kept, .ref q_o_isKept, .ref q_o_years, .int v_o_least, .int v_o_origins, .int v_o_ofAll, .int v_o_ofSome, .int v_o_sets, .int v_o_spot, .int v_o_out])), (q_o_now, gI Cs 221 v_o_now)] → va_S A s.heap H locs → lv_has ls 5 [(0, .ref q_o), (1, .int x1), (2, .int x2)] → P_X6_neighbor_b25 v_o_refusal v_o_now x1 x2 post s1 → W p l e ({ frames := 2, cells := 0, slots := 0, locals := 46 } : Room) s m args below meth c H locs 0 0 Q (F0 m 25 ls [.int s1, .ref q_o]) := by
    intro H locs ls s1 hP hD hS hl h
    unfold P_X6_neighbor_b25 at h
    refine gVM (wr := [(q_o_now, gI Cs 221 v_o_now)]) (As := [.int s1]) (rest := []) ⟨hx, hb, hml, hown, htb⟩ hK hP hD hS hA hN [0] [1] rfl (by decide) rfl (by decide) (by decide) (c_X6_refused l D Cs q_o q_o_text q_o_now q_o_trial q_o_diary q_o_kept q_o_isKept q_o_years H.size v_o_refusal v_o_size v_o_acts v_o_least v_o_origins v_o_ofAll v_o_ofSome v_o_sets v_o_spot v_o_out s1 h) (cwV 1 htb (TB_v tb_128 tb_129 tb_130 tb_5 (TB_self tb_131)) rfl rfl rfl z_X6_refused ⟨Nat.le_of_ble_eq_true rfl, Nat.le_of_ble_eq_true rfl⟩) 0 rfl rfl rfl rfl hl.1 rfl (Nat.le_of_ble_eq_true rfl) ⟨Nat.le_of_ble_eq_true rfl, Nat.le_of_ble_eq_true rfl⟩ dX6_neighbor_25 (fun r_7 m_8 H locs h hP hD hS => ?_)
    have hP : va_P D vwCl [(q_o_now, gI Cs 221 v_o_now), (q_o, .inr (6, [.int m_8, .ref q_o_text, .int v_o_size, .ref q_o_now, .ref q_o_trial, .ref q_o_diary, .int v_o_acts, .ref q_o_kept, .ref q_o_isKept, .ref q_o_years, .int v_o_least, .int v_o_origins, .int v_o_ofAll, .int v_o_ofSome, .int v_o_sets, .int v_o_spot, .int v_o_out]))] H := hP
    have hD : va_D A [(q_o_now, gI Cs 221 v_o_now), (q_o, .inr (6, [.int m_8, .ref q_o_text, .int v_o_size, .ref q_o_now, .ref q_o_trial, .ref q_o_diary, .int v_o_acts, .ref q_o_kept, .ref q_o_isKept, .ref q_o_years, .int v_o_least, .int v_o_origins, .int v_o_ofAll, .int v_o_ofSome, .int v_o_sets, .int v_o_spot, .int v_o_out]))] := hD
    refine lv_if_eq (tgt := 33) hx hb dX6_neighbor_28 (by decide) (fun c_9 => ?_) (fun c_9 => ?_)
    · have h := h.1 c_9
      refine lv_iload_n hx hb dX6_neighbor_33 rfl (lv_at hl 2 rfl) ?_
      refine lv_istore_n (lv' := [(3, .int x2), (0, .ref q_o), (1, .int x1), (2, .int x2)]) hx hb dX6_neighbor_34 rfl hl (by decide) rfl (fun ls hl => ?_)
      refine lv_iconst (v := (0 : Int32)) hx hb dX6_neighbor_35 (by decide) ?_
      refine lv_istore (lv' := [(4, .int (0 : Int32)), (3, .int x2), (0, .ref q_o), (1, .int x1), (2, .int x2)]) hx hb dX6_neighbor_36 hl (by decide) rfl (fun ls hl => ?_)
      obtain ⟨n, h⟩ := h
      exact L38 n _ _ _ m_8 x2 (0 : Int32) (hP.sub [1, 0] rfl) (hD.sub [1, 0] (by decide) rfl) hS (lv_sub hl [2, 3, 4, 1, 0] rfl) h
    · have h := h.2 c_9
      refine lv_iconst (v := (0 : Int32)) hx hb dX6_neighbor_31 (by decide) ?_
      rw [← hQ]
      exact gRetI (u := m_8) hx hb hr rfl h (hP.sub [1, 0] rfl) (hD.sub [1, 0] (by decide) rfl) hS dX6_neighbor_32 hlocks
  unfold P_X6_neighbor at h
  refine lv_aload_n hx hb dX6_neighbor_0 rfl (lv_at hl 0 rfl) ?_
  refine lv_aload_n hx hb dX6_neighbor_1 rfl (lv_at hl 0 rfl) ?_
  refine va_get (D := D) (ci := 6) (v := .ref q_o_now) (C := RX6) (T := TX6) (N := 17) hx hb htb inT_X6 hown hK hP 0 rfl rfl 3 (by decide) (htb _ tb_90) (fun _ h9 => h9) rfl dX6_neighbor_2 ?_
  refine lv_iload_n hx hb dX6_neighbor_5 rfl (lv_at hl 1 rfl) ?_
  refine gSR (As := [.ref q_o_now, .int x1]) (rest := [.ref q_o]) ⟨hx, hb, hml, hown, htb⟩ hK hP hN [1] rfl (c_X6_isTown l D Cs q_o_now 221 v_o_now x1 h) (va_cwS 2 htb (TB_s tb_197 tb_198 tb_5 (TB_self tb_199)) rfl rfl rfl z_X6_isTown.2 ⟨Nat.le_of_ble_eq_true rfl, Nat.le_of_ble_eq_true rfl⟩) rfl hl.1 rfl (Nat.le_of_ble_eq_true rfl) ⟨Nat.le_of_ble_eq_true rfl, Nat.le_of_ble_eq_true rfl⟩ dX6_neighbor_6 (fun r_10 h => ?_)
  refine lv_if_ne (tgt := 16) hx hb dX6_neighbor_9 (by decide) (fun c_11 => ?_) (fun c_11 => ?_)
  · have h := h.2 c_11
    refine lv_iload_n hx hb dX6_neighbor_16 rfl (lv_at hl 2 rfl) ?_
    refine lv_if_ge (tgt := 24) hx hb dX6_neighbor_17 (by decide) (fun c_12 => ?_) (fun c_12 => ?_)
    · have h := h.1 c_12
      refine lv_iconst (v := (0 : Int32)) hx hb dX6_neighbor_24 (by decide) ?_
      exact B25 _ _ _ (0 : Int32) hP hD hS (lv_sub hl [0, 1, 2] rfl) h
    · have h := h.2 c_12
      refine lv_iconst (v := (2 : Int32)) hx hb dX6_neighbor_20 (by decide) ?_
      refine lv_goto (tgt := 25) hx hb dX6_neighbor_21 (by decide) ?_
      exact B25 _ _ _ (2 : Int32) hP hD hS (lv_sub hl [0, 1, 2] rfl) h
  · have h := h.1 c_11
    refine lv_iconst (v := (1 : Int32)) hx hb dX6_neighbor_12 (by decide) ?_
    refine lv_goto (tgt := 25) hx hb dX6_neighbor_13 (by decide) ?_
    exact B25 _ _ _ (1 : Int32) hP hD hS (lv_sub hl [0, 1, 2] rfl) h
set_option maxHeartbeats 4000000 in
set_option maxRecDepth 100000 in
theorem c_X6_report (l : Launch) (D : va_G) (Cs : Nat → ClassId) (q_o : Nat) (q_o_text : Nat) (q_o_now : Nat) (q_o_trial : Nat) (q_o_diary : Nat) (q_o_kept : Nat) (q_o_isKept : Nat) (q_o_years : Nat) (sz : Nat) (v_o_refusal : Int32) (v_o_now : (Nat → Int32)) (v_o_size : Int32) (v_o_acts : Int32) (v_o_least : Int32) (v_o_origins : Int32) (v_o_ofAll : Int32) (v_o_ofSome : Int32) (v_o_sets : Int32) (v_o_spot : Int32) (v_o_out : Int32) (x1 : Int32) (x2 : Int32) (x3 : Int32) {post : Int32 → Int32 → Prop} (h : P_X6_report v_o_refusal v_o_now x1 x2 x3 post) : Met l yX6_report wsX6_report ({ frames := 2, cells := 0, slots := 0, locals := 46 } : Room) (va_Pc [.ref q_o, .int x1, .int x2, .int x3] (gM D Cs [(q_o, .inr (6, [.int v_o_refusal, .ref q_o_text, .int v_o_size, .ref q_o_now, .ref q_o_trial, .ref q_o_diary, .int v_o_acts, .ref q_o_kept, .ref q_o_isKept, .ref q_o_years, .int v_o_least, .int v_o_origins, .int v_o_ofAll, .int v_o_ofSome, .int v_o_sets, .int v_o_spot, .int v_o_out])), (q_o_now, gI Cs 221 v_o_now)] sz)) (va_Qi (fun (r : Int32) (u : Int32) => post r u) (gB D (va_A [(q_o, .inr (6, [.int v_o_refusal, .ref q_o_text, .int v_o_size, .ref q_o_now, .ref q_o_trial, .ref q_o_diary, .int v_o_acts, .ref q_o_kept, .ref q_o_isKept, .ref q_o_years, .int v_o_least, .int v_o_origins, .int v_o_ofAll, .int v_o_ofSome, .int v_o_sets, .int v_o_spot, .int v_o_out])), (q_o_now, gI Cs 221 v_o_now)] sz) (fun u : Int32 => [(q_o, .inr (6, [.int u, .ref q_o_text, .int v_o_size, .ref q_o_now, .ref q_o_trial, .ref q_o_diary, .int v_o_acts, .ref q_o_kept, .ref q_o_isKept, .ref q_o_years, .int v_o_least, .int v_o_origins, .int v_o_ofAll, .int v_o_ofSome, .int v_o_sets, .int v_o_spot, .int v_o_out])), (q_o_now, gI Cs 221 v_o_now)])) (va_A [(q_o, .inr (6, [.int v_o_refusal, .ref q_o_text, .int v_o_size, .ref q_o_now, .ref q_o_trial, .ref q_o_diary, .int v_o_acts, .ref q_o_kept, .ref q_o_isKept, .ref q_o_years, .int v_o_least, .int v_o_origins, .int v_o_ofAll, .int v_o_ofSome, .int v_o_sets, .int v_o_spot, .int v_o_out])), (q_o_now, gI Cs 221 v_o_now)] sz)) 0 0 (va_A [(q_o, .inr (6, [.int v_o_refusal, .ref q_o_text, .int v_o_size, .ref q_o_now, .ref q_o_trial, .ref q_o_diary, .int v_o_acts, .ref q_o_kept, .ref q_o_isKept, .ref q_o_years, .int v_o_least, .int v_o_origins, .int v_o_ofAll, .int v_o_ofSome, .int v_o_sets, .int v_o_spot, .int v_o_out])), (q_o_now, gI Cs 221 v_o_now)] sz) := by
  refine Met.ofW (cc := cX6_report) (maxL := 4) (ret := (some .int)) (by decide) rfl ?_
  intro p e s m args below meth c s₁ B hml hv
  obtain ⟨ha, hsz, hP, hK, hD0, hN⟩ := hv
  have hx := B.exec
  have hb := B.bytes
  have hr := B.returns
  have hts := atoms_spec (ws := wsX6_report) B.pre
  have htb : ∀ w ∈ TB, w.before args s = true := fun w h9 => hts w (List.mem_cons_of_mem _ h9)
  have hown : s.vm.findClass RX6 = some m.cls := findClass_of_methodNamed B.named
  have hlocks := B.notSynchronized
  subst hsz
  have hD := hD0.self (sz := s.heap.size)
  generalize hAe : va_A [(q_o, .inr (6, [.int v_o_refusal, .ref q_o_text, .int v_o_size, .ref q_o_now, .ref q_o_trial, .ref q_o_diary, .int v_o_acts, .ref q_o_kept, .ref q_o_isKept, .ref q_o_years, .int v_o_least, .int v_o_origins, .int v_o_ofAll, .int v_o_ofSome, .int v_o_sets, .int v_o_spot, .int v_o_out])), (q_o_now, gI Cs 221 v_o_now)] s.heap.size = A at hD ⊢
  have hA : ∀ q : Nat, s.heap.size ≤ q → A q := fun q h9 => by rw [← hAe]; exact Or.inr h9
  obtain ⟨H, hH⟩ : ∃ z : Heap, z = s.heap := ⟨_, rfl⟩
  have hS : va_S A s.heap H [] := by rw [hH]; exact va_S.rf
  have hP : va_P D vwCl [(q_o, .inr (6, [.int v_o_refusal, .ref q_o_text, .int v_o_size, .ref q_o_now, .ref q_o_trial, .ref q_o_diary, .int v_o_acts, .ref q_o_kept, .ref q_o_isKept, .ref q_o_years, .int v_o_least, .int v_o_origins, .int v_o_ofAll, .int v_o_ofSome, .int v_o_sets, .int v_o_spot, .int v_o_out])), (q_o_now, gI Cs 221 v_o_now)] H := by rw [hH]; exact hP
  generalize hQ : MQ below _ args s _ _ _ = Q
  show W p l e ({ frames := 2, cells := 0, slots := 0, locals := 46 } : Room) s m args below meth c s.heap [] 0 0 Q (entryFrame m args 4)
  have hent : entryFrame m args 4 = F0 m 0 ((lg_sl ([.ref q_o, .int x1, .int x2, .int x3]) ++ List.replicate (4 - (lg_sl ([.ref q_o, .int x1, .int x2, .int x3])).length) Slot.unset).toArray) [] := by rw [ha]; exact lg_entry_eq m ([.ref q_o, .int x1, .int x2, .int x3]) 4
  rw [hent]; clear hent
  rw [← hH]
  have hl := lv_entry ([.ref q_o, .int x1, .int x2, .int x3]) (n := 4) (Nat.le_of_ble_eq_true rfl)
  generalize (lg_sl ([.ref q_o, .int x1, .int x2, .int x3]) ++ List.replicate (4 - (lg_sl ([.ref q_o, .int x1, .int x2, .int x3])).length) Slot.unset).toArray = ls at hl ⊢
  have hl : lv_has ls 4 [(0, .ref q_o), (1, .int x1), (2, .int x2), (3, .int x3)] := hl
  have B52 : ∀ (H : Heap) (locs : List Loc) (ls : Array Slot) (w_o_refusal : Int32) (s1 : Int32), va_P D vwCl [(q_o, .inr (6, [.int w_o_refusal, .ref q_o_text, .int v_o_size, .ref q_o_now, .ref q_o_trial, .ref q_o_diary, .int v_o_acts, .ref q_o_kept, .ref q_o_isKept, .ref q_o_years, .int v_o_least, .int v_o_origins, .int v_o_ofAll, .int v_o_ofSome, .int v_o_sets, .int v_o_spot, .int v_o_out])), (q_o_now, gI Cs 221 v_o_now)] H → va_D A [(q_o, .inr (6, [.int w_o_refusal, .ref q_o_text, .int v_o_size, .ref q_o_now, .ref q_o_trial, .ref q_o_diary, .int v_o_acts, .ref q_o_kept, .ref q_o_isKept, .ref q_o_years, .int v_o_least, .int v_o_origins, .int v_o_ofAll, .int v_o_ofSome, .int v_o_sets, .int v_o_spot, .int v_o_out])), (q_o_now, gI Cs 221 v_o_now)] → va_S A s.heap H locs → lv_has ls 4 [(0, .ref q_o), (1, .int x1), (2, .int x2), (3, .int x3)] → P_X6_report_b52 v_o_refusal v_o_now x1 x2 x3 post w_o_refusal s1 → W p l e ({ frames := 2, cells := 0, slots := 0, locals := 46 } : Room) s m args below meth c H locs 0 0 Q (F0 m 52 ls [.int s1, .ref q_o_now]) := by
    intro H locs ls w_o_refusal s1 hP hD hS hl h
    unfold P_X6_report_b52 at h
    refine lv_iload_n hx hb dX6_report_52 rfl (lv_at hl 1 rfl) ?_
    refine lv_iload_n hx hb dX6_report_53 rfl (lv_at hl 2 rfl) ?_
    refine gSR (As := [.int x1, .int x2]) (rest := [.int s1, .ref q_o_now]) ⟨hx, hb, hml, hown, htb⟩ hK hP hN [] rfl (c_X6_at l D Cs x1 x2 h) (va_cwS 2 htb (TB_s tb_203 tb_204 tb_5 (TB_self tb_205)) rfl rfl rfl z_X6_at.2 ⟨Nat.le_of_ble_eq_true rfl, Nat.le_of_ble_eq_true rfl⟩) rfl hl.1 rfl (Nat.le_of_ble_eq_true rfl) ⟨Nat.le_of_ble_eq_true rfl, Nat.le_of_ble_eq_true rfl⟩ dX6_report_54 (fun r_1 h => ?_)
    refine lv_iadd hx hb dX6_report_57 ?_
    obtain ⟨hi_2, h⟩ := h
    refine va_iald hx hb hK hP 1 0 rfl rfl hi_2 dX6_report_58 ?_
    refine lv_iconst (v := (1 : Int32)) hx hb dX6_report_59 (by decide) ?_
    refine lv_isub hx hb dX6_report_60 ?_
    rw [← hQ]
    exact gRetI (u := w_o_refusal) hx hb hr rfl h hP hD hS dX6_report_61 hlocks
  have B28 : ∀ (H : Heap) (locs : List Loc) (ls : Array Slot) (s1 : Int32), va_P D vwCl [(q_o, .inr (6, [.int v_o_refusal, .ref q_o_text, .int v_o_size, .ref q_o_now, .ref q_o_trial, .ref q_o_diary, .int v_o_acts, .ref q_o_kept, .ref q_o_isKept, .ref q_o_years, .int v_o_least, .int v_o_origins, .int v_o_ofAll, .int v_o_ofSome, .int v_o_sets, .int v_o_spot, .int v_o_out])), (q_o_now, gI Cs 221 v_o_now)] H → va_D A [(q_o, .inr (6, [.int v_o_refusal, .ref q_o_text, .int v_o_size, .ref q_o_now, .ref q_o_trial, .ref q_o_diary, .int v_o_acts, .ref q_o_kept, .ref q_o_isKept, .ref q_o_years, .int v_o_least, .int v_o_origins, .int v_o_ofAll, .int v_o_ofSome, .int v_o_sets, .int v_o_spot, .int v_o_out])), (q_o_now, gI Cs 221 v_o_now)] → va_S A s.heap H locs → lv_has ls 4 [(0, .ref q_o), (1, .int x1), (2, .int x2), (3, .int x3)] → P_X6_report_b28 v_o_refusal v_o_now x1 x2 x3 post s1 → W p l e ({ frames := 2, cells := 0, slots := 0, locals := 46 } : Room) s m args below meth c H locs 0 0 Q (F0 m 28 ls [.int s1, .ref q_o]) := by
    intro H locs ls s1 hP hD hS hl h
    unfold P_X6_report_b28 at h
    refine gVM (wr := [(q_o_now, gI Cs 221 v_o_now)]) (As := [.int s1]) (rest := []) ⟨hx, hb, hml, hown, htb⟩ hK hP hD hS hA hN [0] [1] rfl (by decide) rfl (by decide) (by decide) (c_X6_refused l D Cs q_o q_o_text q_o_now q_o_trial q_o_diary q_o_kept q_o_isKept q_o_years H.size v_o_refusal v_o_size v_o_acts v_o_least v_o_origins v_o_ofAll v_o_ofSome v_o_sets v_o_spot v_o_out s1 h) (cwV 1 htb (TB_v tb_128 tb_129 tb_130 tb_5 (TB_self tb_131)) rfl rfl rfl z_X6_refused ⟨Nat.le_of_ble_eq_true rfl, Nat.le_of_ble_eq_true rfl⟩) 0 rfl rfl rfl rfl hl.1 rfl (Nat.le_of_ble_eq_true rfl) ⟨Nat.le_of_ble_eq_true rfl, Nat.le_of_ble_eq_true rfl⟩ dX6_report_28 (fun r_3 m_4 H locs h hP hD hS => ?_)
    have hP : va_P D vwCl [(q_o_now, gI Cs 221 v_o_now), (q_o, .inr (6, [.int m_4, .ref q_o_text, .int v_o_size, .ref q_o_now, .ref q_o_trial, .ref q_o_diary, .int v_o_acts, .ref q_o_kept, .ref q_o_isKept, .ref q_o_years, .int v_o_least, .int v_o_origins, .int v_o_ofAll, .int v_o_ofSome, .int v_o_sets, .int v_o_spot, .int v_o_out]))] H := hP
    have hD : va_D A [(q_o_now, gI Cs 221 v_o_now), (q_o, .inr (6, [.int m_4, .ref q_o_text, .int v_o_size, .ref q_o_now, .ref q_o_trial, .ref q_o_diary, .int v_o_acts, .ref q_o_kept, .ref q_o_isKept, .ref q_o_years, .int v_o_least, .int v_o_origins, .int v_o_ofAll, .int v_o_ofSome, .int v_o_sets, .int v_o_spot, .int v_o_out]))] := hD
    refine lv_if_eq (tgt := 36) hx hb dX6_report_31 (by decide) (fun c_5 => ?_) (fun c_5 => ?_)
    · have h := h.1 c_5
      refine lv_aload_n hx hb dX6_report_36 rfl (lv_at hl 0 rfl) ?_
      refine va_get (D := D) (ci := 6) (v := .ref q_o_now) (C := RX6) (T := TX6) (N := 17) hx hb htb inT_X6 hown hK hP 1 rfl rfl 3 (by decide) (htb _ tb_90) (fun _ h9 => h9) rfl dX6_report_37 ?_
      refine lv_iload_n hx hb dX6_report_40 rfl (lv_at hl 3 rfl) ?_
      refine lv_if_eq (tgt := 49) hx hb dX6_report_41 (by decide) (fun c_6 => ?_) (fun c_6 => ?_)
      · have h := h.1 c_6
        refine lv_sipush (v := (161 : Int32)) hx hb dX6_report_49 (by decide) ?_
        exact B52 _ _ _ m_4 (161 : Int32) (hP.sub [1, 0] rfl) (hD.sub [1, 0] (by decide) rfl) hS (lv_sub hl [0, 1, 2, 3] rfl) h
      · have h := h.2 c_6
        refine lv_bipush (v := (101 : Int32)) hx hb dX6_report_44 (by decide) ?_
        refine lv_goto (tgt := 52) hx hb dX6_report_46 (by decide) ?_
        exact B52 _ _ _ m_4 (101 : Int32) (hP.sub [1, 0] rfl) (hD.sub [1, 0] (by decide) rfl) hS (lv_sub hl [0, 1, 2, 3] rfl) h
    · have h := h.2 c_5
      refine lv_iconst (v := (0 : Int32)) hx hb dX6_report_34 (by decide) ?_
      rw [← hQ]
      exact gRetI (u := m_4) hx hb hr rfl h (hP.sub [1, 0] rfl) (hD.sub [1, 0] (by decide) rfl) hS dX6_report_35 hlocks
  unfold P_X6_report at h
  refine lv_aload_n hx hb dX6_report_0 rfl (lv_at hl 0 rfl) ?_
  refine lv_aload_n hx hb dX6_report_1 rfl (lv_at hl 0 rfl) ?_
  refine va_get (D := D) (ci := 6) (v := .ref q_o_now) (C := RX6) (T := TX6) (N := 17) hx hb htb inT_X6 hown hK hP 0 rfl rfl 3 (by decide) (htb _ tb_90) (fun _ h9 => h9) rfl dX6_report_2 ?_
  refine lv_iload_n hx hb dX6_report_5 rfl (lv_at hl 1 rfl) ?_
  refine gSR (As := [.ref q_o_now, .int x1]) (rest := [.ref q_o]) ⟨hx, hb, hml, hown, htb⟩ hK hP hN [1] rfl (c_X6_isTown l D Cs q_o_now 221 v_o_now x1 h) (va_cwS 2 htb (TB_s tb_197 tb_198 tb_5 (TB_self tb_199)) rfl rfl rfl z_X6_isTown.2 ⟨Nat.le_of_ble_eq_true rfl, Nat.le_of_ble_eq_true rfl⟩) rfl hl.1 rfl (Nat.le_of_ble_eq_true rfl) ⟨Nat.le_of_ble_eq_true rfl, Nat.le_of_ble_eq_true rfl⟩ dX6_report_6 (fun r_7 h => ?_)
  refine lv_if_ne (tgt := 16) hx hb dX6_report_9 (by decide) (fun c_8 => ?_) (fun c_8 => ?_)
  · have h := h.2 c_8
    refine lv_iload_n hx hb dX6_report_16 rfl (lv_at hl 2 rfl) ?_
    refine gSR (As := [.int x2]) (rest := [.ref q_o]) ⟨hx, hb, hml, hown, htb⟩ hK hP hN [] rfl (c_X6_isTrait l D Cs x2 h) (va_cwS 1 htb (TB_s tb_436 tb_437 tb_5 (TB_self tb_438)) rfl rfl rfl z_X6_isTrait.2 ⟨Nat.le_of_ble_eq_true rfl, Nat.le_of_ble_eq_true rfl⟩) rfl hl.1 rfl (Nat.le_of_ble_eq_true rfl) ⟨Nat.le_of_ble_eq_true rfl, Nat.le_of_ble_eq_true rfl⟩ dX6_report_17 (fun r_9 h => ?_)
    refine lv_if_eq (tgt := 27) hx hb dX6_report_20 (by decide) (fun c_10 => ?_) (fun c_10 => ?_)
    · have h := h.1 c_10
      refine lv_iconst (v := (2 : Int32)) hx hb dX6_report_27 (by decide) ?_
      exact B28 _ _ _ (2 : Int32) hP hD hS (lv_sub hl [0, 1, 2, 3] rfl) h
    · have h := h.2 c_10
      refine lv_iconst (v := (0 : Int32)) hx hb dX6_report_23 (by decide) ?_
      refine lv_goto (tgt := 28) hx hb dX6_report_24 (by decide) ?_
      exact B28 _ _ _ (0 : Int32) hP hD hS (lv_sub hl [0, 1, 2, 3] rfl) h
  · have h := h.1 c_8
    refine lv_iconst (v := (1 : Int32)) hx hb dX6_report_12 (by decide) ?_
    refine lv_goto (tgt := 28) hx hb dX6_report_13 (by decide) ?_
    exact B28 _ _ _ (1 : Int32) hP hD hS (lv_sub hl [0, 1, 2, 3] rfl) h
set_option maxHeartbeats 4000000 in
set_option maxRecDepth 100000 in
theorem c_X6_remember (l : Launch) (D : va_G) (Cs : Nat → ClassId) (q_o : Nat) (q_o_text : Nat) (q_o_now : Nat) (q_o_trial : Nat) (q_o_diary : Nat) (q_o_kept : Nat) (q_o_isKept : Nat) (q_o_years : Nat) (sz : Nat) (v_o_acts : Int32) (v_o_now : (Nat → Int32)) (v_o_diary : (Nat → Int32)) (v_o_refusal : Int32) (v_o_size : Int32) (v_o_least : Int32) (v_o_origins : Int32) (v_o_ofAll : Int32) (v_o_ofSome : Int32) (v_o_sets : Int32) (v_o_spot : Int32) (v_o_out : Int32) {post : Int32 → (Nat → Int32) → Prop} (h : P_X6_remember v_o_acts v_o_now v_o_diary post) : Met l yX6_remember wsX6_remember ({ frames := 1, cells := 0, slots := 0, locals := 24 } : Room) (va_Pc [.ref q_o] (gM D Cs [(q_o, .inr (6, [.int v_o_refusal, .ref q_o_text, .int v_o_size, .ref q_o_now, .ref q_o_trial, .ref q_o_diary, .int v_o_acts, .ref q_o_kept, .ref q_o_isKept, .ref q_o_years, .int v_o_least, .int v_o_origins, .int v_o_ofAll, .int v_o_ofSome, .int v_o_sets, .int v_o_spot, .int v_o_out])), (q_o_now, gI Cs 221 v_o_now), (q_o_diary, gI Cs 3094 v_o_diary)] sz)) (va_Qv (fun (u : Int32 × (Nat → Int32)) => post u.1 u.2) (gB D (va_A [(q_o, .inr (6, [.int v_o_refusal, .ref q_o_text, .int v_o_size, .ref q_o_now, .ref q_o_trial, .ref q_o_diary, .int v_o_acts, .ref q_o_kept, .ref q_o_isKept, .ref q_o_years, .int v_o_least, .int v_o_origins, .int v_o_ofAll, .int v_o_ofSome, .int v_o_sets, .int v_o_spot, .int v_o_out])), (q_o_now, gI Cs 221 v_o_now), (q_o_diary, gI Cs 3094 v_o_diary)] sz) (fun u : Int32 × (Nat → Int32) => [(q_o, .inr (6, [.int v_o_refusal, .ref q_o_text, .int v_o_size, .ref q_o_now, .ref q_o_trial, .ref q_o_diary, .int u.1, .ref q_o_kept, .ref q_o_isKept, .ref q_o_years, .int v_o_least, .int v_o_origins, .int v_o_ofAll, .int v_o_ofSome, .int v_o_sets, .int v_o_spot, .int v_o_out])), (q_o_now, gI Cs 221 v_o_now), (q_o_diary, gI Cs 3094 u.2)])) (va_A [(q_o, .inr (6, [.int v_o_refusal, .ref q_o_text, .int v_o_size, .ref q_o_now, .ref q_o_trial, .ref q_o_diary, .int v_o_acts, .ref q_o_kept, .ref q_o_isKept, .ref q_o_years, .int v_o_least, .int v_o_origins, .int v_o_ofAll, .int v_o_ofSome, .int v_o_sets, .int v_o_spot, .int v_o_out])), (q_o_now, gI Cs 221 v_o_now), (q_o_diary, gI Cs 3094 v_o_diary)] sz)) 0 0 (va_A [(q_o, .inr (6, [.int v_o_refusal, .ref q_o_text, .int v_o_size, .ref q_o_now, .ref q_o_trial, .ref q_o_diary, .int v_o_acts, .ref q_o_kept, .ref q_o_isKept, .ref q_o_years, .int v_o_least, .int v_o_origins, .int v_o_ofAll, .int v_o_ofSome, .int v_o_sets, .int v_o_spot, .int v_o_out])), (q_o_now, gI Cs 221 v_o_now), (q_o_diary, gI Cs 3094 v_o_diary)] sz) := by
  refine Met.ofW (cc := cX6_remember) (maxL := 2) (ret := none) (by decide) rfl ?_
  intro p e s m args below meth c s₁ B hml hv
  obtain ⟨ha, hsz, hP, hK, hD0, hN⟩ := hv
  have hx := B.exec
  have hb := B.bytes
  have hr := B.returns
  have hts := atoms_spec (ws := wsX6_remember) B.pre
  have htb : ∀ w ∈ TB, w.before args s = true := fun w h9 => hts w (List.mem_cons_of_mem _ h9)
  have hown : s.vm.findClass RX6 = some m.cls := findClass_of_methodNamed B.named
  have hlocks := B.notSynchronized
  subst hsz
  have hD := hD0.self (sz := s.heap.size)
  generalize hAe : va_A [(q_o, .inr (6, [.int v_o_refusal, .ref q_o_text, .int v_o_size, .ref q_o_now, .ref q_o_trial, .ref q_o_diary, .int v_o_acts, .ref q_o_kept, .ref q_o_isKept, .ref q_o_years, .int v_o_least, .int v_o_origins, .int v_o_ofAll, .int v_o_ofSome, .int v_o_sets, .int v_o_spot, .int v_o_out])), (q_o_now, gI Cs 221 v_o_now), (q_o_diary, gI Cs 3094 v_o_diary)] s.heap.size = A at hD ⊢
  have hA : ∀ q : Nat, s.heap.size ≤ q → A q := fun q h9 => by rw [← hAe]; exact Or.inr h9
  obtain ⟨H, hH⟩ : ∃ z : Heap, z = s.heap := ⟨_, rfl⟩
  have hS : va_S A s.heap H [] := by rw [hH]; exact va_S.rf
  have hP : va_P D vwCl [(q_o, .inr (6, [.int v_o_refusal, .ref q_o_text, .int v_o_size, .ref q_o_now, .ref q_o_trial, .ref q_o_diary, .int v_o_acts, .ref q_o_kept, .ref q_o_isKept, .ref q_o_years, .int v_o_least, .int v_o_origins, .int v_o_ofAll, .int v_o_ofSome, .int v_o_sets, .int v_o_spot, .int v_o_out])), (q_o_now, gI Cs 221 v_o_now), (q_o_diary, gI Cs 3094 v_o_diary)] H := by rw [hH]; exact hP
  generalize hQ : MQ below _ args s _ _ _ = Q
  show W p l e ({ frames := 1, cells := 0, slots := 0, locals := 24 } : Room) s m args below meth c s.heap [] 0 0 Q (entryFrame m args 2)
  have hent : entryFrame m args 2 = F0 m 0 ((lg_sl ([.ref q_o]) ++ List.replicate (2 - (lg_sl ([.ref q_o])).length) Slot.unset).toArray) [] := by rw [ha]; exact lg_entry_eq m ([.ref q_o]) 2
  rw [hent]; clear hent
  rw [← hH]
  have hl := lv_entry ([.ref q_o]) (n := 2) (Nat.le_of_ble_eq_true rfl)
  generalize (lg_sl ([.ref q_o]) ++ List.replicate (2 - (lg_sl ([.ref q_o])).length) Slot.unset).toArray = ls at hl ⊢
  have hl : lv_has ls 2 [(0, .ref q_o)] := hl
  have B50 : ∀ (H : Heap) (locs : List Loc) (ls : Array Slot) (w_o_acts : Int32) (w_o_diary : (Nat → Int32)), va_P D vwCl [(q_o, .inr (6, [.int v_o_refusal, .ref q_o_text, .int v_o_size, .ref q_o_now, .ref q_o_trial, .ref q_o_diary, .int w_o_acts, .ref q_o_kept, .ref q_o_isKept, .ref q_o_years, .int v_o_least, .int v_o_origins, .int v_o_ofAll, .int v_o_ofSome, .int v_o_sets, .int v_o_spot, .int v_o_out])), (q_o_now, gI Cs 221 v_o_now), (q_o_diary, gI Cs 3094 w_o_diary)] H → va_D A [(q_o, .inr (6, [.int v_o_refusal, .ref q_o_text, .int v_o_size, .ref q_o_now, .ref q_o_trial, .ref q_o_diary, .int w_o_acts, .ref q_o_kept, .ref q_o_isKept, .ref q_o_years, .int v_o_least, .int v_o_origins, .int v_o_ofAll, .int v_o_ofSome, .int v_o_sets, .int v_o_spot, .int v_o_out])), (q_o_now, gI Cs 221 v_o_now), (q_o_diary, gI Cs 3094 w_o_diary)] → va_S A s.heap H locs → lv_has ls 2 [(0, .ref q_o)] → P_X6_remember_b50 v_o_acts v_o_now v_o_diary post w_o_acts w_o_diary → W p l e ({ frames := 1, cells := 0, slots := 0, locals := 24 } : Room) s m args below meth c H locs 0 0 Q (F0 m 50 ls []) := by
    intro H locs ls w_o_acts w_o_diary hP hD hS hl h
    unfold P_X6_remember_b50 at h
    refine lv_aload_n hx hb dX6_remember_50 rfl (lv_at hl 0 rfl) ?_
    refine va_get (D := D) (ci := 6) (v := .ref q_o_now) (C := RX6) (T := TX6) (N := 17) hx hb htb inT_X6 hown hK hP 0 rfl rfl 3 (by decide) (htb _ tb_90) (fun _ h9 => h9) rfl dX6_remember_51 ?_
    refine lv_iconst (v := (0 : Int32)) hx hb dX6_remember_54 (by decide) ?_
    refine lv_aload_n hx hb dX6_remember_55 rfl (lv_at hl 0 rfl) ?_
    refine va_get (D := D) (ci := 6) (v := .ref q_o_diary) (C := RX6) (T := TX6) (N := 17) hx hb htb inT_X6 hown hK hP 0 rfl rfl 5 (by decide) (htb _ tb_92) (fun _ h9 => h9) rfl dX6_remember_56 ?_
    refine lv_sipush (v := (221 : Int32)) hx hb dX6_remember_59 (by decide) ?_
    refine lv_aload_n hx hb dX6_remember_62 rfl (lv_at hl 0 rfl) ?_
    refine va_get (D := D) (ci := 6) (v := .int w_o_acts) (C := RX6) (T := TX6) (N := 17) hx hb htb inT_X6 hown hK hP 0 rfl rfl 6 (by decide) (htb _ tb_96) (fun _ h9 => h9) rfl dX6_remember_63 ?_
    refine lv_imul hx hb dX6_remember_66 ?_
    refine gSMv (wr := [(q_o, .inr (6, [.int v_o_refusal, .ref q_o_text, .int v_o_size, .ref q_o_now, .ref q_o_trial, .ref q_o_diary, .int w_o_acts, .ref q_o_kept, .ref q_o_isKept, .ref q_o_years, .int v_o_least, .int v_o_origins, .int v_o_ofAll, .int v_o_ofSome, .int v_o_sets, .int v_o_spot, .int v_o_out]))]) (As := [.ref q_o_now, .int (0 : Int32), .ref q_o_diary, .int ((221 : Int32) * w_o_acts)]) (rest := []) ⟨hx, hb, hml, hown, htb⟩ hK hP hD hS hA hN [1, 2] [0] rfl (by decide) rfl (by decide) (by decide) (c_X6_copyState l D Cs q_o_now q_o_diary 221 3094 H.size v_o_now w_o_diary (0 : Int32) ((221 : Int32) * w_o_acts) h) (va_cwS 4 htb (TB_s tb_170 tb_171 tb_5 (TB_self tb_172)) rfl rfl rfl z_X6_copyState.2 ⟨Nat.le_of_ble_eq_true rfl, Nat.le_of_ble_eq_true rfl⟩) rfl hl.1 rfl (Nat.le_of_ble_eq_true rfl) ⟨Nat.le_of_ble_eq_true rfl, Nat.le_of_ble_eq_true rfl⟩ dX6_remember_67 (fun m_2 H locs h hP hD hS => ?_)
    have hP : va_P D vwCl [(q_o, .inr (6, [.int v_o_refusal, .ref q_o_text, .int v_o_size, .ref q_o_now, .ref q_o_trial, .ref q_o_diary, .int w_o_acts, .ref q_o_kept, .ref q_o_isKept, .ref q_o_years, .int v_o_least, .int v_o_origins, .int v_o_ofAll, .int v_o_ofSome, .int v_o_sets, .int v_o_spot, .int v_o_out])), (q_o_now, gI Cs 221 v_o_now), (q_o_diary, gI Cs 3094 m_2)] H := hP
    have hD : va_D A [(q_o, .inr (6, [.int v_o_refusal, .ref q_o_text, .int v_o_size, .ref q_o_now, .ref q_o_trial, .ref q_o_diary, .int w_o_acts, .ref q_o_kept, .ref q_o_isKept, .ref q_o_years, .int v_o_least, .int v_o_origins, .int v_o_ofAll, .int v_o_ofSome, .int v_o_sets, .int v_o_spot, .int v_o_out])), (q_o_now, gI Cs 221 v_o_now), (q_o_diary, gI Cs 3094 m_2)] := hD
    refine lv_aload_n hx hb dX6_remember_70 rfl (lv_at hl 0 rfl) ?_
    refine lv_dup hx hb dX6_remember_71 rfl ?_
    refine va_get (D := D) (ci := 6) (v := .int w_o_acts) (C := RX6) (T := TX6) (N := 17) hx hb htb inT_X6 hown hK hP 0 rfl rfl 6 (by decide) (htb _ tb_96) (fun _ h9 => h9) rfl dX6_remember_72 ?_
    refine lv_iconst (v := (1 : Int32)) hx hb dX6_remember_75 (by decide) ?_
    refine lv_iadd hx hb dX6_remember_76 ?_
    refine lv_topi (fun f_acts_3 ef_acts_3 => ?_)
    have h := h _ ef_acts_3
    refine va_put (D := D) (ci := 6) (v := .int f_acts_3) (ty := .int) (C := RX6) (T := TX6) (N := 17) hx hb htb inT_X6 tyX6 tyX6_ok nmX6 hown hK hP hD hS 0 rfl rfl 6 (by decide) (htb _ tb_96) (fun _ h9 => h9) rfl (tyX6_ok 6 (by decide)) rfl rfl (Nat.le_of_ble_eq_true rfl) dX6_remember_77 (fun H locs hP hD hS => ?_)
    have hP : va_P D vwCl [(q_o, .inr (6, [.int v_o_refusal, .ref q_o_text, .int v_o_size, .ref q_o_now, .ref q_o_trial, .ref q_o_diary, .int f_acts_3, .ref q_o_kept, .ref q_o_isKept, .ref q_o_years, .int v_o_least, .int v_o_origins, .int v_o_ofAll, .int v_o_ofSome, .int v_o_sets, .int v_o_spot, .int v_o_out])), (q_o_now, gI Cs 221 v_o_now), (q_o_diary, gI Cs 3094 m_2)] H := hP
    have hD : va_D A [(q_o, .inr (6, [.int v_o_refusal, .ref q_o_text, .int v_o_size, .ref q_o_now, .ref q_o_trial, .ref q_o_diary, .int f_acts_3, .ref q_o_kept, .ref q_o_isKept, .ref q_o_years, .int v_o_least, .int v_o_origins, .int v_o_ofAll, .int v_o_ofSome, .int v_o_sets, .int v_o_spot, .int v_o_out])), (q_o_now, gI Cs 221 v_o_now), (q_o_diary, gI Cs 3094 m_2)] := hD
    rw [← hQ]
    exact gRetV (u := (f_acts_3, m_2)) hx hb hr h hP hD hS dX6_remember_80 hlocks
  have L11 : ∀ (n : Nat) (H : Heap) (locs : List Loc) (ls : Array Slot) (w_o_diary : (Nat → Int32)) (x1 : Int32), va_P D vwCl [(q_o, .inr (6, [.int v_o_refusal, .ref q_o_text, .int v_o_size, .ref q_o_now, .ref q_o_trial, .ref q_o_diary, .int v_o_acts, .ref q_o_kept, .ref q_o_isKept, .ref q_o_years, .int v_o_least, .int v_o_origins, .int v_o_ofAll, .int v_o_ofSome, .int v_o_sets, .int v_o_spot, .int v_o_out])), (q_o_now, gI Cs 221 v_o_now), (q_o_diary, gI Cs 3094 w_o_diary)] H → va_D A [(q_o, .inr (6, [.int v_o_refusal, .ref q_o_text, .int v_o_size, .ref q_o_now, .ref q_o_trial, .ref q_o_diary, .int v_o_acts, .ref q_o_kept, .ref q_o_isKept, .ref q_o_years, .int v_o_least, .int v_o_origins, .int v_o_ofAll, .int v_o_ofSome, .int v_o_sets, .int v_o_spot, .int v_o_out])), (q_o_now, gI Cs 221 v_o_now), (q_o_diary, gI Cs 3094 w_o_diary)] → va_S A s.heap H locs → lv_has ls 2 [(0, .ref q_o), (1, .int x1)] → P_X6_remember_l11 v_o_acts v_o_now v_o_diary post n w_o_diary x1 → W p l e ({ frames := 1, cells := 0, slots := 0, locals := 24 } : Room) s m args below meth c H locs 0 0 Q (F0 m 11 ls []) := by
    intro n11
    induction n11 with
    | zero => intro H locs ls w_o_diary x1 hP hD hS hl h; exact False.elim h
    | succ n11 ih11 =>
      intro H locs ls w_o_diary x1 hP hD hS hl h
      replace h : P_X6_remember_b11 v_o_acts v_o_now v_o_diary post (P_X6_remember_l11 v_o_acts v_o_now v_o_diary post n11) w_o_diary x1 := h
      unfold P_X6_remember_b11 at h
      refine lv_iload_n hx hb dX6_remember_11 rfl (lv_at hl 1 rfl) ?_
      refine lv_sipush (v := (2873 : Int32)) hx hb dX6_remember_12 (by decide) ?_
      refine lv_icmp_ge (tgt := 40) hx hb dX6_remember_15 (by decide) (fun c_4 => ?_) (fun c_4 => ?_)
      · have h := h.1 c_4
        refine lv_aload_n hx hb dX6_remember_40 rfl (lv_at hl 0 rfl) ?_
        refine lv_dup hx hb dX6_remember_41 rfl ?_
        refine va_get (D := D) (ci := 6) (v := .int v_o_acts) (C := RX6) (T := TX6) (N := 17) hx hb htb inT_X6 hown hK hP 0 rfl rfl 6 (by decide) (htb _ tb_96) (fun _ h9 => h9) rfl dX6_remember_42 ?_
        refine lv_iconst (v := (1 : Int32)) hx hb dX6_remember_45 (by decide) ?_
        refine lv_isub hx hb dX6_remember_46 ?_
        refine lv_topi (fun f_acts_5 ef_acts_5 => ?_)
        have h := h _ ef_acts_5
        refine va_put (D := D) (ci := 6) (v := .int f_acts_5) (ty := .int) (C := RX6) (T := TX6) (N := 17) hx hb htb inT_X6 tyX6 tyX6_ok nmX6 hown hK hP hD hS 0 rfl rfl 6 (by decide) (htb _ tb_96) (fun _ h9 => h9) rfl (tyX6_ok 6 (by decide)) rfl rfl (Nat.le_of_ble_eq_true rfl) dX6_remember_47 (fun H locs hP hD hS => ?_)
        have hP : va_P D vwCl [(q_o, .inr (6, [.int v_o_refusal, .ref q_o_text, .int v_o_size, .ref q_o_now, .ref q_o_trial, .ref q_o_diary, .int f_acts_5, .ref q_o_kept, .ref q_o_isKept, .ref q_o_years, .int v_o_least, .int v_o_origins, .int v_o_ofAll, .int v_o_ofSome, .int v_o_sets, .int v_o_spot, .int v_o_out])), (q_o_now, gI Cs 221 v_o_now), (q_o_diary, gI Cs 3094 w_o_diary)] H := hP
        have hD : va_D A [(q_o, .inr (6, [.int v_o_refusal, .ref q_o_text, .int v_o_size, .ref q_o_now, .ref q_o_trial, .ref q_o_diary, .int f_acts_5, .ref q_o_kept, .ref q_o_isKept, .ref q_o_years, .int v_o_least, .int v_o_origins, .int v_o_ofAll, .int v_o_ofSome, .int v_o_sets, .int v_o_spot, .int v_o_out])), (q_o_now, gI Cs 221 v_o_now), (q_o_diary, gI Cs 3094 w_o_diary)] := hD
        exact B50 _ _ _ f_acts_5 w_o_diary hP hD hS (lv_sub hl [0] rfl) h
      · have h := h.2 c_4
        refine lv_aload_n hx hb dX6_remember_18 rfl (lv_at hl 0 rfl) ?_
        refine va_get (D := D) (ci := 6) (v := .ref q_o_diary) (C := RX6) (T := TX6) (N := 17) hx hb htb inT_X6 hown hK hP 0 rfl rfl 5 (by decide) (htb _ tb_92) (fun _ h9 => h9) rfl dX6_remember_19 ?_
        refine lv_iload_n hx hb dX6_remember_22 rfl (lv_at hl 1 rfl) ?_
        refine lv_aload_n hx hb dX6_remember_23 rfl (lv_at hl 0 rfl) ?_
        refine va_get (D := D) (ci := 6) (v := .ref q_o_diary) (C := RX6) (T := TX6) (N := 17) hx hb htb inT_X6 hown hK hP 0 rfl rfl 5 (by decide) (htb _ tb_92) (fun _ h9 => h9) rfl dX6_remember_24 ?_
        refine lv_iload_n hx hb dX6_remember_27 rfl (lv_at hl 1 rfl) ?_
        refine lv_sipush (v := (221 : Int32)) hx hb dX6_remember_28 (by decide) ?_
        refine lv_iadd hx hb dX6_remember_31 ?_
        obtain ⟨hi_6, h⟩ := h
        refine va_iald hx hb hK hP 2 0 rfl rfl hi_6 dX6_remember_32 ?_
        obtain ⟨hi_7, h⟩ := h
        refine va_iast hx hb hK hP hD hS 2 0 rfl rfl hi_7 dX6_remember_33 (fun H locs hP hD hS => ?_)
        have hP : va_P D vwCl [(q_o, .inr (6, [.int v_o_refusal, .ref q_o_text, .int v_o_size, .ref q_o_now, .ref q_o_trial, .ref q_o_diary, .int v_o_acts, .ref q_o_kept, .ref q_o_isKept, .ref q_o_years, .int v_o_least, .int v_o_origins, .int v_o_ofAll, .int v_o_ofSome, .int v_o_sets, .int v_o_spot, .int v_o_out])), (q_o_now, gI Cs 221 v_o_now), (q_o_diary, gI Cs 3094 (upd w_o_diary x1.toNatClampNeg (w_o_diary (x1 + (221 : Int32)).toNatClampNeg)))] H := hP
        have hD : va_D A [(q_o, .inr (6, [.int v_o_refusal, .ref q_o_text, .int v_o_size, .ref q_o_now, .ref q_o_trial, .ref q_o_diary, .int v_o_acts, .ref q_o_kept, .ref q_o_isKept, .ref q_o_years, .int v_o_least, .int v_o_origins, .int v_o_ofAll, .int v_o_ofSome, .int v_o_sets, .int v_o_spot, .int v_o_out])), (q_o_now, gI Cs 221 v_o_now), (q_o_diary, gI Cs 3094 (upd w_o_diary x1.toNatClampNeg (w_o_diary (x1 + (221 : Int32)).toNatClampNeg)))] := hD
        obtain ⟨x1_8, ex1_8⟩ : ∃ y : Int32, y = x1 + (1 : Int32) := ⟨_, rfl⟩
        have h := h _ ex1_8
        refine lv_iinc (v := x1_8) (lv' := [(1, .int x1_8), (0, .ref q_o)]) hx hb dX6_remember_34 hl (k := 1) rfl (by rw [ex1_8]; rfl) (by decide) rfl (fun ls hl => ?_)
        refine lv_goto (tgt := 11) hx hb dX6_remember_37 (by decide) ?_
        exact ih11 _ _ _ (upd w_o_diary x1.toNatClampNeg (w_o_diary (x1 + (221 : Int32)).toNatClampNeg)) x1_8 hP hD hS (lv_sub hl [1, 0] rfl) h
  unfold P_X6_remember at h
  refine lv_aload_n hx hb dX6_remember_0 rfl (lv_at hl 0 rfl) ?_
  refine va_get (D := D) (ci := 6) (v := .int v_o_acts) (C := RX6) (T := TX6) (N := 17) hx hb htb inT_X6 hown hK hP 0 rfl rfl 6 (by decide) (htb _ tb_96) (fun _ h9 => h9) rfl dX6_remember_1 ?_
  refine lv_bipush (v := (14 : Int32)) hx hb dX6_remember_4 (by decide) ?_
  refine lv_icmp_ne (tgt := 50) hx hb dX6_remember_6 (by decide) (fun c_9 => ?_) (fun c_9 => ?_)
  · have h := h.2 c_9
    exact B50 _ _ _ v_o_acts v_o_diary hP hD hS (lv_sub hl [0] rfl) h
  · have h := h.1 c_9
    refine lv_iconst (v := (0 : Int32)) hx hb dX6_remember_9 (by decide) ?_
    refine lv_istore_n (lv' := [(1, .int (0 : Int32)), (0, .ref q_o)]) hx hb dX6_remember_10 rfl hl (by decide) rfl (fun ls hl => ?_)
    obtain ⟨n, h⟩ := h
    exact L11 n _ _ _ v_o_diary (0 : Int32) hP hD hS (lv_sub hl [1, 0] rfl) h
set_option maxHeartbeats 4000000 in
set_option maxRecDepth 100000 in
theorem c_X6_found (l : Launch) (D : va_G) (Cs : Nat → ClassId) (q_o : Nat) (q_o_text : Nat) (q_o_now : Nat) (q_o_trial : Nat) (q_o_diary : Nat) (q_o_kept : Nat) (q_o_isKept : Nat) (q_o_years : Nat) (sz : Nat) (v_o_refusal : Int32) (v_o_acts : Int32) (v_o_now : (Nat → Int32)) (v_o_diary : (Nat → Int32)) (v_o_size : Int32) (v_o_least : Int32) (v_o_origins : Int32) (v_o_ofAll : Int32) (v_o_ofSome : Int32) (v_o_sets : Int32) (v_o_spot : Int32) (v_o_out : Int32) {post : Int32 → Int32 → Int32 → (Nat → Int32) → (Nat → Int32) → Prop} (h : P_X6_found v_o_refusal v_o_acts v_o_now v_o_diary post) : Met l yX6_found wsX6_found ({ frames := 2, cells := 0, slots := 0, locals := 45 } : Room) (va_Pc [.ref q_o] (gM D Cs [(q_o, .inr (6, [.int v_o_refusal, .ref q_o_text, .int v_o_size, .ref q_o_now, .ref q_o_trial, .ref q_o_diary, .int v_o_acts, .ref q_o_kept, .ref q_o_isKept, .ref q_o_years, .int v_o_least, .int v_o_origins, .int v_o_ofAll, .int v_o_ofSome, .int v_o_sets, .int v_o_spot, .int v_o_out])), (q_o_now, gI Cs 221 v_o_now), (q_o_diary, gI Cs 3094 v_o_diary)] sz)) (va_Qi (fun (r : Int32) (u : Int32 × Int32 × (Nat → Int32) × (Nat → Int32)) => post r u.1 u.2.1 u.2.2.1 u.2.2.2) (gB D (va_A [(q_o, .inr (6, [.int v_o_refusal, .ref q_o_text, .int v_o_size, .ref q_o_now, .ref q_o_trial, .ref q_o_diary, .int v_o_acts, .ref q_o_kept, .ref q_o_isKept, .ref q_o_years, .int v_o_least, .int v_o_origins, .int v_o_ofAll, .int v_o_ofSome, .int v_o_sets, .int v_o_spot, .int v_o_out])), (q_o_now, gI Cs 221 v_o_now), (q_o_diary, gI Cs 3094 v_o_diary)] sz) (fun u : Int32 × Int32 × (Nat → Int32) × (Nat → Int32) => [(q_o, .inr (6, [.int u.1, .ref q_o_text, .int v_o_size, .ref q_o_now, .ref q_o_trial, .ref q_o_diary, .int u.2.1, .ref q_o_kept, .ref q_o_isKept, .ref q_o_years, .int v_o_least, .int v_o_origins, .int v_o_ofAll, .int v_o_ofSome, .int v_o_sets, .int v_o_spot, .int v_o_out])), (q_o_now, gI Cs 221 u.2.2.1), (q_o_diary, gI Cs 3094 u.2.2.2)])) (va_A [(q_o, .inr (6, [.int v_o_refusal, .ref q_o_text, .int v_o_size, .ref q_o_now, .ref q_o_trial, .ref q_o_diary, .int v_o_acts, .ref q_o_kept, .ref q_o_isKept, .ref q_o_years, .int v_o_least, .int v_o_origins, .int v_o_ofAll, .int v_o_ofSome, .int v_o_sets, .int v_o_spot, .int v_o_out])), (q_o_now, gI Cs 221 v_o_now), (q_o_diary, gI Cs 3094 v_o_diary)] sz)) 0 0 (va_A [(q_o, .inr (6, [.int v_o_refusal, .ref q_o_text, .int v_o_size, .ref q_o_now, .ref q_o_trial, .ref q_o_diary, .int v_o_acts, .ref q_o_kept, .ref q_o_isKept, .ref q_o_years, .int v_o_least, .int v_o_origins, .int v_o_ofAll, .int v_o_ofSome, .int v_o_sets, .int v_o_spot, .int v_o_out])), (q_o_now, gI Cs 221 v_o_now), (q_o_diary, gI Cs 3094 v_o_diary)] sz) := by
  refine Met.ofW (cc := cX6_found) (maxL := 1) (ret := (some .int)) (by decide) rfl ?_
  intro p e s m args below meth c s₁ B hml hv
  obtain ⟨ha, hsz, hP, hK, hD0, hN⟩ := hv
  have hx := B.exec
  have hb := B.bytes
  have hr := B.returns
  have hts := atoms_spec (ws := wsX6_found) B.pre
  have htb : ∀ w ∈ TB, w.before args s = true := fun w h9 => hts w (List.mem_cons_of_mem _ h9)
  have hown : s.vm.findClass RX6 = some m.cls := findClass_of_methodNamed B.named
  have hlocks := B.notSynchronized
  subst hsz
  have hD := hD0.self (sz := s.heap.size)
  generalize hAe : va_A [(q_o, .inr (6, [.int v_o_refusal, .ref q_o_text, .int v_o_size, .ref q_o_now, .ref q_o_trial, .ref q_o_diary, .int v_o_acts, .ref q_o_kept, .ref q_o_isKept, .ref q_o_years, .int v_o_least, .int v_o_origins, .int v_o_ofAll, .int v_o_ofSome, .int v_o_sets, .int v_o_spot, .int v_o_out])), (q_o_now, gI Cs 221 v_o_now), (q_o_diary, gI Cs 3094 v_o_diary)] s.heap.size = A at hD ⊢
  have hA : ∀ q : Nat, s.heap.size ≤ q → A q := fun q h9 => by rw [← hAe]; exact Or.inr h9
  obtain ⟨H, hH⟩ : ∃ z : Heap, z = s.heap := ⟨_, rfl⟩
  have hS : va_S A s.heap H [] := by rw [hH]; exact va_S.rf
  have hP : va_P D vwCl [(q_o, .inr (6, [.int v_o_refusal, .ref q_o_text, .int v_o_size, .ref q_o_now, .ref q_o_trial, .ref q_o_diary, .int v_o_acts, .ref q_o_kept, .ref q_o_isKept, .ref q_o_years, .int v_o_least, .int v_o_origins, .int v_o_ofAll, .int v_o_ofSome, .int v_o_sets, .int v_o_spot, .int v_o_out])), (q_o_now, gI Cs 221 v_o_now), (q_o_diary, gI Cs 3094 v_o_diary)] H := by rw [hH]; exact hP
  generalize hQ : MQ below _ args s _ _ _ = Q
  show W p l e ({ frames := 2, cells := 0, slots := 0, locals := 45 } : Room) s m args below meth c s.heap [] 0 0 Q (entryFrame m args 1)
  have hent : entryFrame m args 1 = F0 m 0 ((lg_sl ([.ref q_o]) ++ List.replicate (1 - (lg_sl ([.ref q_o])).length) Slot.unset).toArray) [] := by rw [ha]; exact lg_entry_eq m ([.ref q_o]) 1
  rw [hent]; clear hent
  rw [← hH]
  have hl := lv_entry ([.ref q_o]) (n := 1) (Nat.le_of_ble_eq_true rfl)
  generalize (lg_sl ([.ref q_o]) ++ List.replicate (1 - (lg_sl ([.ref q_o])).length) Slot.unset).toArray = ls at hl ⊢
  have hl : lv_has ls 1 [(0, .ref q_o)] := hl
  have B17 : ∀ (H : Heap) (locs : List Loc) (ls : Array Slot) (s1 : Int32), va_P D vwCl [(q_o, .inr (6, [.int v_o_refusal, .ref q_o_text, .int v_o_size, .ref q_o_now, .ref q_o_trial, .ref q_o_diary, .int v_o_acts, .ref q_o_kept, .ref q_o_isKept, .ref q_o_years, .int v_o_least, .int v_o_origins, .int v_o_ofAll, .int v_o_ofSome, .int v_o_sets, .int v_o_spot, .int v_o_out])), (q_o_now, gI Cs 221 v_o_now), (q_o_diary, gI Cs 3094 v_o_diary)] H → va_D A [(q_o, .inr (6, [.int v_o_refusal, .ref q_o_text, .int v_o_size, .ref q_o_now, .ref q_o_trial, .ref q_o_diary, .int v_o_acts, .ref q_o_kept, .ref q_o_isKept, .ref q_o_years, .int v_o_least, .int v_o_origins, .int v_o_ofAll, .int v_o_ofSome, .int v_o_sets, .int v_o_spot, .int v_o_out])), (q_o_now, gI Cs 221 v_o_now), (q_o_diary, gI Cs 3094 v_o_diary)] → va_S A s.heap H locs → lv_has ls 1 [(0, .ref q_o)] → P_X6_found_b17 v_o_refusal v_o_acts v_o_now v_o_diary post s1 → W p l e ({ frames := 2, cells := 0, slots := 0, locals := 45 } : Room) s m args below meth c H locs 0 0 Q (F0 m 17 ls [.int s1, .ref q_o]) := by
    intro H locs ls s1 hP hD hS hl h
    unfold P_X6_found_b17 at h
    refine gVM (wr := [(q_o_now, gI Cs 221 v_o_now), (q_o_diary, gI Cs 3094 v_o_diary)]) (As := [.int s1]) (rest := []) ⟨hx, hb, hml, hown, htb⟩ hK hP hD hS hA hN [0] [1, 2] rfl (by decide) rfl (by decide) (by decide) (c_X6_refused l D Cs q_o q_o_text q_o_now q_o_trial q_o_diary q_o_kept q_o_isKept q_o_years H.size v_o_refusal v_o_size v_o_acts v_o_least v_o_origins v_o_ofAll v_o_ofSome v_o_sets v_o_spot v_o_out s1 h) (cwV 1 htb (TB_v tb_128 tb_129 tb_130 tb_5 (TB_self tb_131)) rfl rfl rfl z_X6_refused ⟨Nat.le_of_ble_eq_true rfl, Nat.le_of_ble_eq_true rfl⟩) 0 rfl rfl rfl rfl hl.1 rfl (Nat.le_of_ble_eq_true rfl) ⟨Nat.le_of_ble_eq_true rfl, Nat.le_of_ble_eq_true rfl⟩ dX6_found_17 (fun r_1 m_2 H locs h hP hD hS => ?_)
    have hP : va_P D vwCl [(q_o_now, gI Cs 221 v_o_now), (q_o_diary, gI Cs 3094 v_o_diary), (q_o, .inr (6, [.int m_2, .ref q_o_text, .int v_o_size, .ref q_o_now, .ref q_o_trial, .ref q_o_diary, .int v_o_acts, .ref q_o_kept, .ref q_o_isKept, .ref q_o_years, .int v_o_least, .int v_o_origins, .int v_o_ofAll, .int v_o_ofSome, .int v_o_sets, .int v_o_spot, .int v_o_out]))] H := hP
    have hD : va_D A [(q_o_now, gI Cs 221 v_o_now), (q_o_diary, gI Cs 3094 v_o_diary), (q_o, .inr (6, [.int m_2, .ref q_o_text, .int v_o_size, .ref q_o_now, .ref q_o_trial, .ref q_o_diary, .int v_o_acts, .ref q_o_kept, .ref q_o_isKept, .ref q_o_years, .int v_o_least, .int v_o_origins, .int v_o_ofAll, .int v_o_ofSome, .int v_o_sets, .int v_o_spot, .int v_o_out]))] := hD
    refine lv_if_eq (tgt := 25) hx hb dX6_found_20 (by decide) (fun c_3 => ?_) (fun c_3 => ?_)
    · have h := h.1 c_3
      refine lv_aload_n hx hb dX6_found_25 rfl (lv_at hl 0 rfl) ?_
      refine gVMv (wr := []) (As := []) (rest := []) ⟨hx, hb, hml, hown, htb⟩ hK hP hD hS hA hN [2, 0, 1] [] rfl (by decide) rfl (by decide) (by decide) (c_X6_remember l D Cs q_o q_o_text q_o_now q_o_trial q_o_diary q_o_kept q_o_isKept q_o_years H.size v_o_acts v_o_now v_o_diary m_2 v_o_size v_o_least v_o_origins v_o_ofAll v_o_ofSome v_o_sets v_o_spot v_o_out h) (cwV 0 htb (TB_v tb_466 tb_467 tb_468 tb_5 (TB_self tb_469)) rfl rfl rfl z_X6_remember ⟨Nat.le_of_ble_eq_true rfl, Nat.le_of_ble_eq_true rfl⟩) 2 rfl rfl rfl rfl hl.1 rfl (Nat.le_of_ble_eq_true rfl) ⟨Nat.le_of_ble_eq_true rfl, Nat.le_of_ble_eq_true rfl⟩ dX6_found_26 (fun u H locs h hP hD hS => ?_)
      obtain ⟨m_5, m_6⟩ := u
      try dsimp only at h
      have hP : va_P D vwCl [(q_o, .inr (6, [.int m_2, .ref q_o_text, .int v_o_size, .ref q_o_now, .ref q_o_trial, .ref q_o_diary, .int m_5, .ref q_o_kept, .ref q_o_isKept, .ref q_o_years, .int v_o_least, .int v_o_origins, .int v_o_ofAll, .int v_o_ofSome, .int v_o_sets, .int v_o_spot, .int v_o_out])), (q_o_now, gI Cs 221 v_o_now), (q_o_diary, gI Cs 3094 m_6)] H := hP
      have hD : va_D A [(q_o, .inr (6, [.int m_2, .ref q_o_text, .int v_o_size, .ref q_o_now, .ref q_o_trial, .ref q_o_diary, .int m_5, .ref q_o_kept, .ref q_o_isKept, .ref q_o_years, .int v_o_least, .int v_o_origins, .int v_o_ofAll, .int v_o_ofSome, .int v_o_sets, .int v_o_spot, .int v_o_out])), (q_o_now, gI Cs 221 v_o_now), (q_o_diary, gI Cs 3094 m_6)] := hD
      refine lv_aload_n hx hb dX6_found_29 rfl (lv_at hl 0 rfl) ?_
      refine va_get (D := D) (ci := 6) (v := .ref q_o_now) (C := RX6) (T := TX6) (N := 17) hx hb htb inT_X6 hown hK hP 0 rfl rfl 3 (by decide) (htb _ tb_90) (fun _ h9 => h9) rfl dX6_found_30 ?_
      refine lv_iconst (v := (0 : Int32)) hx hb dX6_found_33 (by decide) ?_
      refine lv_dup2_11 hx hb dX6_found_34 rfl rfl ?_
      refine va_iald hx hb hK hP 1 0 rfl rfl (by unfold vp_in; decide) dX6_found_35 ?_
      refine lv_iconst (v := (1 : Int32)) hx hb dX6_found_36 (by decide) ?_
      refine lv_iadd hx hb dX6_found_37 ?_
      refine va_iast hx hb hK hP hD hS 1 0 rfl rfl (by unfold vp_in; decide) dX6_found_38 (fun H locs hP hD hS => ?_)
      have hP : va_P D vwCl [(q_o, .inr (6, [.int m_2, .ref q_o_text, .int v_o_size, .ref q_o_now, .ref q_o_trial, .ref q_o_diary, .int m_5, .ref q_o_kept, .ref q_o_isKept, .ref q_o_years, .int v_o_least, .int v_o_origins, .int v_o_ofAll, .int v_o_ofSome, .int v_o_sets, .int v_o_spot, .int v_o_out])), (q_o_now, gI Cs 221 (upd v_o_now (0 : Int32).toNatClampNeg ((v_o_now (0 : Int32).toNatClampNeg) + (1 : Int32)))), (q_o_diary, gI Cs 3094 m_6)] H := hP
      have hD : va_D A [(q_o, .inr (6, [.int m_2, .ref q_o_text, .int v_o_size, .ref q_o_now, .ref q_o_trial, .ref q_o_diary, .int m_5, .ref q_o_kept, .ref q_o_isKept, .ref q_o_years, .int v_o_least, .int v_o_origins, .int v_o_ofAll, .int v_o_ofSome, .int v_o_sets, .int v_o_spot, .int v_o_out])), (q_o_now, gI Cs 221 (upd v_o_now (0 : Int32).toNatClampNeg ((v_o_now (0 : Int32).toNatClampNeg) + (1 : Int32)))), (q_o_diary, gI Cs 3094 m_6)] := hD
      refine lv_aload_n hx hb dX6_found_39 rfl (lv_at hl 0 rfl) ?_
      refine va_get (D := D) (ci := 6) (v := .ref q_o_now) (C := RX6) (T := TX6) (N := 17) hx hb htb inT_X6 hown hK hP 0 rfl rfl 3 (by decide) (htb _ tb_90) (fun _ h9 => h9) rfl dX6_found_40 ?_
      refine lv_iconst (v := (0 : Int32)) hx hb dX6_found_43 (by decide) ?_
      refine va_iald hx hb hK hP 1 0 rfl rfl (by unfold vp_in; decide) dX6_found_44 ?_
      refine lv_iconst (v := (1 : Int32)) hx hb dX6_found_45 (by decide) ?_
      refine lv_isub hx hb dX6_found_46 ?_
      rw [← hQ]
      exact gRetI (u := (m_2, m_5, (upd v_o_now (0 : Int32).toNatClampNeg ((v_o_now (0 : Int32).toNatClampNeg) + (1 : Int32))), m_6)) hx hb hr rfl h hP hD hS dX6_found_47 hlocks
    · have h := h.2 c_3
      refine lv_iconst (v := (0 : Int32)) hx hb dX6_found_23 (by decide) ?_
      rw [← hQ]
      exact gRetI (u := (m_2, v_o_acts, v_o_now, v_o_diary)) hx hb hr rfl h (hP.sub [2, 0, 1] rfl) (hD.sub [2, 0, 1] (by decide) rfl) hS dX6_found_24 hlocks
  unfold P_X6_found at h
  refine lv_aload_n hx hb dX6_found_0 rfl (lv_at hl 0 rfl) ?_
  refine lv_aload_n hx hb dX6_found_1 rfl (lv_at hl 0 rfl) ?_
  refine va_get (D := D) (ci := 6) (v := .ref q_o_now) (C := RX6) (T := TX6) (N := 17) hx hb htb inT_X6 hown hK hP 0 rfl rfl 3 (by decide) (htb _ tb_90) (fun _ h9 => h9) rfl dX6_found_2 ?_
  refine lv_iconst (v := (0 : Int32)) hx hb dX6_found_5 (by decide) ?_
  refine va_iald hx hb hK hP 1 0 rfl rfl (by unfold vp_in; decide) dX6_found_6 ?_
  refine lv_bipush (v := (10 : Int32)) hx hb dX6_found_7 (by decide) ?_
  refine lv_icmp_ge (tgt := 16) hx hb dX6_found_9 (by decide) (fun c_7 => ?_) (fun c_7 => ?_)
  · have h := h.1 c_7
    refine lv_iconst (v := (1 : Int32)) hx hb dX6_found_16 (by decide) ?_
    exact B17 _ _ _ (1 : Int32) hP hD hS (lv_sub hl [0] rfl) h
  · have h := h.2 c_7
    refine lv_iconst (v := (0 : Int32)) hx hb dX6_found_12 (by decide) ?_
    refine lv_goto (tgt := 17) hx hb dX6_found_13 (by decide) ?_
    exact B17 _ _ _ (0 : Int32) hP hD hS (lv_sub hl [0] rfl) h
set_option maxHeartbeats 4000000 in
set_option maxRecDepth 100000 in
theorem c_X6_whyNotLay (l : Launch) (D : va_G) (Cs : Nat → ClassId) (q_a0 : Nat) (n_a0 : Nat) (v_a0 : (Nat → Int32)) (x1 : Int32) (x2 : Int32) (x3 : Int32) {post : Int32 → Prop} (h : P_X6_whyNotLay n_a0 v_a0 x1 x2 x3 post) : Met l yX6_whyNotLay wsX6_whyNotLay ({ frames := 3, cells := 0, slots := 0, locals := 68 } : Room) (va_Pc [.ref q_a0, .int x1, .int x2, .int x3] (gR D Cs [(q_a0, gI Cs n_a0 v_a0)])) (vp_Si post) 0 0 (fun _ => False) := by
  refine Met.ofW (cc := cX6_whyNotLay) (maxL := 5) (ret := (some .int)) (by decide) rfl ?_
  intro p e s m args below meth c s₁ B hml hv
  obtain ⟨ha, hP, hK, hN⟩ := hv
  have hx := B.exec
  have hb := B.bytes
  have hr := B.returns
  have hts := atoms_spec (ws := wsX6_whyNotLay) B.pre
  have htb : ∀ w ∈ TB, w.before args s = true := fun w h9 => hts w (List.mem_cons_of_mem _ h9)
  have hown : s.vm.findClass RX6 = some m.cls := findClass_of_methodNamed B.named
  have hlocks := B.notSynchronized
  generalize hQ : MQ below _ args s _ _ _ = Q
  show W p l e ({ frames := 3, cells := 0, slots := 0, locals := 68 } : Room) s m args below meth c s.heap [] 0 0 Q (entryFrame m args 5)
  have hent : entryFrame m args 5 = F0 m 0 ((lg_sl ([.ref q_a0, .int x1, .int x2, .int x3]) ++ List.replicate (5 - (lg_sl ([.ref q_a0, .int x1, .int x2, .int x3])).length) Slot.unset).toArray) [] := by rw [ha]; exact lg_entry_eq m ([.ref q_a0, .int x1, .int x2, .int x3]) 5
  rw [hent]; clear hent
  have hl := lv_entry ([.ref q_a0, .int x1, .int x2, .int x3]) (n := 5) (Nat.le_of_ble_eq_true rfl)
  generalize (lg_sl ([.ref q_a0, .int x1, .int x2, .int x3]) ++ List.replicate (5 - (lg_sl ([.ref q_a0, .int x1, .int x2, .int x3])).length) Slot.unset).toArray = ls at hl ⊢
  have hl : lv_has ls 5 [(0, .ref q_a0), (1, .int x1), (2, .int x2), (3, .int x3)] := hl
  have B28 : ∀ (ls : Array Slot), lv_has ls 5 [(0, .ref q_a0), (1, .int x1), (2, .int x2), (3, .int x3)] → P_X6_whyNotLay_b28 n_a0 v_a0 x1 x2 x3 post → W p l e ({ frames := 3, cells := 0, slots := 0, locals := 68 } : Room) s m args below meth c s.heap [] 0 0 Q (F0 m 28 ls []) := by
    intro ls hl h
    unfold P_X6_whyNotLay_b28 at h
    refine lv_iconst (v := (2 : Int32)) hx hb dX6_whyNotLay_28 (by decide) ?_
    rw [← hQ]
    exact gRetR hx hb hr rfl h dX6_whyNotLay_29 hlocks
  have B83 : ∀ (ls : Array Slot) (s0 : Int32), lv_has ls 5 [(0, .ref q_a0), (1, .int x1), (2, .int x2), (3, .int x3)] → P_X6_whyNotLay_b83 n_a0 v_a0 x1 x2 x3 post s0 → W p l e ({ frames := 3, cells := 0, slots := 0, locals := 68 } : Room) s m args below meth c s.heap [] 0 0 Q (F0 m 83 ls [.int s0]) := by
    intro ls s0 hl h
    unfold P_X6_whyNotLay_b83 at h
    rw [← hQ]
    exact gRetR hx hb hr rfl h dX6_whyNotLay_83 hlocks
  have B82 : ∀ (ls : Array Slot), lv_has ls 5 [(0, .ref q_a0), (1, .int x1), (2, .int x2), (3, .int x3)] → P_X6_whyNotLay_b82 n_a0 v_a0 x1 x2 x3 post → W p l e ({ frames := 3, cells := 0, slots := 0, locals := 68 } : Room) s m args below meth c s.heap [] 0 0 Q (F0 m 82 ls []) := by
    intro ls hl h
    unfold P_X6_whyNotLay_b82 at h
    refine lv_iconst (v := (0 : Int32)) hx hb dX6_whyNotLay_82 (by decide) ?_
    exact B83 _ (0 : Int32) (lv_sub hl [0, 1, 2, 3] rfl) h
  have B62 : ∀ (ls : Array Slot) (s0 : Int32), lv_has ls 5 [(0, .ref q_a0), (1, .int x1), (2, .int x2), (3, .int x3)] → P_X6_whyNotLay_b62 n_a0 v_a0 x1 x2 x3 post s0 → W p l e ({ frames := 3, cells := 0, slots := 0, locals := 68 } : Room) s m args below meth c s.heap [] 0 0 Q (F0 m 62 ls [.int s0]) := by
    intro ls s0 hl h
    unfold P_X6_whyNotLay_b62 at h
    refine lv_istore (lv' := [(4, .int s0), (0, .ref q_a0), (1, .int x1), (2, .int x2), (3, .int x3)]) hx hb dX6_whyNotLay_62 hl (by decide) rfl (fun ls hl => ?_)
    refine lv_aload_n hx hb dX6_whyNotLay_64 rfl (lv_at hl 1 rfl) ?_
    refine lv_iload_n hx hb dX6_whyNotLay_65 rfl (lv_at hl 2 rfl) ?_
    refine lv_iload_n hx hb dX6_whyNotLay_66 rfl (lv_at hl 3 rfl) ?_
    refine gSR (As := [.ref q_a0, .int x1, .int x2]) (rest := []) ⟨hx, hb, hml, hown, htb⟩ hK hP hN [0] rfl (c_X6_length l D Cs q_a0 n_a0 v_a0 x1 x2 h) (va_cwS 3 htb (TB_s tb_368 tb_369 tb_5 (TB_self tb_370)) rfl rfl rfl z_X6_length.2 ⟨Nat.le_of_ble_eq_true rfl, Nat.le_of_ble_eq_true rfl⟩) rfl hl.1 rfl (Nat.le_of_ble_eq_true rfl) ⟨Nat.le_of_ble_eq_true rfl, Nat.le_of_ble_eq_true rfl⟩ dX6_whyNotLay_67 (fun r_1 h => ?_)
    refine lv_if_ne (tgt := 82) hx hb dX6_whyNotLay_70 (by decide) (fun c_2 => ?_) (fun c_2 => ?_)
    · have h := h.2 c_2
      exact B82 _ (lv_sub hl [1, 2, 3, 4] rfl) h
    · have h := h.1 c_2
      refine lv_iload hx hb dX6_whyNotLay_73 (lv_at hl 0 rfl) ?_
      refine lv_if_eq (tgt := 82) hx hb dX6_whyNotLay_75 (by decide) (fun c_3 => ?_) (fun c_3 => ?_)
      · have h := h.1 c_3
        exact B82 _ (lv_sub hl [1, 2, 3, 4] rfl) h
      · have h := h.2 c_3
        refine lv_iconst (v := (3 : Int32)) hx hb dX6_whyNotLay_78 (by decide) ?_
        refine lv_goto (tgt := 83) hx hb dX6_whyNotLay_79 (by decide) ?_
        exact B83 _ (3 : Int32) (lv_sub hl [1, 2, 3, 4] rfl) h
  have B57 : ∀ (ls : Array Slot), lv_has ls 5 [(0, .ref q_a0), (1, .int x1), (2, .int x2), (3, .int x3)] → P_X6_whyNotLay_b57 n_a0 v_a0 x1 x2 x3 post → W p l e ({ frames := 3, cells := 0, slots := 0, locals := 68 } : Room) s m args below meth c s.heap [] 0 0 Q (F0 m 57 ls []) := by
    intro ls hl h
    unfold P_X6_whyNotLay_b57 at h
    refine lv_iconst (v := (1 : Int32)) hx hb dX6_whyNotLay_57 (by decide) ?_
    refine lv_goto (tgt := 62) hx hb dX6_whyNotLay_58 (by decide) ?_
    exact B62 _ (1 : Int32) (lv_sub hl [0, 1, 2, 3] rfl) h
  unfold P_X6_whyNotLay at h
  refine lv_aload_n hx hb dX6_whyNotLay_0 rfl (lv_at hl 0 rfl) ?_
  refine lv_iload_n hx hb dX6_whyNotLay_1 rfl (lv_at hl 1 rfl) ?_
  refine lv_iload_n hx hb dX6_whyNotLay_2 rfl (lv_at hl 2 rfl) ?_
  refine gSR (As := [.ref q_a0, .int x1, .int x2]) (rest := []) ⟨hx, hb, hml, hown, htb⟩ hK hP hN [0] rfl (c_X6_areTowns l D Cs q_a0 n_a0 v_a0 x1 x2 h) (va_cwS 3 htb (TB_s tb_399 tb_400 tb_5 (TB_self tb_401)) rfl rfl rfl z_X6_areTowns.2 ⟨Nat.le_of_ble_eq_true rfl, Nat.le_of_ble_eq_true rfl⟩) rfl hl.1 rfl (Nat.le_of_ble_eq_true rfl) ⟨Nat.le_of_ble_eq_true rfl, Nat.le_of_ble_eq_true rfl⟩ dX6_whyNotLay_3 (fun r_4 h => ?_)
  refine lv_if_ne (tgt := 11) hx hb dX6_whyNotLay_6 (by decide) (fun c_5 => ?_) (fun c_5 => ?_)
  · have h := h.2 c_5
    refine lv_iload_n hx hb dX6_whyNotLay_11 rfl (lv_at hl 1 rfl) ?_
    refine lv_iload_n hx hb dX6_whyNotLay_12 rfl (lv_at hl 2 rfl) ?_
    refine lv_icmp_eq (tgt := 28) hx hb dX6_whyNotLay_13 (by decide) (fun c_6 => ?_) (fun c_6 => ?_)
    · have h := h.1 c_6
      exact B28 _ (lv_sub hl [0, 1, 2, 3] rfl) h
    · have h := h.2 c_6
      refine lv_iload_n hx hb dX6_whyNotLay_16 rfl (lv_at hl 3 rfl) ?_
      refine lv_i2l (v := x3.toInt64) hx hb dX6_whyNotLay_17 rfl ?_
      refine lv_lconst (v := (1 : Int64)) hx hb dX6_whyNotLay_18 rfl ?_
      refine lv_ldc2 (v := (99 : Int64)) hx hb hown (htb _ tb_509) dX6_whyNotLay_19 ?_
      refine gSR (As := [.long x3.toInt64, .long (1 : Int64), .long (99 : Int64)]) (rest := []) ⟨hx, hb, hml, hown, htb⟩ hK hP hN [] rfl (c_X6_in l D Cs x3.toInt64 (1 : Int64) (99 : Int64) h) (va_cwS 3 htb (TB_s tb_125 tb_126 tb_5 (TB_self tb_127)) rfl rfl rfl z_X6_in.2 ⟨Nat.le_of_ble_eq_true rfl, Nat.le_of_ble_eq_true rfl⟩) rfl hl.1 rfl (Nat.le_of_ble_eq_true rfl) ⟨Nat.le_of_ble_eq_true rfl, Nat.le_of_ble_eq_true rfl⟩ dX6_whyNotLay_22 (fun r_7 h => ?_)
      refine lv_if_ne (tgt := 30) hx hb dX6_whyNotLay_25 (by decide) (fun c_8 => ?_) (fun c_8 => ?_)
      · have h := h.2 c_8
        refine lv_aload_n hx hb dX6_whyNotLay_30 rfl (lv_at hl 0 rfl) ?_
        refine lv_iload_n hx hb dX6_whyNotLay_31 rfl (lv_at hl 1 rfl) ?_
        refine gSR (As := [.ref q_a0, .int x1]) (rest := []) ⟨hx, hb, hml, hown, htb⟩ hK hP hN [0] rfl (c_X6_meet l D Cs q_a0 n_a0 v_a0 x1 h) (va_cwS 2 htb (TB_s tb_510 tb_511 tb_5 (TB_self tb_512)) rfl rfl rfl z_X6_meet.2 ⟨Nat.le_of_ble_eq_true rfl, Nat.le_of_ble_eq_true rfl⟩) rfl hl.1 rfl (Nat.le_of_ble_eq_true rfl) ⟨Nat.le_of_ble_eq_true rfl, Nat.le_of_ble_eq_true rfl⟩ dX6_whyNotLay_32 (fun r_9 h => ?_)
        refine lv_iconst (v := (3 : Int32)) hx hb dX6_whyNotLay_35 (by decide) ?_
        refine lv_icmp_eq (tgt := 57) hx hb dX6_whyNotLay_36 (by decide) (fun c_10 => ?_) (fun c_10 => ?_)
        · have h := h.1 c_10
          exact B57 _ (lv_sub hl [0, 1, 2, 3] rfl) h
        · have h := h.2 c_10
          refine lv_aload_n hx hb dX6_whyNotLay_39 rfl (lv_at hl 0 rfl) ?_
          refine lv_iload_n hx hb dX6_whyNotLay_40 rfl (lv_at hl 2 rfl) ?_
          refine gSR (As := [.ref q_a0, .int x2]) (rest := []) ⟨hx, hb, hml, hown, htb⟩ hK hP hN [0] rfl (c_X6_meet l D Cs q_a0 n_a0 v_a0 x2 h) (va_cwS 2 htb (TB_s tb_510 tb_511 tb_5 (TB_self tb_512)) rfl rfl rfl z_X6_meet.2 ⟨Nat.le_of_ble_eq_true rfl, Nat.le_of_ble_eq_true rfl⟩) rfl hl.1 rfl (Nat.le_of_ble_eq_true rfl) ⟨Nat.le_of_ble_eq_true rfl, Nat.le_of_ble_eq_true rfl⟩ dX6_whyNotLay_41 (fun r_11 h => ?_)
          refine lv_iconst (v := (3 : Int32)) hx hb dX6_whyNotLay_44 (by decide) ?_
          refine lv_icmp_eq (tgt := 57) hx hb dX6_whyNotLay_45 (by decide) (fun c_12 => ?_) (fun c_12 => ?_)
          · have h := h.1 c_12
            exact B57 _ (lv_sub hl [0, 1, 2, 3] rfl) h
          · have h := h.2 c_12
            refine lv_aload_n hx hb dX6_whyNotLay_48 rfl (lv_at hl 0 rfl) ?_
            refine gSR (As := [.ref q_a0]) (rest := []) ⟨hx, hb, hml, hown, htb⟩ hK hP hN [0] rfl (c_X6_roads l D Cs q_a0 n_a0 v_a0 h) (va_cwS 1 htb (TB_s tb_327 tb_328 tb_5 (TB_self tb_329)) rfl rfl rfl z_X6_roads.2 ⟨Nat.le_of_ble_eq_true rfl, Nat.le_of_ble_eq_true rfl⟩) rfl hl.1 rfl (Nat.le_of_ble_eq_true rfl) ⟨Nat.le_of_ble_eq_true rfl, Nat.le_of_ble_eq_true rfl⟩ dX6_whyNotLay_49 (fun r_13 h => ?_)
            refine lv_bipush (v := (15 : Int32)) hx hb dX6_whyNotLay_52 (by decide) ?_
            refine lv_icmp_ne (tgt := 61) hx hb dX6_whyNotLay_54 (by decide) (fun c_14 => ?_) (fun c_14 => ?_)
            · have h := h.2 c_14
              refine lv_iconst (v := (0 : Int32)) hx hb dX6_whyNotLay_61 (by decide) ?_
              exact B62 _ (0 : Int32) (lv_sub hl [0, 1, 2, 3] rfl) h
            · have h := h.1 c_14
              exact B57 _ (lv_sub hl [0, 1, 2, 3] rfl) h
      · have h := h.1 c_8
        exact B28 _ (lv_sub hl [0, 1, 2, 3] rfl) h
  · have h := h.1 c_5
    refine lv_iconst (v := (1 : Int32)) hx hb dX6_whyNotLay_9 (by decide) ?_
    rw [← hQ]
    exact gRetR hx hb hr rfl h dX6_whyNotLay_10 hlocks
set_option maxHeartbeats 4000000 in
set_option maxRecDepth 100000 in
theorem c_X6_layOn (l : Launch) (D : va_G) (Cs : Nat → ClassId) (q_a0 : Nat) (n_a0 : Nat) (sz : Nat) (v_a0 : (Nat → Int32)) (x1 : Int32) (x2 : Int32) (x3 : Int32) {post : Int32 → (Nat → Int32) → Prop} (h : P_X6_layOn n_a0 v_a0 x1 x2 x3 post) : Met l yX6_layOn wsX6_layOn ({ frames := 1, cells := 0, slots := 0, locals := 22 } : Room) (va_Pc [.ref q_a0, .int x1, .int x2, .int x3] (gM D Cs [(q_a0, gI Cs n_a0 v_a0)] sz)) (va_Qi (fun (r : Int32) (u : (Nat → Int32)) => post r u) (gB D (va_A [(q_a0, gI Cs n_a0 v_a0)] sz) (fun u : (Nat → Int32) => [(q_a0, gI Cs n_a0 u)])) (va_A [(q_a0, gI Cs n_a0 v_a0)] sz)) 0 0 (va_A [(q_a0, gI Cs n_a0 v_a0)] sz) := by
  refine Met.ofW (cc := cX6_layOn) (maxL := 4) (ret := (some .int)) (by decide) rfl ?_
  intro p e s m args below meth c s₁ B hml hv
  obtain ⟨ha, hsz, hP, hK, hD0, hN⟩ := hv
  have hx := B.exec
  have hb := B.bytes
  have hr := B.returns
  have hts := atoms_spec (ws := wsX6_layOn) B.pre
  have htb : ∀ w ∈ TB, w.before args s = true := fun w h9 => hts w (List.mem_cons_of_mem _ h9)
  have hown : s.vm.findClass RX6 = some m.cls := findClass_of_methodNamed B.named
  have hlocks := B.notSynchronized
  subst hsz
  have hD := hD0.self (sz := s.heap.size)
  generalize hAe : va_A [(q_a0, gI Cs n_a0 v_a0)] s.heap.size = A at hD ⊢
  have hA : ∀ q : Nat, s.heap.size ≤ q → A q := fun q h9 => by rw [← hAe]; exact Or.inr h9
  obtain ⟨H, hH⟩ : ∃ z : Heap, z = s.heap := ⟨_, rfl⟩
  have hS : va_S A s.heap H [] := by rw [hH]; exact va_S.rf
  have hP : va_P D vwCl [(q_a0, gI Cs n_a0 v_a0)] H := by rw [hH]; exact hP
  generalize hQ : MQ below _ args s _ _ _ = Q
  show W p l e ({ frames := 1, cells := 0, slots := 0, locals := 22 } : Room) s m args below meth c s.heap [] 0 0 Q (entryFrame m args 4)
  have hent : entryFrame m args 4 = F0 m 0 ((lg_sl ([.ref q_a0, .int x1, .int x2, .int x3]) ++ List.replicate (4 - (lg_sl ([.ref q_a0, .int x1, .int x2, .int x3])).length) Slot.unset).toArray) [] := by rw [ha]; exact lg_entry_eq m ([.ref q_a0, .int x1, .int x2, .int x3]) 4
  rw [hent]; clear hent
  rw [← hH]
  have hl := lv_entry ([.ref q_a0, .int x1, .int x2, .int x3]) (n := 4) (Nat.le_of_ble_eq_true rfl)
  generalize (lg_sl ([.ref q_a0, .int x1, .int x2, .int x3]) ++ List.replicate (4 - (lg_sl ([.ref q_a0, .int x1, .int x2, .int x3])).length) Slot.unset).toArray = ls at hl ⊢
  have hl : lv_has ls 4 [(0, .ref q_a0), (1, .int x1), (2, .int x2), (3, .int x3)] := hl
  unfold P_X6_layOn at h
  refine lv_aload_n hx hb dX6_layOn_0 rfl (lv_at hl 0 rfl) ?_
  refine lv_iconst (v := (1 : Int32)) hx hb dX6_layOn_1 (by decide) ?_
  refine lv_bipush (v := (10 : Int32)) hx hb dX6_layOn_2 (by decide) ?_
  refine lv_iload_n hx hb dX6_layOn_4 rfl (lv_at hl 1 rfl) ?_
  refine lv_imul hx hb dX6_layOn_5 ?_
  refine lv_iadd hx hb dX6_layOn_6 ?_
  refine lv_iload_n hx hb dX6_layOn_7 rfl (lv_at hl 2 rfl) ?_
  refine lv_iadd hx hb dX6_layOn_8 ?_
  refine lv_iload_n hx hb dX6_layOn_9 rfl (lv_at hl 3 rfl) ?_
  obtain ⟨hi_1, h⟩ := h
  refine va_iast hx hb hK hP hD hS 0 0 rfl rfl hi_1 dX6_layOn_10 (fun H locs hP hD hS => ?_)
  have hP : va_P D vwCl [(q_a0, gI Cs n_a0 (upd v_a0 (((1 : Int32) + ((10 : Int32) * x1)) + x2).toNatClampNeg x3))] H := hP
  have hD : va_D A [(q_a0, gI Cs n_a0 (upd v_a0 (((1 : Int32) + ((10 : Int32) * x1)) + x2).toNatClampNeg x3))] := hD
  refine lv_aload_n hx hb dX6_layOn_11 rfl (lv_at hl 0 rfl) ?_
  refine lv_iconst (v := (1 : Int32)) hx hb dX6_layOn_12 (by decide) ?_
  refine lv_bipush (v := (10 : Int32)) hx hb dX6_layOn_13 (by decide) ?_
  refine lv_iload_n hx hb dX6_layOn_15 rfl (lv_at hl 2 rfl) ?_
  refine lv_imul hx hb dX6_layOn_16 ?_
  refine lv_iadd hx hb dX6_layOn_17 ?_
  refine lv_iload_n hx hb dX6_layOn_18 rfl (lv_at hl 1 rfl) ?_
  refine lv_iadd hx hb dX6_layOn_19 ?_
  refine lv_iload_n hx hb dX6_layOn_20 rfl (lv_at hl 3 rfl) ?_
  obtain ⟨hi_2, h⟩ := h
  refine va_iast hx hb hK hP hD hS 0 0 rfl rfl hi_2 dX6_layOn_21 (fun H locs hP hD hS => ?_)
  have hP : va_P D vwCl [(q_a0, gI Cs n_a0 (upd (upd v_a0 (((1 : Int32) + ((10 : Int32) * x1)) + x2).toNatClampNeg x3) (((1 : Int32) + ((10 : Int32) * x2)) + x1).toNatClampNeg x3))] H := hP
  have hD : va_D A [(q_a0, gI Cs n_a0 (upd (upd v_a0 (((1 : Int32) + ((10 : Int32) * x1)) + x2).toNatClampNeg x3) (((1 : Int32) + ((10 : Int32) * x2)) + x1).toNatClampNeg x3))] := hD
  refine lv_aload_n hx hb dX6_layOn_22 rfl (lv_at hl 0 rfl) ?_
  refine gSR (As := [.ref q_a0]) (rest := []) ⟨hx, hb, hml, hown, htb⟩ hK hP hN [0] rfl (c_X6_roads l D Cs q_a0 n_a0 (upd (upd v_a0 (((1 : Int32) + ((10 : Int32) * x1)) + x2).toNatClampNeg x3) (((1 : Int32) + ((10 : Int32) * x2)) + x1).toNatClampNeg x3) h) (va_cwS 1 htb (TB_s tb_327 tb_328 tb_5 (TB_self tb_329)) rfl rfl rfl z_X6_roads.2 ⟨Nat.le_of_ble_eq_true rfl, Nat.le_of_ble_eq_true rfl⟩) rfl hl.1 rfl (Nat.le_of_ble_eq_true rfl) ⟨Nat.le_of_ble_eq_true rfl, Nat.le_of_ble_eq_true rfl⟩ dX6_layOn_23 (fun r_3 h => ?_)
  rw [← hQ]
  exact gRetI (u := (upd (upd v_a0 (((1 : Int32) + ((10 : Int32) * x1)) + x2).toNatClampNeg x3) (((1 : Int32) + ((10 : Int32) * x2)) + x1).toNatClampNeg x3)) hx hb hr rfl h hP hD hS dX6_layOn_26 hlocks
