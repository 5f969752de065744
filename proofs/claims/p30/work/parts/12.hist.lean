set_option maxHeartbeats 4000000 in
set_option maxRecDepth 100000 in
theorem c_X0_takeRoads (l : Launch) (D : va_G) (Cs : Nat → ClassId) (q_o : Nat) (q_a1 : Nat) (q_o_from : Nat) (q_o_to : Nat) (q_o_lengths : Nat) (q_o_earliest : Nat) (q_o_latest : Nat) (q_o_years : Nat) (q_o_explained : Nat) (q_o_together : Nat) (q_a1_cells : Nat) (sz : Nat) (v_o_towns : Int32) (v_o_roads : Int32) (v_o_from : (Nat → Int32)) (v_o_to : (Nat → Int32)) (v_o_lengths : (Nat → Int32)) (v_a1_cells : (Nat → Int32)) (v_o_known : Int32) (v_o_fewest : Int32) (v_o_origins : Int32) (v_o_always : Int32) (v_o_sometimes : Int32) (v_o_leastSets : Int32) {post : Int32 → (Nat → Int32) → (Nat → Int32) → (Nat → Int32) → Prop} (h : P_X0_takeRoads v_o_towns v_o_roads v_o_from v_o_to v_o_lengths v_a1_cells post) : Met l yX0_takeRoads wsX0_takeRoads ({ frames := 2, cells := 0, slots := 0, locals := 43 } : Room) (va_Pc [.ref q_o, .ref q_a1] (gM D Cs [(q_o, .inr (0, [.ref q_o_from, .ref q_o_to, .ref q_o_lengths, .ref q_o_earliest, .ref q_o_latest, .ref q_o_years, .ref q_o_explained, .ref q_o_together, .int v_o_towns, .int v_o_roads, .int v_o_known, .int v_o_fewest, .int v_o_origins, .int v_o_always, .int v_o_sometimes, .int v_o_leastSets])), (q_o_from, gI Cs 15 v_o_from), (q_o_to, gI Cs 15 v_o_to), (q_o_lengths, gI Cs 15 v_o_lengths), (q_a1, .inr (1, [.ref q_a1_cells])), (q_a1_cells, gI Cs 221 v_a1_cells)] sz)) (va_Qv (fun (u : Int32 × (Nat → Int32) × (Nat → Int32) × (Nat → Int32)) => post u.1 u.2.1 u.2.2.1 u.2.2.2) (gB D (va_A [(q_o, .inr (0, [.ref q_o_from, .ref q_o_to, .ref q_o_lengths, .ref q_o_earliest, .ref q_o_latest, .ref q_o_years, .ref q_o_explained, .ref q_o_together, .int v_o_towns, .int v_o_roads, .int v_o_known, .int v_o_fewest, .int v_o_origins, .int v_o_always, .int v_o_sometimes, .int v_o_leastSets])), (q_o_from, gI Cs 15 v_o_from), (q_o_to, gI Cs 15 v_o_to), (q_o_lengths, gI Cs 15 v_o_lengths), (q_a1, .inr (1, [.ref q_a1_cells])), (q_a1_cells, gI Cs 221 v_a1_cells)] sz) (fun u : Int32 × (Nat → Int32) × (Nat → Int32) × (Nat → Int32) => [(q_o, .inr (0, [.ref q_o_from, .ref q_o_to, .ref q_o_lengths, .ref q_o_earliest, .ref q_o_latest, .ref q_o_years, .ref q_o_explained, .ref q_o_together, .int v_o_towns, .int u.1, .int v_o_known, .int v_o_fewest, .int v_o_origins, .int v_o_always, .int v_o_sometimes, .int v_o_leastSets])), (q_o_from, gI Cs 15 u.2.1), (q_o_to, gI Cs 15 u.2.2.1), (q_o_lengths, gI Cs 15 u.2.2.2), (q_a1, .inr (1, [.ref q_a1_cells])), (q_a1_cells, gI Cs 221 v_a1_cells)])) (va_A [(q_o, .inr (0, [.ref q_o_from, .ref q_o_to, .ref q_o_lengths, .ref q_o_earliest, .ref q_o_latest, .ref q_o_years, .ref q_o_explained, .ref q_o_together, .int v_o_towns, .int v_o_roads, .int v_o_known, .int v_o_fewest, .int v_o_origins, .int v_o_always, .int v_o_sometimes, .int v_o_leastSets])), (q_o_from, gI Cs 15 v_o_from), (q_o_to, gI Cs 15 v_o_to), (q_o_lengths, gI Cs 15 v_o_lengths), (q_a1, .inr (1, [.ref q_a1_cells])), (q_a1_cells, gI Cs 221 v_a1_cells)] sz)) 0 0 (va_A [(q_o, .inr (0, [.ref q_o_from, .ref q_o_to, .ref q_o_lengths, .ref q_o_earliest, .ref q_o_latest, .ref q_o_years, .ref q_o_explained, .ref q_o_together, .int v_o_towns, .int v_o_roads, .int v_o_known, .int v_o_fewest, .int v_o_origins, .int v_o_always, .int v_o_sometimes, .int v_o_leastSets])), (q_o_from, gI Cs 15 v_o_from), (q_o_to, gI Cs 15 v_o_to), (q_o_lengths, gI Cs 15 v_o_lengths), (q_a1, .inr (1, [.ref q_a1_cells])), (q_a1_cells, gI Cs 221 v_a1_cells)] sz) := by
  refine Met.ofW (cc := cX0_takeRoads) (maxL := 5) (ret := none) (by decide) rfl ?_
  intro p e s m args below meth c s₁ B hml hv
  obtain ⟨ha, hsz, hP, hK, hD0, hN⟩ := hv
  have hx := B.exec
  have hb := B.bytes
  have hr := B.returns
  have hts := atoms_spec (ws := wsX0_takeRoads) B.pre
  have htb : ∀ w ∈ TB, w.before args s = true := fun w h9 => hts w (List.mem_cons_of_mem _ h9)
  have hown : s.vm.findClass RX0 = some m.cls := findClass_of_methodNamed B.named
  have hlocks := B.notSynchronized
  subst hsz
  have hD := hD0.self (sz := s.heap.size)
  generalize hAe : va_A [(q_o, .inr (0, [.ref q_o_from, .ref q_o_to, .ref q_o_lengths, .ref q_o_earliest, .ref q_o_latest, .ref q_o_years, .ref q_o_explained, .ref q_o_together, .int v_o_towns, .int v_o_roads, .int v_o_known, .int v_o_fewest, .int v_o_origins, .int v_o_always, .int v_o_sometimes, .int v_o_leastSets])), (q_o_from, gI Cs 15 v_o_from), (q_o_to, gI Cs 15 v_o_to), (q_o_lengths, gI Cs 15 v_o_lengths), (q_a1, .inr (1, [.ref q_a1_cells])), (q_a1_cells, gI Cs 221 v_a1_cells)] s.heap.size = A at hD ⊢
  have hA : ∀ q : Nat, s.heap.size ≤ q → A q := fun q h9 => by rw [← hAe]; exact Or.inr h9
  obtain ⟨H, hH⟩ : ∃ z : Heap, z = s.heap := ⟨_, rfl⟩
  have hS : va_S A s.heap H [] := by rw [hH]; exact va_S.rf
  have hP : va_P D vwCl [(q_o, .inr (0, [.ref q_o_from, .ref q_o_to, .ref q_o_lengths, .ref q_o_earliest, .ref q_o_latest, .ref q_o_years, .ref q_o_explained, .ref q_o_together, .int v_o_towns, .int v_o_roads, .int v_o_known, .int v_o_fewest, .int v_o_origins, .int v_o_always, .int v_o_sometimes, .int v_o_leastSets])), (q_o_from, gI Cs 15 v_o_from), (q_o_to, gI Cs 15 v_o_to), (q_o_lengths, gI Cs 15 v_o_lengths), (q_a1, .inr (1, [.ref q_a1_cells])), (q_a1_cells, gI Cs 221 v_a1_cells)] H := by rw [hH]; exact hP
  generalize hQ : MQ below _ args s _ _ _ = Q
  show W p l e ({ frames := 2, cells := 0, slots := 0, locals := 43 } : Room) s m args below meth c s.heap [] 0 0 Q (entryFrame m args 5)
  have hent : entryFrame m args 5 = F0 m 0 ((lg_sl ([.ref q_o, .ref q_a1]) ++ List.replicate (5 - (lg_sl ([.ref q_o, .ref q_a1])).length) Slot.unset).toArray) [] := by rw [ha]; exact lg_entry_eq m ([.ref q_o, .ref q_a1]) 5
  rw [hent]; clear hent
  rw [← hH]
  have hl := lv_entry ([.ref q_o, .ref q_a1]) (n := 5) (Nat.le_of_ble_eq_true rfl)
  generalize (lg_sl ([.ref q_o, .ref q_a1]) ++ List.replicate (5 - (lg_sl ([.ref q_o, .ref q_a1])).length) Slot.unset).toArray = ls at hl ⊢
  have hl : lv_has ls 5 [(0, .ref q_o), (1, .ref q_a1)] := hl
  have L7 : ∀ (n : Nat) (H : Heap) (locs : List Loc) (ls : Array Slot) (w_o_roads : Int32) (w_o_from : (Nat → Int32)) (w_o_to : (Nat → Int32)) (w_o_lengths : (Nat → Int32)) (x2 : Int32), va_P D vwCl [(q_o, .inr (0, [.ref q_o_from, .ref q_o_to, .ref q_o_lengths, .ref q_o_earliest, .ref q_o_latest, .ref q_o_years, .ref q_o_explained, .ref q_o_together, .int v_o_towns, .int w_o_roads, .int v_o_known, .int v_o_fewest, .int v_o_origins, .int v_o_always, .int v_o_sometimes, .int v_o_leastSets])), (q_o_from, gI Cs 15 w_o_from), (q_o_to, gI Cs 15 w_o_to), (q_o_lengths, gI Cs 15 w_o_lengths), (q_a1, .inr (1, [.ref q_a1_cells])), (q_a1_cells, gI Cs 221 v_a1_cells)] H → va_D A [(q_o, .inr (0, [.ref q_o_from, .ref q_o_to, .ref q_o_lengths, .ref q_o_earliest, .ref q_o_latest, .ref q_o_years, .ref q_o_explained, .ref q_o_together, .int v_o_towns, .int w_o_roads, .int v_o_known, .int v_o_fewest, .int v_o_origins, .int v_o_always, .int v_o_sometimes, .int v_o_leastSets])), (q_o_from, gI Cs 15 w_o_from), (q_o_to, gI Cs 15 w_o_to), (q_o_lengths, gI Cs 15 w_o_lengths), (q_a1, .inr (1, [.ref q_a1_cells])), (q_a1_cells, gI Cs 221 v_a1_cells)] → va_S A s.heap H locs → lv_has ls 5 [(0, .ref q_o), (1, .ref q_a1), (2, .int x2)] → P_X0_takeRoads_l7 v_o_towns v_o_roads v_o_from v_o_to v_o_lengths v_a1_cells post n w_o_roads w_o_from w_o_to w_o_lengths x2 → W p l e ({ frames := 2, cells := 0, slots := 0, locals := 43 } : Room) s m args below meth c H locs 0 0 Q (F0 m 7 ls []) := by
    intro n7
    induction n7 with
    | zero => intro H locs ls w_o_roads w_o_from w_o_to w_o_lengths x2 hP hD hS hl h; exact False.elim h
    | succ n7 ih7 =>
      have L19 : ∀ (n : Nat) (H : Heap) (locs : List Loc) (ls : Array Slot) (w_o_roads : Int32) (w_o_from : (Nat → Int32)) (w_o_to : (Nat → Int32)) (w_o_lengths : (Nat → Int32)) (x2 : Int32) (x3 : Int32), va_P D vwCl [(q_o, .inr (0, [.ref q_o_from, .ref q_o_to, .ref q_o_lengths, .ref q_o_earliest, .ref q_o_latest, .ref q_o_years, .ref q_o_explained, .ref q_o_together, .int v_o_towns, .int w_o_roads, .int v_o_known, .int v_o_fewest, .int v_o_origins, .int v_o_always, .int v_o_sometimes, .int v_o_leastSets])), (q_o_from, gI Cs 15 w_o_from), (q_o_to, gI Cs 15 w_o_to), (q_o_lengths, gI Cs 15 w_o_lengths), (q_a1, .inr (1, [.ref q_a1_cells])), (q_a1_cells, gI Cs 221 v_a1_cells)] H → va_D A [(q_o, .inr (0, [.ref q_o_from, .ref q_o_to, .ref q_o_lengths, .ref q_o_earliest, .ref q_o_latest, .ref q_o_years, .ref q_o_explained, .ref q_o_together, .int v_o_towns, .int w_o_roads, .int v_o_known, .int v_o_fewest, .int v_o_origins, .int v_o_always, .int v_o_sometimes, .int v_o_leastSets])), (q_o_from, gI Cs 15 w_o_from), (q_o_to, gI Cs 15 w_o_to), (q_o_lengths, gI Cs 15 w_o_lengths), (q_a1, .inr (1, [.ref q_a1_cells])), (q_a1_cells, gI Cs 221 v_a1_cells)] → va_S A s.heap H locs → lv_has ls 5 [(0, .ref q_o), (1, .ref q_a1), (2, .int x2), (3, .int x3)] → P_X0_takeRoads_l19 v_o_towns v_o_roads v_o_from v_o_to v_o_lengths v_a1_cells post (P_X0_takeRoads_l7 v_o_towns v_o_roads v_o_from v_o_to v_o_lengths v_a1_cells post n7) n w_o_roads w_o_from w_o_to w_o_lengths x2 x3 → W p l e ({ frames := 2, cells := 0, slots := 0, locals := 43 } : Room) s m args below meth c H locs 0 0 Q (F0 m 19 ls []) := by
        intro n19
        induction n19 with
        | zero => intro H locs ls w_o_roads w_o_from w_o_to w_o_lengths x2 x3 hP hD hS hl h; exact False.elim h
        | succ n19 ih19 =>
          have B91 : ∀ (H : Heap) (locs : List Loc) (ls : Array Slot) (w_o_roads : Int32) (w_o_from : (Nat → Int32)) (w_o_to : (Nat → Int32)) (w_o_lengths : (Nat → Int32)) (x2 : Int32) (x3 : Int32), va_P D vwCl [(q_o, .inr (0, [.ref q_o_from, .ref q_o_to, .ref q_o_lengths, .ref q_o_earliest, .ref q_o_latest, .ref q_o_years, .ref q_o_explained, .ref q_o_together, .int v_o_towns, .int w_o_roads, .int v_o_known, .int v_o_fewest, .int v_o_origins, .int v_o_always, .int v_o_sometimes, .int v_o_leastSets])), (q_o_from, gI Cs 15 w_o_from), (q_o_to, gI Cs 15 w_o_to), (q_o_lengths, gI Cs 15 w_o_lengths), (q_a1, .inr (1, [.ref q_a1_cells])), (q_a1_cells, gI Cs 221 v_a1_cells)] H → va_D A [(q_o, .inr (0, [.ref q_o_from, .ref q_o_to, .ref q_o_lengths, .ref q_o_earliest, .ref q_o_latest, .ref q_o_years, .ref q_o_explained, .ref q_o_together, .int v_o_towns, .int w_o_roads, .int v_o_known, .int v_o_fewest, .int v_o_origins, .int v_o_always, .int v_o_sometimes, .int v_o_leastSets])), (q_o_from, gI Cs 15 w_o_from), (q_o_to, gI Cs 15 w_o_to), (q_o_lengths, gI Cs 15 w_o_lengths), (q_a1, .inr (1, [.ref q_a1_cells])), (q_a1_cells, gI Cs 221 v_a1_cells)] → va_S A s.heap H locs → lv_has ls 5 [(0, .ref q_o), (1, .ref q_a1), (2, .int x2), (3, .int x3)] → P_X0_takeRoads_b91 v_o_towns v_o_roads v_o_from v_o_to v_o_lengths v_a1_cells post (P_X0_takeRoads_l7 v_o_towns v_o_roads v_o_from v_o_to v_o_lengths v_a1_cells post n7) (P_X0_takeRoads_l19 v_o_towns v_o_roads v_o_from v_o_to v_o_lengths v_a1_cells post (P_X0_takeRoads_l7 v_o_towns v_o_roads v_o_from v_o_to v_o_lengths v_a1_cells post n7) n19) w_o_roads w_o_from w_o_to w_o_lengths x2 x3 → W p l e ({ frames := 2, cells := 0, slots := 0, locals := 43 } : Room) s m args below meth c H locs 0 0 Q (F0 m 91 ls []) := by
            intro H locs ls w_o_roads w_o_from w_o_to w_o_lengths x2 x3 hP hD hS hl h
            unfold P_X0_takeRoads_b91 at h
            obtain ⟨x3_1, ex3_1⟩ : ∃ y : Int32, y = x3 + (1 : Int32) := ⟨_, rfl⟩
            have h := h _ ex3_1
            refine lv_iinc (v := x3_1) (lv' := [(3, .int x3_1), (0, .ref q_o), (1, .ref q_a1), (2, .int x2)]) hx hb dX0_takeRoads_91 hl (k := 3) rfl (by rw [ex3_1]; rfl) (by decide) rfl (fun ls hl => ?_)
            refine lv_goto (tgt := 19) hx hb dX0_takeRoads_94 (by decide) ?_
            exact ih19 _ _ _ w_o_roads w_o_from w_o_to w_o_lengths x2 x3_1 hP hD hS (lv_sub hl [1, 2, 3, 0] rfl) h
          intro H locs ls w_o_roads w_o_from w_o_to w_o_lengths x2 x3 hP hD hS hl h
          replace h : P_X0_takeRoads_b19 v_o_towns v_o_roads v_o_from v_o_to v_o_lengths v_a1_cells post (P_X0_takeRoads_l7 v_o_towns v_o_roads v_o_from v_o_to v_o_lengths v_a1_cells post n7) (P_X0_takeRoads_l19 v_o_towns v_o_roads v_o_from v_o_to v_o_lengths v_a1_cells post (P_X0_takeRoads_l7 v_o_towns v_o_roads v_o_from v_o_to v_o_lengths v_a1_cells post n7) n19) w_o_roads w_o_from w_o_to w_o_lengths x2 x3 := h
          unfold P_X0_takeRoads_b19 at h
          refine lv_iload_n hx hb dX0_takeRoads_19 rfl (lv_at hl 3 rfl) ?_
          refine lv_aload_n hx hb dX0_takeRoads_20 rfl (lv_at hl 0 rfl) ?_
          refine va_get (D := D) (ci := 0) (v := .int v_o_towns) (C := RX0) (T := TX0) (N := 16) hx hb htb inT_X0 hown hK hP 0 rfl rfl 8 (by decide) (htb _ tb_178) (fun _ h9 => h9) rfl dX0_takeRoads_21 ?_
          refine lv_icmp_ge (tgt := 97) hx hb dX0_takeRoads_24 (by decide) (fun c_2 => ?_) (fun c_2 => ?_)
          · have h := h.1 c_2
            obtain ⟨x2_3, ex2_3⟩ : ∃ y : Int32, y = x2 + (1 : Int32) := ⟨_, rfl⟩
            have h := h _ ex2_3
            refine lv_iinc (v := x2_3) (lv' := [(2, .int x2_3), (0, .ref q_o), (1, .ref q_a1), (3, .int x3)]) hx hb dX0_takeRoads_97 hl (k := 2) rfl (by rw [ex2_3]; rfl) (by decide) rfl (fun ls hl => ?_)
            refine lv_goto (tgt := 7) hx hb dX0_takeRoads_100 (by decide) ?_
            exact ih7 _ _ _ w_o_roads w_o_from w_o_to w_o_lengths x2_3 hP hD hS (lv_sub hl [1, 2, 0] rfl) h
          · have h := h.2 c_2
            refine lv_aload_n hx hb dX0_takeRoads_27 rfl (lv_at hl 1 rfl) ?_
            refine lv_iload_n hx hb dX0_takeRoads_28 rfl (lv_at hl 2 rfl) ?_
            refine lv_iload_n hx hb dX0_takeRoads_29 rfl (lv_at hl 3 rfl) ?_
            refine gVR (As := [.int x2, .int x3]) (rest := []) ⟨hx, hb, hml, hown, htb⟩ hK hP hN [4, 5] rfl (c_X1_roadLength l D Cs q_a1 q_a1_cells v_a1_cells x2 x3 h) (cwV 2 htb (TB_v tb_187 tb_137 tb_138 tb_14 (TB_self tb_139)) rfl rfl rfl z_X1_roadLength ⟨Nat.le_of_ble_eq_true rfl, Nat.le_of_ble_eq_true rfl⟩) 4 rfl rfl rfl rfl hl.1 rfl (Nat.le_of_ble_eq_true rfl) ⟨Nat.le_of_ble_eq_true rfl, Nat.le_of_ble_eq_true rfl⟩ dX0_takeRoads_30 (fun r_4 h => ?_)
            refine lv_istore (lv' := [(4, .int r_4), (0, .ref q_o), (1, .ref q_a1), (2, .int x2), (3, .int x3)]) hx hb dX0_takeRoads_33 hl (by decide) rfl (fun ls hl => ?_)
            refine lv_iload hx hb dX0_takeRoads_35 (lv_at hl 0 rfl) ?_
            refine lv_iconst (v := (-1 : Int32)) hx hb dX0_takeRoads_37 (by decide) ?_
            refine lv_icmp_eq (tgt := 91) hx hb dX0_takeRoads_38 (by decide) (fun c_5 => ?_) (fun c_5 => ?_)
            · have h := h.1 c_5
              exact B91 _ _ _ w_o_roads w_o_from w_o_to w_o_lengths x2 x3 hP hD hS (lv_sub hl [1, 2, 3, 4] rfl) h
            · have h := h.2 c_5
              refine lv_aload_n hx hb dX0_takeRoads_41 rfl (lv_at hl 1 rfl) ?_
              refine va_get (D := D) (ci := 0) (v := .int w_o_roads) (C := RX0) (T := TX0) (N := 16) hx hb htb inT_X0 hown hK hP 0 rfl rfl 9 (by decide) (htb _ tb_186) (fun _ h9 => h9) rfl dX0_takeRoads_42 ?_
              refine lv_bipush (v := (15 : Int32)) hx hb dX0_takeRoads_45 (by decide) ?_
              refine lv_icmp_ge (tgt := 91) hx hb dX0_takeRoads_47 (by decide) (fun c_6 => ?_) (fun c_6 => ?_)
              · have h := h.1 c_6
                exact B91 _ _ _ w_o_roads w_o_from w_o_to w_o_lengths x2 x3 hP hD hS (lv_sub hl [1, 2, 3, 4] rfl) h
              · have h := h.2 c_6
                refine lv_aload_n hx hb dX0_takeRoads_50 rfl (lv_at hl 1 rfl) ?_
                refine va_get (D := D) (ci := 0) (v := .ref q_o_from) (C := RX0) (T := TX0) (N := 16) hx hb htb inT_X0 hown hK hP 0 rfl rfl 0 (by decide) (htb _ tb_65) (fun _ h9 => h9) rfl dX0_takeRoads_51 ?_
                refine lv_aload_n hx hb dX0_takeRoads_54 rfl (lv_at hl 1 rfl) ?_
                refine va_get (D := D) (ci := 0) (v := .int w_o_roads) (C := RX0) (T := TX0) (N := 16) hx hb htb inT_X0 hown hK hP 0 rfl rfl 9 (by decide) (htb _ tb_186) (fun _ h9 => h9) rfl dX0_takeRoads_55 ?_
                refine lv_iload_n hx hb dX0_takeRoads_58 rfl (lv_at hl 3 rfl) ?_
                obtain ⟨hi_7, h⟩ := h
                refine va_iast hx hb hK hP hD hS 1 0 rfl rfl hi_7 dX0_takeRoads_59 (fun H locs hP hD hS => ?_)
                have hP : va_P D vwCl [(q_o, .inr (0, [.ref q_o_from, .ref q_o_to, .ref q_o_lengths, .ref q_o_earliest, .ref q_o_latest, .ref q_o_years, .ref q_o_explained, .ref q_o_together, .int v_o_towns, .int w_o_roads, .int v_o_known, .int v_o_fewest, .int v_o_origins, .int v_o_always, .int v_o_sometimes, .int v_o_leastSets])), (q_o_from, gI Cs 15 (upd w_o_from w_o_roads.toNatClampNeg x2)), (q_o_to, gI Cs 15 w_o_to), (q_o_lengths, gI Cs 15 w_o_lengths), (q_a1, .inr (1, [.ref q_a1_cells])), (q_a1_cells, gI Cs 221 v_a1_cells)] H := hP
                have hD : va_D A [(q_o, .inr (0, [.ref q_o_from, .ref q_o_to, .ref q_o_lengths, .ref q_o_earliest, .ref q_o_latest, .ref q_o_years, .ref q_o_explained, .ref q_o_together, .int v_o_towns, .int w_o_roads, .int v_o_known, .int v_o_fewest, .int v_o_origins, .int v_o_always, .int v_o_sometimes, .int v_o_leastSets])), (q_o_from, gI Cs 15 (upd w_o_from w_o_roads.toNatClampNeg x2)), (q_o_to, gI Cs 15 w_o_to), (q_o_lengths, gI Cs 15 w_o_lengths), (q_a1, .inr (1, [.ref q_a1_cells])), (q_a1_cells, gI Cs 221 v_a1_cells)] := hD
                refine lv_aload_n hx hb dX0_takeRoads_60 rfl (lv_at hl 1 rfl) ?_
                refine va_get (D := D) (ci := 0) (v := .ref q_o_to) (C := RX0) (T := TX0) (N := 16) hx hb htb inT_X0 hown hK hP 0 rfl rfl 1 (by decide) (htb _ tb_66) (fun _ h9 => h9) rfl dX0_takeRoads_61 ?_
                refine lv_aload_n hx hb dX0_takeRoads_64 rfl (lv_at hl 1 rfl) ?_
                refine va_get (D := D) (ci := 0) (v := .int w_o_roads) (C := RX0) (T := TX0) (N := 16) hx hb htb inT_X0 hown hK hP 0 rfl rfl 9 (by decide) (htb _ tb_186) (fun _ h9 => h9) rfl dX0_takeRoads_65 ?_
                refine lv_iload_n hx hb dX0_takeRoads_68 rfl (lv_at hl 4 rfl) ?_
                obtain ⟨hi_8, h⟩ := h
                refine va_iast hx hb hK hP hD hS 2 0 rfl rfl hi_8 dX0_takeRoads_69 (fun H locs hP hD hS => ?_)
                have hP : va_P D vwCl [(q_o, .inr (0, [.ref q_o_from, .ref q_o_to, .ref q_o_lengths, .ref q_o_earliest, .ref q_o_latest, .ref q_o_years, .ref q_o_explained, .ref q_o_together, .int v_o_towns, .int w_o_roads, .int v_o_known, .int v_o_fewest, .int v_o_origins, .int v_o_always, .int v_o_sometimes, .int v_o_leastSets])), (q_o_from, gI Cs 15 (upd w_o_from w_o_roads.toNatClampNeg x2)), (q_o_to, gI Cs 15 (upd w_o_to w_o_roads.toNatClampNeg x3)), (q_o_lengths, gI Cs 15 w_o_lengths), (q_a1, .inr (1, [.ref q_a1_cells])), (q_a1_cells, gI Cs 221 v_a1_cells)] H := hP
                have hD : va_D A [(q_o, .inr (0, [.ref q_o_from, .ref q_o_to, .ref q_o_lengths, .ref q_o_earliest, .ref q_o_latest, .ref q_o_years, .ref q_o_explained, .ref q_o_together, .int v_o_towns, .int w_o_roads, .int v_o_known, .int v_o_fewest, .int v_o_origins, .int v_o_always, .int v_o_sometimes, .int v_o_leastSets])), (q_o_from, gI Cs 15 (upd w_o_from w_o_roads.toNatClampNeg x2)), (q_o_to, gI Cs 15 (upd w_o_to w_o_roads.toNatClampNeg x3)), (q_o_lengths, gI Cs 15 w_o_lengths), (q_a1, .inr (1, [.ref q_a1_cells])), (q_a1_cells, gI Cs 221 v_a1_cells)] := hD
                refine lv_aload_n hx hb dX0_takeRoads_70 rfl (lv_at hl 1 rfl) ?_
                refine va_get (D := D) (ci := 0) (v := .ref q_o_lengths) (C := RX0) (T := TX0) (N := 16) hx hb htb inT_X0 hown hK hP 0 rfl rfl 2 (by decide) (htb _ tb_67) (fun _ h9 => h9) rfl dX0_takeRoads_71 ?_
                refine lv_aload_n hx hb dX0_takeRoads_74 rfl (lv_at hl 1 rfl) ?_
                refine va_get (D := D) (ci := 0) (v := .int w_o_roads) (C := RX0) (T := TX0) (N := 16) hx hb htb inT_X0 hown hK hP 0 rfl rfl 9 (by decide) (htb _ tb_186) (fun _ h9 => h9) rfl dX0_takeRoads_75 ?_
                refine lv_iload hx hb dX0_takeRoads_78 (lv_at hl 0 rfl) ?_
                obtain ⟨hi_9, h⟩ := h
                refine va_iast hx hb hK hP hD hS 3 0 rfl rfl hi_9 dX0_takeRoads_80 (fun H locs hP hD hS => ?_)
                have hP : va_P D vwCl [(q_o, .inr (0, [.ref q_o_from, .ref q_o_to, .ref q_o_lengths, .ref q_o_earliest, .ref q_o_latest, .ref q_o_years, .ref q_o_explained, .ref q_o_together, .int v_o_towns, .int w_o_roads, .int v_o_known, .int v_o_fewest, .int v_o_origins, .int v_o_always, .int v_o_sometimes, .int v_o_leastSets])), (q_o_from, gI Cs 15 (upd w_o_from w_o_roads.toNatClampNeg x2)), (q_o_to, gI Cs 15 (upd w_o_to w_o_roads.toNatClampNeg x3)), (q_o_lengths, gI Cs 15 (upd w_o_lengths w_o_roads.toNatClampNeg r_4)), (q_a1, .inr (1, [.ref q_a1_cells])), (q_a1_cells, gI Cs 221 v_a1_cells)] H := hP
                have hD : va_D A [(q_o, .inr (0, [.ref q_o_from, .ref q_o_to, .ref q_o_lengths, .ref q_o_earliest, .ref q_o_latest, .ref q_o_years, .ref q_o_explained, .ref q_o_together, .int v_o_towns, .int w_o_roads, .int v_o_known, .int v_o_fewest, .int v_o_origins, .int v_o_always, .int v_o_sometimes, .int v_o_leastSets])), (q_o_from, gI Cs 15 (upd w_o_from w_o_roads.toNatClampNeg x2)), (q_o_to, gI Cs 15 (upd w_o_to w_o_roads.toNatClampNeg x3)), (q_o_lengths, gI Cs 15 (upd w_o_lengths w_o_roads.toNatClampNeg r_4)), (q_a1, .inr (1, [.ref q_a1_cells])), (q_a1_cells, gI Cs 221 v_a1_cells)] := hD
                refine lv_aload_n hx hb dX0_takeRoads_81 rfl (lv_at hl 1 rfl) ?_
                refine lv_dup hx hb dX0_takeRoads_82 rfl ?_
                refine va_get (D := D) (ci := 0) (v := .int w_o_roads) (C := RX0) (T := TX0) (N := 16) hx hb htb inT_X0 hown hK hP 0 rfl rfl 9 (by decide) (htb _ tb_186) (fun _ h9 => h9) rfl dX0_takeRoads_83 ?_
                refine lv_iconst (v := (1 : Int32)) hx hb dX0_takeRoads_86 (by decide) ?_
                refine lv_iadd hx hb dX0_takeRoads_87 ?_
                refine lv_topi (fun f_roads_10 ef_roads_10 => ?_)
                have h := h _ ef_roads_10
                refine va_put (D := D) (ci := 0) (v := .int f_roads_10) (ty := .int) (C := RX0) (T := TX0) (N := 16) hx hb htb inT_X0 tyX0 tyX0_ok nmX0 hown hK hP hD hS 0 rfl rfl 9 (by decide) (htb _ tb_186) (fun _ h9 => h9) rfl (tyX0_ok 9 (by decide)) rfl rfl (Nat.le_of_ble_eq_true rfl) dX0_takeRoads_88 (fun H locs hP hD hS => ?_)
                have hP : va_P D vwCl [(q_o, .inr (0, [.ref q_o_from, .ref q_o_to, .ref q_o_lengths, .ref q_o_earliest, .ref q_o_latest, .ref q_o_years, .ref q_o_explained, .ref q_o_together, .int v_o_towns, .int f_roads_10, .int v_o_known, .int v_o_fewest, .int v_o_origins, .int v_o_always, .int v_o_sometimes, .int v_o_leastSets])), (q_o_from, gI Cs 15 (upd w_o_from w_o_roads.toNatClampNeg x2)), (q_o_to, gI Cs 15 (upd w_o_to w_o_roads.toNatClampNeg x3)), (q_o_lengths, gI Cs 15 (upd w_o_lengths w_o_roads.toNatClampNeg r_4)), (q_a1, .inr (1, [.ref q_a1_cells])), (q_a1_cells, gI Cs 221 v_a1_cells)] H := hP
                have hD : va_D A [(q_o, .inr (0, [.ref q_o_from, .ref q_o_to, .ref q_o_lengths, .ref q_o_earliest, .ref q_o_latest, .ref q_o_years, .ref q_o_explained, .ref q_o_together, .int v_o_towns, .int f_roads_10, .int v_o_known, .int v_o_fewest, .int v_o_origins, .int v_o_always, .int v_o_sometimes, .int v_o_leastSets])), (q_o_from, gI Cs 15 (upd w_o_from w_o_roads.toNatClampNeg x2)), (q_o_to, gI Cs 15 (upd w_o_to w_o_roads.toNatClampNeg x3)), (q_o_lengths, gI Cs 15 (upd w_o_lengths w_o_roads.toNatClampNeg r_4)), (q_a1, .inr (1, [.ref q_a1_cells])), (q_a1_cells, gI Cs 221 v_a1_cells)] := hD
                exact B91 _ _ _ f_roads_10 (upd w_o_from w_o_roads.toNatClampNeg x2) (upd w_o_to w_o_roads.toNatClampNeg x3) (upd w_o_lengths w_o_roads.toNatClampNeg r_4) x2 x3 hP hD hS (lv_sub hl [1, 2, 3, 4] rfl) h
      intro H locs ls w_o_roads w_o_from w_o_to w_o_lengths x2 hP hD hS hl h
      replace h : P_X0_takeRoads_b7 v_o_towns v_o_roads v_o_from v_o_to v_o_lengths v_a1_cells post (P_X0_takeRoads_l7 v_o_towns v_o_roads v_o_from v_o_to v_o_lengths v_a1_cells post n7) w_o_roads w_o_from w_o_to w_o_lengths x2 := h
      unfold P_X0_takeRoads_b7 at h
      refine lv_iload_n hx hb dX0_takeRoads_7 rfl (lv_at hl 2 rfl) ?_
      refine lv_aload_n hx hb dX0_takeRoads_8 rfl (lv_at hl 0 rfl) ?_
      refine va_get (D := D) (ci := 0) (v := .int v_o_towns) (C := RX0) (T := TX0) (N := 16) hx hb htb inT_X0 hown hK hP 0 rfl rfl 8 (by decide) (htb _ tb_178) (fun _ h9 => h9) rfl dX0_takeRoads_9 ?_
      refine lv_icmp_ge (tgt := 103) hx hb dX0_takeRoads_12 (by decide) (fun c_11 => ?_) (fun c_11 => ?_)
      · have h := h.1 c_11
        rw [← hQ]
        exact gRetV (u := (w_o_roads, w_o_from, w_o_to, w_o_lengths)) hx hb hr h hP hD hS dX0_takeRoads_103 hlocks
      · have h := h.2 c_11
        refine lv_iload_n hx hb dX0_takeRoads_15 rfl (lv_at hl 2 rfl) ?_
        refine lv_iconst (v := (1 : Int32)) hx hb dX0_takeRoads_16 (by decide) ?_
        refine lv_iadd hx hb dX0_takeRoads_17 ?_
        refine lv_topi (fun x3_12 ex3_12 => ?_)
        have h := h _ ex3_12
        refine lv_istore_n (lv' := [(3, .int x3_12), (0, .ref q_o), (1, .ref q_a1), (2, .int x2)]) hx hb dX0_takeRoads_18 rfl hl (by decide) rfl (fun ls hl => ?_)
        obtain ⟨n, h⟩ := h
        exact L19 n _ _ _ w_o_roads w_o_from w_o_to w_o_lengths x2 x3_12 hP hD hS (lv_sub hl [1, 2, 3, 0] rfl) h
  unfold P_X0_takeRoads at h
  refine lv_aload_n hx hb dX0_takeRoads_0 rfl (lv_at hl 0 rfl) ?_
  refine lv_iconst (v := (0 : Int32)) hx hb dX0_takeRoads_1 (by decide) ?_
  refine va_put (D := D) (ci := 0) (v := .int (0 : Int32)) (ty := .int) (C := RX0) (T := TX0) (N := 16) hx hb htb inT_X0 tyX0 tyX0_ok nmX0 hown hK hP hD hS 0 rfl rfl 9 (by decide) (htb _ tb_186) (fun _ h9 => h9) rfl (tyX0_ok 9 (by decide)) rfl rfl (Nat.le_of_ble_eq_true rfl) dX0_takeRoads_2 (fun H locs hP hD hS => ?_)
  have hP : va_P D vwCl [(q_o, .inr (0, [.ref q_o_from, .ref q_o_to, .ref q_o_lengths, .ref q_o_earliest, .ref q_o_latest, .ref q_o_years, .ref q_o_explained, .ref q_o_together, .int v_o_towns, .int (0 : Int32), .int v_o_known, .int v_o_fewest, .int v_o_origins, .int v_o_always, .int v_o_sometimes, .int v_o_leastSets])), (q_o_from, gI Cs 15 v_o_from), (q_o_to, gI Cs 15 v_o_to), (q_o_lengths, gI Cs 15 v_o_lengths), (q_a1, .inr (1, [.ref q_a1_cells])), (q_a1_cells, gI Cs 221 v_a1_cells)] H := hP
  have hD : va_D A [(q_o, .inr (0, [.ref q_o_from, .ref q_o_to, .ref q_o_lengths, .ref q_o_earliest, .ref q_o_latest, .ref q_o_years, .ref q_o_explained, .ref q_o_together, .int v_o_towns, .int (0 : Int32), .int v_o_known, .int v_o_fewest, .int v_o_origins, .int v_o_always, .int v_o_sometimes, .int v_o_leastSets])), (q_o_from, gI Cs 15 v_o_from), (q_o_to, gI Cs 15 v_o_to), (q_o_lengths, gI Cs 15 v_o_lengths), (q_a1, .inr (1, [.ref q_a1_cells])), (q_a1_cells, gI Cs 221 v_a1_cells)] := hD
  refine lv_iconst (v := (0 : Int32)) hx hb dX0_takeRoads_5 (by decide) ?_
  refine lv_istore_n (lv' := [(2, .int (0 : Int32)), (0, .ref q_o), (1, .ref q_a1)]) hx hb dX0_takeRoads_6 rfl hl (by decide) rfl (fun ls hl => ?_)
  obtain ⟨n, h⟩ := h
  exact L7 n _ _ _ (0 : Int32) v_o_from v_o_to v_o_lengths (0 : Int32) hP hD hS (lv_sub hl [1, 2, 0] rfl) h
set_option maxHeartbeats 4000000 in
set_option maxRecDepth 100000 in
theorem c_X0_takeReports (l : Launch) (D : va_G) (Cs : Nat → ClassId) (q_o : Nat) (q_a1 : Nat) (q_o_from : Nat) (q_o_to : Nat) (q_o_lengths : Nat) (q_o_earliest : Nat) (q_o_latest : Nat) (q_o_years : Nat) (q_o_explained : Nat) (q_o_together : Nat) (q_a1_cells : Nat) (sz : Nat) (v_o_towns : Int32) (v_o_known : Int32) (v_o_earliest : (Nat → Int32)) (v_o_latest : (Nat → Int32)) (v_a1_cells : (Nat → Int32)) (v_o_roads : Int32) (v_o_fewest : Int32) (v_o_origins : Int32) (v_o_always : Int32) (v_o_sometimes : Int32) (v_o_leastSets : Int32) (x2 : Int32) {post : Int32 → Int32 → (Nat → Int32) → (Nat → Int32) → Prop} (h : P_X0_takeReports v_o_towns v_o_known v_o_earliest v_o_latest v_a1_cells x2 post) : Met l yX0_takeReports wsX0_takeReports ({ frames := 2, cells := 0, slots := 0, locals := 44 } : Room) (va_Pc [.ref q_o, .ref q_a1, .int x2] (gM D Cs [(q_o, .inr (0, [.ref q_o_from, .ref q_o_to, .ref q_o_lengths, .ref q_o_earliest, .ref q_o_latest, .ref q_o_years, .ref q_o_explained, .ref q_o_together, .int v_o_towns, .int v_o_roads, .int v_o_known, .int v_o_fewest, .int v_o_origins, .int v_o_always, .int v_o_sometimes, .int v_o_leastSets])), (q_o_earliest, gI Cs 10 v_o_earliest), (q_o_latest, gI Cs 10 v_o_latest), (q_a1, .inr (1, [.ref q_a1_cells])), (q_a1_cells, gI Cs 221 v_a1_cells)] sz)) (va_Qi (fun (r : Int32) (u : Int32 × (Nat → Int32) × (Nat → Int32)) => post r u.1 u.2.1 u.2.2) (gB D (va_A [(q_o, .inr (0, [.ref q_o_from, .ref q_o_to, .ref q_o_lengths, .ref q_o_earliest, .ref q_o_latest, .ref q_o_years, .ref q_o_explained, .ref q_o_together, .int v_o_towns, .int v_o_roads, .int v_o_known, .int v_o_fewest, .int v_o_origins, .int v_o_always, .int v_o_sometimes, .int v_o_leastSets])), (q_o_earliest, gI Cs 10 v_o_earliest), (q_o_latest, gI Cs 10 v_o_latest), (q_a1, .inr (1, [.ref q_a1_cells])), (q_a1_cells, gI Cs 221 v_a1_cells)] sz) (fun u : Int32 × (Nat → Int32) × (Nat → Int32) => [(q_o, .inr (0, [.ref q_o_from, .ref q_o_to, .ref q_o_lengths, .ref q_o_earliest, .ref q_o_latest, .ref q_o_years, .ref q_o_explained, .ref q_o_together, .int v_o_towns, .int v_o_roads, .int u.1, .int v_o_fewest, .int v_o_origins, .int v_o_always, .int v_o_sometimes, .int v_o_leastSets])), (q_o_earliest, gI Cs 10 u.2.1), (q_o_latest, gI Cs 10 u.2.2), (q_a1, .inr (1, [.ref q_a1_cells])), (q_a1_cells, gI Cs 221 v_a1_cells)])) (va_A [(q_o, .inr (0, [.ref q_o_from, .ref q_o_to, .ref q_o_lengths, .ref q_o_earliest, .ref q_o_latest, .ref q_o_years, .ref q_o_explained, .ref q_o_together, .int v_o_towns, .int v_o_roads, .int v_o_known, .int v_o_fewest, .int v_o_origins, .int v_o_always, .int v_o_sometimes, .int v_o_leastSets])), (q_o_earliest, gI Cs 10 v_o_earliest), (q_o_latest, gI Cs 10 v_o_latest), (q_a1, .inr (1, [.ref q_a1_cells])), (q_a1_cells, gI Cs 221 v_a1_cells)] sz)) 0 0 (va_A [(q_o, .inr (0, [.ref q_o_from, .ref q_o_to, .ref q_o_lengths, .ref q_o_earliest, .ref q_o_latest, .ref q_o_years, .ref q_o_explained, .ref q_o_together, .int v_o_towns, .int v_o_roads, .int v_o_known, .int v_o_fewest, .int v_o_origins, .int v_o_always, .int v_o_sometimes, .int v_o_leastSets])), (q_o_earliest, gI Cs 10 v_o_earliest), (q_o_latest, gI Cs 10 v_o_latest), (q_a1, .inr (1, [.ref q_a1_cells])), (q_a1_cells, gI Cs 221 v_a1_cells)] sz) := by
  refine Met.ofW (cc := cX0_takeReports) (maxL := 5) (ret := (some .boolean)) (by decide) rfl ?_
  intro p e s m args below meth c s₁ B hml hv
  obtain ⟨ha, hsz, hP, hK, hD0, hN⟩ := hv
  have hx := B.exec
  have hb := B.bytes
  have hr := B.returns
  have hts := atoms_spec (ws := wsX0_takeReports) B.pre
  have htb : ∀ w ∈ TB, w.before args s = true := fun w h9 => hts w (List.mem_cons_of_mem _ h9)
  have hown : s.vm.findClass RX0 = some m.cls := findClass_of_methodNamed B.named
  have hlocks := B.notSynchronized
  subst hsz
  have hD := hD0.self (sz := s.heap.size)
  generalize hAe : va_A [(q_o, .inr (0, [.ref q_o_from, .ref q_o_to, .ref q_o_lengths, .ref q_o_earliest, .ref q_o_latest, .ref q_o_years, .ref q_o_explained, .ref q_o_together, .int v_o_towns, .int v_o_roads, .int v_o_known, .int v_o_fewest, .int v_o_origins, .int v_o_always, .int v_o_sometimes, .int v_o_leastSets])), (q_o_earliest, gI Cs 10 v_o_earliest), (q_o_latest, gI Cs 10 v_o_latest), (q_a1, .inr (1, [.ref q_a1_cells])), (q_a1_cells, gI Cs 221 v_a1_cells)] s.heap.size = A at hD ⊢
  have hA : ∀ q : Nat, s.heap.size ≤ q → A q := fun q h9 => by rw [← hAe]; exact Or.inr h9
  obtain ⟨H, hH⟩ : ∃ z : Heap, z = s.heap := ⟨_, rfl⟩
  have hS : va_S A s.heap H [] := by rw [hH]; exact va_S.rf
  have hP : va_P D vwCl [(q_o, .inr (0, [.ref q_o_from, .ref q_o_to, .ref q_o_lengths, .ref q_o_earliest, .ref q_o_latest, .ref q_o_years, .ref q_o_explained, .ref q_o_together, .int v_o_towns, .int v_o_roads, .int v_o_known, .int v_o_fewest, .int v_o_origins, .int v_o_always, .int v_o_sometimes, .int v_o_leastSets])), (q_o_earliest, gI Cs 10 v_o_earliest), (q_o_latest, gI Cs 10 v_o_latest), (q_a1, .inr (1, [.ref q_a1_cells])), (q_a1_cells, gI Cs 221 v_a1_cells)] H := by rw [hH]; exact hP
  generalize hQ : MQ below _ args s _ _ _ = Q
  show W p l e ({ frames := 2, cells := 0, slots := 0, locals := 44 } : Room) s m args below meth c s.heap [] 0 0 Q (entryFrame m args 5)
  have hent : entryFrame m args 5 = F0 m 0 ((lg_sl ([.ref q_o, .ref q_a1, .int x2]) ++ List.replicate (5 - (lg_sl ([.ref q_o, .ref q_a1, .int x2])).length) Slot.unset).toArray) [] := by rw [ha]; exact lg_entry_eq m ([.ref q_o, .ref q_a1, .int x2]) 5
  rw [hent]; clear hent
  rw [← hH]
  have hl := lv_entry ([.ref q_o, .ref q_a1, .int x2]) (n := 5) (Nat.le_of_ble_eq_true rfl)
  generalize (lg_sl ([.ref q_o, .ref q_a1, .int x2]) ++ List.replicate (5 - (lg_sl ([.ref q_o, .ref q_a1, .int x2])).length) Slot.unset).toArray = ls at hl ⊢
  have hl : lv_has ls 5 [(0, .ref q_o), (1, .ref q_a1), (2, .int x2)] := hl
  have L10 : ∀ (n : Nat) (H : Heap) (locs : List Loc) (ls : Array Slot) (w_o_known : Int32) (w_o_earliest : (Nat → Int32)) (w_o_latest : (Nat → Int32)) (x3 : Int32) (x4 : Int32), va_P D vwCl [(q_o, .inr (0, [.ref q_o_from, .ref q_o_to, .ref q_o_lengths, .ref q_o_earliest, .ref q_o_latest, .ref q_o_years, .ref q_o_explained, .ref q_o_together, .int v_o_towns, .int v_o_roads, .int w_o_known, .int v_o_fewest, .int v_o_origins, .int v_o_always, .int v_o_sometimes, .int v_o_leastSets])), (q_o_earliest, gI Cs 10 w_o_earliest), (q_o_latest, gI Cs 10 w_o_latest), (q_a1, .inr (1, [.ref q_a1_cells])), (q_a1_cells, gI Cs 221 v_a1_cells)] H → va_D A [(q_o, .inr (0, [.ref q_o_from, .ref q_o_to, .ref q_o_lengths, .ref q_o_earliest, .ref q_o_latest, .ref q_o_years, .ref q_o_explained, .ref q_o_together, .int v_o_towns, .int v_o_roads, .int w_o_known, .int v_o_fewest, .int v_o_origins, .int v_o_always, .int v_o_sometimes, .int v_o_leastSets])), (q_o_earliest, gI Cs 10 w_o_earliest), (q_o_latest, gI Cs 10 w_o_latest), (q_a1, .inr (1, [.ref q_a1_cells])), (q_a1_cells, gI Cs 221 v_a1_cells)] → va_S A s.heap H locs → lv_has ls 5 [(0, .ref q_o), (1, .ref q_a1), (2, .int x2), (3, .int x3), (4, .int x4)] → P_X0_takeReports_l10 v_o_towns v_o_known v_o_earliest v_o_latest v_a1_cells x2 post n w_o_known w_o_earliest w_o_latest x3 x4 → W p l e ({ frames := 2, cells := 0, slots := 0, locals := 44 } : Room) s m args below meth c H locs 0 0 Q (F0 m 10 ls []) := by
    intro n10
    induction n10 with
    | zero => intro H locs ls w_o_known w_o_earliest w_o_latest x3 x4 hP hD hS hl h; exact False.elim h
    | succ n10 ih10 =>
      have B102 : ∀ (H : Heap) (locs : List Loc) (ls : Array Slot) (w_o_known : Int32) (w_o_earliest : (Nat → Int32)) (w_o_latest : (Nat → Int32)) (x3 : Int32) (x4 : Int32), va_P D vwCl [(q_o, .inr (0, [.ref q_o_from, .ref q_o_to, .ref q_o_lengths, .ref q_o_earliest, .ref q_o_latest, .ref q_o_years, .ref q_o_explained, .ref q_o_together, .int v_o_towns, .int v_o_roads, .int w_o_known, .int v_o_fewest, .int v_o_origins, .int v_o_always, .int v_o_sometimes, .int v_o_leastSets])), (q_o_earliest, gI Cs 10 w_o_earliest), (q_o_latest, gI Cs 10 w_o_latest), (q_a1, .inr (1, [.ref q_a1_cells])), (q_a1_cells, gI Cs 221 v_a1_cells)] H → va_D A [(q_o, .inr (0, [.ref q_o_from, .ref q_o_to, .ref q_o_lengths, .ref q_o_earliest, .ref q_o_latest, .ref q_o_years, .ref q_o_explained, .ref q_o_together, .int v_o_towns, .int v_o_roads, .int w_o_known, .int v_o_fewest, .int v_o_origins, .int v_o_always, .int v_o_sometimes, .int v_o_leastSets])), (q_o_earliest, gI Cs 10 w_o_earliest), (q_o_latest, gI Cs 10 w_o_latest), (q_a1, .inr (1, [.ref q_a1_cells])), (q_a1_cells, gI Cs 221 v_a1_cells)] → va_S A s.heap H locs → lv_has ls 5 [(0, .ref q_o), (1, .ref q_a1), (2, .int x2), (3, .int x3), (4, .int x4)] → P_X0_takeReports_b102 v_o_towns v_o_known v_o_earliest v_o_latest v_a1_cells x2 post (P_X0_takeReports_l10 v_o_towns v_o_known v_o_earliest v_o_latest v_a1_cells x2 post n10) w_o_known w_o_earliest w_o_latest x3 x4 → W p l e ({ frames := 2, cells := 0, slots := 0, locals := 44 } : Room) s m args below meth c H locs 0 0 Q (F0 m 102 ls []) := by
        intro H locs ls w_o_known w_o_earliest w_o_latest x3 x4 hP hD hS hl h
        unfold P_X0_takeReports_b102 at h
        obtain ⟨x4_1, ex4_1⟩ : ∃ y : Int32, y = x4 + (1 : Int32) := ⟨_, rfl⟩
        have h := h _ ex4_1
        refine lv_iinc (v := x4_1) (lv' := [(4, .int x4_1), (0, .ref q_o), (1, .ref q_a1), (2, .int x2), (3, .int x3)]) hx hb dX0_takeReports_102 hl (k := 4) rfl (by rw [ex4_1]; rfl) (by decide) rfl (fun ls hl => ?_)
        refine lv_goto (tgt := 10) hx hb dX0_takeReports_105 (by decide) ?_
        exact ih10 _ _ _ w_o_known w_o_earliest w_o_latest x3 x4_1 hP hD hS (lv_sub hl [1, 2, 3, 4, 0] rfl) h
      have B101 : ∀ (H : Heap) (locs : List Loc) (ls : Array Slot) (w_o_known : Int32) (w_o_earliest : (Nat → Int32)) (w_o_latest : (Nat → Int32)) (x4 : Int32) (s0 : Int32), va_P D vwCl [(q_o, .inr (0, [.ref q_o_from, .ref q_o_to, .ref q_o_lengths, .ref q_o_earliest, .ref q_o_latest, .ref q_o_years, .ref q_o_explained, .ref q_o_together, .int v_o_towns, .int v_o_roads, .int w_o_known, .int v_o_fewest, .int v_o_origins, .int v_o_always, .int v_o_sometimes, .int v_o_leastSets])), (q_o_earliest, gI Cs 10 w_o_earliest), (q_o_latest, gI Cs 10 w_o_latest), (q_a1, .inr (1, [.ref q_a1_cells])), (q_a1_cells, gI Cs 221 v_a1_cells)] H → va_D A [(q_o, .inr (0, [.ref q_o_from, .ref q_o_to, .ref q_o_lengths, .ref q_o_earliest, .ref q_o_latest, .ref q_o_years, .ref q_o_explained, .ref q_o_together, .int v_o_towns, .int v_o_roads, .int w_o_known, .int v_o_fewest, .int v_o_origins, .int v_o_always, .int v_o_sometimes, .int v_o_leastSets])), (q_o_earliest, gI Cs 10 w_o_earliest), (q_o_latest, gI Cs 10 w_o_latest), (q_a1, .inr (1, [.ref q_a1_cells])), (q_a1_cells, gI Cs 221 v_a1_cells)] → va_S A s.heap H locs → lv_has ls 5 [(0, .ref q_o), (1, .ref q_a1), (2, .int x2), (4, .int x4)] → P_X0_takeReports_b101 v_o_towns v_o_known v_o_earliest v_o_latest v_a1_cells x2 post (P_X0_takeReports_l10 v_o_towns v_o_known v_o_earliest v_o_latest v_a1_cells x2 post n10) w_o_known w_o_earliest w_o_latest x4 s0 → W p l e ({ frames := 2, cells := 0, slots := 0, locals := 44 } : Room) s m args below meth c H locs 0 0 Q (F0 m 101 ls [.int s0]) := by
        intro H locs ls w_o_known w_o_earliest w_o_latest x4 s0 hP hD hS hl h
        unfold P_X0_takeReports_b101 at h
        refine lv_istore_n (lv' := [(3, .int s0), (0, .ref q_o), (1, .ref q_a1), (2, .int x2), (4, .int x4)]) hx hb dX0_takeReports_101 rfl hl (by decide) rfl (fun ls hl => ?_)
        exact B102 _ _ _ w_o_known w_o_earliest w_o_latest s0 x4 hP hD hS (lv_sub hl [1, 2, 3, 0, 4] rfl) h
      have B100 : ∀ (H : Heap) (locs : List Loc) (ls : Array Slot) (w_o_known : Int32) (w_o_earliest : (Nat → Int32)) (w_o_latest : (Nat → Int32)) (x4 : Int32), va_P D vwCl [(q_o, .inr (0, [.ref q_o_from, .ref q_o_to, .ref q_o_lengths, .ref q_o_earliest, .ref q_o_latest, .ref q_o_years, .ref q_o_explained, .ref q_o_together, .int v_o_towns, .int v_o_roads, .int w_o_known, .int v_o_fewest, .int v_o_origins, .int v_o_always, .int v_o_sometimes, .int v_o_leastSets])), (q_o_earliest, gI Cs 10 w_o_earliest), (q_o_latest, gI Cs 10 w_o_latest), (q_a1, .inr (1, [.ref q_a1_cells])), (q_a1_cells, gI Cs 221 v_a1_cells)] H → va_D A [(q_o, .inr (0, [.ref q_o_from, .ref q_o_to, .ref q_o_lengths, .ref q_o_earliest, .ref q_o_latest, .ref q_o_years, .ref q_o_explained, .ref q_o_together, .int v_o_towns, .int v_o_roads, .int w_o_known, .int v_o_fewest, .int v_o_origins, .int v_o_always, .int v_o_sometimes, .int v_o_leastSets])), (q_o_earliest, gI Cs 10 w_o_earliest), (q_o_latest, gI Cs 10 w_o_latest), (q_a1, .inr (1, [.ref q_a1_cells])), (q_a1_cells, gI Cs 221 v_a1_cells)] → va_S A s.heap H locs → lv_has ls 5 [(0, .ref q_o), (1, .ref q_a1), (2, .int x2), (4, .int x4)] → P_X0_takeReports_b100 v_o_towns v_o_known v_o_earliest v_o_latest v_a1_cells x2 post (P_X0_takeReports_l10 v_o_towns v_o_known v_o_earliest v_o_latest v_a1_cells x2 post n10) w_o_known w_o_earliest w_o_latest x4 → W p l e ({ frames := 2, cells := 0, slots := 0, locals := 44 } : Room) s m args below meth c H locs 0 0 Q (F0 m 100 ls []) := by
        intro H locs ls w_o_known w_o_earliest w_o_latest x4 hP hD hS hl h
        unfold P_X0_takeReports_b100 at h
        refine lv_iconst (v := (0 : Int32)) hx hb dX0_takeReports_100 (by decide) ?_
        exact B101 _ _ _ w_o_known w_o_earliest w_o_latest x4 (0 : Int32) hP hD hS (lv_sub hl [0, 1, 2, 3] rfl) h
      intro H locs ls w_o_known w_o_earliest w_o_latest x3 x4 hP hD hS hl h
      replace h : P_X0_takeReports_b10 v_o_towns v_o_known v_o_earliest v_o_latest v_a1_cells x2 post (P_X0_takeReports_l10 v_o_towns v_o_known v_o_earliest v_o_latest v_a1_cells x2 post n10) w_o_known w_o_earliest w_o_latest x3 x4 := h
      unfold P_X0_takeReports_b10 at h
      refine lv_iload hx hb dX0_takeReports_10 (lv_at hl 4 rfl) ?_
      refine lv_aload_n hx hb dX0_takeReports_12 rfl (lv_at hl 0 rfl) ?_
      refine va_get (D := D) (ci := 0) (v := .int v_o_towns) (C := RX0) (T := TX0) (N := 16) hx hb htb inT_X0 hown hK hP 0 rfl rfl 8 (by decide) (htb _ tb_178) (fun _ h9 => h9) rfl dX0_takeReports_13 ?_
      refine lv_icmp_ge (tgt := 108) hx hb dX0_takeReports_16 (by decide) (fun c_2 => ?_) (fun c_2 => ?_)
      · have h := h.1 c_2
        refine lv_iload_n hx hb dX0_takeReports_108 rfl (lv_at hl 3 rfl) ?_
        obtain ⟨hnb, h⟩ := h
        rw [← hQ]
        exact gRetI (u := (w_o_known, w_o_earliest, w_o_latest)) hx hb hr hnb h hP hD hS dX0_takeReports_109 hlocks
      · have h := h.2 c_2
        refine lv_aload_n hx hb dX0_takeReports_19 rfl (lv_at hl 0 rfl) ?_
        refine va_get (D := D) (ci := 0) (v := .ref q_o_earliest) (C := RX0) (T := TX0) (N := 16) hx hb htb inT_X0 hown hK hP 0 rfl rfl 3 (by decide) (htb _ tb_68) (fun _ h9 => h9) rfl dX0_takeReports_20 ?_
        refine lv_iload hx hb dX0_takeReports_23 (lv_at hl 4 rfl) ?_
        refine lv_aload_n hx hb dX0_takeReports_25 rfl (lv_at hl 1 rfl) ?_
        refine lv_iload hx hb dX0_takeReports_26 (lv_at hl 4 rfl) ?_
        refine lv_iload_n hx hb dX0_takeReports_28 rfl (lv_at hl 2 rfl) ?_
        refine lv_iconst (v := (0 : Int32)) hx hb dX0_takeReports_29 (by decide) ?_
        refine gVR (As := [.int x4, .int x2, .int (0 : Int32)]) (rest := [.int x4, .ref q_o_earliest]) ⟨hx, hb, hml, hown, htb⟩ hK hP hN [3, 4] rfl (c_X1_reportedYear l D Cs q_a1 q_a1_cells v_a1_cells x4 x2 (0 : Int32) h) (cwV 3 htb (TB_v tb_193 tb_153 tb_154 tb_14 (TB_self tb_155)) rfl rfl rfl z_X1_reportedYear ⟨Nat.le_of_ble_eq_true rfl, Nat.le_of_ble_eq_true rfl⟩) 3 rfl rfl rfl rfl hl.1 rfl (Nat.le_of_ble_eq_true rfl) ⟨Nat.le_of_ble_eq_true rfl, Nat.le_of_ble_eq_true rfl⟩ dX0_takeReports_30 (fun r_3 h => ?_)
        refine lv_iconst (v := (1 : Int32)) hx hb dX0_takeReports_33 (by decide) ?_
        refine lv_iadd hx hb dX0_takeReports_34 ?_
        obtain ⟨hi_4, h⟩ := h
        refine va_iast hx hb hK hP hD hS 1 0 rfl rfl hi_4 dX0_takeReports_35 (fun H locs hP hD hS => ?_)
        have hP : va_P D vwCl [(q_o, .inr (0, [.ref q_o_from, .ref q_o_to, .ref q_o_lengths, .ref q_o_earliest, .ref q_o_latest, .ref q_o_years, .ref q_o_explained, .ref q_o_together, .int v_o_towns, .int v_o_roads, .int w_o_known, .int v_o_fewest, .int v_o_origins, .int v_o_always, .int v_o_sometimes, .int v_o_leastSets])), (q_o_earliest, gI Cs 10 (upd w_o_earliest x4.toNatClampNeg (r_3 + (1 : Int32)))), (q_o_latest, gI Cs 10 w_o_latest), (q_a1, .inr (1, [.ref q_a1_cells])), (q_a1_cells, gI Cs 221 v_a1_cells)] H := hP
        have hD : va_D A [(q_o, .inr (0, [.ref q_o_from, .ref q_o_to, .ref q_o_lengths, .ref q_o_earliest, .ref q_o_latest, .ref q_o_years, .ref q_o_explained, .ref q_o_together, .int v_o_towns, .int v_o_roads, .int w_o_known, .int v_o_fewest, .int v_o_origins, .int v_o_always, .int v_o_sometimes, .int v_o_leastSets])), (q_o_earliest, gI Cs 10 (upd w_o_earliest x4.toNatClampNeg (r_3 + (1 : Int32)))), (q_o_latest, gI Cs 10 w_o_latest), (q_a1, .inr (1, [.ref q_a1_cells])), (q_a1_cells, gI Cs 221 v_a1_cells)] := hD
        refine lv_aload_n hx hb dX0_takeReports_36 rfl (lv_at hl 0 rfl) ?_
        refine va_get (D := D) (ci := 0) (v := .ref q_o_latest) (C := RX0) (T := TX0) (N := 16) hx hb htb inT_X0 hown hK hP 0 rfl rfl 4 (by decide) (htb _ tb_69) (fun _ h9 => h9) rfl dX0_takeReports_37 ?_
        refine lv_iload hx hb dX0_takeReports_40 (lv_at hl 4 rfl) ?_
        refine lv_aload_n hx hb dX0_takeReports_42 rfl (lv_at hl 1 rfl) ?_
        refine lv_iload hx hb dX0_takeReports_43 (lv_at hl 4 rfl) ?_
        refine lv_iload_n hx hb dX0_takeReports_45 rfl (lv_at hl 2 rfl) ?_
        refine lv_iconst (v := (1 : Int32)) hx hb dX0_takeReports_46 (by decide) ?_
        refine gVR (As := [.int x4, .int x2, .int (1 : Int32)]) (rest := [.int x4, .ref q_o_latest]) ⟨hx, hb, hml, hown, htb⟩ hK hP hN [3, 4] rfl (c_X1_reportedYear l D Cs q_a1 q_a1_cells v_a1_cells x4 x2 (1 : Int32) h) (cwV 3 htb (TB_v tb_193 tb_153 tb_154 tb_14 (TB_self tb_155)) rfl rfl rfl z_X1_reportedYear ⟨Nat.le_of_ble_eq_true rfl, Nat.le_of_ble_eq_true rfl⟩) 3 rfl rfl rfl rfl hl.1 rfl (Nat.le_of_ble_eq_true rfl) ⟨Nat.le_of_ble_eq_true rfl, Nat.le_of_ble_eq_true rfl⟩ dX0_takeReports_47 (fun r_5 h => ?_)
        obtain ⟨hi_6, h⟩ := h
        refine va_iast hx hb hK hP hD hS 2 0 rfl rfl hi_6 dX0_takeReports_50 (fun H locs hP hD hS => ?_)
        have hP : va_P D vwCl [(q_o, .inr (0, [.ref q_o_from, .ref q_o_to, .ref q_o_lengths, .ref q_o_earliest, .ref q_o_latest, .ref q_o_years, .ref q_o_explained, .ref q_o_together, .int v_o_towns, .int v_o_roads, .int w_o_known, .int v_o_fewest, .int v_o_origins, .int v_o_always, .int v_o_sometimes, .int v_o_leastSets])), (q_o_earliest, gI Cs 10 (upd w_o_earliest x4.toNatClampNeg (r_3 + (1 : Int32)))), (q_o_latest, gI Cs 10 (upd w_o_latest x4.toNatClampNeg r_5)), (q_a1, .inr (1, [.ref q_a1_cells])), (q_a1_cells, gI Cs 221 v_a1_cells)] H := hP
        have hD : va_D A [(q_o, .inr (0, [.ref q_o_from, .ref q_o_to, .ref q_o_lengths, .ref q_o_earliest, .ref q_o_latest, .ref q_o_years, .ref q_o_explained, .ref q_o_together, .int v_o_towns, .int v_o_roads, .int w_o_known, .int v_o_fewest, .int v_o_origins, .int v_o_always, .int v_o_sometimes, .int v_o_leastSets])), (q_o_earliest, gI Cs 10 (upd w_o_earliest x4.toNatClampNeg (r_3 + (1 : Int32)))), (q_o_latest, gI Cs 10 (upd w_o_latest x4.toNatClampNeg r_5)), (q_a1, .inr (1, [.ref q_a1_cells])), (q_a1_cells, gI Cs 221 v_a1_cells)] := hD
        refine lv_aload_n hx hb dX0_takeReports_51 rfl (lv_at hl 0 rfl) ?_
        refine va_get (D := D) (ci := 0) (v := .ref q_o_latest) (C := RX0) (T := TX0) (N := 16) hx hb htb inT_X0 hown hK hP 0 rfl rfl 4 (by decide) (htb _ tb_69) (fun _ h9 => h9) rfl dX0_takeReports_52 ?_
        refine lv_iload hx hb dX0_takeReports_55 (lv_at hl 4 rfl) ?_
        obtain ⟨hi_7, h⟩ := h
        refine va_iald hx hb hK hP 2 0 rfl rfl hi_7 dX0_takeReports_57 ?_
        refine lv_iconst (v := (-1 : Int32)) hx hb dX0_takeReports_58 (by decide) ?_
        refine lv_icmp_eq (tgt := 102) hx hb dX0_takeReports_59 (by decide) (fun c_8 => ?_) (fun c_8 => ?_)
        · have h := h.1 c_8
          exact B102 _ _ _ w_o_known (upd w_o_earliest x4.toNatClampNeg (r_3 + (1 : Int32))) (upd w_o_latest x4.toNatClampNeg r_5) x3 x4 hP hD hS (lv_sub hl [0, 1, 2, 3, 4] rfl) h
        · have h := h.2 c_8
          refine lv_aload_n hx hb dX0_takeReports_62 rfl (lv_at hl 0 rfl) ?_
          refine lv_dup hx hb dX0_takeReports_63 rfl ?_
          refine va_get (D := D) (ci := 0) (v := .int w_o_known) (C := RX0) (T := TX0) (N := 16) hx hb htb inT_X0 hown hK hP 0 rfl rfl 10 (by decide) (htb _ tb_192) (fun _ h9 => h9) rfl dX0_takeReports_64 ?_
          refine lv_iconst (v := (1 : Int32)) hx hb dX0_takeReports_67 (by decide) ?_
          refine lv_iload hx hb dX0_takeReports_68 (lv_at hl 4 rfl) ?_
          refine lv_ishl hx hb dX0_takeReports_70 ?_
          refine lv_ior hx hb dX0_takeReports_71 ?_
          refine lv_topi (fun f_known_9 ef_known_9 => ?_)
          have h := h _ ef_known_9
          refine va_put (D := D) (ci := 0) (v := .int f_known_9) (ty := .int) (C := RX0) (T := TX0) (N := 16) hx hb htb inT_X0 tyX0 tyX0_ok nmX0 hown hK hP hD hS 0 rfl rfl 10 (by decide) (htb _ tb_192) (fun _ h9 => h9) rfl (tyX0_ok 10 (by decide)) rfl rfl (Nat.le_of_ble_eq_true rfl) dX0_takeReports_72 (fun H locs hP hD hS => ?_)
          have hP : va_P D vwCl [(q_o, .inr (0, [.ref q_o_from, .ref q_o_to, .ref q_o_lengths, .ref q_o_earliest, .ref q_o_latest, .ref q_o_years, .ref q_o_explained, .ref q_o_together, .int v_o_towns, .int v_o_roads, .int f_known_9, .int v_o_fewest, .int v_o_origins, .int v_o_always, .int v_o_sometimes, .int v_o_leastSets])), (q_o_earliest, gI Cs 10 (upd w_o_earliest x4.toNatClampNeg (r_3 + (1 : Int32)))), (q_o_latest, gI Cs 10 (upd w_o_latest x4.toNatClampNeg r_5)), (q_a1, .inr (1, [.ref q_a1_cells])), (q_a1_cells, gI Cs 221 v_a1_cells)] H := hP
          have hD : va_D A [(q_o, .inr (0, [.ref q_o_from, .ref q_o_to, .ref q_o_lengths, .ref q_o_earliest, .ref q_o_latest, .ref q_o_years, .ref q_o_explained, .ref q_o_together, .int v_o_towns, .int v_o_roads, .int f_known_9, .int v_o_fewest, .int v_o_origins, .int v_o_always, .int v_o_sometimes, .int v_o_leastSets])), (q_o_earliest, gI Cs 10 (upd w_o_earliest x4.toNatClampNeg (r_3 + (1 : Int32)))), (q_o_latest, gI Cs 10 (upd w_o_latest x4.toNatClampNeg r_5)), (q_a1, .inr (1, [.ref q_a1_cells])), (q_a1_cells, gI Cs 221 v_a1_cells)] := hD
          refine lv_iload_n hx hb dX0_takeReports_75 rfl (lv_at hl 3 rfl) ?_
          refine lv_if_eq (tgt := 100) hx hb dX0_takeReports_76 (by decide) (fun c_10 => ?_) (fun c_10 => ?_)
          · have h := h.1 c_10
            exact B100 _ _ _ f_known_9 (upd w_o_earliest x4.toNatClampNeg (r_3 + (1 : Int32))) (upd w_o_latest x4.toNatClampNeg r_5) x4 hP hD hS (lv_sub hl [0, 1, 2, 4] rfl) h
          · have h := h.2 c_10
            refine lv_aload_n hx hb dX0_takeReports_79 rfl (lv_at hl 0 rfl) ?_
            refine va_get (D := D) (ci := 0) (v := .ref q_o_earliest) (C := RX0) (T := TX0) (N := 16) hx hb htb inT_X0 hown hK hP 0 rfl rfl 3 (by decide) (htb _ tb_68) (fun _ h9 => h9) rfl dX0_takeReports_80 ?_
            refine lv_iload hx hb dX0_takeReports_83 (lv_at hl 4 rfl) ?_
            obtain ⟨hi_11, h⟩ := h
            refine va_iald hx hb hK hP 1 0 rfl rfl hi_11 dX0_takeReports_85 ?_
            refine lv_aload_n hx hb dX0_takeReports_86 rfl (lv_at hl 0 rfl) ?_
            refine va_get (D := D) (ci := 0) (v := .ref q_o_latest) (C := RX0) (T := TX0) (N := 16) hx hb htb inT_X0 hown hK hP 0 rfl rfl 4 (by decide) (htb _ tb_69) (fun _ h9 => h9) rfl dX0_takeReports_87 ?_
            refine lv_iload hx hb dX0_takeReports_90 (lv_at hl 4 rfl) ?_
            obtain ⟨hi_12, h⟩ := h
            refine va_iald hx hb hK hP 2 0 rfl rfl hi_12 dX0_takeReports_92 ?_
            refine lv_icmp_gt (tgt := 100) hx hb dX0_takeReports_93 (by decide) (fun c_13 => ?_) (fun c_13 => ?_)
            · have h := h.1 c_13
              exact B100 _ _ _ f_known_9 (upd w_o_earliest x4.toNatClampNeg (r_3 + (1 : Int32))) (upd w_o_latest x4.toNatClampNeg r_5) x4 hP hD hS (lv_sub hl [0, 1, 2, 4] rfl) h
            · have h := h.2 c_13
              refine lv_iconst (v := (1 : Int32)) hx hb dX0_takeReports_96 (by decide) ?_
              refine lv_goto (tgt := 101) hx hb dX0_takeReports_97 (by decide) ?_
              exact B101 _ _ _ f_known_9 (upd w_o_earliest x4.toNatClampNeg (r_3 + (1 : Int32))) (upd w_o_latest x4.toNatClampNeg r_5) x4 (1 : Int32) hP hD hS (lv_sub hl [0, 1, 2, 4] rfl) h
  unfold P_X0_takeReports at h
  refine lv_iconst (v := (1 : Int32)) hx hb dX0_takeReports_0 (by decide) ?_
  refine lv_istore_n (lv' := [(3, .int (1 : Int32)), (0, .ref q_o), (1, .ref q_a1), (2, .int x2)]) hx hb dX0_takeReports_1 rfl hl (by decide) rfl (fun ls hl => ?_)
  refine lv_aload_n hx hb dX0_takeReports_2 rfl (lv_at hl 1 rfl) ?_
  refine lv_iconst (v := (0 : Int32)) hx hb dX0_takeReports_3 (by decide) ?_
  refine va_put (D := D) (ci := 0) (v := .int (0 : Int32)) (ty := .int) (C := RX0) (T := TX0) (N := 16) hx hb htb inT_X0 tyX0 tyX0_ok nmX0 hown hK hP hD hS 0 rfl rfl 10 (by decide) (htb _ tb_192) (fun _ h9 => h9) rfl (tyX0_ok 10 (by decide)) rfl rfl (Nat.le_of_ble_eq_true rfl) dX0_takeReports_4 (fun H locs hP hD hS => ?_)
  have hP : va_P D vwCl [(q_o, .inr (0, [.ref q_o_from, .ref q_o_to, .ref q_o_lengths, .ref q_o_earliest, .ref q_o_latest, .ref q_o_years, .ref q_o_explained, .ref q_o_together, .int v_o_towns, .int v_o_roads, .int (0 : Int32), .int v_o_fewest, .int v_o_origins, .int v_o_always, .int v_o_sometimes, .int v_o_leastSets])), (q_o_earliest, gI Cs 10 v_o_earliest), (q_o_latest, gI Cs 10 v_o_latest), (q_a1, .inr (1, [.ref q_a1_cells])), (q_a1_cells, gI Cs 221 v_a1_cells)] H := hP
  have hD : va_D A [(q_o, .inr (0, [.ref q_o_from, .ref q_o_to, .ref q_o_lengths, .ref q_o_earliest, .ref q_o_latest, .ref q_o_years, .ref q_o_explained, .ref q_o_together, .int v_o_towns, .int v_o_roads, .int (0 : Int32), .int v_o_fewest, .int v_o_origins, .int v_o_always, .int v_o_sometimes, .int v_o_leastSets])), (q_o_earliest, gI Cs 10 v_o_earliest), (q_o_latest, gI Cs 10 v_o_latest), (q_a1, .inr (1, [.ref q_a1_cells])), (q_a1_cells, gI Cs 221 v_a1_cells)] := hD
  refine lv_iconst (v := (0 : Int32)) hx hb dX0_takeReports_7 (by decide) ?_
  refine lv_istore (lv' := [(4, .int (0 : Int32)), (3, .int (1 : Int32)), (0, .ref q_o), (1, .ref q_a1), (2, .int x2)]) hx hb dX0_takeReports_8 hl (by decide) rfl (fun ls hl => ?_)
  obtain ⟨n, h⟩ := h
  exact L10 n _ _ _ (0 : Int32) v_o_earliest v_o_latest (1 : Int32) (0 : Int32) hP hD hS (lv_sub hl [2, 3, 4, 1, 0] rfl) h
set_option maxHeartbeats 4000000 in
set_option maxRecDepth 100000 in
theorem c_X0_inventIn (l : Launch) (D : va_G) (Cs : Nat → ClassId) (q_o : Nat) (q_o_from : Nat) (q_o_to : Nat) (q_o_lengths : Nat) (q_o_earliest : Nat) (q_o_latest : Nat) (q_o_years : Nat) (q_o_explained : Nat) (q_o_together : Nat) (sz : Nat) (v_o_towns : Int32) (v_o_earliest : (Nat → Int32)) (v_o_years : (Nat → Int32)) (v_o_roads : Int32) (v_o_known : Int32) (v_o_fewest : Int32) (v_o_origins : Int32) (v_o_always : Int32) (v_o_sometimes : Int32) (v_o_leastSets : Int32) (x1 : Int32) {post : (Nat → Int32) → Prop} (h : P_X0_inventIn v_o_towns v_o_earliest v_o_years x1 post) : Met l yX0_inventIn wsX0_inventIn ({ frames := 0, cells := 0, slots := 0, locals := 0 } : Room) (va_Pc [.ref q_o, .int x1] (gM D Cs [(q_o, .inr (0, [.ref q_o_from, .ref q_o_to, .ref q_o_lengths, .ref q_o_earliest, .ref q_o_latest, .ref q_o_years, .ref q_o_explained, .ref q_o_together, .int v_o_towns, .int v_o_roads, .int v_o_known, .int v_o_fewest, .int v_o_origins, .int v_o_always, .int v_o_sometimes, .int v_o_leastSets])), (q_o_earliest, gI Cs 10 v_o_earliest), (q_o_years, gI Cs 10 v_o_years)] sz)) (va_Qv (fun (u : (Nat → Int32)) => post u) (gB D (va_A [(q_o, .inr (0, [.ref q_o_from, .ref q_o_to, .ref q_o_lengths, .ref q_o_earliest, .ref q_o_latest, .ref q_o_years, .ref q_o_explained, .ref q_o_together, .int v_o_towns, .int v_o_roads, .int v_o_known, .int v_o_fewest, .int v_o_origins, .int v_o_always, .int v_o_sometimes, .int v_o_leastSets])), (q_o_earliest, gI Cs 10 v_o_earliest), (q_o_years, gI Cs 10 v_o_years)] sz) (fun u : (Nat → Int32) => [(q_o, .inr (0, [.ref q_o_from, .ref q_o_to, .ref q_o_lengths, .ref q_o_earliest, .ref q_o_latest, .ref q_o_years, .ref q_o_explained, .ref q_o_together, .int v_o_towns, .int v_o_roads, .int v_o_known, .int v_o_fewest, .int v_o_origins, .int v_o_always, .int v_o_sometimes, .int v_o_leastSets])), (q_o_earliest, gI Cs 10 v_o_earliest), (q_o_years, gI Cs 10 u)])) (va_A [(q_o, .inr (0, [.ref q_o_from, .ref q_o_to, .ref q_o_lengths, .ref q_o_earliest, .ref q_o_latest, .ref q_o_years, .ref q_o_explained, .ref q_o_together, .int v_o_towns, .int v_o_roads, .int v_o_known, .int v_o_fewest, .int v_o_origins, .int v_o_always, .int v_o_sometimes, .int v_o_leastSets])), (q_o_earliest, gI Cs 10 v_o_earliest), (q_o_years, gI Cs 10 v_o_years)] sz)) 0 0 (va_A [(q_o, .inr (0, [.ref q_o_from, .ref q_o_to, .ref q_o_lengths, .ref q_o_earliest, .ref q_o_latest, .ref q_o_years, .ref q_o_explained, .ref q_o_together, .int v_o_towns, .int v_o_roads, .int v_o_known, .int v_o_fewest, .int v_o_origins, .int v_o_always, .int v_o_sometimes, .int v_o_leastSets])), (q_o_earliest, gI Cs 10 v_o_earliest), (q_o_years, gI Cs 10 v_o_years)] sz) := by
  refine Met.ofW (cc := cX0_inventIn) (maxL := 3) (ret := none) (by decide) rfl ?_
  intro p e s m args below meth c s₁ B hml hv
  obtain ⟨ha, hsz, hP, hK, hD0, hN⟩ := hv
  have hx := B.exec
  have hb := B.bytes
  have hr := B.returns
  have hts := atoms_spec (ws := wsX0_inventIn) B.pre
  have htb : ∀ w ∈ TB, w.before args s = true := fun w h9 => hts w (List.mem_cons_of_mem _ h9)
  have hown : s.vm.findClass RX0 = some m.cls := findClass_of_methodNamed B.named
  have hlocks := B.notSynchronized
  subst hsz
  have hD := hD0.self (sz := s.heap.size)
  generalize hAe : va_A [(q_o, .inr (0, [.ref q_o_from, .ref q_o_to, .ref q_o_lengths, .ref q_o_earliest, .ref q_o_latest, .ref q_o_years, .ref q_o_explained, .ref q_o_together, .int v_o_towns, .int v_o_roads, .int v_o_known, .int v_o_fewest, .int v_o_origins, .int v_o_always, .int v_o_sometimes, .int v_o_leastSets])), (q_o_earliest, gI Cs 10 v_o_earliest), (q_o_years, gI Cs 10 v_o_years)] s.heap.size = A at hD ⊢
  have hA : ∀ q : Nat, s.heap.size ≤ q → A q := fun q h9 => by rw [← hAe]; exact Or.inr h9
  obtain ⟨H, hH⟩ : ∃ z : Heap, z = s.heap := ⟨_, rfl⟩
  have hS : va_S A s.heap H [] := by rw [hH]; exact va_S.rf
  have hP : va_P D vwCl [(q_o, .inr (0, [.ref q_o_from, .ref q_o_to, .ref q_o_lengths, .ref q_o_earliest, .ref q_o_latest, .ref q_o_years, .ref q_o_explained, .ref q_o_together, .int v_o_towns, .int v_o_roads, .int v_o_known, .int v_o_fewest, .int v_o_origins, .int v_o_always, .int v_o_sometimes, .int v_o_leastSets])), (q_o_earliest, gI Cs 10 v_o_earliest), (q_o_years, gI Cs 10 v_o_years)] H := by rw [hH]; exact hP
  generalize hQ : MQ below _ args s _ _ _ = Q
  show W p l e ({ frames := 0, cells := 0, slots := 0, locals := 0 } : Room) s m args below meth c s.heap [] 0 0 Q (entryFrame m args 3)
  have hent : entryFrame m args 3 = F0 m 0 ((lg_sl ([.ref q_o, .int x1]) ++ List.replicate (3 - (lg_sl ([.ref q_o, .int x1])).length) Slot.unset).toArray) [] := by rw [ha]; exact lg_entry_eq m ([.ref q_o, .int x1]) 3
  rw [hent]; clear hent
  rw [← hH]
  have hl := lv_entry ([.ref q_o, .int x1]) (n := 3) (Nat.le_of_ble_eq_true rfl)
  generalize (lg_sl ([.ref q_o, .int x1]) ++ List.replicate (3 - (lg_sl ([.ref q_o, .int x1])).length) Slot.unset).toArray = ls at hl ⊢
  have hl : lv_has ls 3 [(0, .ref q_o), (1, .int x1)] := hl
  have L2 : ∀ (n : Nat) (H : Heap) (locs : List Loc) (ls : Array Slot) (w_o_years : (Nat → Int32)) (x2 : Int32), va_P D vwCl [(q_o, .inr (0, [.ref q_o_from, .ref q_o_to, .ref q_o_lengths, .ref q_o_earliest, .ref q_o_latest, .ref q_o_years, .ref q_o_explained, .ref q_o_together, .int v_o_towns, .int v_o_roads, .int v_o_known, .int v_o_fewest, .int v_o_origins, .int v_o_always, .int v_o_sometimes, .int v_o_leastSets])), (q_o_earliest, gI Cs 10 v_o_earliest), (q_o_years, gI Cs 10 w_o_years)] H → va_D A [(q_o, .inr (0, [.ref q_o_from, .ref q_o_to, .ref q_o_lengths, .ref q_o_earliest, .ref q_o_latest, .ref q_o_years, .ref q_o_explained, .ref q_o_together, .int v_o_towns, .int v_o_roads, .int v_o_known, .int v_o_fewest, .int v_o_origins, .int v_o_always, .int v_o_sometimes, .int v_o_leastSets])), (q_o_earliest, gI Cs 10 v_o_earliest), (q_o_years, gI Cs 10 w_o_years)] → va_S A s.heap H locs → lv_has ls 3 [(0, .ref q_o), (1, .int x1), (2, .int x2)] → P_X0_inventIn_l2 v_o_towns v_o_earliest v_o_years x1 post n w_o_years x2 → W p l e ({ frames := 0, cells := 0, slots := 0, locals := 0 } : Room) s m args below meth c H locs 0 0 Q (F0 m 2 ls []) := by
    intro n2
    induction n2 with
    | zero => intro H locs ls w_o_years x2 hP hD hS hl h; exact False.elim h
    | succ n2 ih2 =>
      have B36 : ∀ (H : Heap) (locs : List Loc) (ls : Array Slot) (w_o_years : (Nat → Int32)) (x2 : Int32) (s1 : Int32) (s2 : Int32), va_P D vwCl [(q_o, .inr (0, [.ref q_o_from, .ref q_o_to, .ref q_o_lengths, .ref q_o_earliest, .ref q_o_latest, .ref q_o_years, .ref q_o_explained, .ref q_o_together, .int v_o_towns, .int v_o_roads, .int v_o_known, .int v_o_fewest, .int v_o_origins, .int v_o_always, .int v_o_sometimes, .int v_o_leastSets])), (q_o_earliest, gI Cs 10 v_o_earliest), (q_o_years, gI Cs 10 w_o_years)] H → va_D A [(q_o, .inr (0, [.ref q_o_from, .ref q_o_to, .ref q_o_lengths, .ref q_o_earliest, .ref q_o_latest, .ref q_o_years, .ref q_o_explained, .ref q_o_together, .int v_o_towns, .int v_o_roads, .int v_o_known, .int v_o_fewest, .int v_o_origins, .int v_o_always, .int v_o_sometimes, .int v_o_leastSets])), (q_o_earliest, gI Cs 10 v_o_earliest), (q_o_years, gI Cs 10 w_o_years)] → va_S A s.heap H locs → lv_has ls 3 [(0, .ref q_o), (1, .int x1), (2, .int x2)] → P_X0_inventIn_b36 v_o_towns v_o_earliest v_o_years x1 post (P_X0_inventIn_l2 v_o_towns v_o_earliest v_o_years x1 post n2) w_o_years x2 s1 s2 → W p l e ({ frames := 0, cells := 0, slots := 0, locals := 0 } : Room) s m args below meth c H locs 0 0 Q (F0 m 36 ls [.int s2, .int s1, .ref q_o_years]) := by
        intro H locs ls w_o_years x2 s1 s2 hP hD hS hl h
        unfold P_X0_inventIn_b36 at h
        obtain ⟨hi_1, h⟩ := h
        refine va_iast hx hb hK hP hD hS 2 0 rfl rfl hi_1 dX0_inventIn_36 (fun H locs hP hD hS => ?_)
        have hP : va_P D vwCl [(q_o, .inr (0, [.ref q_o_from, .ref q_o_to, .ref q_o_lengths, .ref q_o_earliest, .ref q_o_latest, .ref q_o_years, .ref q_o_explained, .ref q_o_together, .int v_o_towns, .int v_o_roads, .int v_o_known, .int v_o_fewest, .int v_o_origins, .int v_o_always, .int v_o_sometimes, .int v_o_leastSets])), (q_o_earliest, gI Cs 10 v_o_earliest), (q_o_years, gI Cs 10 (upd w_o_years s1.toNatClampNeg s2))] H := hP
        have hD : va_D A [(q_o, .inr (0, [.ref q_o_from, .ref q_o_to, .ref q_o_lengths, .ref q_o_earliest, .ref q_o_latest, .ref q_o_years, .ref q_o_explained, .ref q_o_together, .int v_o_towns, .int v_o_roads, .int v_o_known, .int v_o_fewest, .int v_o_origins, .int v_o_always, .int v_o_sometimes, .int v_o_leastSets])), (q_o_earliest, gI Cs 10 v_o_earliest), (q_o_years, gI Cs 10 (upd w_o_years s1.toNatClampNeg s2))] := hD
        obtain ⟨x2_2, ex2_2⟩ : ∃ y : Int32, y = x2 + (1 : Int32) := ⟨_, rfl⟩
        have h := h _ ex2_2
        refine lv_iinc (v := x2_2) (lv' := [(2, .int x2_2), (0, .ref q_o), (1, .int x1)]) hx hb dX0_inventIn_37 hl (k := 2) rfl (by rw [ex2_2]; rfl) (by decide) rfl (fun ls hl => ?_)
        refine lv_goto (tgt := 2) hx hb dX0_inventIn_40 (by decide) ?_
        exact ih2 _ _ _ (upd w_o_years s1.toNatClampNeg s2) x2_2 hP hD hS (lv_sub hl [1, 2, 0] rfl) h
      intro H locs ls w_o_years x2 hP hD hS hl h
      replace h : P_X0_inventIn_b2 v_o_towns v_o_earliest v_o_years x1 post (P_X0_inventIn_l2 v_o_towns v_o_earliest v_o_years x1 post n2) w_o_years x2 := h
      unfold P_X0_inventIn_b2 at h
      refine lv_iload_n hx hb dX0_inventIn_2 rfl (lv_at hl 2 rfl) ?_
      refine lv_aload_n hx hb dX0_inventIn_3 rfl (lv_at hl 0 rfl) ?_
      refine va_get (D := D) (ci := 0) (v := .int v_o_towns) (C := RX0) (T := TX0) (N := 16) hx hb htb inT_X0 hown hK hP 0 rfl rfl 8 (by decide) (htb _ tb_178) (fun _ h9 => h9) rfl dX0_inventIn_4 ?_
      refine lv_icmp_ge (tgt := 43) hx hb dX0_inventIn_7 (by decide) (fun c_3 => ?_) (fun c_3 => ?_)
      · have h := h.1 c_3
        rw [← hQ]
        exact gRetV (u := w_o_years) hx hb hr h hP hD hS dX0_inventIn_43 hlocks
      · have h := h.2 c_3
        refine lv_aload_n hx hb dX0_inventIn_10 rfl (lv_at hl 0 rfl) ?_
        refine va_get (D := D) (ci := 0) (v := .ref q_o_years) (C := RX0) (T := TX0) (N := 16) hx hb htb inT_X0 hown hK hP 0 rfl rfl 5 (by decide) (htb _ tb_70) (fun _ h9 => h9) rfl dX0_inventIn_11 ?_
        refine lv_iload_n hx hb dX0_inventIn_14 rfl (lv_at hl 2 rfl) ?_
        refine lv_iload_n hx hb dX0_inventIn_15 rfl (lv_at hl 1 rfl) ?_
        refine lv_iload_n hx hb dX0_inventIn_16 rfl (lv_at hl 2 rfl) ?_
        refine lv_ishr hx hb dX0_inventIn_17 ?_
        refine lv_iconst (v := (1 : Int32)) hx hb dX0_inventIn_18 (by decide) ?_
        refine lv_iand hx hb dX0_inventIn_19 ?_
        refine lv_iconst (v := (1 : Int32)) hx hb dX0_inventIn_20 (by decide) ?_
        refine lv_icmp_ne (tgt := 33) hx hb dX0_inventIn_21 (by decide) (fun c_4 => ?_) (fun c_4 => ?_)
        · have h := h.2 c_4
          refine lv_sipush (v := (1000 : Int32)) hx hb dX0_inventIn_33 (by decide) ?_
          exact B36 _ _ _ w_o_years x2 x2 (1000 : Int32) hP hD hS (lv_sub hl [0, 1, 2] rfl) h
        · have h := h.1 c_4
          refine lv_aload_n hx hb dX0_inventIn_24 rfl (lv_at hl 0 rfl) ?_
          refine va_get (D := D) (ci := 0) (v := .ref q_o_earliest) (C := RX0) (T := TX0) (N := 16) hx hb htb inT_X0 hown hK hP 0 rfl rfl 3 (by decide) (htb _ tb_68) (fun _ h9 => h9) rfl dX0_inventIn_25 ?_
          refine lv_iload_n hx hb dX0_inventIn_28 rfl (lv_at hl 2 rfl) ?_
          obtain ⟨hi_5, h⟩ := h
          refine va_iald hx hb hK hP 1 0 rfl rfl hi_5 dX0_inventIn_29 ?_
          refine lv_goto (tgt := 36) hx hb dX0_inventIn_30 (by decide) ?_
          exact B36 _ _ _ w_o_years x2 x2 (v_o_earliest x2.toNatClampNeg) hP hD hS (lv_sub hl [0, 1, 2] rfl) h
  unfold P_X0_inventIn at h
  refine lv_iconst (v := (0 : Int32)) hx hb dX0_inventIn_0 (by decide) ?_
  refine lv_istore_n (lv' := [(2, .int (0 : Int32)), (0, .ref q_o), (1, .int x1)]) hx hb dX0_inventIn_1 rfl hl (by decide) rfl (fun ls hl => ?_)
  obtain ⟨n, h⟩ := h
  exact L2 n _ _ _ v_o_years (0 : Int32) hP hD hS (lv_sub hl [1, 2, 0] rfl) h
set_option maxHeartbeats 4000000 in
set_option maxRecDepth 100000 in
theorem c_X0_passOn (l : Launch) (D : va_G) (Cs : Nat → ClassId) (q_o : Nat) (q_o_from : Nat) (q_o_to : Nat) (q_o_lengths : Nat) (q_o_earliest : Nat) (q_o_latest : Nat) (q_o_years : Nat) (q_o_explained : Nat) (q_o_together : Nat) (sz : Nat) (v_o_earliest : (Nat → Int32)) (v_o_years : (Nat → Int32)) (v_o_towns : Int32) (v_o_roads : Int32) (v_o_known : Int32) (v_o_fewest : Int32) (v_o_origins : Int32) (v_o_always : Int32) (v_o_sometimes : Int32) (v_o_leastSets : Int32) (x1 : Int32) (x2 : Int32) (x3 : Int32) {post : Int32 → (Nat → Int32) → Prop} (h : P_X0_passOn v_o_earliest v_o_years x1 x2 x3 post) : Met l yX0_passOn wsX0_passOn ({ frames := 0, cells := 0, slots := 0, locals := 0 } : Room) (va_Pc [.ref q_o, .int x1, .int x2, .int x3] (gM D Cs [(q_o, .inr (0, [.ref q_o_from, .ref q_o_to, .ref q_o_lengths, .ref q_o_earliest, .ref q_o_latest, .ref q_o_years, .ref q_o_explained, .ref q_o_together, .int v_o_towns, .int v_o_roads, .int v_o_known, .int v_o_fewest, .int v_o_origins, .int v_o_always, .int v_o_sometimes, .int v_o_leastSets])), (q_o_earliest, gI Cs 10 v_o_earliest), (q_o_years, gI Cs 10 v_o_years)] sz)) (va_Qi (fun (r : Int32) (u : (Nat → Int32)) => post r u) (gB D (va_A [(q_o, .inr (0, [.ref q_o_from, .ref q_o_to, .ref q_o_lengths, .ref q_o_earliest, .ref q_o_latest, .ref q_o_years, .ref q_o_explained, .ref q_o_together, .int v_o_towns, .int v_o_roads, .int v_o_known, .int v_o_fewest, .int v_o_origins, .int v_o_always, .int v_o_sometimes, .int v_o_leastSets])), (q_o_earliest, gI Cs 10 v_o_earliest), (q_o_years, gI Cs 10 v_o_years)] sz) (fun u : (Nat → Int32) => [(q_o, .inr (0, [.ref q_o_from, .ref q_o_to, .ref q_o_lengths, .ref q_o_earliest, .ref q_o_latest, .ref q_o_years, .ref q_o_explained, .ref q_o_together, .int v_o_towns, .int v_o_roads, .int v_o_known, .int v_o_fewest, .int v_o_origins, .int v_o_always, .int v_o_sometimes, .int v_o_leastSets])), (q_o_earliest, gI Cs 10 v_o_earliest), (q_o_years, gI Cs 10 u)])) (va_A [(q_o, .inr (0, [.ref q_o_from, .ref q_o_to, .ref q_o_lengths, .ref q_o_earliest, .ref q_o_latest, .ref q_o_years, .ref q_o_explained, .ref q_o_together, .int v_o_towns, .int v_o_roads, .int v_o_known, .int v_o_fewest, .int v_o_origins, .int v_o_always, .int v_o_sometimes, .int v_o_leastSets])), (q_o_earliest, gI Cs 10 v_o_earliest), (q_o_years, gI Cs 10 v_o_years)] sz)) 0 0 (va_A [(q_o, .inr (0, [.ref q_o_from, .ref q_o_to, .ref q_o_lengths, .ref q_o_earliest, .ref q_o_latest, .ref q_o_years, .ref q_o_explained, .ref q_o_together, .int v_o_towns, .int v_o_roads, .int v_o_known, .int v_o_fewest, .int v_o_origins, .int v_o_always, .int v_o_sometimes, .int v_o_leastSets])), (q_o_earliest, gI Cs 10 v_o_earliest), (q_o_years, gI Cs 10 v_o_years)] sz) := by
  refine Met.ofW (cc := cX0_passOn) (maxL := 5) (ret := (some .boolean)) (by decide) rfl ?_
  intro p e s m args below meth c s₁ B hml hv
  obtain ⟨ha, hsz, hP, hK, hD0, hN⟩ := hv
  have hx := B.exec
  have hb := B.bytes
  have hr := B.returns
  have hts := atoms_spec (ws := wsX0_passOn) B.pre
  have htb : ∀ w ∈ TB, w.before args s = true := fun w h9 => hts w (List.mem_cons_of_mem _ h9)
  have hown : s.vm.findClass RX0 = some m.cls := findClass_of_methodNamed B.named
  have hlocks := B.notSynchronized
  subst hsz
  have hD := hD0.self (sz := s.heap.size)
  generalize hAe : va_A [(q_o, .inr (0, [.ref q_o_from, .ref q_o_to, .ref q_o_lengths, .ref q_o_earliest, .ref q_o_latest, .ref q_o_years, .ref q_o_explained, .ref q_o_together, .int v_o_towns, .int v_o_roads, .int v_o_known, .int v_o_fewest, .int v_o_origins, .int v_o_always, .int v_o_sometimes, .int v_o_leastSets])), (q_o_earliest, gI Cs 10 v_o_earliest), (q_o_years, gI Cs 10 v_o_years)] s.heap.size = A at hD ⊢
  have hA : ∀ q : Nat, s.heap.size ≤ q → A q := fun q h9 => by rw [← hAe]; exact Or.inr h9
  obtain ⟨H, hH⟩ : ∃ z : Heap, z = s.heap := ⟨_, rfl⟩
  have hS : va_S A s.heap H [] := by rw [hH]; exact va_S.rf
  have hP : va_P D vwCl [(q_o, .inr (0, [.ref q_o_from, .ref q_o_to, .ref q_o_lengths, .ref q_o_earliest, .ref q_o_latest, .ref q_o_years, .ref q_o_explained, .ref q_o_together, .int v_o_towns, .int v_o_roads, .int v_o_known, .int v_o_fewest, .int v_o_origins, .int v_o_always, .int v_o_sometimes, .int v_o_leastSets])), (q_o_earliest, gI Cs 10 v_o_earliest), (q_o_years, gI Cs 10 v_o_years)] H := by rw [hH]; exact hP
  generalize hQ : MQ below _ args s _ _ _ = Q
  show W p l e ({ frames := 0, cells := 0, slots := 0, locals := 0 } : Room) s m args below meth c s.heap [] 0 0 Q (entryFrame m args 5)
  have hent : entryFrame m args 5 = F0 m 0 ((lg_sl ([.ref q_o, .int x1, .int x2, .int x3]) ++ List.replicate (5 - (lg_sl ([.ref q_o, .int x1, .int x2, .int x3])).length) Slot.unset).toArray) [] := by rw [ha]; exact lg_entry_eq m ([.ref q_o, .int x1, .int x2, .int x3]) 5
  rw [hent]; clear hent
  rw [← hH]
  have hl := lv_entry ([.ref q_o, .int x1, .int x2, .int x3]) (n := 5) (Nat.le_of_ble_eq_true rfl)
  generalize (lg_sl ([.ref q_o, .int x1, .int x2, .int x3]) ++ List.replicate (5 - (lg_sl ([.ref q_o, .int x1, .int x2, .int x3])).length) Slot.unset).toArray = ls at hl ⊢
  have hl : lv_has ls 5 [(0, .ref q_o), (1, .int x1), (2, .int x2), (3, .int x3)] := hl
  have B29 : ∀ (H : Heap) (locs : List Loc) (ls : Array Slot) (x4 : Int32), va_P D vwCl [(q_o, .inr (0, [.ref q_o_from, .ref q_o_to, .ref q_o_lengths, .ref q_o_earliest, .ref q_o_latest, .ref q_o_years, .ref q_o_explained, .ref q_o_together, .int v_o_towns, .int v_o_roads, .int v_o_known, .int v_o_fewest, .int v_o_origins, .int v_o_always, .int v_o_sometimes, .int v_o_leastSets])), (q_o_earliest, gI Cs 10 v_o_earliest), (q_o_years, gI Cs 10 v_o_years)] H → va_D A [(q_o, .inr (0, [.ref q_o_from, .ref q_o_to, .ref q_o_lengths, .ref q_o_earliest, .ref q_o_latest, .ref q_o_years, .ref q_o_explained, .ref q_o_together, .int v_o_towns, .int v_o_roads, .int v_o_known, .int v_o_fewest, .int v_o_origins, .int v_o_always, .int v_o_sometimes, .int v_o_leastSets])), (q_o_earliest, gI Cs 10 v_o_earliest), (q_o_years, gI Cs 10 v_o_years)] → va_S A s.heap H locs → lv_has ls 5 [(0, .ref q_o), (1, .int x1), (2, .int x2), (3, .int x3), (4, .int x4)] → P_X0_passOn_b29 v_o_earliest v_o_years x1 x2 x3 post x4 → W p l e ({ frames := 0, cells := 0, slots := 0, locals := 0 } : Room) s m args below meth c H locs 0 0 Q (F0 m 29 ls []) := by
    intro H locs ls x4 hP hD hS hl h
    unfold P_X0_passOn_b29 at h
    refine lv_iload hx hb dX0_passOn_29 (lv_at hl 4 rfl) ?_
    refine lv_aload_n hx hb dX0_passOn_31 rfl (lv_at hl 0 rfl) ?_
    refine va_get (D := D) (ci := 0) (v := .ref q_o_years) (C := RX0) (T := TX0) (N := 16) hx hb htb inT_X0 hown hK hP 0 rfl rfl 5 (by decide) (htb _ tb_70) (fun _ h9 => h9) rfl dX0_passOn_32 ?_
    refine lv_iload_n hx hb dX0_passOn_35 rfl (lv_at hl 2 rfl) ?_
    obtain ⟨hi_1, h⟩ := h
    refine va_iald hx hb hK hP 2 0 rfl rfl hi_1 dX0_passOn_36 ?_
    refine lv_icmp_lt (tgt := 42) hx hb dX0_passOn_37 (by decide) (fun c_2 => ?_) (fun c_2 => ?_)
    · have h := h.1 c_2
      refine lv_aload_n hx hb dX0_passOn_42 rfl (lv_at hl 0 rfl) ?_
      refine va_get (D := D) (ci := 0) (v := .ref q_o_years) (C := RX0) (T := TX0) (N := 16) hx hb htb inT_X0 hown hK hP 0 rfl rfl 5 (by decide) (htb _ tb_70) (fun _ h9 => h9) rfl dX0_passOn_43 ?_
      refine lv_iload_n hx hb dX0_passOn_46 rfl (lv_at hl 2 rfl) ?_
      refine lv_iload hx hb dX0_passOn_47 (lv_at hl 4 rfl) ?_
      obtain ⟨hi_3, h⟩ := h
      refine va_iast hx hb hK hP hD hS 2 0 rfl rfl hi_3 dX0_passOn_49 (fun H locs hP hD hS => ?_)
      have hP : va_P D vwCl [(q_o, .inr (0, [.ref q_o_from, .ref q_o_to, .ref q_o_lengths, .ref q_o_earliest, .ref q_o_latest, .ref q_o_years, .ref q_o_explained, .ref q_o_together, .int v_o_towns, .int v_o_roads, .int v_o_known, .int v_o_fewest, .int v_o_origins, .int v_o_always, .int v_o_sometimes, .int v_o_leastSets])), (q_o_earliest, gI Cs 10 v_o_earliest), (q_o_years, gI Cs 10 (upd v_o_years x2.toNatClampNeg x4))] H := hP
      have hD : va_D A [(q_o, .inr (0, [.ref q_o_from, .ref q_o_to, .ref q_o_lengths, .ref q_o_earliest, .ref q_o_latest, .ref q_o_years, .ref q_o_explained, .ref q_o_together, .int v_o_towns, .int v_o_roads, .int v_o_known, .int v_o_fewest, .int v_o_origins, .int v_o_always, .int v_o_sometimes, .int v_o_leastSets])), (q_o_earliest, gI Cs 10 v_o_earliest), (q_o_years, gI Cs 10 (upd v_o_years x2.toNatClampNeg x4))] := hD
      refine lv_iconst (v := (1 : Int32)) hx hb dX0_passOn_50 (by decide) ?_
      rw [← hQ]
      exact gRetI (u := (upd v_o_years x2.toNatClampNeg x4)) hx hb hr rfl h hP hD hS dX0_passOn_51 hlocks
    · have h := h.2 c_2
      refine lv_iconst (v := (0 : Int32)) hx hb dX0_passOn_40 (by decide) ?_
      rw [← hQ]
      exact gRetI (u := v_o_years) hx hb hr rfl h hP hD hS dX0_passOn_41 hlocks
  unfold P_X0_passOn at h
  refine lv_aload_n hx hb dX0_passOn_0 rfl (lv_at hl 0 rfl) ?_
  refine va_get (D := D) (ci := 0) (v := .ref q_o_years) (C := RX0) (T := TX0) (N := 16) hx hb htb inT_X0 hown hK hP 0 rfl rfl 5 (by decide) (htb _ tb_70) (fun _ h9 => h9) rfl dX0_passOn_1 ?_
  refine lv_iload_n hx hb dX0_passOn_4 rfl (lv_at hl 1 rfl) ?_
  obtain ⟨hi_4, h⟩ := h
  refine va_iald hx hb hK hP 2 0 rfl rfl hi_4 dX0_passOn_5 ?_
  refine lv_iload_n hx hb dX0_passOn_6 rfl (lv_at hl 3 rfl) ?_
  refine lv_iadd hx hb dX0_passOn_7 ?_
  refine lv_topi (fun x4_5 ex4_5 => ?_)
  have h := h _ ex4_5
  refine lv_istore (lv' := [(4, .int x4_5), (0, .ref q_o), (1, .int x1), (2, .int x2), (3, .int x3)]) hx hb dX0_passOn_8 hl (by decide) rfl (fun ls hl => ?_)
  refine lv_iload hx hb dX0_passOn_10 (lv_at hl 0 rfl) ?_
  refine lv_aload_n hx hb dX0_passOn_12 rfl (lv_at hl 1 rfl) ?_
  refine va_get (D := D) (ci := 0) (v := .ref q_o_earliest) (C := RX0) (T := TX0) (N := 16) hx hb htb inT_X0 hown hK hP 0 rfl rfl 3 (by decide) (htb _ tb_68) (fun _ h9 => h9) rfl dX0_passOn_13 ?_
  refine lv_iload_n hx hb dX0_passOn_16 rfl (lv_at hl 3 rfl) ?_
  obtain ⟨hi_6, h⟩ := h
  refine va_iald hx hb hK hP 1 0 rfl rfl hi_6 dX0_passOn_17 ?_
  refine lv_icmp_ge (tgt := 29) hx hb dX0_passOn_18 (by decide) (fun c_7 => ?_) (fun c_7 => ?_)
  · have h := h.1 c_7
    exact B29 _ _ _ x4_5 hP hD hS (lv_sub hl [1, 2, 3, 4, 0] rfl) h
  · have h := h.2 c_7
    refine lv_aload_n hx hb dX0_passOn_21 rfl (lv_at hl 1 rfl) ?_
    refine va_get (D := D) (ci := 0) (v := .ref q_o_earliest) (C := RX0) (T := TX0) (N := 16) hx hb htb inT_X0 hown hK hP 0 rfl rfl 3 (by decide) (htb _ tb_68) (fun _ h9 => h9) rfl dX0_passOn_22 ?_
    refine lv_iload_n hx hb dX0_passOn_25 rfl (lv_at hl 3 rfl) ?_
    obtain ⟨hi_8, h⟩ := h
    refine va_iald hx hb hK hP 1 0 rfl rfl hi_8 dX0_passOn_26 ?_
    refine lv_topi (fun x4_9 ex4_9 => ?_)
    have h := h _ ex4_9
    refine lv_istore (lv' := [(4, .int x4_9), (0, .ref q_o), (1, .int x1), (2, .int x2), (3, .int x3)]) hx hb dX0_passOn_27 hl (by decide) rfl (fun ls hl => ?_)
    exact B29 _ _ _ x4_9 hP hD hS (lv_sub hl [1, 2, 3, 4, 0] rfl) h
set_option maxHeartbeats 4000000 in
set_option maxRecDepth 100000 in
theorem c_X0_spread (l : Launch) (D : va_G) (Cs : Nat → ClassId) (q_o : Nat) (q_o_from : Nat) (q_o_to : Nat) (q_o_lengths : Nat) (q_o_earliest : Nat) (q_o_latest : Nat) (q_o_years : Nat) (q_o_explained : Nat) (q_o_together : Nat) (sz : Nat) (v_o_towns : Int32) (v_o_roads : Int32) (v_o_from : (Nat → Int32)) (v_o_to : (Nat → Int32)) (v_o_lengths : (Nat → Int32)) (v_o_earliest : (Nat → Int32)) (v_o_years : (Nat → Int32)) (v_o_known : Int32) (v_o_fewest : Int32) (v_o_origins : Int32) (v_o_always : Int32) (v_o_sometimes : Int32) (v_o_leastSets : Int32) {post : (Nat → Int32) → Prop} (h : P_X0_spread v_o_towns v_o_roads v_o_from v_o_to v_o_lengths v_o_earliest v_o_years post) : Met l yX0_spread wsX0_spread ({ frames := 1, cells := 0, slots := 0, locals := 24 } : Room) (va_Pc [.ref q_o] (gM D Cs [(q_o, .inr (0, [.ref q_o_from, .ref q_o_to, .ref q_o_lengths, .ref q_o_earliest, .ref q_o_latest, .ref q_o_years, .ref q_o_explained, .ref q_o_together, .int v_o_towns, .int v_o_roads, .int v_o_known, .int v_o_fewest, .int v_o_origins, .int v_o_always, .int v_o_sometimes, .int v_o_leastSets])), (q_o_from, gI Cs 15 v_o_from), (q_o_to, gI Cs 15 v_o_to), (q_o_lengths, gI Cs 15 v_o_lengths), (q_o_earliest, gI Cs 10 v_o_earliest), (q_o_years, gI Cs 10 v_o_years)] sz)) (va_Qv (fun (u : (Nat → Int32)) => post u) (gB D (va_A [(q_o, .inr (0, [.ref q_o_from, .ref q_o_to, .ref q_o_lengths, .ref q_o_earliest, .ref q_o_latest, .ref q_o_years, .ref q_o_explained, .ref q_o_together, .int v_o_towns, .int v_o_roads, .int v_o_known, .int v_o_fewest, .int v_o_origins, .int v_o_always, .int v_o_sometimes, .int v_o_leastSets])), (q_o_from, gI Cs 15 v_o_from), (q_o_to, gI Cs 15 v_o_to), (q_o_lengths, gI Cs 15 v_o_lengths), (q_o_earliest, gI Cs 10 v_o_earliest), (q_o_years, gI Cs 10 v_o_years)] sz) (fun u : (Nat → Int32) => [(q_o, .inr (0, [.ref q_o_from, .ref q_o_to, .ref q_o_lengths, .ref q_o_earliest, .ref q_o_latest, .ref q_o_years, .ref q_o_explained, .ref q_o_together, .int v_o_towns, .int v_o_roads, .int v_o_known, .int v_o_fewest, .int v_o_origins, .int v_o_always, .int v_o_sometimes, .int v_o_leastSets])), (q_o_from, gI Cs 15 v_o_from), (q_o_to, gI Cs 15 v_o_to), (q_o_lengths, gI Cs 15 v_o_lengths), (q_o_earliest, gI Cs 10 v_o_earliest), (q_o_years, gI Cs 10 u)])) (va_A [(q_o, .inr (0, [.ref q_o_from, .ref q_o_to, .ref q_o_lengths, .ref q_o_earliest, .ref q_o_latest, .ref q_o_years, .ref q_o_explained, .ref q_o_together, .int v_o_towns, .int v_o_roads, .int v_o_known, .int v_o_fewest, .int v_o_origins, .int v_o_always, .int v_o_sometimes, .int v_o_leastSets])), (q_o_from, gI Cs 15 v_o_from), (q_o_to, gI Cs 15 v_o_to), (q_o_lengths, gI Cs 15 v_o_lengths), (q_o_earliest, gI Cs 10 v_o_earliest), (q_o_years, gI Cs 10 v_o_years)] sz)) 0 0 (va_A [(q_o, .inr (0, [.ref q_o_from, .ref q_o_to, .ref q_o_lengths, .ref q_o_earliest, .ref q_o_latest, .ref q_o_years, .ref q_o_explained, .ref q_o_together, .int v_o_towns, .int v_o_roads, .int v_o_known, .int v_o_fewest, .int v_o_origins, .int v_o_always, .int v_o_sometimes, .int v_o_leastSets])), (q_o_from, gI Cs 15 v_o_from), (q_o_to, gI Cs 15 v_o_to), (q_o_lengths, gI Cs 15 v_o_lengths), (q_o_earliest, gI Cs 10 v_o_earliest), (q_o_years, gI Cs 10 v_o_years)] sz) := by
  refine Met.ofW (cc := cX0_spread) (maxL := 6) (ret := none) (by decide) rfl ?_
  intro p e s m args below meth c s₁ B hml hv
  obtain ⟨ha, hsz, hP, hK, hD0, hN⟩ := hv
  have hx := B.exec
  have hb := B.bytes
  have hr := B.returns
  have hts := atoms_spec (ws := wsX0_spread) B.pre
  have htb : ∀ w ∈ TB, w.before args s = true := fun w h9 => hts w (List.mem_cons_of_mem _ h9)
  have hown : s.vm.findClass RX0 = some m.cls := findClass_of_methodNamed B.named
  have hlocks := B.notSynchronized
  subst hsz
  have hD := hD0.self (sz := s.heap.size)
  generalize hAe : va_A [(q_o, .inr (0, [.ref q_o_from, .ref q_o_to, .ref q_o_lengths, .ref q_o_earliest, .ref q_o_latest, .ref q_o_years, .ref q_o_explained, .ref q_o_together, .int v_o_towns, .int v_o_roads, .int v_o_known, .int v_o_fewest, .int v_o_origins, .int v_o_always, .int v_o_sometimes, .int v_o_leastSets])), (q_o_from, gI Cs 15 v_o_from), (q_o_to, gI Cs 15 v_o_to), (q_o_lengths, gI Cs 15 v_o_lengths), (q_o_earliest, gI Cs 10 v_o_earliest), (q_o_years, gI Cs 10 v_o_years)] s.heap.size = A at hD ⊢
  have hA : ∀ q : Nat, s.heap.size ≤ q → A q := fun q h9 => by rw [← hAe]; exact Or.inr h9
  obtain ⟨H, hH⟩ : ∃ z : Heap, z = s.heap := ⟨_, rfl⟩
  have hS : va_S A s.heap H [] := by rw [hH]; exact va_S.rf
  have hP : va_P D vwCl [(q_o, .inr (0, [.ref q_o_from, .ref q_o_to, .ref q_o_lengths, .ref q_o_earliest, .ref q_o_latest, .ref q_o_years, .ref q_o_explained, .ref q_o_together, .int v_o_towns, .int v_o_roads, .int v_o_known, .int v_o_fewest, .int v_o_origins, .int v_o_always, .int v_o_sometimes, .int v_o_leastSets])), (q_o_from, gI Cs 15 v_o_from), (q_o_to, gI Cs 15 v_o_to), (q_o_lengths, gI Cs 15 v_o_lengths), (q_o_earliest, gI Cs 10 v_o_earliest), (q_o_years, gI Cs 10 v_o_years)] H := by rw [hH]; exact hP
  generalize hQ : MQ below _ args s _ _ _ = Q
  show W p l e ({ frames := 1, cells := 0, slots := 0, locals := 24 } : Room) s m args below meth c s.heap [] 0 0 Q (entryFrame m args 6)
  have hent : entryFrame m args 6 = F0 m 0 ((lg_sl ([.ref q_o]) ++ List.replicate (6 - (lg_sl ([.ref q_o])).length) Slot.unset).toArray) [] := by rw [ha]; exact lg_entry_eq m ([.ref q_o]) 6
  rw [hent]; clear hent
  rw [← hH]
  have hl := lv_entry ([.ref q_o]) (n := 6) (Nat.le_of_ble_eq_true rfl)
  generalize (lg_sl ([.ref q_o]) ++ List.replicate (6 - (lg_sl ([.ref q_o])).length) Slot.unset).toArray = ls at hl ⊢
  have hl : lv_has ls 6 [(0, .ref q_o)] := hl
  have B108 : ∀ (H : Heap) (locs : List Loc) (ls : Array Slot) (w_o_years : (Nat → Int32)), va_P D vwCl [(q_o, .inr (0, [.ref q_o_from, .ref q_o_to, .ref q_o_lengths, .ref q_o_earliest, .ref q_o_latest, .ref q_o_years, .ref q_o_explained, .ref q_o_together, .int v_o_towns, .int v_o_roads, .int v_o_known, .int v_o_fewest, .int v_o_origins, .int v_o_always, .int v_o_sometimes, .int v_o_leastSets])), (q_o_from, gI Cs 15 v_o_from), (q_o_to, gI Cs 15 v_o_to), (q_o_lengths, gI Cs 15 v_o_lengths), (q_o_earliest, gI Cs 10 v_o_earliest), (q_o_years, gI Cs 10 w_o_years)] H → va_D A [(q_o, .inr (0, [.ref q_o_from, .ref q_o_to, .ref q_o_lengths, .ref q_o_earliest, .ref q_o_latest, .ref q_o_years, .ref q_o_explained, .ref q_o_together, .int v_o_towns, .int v_o_roads, .int v_o_known, .int v_o_fewest, .int v_o_origins, .int v_o_always, .int v_o_sometimes, .int v_o_leastSets])), (q_o_from, gI Cs 15 v_o_from), (q_o_to, gI Cs 15 v_o_to), (q_o_lengths, gI Cs 15 v_o_lengths), (q_o_earliest, gI Cs 10 v_o_earliest), (q_o_years, gI Cs 10 w_o_years)] → va_S A s.heap H locs → lv_has ls 6 [(0, .ref q_o)] → P_X0_spread_b108 v_o_towns v_o_roads v_o_from v_o_to v_o_lengths v_o_earliest v_o_years post w_o_years → W p l e ({ frames := 1, cells := 0, slots := 0, locals := 24 } : Room) s m args below meth c H locs 0 0 Q (F0 m 108 ls []) := by
    intro H locs ls w_o_years hP hD hS hl h
    unfold P_X0_spread_b108 at h
    rw [← hQ]
    exact gRetV (u := w_o_years) hx hb hr h hP hD hS dX0_spread_108 hlocks
  have L4 : ∀ (n : Nat) (H : Heap) (locs : List Loc) (ls : Array Slot) (w_o_years : (Nat → Int32)) (x1 : Int32) (x2 : Int32), va_P D vwCl [(q_o, .inr (0, [.ref q_o_from, .ref q_o_to, .ref q_o_lengths, .ref q_o_earliest, .ref q_o_latest, .ref q_o_years, .ref q_o_explained, .ref q_o_together, .int v_o_towns, .int v_o_roads, .int v_o_known, .int v_o_fewest, .int v_o_origins, .int v_o_always, .int v_o_sometimes, .int v_o_leastSets])), (q_o_from, gI Cs 15 v_o_from), (q_o_to, gI Cs 15 v_o_to), (q_o_lengths, gI Cs 15 v_o_lengths), (q_o_earliest, gI Cs 10 v_o_earliest), (q_o_years, gI Cs 10 w_o_years)] H → va_D A [(q_o, .inr (0, [.ref q_o_from, .ref q_o_to, .ref q_o_lengths, .ref q_o_earliest, .ref q_o_latest, .ref q_o_years, .ref q_o_explained, .ref q_o_together, .int v_o_towns, .int v_o_roads, .int v_o_known, .int v_o_fewest, .int v_o_origins, .int v_o_always, .int v_o_sometimes, .int v_o_leastSets])), (q_o_from, gI Cs 15 v_o_from), (q_o_to, gI Cs 15 v_o_to), (q_o_lengths, gI Cs 15 v_o_lengths), (q_o_earliest, gI Cs 10 v_o_earliest), (q_o_years, gI Cs 10 w_o_years)] → va_S A s.heap H locs → lv_has ls 6 [(0, .ref q_o), (1, .int x1), (2, .int x2)] → P_X0_spread_l4 v_o_towns v_o_roads v_o_from v_o_to v_o_lengths v_o_earliest v_o_years post n w_o_years x1 x2 → W p l e ({ frames := 1, cells := 0, slots := 0, locals := 24 } : Room) s m args below meth c H locs 0 0 Q (F0 m 4 ls []) := by
    intro n4
    induction n4 with
    | zero => intro H locs ls w_o_years x1 x2 hP hD hS hl h; exact False.elim h
    | succ n4 ih4 =>
      have L20 : ∀ (n : Nat) (H : Heap) (locs : List Loc) (ls : Array Slot) (w_o_years : (Nat → Int32)) (x1 : Int32) (x2 : Int32) (x3 : Int32), va_P D vwCl [(q_o, .inr (0, [.ref q_o_from, .ref q_o_to, .ref q_o_lengths, .ref q_o_earliest, .ref q_o_latest, .ref q_o_years, .ref q_o_explained, .ref q_o_together, .int v_o_towns, .int v_o_roads, .int v_o_known, .int v_o_fewest, .int v_o_origins, .int v_o_always, .int v_o_sometimes, .int v_o_leastSets])), (q_o_from, gI Cs 15 v_o_from), (q_o_to, gI Cs 15 v_o_to), (q_o_lengths, gI Cs 15 v_o_lengths), (q_o_earliest, gI Cs 10 v_o_earliest), (q_o_years, gI Cs 10 w_o_years)] H → va_D A [(q_o, .inr (0, [.ref q_o_from, .ref q_o_to, .ref q_o_lengths, .ref q_o_earliest, .ref q_o_latest, .ref q_o_years, .ref q_o_explained, .ref q_o_together, .int v_o_towns, .int v_o_roads, .int v_o_known, .int v_o_fewest, .int v_o_origins, .int v_o_always, .int v_o_sometimes, .int v_o_leastSets])), (q_o_from, gI Cs 15 v_o_from), (q_o_to, gI Cs 15 v_o_to), (q_o_lengths, gI Cs 15 v_o_lengths), (q_o_earliest, gI Cs 10 v_o_earliest), (q_o_years, gI Cs 10 w_o_years)] → va_S A s.heap H locs → lv_has ls 6 [(0, .ref q_o), (1, .int x1), (2, .int x2), (3, .int x3)] → P_X0_spread_l20 v_o_towns v_o_roads v_o_from v_o_to v_o_lengths v_o_earliest v_o_years post (P_X0_spread_l4 v_o_towns v_o_roads v_o_from v_o_to v_o_lengths v_o_earliest v_o_years post n4) n w_o_years x1 x2 x3 → W p l e ({ frames := 1, cells := 0, slots := 0, locals := 24 } : Room) s m args below meth c H locs 0 0 Q (F0 m 20 ls []) := by
        intro n20
        induction n20 with
        | zero => intro H locs ls w_o_years x1 x2 x3 hP hD hS hl h; exact False.elim h
        | succ n20 ih20 =>
          have B95 : ∀ (H : Heap) (locs : List Loc) (ls : Array Slot) (w_o_years : (Nat → Int32)) (x2 : Int32) (x3 : Int32) (s0 : Int32), va_P D vwCl [(q_o, .inr (0, [.ref q_o_from, .ref q_o_to, .ref q_o_lengths, .ref q_o_earliest, .ref q_o_latest, .ref q_o_years, .ref q_o_explained, .ref q_o_together, .int v_o_towns, .int v_o_roads, .int v_o_known, .int v_o_fewest, .int v_o_origins, .int v_o_always, .int v_o_sometimes, .int v_o_leastSets])), (q_o_from, gI Cs 15 v_o_from), (q_o_to, gI Cs 15 v_o_to), (q_o_lengths, gI Cs 15 v_o_lengths), (q_o_earliest, gI Cs 10 v_o_earliest), (q_o_years, gI Cs 10 w_o_years)] H → va_D A [(q_o, .inr (0, [.ref q_o_from, .ref q_o_to, .ref q_o_lengths, .ref q_o_earliest, .ref q_o_latest, .ref q_o_years, .ref q_o_explained, .ref q_o_together, .int v_o_towns, .int v_o_roads, .int v_o_known, .int v_o_fewest, .int v_o_origins, .int v_o_always, .int v_o_sometimes, .int v_o_leastSets])), (q_o_from, gI Cs 15 v_o_from), (q_o_to, gI Cs 15 v_o_to), (q_o_lengths, gI Cs 15 v_o_lengths), (q_o_earliest, gI Cs 10 v_o_earliest), (q_o_years, gI Cs 10 w_o_years)] → va_S A s.heap H locs → lv_has ls 6 [(0, .ref q_o), (2, .int x2), (3, .int x3)] → P_X0_spread_b95 v_o_towns v_o_roads v_o_from v_o_to v_o_lengths v_o_earliest v_o_years post (P_X0_spread_l4 v_o_towns v_o_roads v_o_from v_o_to v_o_lengths v_o_earliest v_o_years post n4) (P_X0_spread_l20 v_o_towns v_o_roads v_o_from v_o_to v_o_lengths v_o_earliest v_o_years post (P_X0_spread_l4 v_o_towns v_o_roads v_o_from v_o_to v_o_lengths v_o_earliest v_o_years post n4) n20) w_o_years x2 x3 s0 → W p l e ({ frames := 1, cells := 0, slots := 0, locals := 24 } : Room) s m args below meth c H locs 0 0 Q (F0 m 95 ls [.int s0]) := by
            intro H locs ls w_o_years x2 x3 s0 hP hD hS hl h
            unfold P_X0_spread_b95 at h
            refine lv_istore_n (lv' := [(1, .int s0), (0, .ref q_o), (2, .int x2), (3, .int x3)]) hx hb dX0_spread_95 rfl hl (by decide) rfl (fun ls hl => ?_)
            obtain ⟨x3_1, ex3_1⟩ : ∃ y : Int32, y = x3 + (1 : Int32) := ⟨_, rfl⟩
            have h := h _ ex3_1
            refine lv_iinc (v := x3_1) (lv' := [(3, .int x3_1), (1, .int s0), (0, .ref q_o), (2, .int x2)]) hx hb dX0_spread_96 hl (k := 3) rfl (by rw [ex3_1]; rfl) (by decide) rfl (fun ls hl => ?_)
            refine lv_goto (tgt := 20) hx hb dX0_spread_99 (by decide) ?_
            exact ih20 _ _ _ w_o_years s0 x2 x3_1 hP hD hS (lv_sub hl [2, 1, 3, 0] rfl) h
          have B90 : ∀ (H : Heap) (locs : List Loc) (ls : Array Slot) (w_o_years : (Nat → Int32)) (x2 : Int32) (x3 : Int32), va_P D vwCl [(q_o, .inr (0, [.ref q_o_from, .ref q_o_to, .ref q_o_lengths, .ref q_o_earliest, .ref q_o_latest, .ref q_o_years, .ref q_o_explained, .ref q_o_together, .int v_o_towns, .int v_o_roads, .int v_o_known, .int v_o_fewest, .int v_o_origins, .int v_o_always, .int v_o_sometimes, .int v_o_leastSets])), (q_o_from, gI Cs 15 v_o_from), (q_o_to, gI Cs 15 v_o_to), (q_o_lengths, gI Cs 15 v_o_lengths), (q_o_earliest, gI Cs 10 v_o_earliest), (q_o_years, gI Cs 10 w_o_years)] H → va_D A [(q_o, .inr (0, [.ref q_o_from, .ref q_o_to, .ref q_o_lengths, .ref q_o_earliest, .ref q_o_latest, .ref q_o_years, .ref q_o_explained, .ref q_o_together, .int v_o_towns, .int v_o_roads, .int v_o_known, .int v_o_fewest, .int v_o_origins, .int v_o_always, .int v_o_sometimes, .int v_o_leastSets])), (q_o_from, gI Cs 15 v_o_from), (q_o_to, gI Cs 15 v_o_to), (q_o_lengths, gI Cs 15 v_o_lengths), (q_o_earliest, gI Cs 10 v_o_earliest), (q_o_years, gI Cs 10 w_o_years)] → va_S A s.heap H locs → lv_has ls 6 [(0, .ref q_o), (2, .int x2), (3, .int x3)] → P_X0_spread_b90 v_o_towns v_o_roads v_o_from v_o_to v_o_lengths v_o_earliest v_o_years post (P_X0_spread_l4 v_o_towns v_o_roads v_o_from v_o_to v_o_lengths v_o_earliest v_o_years post n4) (P_X0_spread_l20 v_o_towns v_o_roads v_o_from v_o_to v_o_lengths v_o_earliest v_o_years post (P_X0_spread_l4 v_o_towns v_o_roads v_o_from v_o_to v_o_lengths v_o_earliest v_o_years post n4) n20) w_o_years x2 x3 → W p l e ({ frames := 1, cells := 0, slots := 0, locals := 24 } : Room) s m args below meth c H locs 0 0 Q (F0 m 90 ls []) := by
            intro H locs ls w_o_years x2 x3 hP hD hS hl h
            unfold P_X0_spread_b90 at h
            refine lv_iconst (v := (1 : Int32)) hx hb dX0_spread_90 (by decide) ?_
            refine lv_goto (tgt := 95) hx hb dX0_spread_91 (by decide) ?_
            exact B95 _ _ _ w_o_years x2 x3 (1 : Int32) hP hD hS (lv_sub hl [0, 1, 2] rfl) h
          intro H locs ls w_o_years x1 x2 x3 hP hD hS hl h
          replace h : P_X0_spread_b20 v_o_towns v_o_roads v_o_from v_o_to v_o_lengths v_o_earliest v_o_years post (P_X0_spread_l4 v_o_towns v_o_roads v_o_from v_o_to v_o_lengths v_o_earliest v_o_years post n4) (P_X0_spread_l20 v_o_towns v_o_roads v_o_from v_o_to v_o_lengths v_o_earliest v_o_years post (P_X0_spread_l4 v_o_towns v_o_roads v_o_from v_o_to v_o_lengths v_o_earliest v_o_years post n4) n20) w_o_years x1 x2 x3 := h
          unfold P_X0_spread_b20 at h
          refine lv_iload_n hx hb dX0_spread_20 rfl (lv_at hl 3 rfl) ?_
          refine lv_aload_n hx hb dX0_spread_21 rfl (lv_at hl 0 rfl) ?_
          refine va_get (D := D) (ci := 0) (v := .int v_o_roads) (C := RX0) (T := TX0) (N := 16) hx hb htb inT_X0 hown hK hP 0 rfl rfl 9 (by decide) (htb _ tb_186) (fun _ h9 => h9) rfl dX0_spread_22 ?_
          refine lv_icmp_ge (tgt := 102) hx hb dX0_spread_25 (by decide) (fun c_2 => ?_) (fun c_2 => ?_)
          · have h := h.1 c_2
            obtain ⟨x2_3, ex2_3⟩ : ∃ y : Int32, y = x2 + (1 : Int32) := ⟨_, rfl⟩
            have h := h _ ex2_3
            refine lv_iinc (v := x2_3) (lv' := [(2, .int x2_3), (0, .ref q_o), (1, .int x1), (3, .int x3)]) hx hb dX0_spread_102 hl (k := 2) rfl (by rw [ex2_3]; rfl) (by decide) rfl (fun ls hl => ?_)
            refine lv_goto (tgt := 4) hx hb dX0_spread_105 (by decide) ?_
            exact ih4 _ _ _ w_o_years x1 x2_3 hP hD hS (lv_sub hl [1, 2, 0] rfl) h
          · have h := h.2 c_2
            refine lv_aload_n hx hb dX0_spread_28 rfl (lv_at hl 0 rfl) ?_
            refine lv_aload_n hx hb dX0_spread_29 rfl (lv_at hl 0 rfl) ?_
            refine va_get (D := D) (ci := 0) (v := .ref q_o_from) (C := RX0) (T := TX0) (N := 16) hx hb htb inT_X0 hown hK hP 0 rfl rfl 0 (by decide) (htb _ tb_65) (fun _ h9 => h9) rfl dX0_spread_30 ?_
            refine lv_iload_n hx hb dX0_spread_33 rfl (lv_at hl 3 rfl) ?_
            obtain ⟨hi_4, h⟩ := h
            refine va_iald hx hb hK hP 1 0 rfl rfl hi_4 dX0_spread_34 ?_
            refine lv_aload_n hx hb dX0_spread_35 rfl (lv_at hl 0 rfl) ?_
            refine va_get (D := D) (ci := 0) (v := .ref q_o_to) (C := RX0) (T := TX0) (N := 16) hx hb htb inT_X0 hown hK hP 0 rfl rfl 1 (by decide) (htb _ tb_66) (fun _ h9 => h9) rfl dX0_spread_36 ?_
            refine lv_iload_n hx hb dX0_spread_39 rfl (lv_at hl 3 rfl) ?_
            obtain ⟨hi_5, h⟩ := h
            refine va_iald hx hb hK hP 2 0 rfl rfl hi_5 dX0_spread_40 ?_
            refine lv_aload_n hx hb dX0_spread_41 rfl (lv_at hl 0 rfl) ?_
            refine va_get (D := D) (ci := 0) (v := .ref q_o_lengths) (C := RX0) (T := TX0) (N := 16) hx hb htb inT_X0 hown hK hP 0 rfl rfl 2 (by decide) (htb _ tb_67) (fun _ h9 => h9) rfl dX0_spread_42 ?_
            refine lv_iload_n hx hb dX0_spread_45 rfl (lv_at hl 3 rfl) ?_
            obtain ⟨hi_6, h⟩ := h
            refine va_iald hx hb hK hP 3 0 rfl rfl hi_6 dX0_spread_46 ?_
            refine gVM (wr := [(q_o_from, gI Cs 15 v_o_from), (q_o_to, gI Cs 15 v_o_to), (q_o_lengths, gI Cs 15 v_o_lengths)]) (As := [.int (v_o_from x3.toNatClampNeg), .int (v_o_to x3.toNatClampNeg), .int (v_o_lengths x3.toNatClampNeg)]) (rest := []) ⟨hx, hb, hml, hown, htb⟩ hK hP hD hS hA hN [0, 4, 5] [1, 2, 3] rfl (by decide) rfl (by decide) (by decide) (c_X0_passOn l D Cs q_o q_o_from q_o_to q_o_lengths q_o_earliest q_o_latest q_o_years q_o_explained q_o_together H.size v_o_earliest w_o_years v_o_towns v_o_roads v_o_known v_o_fewest v_o_origins v_o_always v_o_sometimes v_o_leastSets (v_o_from x3.toNatClampNeg) (v_o_to x3.toNatClampNeg) (v_o_lengths x3.toNatClampNeg) h) (cwV 3 htb (TB_v tb_206 tb_207 tb_208 tb_26 (TB_self tb_209)) rfl rfl rfl z_X0_passOn ⟨Nat.le_of_ble_eq_true rfl, Nat.le_of_ble_eq_true rfl⟩) 0 rfl rfl rfl rfl hl.1 rfl (Nat.le_of_ble_eq_true rfl) ⟨Nat.le_of_ble_eq_true rfl, Nat.le_of_ble_eq_true rfl⟩ dX0_spread_47 (fun r_7 m_8 H locs h hP hD hS => ?_)
            have hP : va_P D vwCl [(q_o_from, gI Cs 15 v_o_from), (q_o_to, gI Cs 15 v_o_to), (q_o_lengths, gI Cs 15 v_o_lengths), (q_o, .inr (0, [.ref q_o_from, .ref q_o_to, .ref q_o_lengths, .ref q_o_earliest, .ref q_o_latest, .ref q_o_years, .ref q_o_explained, .ref q_o_together, .int v_o_towns, .int v_o_roads, .int v_o_known, .int v_o_fewest, .int v_o_origins, .int v_o_always, .int v_o_sometimes, .int v_o_leastSets])), (q_o_earliest, gI Cs 10 v_o_earliest), (q_o_years, gI Cs 10 m_8)] H := hP
            have hD : va_D A [(q_o_from, gI Cs 15 v_o_from), (q_o_to, gI Cs 15 v_o_to), (q_o_lengths, gI Cs 15 v_o_lengths), (q_o, .inr (0, [.ref q_o_from, .ref q_o_to, .ref q_o_lengths, .ref q_o_earliest, .ref q_o_latest, .ref q_o_years, .ref q_o_explained, .ref q_o_together, .int v_o_towns, .int v_o_roads, .int v_o_known, .int v_o_fewest, .int v_o_origins, .int v_o_always, .int v_o_sometimes, .int v_o_leastSets])), (q_o_earliest, gI Cs 10 v_o_earliest), (q_o_years, gI Cs 10 m_8)] := hD
            refine lv_istore (lv' := [(4, .int r_7), (0, .ref q_o), (1, .int x1), (2, .int x2), (3, .int x3)]) hx hb dX0_spread_50 hl (by decide) rfl (fun ls hl => ?_)
            refine lv_aload_n hx hb dX0_spread_52 rfl (lv_at hl 1 rfl) ?_
            refine lv_aload_n hx hb dX0_spread_53 rfl (lv_at hl 1 rfl) ?_
            refine va_get (D := D) (ci := 0) (v := .ref q_o_to) (C := RX0) (T := TX0) (N := 16) hx hb htb inT_X0 hown hK hP 3 rfl rfl 1 (by decide) (htb _ tb_66) (fun _ h9 => h9) rfl dX0_spread_54 ?_
            refine lv_iload_n hx hb dX0_spread_57 rfl (lv_at hl 4 rfl) ?_
            obtain ⟨hi_9, h⟩ := h
            refine va_iald hx hb hK hP 1 0 rfl rfl hi_9 dX0_spread_58 ?_
            refine lv_aload_n hx hb dX0_spread_59 rfl (lv_at hl 1 rfl) ?_
            refine va_get (D := D) (ci := 0) (v := .ref q_o_from) (C := RX0) (T := TX0) (N := 16) hx hb htb inT_X0 hown hK hP 3 rfl rfl 0 (by decide) (htb _ tb_65) (fun _ h9 => h9) rfl dX0_spread_60 ?_
            refine lv_iload_n hx hb dX0_spread_63 rfl (lv_at hl 4 rfl) ?_
            obtain ⟨hi_10, h⟩ := h
            refine va_iald hx hb hK hP 0 0 rfl rfl hi_10 dX0_spread_64 ?_
            refine lv_aload_n hx hb dX0_spread_65 rfl (lv_at hl 1 rfl) ?_
            refine va_get (D := D) (ci := 0) (v := .ref q_o_lengths) (C := RX0) (T := TX0) (N := 16) hx hb htb inT_X0 hown hK hP 3 rfl rfl 2 (by decide) (htb _ tb_67) (fun _ h9 => h9) rfl dX0_spread_66 ?_
            refine lv_iload_n hx hb dX0_spread_69 rfl (lv_at hl 4 rfl) ?_
            obtain ⟨hi_11, h⟩ := h
            refine va_iald hx hb hK hP 2 0 rfl rfl hi_11 dX0_spread_70 ?_
            refine gVM (wr := [(q_o_from, gI Cs 15 v_o_from), (q_o_to, gI Cs 15 v_o_to), (q_o_lengths, gI Cs 15 v_o_lengths)]) (As := [.int (v_o_to x3.toNatClampNeg), .int (v_o_from x3.toNatClampNeg), .int (v_o_lengths x3.toNatClampNeg)]) (rest := []) ⟨hx, hb, hml, hown, htb⟩ hK hP hD hS hA hN [3, 4, 5] [0, 1, 2] rfl (by decide) rfl (by decide) (by decide) (c_X0_passOn l D Cs q_o q_o_from q_o_to q_o_lengths q_o_earliest q_o_latest q_o_years q_o_explained q_o_together H.size v_o_earliest m_8 v_o_towns v_o_roads v_o_known v_o_fewest v_o_origins v_o_always v_o_sometimes v_o_leastSets (v_o_to x3.toNatClampNeg) (v_o_from x3.toNatClampNeg) (v_o_lengths x3.toNatClampNeg) h) (cwV 3 htb (TB_v tb_206 tb_207 tb_208 tb_26 (TB_self tb_209)) rfl rfl rfl z_X0_passOn ⟨Nat.le_of_ble_eq_true rfl, Nat.le_of_ble_eq_true rfl⟩) 3 rfl rfl rfl rfl hl.1 rfl (Nat.le_of_ble_eq_true rfl) ⟨Nat.le_of_ble_eq_true rfl, Nat.le_of_ble_eq_true rfl⟩ dX0_spread_71 (fun r_12 m_13 H locs h hP hD hS => ?_)
            have hP : va_P D vwCl [(q_o_from, gI Cs 15 v_o_from), (q_o_to, gI Cs 15 v_o_to), (q_o_lengths, gI Cs 15 v_o_lengths), (q_o, .inr (0, [.ref q_o_from, .ref q_o_to, .ref q_o_lengths, .ref q_o_earliest, .ref q_o_latest, .ref q_o_years, .ref q_o_explained, .ref q_o_together, .int v_o_towns, .int v_o_roads, .int v_o_known, .int v_o_fewest, .int v_o_origins, .int v_o_always, .int v_o_sometimes, .int v_o_leastSets])), (q_o_earliest, gI Cs 10 v_o_earliest), (q_o_years, gI Cs 10 m_13)] H := hP
            have hD : va_D A [(q_o_from, gI Cs 15 v_o_from), (q_o_to, gI Cs 15 v_o_to), (q_o_lengths, gI Cs 15 v_o_lengths), (q_o, .inr (0, [.ref q_o_from, .ref q_o_to, .ref q_o_lengths, .ref q_o_earliest, .ref q_o_latest, .ref q_o_years, .ref q_o_explained, .ref q_o_together, .int v_o_towns, .int v_o_roads, .int v_o_known, .int v_o_fewest, .int v_o_origins, .int v_o_always, .int v_o_sometimes, .int v_o_leastSets])), (q_o_earliest, gI Cs 10 v_o_earliest), (q_o_years, gI Cs 10 m_13)] := hD
            refine lv_istore (lv' := [(5, .int r_12), (4, .int r_7), (0, .ref q_o), (1, .int x1), (2, .int x2), (3, .int x3)]) hx hb dX0_spread_74 hl (by decide) rfl (fun ls hl => ?_)
            refine lv_iload_n hx hb dX0_spread_76 rfl (lv_at hl 3 rfl) ?_
            refine lv_if_ne (tgt := 90) hx hb dX0_spread_77 (by decide) (fun c_14 => ?_) (fun c_14 => ?_)
            · have h := h.2 c_14
              exact B90 _ _ _ m_13 x2 x3 (hP.sub [3, 0, 1, 2, 4, 5] rfl) (hD.sub [3, 0, 1, 2, 4, 5] (by decide) rfl) hS (lv_sub hl [2, 4, 5] rfl) h
            · have h := h.1 c_14
              refine lv_iload hx hb dX0_spread_80 (lv_at hl 1 rfl) ?_
              refine lv_if_ne (tgt := 90) hx hb dX0_spread_82 (by decide) (fun c_15 => ?_) (fun c_15 => ?_)
              · have h := h.2 c_15
                exact B90 _ _ _ m_13 x2 x3 (hP.sub [3, 0, 1, 2, 4, 5] rfl) (hD.sub [3, 0, 1, 2, 4, 5] (by decide) rfl) hS (lv_sub hl [2, 4, 5] rfl) h
              · have h := h.1 c_15
                refine lv_iload hx hb dX0_spread_85 (lv_at hl 0 rfl) ?_
                refine lv_if_eq (tgt := 94) hx hb dX0_spread_87 (by decide) (fun c_16 => ?_) (fun c_16 => ?_)
                · have h := h.1 c_16
                  refine lv_iconst (v := (0 : Int32)) hx hb dX0_spread_94 (by decide) ?_
                  exact B95 _ _ _ m_13 x2 x3 (0 : Int32) (hP.sub [3, 0, 1, 2, 4, 5] rfl) (hD.sub [3, 0, 1, 2, 4, 5] (by decide) rfl) hS (lv_sub hl [2, 4, 5] rfl) h
                · have h := h.2 c_16
                  exact B90 _ _ _ m_13 x2 x3 (hP.sub [3, 0, 1, 2, 4, 5] rfl) (hD.sub [3, 0, 1, 2, 4, 5] (by decide) rfl) hS (lv_sub hl [2, 4, 5] rfl) h
      intro H locs ls w_o_years x1 x2 hP hD hS hl h
      replace h : P_X0_spread_b4 v_o_towns v_o_roads v_o_from v_o_to v_o_lengths v_o_earliest v_o_years post (P_X0_spread_l4 v_o_towns v_o_roads v_o_from v_o_to v_o_lengths v_o_earliest v_o_years post n4) w_o_years x1 x2 := h
      unfold P_X0_spread_b4 at h
      refine lv_iload_n hx hb dX0_spread_4 rfl (lv_at hl 2 rfl) ?_
      refine lv_aload_n hx hb dX0_spread_5 rfl (lv_at hl 0 rfl) ?_
      refine va_get (D := D) (ci := 0) (v := .int v_o_towns) (C := RX0) (T := TX0) (N := 16) hx hb htb inT_X0 hown hK hP 0 rfl rfl 8 (by decide) (htb _ tb_178) (fun _ h9 => h9) rfl dX0_spread_6 ?_
      refine lv_icmp_ge (tgt := 108) hx hb dX0_spread_9 (by decide) (fun c_17 => ?_) (fun c_17 => ?_)
      · have h := h.1 c_17
        exact B108 _ _ _ w_o_years hP hD hS (lv_sub hl [0] rfl) h
      · have h := h.2 c_17
        refine lv_iload_n hx hb dX0_spread_12 rfl (lv_at hl 1 rfl) ?_
        refine lv_if_eq (tgt := 108) hx hb dX0_spread_13 (by decide) (fun c_18 => ?_) (fun c_18 => ?_)
        · have h := h.1 c_18
          exact B108 _ _ _ w_o_years hP hD hS (lv_sub hl [0] rfl) h
        · have h := h.2 c_18
          refine lv_iconst (v := (0 : Int32)) hx hb dX0_spread_16 (by decide) ?_
          refine lv_istore_n (lv' := [(1, .int (0 : Int32)), (0, .ref q_o), (2, .int x2)]) hx hb dX0_spread_17 rfl hl (by decide) rfl (fun ls hl => ?_)
          refine lv_iconst (v := (0 : Int32)) hx hb dX0_spread_18 (by decide) ?_
          refine lv_istore_n (lv' := [(3, .int (0 : Int32)), (1, .int (0 : Int32)), (0, .ref q_o), (2, .int x2)]) hx hb dX0_spread_19 rfl hl (by decide) rfl (fun ls hl => ?_)
          obtain ⟨n, h⟩ := h
          exact L20 n _ _ _ w_o_years (0 : Int32) x2 (0 : Int32) hP hD hS (lv_sub hl [2, 1, 3, 0] rfl) h
  unfold P_X0_spread at h
  refine lv_iconst (v := (1 : Int32)) hx hb dX0_spread_0 (by decide) ?_
  refine lv_istore_n (lv' := [(1, .int (1 : Int32)), (0, .ref q_o)]) hx hb dX0_spread_1 rfl hl (by decide) rfl (fun ls hl => ?_)
  refine lv_iconst (v := (0 : Int32)) hx hb dX0_spread_2 (by decide) ?_
  refine lv_istore_n (lv' := [(2, .int (0 : Int32)), (1, .int (1 : Int32)), (0, .ref q_o)]) hx hb dX0_spread_3 rfl hl (by decide) rfl (fun ls hl => ?_)
  obtain ⟨n, h⟩ := h
  exact L4 n _ _ _ v_o_years (1 : Int32) (0 : Int32) hP hD hS (lv_sub hl [2, 1, 0] rfl) h
set_option maxHeartbeats 4000000 in
set_option maxRecDepth 100000 in
theorem c_X0_knownInTime (l : Launch) (D : va_G) (Cs : Nat → ClassId) (q_o : Nat) (q_o_from : Nat) (q_o_to : Nat) (q_o_lengths : Nat) (q_o_earliest : Nat) (q_o_latest : Nat) (q_o_years : Nat) (q_o_explained : Nat) (q_o_together : Nat) (v_o_towns : Int32) (v_o_latest : (Nat → Int32)) (v_o_years : (Nat → Int32)) (v_o_roads : Int32) (v_o_known : Int32) (v_o_fewest : Int32) (v_o_origins : Int32) (v_o_always : Int32) (v_o_sometimes : Int32) (v_o_leastSets : Int32) {post : Int32 → Prop} (h : P_X0_knownInTime v_o_towns v_o_latest v_o_years post) : Met l yX0_knownInTime wsX0_knownInTime ({ frames := 0, cells := 0, slots := 0, locals := 0 } : Room) (va_Pc [.ref q_o] (gR D Cs [(q_o, .inr (0, [.ref q_o_from, .ref q_o_to, .ref q_o_lengths, .ref q_o_earliest, .ref q_o_latest, .ref q_o_years, .ref q_o_explained, .ref q_o_together, .int v_o_towns, .int v_o_roads, .int v_o_known, .int v_o_fewest, .int v_o_origins, .int v_o_always, .int v_o_sometimes, .int v_o_leastSets])), (q_o_latest, gI Cs 10 v_o_latest), (q_o_years, gI Cs 10 v_o_years)])) (vp_Si post) 0 0 (fun _ => False) := by
  refine Met.ofW (cc := cX0_knownInTime) (maxL := 3) (ret := (some .int)) (by decide) rfl ?_
  intro p e s m args below meth c s₁ B hml hv
  obtain ⟨ha, hP, hK, hN⟩ := hv
  have hx := B.exec
  have hb := B.bytes
  have hr := B.returns
  have hts := atoms_spec (ws := wsX0_knownInTime) B.pre
  have htb : ∀ w ∈ TB, w.before args s = true := fun w h9 => hts w (List.mem_cons_of_mem _ h9)
  have hown : s.vm.findClass RX0 = some m.cls := findClass_of_methodNamed B.named
  have hlocks := B.notSynchronized
  generalize hQ : MQ below _ args s _ _ _ = Q
  show W p l e ({ frames := 0, cells := 0, slots := 0, locals := 0 } : Room) s m args below meth c s.heap [] 0 0 Q (entryFrame m args 3)
  have hent : entryFrame m args 3 = F0 m 0 ((lg_sl ([.ref q_o]) ++ List.replicate (3 - (lg_sl ([.ref q_o])).length) Slot.unset).toArray) [] := by rw [ha]; exact lg_entry_eq m ([.ref q_o]) 3
  rw [hent]; clear hent
  have hl := lv_entry ([.ref q_o]) (n := 3) (Nat.le_of_ble_eq_true rfl)
  generalize (lg_sl ([.ref q_o]) ++ List.replicate (3 - (lg_sl ([.ref q_o])).length) Slot.unset).toArray = ls at hl ⊢
  have hl : lv_has ls 3 [(0, .ref q_o)] := hl
  have L4 : ∀ (n : Nat) (ls : Array Slot) (x1 : Int32) (x2 : Int32), lv_has ls 3 [(0, .ref q_o), (1, .int x1), (2, .int x2)] → P_X0_knownInTime_l4 v_o_towns v_o_latest v_o_years post n x1 x2 → W p l e ({ frames := 0, cells := 0, slots := 0, locals := 0 } : Room) s m args below meth c s.heap [] 0 0 Q (F0 m 4 ls []) := by
    intro n4
    induction n4 with
    | zero => intro ls x1 x2 hl h; exact False.elim h
    | succ n4 ih4 =>
      have B33 : ∀ (ls : Array Slot) (x1 : Int32) (x2 : Int32), lv_has ls 3 [(0, .ref q_o), (1, .int x1), (2, .int x2)] → P_X0_knownInTime_b33 v_o_towns v_o_latest v_o_years post (P_X0_knownInTime_l4 v_o_towns v_o_latest v_o_years post n4) x1 x2 → W p l e ({ frames := 0, cells := 0, slots := 0, locals := 0 } : Room) s m args below meth c s.heap [] 0 0 Q (F0 m 33 ls []) := by
        intro ls x1 x2 hl h
        unfold P_X0_knownInTime_b33 at h
        obtain ⟨x2_1, ex2_1⟩ : ∃ y : Int32, y = x2 + (1 : Int32) := ⟨_, rfl⟩
        have h := h _ ex2_1
        refine lv_iinc (v := x2_1) (lv' := [(2, .int x2_1), (0, .ref q_o), (1, .int x1)]) hx hb dX0_knownInTime_33 hl (k := 2) rfl (by rw [ex2_1]; rfl) (by decide) rfl (fun ls hl => ?_)
        refine lv_goto (tgt := 4) hx hb dX0_knownInTime_36 (by decide) ?_
        exact ih4 _ x1 x2_1 (lv_sub hl [1, 2, 0] rfl) h
      intro ls x1 x2 hl h
      replace h : P_X0_knownInTime_b4 v_o_towns v_o_latest v_o_years post (P_X0_knownInTime_l4 v_o_towns v_o_latest v_o_years post n4) x1 x2 := h
      unfold P_X0_knownInTime_b4 at h
      refine lv_iload_n hx hb dX0_knownInTime_4 rfl (lv_at hl 2 rfl) ?_
      refine lv_aload_n hx hb dX0_knownInTime_5 rfl (lv_at hl 0 rfl) ?_
      refine va_get (D := D) (ci := 0) (v := .int v_o_towns) (C := RX0) (T := TX0) (N := 16) hx hb htb inT_X0 hown hK hP 0 rfl rfl 8 (by decide) (htb _ tb_178) (fun _ h9 => h9) rfl dX0_knownInTime_6 ?_
      refine lv_icmp_ge (tgt := 39) hx hb dX0_knownInTime_9 (by decide) (fun c_2 => ?_) (fun c_2 => ?_)
      · have h := h.1 c_2
        refine lv_iload_n hx hb dX0_knownInTime_39 rfl (lv_at hl 1 rfl) ?_
        rw [← hQ]
        exact gRetR hx hb hr rfl h dX0_knownInTime_40 hlocks
      · have h := h.2 c_2
        refine lv_aload_n hx hb dX0_knownInTime_12 rfl (lv_at hl 0 rfl) ?_
        refine va_get (D := D) (ci := 0) (v := .ref q_o_years) (C := RX0) (T := TX0) (N := 16) hx hb htb inT_X0 hown hK hP 0 rfl rfl 5 (by decide) (htb _ tb_70) (fun _ h9 => h9) rfl dX0_knownInTime_13 ?_
        refine lv_iload_n hx hb dX0_knownInTime_16 rfl (lv_at hl 2 rfl) ?_
        obtain ⟨hi_3, h⟩ := h
        refine va_iald hx hb hK hP 2 0 rfl rfl hi_3 dX0_knownInTime_17 ?_
        refine lv_aload_n hx hb dX0_knownInTime_18 rfl (lv_at hl 0 rfl) ?_
        refine va_get (D := D) (ci := 0) (v := .ref q_o_latest) (C := RX0) (T := TX0) (N := 16) hx hb htb inT_X0 hown hK hP 0 rfl rfl 4 (by decide) (htb _ tb_69) (fun _ h9 => h9) rfl dX0_knownInTime_19 ?_
        refine lv_iload_n hx hb dX0_knownInTime_22 rfl (lv_at hl 2 rfl) ?_
        obtain ⟨hi_4, h⟩ := h
        refine va_iald hx hb hK hP 1 0 rfl rfl hi_4 dX0_knownInTime_23 ?_
        refine lv_icmp_gt (tgt := 33) hx hb dX0_knownInTime_24 (by decide) (fun c_5 => ?_) (fun c_5 => ?_)
        · have h := h.1 c_5
          exact B33 _ x1 x2 (lv_sub hl [0, 1, 2] rfl) h
        · have h := h.2 c_5
          refine lv_iload_n hx hb dX0_knownInTime_27 rfl (lv_at hl 1 rfl) ?_
          refine lv_iconst (v := (1 : Int32)) hx hb dX0_knownInTime_28 (by decide) ?_
          refine lv_iload_n hx hb dX0_knownInTime_29 rfl (lv_at hl 2 rfl) ?_
          refine lv_ishl hx hb dX0_knownInTime_30 ?_
          refine lv_ior hx hb dX0_knownInTime_31 ?_
          refine lv_topi (fun x1_6 ex1_6 => ?_)
          have h := h _ ex1_6
          refine lv_istore_n (lv' := [(1, .int x1_6), (0, .ref q_o), (2, .int x2)]) hx hb dX0_knownInTime_32 rfl hl (by decide) rfl (fun ls hl => ?_)
          exact B33 _ x1_6 x2 (lv_sub hl [1, 0, 2] rfl) h
  unfold P_X0_knownInTime at h
  refine lv_iconst (v := (0 : Int32)) hx hb dX0_knownInTime_0 (by decide) ?_
  refine lv_istore_n (lv' := [(1, .int (0 : Int32)), (0, .ref q_o)]) hx hb dX0_knownInTime_1 rfl hl (by decide) rfl (fun ls hl => ?_)
  refine lv_iconst (v := (0 : Int32)) hx hb dX0_knownInTime_2 (by decide) ?_
  refine lv_istore_n (lv' := [(2, .int (0 : Int32)), (1, .int (0 : Int32)), (0, .ref q_o)]) hx hb dX0_knownInTime_3 rfl hl (by decide) rfl (fun ls hl => ?_)
  obtain ⟨n, h⟩ := h
  exact L4 n _ (0 : Int32) (0 : Int32) (lv_sub hl [2, 1, 0] rfl) h
set_option maxHeartbeats 4000000 in
set_option maxRecDepth 100000 in
theorem c_X0_explainAlone (l : Launch) (D : va_G) (Cs : Nat → ClassId) (q_o : Nat) (q_o_from : Nat) (q_o_to : Nat) (q_o_lengths : Nat) (q_o_earliest : Nat) (q_o_latest : Nat) (q_o_years : Nat) (q_o_explained : Nat) (q_o_together : Nat) (sz : Nat) (v_o_towns : Int32) (v_o_roads : Int32) (v_o_known : Int32) (v_o_from : (Nat → Int32)) (v_o_to : (Nat → Int32)) (v_o_lengths : (Nat → Int32)) (v_o_earliest : (Nat → Int32)) (v_o_latest : (Nat → Int32)) (v_o_years : (Nat → Int32)) (v_o_explained : (Nat → Int32)) (v_o_fewest : Int32) (v_o_origins : Int32) (v_o_always : Int32) (v_o_sometimes : Int32) (v_o_leastSets : Int32) {post : (Nat → Int32) → (Nat → Int32) → Prop} (h : P_X0_explainAlone v_o_towns v_o_roads v_o_known v_o_from v_o_to v_o_lengths v_o_earliest v_o_latest v_o_years v_o_explained post) : Met l yX0_explainAlone wsX0_explainAlone ({ frames := 2, cells := 0, slots := 0, locals := 49 } : Room) (va_Pc [.ref q_o] (gM D Cs [(q_o, .inr (0, [.ref q_o_from, .ref q_o_to, .ref q_o_lengths, .ref q_o_earliest, .ref q_o_latest, .ref q_o_years, .ref q_o_explained, .ref q_o_together, .int v_o_towns, .int v_o_roads, .int v_o_known, .int v_o_fewest, .int v_o_origins, .int v_o_always, .int v_o_sometimes, .int v_o_leastSets])), (q_o_from, gI Cs 15 v_o_from), (q_o_to, gI Cs 15 v_o_to), (q_o_lengths, gI Cs 15 v_o_lengths), (q_o_earliest, gI Cs 10 v_o_earliest), (q_o_latest, gI Cs 10 v_o_latest), (q_o_years, gI Cs 10 v_o_years), (q_o_explained, gI Cs 10 v_o_explained)] sz)) (va_Qv (fun (u : (Nat → Int32) × (Nat → Int32)) => post u.1 u.2) (gB D (va_A [(q_o, .inr (0, [.ref q_o_from, .ref q_o_to, .ref q_o_lengths, .ref q_o_earliest, .ref q_o_latest, .ref q_o_years, .ref q_o_explained, .ref q_o_together, .int v_o_towns, .int v_o_roads, .int v_o_known, .int v_o_fewest, .int v_o_origins, .int v_o_always, .int v_o_sometimes, .int v_o_leastSets])), (q_o_from, gI Cs 15 v_o_from), (q_o_to, gI Cs 15 v_o_to), (q_o_lengths, gI Cs 15 v_o_lengths), (q_o_earliest, gI Cs 10 v_o_earliest), (q_o_latest, gI Cs 10 v_o_latest), (q_o_years, gI Cs 10 v_o_years), (q_o_explained, gI Cs 10 v_o_explained)] sz) (fun u : (Nat → Int32) × (Nat → Int32) => [(q_o, .inr (0, [.ref q_o_from, .ref q_o_to, .ref q_o_lengths, .ref q_o_earliest, .ref q_o_latest, .ref q_o_years, .ref q_o_explained, .ref q_o_together, .int v_o_towns, .int v_o_roads, .int v_o_known, .int v_o_fewest, .int v_o_origins, .int v_o_always, .int v_o_sometimes, .int v_o_leastSets])), (q_o_from, gI Cs 15 v_o_from), (q_o_to, gI Cs 15 v_o_to), (q_o_lengths, gI Cs 15 v_o_lengths), (q_o_earliest, gI Cs 10 v_o_earliest), (q_o_latest, gI Cs 10 v_o_latest), (q_o_years, gI Cs 10 u.1), (q_o_explained, gI Cs 10 u.2)])) (va_A [(q_o, .inr (0, [.ref q_o_from, .ref q_o_to, .ref q_o_lengths, .ref q_o_earliest, .ref q_o_latest, .ref q_o_years, .ref q_o_explained, .ref q_o_together, .int v_o_towns, .int v_o_roads, .int v_o_known, .int v_o_fewest, .int v_o_origins, .int v_o_always, .int v_o_sometimes, .int v_o_leastSets])), (q_o_from, gI Cs 15 v_o_from), (q_o_to, gI Cs 15 v_o_to), (q_o_lengths, gI Cs 15 v_o_lengths), (q_o_earliest, gI Cs 10 v_o_earliest), (q_o_latest, gI Cs 10 v_o_latest), (q_o_years, gI Cs 10 v_o_years), (q_o_explained, gI Cs 10 v_o_explained)] sz)) 0 0 (va_A [(q_o, .inr (0, [.ref q_o_from, .ref q_o_to, .ref q_o_lengths, .ref q_o_earliest, .ref q_o_latest, .ref q_o_years, .ref q_o_explained, .ref q_o_together, .int v_o_towns, .int v_o_roads, .int v_o_known, .int v_o_fewest, .int v_o_origins, .int v_o_always, .int v_o_sometimes, .int v_o_leastSets])), (q_o_from, gI Cs 15 v_o_from), (q_o_to, gI Cs 15 v_o_to), (q_o_lengths, gI Cs 15 v_o_lengths), (q_o_earliest, gI Cs 10 v_o_earliest), (q_o_latest, gI Cs 10 v_o_latest), (q_o_years, gI Cs 10 v_o_years), (q_o_explained, gI Cs 10 v_o_explained)] sz) := by
  refine Met.ofW (cc := cX0_explainAlone) (maxL := 2) (ret := none) (by decide) rfl ?_
  intro p e s m args below meth c s₁ B hml hv
  obtain ⟨ha, hsz, hP, hK, hD0, hN⟩ := hv
  have hx := B.exec
  have hb := B.bytes
  have hr := B.returns
  have hts := atoms_spec (ws := wsX0_explainAlone) B.pre
  have htb : ∀ w ∈ TB, w.before args s = true := fun w h9 => hts w (List.mem_cons_of_mem _ h9)
  have hown : s.vm.findClass RX0 = some m.cls := findClass_of_methodNamed B.named
  have hlocks := B.notSynchronized
  subst hsz
  have hD := hD0.self (sz := s.heap.size)
  generalize hAe : va_A [(q_o, .inr (0, [.ref q_o_from, .ref q_o_to, .ref q_o_lengths, .ref q_o_earliest, .ref q_o_latest, .ref q_o_years, .ref q_o_explained, .ref q_o_together, .int v_o_towns, .int v_o_roads, .int v_o_known, .int v_o_fewest, .int v_o_origins, .int v_o_always, .int v_o_sometimes, .int v_o_leastSets])), (q_o_from, gI Cs 15 v_o_from), (q_o_to, gI Cs 15 v_o_to), (q_o_lengths, gI Cs 15 v_o_lengths), (q_o_earliest, gI Cs 10 v_o_earliest), (q_o_latest, gI Cs 10 v_o_latest), (q_o_years, gI Cs 10 v_o_years), (q_o_explained, gI Cs 10 v_o_explained)] s.heap.size = A at hD ⊢
  have hA : ∀ q : Nat, s.heap.size ≤ q → A q := fun q h9 => by rw [← hAe]; exact Or.inr h9
  obtain ⟨H, hH⟩ : ∃ z : Heap, z = s.heap := ⟨_, rfl⟩
  have hS : va_S A s.heap H [] := by rw [hH]; exact va_S.rf
  have hP : va_P D vwCl [(q_o, .inr (0, [.ref q_o_from, .ref q_o_to, .ref q_o_lengths, .ref q_o_earliest, .ref q_o_latest, .ref q_o_years, .ref q_o_explained, .ref q_o_together, .int v_o_towns, .int v_o_roads, .int v_o_known, .int v_o_fewest, .int v_o_origins, .int v_o_always, .int v_o_sometimes, .int v_o_leastSets])), (q_o_from, gI Cs 15 v_o_from), (q_o_to, gI Cs 15 v_o_to), (q_o_lengths, gI Cs 15 v_o_lengths), (q_o_earliest, gI Cs 10 v_o_earliest), (q_o_latest, gI Cs 10 v_o_latest), (q_o_years, gI Cs 10 v_o_years), (q_o_explained, gI Cs 10 v_o_explained)] H := by rw [hH]; exact hP
  generalize hQ : MQ below _ args s _ _ _ = Q
  show W p l e ({ frames := 2, cells := 0, slots := 0, locals := 49 } : Room) s m args below meth c s.heap [] 0 0 Q (entryFrame m args 2)
  have hent : entryFrame m args 2 = F0 m 0 ((lg_sl ([.ref q_o]) ++ List.replicate (2 - (lg_sl ([.ref q_o])).length) Slot.unset).toArray) [] := by rw [ha]; exact lg_entry_eq m ([.ref q_o]) 2
  rw [hent]; clear hent
  rw [← hH]
  have hl := lv_entry ([.ref q_o]) (n := 2) (Nat.le_of_ble_eq_true rfl)
  generalize (lg_sl ([.ref q_o]) ++ List.replicate (2 - (lg_sl ([.ref q_o])).length) Slot.unset).toArray = ls at hl ⊢
  have hl : lv_has ls 2 [(0, .ref q_o)] := hl
  have B44 : ∀ (H : Heap) (locs : List Loc) (ls : Array Slot) (w_o_years : (Nat → Int32)) (w_o_explained : (Nat → Int32)), va_P D vwCl [(q_o, .inr (0, [.ref q_o_from, .ref q_o_to, .ref q_o_lengths, .ref q_o_earliest, .ref q_o_latest, .ref q_o_years, .ref q_o_explained, .ref q_o_together, .int v_o_towns, .int v_o_roads, .int v_o_known, .int v_o_fewest, .int v_o_origins, .int v_o_always, .int v_o_sometimes, .int v_o_leastSets])), (q_o_from, gI Cs 15 v_o_from), (q_o_to, gI Cs 15 v_o_to), (q_o_lengths, gI Cs 15 v_o_lengths), (q_o_earliest, gI Cs 10 v_o_earliest), (q_o_latest, gI Cs 10 v_o_latest), (q_o_years, gI Cs 10 w_o_years), (q_o_explained, gI Cs 10 w_o_explained)] H → va_D A [(q_o, .inr (0, [.ref q_o_from, .ref q_o_to, .ref q_o_lengths, .ref q_o_earliest, .ref q_o_latest, .ref q_o_years, .ref q_o_explained, .ref q_o_together, .int v_o_towns, .int v_o_roads, .int v_o_known, .int v_o_fewest, .int v_o_origins, .int v_o_always, .int v_o_sometimes, .int v_o_leastSets])), (q_o_from, gI Cs 15 v_o_from), (q_o_to, gI Cs 15 v_o_to), (q_o_lengths, gI Cs 15 v_o_lengths), (q_o_earliest, gI Cs 10 v_o_earliest), (q_o_latest, gI Cs 10 v_o_latest), (q_o_years, gI Cs 10 w_o_years), (q_o_explained, gI Cs 10 w_o_explained)] → va_S A s.heap H locs → lv_has ls 2 [(0, .ref q_o)] → P_X0_explainAlone_b44 v_o_towns v_o_roads v_o_known v_o_from v_o_to v_o_lengths v_o_earliest v_o_latest v_o_years v_o_explained post w_o_years w_o_explained → W p l e ({ frames := 2, cells := 0, slots := 0, locals := 49 } : Room) s m args below meth c H locs 0 0 Q (F0 m 44 ls []) := by
    intro H locs ls w_o_years w_o_explained hP hD hS hl h
    unfold P_X0_explainAlone_b44 at h
    rw [← hQ]
    exact gRetV (u := (w_o_years, w_o_explained)) hx hb hr h hP hD hS dX0_explainAlone_44 hlocks
  have L2 : ∀ (n : Nat) (H : Heap) (locs : List Loc) (ls : Array Slot) (w_o_years : (Nat → Int32)) (w_o_explained : (Nat → Int32)) (x1 : Int32), va_P D vwCl [(q_o, .inr (0, [.ref q_o_from, .ref q_o_to, .ref q_o_lengths, .ref q_o_earliest, .ref q_o_latest, .ref q_o_years, .ref q_o_explained, .ref q_o_together, .int v_o_towns, .int v_o_roads, .int v_o_known, .int v_o_fewest, .int v_o_origins, .int v_o_always, .int v_o_sometimes, .int v_o_leastSets])), (q_o_from, gI Cs 15 v_o_from), (q_o_to, gI Cs 15 v_o_to), (q_o_lengths, gI Cs 15 v_o_lengths), (q_o_earliest, gI Cs 10 v_o_earliest), (q_o_latest, gI Cs 10 v_o_latest), (q_o_years, gI Cs 10 w_o_years), (q_o_explained, gI Cs 10 w_o_explained)] H → va_D A [(q_o, .inr (0, [.ref q_o_from, .ref q_o_to, .ref q_o_lengths, .ref q_o_earliest, .ref q_o_latest, .ref q_o_years, .ref q_o_explained, .ref q_o_together, .int v_o_towns, .int v_o_roads, .int v_o_known, .int v_o_fewest, .int v_o_origins, .int v_o_always, .int v_o_sometimes, .int v_o_leastSets])), (q_o_from, gI Cs 15 v_o_from), (q_o_to, gI Cs 15 v_o_to), (q_o_lengths, gI Cs 15 v_o_lengths), (q_o_earliest, gI Cs 10 v_o_earliest), (q_o_latest, gI Cs 10 v_o_latest), (q_o_years, gI Cs 10 w_o_years), (q_o_explained, gI Cs 10 w_o_explained)] → va_S A s.heap H locs → lv_has ls 2 [(0, .ref q_o), (1, .int x1)] → P_X0_explainAlone_l2 v_o_towns v_o_roads v_o_known v_o_from v_o_to v_o_lengths v_o_earliest v_o_latest v_o_years v_o_explained post n w_o_years w_o_explained x1 → W p l e ({ frames := 2, cells := 0, slots := 0, locals := 49 } : Room) s m args below meth c H locs 0 0 Q (F0 m 2 ls []) := by
    intro n2
    induction n2 with
    | zero => intro H locs ls w_o_years w_o_explained x1 hP hD hS hl h; exact False.elim h
    | succ n2 ih2 =>
      intro H locs ls w_o_years w_o_explained x1 hP hD hS hl h
      replace h : P_X0_explainAlone_b2 v_o_towns v_o_roads v_o_known v_o_from v_o_to v_o_lengths v_o_earliest v_o_latest v_o_years v_o_explained post (P_X0_explainAlone_l2 v_o_towns v_o_roads v_o_known v_o_from v_o_to v_o_lengths v_o_earliest v_o_latest v_o_years v_o_explained post n2) w_o_years w_o_explained x1 := h
      unfold P_X0_explainAlone_b2 at h
      refine lv_iload_n hx hb dX0_explainAlone_2 rfl (lv_at hl 1 rfl) ?_
      refine lv_aload_n hx hb dX0_explainAlone_3 rfl (lv_at hl 0 rfl) ?_
      refine va_get (D := D) (ci := 0) (v := .int v_o_towns) (C := RX0) (T := TX0) (N := 16) hx hb htb inT_X0 hown hK hP 0 rfl rfl 8 (by decide) (htb _ tb_178) (fun _ h9 => h9) rfl dX0_explainAlone_4 ?_
      refine lv_icmp_ge (tgt := 44) hx hb dX0_explainAlone_7 (by decide) (fun c_1 => ?_) (fun c_1 => ?_)
      · have h := h.1 c_1
        exact B44 _ _ _ w_o_years w_o_explained hP hD hS (lv_sub hl [0] rfl) h
      · have h := h.2 c_1
        refine lv_aload_n hx hb dX0_explainAlone_10 rfl (lv_at hl 0 rfl) ?_
        refine va_get (D := D) (ci := 0) (v := .int v_o_known) (C := RX0) (T := TX0) (N := 16) hx hb htb inT_X0 hown hK hP 0 rfl rfl 10 (by decide) (htb _ tb_192) (fun _ h9 => h9) rfl dX0_explainAlone_11 ?_
        refine lv_if_eq (tgt := 44) hx hb dX0_explainAlone_14 (by decide) (fun c_2 => ?_) (fun c_2 => ?_)
        · have h := h.1 c_2
          exact B44 _ _ _ w_o_years w_o_explained hP hD hS (lv_sub hl [0] rfl) h
        · have h := h.2 c_2
          refine lv_aload_n hx hb dX0_explainAlone_17 rfl (lv_at hl 0 rfl) ?_
          refine lv_iconst (v := (1 : Int32)) hx hb dX0_explainAlone_18 (by decide) ?_
          refine lv_iload_n hx hb dX0_explainAlone_19 rfl (lv_at hl 1 rfl) ?_
          refine lv_ishl hx hb dX0_explainAlone_20 ?_
          refine gVMv (wr := [(q_o_from, gI Cs 15 v_o_from), (q_o_to, gI Cs 15 v_o_to), (q_o_lengths, gI Cs 15 v_o_lengths), (q_o_latest, gI Cs 10 v_o_latest), (q_o_explained, gI Cs 10 w_o_explained)]) (As := [.int ((1 : Int32) <<< (x1 &&& 31))]) (rest := []) ⟨hx, hb, hml, hown, htb⟩ hK hP hD hS hA hN [0, 4, 6] [1, 2, 3, 5, 7] rfl (by decide) rfl (by decide) (by decide) (c_X0_inventIn l D Cs q_o q_o_from q_o_to q_o_lengths q_o_earliest q_o_latest q_o_years q_o_explained q_o_together H.size v_o_towns v_o_earliest w_o_years v_o_roads v_o_known v_o_fewest v_o_origins v_o_always v_o_sometimes v_o_leastSets ((1 : Int32) <<< (x1 &&& 31)) h) (cwV 1 htb (TB_v tb_198 tb_199 tb_200 tb_26 (TB_self tb_201)) rfl rfl rfl z_X0_inventIn ⟨Nat.le_of_ble_eq_true rfl, Nat.le_of_ble_eq_true rfl⟩) 0 rfl rfl rfl rfl hl.1 rfl (Nat.le_of_ble_eq_true rfl) ⟨Nat.le_of_ble_eq_true rfl, Nat.le_of_ble_eq_true rfl⟩ dX0_explainAlone_21 (fun m_4 H locs h hP hD hS => ?_)
          have hP : va_P D vwCl [(q_o_from, gI Cs 15 v_o_from), (q_o_to, gI Cs 15 v_o_to), (q_o_lengths, gI Cs 15 v_o_lengths), (q_o_latest, gI Cs 10 v_o_latest), (q_o_explained, gI Cs 10 w_o_explained), (q_o, .inr (0, [.ref q_o_from, .ref q_o_to, .ref q_o_lengths, .ref q_o_earliest, .ref q_o_latest, .ref q_o_years, .ref q_o_explained, .ref q_o_together, .int v_o_towns, .int v_o_roads, .int v_o_known, .int v_o_fewest, .int v_o_origins, .int v_o_always, .int v_o_sometimes, .int v_o_leastSets])), (q_o_earliest, gI Cs 10 v_o_earliest), (q_o_years, gI Cs 10 m_4)] H := hP
          have hD : va_D A [(q_o_from, gI Cs 15 v_o_from), (q_o_to, gI Cs 15 v_o_to), (q_o_lengths, gI Cs 15 v_o_lengths), (q_o_latest, gI Cs 10 v_o_latest), (q_o_explained, gI Cs 10 w_o_explained), (q_o, .inr (0, [.ref q_o_from, .ref q_o_to, .ref q_o_lengths, .ref q_o_earliest, .ref q_o_latest, .ref q_o_years, .ref q_o_explained, .ref q_o_together, .int v_o_towns, .int v_o_roads, .int v_o_known, .int v_o_fewest, .int v_o_origins, .int v_o_always, .int v_o_sometimes, .int v_o_leastSets])), (q_o_earliest, gI Cs 10 v_o_earliest), (q_o_years, gI Cs 10 m_4)] := hD
          refine lv_aload_n hx hb dX0_explainAlone_24 rfl (lv_at hl 0 rfl) ?_
          refine gVMv (wr := [(q_o_latest, gI Cs 10 v_o_latest), (q_o_explained, gI Cs 10 w_o_explained)]) (As := []) (rest := []) ⟨hx, hb, hml, hown, htb⟩ hK hP hD hS hA hN [5, 0, 1, 2, 6, 7] [3, 4] rfl (by decide) rfl (by decide) (by decide) (c_X0_spread l D Cs q_o q_o_from q_o_to q_o_lengths q_o_earliest q_o_latest q_o_years q_o_explained q_o_together H.size v_o_towns v_o_roads v_o_from v_o_to v_o_lengths v_o_earliest m_4 v_o_known v_o_fewest v_o_origins v_o_always v_o_sometimes v_o_leastSets h) (cwV 0 htb (TB_v tb_202 tb_203 tb_204 tb_26 (TB_self tb_205)) rfl rfl rfl z_X0_spread ⟨Nat.le_of_ble_eq_true rfl, Nat.le_of_ble_eq_true rfl⟩) 5 rfl rfl rfl rfl hl.1 rfl (Nat.le_of_ble_eq_true rfl) ⟨Nat.le_of_ble_eq_true rfl, Nat.le_of_ble_eq_true rfl⟩ dX0_explainAlone_25 (fun m_6 H locs h hP hD hS => ?_)
          have hP : va_P D vwCl [(q_o_latest, gI Cs 10 v_o_latest), (q_o_explained, gI Cs 10 w_o_explained), (q_o, .inr (0, [.ref q_o_from, .ref q_o_to, .ref q_o_lengths, .ref q_o_earliest, .ref q_o_latest, .ref q_o_years, .ref q_o_explained, .ref q_o_together, .int v_o_towns, .int v_o_roads, .int v_o_known, .int v_o_fewest, .int v_o_origins, .int v_o_always, .int v_o_sometimes, .int v_o_leastSets])), (q_o_from, gI Cs 15 v_o_from), (q_o_to, gI Cs 15 v_o_to), (q_o_lengths, gI Cs 15 v_o_lengths), (q_o_earliest, gI Cs 10 v_o_earliest), (q_o_years, gI Cs 10 m_6)] H := hP
          have hD : va_D A [(q_o_latest, gI Cs 10 v_o_latest), (q_o_explained, gI Cs 10 w_o_explained), (q_o, .inr (0, [.ref q_o_from, .ref q_o_to, .ref q_o_lengths, .ref q_o_earliest, .ref q_o_latest, .ref q_o_years, .ref q_o_explained, .ref q_o_together, .int v_o_towns, .int v_o_roads, .int v_o_known, .int v_o_fewest, .int v_o_origins, .int v_o_always, .int v_o_sometimes, .int v_o_leastSets])), (q_o_from, gI Cs 15 v_o_from), (q_o_to, gI Cs 15 v_o_to), (q_o_lengths, gI Cs 15 v_o_lengths), (q_o_earliest, gI Cs 10 v_o_earliest), (q_o_years, gI Cs 10 m_6)] := hD
          refine lv_aload_n hx hb dX0_explainAlone_28 rfl (lv_at hl 0 rfl) ?_
          refine va_get (D := D) (ci := 0) (v := .ref q_o_explained) (C := RX0) (T := TX0) (N := 16) hx hb htb inT_X0 hown hK hP 2 rfl rfl 6 (by decide) (htb _ tb_71) (fun _ h9 => h9) rfl dX0_explainAlone_29 ?_
          refine lv_iload_n hx hb dX0_explainAlone_32 rfl (lv_at hl 1 rfl) ?_
          refine lv_aload_n hx hb dX0_explainAlone_33 rfl (lv_at hl 0 rfl) ?_
          refine gVR (As := []) (rest := [.int x1, .ref q_o_explained]) ⟨hx, hb, hml, hown, htb⟩ hK hP hN [2, 0, 7] rfl (c_X0_knownInTime l D Cs q_o q_o_from q_o_to q_o_lengths q_o_earliest q_o_latest q_o_years q_o_explained q_o_together v_o_towns v_o_latest m_6 v_o_roads v_o_known v_o_fewest v_o_origins v_o_always v_o_sometimes v_o_leastSets h) (cwV 0 htb (TB_v tb_210 tb_211 tb_212 tb_26 (TB_self tb_213)) rfl rfl rfl z_X0_knownInTime ⟨Nat.le_of_ble_eq_true rfl, Nat.le_of_ble_eq_true rfl⟩) 2 rfl rfl rfl rfl hl.1 rfl (Nat.le_of_ble_eq_true rfl) ⟨Nat.le_of_ble_eq_true rfl, Nat.le_of_ble_eq_true rfl⟩ dX0_explainAlone_34 (fun r_7 h => ?_)
          obtain ⟨hi_8, h⟩ := h
          refine va_iast hx hb hK hP hD hS 1 0 rfl rfl hi_8 dX0_explainAlone_37 (fun H locs hP hD hS => ?_)
          have hP : va_P D vwCl [(q_o_latest, gI Cs 10 v_o_latest), (q_o_explained, gI Cs 10 (upd w_o_explained x1.toNatClampNeg r_7)), (q_o, .inr (0, [.ref q_o_from, .ref q_o_to, .ref q_o_lengths, .ref q_o_earliest, .ref q_o_latest, .ref q_o_years, .ref q_o_explained, .ref q_o_together, .int v_o_towns, .int v_o_roads, .int v_o_known, .int v_o_fewest, .int v_o_origins, .int v_o_always, .int v_o_sometimes, .int v_o_leastSets])), (q_o_from, gI Cs 15 v_o_from), (q_o_to, gI Cs 15 v_o_to), (q_o_lengths, gI Cs 15 v_o_lengths), (q_o_earliest, gI Cs 10 v_o_earliest), (q_o_years, gI Cs 10 m_6)] H := hP
          have hD : va_D A [(q_o_latest, gI Cs 10 v_o_latest), (q_o_explained, gI Cs 10 (upd w_o_explained x1.toNatClampNeg r_7)), (q_o, .inr (0, [.ref q_o_from, .ref q_o_to, .ref q_o_lengths, .ref q_o_earliest, .ref q_o_latest, .ref q_o_years, .ref q_o_explained, .ref q_o_together, .int v_o_towns, .int v_o_roads, .int v_o_known, .int v_o_fewest, .int v_o_origins, .int v_o_always, .int v_o_sometimes, .int v_o_leastSets])), (q_o_from, gI Cs 15 v_o_from), (q_o_to, gI Cs 15 v_o_to), (q_o_lengths, gI Cs 15 v_o_lengths), (q_o_earliest, gI Cs 10 v_o_earliest), (q_o_years, gI Cs 10 m_6)] := hD
          obtain ⟨x1_9, ex1_9⟩ : ∃ y : Int32, y = x1 + (1 : Int32) := ⟨_, rfl⟩
          have h := h _ ex1_9
          refine lv_iinc (v := x1_9) (lv' := [(1, .int x1_9), (0, .ref q_o)]) hx hb dX0_explainAlone_38 hl (k := 1) rfl (by rw [ex1_9]; rfl) (by decide) rfl (fun ls hl => ?_)
          refine lv_goto (tgt := 2) hx hb dX0_explainAlone_41 (by decide) ?_
          exact ih2 _ _ _ m_6 (upd w_o_explained x1.toNatClampNeg r_7) x1_9 (hP.sub [2, 3, 4, 5, 6, 0, 7, 1] rfl) (hD.sub [2, 3, 4, 5, 6, 0, 7, 1] (by decide) rfl) hS (lv_sub hl [1, 0] rfl) h
  unfold P_X0_explainAlone at h
  refine lv_iconst (v := (0 : Int32)) hx hb dX0_explainAlone_0 (by decide) ?_
  refine lv_istore_n (lv' := [(1, .int (0 : Int32)), (0, .ref q_o)]) hx hb dX0_explainAlone_1 rfl hl (by decide) rfl (fun ls hl => ?_)
  obtain ⟨n, h⟩ := h
  exact L2 n _ _ _ v_o_years v_o_explained (0 : Int32) hP hD hS (lv_sub hl [1, 0] rfl) h
set_option maxHeartbeats 4000000 in
set_option maxRecDepth 100000 in
theorem c_X0_weigh (l : Launch) (D : va_G) (Cs : Nat → ClassId) (q_o : Nat) (q_o_from : Nat) (q_o_to : Nat) (q_o_lengths : Nat) (q_o_earliest : Nat) (q_o_latest : Nat) (q_o_years : Nat) (q_o_explained : Nat) (q_o_together : Nat) (sz : Nat) (v_o_known : Int32) (v_o_fewest : Int32) (v_o_origins : Int32) (v_o_always : Int32) (v_o_sometimes : Int32) (v_o_leastSets : Int32) (v_o_together : (Nat → Int32)) (v_o_towns : Int32) (v_o_roads : Int32) (x1 : Int32) {post : Int32 → Int32 → Int32 → Int32 → Int32 → Prop} (h : P_X0_weigh v_o_known v_o_fewest v_o_origins v_o_always v_o_sometimes v_o_leastSets v_o_together x1 post) : Met l yX0_weigh wsX0_weigh ({ frames := 1, cells := 0, slots := 0, locals := 20 } : Room) (va_Pc [.ref q_o, .int x1] (gM D Cs [(q_o, .inr (0, [.ref q_o_from, .ref q_o_to, .ref q_o_lengths, .ref q_o_earliest, .ref q_o_latest, .ref q_o_years, .ref q_o_explained, .ref q_o_together, .int v_o_towns, .int v_o_roads, .int v_o_known, .int v_o_fewest, .int v_o_origins, .int v_o_always, .int v_o_sometimes, .int v_o_leastSets])), (q_o_together, gI Cs 1024 v_o_together)] sz)) (va_Qv (fun (u : Int32 × Int32 × Int32 × Int32 × Int32) => post u.1 u.2.1 u.2.2.1 u.2.2.2.1 u.2.2.2.2) (gB D (va_A [(q_o, .inr (0, [.ref q_o_from, .ref q_o_to, .ref q_o_lengths, .ref q_o_earliest, .ref q_o_latest, .ref q_o_years, .ref q_o_explained, .ref q_o_together, .int v_o_towns, .int v_o_roads, .int v_o_known, .int v_o_fewest, .int v_o_origins, .int v_o_always, .int v_o_sometimes, .int v_o_leastSets])), (q_o_together, gI Cs 1024 v_o_together)] sz) (fun u : Int32 × Int32 × Int32 × Int32 × Int32 => [(q_o, .inr (0, [.ref q_o_from, .ref q_o_to, .ref q_o_lengths, .ref q_o_earliest, .ref q_o_latest, .ref q_o_years, .ref q_o_explained, .ref q_o_together, .int v_o_towns, .int v_o_roads, .int v_o_known, .int u.1, .int u.2.1, .int u.2.2.1, .int u.2.2.2.1, .int u.2.2.2.2])), (q_o_together, gI Cs 1024 v_o_together)])) (va_A [(q_o, .inr (0, [.ref q_o_from, .ref q_o_to, .ref q_o_lengths, .ref q_o_earliest, .ref q_o_latest, .ref q_o_years, .ref q_o_explained, .ref q_o_together, .int v_o_towns, .int v_o_roads, .int v_o_known, .int v_o_fewest, .int v_o_origins, .int v_o_always, .int v_o_sometimes, .int v_o_leastSets])), (q_o_together, gI Cs 1024 v_o_together)] sz)) 0 0 (va_A [(q_o, .inr (0, [.ref q_o_from, .ref q_o_to, .ref q_o_lengths, .ref q_o_earliest, .ref q_o_latest, .ref q_o_years, .ref q_o_explained, .ref q_o_together, .int v_o_towns, .int v_o_roads, .int v_o_known, .int v_o_fewest, .int v_o_origins, .int v_o_always, .int v_o_sometimes, .int v_o_leastSets])), (q_o_together, gI Cs 1024 v_o_together)] sz) := by
  refine Met.ofW (cc := cX0_weigh) (maxL := 3) (ret := none) (by decide) rfl ?_
  intro p e s m args below meth c s₁ B hml hv
  obtain ⟨ha, hsz, hP, hK, hD0, hN⟩ := hv
  have hx := B.exec
  have hb := B.bytes
  have hr := B.returns
  have hts := atoms_spec (ws := wsX0_weigh) B.pre
  have htb : ∀ w ∈ TB, w.before args s = true := fun w h9 => hts w (List.mem_cons_of_mem _ h9)
  have hown : s.vm.findClass RX0 = some m.cls := findClass_of_methodNamed B.named
  have hlocks := B.notSynchronized
  subst hsz
  have hD := hD0.self (sz := s.heap.size)
  generalize hAe : va_A [(q_o, .inr (0, [.ref q_o_from, .ref q_o_to, .ref q_o_lengths, .ref q_o_earliest, .ref q_o_latest, .ref q_o_years, .ref q_o_explained, .ref q_o_together, .int v_o_towns, .int v_o_roads, .int v_o_known, .int v_o_fewest, .int v_o_origins, .int v_o_always, .int v_o_sometimes, .int v_o_leastSets])), (q_o_together, gI Cs 1024 v_o_together)] s.heap.size = A at hD ⊢
  have hA : ∀ q : Nat, s.heap.size ≤ q → A q := fun q h9 => by rw [← hAe]; exact Or.inr h9
  obtain ⟨H, hH⟩ : ∃ z : Heap, z = s.heap := ⟨_, rfl⟩
  have hS : va_S A s.heap H [] := by rw [hH]; exact va_S.rf
  have hP : va_P D vwCl [(q_o, .inr (0, [.ref q_o_from, .ref q_o_to, .ref q_o_lengths, .ref q_o_earliest, .ref q_o_latest, .ref q_o_years, .ref q_o_explained, .ref q_o_together, .int v_o_towns, .int v_o_roads, .int v_o_known, .int v_o_fewest, .int v_o_origins, .int v_o_always, .int v_o_sometimes, .int v_o_leastSets])), (q_o_together, gI Cs 1024 v_o_together)] H := by rw [hH]; exact hP
  generalize hQ : MQ below _ args s _ _ _ = Q
  show W p l e ({ frames := 1, cells := 0, slots := 0, locals := 20 } : Room) s m args below meth c s.heap [] 0 0 Q (entryFrame m args 3)
  have hent : entryFrame m args 3 = F0 m 0 ((lg_sl ([.ref q_o, .int x1]) ++ List.replicate (3 - (lg_sl ([.ref q_o, .int x1])).length) Slot.unset).toArray) [] := by rw [ha]; exact lg_entry_eq m ([.ref q_o, .int x1]) 3
  rw [hent]; clear hent
  rw [← hH]
  have hl := lv_entry ([.ref q_o, .int x1]) (n := 3) (Nat.le_of_ble_eq_true rfl)
  generalize (lg_sl ([.ref q_o, .int x1]) ++ List.replicate (3 - (lg_sl ([.ref q_o, .int x1])).length) Slot.unset).toArray = ls at hl ⊢
  have hl : lv_has ls 3 [(0, .ref q_o), (1, .int x1)] := hl
  have B93 : ∀ (H : Heap) (locs : List Loc) (ls : Array Slot) (w_o_fewest : Int32) (w_o_origins : Int32) (w_o_always : Int32) (w_o_sometimes : Int32) (w_o_leastSets : Int32), va_P D vwCl [(q_o, .inr (0, [.ref q_o_from, .ref q_o_to, .ref q_o_lengths, .ref q_o_earliest, .ref q_o_latest, .ref q_o_years, .ref q_o_explained, .ref q_o_together, .int v_o_towns, .int v_o_roads, .int v_o_known, .int w_o_fewest, .int w_o_origins, .int w_o_always, .int w_o_sometimes, .int w_o_leastSets])), (q_o_together, gI Cs 1024 v_o_together)] H → va_D A [(q_o, .inr (0, [.ref q_o_from, .ref q_o_to, .ref q_o_lengths, .ref q_o_earliest, .ref q_o_latest, .ref q_o_years, .ref q_o_explained, .ref q_o_together, .int v_o_towns, .int v_o_roads, .int v_o_known, .int w_o_fewest, .int w_o_origins, .int w_o_always, .int w_o_sometimes, .int w_o_leastSets])), (q_o_together, gI Cs 1024 v_o_together)] → va_S A s.heap H locs → lv_has ls 3 [(0, .ref q_o), (1, .int x1)] → P_X0_weigh_b93 v_o_known v_o_fewest v_o_origins v_o_always v_o_sometimes v_o_leastSets v_o_together x1 post w_o_fewest w_o_origins w_o_always w_o_sometimes w_o_leastSets → W p l e ({ frames := 1, cells := 0, slots := 0, locals := 20 } : Room) s m args below meth c H locs 0 0 Q (F0 m 93 ls []) := by
    intro H locs ls w_o_fewest w_o_origins w_o_always w_o_sometimes w_o_leastSets hP hD hS hl h
    unfold P_X0_weigh_b93 at h
    rw [← hQ]
    exact gRetV (u := (w_o_fewest, w_o_origins, w_o_always, w_o_sometimes, w_o_leastSets)) hx hb hr h hP hD hS dX0_weigh_93 hlocks
  unfold P_X0_weigh at h
  refine lv_aload_n hx hb dX0_weigh_0 rfl (lv_at hl 0 rfl) ?_
  refine va_get (D := D) (ci := 0) (v := .ref q_o_together) (C := RX0) (T := TX0) (N := 16) hx hb htb inT_X0 hown hK hP 0 rfl rfl 7 (by decide) (htb _ tb_72) (fun _ h9 => h9) rfl dX0_weigh_1 ?_
  refine lv_iload_n hx hb dX0_weigh_4 rfl (lv_at hl 1 rfl) ?_
  obtain ⟨hi_1, h⟩ := h
  refine va_iald hx hb hK hP 1 0 rfl rfl hi_1 dX0_weigh_5 ?_
  refine lv_aload_n hx hb dX0_weigh_6 rfl (lv_at hl 0 rfl) ?_
  refine va_get (D := D) (ci := 0) (v := .int v_o_known) (C := RX0) (T := TX0) (N := 16) hx hb htb inT_X0 hown hK hP 0 rfl rfl 10 (by decide) (htb _ tb_192) (fun _ h9 => h9) rfl dX0_weigh_7 ?_
  refine lv_icmp_eq (tgt := 14) hx hb dX0_weigh_10 (by decide) (fun c_2 => ?_) (fun c_2 => ?_)
  · have h := h.1 c_2
    refine lv_iload_n hx hb dX0_weigh_14 rfl (lv_at hl 1 rfl) ?_
    refine gSR (As := [.int x1]) (rest := []) ⟨hx, hb, hml, hown, htb⟩ hK hP hN [] rfl (c_J6_bitCount_0f7a4 l D Cs x1 h) (va_cwS 1 htb (TB_s tb_225 tb_226 tb_227 (TB_self tb_228)) rfl rfl rfl z_J6_bitCount_0f7a4.2 ⟨Nat.le_of_ble_eq_true rfl, Nat.le_of_ble_eq_true rfl⟩) rfl hl.1 rfl (Nat.le_of_ble_eq_true rfl) ⟨Nat.le_of_ble_eq_true rfl, Nat.le_of_ble_eq_true rfl⟩ dX0_weigh_15 (fun r_3 h => ?_)
    refine lv_istore_n (lv' := [(2, .int r_3), (0, .ref q_o), (1, .int x1)]) hx hb dX0_weigh_18 rfl hl (by decide) rfl (fun ls hl => ?_)
    refine lv_iload_n hx hb dX0_weigh_19 rfl (lv_at hl 0 rfl) ?_
    refine lv_aload_n hx hb dX0_weigh_20 rfl (lv_at hl 1 rfl) ?_
    refine va_get (D := D) (ci := 0) (v := .int v_o_fewest) (C := RX0) (T := TX0) (N := 16) hx hb htb inT_X0 hown hK hP 0 rfl rfl 11 (by decide) (htb _ tb_179) (fun _ h9 => h9) rfl dX0_weigh_21 ?_
    refine lv_icmp_ge (tgt := 55) hx hb dX0_weigh_24 (by decide) (fun c_4 => ?_) (fun c_4 => ?_)
    · have h := h.1 c_4
      refine lv_iload_n hx hb dX0_weigh_55 rfl (lv_at hl 0 rfl) ?_
      refine lv_aload_n hx hb dX0_weigh_56 rfl (lv_at hl 1 rfl) ?_
      refine va_get (D := D) (ci := 0) (v := .int v_o_fewest) (C := RX0) (T := TX0) (N := 16) hx hb htb inT_X0 hown hK hP 0 rfl rfl 11 (by decide) (htb _ tb_179) (fun _ h9 => h9) rfl dX0_weigh_57 ?_
      refine lv_icmp_ne (tgt := 93) hx hb dX0_weigh_60 (by decide) (fun c_5 => ?_) (fun c_5 => ?_)
      · have h := h.2 c_5
        exact B93 _ _ _ v_o_fewest v_o_origins v_o_always v_o_sometimes v_o_leastSets hP hD hS (lv_sub hl [1, 2] rfl) h
      · have h := h.1 c_5
        refine lv_aload_n hx hb dX0_weigh_63 rfl (lv_at hl 1 rfl) ?_
        refine lv_dup hx hb dX0_weigh_64 rfl ?_
        refine va_get (D := D) (ci := 0) (v := .int v_o_always) (C := RX0) (T := TX0) (N := 16) hx hb htb inT_X0 hown hK hP 0 rfl rfl 13 (by decide) (htb _ tb_222) (fun _ h9 => h9) rfl dX0_weigh_65 ?_
        refine lv_iload_n hx hb dX0_weigh_68 rfl (lv_at hl 2 rfl) ?_
        refine lv_iand hx hb dX0_weigh_69 ?_
        refine lv_topi (fun f_always_6 ef_always_6 => ?_)
        have h := h _ ef_always_6
        refine va_put (D := D) (ci := 0) (v := .int f_always_6) (ty := .int) (C := RX0) (T := TX0) (N := 16) hx hb htb inT_X0 tyX0 tyX0_ok nmX0 hown hK hP hD hS 0 rfl rfl 13 (by decide) (htb _ tb_222) (fun _ h9 => h9) rfl (tyX0_ok 13 (by decide)) rfl rfl (Nat.le_of_ble_eq_true rfl) dX0_weigh_70 (fun H locs hP hD hS => ?_)
        have hP : va_P D vwCl [(q_o, .inr (0, [.ref q_o_from, .ref q_o_to, .ref q_o_lengths, .ref q_o_earliest, .ref q_o_latest, .ref q_o_years, .ref q_o_explained, .ref q_o_together, .int v_o_towns, .int v_o_roads, .int v_o_known, .int v_o_fewest, .int v_o_origins, .int f_always_6, .int v_o_sometimes, .int v_o_leastSets])), (q_o_together, gI Cs 1024 v_o_together)] H := hP
        have hD : va_D A [(q_o, .inr (0, [.ref q_o_from, .ref q_o_to, .ref q_o_lengths, .ref q_o_earliest, .ref q_o_latest, .ref q_o_years, .ref q_o_explained, .ref q_o_together, .int v_o_towns, .int v_o_roads, .int v_o_known, .int v_o_fewest, .int v_o_origins, .int f_always_6, .int v_o_sometimes, .int v_o_leastSets])), (q_o_together, gI Cs 1024 v_o_together)] := hD
        refine lv_aload_n hx hb dX0_weigh_73 rfl (lv_at hl 1 rfl) ?_
        refine lv_dup hx hb dX0_weigh_74 rfl ?_
        refine va_get (D := D) (ci := 0) (v := .int v_o_sometimes) (C := RX0) (T := TX0) (N := 16) hx hb htb inT_X0 hown hK hP 0 rfl rfl 14 (by decide) (htb _ tb_223) (fun _ h9 => h9) rfl dX0_weigh_75 ?_
        refine lv_iload_n hx hb dX0_weigh_78 rfl (lv_at hl 2 rfl) ?_
        refine lv_ior hx hb dX0_weigh_79 ?_
        refine lv_topi (fun f_sometimes_7 ef_sometimes_7 => ?_)
        have h := h _ ef_sometimes_7
        refine va_put (D := D) (ci := 0) (v := .int f_sometimes_7) (ty := .int) (C := RX0) (T := TX0) (N := 16) hx hb htb inT_X0 tyX0 tyX0_ok nmX0 hown hK hP hD hS 0 rfl rfl 14 (by decide) (htb _ tb_223) (fun _ h9 => h9) rfl (tyX0_ok 14 (by decide)) rfl rfl (Nat.le_of_ble_eq_true rfl) dX0_weigh_80 (fun H locs hP hD hS => ?_)
        have hP : va_P D vwCl [(q_o, .inr (0, [.ref q_o_from, .ref q_o_to, .ref q_o_lengths, .ref q_o_earliest, .ref q_o_latest, .ref q_o_years, .ref q_o_explained, .ref q_o_together, .int v_o_towns, .int v_o_roads, .int v_o_known, .int v_o_fewest, .int v_o_origins, .int f_always_6, .int f_sometimes_7, .int v_o_leastSets])), (q_o_together, gI Cs 1024 v_o_together)] H := hP
        have hD : va_D A [(q_o, .inr (0, [.ref q_o_from, .ref q_o_to, .ref q_o_lengths, .ref q_o_earliest, .ref q_o_latest, .ref q_o_years, .ref q_o_explained, .ref q_o_together, .int v_o_towns, .int v_o_roads, .int v_o_known, .int v_o_fewest, .int v_o_origins, .int f_always_6, .int f_sometimes_7, .int v_o_leastSets])), (q_o_together, gI Cs 1024 v_o_together)] := hD
        refine lv_aload_n hx hb dX0_weigh_83 rfl (lv_at hl 1 rfl) ?_
        refine lv_dup hx hb dX0_weigh_84 rfl ?_
        refine va_get (D := D) (ci := 0) (v := .int v_o_leastSets) (C := RX0) (T := TX0) (N := 16) hx hb htb inT_X0 hown hK hP 0 rfl rfl 15 (by decide) (htb _ tb_224) (fun _ h9 => h9) rfl dX0_weigh_85 ?_
        refine lv_iconst (v := (1 : Int32)) hx hb dX0_weigh_88 (by decide) ?_
        refine lv_iadd hx hb dX0_weigh_89 ?_
        refine lv_topi (fun f_leastSets_8 ef_leastSets_8 => ?_)
        have h := h _ ef_leastSets_8
        refine va_put (D := D) (ci := 0) (v := .int f_leastSets_8) (ty := .int) (C := RX0) (T := TX0) (N := 16) hx hb htb inT_X0 tyX0 tyX0_ok nmX0 hown hK hP hD hS 0 rfl rfl 15 (by decide) (htb _ tb_224) (fun _ h9 => h9) rfl (tyX0_ok 15 (by decide)) rfl rfl (Nat.le_of_ble_eq_true rfl) dX0_weigh_90 (fun H locs hP hD hS => ?_)
        have hP : va_P D vwCl [(q_o, .inr (0, [.ref q_o_from, .ref q_o_to, .ref q_o_lengths, .ref q_o_earliest, .ref q_o_latest, .ref q_o_years, .ref q_o_explained, .ref q_o_together, .int v_o_towns, .int v_o_roads, .int v_o_known, .int v_o_fewest, .int v_o_origins, .int f_always_6, .int f_sometimes_7, .int f_leastSets_8])), (q_o_together, gI Cs 1024 v_o_together)] H := hP
        have hD : va_D A [(q_o, .inr (0, [.ref q_o_from, .ref q_o_to, .ref q_o_lengths, .ref q_o_earliest, .ref q_o_latest, .ref q_o_years, .ref q_o_explained, .ref q_o_together, .int v_o_towns, .int v_o_roads, .int v_o_known, .int v_o_fewest, .int v_o_origins, .int f_always_6, .int f_sometimes_7, .int f_leastSets_8])), (q_o_together, gI Cs 1024 v_o_together)] := hD
        exact B93 _ _ _ v_o_fewest v_o_origins f_always_6 f_sometimes_7 f_leastSets_8 hP hD hS (lv_sub hl [1, 2] rfl) h
    · have h := h.2 c_4
      refine lv_aload_n hx hb dX0_weigh_27 rfl (lv_at hl 1 rfl) ?_
      refine lv_iload_n hx hb dX0_weigh_28 rfl (lv_at hl 0 rfl) ?_
      refine va_put (D := D) (ci := 0) (v := .int r_3) (ty := .int) (C := RX0) (T := TX0) (N := 16) hx hb htb inT_X0 tyX0 tyX0_ok nmX0 hown hK hP hD hS 0 rfl rfl 11 (by decide) (htb _ tb_179) (fun _ h9 => h9) rfl (tyX0_ok 11 (by decide)) rfl rfl (Nat.le_of_ble_eq_true rfl) dX0_weigh_29 (fun H locs hP hD hS => ?_)
      have hP : va_P D vwCl [(q_o, .inr (0, [.ref q_o_from, .ref q_o_to, .ref q_o_lengths, .ref q_o_earliest, .ref q_o_latest, .ref q_o_years, .ref q_o_explained, .ref q_o_together, .int v_o_towns, .int v_o_roads, .int v_o_known, .int r_3, .int v_o_origins, .int v_o_always, .int v_o_sometimes, .int v_o_leastSets])), (q_o_together, gI Cs 1024 v_o_together)] H := hP
      have hD : va_D A [(q_o, .inr (0, [.ref q_o_from, .ref q_o_to, .ref q_o_lengths, .ref q_o_earliest, .ref q_o_latest, .ref q_o_years, .ref q_o_explained, .ref q_o_together, .int v_o_towns, .int v_o_roads, .int v_o_known, .int r_3, .int v_o_origins, .int v_o_always, .int v_o_sometimes, .int v_o_leastSets])), (q_o_together, gI Cs 1024 v_o_together)] := hD
      refine lv_aload_n hx hb dX0_weigh_32 rfl (lv_at hl 1 rfl) ?_
      refine lv_iload_n hx hb dX0_weigh_33 rfl (lv_at hl 2 rfl) ?_
      refine va_put (D := D) (ci := 0) (v := .int x1) (ty := .int) (C := RX0) (T := TX0) (N := 16) hx hb htb inT_X0 tyX0 tyX0_ok nmX0 hown hK hP hD hS 0 rfl rfl 12 (by decide) (htb _ tb_180) (fun _ h9 => h9) rfl (tyX0_ok 12 (by decide)) rfl rfl (Nat.le_of_ble_eq_true rfl) dX0_weigh_34 (fun H locs hP hD hS => ?_)
      have hP : va_P D vwCl [(q_o, .inr (0, [.ref q_o_from, .ref q_o_to, .ref q_o_lengths, .ref q_o_earliest, .ref q_o_latest, .ref q_o_years, .ref q_o_explained, .ref q_o_together, .int v_o_towns, .int v_o_roads, .int v_o_known, .int r_3, .int x1, .int v_o_always, .int v_o_sometimes, .int v_o_leastSets])), (q_o_together, gI Cs 1024 v_o_together)] H := hP
      have hD : va_D A [(q_o, .inr (0, [.ref q_o_from, .ref q_o_to, .ref q_o_lengths, .ref q_o_earliest, .ref q_o_latest, .ref q_o_years, .ref q_o_explained, .ref q_o_together, .int v_o_towns, .int v_o_roads, .int v_o_known, .int r_3, .int x1, .int v_o_always, .int v_o_sometimes, .int v_o_leastSets])), (q_o_together, gI Cs 1024 v_o_together)] := hD
      refine lv_aload_n hx hb dX0_weigh_37 rfl (lv_at hl 1 rfl) ?_
      refine lv_iload_n hx hb dX0_weigh_38 rfl (lv_at hl 2 rfl) ?_
      refine va_put (D := D) (ci := 0) (v := .int x1) (ty := .int) (C := RX0) (T := TX0) (N := 16) hx hb htb inT_X0 tyX0 tyX0_ok nmX0 hown hK hP hD hS 0 rfl rfl 13 (by decide) (htb _ tb_222) (fun _ h9 => h9) rfl (tyX0_ok 13 (by decide)) rfl rfl (Nat.le_of_ble_eq_true rfl) dX0_weigh_39 (fun H locs hP hD hS => ?_)
      have hP : va_P D vwCl [(q_o, .inr (0, [.ref q_o_from, .ref q_o_to, .ref q_o_lengths, .ref q_o_earliest, .ref q_o_latest, .ref q_o_years, .ref q_o_explained, .ref q_o_together, .int v_o_towns, .int v_o_roads, .int v_o_known, .int r_3, .int x1, .int x1, .int v_o_sometimes, .int v_o_leastSets])), (q_o_together, gI Cs 1024 v_o_together)] H := hP
      have hD : va_D A [(q_o, .inr (0, [.ref q_o_from, .ref q_o_to, .ref q_o_lengths, .ref q_o_earliest, .ref q_o_latest, .ref q_o_years, .ref q_o_explained, .ref q_o_together, .int v_o_towns, .int v_o_roads, .int v_o_known, .int r_3, .int x1, .int x1, .int v_o_sometimes, .int v_o_leastSets])), (q_o_together, gI Cs 1024 v_o_together)] := hD
      refine lv_aload_n hx hb dX0_weigh_42 rfl (lv_at hl 1 rfl) ?_
      refine lv_iload_n hx hb dX0_weigh_43 rfl (lv_at hl 2 rfl) ?_
      refine va_put (D := D) (ci := 0) (v := .int x1) (ty := .int) (C := RX0) (T := TX0) (N := 16) hx hb htb inT_X0 tyX0 tyX0_ok nmX0 hown hK hP hD hS 0 rfl rfl 14 (by decide) (htb _ tb_223) (fun _ h9 => h9) rfl (tyX0_ok 14 (by decide)) rfl rfl (Nat.le_of_ble_eq_true rfl) dX0_weigh_44 (fun H locs hP hD hS => ?_)
      have hP : va_P D vwCl [(q_o, .inr (0, [.ref q_o_from, .ref q_o_to, .ref q_o_lengths, .ref q_o_earliest, .ref q_o_latest, .ref q_o_years, .ref q_o_explained, .ref q_o_together, .int v_o_towns, .int v_o_roads, .int v_o_known, .int r_3, .int x1, .int x1, .int x1, .int v_o_leastSets])), (q_o_together, gI Cs 1024 v_o_together)] H := hP
      have hD : va_D A [(q_o, .inr (0, [.ref q_o_from, .ref q_o_to, .ref q_o_lengths, .ref q_o_earliest, .ref q_o_latest, .ref q_o_years, .ref q_o_explained, .ref q_o_together, .int v_o_towns, .int v_o_roads, .int v_o_known, .int r_3, .int x1, .int x1, .int x1, .int v_o_leastSets])), (q_o_together, gI Cs 1024 v_o_together)] := hD
      refine lv_aload_n hx hb dX0_weigh_47 rfl (lv_at hl 1 rfl) ?_
      refine lv_iconst (v := (1 : Int32)) hx hb dX0_weigh_48 (by decide) ?_
      refine va_put (D := D) (ci := 0) (v := .int (1 : Int32)) (ty := .int) (C := RX0) (T := TX0) (N := 16) hx hb htb inT_X0 tyX0 tyX0_ok nmX0 hown hK hP hD hS 0 rfl rfl 15 (by decide) (htb _ tb_224) (fun _ h9 => h9) rfl (tyX0_ok 15 (by decide)) rfl rfl (Nat.le_of_ble_eq_true rfl) dX0_weigh_49 (fun H locs hP hD hS => ?_)
      have hP : va_P D vwCl [(q_o, .inr (0, [.ref q_o_from, .ref q_o_to, .ref q_o_lengths, .ref q_o_earliest, .ref q_o_latest, .ref q_o_years, .ref q_o_explained, .ref q_o_together, .int v_o_towns, .int v_o_roads, .int v_o_known, .int r_3, .int x1, .int x1, .int x1, .int (1 : Int32)])), (q_o_together, gI Cs 1024 v_o_together)] H := hP
      have hD : va_D A [(q_o, .inr (0, [.ref q_o_from, .ref q_o_to, .ref q_o_lengths, .ref q_o_earliest, .ref q_o_latest, .ref q_o_years, .ref q_o_explained, .ref q_o_together, .int v_o_towns, .int v_o_roads, .int v_o_known, .int r_3, .int x1, .int x1, .int x1, .int (1 : Int32)])), (q_o_together, gI Cs 1024 v_o_together)] := hD
      refine lv_goto (tgt := 93) hx hb dX0_weigh_52 (by decide) ?_
      exact B93 _ _ _ r_3 x1 x1 x1 (1 : Int32) hP hD hS (lv_sub hl [1, 2] rfl) h
  · have h := h.2 c_2
    rw [← hQ]
    exact gRetV (u := (v_o_fewest, v_o_origins, v_o_always, v_o_sometimes, v_o_leastSets)) hx hb hr h hP hD hS dX0_weigh_13 hlocks
set_option maxHeartbeats 4000000 in
set_option maxRecDepth 100000 in
theorem c_X0_weighSets (l : Launch) (D : va_G) (Cs : Nat → ClassId) (q_o : Nat) (q_o_from : Nat) (q_o_to : Nat) (q_o_lengths : Nat) (q_o_earliest : Nat) (q_o_latest : Nat) (q_o_years : Nat) (q_o_explained : Nat) (q_o_together : Nat) (sz : Nat) (v_o_towns : Int32) (v_o_known : Int32) (v_o_fewest : Int32) (v_o_origins : Int32) (v_o_always : Int32) (v_o_sometimes : Int32) (v_o_leastSets : Int32) (v_o_explained : (Nat → Int32)) (v_o_together : (Nat → Int32)) (v_o_roads : Int32) {post : Int32 → Int32 → Int32 → Int32 → Int32 → (Nat → Int32) → Prop} (h : P_X0_weighSets v_o_towns v_o_known v_o_fewest v_o_origins v_o_always v_o_sometimes v_o_leastSets v_o_explained v_o_together post) : Met l yX0_weighSets wsX0_weighSets ({ frames := 2, cells := 0, slots := 0, locals := 42 } : Room) (va_Pc [.ref q_o] (gM D Cs [(q_o, .inr (0, [.ref q_o_from, .ref q_o_to, .ref q_o_lengths, .ref q_o_earliest, .ref q_o_latest, .ref q_o_years, .ref q_o_explained, .ref q_o_together, .int v_o_towns, .int v_o_roads, .int v_o_known, .int v_o_fewest, .int v_o_origins, .int v_o_always, .int v_o_sometimes, .int v_o_leastSets])), (q_o_explained, gI Cs 10 v_o_explained), (q_o_together, gI Cs 1024 v_o_together)] sz)) (va_Qv (fun (u : Int32 × Int32 × Int32 × Int32 × Int32 × (Nat → Int32)) => post u.1 u.2.1 u.2.2.1 u.2.2.2.1 u.2.2.2.2.1 u.2.2.2.2.2) (gB D (va_A [(q_o, .inr (0, [.ref q_o_from, .ref q_o_to, .ref q_o_lengths, .ref q_o_earliest, .ref q_o_latest, .ref q_o_years, .ref q_o_explained, .ref q_o_together, .int v_o_towns, .int v_o_roads, .int v_o_known, .int v_o_fewest, .int v_o_origins, .int v_o_always, .int v_o_sometimes, .int v_o_leastSets])), (q_o_explained, gI Cs 10 v_o_explained), (q_o_together, gI Cs 1024 v_o_together)] sz) (fun u : Int32 × Int32 × Int32 × Int32 × Int32 × (Nat → Int32) => [(q_o, .inr (0, [.ref q_o_from, .ref q_o_to, .ref q_o_lengths, .ref q_o_earliest, .ref q_o_latest, .ref q_o_years, .ref q_o_explained, .ref q_o_together, .int v_o_towns, .int v_o_roads, .int v_o_known, .int u.1, .int u.2.1, .int u.2.2.1, .int u.2.2.2.1, .int u.2.2.2.2.1])), (q_o_explained, gI Cs 10 v_o_explained), (q_o_together, gI Cs 1024 u.2.2.2.2.2)])) (va_A [(q_o, .inr (0, [.ref q_o_from, .ref q_o_to, .ref q_o_lengths, .ref q_o_earliest, .ref q_o_latest, .ref q_o_years, .ref q_o_explained, .ref q_o_together, .int v_o_towns, .int v_o_roads, .int v_o_known, .int v_o_fewest, .int v_o_origins, .int v_o_always, .int v_o_sometimes, .int v_o_leastSets])), (q_o_explained, gI Cs 10 v_o_explained), (q_o_together, gI Cs 1024 v_o_together)] sz)) 0 0 (va_A [(q_o, .inr (0, [.ref q_o_from, .ref q_o_to, .ref q_o_lengths, .ref q_o_earliest, .ref q_o_latest, .ref q_o_years, .ref q_o_explained, .ref q_o_together, .int v_o_towns, .int v_o_roads, .int v_o_known, .int v_o_fewest, .int v_o_origins, .int v_o_always, .int v_o_sometimes, .int v_o_leastSets])), (q_o_explained, gI Cs 10 v_o_explained), (q_o_together, gI Cs 1024 v_o_together)] sz) := by
  refine Met.ofW (cc := cX0_weighSets) (maxL := 4) (ret := none) (by decide) rfl ?_
  intro p e s m args below meth c s₁ B hml hv
  obtain ⟨ha, hsz, hP, hK, hD0, hN⟩ := hv
  have hx := B.exec
  have hb := B.bytes
  have hr := B.returns
  have hts := atoms_spec (ws := wsX0_weighSets) B.pre
  have htb : ∀ w ∈ TB, w.before args s = true := fun w h9 => hts w (List.mem_cons_of_mem _ h9)
  have hown : s.vm.findClass RX0 = some m.cls := findClass_of_methodNamed B.named
  have hlocks := B.notSynchronized
  subst hsz
  have hD := hD0.self (sz := s.heap.size)
  generalize hAe : va_A [(q_o, .inr (0, [.ref q_o_from, .ref q_o_to, .ref q_o_lengths, .ref q_o_earliest, .ref q_o_latest, .ref q_o_years, .ref q_o_explained, .ref q_o_together, .int v_o_towns, .int v_o_roads, .int v_o_known, .int v_o_fewest, .int v_o_origins, .int v_o_always, .int v_o_sometimes, .int v_o_leastSets])), (q_o_explained, gI Cs 10 v_o_explained), (q_o_together, gI Cs 1024 v_o_together)] s.heap.size = A at hD ⊢
  have hA : ∀ q : Nat, s.heap.size ≤ q → A q := fun q h9 => by rw [← hAe]; exact Or.inr h9
  obtain ⟨H, hH⟩ : ∃ z : Heap, z = s.heap := ⟨_, rfl⟩
  have hS : va_S A s.heap H [] := by rw [hH]; exact va_S.rf
  have hP : va_P D vwCl [(q_o, .inr (0, [.ref q_o_from, .ref q_o_to, .ref q_o_lengths, .ref q_o_earliest, .ref q_o_latest, .ref q_o_years, .ref q_o_explained, .ref q_o_together, .int v_o_towns, .int v_o_roads, .int v_o_known, .int v_o_fewest, .int v_o_origins, .int v_o_always, .int v_o_sometimes, .int v_o_leastSets])), (q_o_explained, gI Cs 10 v_o_explained), (q_o_together, gI Cs 1024 v_o_together)] H := by rw [hH]; exact hP
  generalize hQ : MQ below _ args s _ _ _ = Q
  show W p l e ({ frames := 2, cells := 0, slots := 0, locals := 42 } : Room) s m args below meth c s.heap [] 0 0 Q (entryFrame m args 4)
  have hent : entryFrame m args 4 = F0 m 0 ((lg_sl ([.ref q_o]) ++ List.replicate (4 - (lg_sl ([.ref q_o])).length) Slot.unset).toArray) [] := by rw [ha]; exact lg_entry_eq m ([.ref q_o]) 4
  rw [hent]; clear hent
  rw [← hH]
  have hl := lv_entry ([.ref q_o]) (n := 4) (Nat.le_of_ble_eq_true rfl)
  generalize (lg_sl ([.ref q_o]) ++ List.replicate (4 - (lg_sl ([.ref q_o])).length) Slot.unset).toArray = ls at hl ⊢
  have hl : lv_has ls 4 [(0, .ref q_o)] := hl
  have B90 : ∀ (H : Heap) (locs : List Loc) (ls : Array Slot) (w_o_fewest : Int32) (w_o_origins : Int32) (w_o_always : Int32) (w_o_sometimes : Int32) (w_o_leastSets : Int32) (w_o_together : (Nat → Int32)), va_P D vwCl [(q_o, .inr (0, [.ref q_o_from, .ref q_o_to, .ref q_o_lengths, .ref q_o_earliest, .ref q_o_latest, .ref q_o_years, .ref q_o_explained, .ref q_o_together, .int v_o_towns, .int v_o_roads, .int v_o_known, .int w_o_fewest, .int w_o_origins, .int w_o_always, .int w_o_sometimes, .int w_o_leastSets])), (q_o_explained, gI Cs 10 v_o_explained), (q_o_together, gI Cs 1024 w_o_together)] H → va_D A [(q_o, .inr (0, [.ref q_o_from, .ref q_o_to, .ref q_o_lengths, .ref q_o_earliest, .ref q_o_latest, .ref q_o_years, .ref q_o_explained, .ref q_o_together, .int v_o_towns, .int v_o_roads, .int v_o_known, .int w_o_fewest, .int w_o_origins, .int w_o_always, .int w_o_sometimes, .int w_o_leastSets])), (q_o_explained, gI Cs 10 v_o_explained), (q_o_together, gI Cs 1024 w_o_together)] → va_S A s.heap H locs → lv_has ls 4 [(0, .ref q_o)] → P_X0_weighSets_b90 v_o_towns v_o_known v_o_fewest v_o_origins v_o_always v_o_sometimes v_o_leastSets v_o_explained v_o_together post w_o_fewest w_o_origins w_o_always w_o_sometimes w_o_leastSets w_o_together → W p l e ({ frames := 2, cells := 0, slots := 0, locals := 42 } : Room) s m args below meth c H locs 0 0 Q (F0 m 90 ls []) := by
    intro H locs ls w_o_fewest w_o_origins w_o_always w_o_sometimes w_o_leastSets w_o_together hP hD hS hl h
    unfold P_X0_weighSets_b90 at h
    rw [← hQ]
    exact gRetV (u := (w_o_fewest, w_o_origins, w_o_always, w_o_sometimes, w_o_leastSets, w_o_together)) hx hb hr h hP hD hS dX0_weighSets_90 hlocks
  have L24 : ∀ (n : Nat) (H : Heap) (locs : List Loc) (ls : Array Slot) (w_o_fewest : Int32) (w_o_origins : Int32) (w_o_always : Int32) (w_o_sometimes : Int32) (w_o_leastSets : Int32) (w_o_together : (Nat → Int32)) (x1 : Int32), va_P D vwCl [(q_o, .inr (0, [.ref q_o_from, .ref q_o_to, .ref q_o_lengths, .ref q_o_earliest, .ref q_o_latest, .ref q_o_years, .ref q_o_explained, .ref q_o_together, .int v_o_towns, .int v_o_roads, .int v_o_known, .int w_o_fewest, .int w_o_origins, .int w_o_always, .int w_o_sometimes, .int w_o_leastSets])), (q_o_explained, gI Cs 10 v_o_explained), (q_o_together, gI Cs 1024 w_o_together)] H → va_D A [(q_o, .inr (0, [.ref q_o_from, .ref q_o_to, .ref q_o_lengths, .ref q_o_earliest, .ref q_o_latest, .ref q_o_years, .ref q_o_explained, .ref q_o_together, .int v_o_towns, .int v_o_roads, .int v_o_known, .int w_o_fewest, .int w_o_origins, .int w_o_always, .int w_o_sometimes, .int w_o_leastSets])), (q_o_explained, gI Cs 10 v_o_explained), (q_o_together, gI Cs 1024 w_o_together)] → va_S A s.heap H locs → lv_has ls 4 [(0, .ref q_o), (1, .int x1)] → P_X0_weighSets_l24 v_o_towns v_o_known v_o_fewest v_o_origins v_o_always v_o_sometimes v_o_leastSets v_o_explained v_o_together post n w_o_fewest w_o_origins w_o_always w_o_sometimes w_o_leastSets w_o_together x1 → W p l e ({ frames := 2, cells := 0, slots := 0, locals := 42 } : Room) s m args below meth c H locs 0 0 Q (F0 m 24 ls []) := by
    intro n24
    induction n24 with
    | zero => intro H locs ls w_o_fewest w_o_origins w_o_always w_o_sometimes w_o_leastSets w_o_together x1 hP hD hS hl h; exact False.elim h
    | succ n24 ih24 =>
      have L45 : ∀ (n : Nat) (H : Heap) (locs : List Loc) (ls : Array Slot) (w_o_fewest : Int32) (w_o_origins : Int32) (w_o_always : Int32) (w_o_sometimes : Int32) (w_o_leastSets : Int32) (w_o_together : (Nat → Int32)) (x1 : Int32) (x2 : Int32) (x3 : Int32), va_P D vwCl [(q_o, .inr (0, [.ref q_o_from, .ref q_o_to, .ref q_o_lengths, .ref q_o_earliest, .ref q_o_latest, .ref q_o_years, .ref q_o_explained, .ref q_o_together, .int v_o_towns, .int v_o_roads, .int v_o_known, .int w_o_fewest, .int w_o_origins, .int w_o_always, .int w_o_sometimes, .int w_o_leastSets])), (q_o_explained, gI Cs 10 v_o_explained), (q_o_together, gI Cs 1024 w_o_together)] H → va_D A [(q_o, .inr (0, [.ref q_o_from, .ref q_o_to, .ref q_o_lengths, .ref q_o_earliest, .ref q_o_latest, .ref q_o_years, .ref q_o_explained, .ref q_o_together, .int v_o_towns, .int v_o_roads, .int v_o_known, .int w_o_fewest, .int w_o_origins, .int w_o_always, .int w_o_sometimes, .int w_o_leastSets])), (q_o_explained, gI Cs 10 v_o_explained), (q_o_together, gI Cs 1024 w_o_together)] → va_S A s.heap H locs → lv_has ls 4 [(0, .ref q_o), (1, .int x1), (2, .int x2), (3, .int x3)] → P_X0_weighSets_l45 v_o_towns v_o_known v_o_fewest v_o_origins v_o_always v_o_sometimes v_o_leastSets v_o_explained v_o_together post (P_X0_weighSets_l24 v_o_towns v_o_known v_o_fewest v_o_origins v_o_always v_o_sometimes v_o_leastSets v_o_explained v_o_together post n24) n w_o_fewest w_o_origins w_o_always w_o_sometimes w_o_leastSets w_o_together x1 x2 x3 → W p l e ({ frames := 2, cells := 0, slots := 0, locals := 42 } : Room) s m args below meth c H locs 0 0 Q (F0 m 45 ls []) := by
        intro n45
        induction n45 with
        | zero => intro H locs ls w_o_fewest w_o_origins w_o_always w_o_sometimes w_o_leastSets w_o_together x1 x2 x3 hP hD hS hl h; exact False.elim h
        | succ n45 ih45 =>
          intro H locs ls w_o_fewest w_o_origins w_o_always w_o_sometimes w_o_leastSets w_o_together x1 x2 x3 hP hD hS hl h
          replace h : P_X0_weighSets_b45 v_o_towns v_o_known v_o_fewest v_o_origins v_o_always v_o_sometimes v_o_leastSets v_o_explained v_o_together post (P_X0_weighSets_l24 v_o_towns v_o_known v_o_fewest v_o_origins v_o_always v_o_sometimes v_o_leastSets v_o_explained v_o_together post n24) (P_X0_weighSets_l45 v_o_towns v_o_known v_o_fewest v_o_origins v_o_always v_o_sometimes v_o_leastSets v_o_explained v_o_together post (P_X0_weighSets_l24 v_o_towns v_o_known v_o_fewest v_o_origins v_o_always v_o_sometimes v_o_leastSets v_o_explained v_o_together post n24) n45) w_o_fewest w_o_origins w_o_always w_o_sometimes w_o_leastSets w_o_together x1 x2 x3 := h
          unfold P_X0_weighSets_b45 at h
          refine lv_iload_n hx hb dX0_weighSets_45 rfl (lv_at hl 3 rfl) ?_
          refine lv_iload_n hx hb dX0_weighSets_46 rfl (lv_at hl 2 rfl) ?_
          refine lv_icmp_ge (tgt := 84) hx hb dX0_weighSets_47 (by decide) (fun c_1 => ?_) (fun c_1 => ?_)
          · have h := h.1 c_1
            obtain ⟨x1_2, ex1_2⟩ : ∃ y : Int32, y = x1 + (1 : Int32) := ⟨_, rfl⟩
            have h := h _ ex1_2
            refine lv_iinc (v := x1_2) (lv' := [(1, .int x1_2), (0, .ref q_o), (2, .int x2), (3, .int x3)]) hx hb dX0_weighSets_84 hl (k := 1) rfl (by rw [ex1_2]; rfl) (by decide) rfl (fun ls hl => ?_)
            refine lv_goto (tgt := 24) hx hb dX0_weighSets_87 (by decide) ?_
            exact ih24 _ _ _ w_o_fewest w_o_origins w_o_always w_o_sometimes w_o_leastSets w_o_together x1_2 hP hD hS (lv_sub hl [1, 0] rfl) h
          · have h := h.2 c_1
            refine lv_aload_n hx hb dX0_weighSets_50 rfl (lv_at hl 0 rfl) ?_
            refine va_get (D := D) (ci := 0) (v := .ref q_o_together) (C := RX0) (T := TX0) (N := 16) hx hb htb inT_X0 hown hK hP 0 rfl rfl 7 (by decide) (htb _ tb_72) (fun _ h9 => h9) rfl dX0_weighSets_51 ?_
            refine lv_iload_n hx hb dX0_weighSets_54 rfl (lv_at hl 2 rfl) ?_
            refine lv_iload_n hx hb dX0_weighSets_55 rfl (lv_at hl 3 rfl) ?_
            refine lv_iadd hx hb dX0_weighSets_56 ?_
            refine lv_aload_n hx hb dX0_weighSets_57 rfl (lv_at hl 0 rfl) ?_
            refine va_get (D := D) (ci := 0) (v := .ref q_o_together) (C := RX0) (T := TX0) (N := 16) hx hb htb inT_X0 hown hK hP 0 rfl rfl 7 (by decide) (htb _ tb_72) (fun _ h9 => h9) rfl dX0_weighSets_58 ?_
            refine lv_iload_n hx hb dX0_weighSets_61 rfl (lv_at hl 3 rfl) ?_
            obtain ⟨hi_3, h⟩ := h
            refine va_iald hx hb hK hP 2 0 rfl rfl hi_3 dX0_weighSets_62 ?_
            refine lv_aload_n hx hb dX0_weighSets_63 rfl (lv_at hl 0 rfl) ?_
            refine va_get (D := D) (ci := 0) (v := .ref q_o_explained) (C := RX0) (T := TX0) (N := 16) hx hb htb inT_X0 hown hK hP 0 rfl rfl 6 (by decide) (htb _ tb_71) (fun _ h9 => h9) rfl dX0_weighSets_64 ?_
            refine lv_iload_n hx hb dX0_weighSets_67 rfl (lv_at hl 1 rfl) ?_
            obtain ⟨hi_4, h⟩ := h
            refine va_iald hx hb hK hP 1 0 rfl rfl hi_4 dX0_weighSets_68 ?_
            refine lv_ior hx hb dX0_weighSets_69 ?_
            obtain ⟨hi_5, h⟩ := h
            refine va_iast hx hb hK hP hD hS 2 0 rfl rfl hi_5 dX0_weighSets_70 (fun H locs hP hD hS => ?_)
            have hP : va_P D vwCl [(q_o, .inr (0, [.ref q_o_from, .ref q_o_to, .ref q_o_lengths, .ref q_o_earliest, .ref q_o_latest, .ref q_o_years, .ref q_o_explained, .ref q_o_together, .int v_o_towns, .int v_o_roads, .int v_o_known, .int w_o_fewest, .int w_o_origins, .int w_o_always, .int w_o_sometimes, .int w_o_leastSets])), (q_o_explained, gI Cs 10 v_o_explained), (q_o_together, gI Cs 1024 (upd w_o_together (x2 + x3).toNatClampNeg ((w_o_together x3.toNatClampNeg) ||| (v_o_explained x1.toNatClampNeg))))] H := hP
            have hD : va_D A [(q_o, .inr (0, [.ref q_o_from, .ref q_o_to, .ref q_o_lengths, .ref q_o_earliest, .ref q_o_latest, .ref q_o_years, .ref q_o_explained, .ref q_o_together, .int v_o_towns, .int v_o_roads, .int v_o_known, .int w_o_fewest, .int w_o_origins, .int w_o_always, .int w_o_sometimes, .int w_o_leastSets])), (q_o_explained, gI Cs 10 v_o_explained), (q_o_together, gI Cs 1024 (upd w_o_together (x2 + x3).toNatClampNeg ((w_o_together x3.toNatClampNeg) ||| (v_o_explained x1.toNatClampNeg))))] := hD
            refine lv_aload_n hx hb dX0_weighSets_71 rfl (lv_at hl 0 rfl) ?_
            refine lv_iload_n hx hb dX0_weighSets_72 rfl (lv_at hl 2 rfl) ?_
            refine lv_iload_n hx hb dX0_weighSets_73 rfl (lv_at hl 3 rfl) ?_
            refine lv_iadd hx hb dX0_weighSets_74 ?_
            refine gVMv (wr := [(q_o_explained, gI Cs 10 v_o_explained)]) (As := [.int (x2 + x3)]) (rest := []) ⟨hx, hb, hml, hown, htb⟩ hK hP hD hS hA hN [0, 2] [1] rfl (by decide) rfl (by decide) (by decide) (c_X0_weigh l D Cs q_o q_o_from q_o_to q_o_lengths q_o_earliest q_o_latest q_o_years q_o_explained q_o_together H.size v_o_known w_o_fewest w_o_origins w_o_always w_o_sometimes w_o_leastSets (upd w_o_together (x2 + x3).toNatClampNeg ((w_o_together x3.toNatClampNeg) ||| (v_o_explained x1.toNatClampNeg))) v_o_towns v_o_roads (x2 + x3) h) (cwV 1 htb (TB_v tb_218 tb_219 tb_220 tb_26 (TB_self tb_221)) rfl rfl rfl z_X0_weigh ⟨Nat.le_of_ble_eq_true rfl, Nat.le_of_ble_eq_true rfl⟩) 0 rfl rfl rfl rfl hl.1 rfl (Nat.le_of_ble_eq_true rfl) ⟨Nat.le_of_ble_eq_true rfl, Nat.le_of_ble_eq_true rfl⟩ dX0_weighSets_75 (fun u H locs h hP hD hS => ?_)
            obtain ⟨m_7, m_8, m_9, m_10, m_11⟩ := u
            try dsimp only at h
            have hP : va_P D vwCl [(q_o_explained, gI Cs 10 v_o_explained), (q_o, .inr (0, [.ref q_o_from, .ref q_o_to, .ref q_o_lengths, .ref q_o_earliest, .ref q_o_latest, .ref q_o_years, .ref q_o_explained, .ref q_o_together, .int v_o_towns, .int v_o_roads, .int v_o_known, .int m_7, .int m_8, .int m_9, .int m_10, .int m_11])), (q_o_together, gI Cs 1024 (upd w_o_together (x2 + x3).toNatClampNeg ((w_o_together x3.toNatClampNeg) ||| (v_o_explained x1.toNatClampNeg))))] H := hP
            have hD : va_D A [(q_o_explained, gI Cs 10 v_o_explained), (q_o, .inr (0, [.ref q_o_from, .ref q_o_to, .ref q_o_lengths, .ref q_o_earliest, .ref q_o_latest, .ref q_o_years, .ref q_o_explained, .ref q_o_together, .int v_o_towns, .int v_o_roads, .int v_o_known, .int m_7, .int m_8, .int m_9, .int m_10, .int m_11])), (q_o_together, gI Cs 1024 (upd w_o_together (x2 + x3).toNatClampNeg ((w_o_together x3.toNatClampNeg) ||| (v_o_explained x1.toNatClampNeg))))] := hD
            obtain ⟨x3_12, ex3_12⟩ : ∃ y : Int32, y = x3 + (1 : Int32) := ⟨_, rfl⟩
            have h := h _ ex3_12
            refine lv_iinc (v := x3_12) (lv' := [(3, .int x3_12), (0, .ref q_o), (1, .int x1), (2, .int x2)]) hx hb dX0_weighSets_78 hl (k := 3) rfl (by rw [ex3_12]; rfl) (by decide) rfl (fun ls hl => ?_)
            refine lv_goto (tgt := 45) hx hb dX0_weighSets_81 (by decide) ?_
            exact ih45 _ _ _ m_7 m_8 m_9 m_10 m_11 (upd w_o_together (x2 + x3).toNatClampNeg ((w_o_together x3.toNatClampNeg) ||| (v_o_explained x1.toNatClampNeg))) x1 x2 x3_12 (hP.sub [1, 0, 2] rfl) (hD.sub [1, 0, 2] (by decide) rfl) hS (lv_sub hl [1, 2, 3, 0] rfl) h
      intro H locs ls w_o_fewest w_o_origins w_o_always w_o_sometimes w_o_leastSets w_o_together x1 hP hD hS hl h
      replace h : P_X0_weighSets_b24 v_o_towns v_o_known v_o_fewest v_o_origins v_o_always v_o_sometimes v_o_leastSets v_o_explained v_o_together post (P_X0_weighSets_l24 v_o_towns v_o_known v_o_fewest v_o_origins v_o_always v_o_sometimes v_o_leastSets v_o_explained v_o_together post n24) w_o_fewest w_o_origins w_o_always w_o_sometimes w_o_leastSets w_o_together x1 := h
      unfold P_X0_weighSets_b24 at h
      refine lv_iload_n hx hb dX0_weighSets_24 rfl (lv_at hl 1 rfl) ?_
      refine lv_aload_n hx hb dX0_weighSets_25 rfl (lv_at hl 0 rfl) ?_
      refine va_get (D := D) (ci := 0) (v := .int v_o_towns) (C := RX0) (T := TX0) (N := 16) hx hb htb inT_X0 hown hK hP 0 rfl rfl 8 (by decide) (htb _ tb_178) (fun _ h9 => h9) rfl dX0_weighSets_26 ?_
      refine lv_icmp_ge (tgt := 90) hx hb dX0_weighSets_29 (by decide) (fun c_13 => ?_) (fun c_13 => ?_)
      · have h := h.1 c_13
        exact B90 _ _ _ w_o_fewest w_o_origins w_o_always w_o_sometimes w_o_leastSets w_o_together hP hD hS (lv_sub hl [0] rfl) h
      · have h := h.2 c_13
        refine lv_aload_n hx hb dX0_weighSets_32 rfl (lv_at hl 0 rfl) ?_
        refine va_get (D := D) (ci := 0) (v := .int v_o_known) (C := RX0) (T := TX0) (N := 16) hx hb htb inT_X0 hown hK hP 0 rfl rfl 10 (by decide) (htb _ tb_192) (fun _ h9 => h9) rfl dX0_weighSets_33 ?_
        refine lv_if_eq (tgt := 90) hx hb dX0_weighSets_36 (by decide) (fun c_14 => ?_) (fun c_14 => ?_)
        · have h := h.1 c_14
          exact B90 _ _ _ w_o_fewest w_o_origins w_o_always w_o_sometimes w_o_leastSets w_o_together hP hD hS (lv_sub hl [0] rfl) h
        · have h := h.2 c_14
          refine lv_iconst (v := (1 : Int32)) hx hb dX0_weighSets_39 (by decide) ?_
          refine lv_iload_n hx hb dX0_weighSets_40 rfl (lv_at hl 1 rfl) ?_
          refine lv_ishl hx hb dX0_weighSets_41 ?_
          refine lv_topi (fun x2_15 ex2_15 => ?_)
          have h := h _ ex2_15
          refine lv_istore_n (lv' := [(2, .int x2_15), (0, .ref q_o), (1, .int x1)]) hx hb dX0_weighSets_42 rfl hl (by decide) rfl (fun ls hl => ?_)
          refine lv_iconst (v := (0 : Int32)) hx hb dX0_weighSets_43 (by decide) ?_
          refine lv_istore_n (lv' := [(3, .int (0 : Int32)), (2, .int x2_15), (0, .ref q_o), (1, .int x1)]) hx hb dX0_weighSets_44 rfl hl (by decide) rfl (fun ls hl => ?_)
          obtain ⟨n, h⟩ := h
          exact L45 n _ _ _ w_o_fewest w_o_origins w_o_always w_o_sometimes w_o_leastSets w_o_together x1 x2_15 (0 : Int32) hP hD hS (lv_sub hl [2, 3, 1, 0] rfl) h
  unfold P_X0_weighSets at h
  refine lv_aload_n hx hb dX0_weighSets_0 rfl (lv_at hl 0 rfl) ?_
  refine lv_aload_n hx hb dX0_weighSets_1 rfl (lv_at hl 0 rfl) ?_
  refine va_get (D := D) (ci := 0) (v := .int v_o_towns) (C := RX0) (T := TX0) (N := 16) hx hb htb inT_X0 hown hK hP 0 rfl rfl 8 (by decide) (htb _ tb_178) (fun _ h9 => h9) rfl dX0_weighSets_2 ?_
  refine lv_iconst (v := (1 : Int32)) hx hb dX0_weighSets_5 (by decide) ?_
  refine lv_iadd hx hb dX0_weighSets_6 ?_
  refine lv_topi (fun f_fewest_16 ef_fewest_16 => ?_)
  have h := h _ ef_fewest_16
  refine va_put (D := D) (ci := 0) (v := .int f_fewest_16) (ty := .int) (C := RX0) (T := TX0) (N := 16) hx hb htb inT_X0 tyX0 tyX0_ok nmX0 hown hK hP hD hS 0 rfl rfl 11 (by decide) (htb _ tb_179) (fun _ h9 => h9) rfl (tyX0_ok 11 (by decide)) rfl rfl (Nat.le_of_ble_eq_true rfl) dX0_weighSets_7 (fun H locs hP hD hS => ?_)
  have hP : va_P D vwCl [(q_o, .inr (0, [.ref q_o_from, .ref q_o_to, .ref q_o_lengths, .ref q_o_earliest, .ref q_o_latest, .ref q_o_years, .ref q_o_explained, .ref q_o_together, .int v_o_towns, .int v_o_roads, .int v_o_known, .int f_fewest_16, .int v_o_origins, .int v_o_always, .int v_o_sometimes, .int v_o_leastSets])), (q_o_explained, gI Cs 10 v_o_explained), (q_o_together, gI Cs 1024 v_o_together)] H := hP
  have hD : va_D A [(q_o, .inr (0, [.ref q_o_from, .ref q_o_to, .ref q_o_lengths, .ref q_o_earliest, .ref q_o_latest, .ref q_o_years, .ref q_o_explained, .ref q_o_together, .int v_o_towns, .int v_o_roads, .int v_o_known, .int f_fewest_16, .int v_o_origins, .int v_o_always, .int v_o_sometimes, .int v_o_leastSets])), (q_o_explained, gI Cs 10 v_o_explained), (q_o_together, gI Cs 1024 v_o_together)] := hD
  refine lv_aload_n hx hb dX0_weighSets_10 rfl (lv_at hl 0 rfl) ?_
  refine va_get (D := D) (ci := 0) (v := .ref q_o_together) (C := RX0) (T := TX0) (N := 16) hx hb htb inT_X0 hown hK hP 0 rfl rfl 7 (by decide) (htb _ tb_72) (fun _ h9 => h9) rfl dX0_weighSets_11 ?_
  refine lv_iconst (v := (0 : Int32)) hx hb dX0_weighSets_14 (by decide) ?_
  refine lv_iconst (v := (0 : Int32)) hx hb dX0_weighSets_15 (by decide) ?_
  refine va_iast hx hb hK hP hD hS 2 0 rfl rfl (by unfold vp_in; decide) dX0_weighSets_16 (fun H locs hP hD hS => ?_)
  have hP : va_P D vwCl [(q_o, .inr (0, [.ref q_o_from, .ref q_o_to, .ref q_o_lengths, .ref q_o_earliest, .ref q_o_latest, .ref q_o_years, .ref q_o_explained, .ref q_o_together, .int v_o_towns, .int v_o_roads, .int v_o_known, .int f_fewest_16, .int v_o_origins, .int v_o_always, .int v_o_sometimes, .int v_o_leastSets])), (q_o_explained, gI Cs 10 v_o_explained), (q_o_together, gI Cs 1024 (upd v_o_together (0 : Int32).toNatClampNeg (0 : Int32)))] H := hP
  have hD : va_D A [(q_o, .inr (0, [.ref q_o_from, .ref q_o_to, .ref q_o_lengths, .ref q_o_earliest, .ref q_o_latest, .ref q_o_years, .ref q_o_explained, .ref q_o_together, .int v_o_towns, .int v_o_roads, .int v_o_known, .int f_fewest_16, .int v_o_origins, .int v_o_always, .int v_o_sometimes, .int v_o_leastSets])), (q_o_explained, gI Cs 10 v_o_explained), (q_o_together, gI Cs 1024 (upd v_o_together (0 : Int32).toNatClampNeg (0 : Int32)))] := hD
  refine lv_aload_n hx hb dX0_weighSets_17 rfl (lv_at hl 0 rfl) ?_
  refine lv_iconst (v := (0 : Int32)) hx hb dX0_weighSets_18 (by decide) ?_
  refine gVMv (wr := [(q_o_explained, gI Cs 10 v_o_explained)]) (As := [.int (0 : Int32)]) (rest := []) ⟨hx, hb, hml, hown, htb⟩ hK hP hD hS hA hN [0, 2] [1] rfl (by decide) rfl (by decide) (by decide) (c_X0_weigh l D Cs q_o q_o_from q_o_to q_o_lengths q_o_earliest q_o_latest q_o_years q_o_explained q_o_together H.size v_o_known f_fewest_16 v_o_origins v_o_always v_o_sometimes v_o_leastSets (upd v_o_together (0 : Int32).toNatClampNeg (0 : Int32)) v_o_towns v_o_roads (0 : Int32) h) (cwV 1 htb (TB_v tb_218 tb_219 tb_220 tb_26 (TB_self tb_221)) rfl rfl rfl z_X0_weigh ⟨Nat.le_of_ble_eq_true rfl, Nat.le_of_ble_eq_true rfl⟩) 0 rfl rfl rfl rfl hl.1 rfl (Nat.le_of_ble_eq_true rfl) ⟨Nat.le_of_ble_eq_true rfl, Nat.le_of_ble_eq_true rfl⟩ dX0_weighSets_19 (fun u H locs h hP hD hS => ?_)
  obtain ⟨m_18, m_19, m_20, m_21, m_22⟩ := u
  try dsimp only at h
  have hP : va_P D vwCl [(q_o_explained, gI Cs 10 v_o_explained), (q_o, .inr (0, [.ref q_o_from, .ref q_o_to, .ref q_o_lengths, .ref q_o_earliest, .ref q_o_latest, .ref q_o_years, .ref q_o_explained, .ref q_o_together, .int v_o_towns, .int v_o_roads, .int v_o_known, .int m_18, .int m_19, .int m_20, .int m_21, .int m_22])), (q_o_together, gI Cs 1024 (upd v_o_together (0 : Int32).toNatClampNeg (0 : Int32)))] H := hP
  have hD : va_D A [(q_o_explained, gI Cs 10 v_o_explained), (q_o, .inr (0, [.ref q_o_from, .ref q_o_to, .ref q_o_lengths, .ref q_o_earliest, .ref q_o_latest, .ref q_o_years, .ref q_o_explained, .ref q_o_together, .int v_o_towns, .int v_o_roads, .int v_o_known, .int m_18, .int m_19, .int m_20, .int m_21, .int m_22])), (q_o_together, gI Cs 1024 (upd v_o_together (0 : Int32).toNatClampNeg (0 : Int32)))] := hD
  refine lv_iconst (v := (0 : Int32)) hx hb dX0_weighSets_22 (by decide) ?_
  refine lv_istore_n (lv' := [(1, .int (0 : Int32)), (0, .ref q_o)]) hx hb dX0_weighSets_23 rfl hl (by decide) rfl (fun ls hl => ?_)
  obtain ⟨n, h⟩ := h
  exact L24 n _ _ _ m_18 m_19 m_20 m_21 m_22 (upd v_o_together (0 : Int32).toNatClampNeg (0 : Int32)) (0 : Int32) (hP.sub [1, 0, 2] rfl) (hD.sub [1, 0, 2] (by decide) rfl) hS (lv_sub hl [1, 0] rfl) h
set_option maxHeartbeats 4000000 in
set_option maxRecDepth 100000 in
theorem c_X0_study (l : Launch) (D : va_G) (Cs : Nat → ClassId) (q_o : Nat) (q_a1 : Nat) (q_o_from : Nat) (q_o_to : Nat) (q_o_lengths : Nat) (q_o_earliest : Nat) (q_o_latest : Nat) (q_o_years : Nat) (q_o_explained : Nat) (q_o_together : Nat) (q_a1_cells : Nat) (sz : Nat) (b_o : BH) (v_a1_cells : (Nat → Int32)) (x2 : Int32) {post : Int32 → BH → Prop} (h : P_X0_study b_o v_a1_cells x2 post) : Met l yX0_study wsX0_study ({ frames := 3, cells := 0, slots := 0, locals := 70 } : Room) (va_Pc [.ref q_o, .ref q_a1, .int x2] (gM D Cs [(q_o, .inr (0, [.ref q_o_from, .ref q_o_to, .ref q_o_lengths, .ref q_o_earliest, .ref q_o_latest, .ref q_o_years, .ref q_o_explained, .ref q_o_together, .int b_o.1, .int b_o.2.1, .int b_o.2.2.1, .int b_o.2.2.2.1, .int b_o.2.2.2.2.1, .int b_o.2.2.2.2.2.1, .int b_o.2.2.2.2.2.2.1, .int b_o.2.2.2.2.2.2.2.1])), (q_o_from, gI Cs 15 b_o.2.2.2.2.2.2.2.2.1), (q_o_to, gI Cs 15 b_o.2.2.2.2.2.2.2.2.2.1), (q_o_lengths, gI Cs 15 b_o.2.2.2.2.2.2.2.2.2.2.1), (q_o_earliest, gI Cs 10 b_o.2.2.2.2.2.2.2.2.2.2.2.1), (q_o_latest, gI Cs 10 b_o.2.2.2.2.2.2.2.2.2.2.2.2.1), (q_o_years, gI Cs 10 b_o.2.2.2.2.2.2.2.2.2.2.2.2.2.1), (q_o_explained, gI Cs 10 b_o.2.2.2.2.2.2.2.2.2.2.2.2.2.2.1), (q_o_together, gI Cs 1024 b_o.2.2.2.2.2.2.2.2.2.2.2.2.2.2.2), (q_a1, .inr (1, [.ref q_a1_cells])), (q_a1_cells, gI Cs 221 v_a1_cells)] sz)) (va_Qi (fun (r : Int32) (u : BH) => post r u) (gB D (va_A [(q_o, .inr (0, [.ref q_o_from, .ref q_o_to, .ref q_o_lengths, .ref q_o_earliest, .ref q_o_latest, .ref q_o_years, .ref q_o_explained, .ref q_o_together, .int b_o.1, .int b_o.2.1, .int b_o.2.2.1, .int b_o.2.2.2.1, .int b_o.2.2.2.2.1, .int b_o.2.2.2.2.2.1, .int b_o.2.2.2.2.2.2.1, .int b_o.2.2.2.2.2.2.2.1])), (q_o_from, gI Cs 15 b_o.2.2.2.2.2.2.2.2.1), (q_o_to, gI Cs 15 b_o.2.2.2.2.2.2.2.2.2.1), (q_o_lengths, gI Cs 15 b_o.2.2.2.2.2.2.2.2.2.2.1), (q_o_earliest, gI Cs 10 b_o.2.2.2.2.2.2.2.2.2.2.2.1), (q_o_latest, gI Cs 10 b_o.2.2.2.2.2.2.2.2.2.2.2.2.1), (q_o_years, gI Cs 10 b_o.2.2.2.2.2.2.2.2.2.2.2.2.2.1), (q_o_explained, gI Cs 10 b_o.2.2.2.2.2.2.2.2.2.2.2.2.2.2.1), (q_o_together, gI Cs 1024 b_o.2.2.2.2.2.2.2.2.2.2.2.2.2.2.2), (q_a1, .inr (1, [.ref q_a1_cells])), (q_a1_cells, gI Cs 221 v_a1_cells)] sz) (fun u : BH => [(q_o, .inr (0, [.ref q_o_from, .ref q_o_to, .ref q_o_lengths, .ref q_o_earliest, .ref q_o_latest, .ref q_o_years, .ref q_o_explained, .ref q_o_together, .int u.1, .int u.2.1, .int u.2.2.1, .int u.2.2.2.1, .int u.2.2.2.2.1, .int u.2.2.2.2.2.1, .int u.2.2.2.2.2.2.1, .int u.2.2.2.2.2.2.2.1])), (q_o_from, gI Cs 15 u.2.2.2.2.2.2.2.2.1), (q_o_to, gI Cs 15 u.2.2.2.2.2.2.2.2.2.1), (q_o_lengths, gI Cs 15 u.2.2.2.2.2.2.2.2.2.2.1), (q_o_earliest, gI Cs 10 u.2.2.2.2.2.2.2.2.2.2.2.1), (q_o_latest, gI Cs 10 u.2.2.2.2.2.2.2.2.2.2.2.2.1), (q_o_years, gI Cs 10 u.2.2.2.2.2.2.2.2.2.2.2.2.2.1), (q_o_explained, gI Cs 10 u.2.2.2.2.2.2.2.2.2.2.2.2.2.2.1), (q_o_together, gI Cs 1024 u.2.2.2.2.2.2.2.2.2.2.2.2.2.2.2), (q_a1, .inr (1, [.ref q_a1_cells])), (q_a1_cells, gI Cs 221 v_a1_cells)])) (va_A [(q_o, .inr (0, [.ref q_o_from, .ref q_o_to, .ref q_o_lengths, .ref q_o_earliest, .ref q_o_latest, .ref q_o_years, .ref q_o_explained, .ref q_o_together, .int b_o.1, .int b_o.2.1, .int b_o.2.2.1, .int b_o.2.2.2.1, .int b_o.2.2.2.2.1, .int b_o.2.2.2.2.2.1, .int b_o.2.2.2.2.2.2.1, .int b_o.2.2.2.2.2.2.2.1])), (q_o_from, gI Cs 15 b_o.2.2.2.2.2.2.2.2.1), (q_o_to, gI Cs 15 b_o.2.2.2.2.2.2.2.2.2.1), (q_o_lengths, gI Cs 15 b_o.2.2.2.2.2.2.2.2.2.2.1), (q_o_earliest, gI Cs 10 b_o.2.2.2.2.2.2.2.2.2.2.2.1), (q_o_latest, gI Cs 10 b_o.2.2.2.2.2.2.2.2.2.2.2.2.1), (q_o_years, gI Cs 10 b_o.2.2.2.2.2.2.2.2.2.2.2.2.2.1), (q_o_explained, gI Cs 10 b_o.2.2.2.2.2.2.2.2.2.2.2.2.2.2.1), (q_o_together, gI Cs 1024 b_o.2.2.2.2.2.2.2.2.2.2.2.2.2.2.2), (q_a1, .inr (1, [.ref q_a1_cells])), (q_a1_cells, gI Cs 221 v_a1_cells)] sz)) 0 0 (va_A [(q_o, .inr (0, [.ref q_o_from, .ref q_o_to, .ref q_o_lengths, .ref q_o_earliest, .ref q_o_latest, .ref q_o_years, .ref q_o_explained, .ref q_o_together, .int b_o.1, .int b_o.2.1, .int b_o.2.2.1, .int b_o.2.2.2.1, .int b_o.2.2.2.2.1, .int b_o.2.2.2.2.2.1, .int b_o.2.2.2.2.2.2.1, .int b_o.2.2.2.2.2.2.2.1])), (q_o_from, gI Cs 15 b_o.2.2.2.2.2.2.2.2.1), (q_o_to, gI Cs 15 b_o.2.2.2.2.2.2.2.2.2.1), (q_o_lengths, gI Cs 15 b_o.2.2.2.2.2.2.2.2.2.2.1), (q_o_earliest, gI Cs 10 b_o.2.2.2.2.2.2.2.2.2.2.2.1), (q_o_latest, gI Cs 10 b_o.2.2.2.2.2.2.2.2.2.2.2.2.1), (q_o_years, gI Cs 10 b_o.2.2.2.2.2.2.2.2.2.2.2.2.2.1), (q_o_explained, gI Cs 10 b_o.2.2.2.2.2.2.2.2.2.2.2.2.2.2.1), (q_o_together, gI Cs 1024 b_o.2.2.2.2.2.2.2.2.2.2.2.2.2.2.2), (q_a1, .inr (1, [.ref q_a1_cells])), (q_a1_cells, gI Cs 221 v_a1_cells)] sz) := by
  refine Met.ofW (cc := cX0_study) (maxL := 3) (ret := (some .int)) (by decide) rfl ?_
  intro p e s m args below meth c s₁ B hml hv
  obtain ⟨ha, hsz, hP, hK, hD0, hN⟩ := hv
  have hx := B.exec
  have hb := B.bytes
  have hr := B.returns
  have hts := atoms_spec (ws := wsX0_study) B.pre
  have htb : ∀ w ∈ TB, w.before args s = true := fun w h9 => hts w (List.mem_cons_of_mem _ h9)
  have hown : s.vm.findClass RX0 = some m.cls := findClass_of_methodNamed B.named
  have hlocks := B.notSynchronized
  subst hsz
  have hD := hD0.self (sz := s.heap.size)
  generalize hAe : va_A [(q_o, .inr (0, [.ref q_o_from, .ref q_o_to, .ref q_o_lengths, .ref q_o_earliest, .ref q_o_latest, .ref q_o_years, .ref q_o_explained, .ref q_o_together, .int b_o.1, .int b_o.2.1, .int b_o.2.2.1, .int b_o.2.2.2.1, .int b_o.2.2.2.2.1, .int b_o.2.2.2.2.2.1, .int b_o.2.2.2.2.2.2.1, .int b_o.2.2.2.2.2.2.2.1])), (q_o_from, gI Cs 15 b_o.2.2.2.2.2.2.2.2.1), (q_o_to, gI Cs 15 b_o.2.2.2.2.2.2.2.2.2.1), (q_o_lengths, gI Cs 15 b_o.2.2.2.2.2.2.2.2.2.2.1), (q_o_earliest, gI Cs 10 b_o.2.2.2.2.2.2.2.2.2.2.2.1), (q_o_latest, gI Cs 10 b_o.2.2.2.2.2.2.2.2.2.2.2.2.1), (q_o_years, gI Cs 10 b_o.2.2.2.2.2.2.2.2.2.2.2.2.2.1), (q_o_explained, gI Cs 10 b_o.2.2.2.2.2.2.2.2.2.2.2.2.2.2.1), (q_o_together, gI Cs 1024 b_o.2.2.2.2.2.2.2.2.2.2.2.2.2.2.2), (q_a1, .inr (1, [.ref q_a1_cells])), (q_a1_cells, gI Cs 221 v_a1_cells)] s.heap.size = A at hD ⊢
  have hA : ∀ q : Nat, s.heap.size ≤ q → A q := fun q h9 => by rw [← hAe]; exact Or.inr h9
  obtain ⟨H, hH⟩ : ∃ z : Heap, z = s.heap := ⟨_, rfl⟩
  have hS : va_S A s.heap H [] := by rw [hH]; exact va_S.rf
  have hP : va_P D vwCl [(q_o, .inr (0, [.ref q_o_from, .ref q_o_to, .ref q_o_lengths, .ref q_o_earliest, .ref q_o_latest, .ref q_o_years, .ref q_o_explained, .ref q_o_together, .int b_o.1, .int b_o.2.1, .int b_o.2.2.1, .int b_o.2.2.2.1, .int b_o.2.2.2.2.1, .int b_o.2.2.2.2.2.1, .int b_o.2.2.2.2.2.2.1, .int b_o.2.2.2.2.2.2.2.1])), (q_o_from, gI Cs 15 b_o.2.2.2.2.2.2.2.2.1), (q_o_to, gI Cs 15 b_o.2.2.2.2.2.2.2.2.2.1), (q_o_lengths, gI Cs 15 b_o.2.2.2.2.2.2.2.2.2.2.1), (q_o_earliest, gI Cs 10 b_o.2.2.2.2.2.2.2.2.2.2.2.1), (q_o_latest, gI Cs 10 b_o.2.2.2.2.2.2.2.2.2.2.2.2.1), (q_o_years, gI Cs 10 b_o.2.2.2.2.2.2.2.2.2.2.2.2.2.1), (q_o_explained, gI Cs 10 b_o.2.2.2.2.2.2.2.2.2.2.2.2.2.2.1), (q_o_together, gI Cs 1024 b_o.2.2.2.2.2.2.2.2.2.2.2.2.2.2.2), (q_a1, .inr (1, [.ref q_a1_cells])), (q_a1_cells, gI Cs 221 v_a1_cells)] H := by rw [hH]; exact hP
  generalize hQ : MQ below _ args s _ _ _ = Q
  show W p l e ({ frames := 3, cells := 0, slots := 0, locals := 70 } : Room) s m args below meth c s.heap [] 0 0 Q (entryFrame m args 3)
  have hent : entryFrame m args 3 = F0 m 0 ((lg_sl ([.ref q_o, .ref q_a1, .int x2]) ++ List.replicate (3 - (lg_sl ([.ref q_o, .ref q_a1, .int x2])).length) Slot.unset).toArray) [] := by rw [ha]; exact lg_entry_eq m ([.ref q_o, .ref q_a1, .int x2]) 3
  rw [hent]; clear hent
  rw [← hH]
  have hl := lv_entry ([.ref q_o, .ref q_a1, .int x2]) (n := 3) (Nat.le_of_ble_eq_true rfl)
  generalize (lg_sl ([.ref q_o, .ref q_a1, .int x2]) ++ List.replicate (3 - (lg_sl ([.ref q_o, .ref q_a1, .int x2])).length) Slot.unset).toArray = ls at hl ⊢
  have hl : lv_has ls 3 [(0, .ref q_o), (1, .ref q_a1), (2, .int x2)] := hl
  have B45 : ∀ (H : Heap) (locs : List Loc) (ls : Array Slot) (d_o : BH), va_P D vwCl [(q_o, .inr (0, [.ref q_o_from, .ref q_o_to, .ref q_o_lengths, .ref q_o_earliest, .ref q_o_latest, .ref q_o_years, .ref q_o_explained, .ref q_o_together, .int d_o.1, .int d_o.2.1, .int d_o.2.2.1, .int d_o.2.2.2.1, .int d_o.2.2.2.2.1, .int d_o.2.2.2.2.2.1, .int d_o.2.2.2.2.2.2.1, .int d_o.2.2.2.2.2.2.2.1])), (q_o_from, gI Cs 15 d_o.2.2.2.2.2.2.2.2.1), (q_o_to, gI Cs 15 d_o.2.2.2.2.2.2.2.2.2.1), (q_o_lengths, gI Cs 15 d_o.2.2.2.2.2.2.2.2.2.2.1), (q_o_earliest, gI Cs 10 d_o.2.2.2.2.2.2.2.2.2.2.2.1), (q_o_latest, gI Cs 10 d_o.2.2.2.2.2.2.2.2.2.2.2.2.1), (q_o_years, gI Cs 10 d_o.2.2.2.2.2.2.2.2.2.2.2.2.2.1), (q_o_explained, gI Cs 10 d_o.2.2.2.2.2.2.2.2.2.2.2.2.2.2.1), (q_o_together, gI Cs 1024 d_o.2.2.2.2.2.2.2.2.2.2.2.2.2.2.2), (q_a1, .inr (1, [.ref q_a1_cells])), (q_a1_cells, gI Cs 221 v_a1_cells)] H → va_D A [(q_o, .inr (0, [.ref q_o_from, .ref q_o_to, .ref q_o_lengths, .ref q_o_earliest, .ref q_o_latest, .ref q_o_years, .ref q_o_explained, .ref q_o_together, .int d_o.1, .int d_o.2.1, .int d_o.2.2.1, .int d_o.2.2.2.1, .int d_o.2.2.2.2.1, .int d_o.2.2.2.2.2.1, .int d_o.2.2.2.2.2.2.1, .int d_o.2.2.2.2.2.2.2.1])), (q_o_from, gI Cs 15 d_o.2.2.2.2.2.2.2.2.1), (q_o_to, gI Cs 15 d_o.2.2.2.2.2.2.2.2.2.1), (q_o_lengths, gI Cs 15 d_o.2.2.2.2.2.2.2.2.2.2.1), (q_o_earliest, gI Cs 10 d_o.2.2.2.2.2.2.2.2.2.2.2.1), (q_o_latest, gI Cs 10 d_o.2.2.2.2.2.2.2.2.2.2.2.2.1), (q_o_years, gI Cs 10 d_o.2.2.2.2.2.2.2.2.2.2.2.2.2.1), (q_o_explained, gI Cs 10 d_o.2.2.2.2.2.2.2.2.2.2.2.2.2.2.1), (q_o_together, gI Cs 1024 d_o.2.2.2.2.2.2.2.2.2.2.2.2.2.2.2), (q_a1, .inr (1, [.ref q_a1_cells])), (q_a1_cells, gI Cs 221 v_a1_cells)] → va_S A s.heap H locs → lv_has ls 3 [(0, .ref q_o), (1, .ref q_a1), (2, .int x2)] → P_X0_study_b45 b_o v_a1_cells x2 post d_o → W p l e ({ frames := 3, cells := 0, slots := 0, locals := 70 } : Room) s m args below meth c H locs 0 0 Q (F0 m 45 ls []) := by
    intro H locs ls d_o hP hD hS hl h
    unfold P_X0_study_b45 at h
    refine lv_aload_n hx hb dX0_study_45 rfl (lv_at hl 0 rfl) ?_
    refine lv_aload_n hx hb dX0_study_46 rfl (lv_at hl 0 rfl) ?_
    refine va_get (D := D) (ci := 0) (v := .int d_o.2.2.2.2.1) (C := RX0) (T := TX0) (N := 16) hx hb htb inT_X0 hown hK hP 0 rfl rfl 12 (by decide) (htb _ tb_180) (fun _ h9 => h9) rfl dX0_study_47 ?_
    refine gVMv (wr := [(q_o_from, gI Cs 15 d_o.2.2.2.2.2.2.2.2.1), (q_o_to, gI Cs 15 d_o.2.2.2.2.2.2.2.2.2.1), (q_o_lengths, gI Cs 15 d_o.2.2.2.2.2.2.2.2.2.2.1), (q_o_latest, gI Cs 10 d_o.2.2.2.2.2.2.2.2.2.2.2.2.1), (q_o_explained, gI Cs 10 d_o.2.2.2.2.2.2.2.2.2.2.2.2.2.2.1), (q_o_together, gI Cs 1024 d_o.2.2.2.2.2.2.2.2.2.2.2.2.2.2.2), (q_a1, .inr (1, [.ref q_a1_cells])), (q_a1_cells, gI Cs 221 v_a1_cells)]) (As := [.int d_o.2.2.2.2.1]) (rest := []) ⟨hx, hb, hml, hown, htb⟩ hK hP hD hS hA hN [0, 4, 6] [1, 2, 3, 5, 7, 8, 9, 10] rfl (by decide) rfl (by decide) (by decide) (c_X0_inventIn l D Cs q_o q_o_from q_o_to q_o_lengths q_o_earliest q_o_latest q_o_years q_o_explained q_o_together H.size d_o.1 d_o.2.2.2.2.2.2.2.2.2.2.2.1 d_o.2.2.2.2.2.2.2.2.2.2.2.2.2.1 d_o.2.1 d_o.2.2.1 d_o.2.2.2.1 d_o.2.2.2.2.1 d_o.2.2.2.2.2.1 d_o.2.2.2.2.2.2.1 d_o.2.2.2.2.2.2.2.1 d_o.2.2.2.2.1 h) (cwV 1 htb (TB_v tb_198 tb_199 tb_200 tb_26 (TB_self tb_201)) rfl rfl rfl z_X0_inventIn ⟨Nat.le_of_ble_eq_true rfl, Nat.le_of_ble_eq_true rfl⟩) 0 rfl rfl rfl rfl hl.1 rfl (Nat.le_of_ble_eq_true rfl) ⟨Nat.le_of_ble_eq_true rfl, Nat.le_of_ble_eq_true rfl⟩ dX0_study_50 (fun m_2 H locs h hP hD hS => ?_)
    have hP : va_P D vwCl [(q_o_from, gI Cs 15 d_o.2.2.2.2.2.2.2.2.1), (q_o_to, gI Cs 15 d_o.2.2.2.2.2.2.2.2.2.1), (q_o_lengths, gI Cs 15 d_o.2.2.2.2.2.2.2.2.2.2.1), (q_o_latest, gI Cs 10 d_o.2.2.2.2.2.2.2.2.2.2.2.2.1), (q_o_explained, gI Cs 10 d_o.2.2.2.2.2.2.2.2.2.2.2.2.2.2.1), (q_o_together, gI Cs 1024 d_o.2.2.2.2.2.2.2.2.2.2.2.2.2.2.2), (q_a1, .inr (1, [.ref q_a1_cells])), (q_a1_cells, gI Cs 221 v_a1_cells), (q_o, .inr (0, [.ref q_o_from, .ref q_o_to, .ref q_o_lengths, .ref q_o_earliest, .ref q_o_latest, .ref q_o_years, .ref q_o_explained, .ref q_o_together, .int d_o.1, .int d_o.2.1, .int d_o.2.2.1, .int d_o.2.2.2.1, .int d_o.2.2.2.2.1, .int d_o.2.2.2.2.2.1, .int d_o.2.2.2.2.2.2.1, .int d_o.2.2.2.2.2.2.2.1])), (q_o_earliest, gI Cs 10 d_o.2.2.2.2.2.2.2.2.2.2.2.1), (q_o_years, gI Cs 10 m_2)] H := hP
    have hD : va_D A [(q_o_from, gI Cs 15 d_o.2.2.2.2.2.2.2.2.1), (q_o_to, gI Cs 15 d_o.2.2.2.2.2.2.2.2.2.1), (q_o_lengths, gI Cs 15 d_o.2.2.2.2.2.2.2.2.2.2.1), (q_o_latest, gI Cs 10 d_o.2.2.2.2.2.2.2.2.2.2.2.2.1), (q_o_explained, gI Cs 10 d_o.2.2.2.2.2.2.2.2.2.2.2.2.2.2.1), (q_o_together, gI Cs 1024 d_o.2.2.2.2.2.2.2.2.2.2.2.2.2.2.2), (q_a1, .inr (1, [.ref q_a1_cells])), (q_a1_cells, gI Cs 221 v_a1_cells), (q_o, .inr (0, [.ref q_o_from, .ref q_o_to, .ref q_o_lengths, .ref q_o_earliest, .ref q_o_latest, .ref q_o_years, .ref q_o_explained, .ref q_o_together, .int d_o.1, .int d_o.2.1, .int d_o.2.2.1, .int d_o.2.2.2.1, .int d_o.2.2.2.2.1, .int d_o.2.2.2.2.2.1, .int d_o.2.2.2.2.2.2.1, .int d_o.2.2.2.2.2.2.2.1])), (q_o_earliest, gI Cs 10 d_o.2.2.2.2.2.2.2.2.2.2.2.1), (q_o_years, gI Cs 10 m_2)] := hD
    refine lv_aload_n hx hb dX0_study_53 rfl (lv_at hl 0 rfl) ?_
    refine gVMv (wr := [(q_o_latest, gI Cs 10 d_o.2.2.2.2.2.2.2.2.2.2.2.2.1), (q_o_explained, gI Cs 10 d_o.2.2.2.2.2.2.2.2.2.2.2.2.2.2.1), (q_o_together, gI Cs 1024 d_o.2.2.2.2.2.2.2.2.2.2.2.2.2.2.2), (q_a1, .inr (1, [.ref q_a1_cells])), (q_a1_cells, gI Cs 221 v_a1_cells)]) (As := []) (rest := []) ⟨hx, hb, hml, hown, htb⟩ hK hP hD hS hA hN [8, 0, 1, 2, 9, 10] [3, 4, 5, 6, 7] rfl (by decide) rfl (by decide) (by decide) (c_X0_spread l D Cs q_o q_o_from q_o_to q_o_lengths q_o_earliest q_o_latest q_o_years q_o_explained q_o_together H.size d_o.1 d_o.2.1 d_o.2.2.2.2.2.2.2.2.1 d_o.2.2.2.2.2.2.2.2.2.1 d_o.2.2.2.2.2.2.2.2.2.2.1 d_o.2.2.2.2.2.2.2.2.2.2.2.1 m_2 d_o.2.2.1 d_o.2.2.2.1 d_o.2.2.2.2.1 d_o.2.2.2.2.2.1 d_o.2.2.2.2.2.2.1 d_o.2.2.2.2.2.2.2.1 h) (cwV 0 htb (TB_v tb_202 tb_203 tb_204 tb_26 (TB_self tb_205)) rfl rfl rfl z_X0_spread ⟨Nat.le_of_ble_eq_true rfl, Nat.le_of_ble_eq_true rfl⟩) 8 rfl rfl rfl rfl hl.1 rfl (Nat.le_of_ble_eq_true rfl) ⟨Nat.le_of_ble_eq_true rfl, Nat.le_of_ble_eq_true rfl⟩ dX0_study_54 (fun m_4 H locs h hP hD hS => ?_)
    have hP : va_P D vwCl [(q_o_latest, gI Cs 10 d_o.2.2.2.2.2.2.2.2.2.2.2.2.1), (q_o_explained, gI Cs 10 d_o.2.2.2.2.2.2.2.2.2.2.2.2.2.2.1), (q_o_together, gI Cs 1024 d_o.2.2.2.2.2.2.2.2.2.2.2.2.2.2.2), (q_a1, .inr (1, [.ref q_a1_cells])), (q_a1_cells, gI Cs 221 v_a1_cells), (q_o, .inr (0, [.ref q_o_from, .ref q_o_to, .ref q_o_lengths, .ref q_o_earliest, .ref q_o_latest, .ref q_o_years, .ref q_o_explained, .ref q_o_together, .int d_o.1, .int d_o.2.1, .int d_o.2.2.1, .int d_o.2.2.2.1, .int d_o.2.2.2.2.1, .int d_o.2.2.2.2.2.1, .int d_o.2.2.2.2.2.2.1, .int d_o.2.2.2.2.2.2.2.1])), (q_o_from, gI Cs 15 d_o.2.2.2.2.2.2.2.2.1), (q_o_to, gI Cs 15 d_o.2.2.2.2.2.2.2.2.2.1), (q_o_lengths, gI Cs 15 d_o.2.2.2.2.2.2.2.2.2.2.1), (q_o_earliest, gI Cs 10 d_o.2.2.2.2.2.2.2.2.2.2.2.1), (q_o_years, gI Cs 10 m_4)] H := hP
    have hD : va_D A [(q_o_latest, gI Cs 10 d_o.2.2.2.2.2.2.2.2.2.2.2.2.1), (q_o_explained, gI Cs 10 d_o.2.2.2.2.2.2.2.2.2.2.2.2.2.2.1), (q_o_together, gI Cs 1024 d_o.2.2.2.2.2.2.2.2.2.2.2.2.2.2.2), (q_a1, .inr (1, [.ref q_a1_cells])), (q_a1_cells, gI Cs 221 v_a1_cells), (q_o, .inr (0, [.ref q_o_from, .ref q_o_to, .ref q_o_lengths, .ref q_o_earliest, .ref q_o_latest, .ref q_o_years, .ref q_o_explained, .ref q_o_together, .int d_o.1, .int d_o.2.1, .int d_o.2.2.1, .int d_o.2.2.2.1, .int d_o.2.2.2.2.1, .int d_o.2.2.2.2.2.1, .int d_o.2.2.2.2.2.2.1, .int d_o.2.2.2.2.2.2.2.1])), (q_o_from, gI Cs 15 d_o.2.2.2.2.2.2.2.2.1), (q_o_to, gI Cs 15 d_o.2.2.2.2.2.2.2.2.2.1), (q_o_lengths, gI Cs 15 d_o.2.2.2.2.2.2.2.2.2.2.1), (q_o_earliest, gI Cs 10 d_o.2.2.2.2.2.2.2.2.2.2.2.1), (q_o_years, gI Cs 10 m_4)] := hD
    refine lv_aload_n hx hb dX0_study_57 rfl (lv_at hl 0 rfl) ?_
    refine va_get (D := D) (ci := 0) (v := .int d_o.2.2.2.1) (C := RX0) (T := TX0) (N := 16) hx hb htb inT_X0 hown hK hP 5 rfl rfl 11 (by decide) (htb _ tb_179) (fun _ h9 => h9) rfl dX0_study_58 ?_
    rw [← hQ]
    exact gRetI (u := (d_o.1, d_o.2.1, d_o.2.2.1, d_o.2.2.2.1, d_o.2.2.2.2.1, d_o.2.2.2.2.2.1, d_o.2.2.2.2.2.2.1, d_o.2.2.2.2.2.2.2.1, d_o.2.2.2.2.2.2.2.2.1, d_o.2.2.2.2.2.2.2.2.2.1, d_o.2.2.2.2.2.2.2.2.2.2.1, d_o.2.2.2.2.2.2.2.2.2.2.2.1, d_o.2.2.2.2.2.2.2.2.2.2.2.2.1, m_4, d_o.2.2.2.2.2.2.2.2.2.2.2.2.2.2.1, d_o.2.2.2.2.2.2.2.2.2.2.2.2.2.2.2)) hx hb hr rfl h (hP.sub [5, 6, 7, 8, 9, 0, 10, 1, 2, 3, 4] rfl) (hD.sub [5, 6, 7, 8, 9, 0, 10, 1, 2, 3, 4] (by decide) rfl) hS dX0_study_61 hlocks
  unfold P_X0_study at h
  refine lv_aload_n hx hb dX0_study_0 rfl (lv_at hl 0 rfl) ?_
  refine lv_aload_n hx hb dX0_study_1 rfl (lv_at hl 1 rfl) ?_
  refine gVR (As := []) (rest := [.ref q_o]) ⟨hx, hb, hml, hown, htb⟩ hK hP hN [9, 10] rfl (c_X1_townCount l D Cs q_a1 q_a1_cells v_a1_cells h) (cwV 0 htb (TB_v tb_181 tb_129 tb_130 tb_14 (TB_self tb_131)) rfl rfl rfl z_X1_townCount ⟨Nat.le_of_ble_eq_true rfl, Nat.le_of_ble_eq_true rfl⟩) 9 rfl rfl rfl rfl hl.1 rfl (Nat.le_of_ble_eq_true rfl) ⟨Nat.le_of_ble_eq_true rfl, Nat.le_of_ble_eq_true rfl⟩ dX0_study_2 (fun r_5 h => ?_)
  refine lv_bipush (v := (10 : Int32)) hx hb dX0_study_5 (by decide) ?_
  refine va_mmin hx hb (hml.trans hl.1.symm) hown (htb _ tb_174) (htb _ tb_175) (htb _ tb_176) (htb _ tb_177) (Nat.le_of_ble_eq_true rfl) (Nat.le_of_ble_eq_true rfl) (Nat.le_of_ble_eq_true rfl) (Nat.le_of_ble_eq_true rfl) dX0_study_7 ?_
  refine lv_topi (fun f_towns_6 ef_towns_6 => ?_)
  have h := h _ ef_towns_6
  refine va_put (D := D) (ci := 0) (v := .int f_towns_6) (ty := .int) (C := RX0) (T := TX0) (N := 16) hx hb htb inT_X0 tyX0 tyX0_ok nmX0 hown hK hP hD hS 0 rfl rfl 8 (by decide) (htb _ tb_178) (fun _ h9 => h9) rfl (tyX0_ok 8 (by decide)) rfl rfl (Nat.le_of_ble_eq_true rfl) dX0_study_10 (fun H locs hP hD hS => ?_)
  have hP : va_P D vwCl [(q_o, .inr (0, [.ref q_o_from, .ref q_o_to, .ref q_o_lengths, .ref q_o_earliest, .ref q_o_latest, .ref q_o_years, .ref q_o_explained, .ref q_o_together, .int f_towns_6, .int b_o.2.1, .int b_o.2.2.1, .int b_o.2.2.2.1, .int b_o.2.2.2.2.1, .int b_o.2.2.2.2.2.1, .int b_o.2.2.2.2.2.2.1, .int b_o.2.2.2.2.2.2.2.1])), (q_o_from, gI Cs 15 b_o.2.2.2.2.2.2.2.2.1), (q_o_to, gI Cs 15 b_o.2.2.2.2.2.2.2.2.2.1), (q_o_lengths, gI Cs 15 b_o.2.2.2.2.2.2.2.2.2.2.1), (q_o_earliest, gI Cs 10 b_o.2.2.2.2.2.2.2.2.2.2.2.1), (q_o_latest, gI Cs 10 b_o.2.2.2.2.2.2.2.2.2.2.2.2.1), (q_o_years, gI Cs 10 b_o.2.2.2.2.2.2.2.2.2.2.2.2.2.1), (q_o_explained, gI Cs 10 b_o.2.2.2.2.2.2.2.2.2.2.2.2.2.2.1), (q_o_together, gI Cs 1024 b_o.2.2.2.2.2.2.2.2.2.2.2.2.2.2.2), (q_a1, .inr (1, [.ref q_a1_cells])), (q_a1_cells, gI Cs 221 v_a1_cells)] H := hP
  have hD : va_D A [(q_o, .inr (0, [.ref q_o_from, .ref q_o_to, .ref q_o_lengths, .ref q_o_earliest, .ref q_o_latest, .ref q_o_years, .ref q_o_explained, .ref q_o_together, .int f_towns_6, .int b_o.2.1, .int b_o.2.2.1, .int b_o.2.2.2.1, .int b_o.2.2.2.2.1, .int b_o.2.2.2.2.2.1, .int b_o.2.2.2.2.2.2.1, .int b_o.2.2.2.2.2.2.2.1])), (q_o_from, gI Cs 15 b_o.2.2.2.2.2.2.2.2.1), (q_o_to, gI Cs 15 b_o.2.2.2.2.2.2.2.2.2.1), (q_o_lengths, gI Cs 15 b_o.2.2.2.2.2.2.2.2.2.2.1), (q_o_earliest, gI Cs 10 b_o.2.2.2.2.2.2.2.2.2.2.2.1), (q_o_latest, gI Cs 10 b_o.2.2.2.2.2.2.2.2.2.2.2.2.1), (q_o_years, gI Cs 10 b_o.2.2.2.2.2.2.2.2.2.2.2.2.2.1), (q_o_explained, gI Cs 10 b_o.2.2.2.2.2.2.2.2.2.2.2.2.2.2.1), (q_o_together, gI Cs 1024 b_o.2.2.2.2.2.2.2.2.2.2.2.2.2.2.2), (q_a1, .inr (1, [.ref q_a1_cells])), (q_a1_cells, gI Cs 221 v_a1_cells)] := hD
  refine lv_aload_n hx hb dX0_study_13 rfl (lv_at hl 0 rfl) ?_
  refine lv_iconst (v := (-1 : Int32)) hx hb dX0_study_14 (by decide) ?_
  refine va_put (D := D) (ci := 0) (v := .int (-1 : Int32)) (ty := .int) (C := RX0) (T := TX0) (N := 16) hx hb htb inT_X0 tyX0 tyX0_ok nmX0 hown hK hP hD hS 0 rfl rfl 11 (by decide) (htb _ tb_179) (fun _ h9 => h9) rfl (tyX0_ok 11 (by decide)) rfl rfl (Nat.le_of_ble_eq_true rfl) dX0_study_15 (fun H locs hP hD hS => ?_)
  have hP : va_P D vwCl [(q_o, .inr (0, [.ref q_o_from, .ref q_o_to, .ref q_o_lengths, .ref q_o_earliest, .ref q_o_latest, .ref q_o_years, .ref q_o_explained, .ref q_o_together, .int f_towns_6, .int b_o.2.1, .int b_o.2.2.1, .int (-1 : Int32), .int b_o.2.2.2.2.1, .int b_o.2.2.2.2.2.1, .int b_o.2.2.2.2.2.2.1, .int b_o.2.2.2.2.2.2.2.1])), (q_o_from, gI Cs 15 b_o.2.2.2.2.2.2.2.2.1), (q_o_to, gI Cs 15 b_o.2.2.2.2.2.2.2.2.2.1), (q_o_lengths, gI Cs 15 b_o.2.2.2.2.2.2.2.2.2.2.1), (q_o_earliest, gI Cs 10 b_o.2.2.2.2.2.2.2.2.2.2.2.1), (q_o_latest, gI Cs 10 b_o.2.2.2.2.2.2.2.2.2.2.2.2.1), (q_o_years, gI Cs 10 b_o.2.2.2.2.2.2.2.2.2.2.2.2.2.1), (q_o_explained, gI Cs 10 b_o.2.2.2.2.2.2.2.2.2.2.2.2.2.2.1), (q_o_together, gI Cs 1024 b_o.2.2.2.2.2.2.2.2.2.2.2.2.2.2.2), (q_a1, .inr (1, [.ref q_a1_cells])), (q_a1_cells, gI Cs 221 v_a1_cells)] H := hP
  have hD : va_D A [(q_o, .inr (0, [.ref q_o_from, .ref q_o_to, .ref q_o_lengths, .ref q_o_earliest, .ref q_o_latest, .ref q_o_years, .ref q_o_explained, .ref q_o_together, .int f_towns_6, .int b_o.2.1, .int b_o.2.2.1, .int (-1 : Int32), .int b_o.2.2.2.2.1, .int b_o.2.2.2.2.2.1, .int b_o.2.2.2.2.2.2.1, .int b_o.2.2.2.2.2.2.2.1])), (q_o_from, gI Cs 15 b_o.2.2.2.2.2.2.2.2.1), (q_o_to, gI Cs 15 b_o.2.2.2.2.2.2.2.2.2.1), (q_o_lengths, gI Cs 15 b_o.2.2.2.2.2.2.2.2.2.2.1), (q_o_earliest, gI Cs 10 b_o.2.2.2.2.2.2.2.2.2.2.2.1), (q_o_latest, gI Cs 10 b_o.2.2.2.2.2.2.2.2.2.2.2.2.1), (q_o_years, gI Cs 10 b_o.2.2.2.2.2.2.2.2.2.2.2.2.2.1), (q_o_explained, gI Cs 10 b_o.2.2.2.2.2.2.2.2.2.2.2.2.2.2.1), (q_o_together, gI Cs 1024 b_o.2.2.2.2.2.2.2.2.2.2.2.2.2.2.2), (q_a1, .inr (1, [.ref q_a1_cells])), (q_a1_cells, gI Cs 221 v_a1_cells)] := hD
  refine lv_aload_n hx hb dX0_study_18 rfl (lv_at hl 0 rfl) ?_
  refine lv_iconst (v := (0 : Int32)) hx hb dX0_study_19 (by decide) ?_
  refine va_put (D := D) (ci := 0) (v := .int (0 : Int32)) (ty := .int) (C := RX0) (T := TX0) (N := 16) hx hb htb inT_X0 tyX0 tyX0_ok nmX0 hown hK hP hD hS 0 rfl rfl 12 (by decide) (htb _ tb_180) (fun _ h9 => h9) rfl (tyX0_ok 12 (by decide)) rfl rfl (Nat.le_of_ble_eq_true rfl) dX0_study_20 (fun H locs hP hD hS => ?_)
  have hP : va_P D vwCl [(q_o, .inr (0, [.ref q_o_from, .ref q_o_to, .ref q_o_lengths, .ref q_o_earliest, .ref q_o_latest, .ref q_o_years, .ref q_o_explained, .ref q_o_together, .int f_towns_6, .int b_o.2.1, .int b_o.2.2.1, .int (-1 : Int32), .int (0 : Int32), .int b_o.2.2.2.2.2.1, .int b_o.2.2.2.2.2.2.1, .int b_o.2.2.2.2.2.2.2.1])), (q_o_from, gI Cs 15 b_o.2.2.2.2.2.2.2.2.1), (q_o_to, gI Cs 15 b_o.2.2.2.2.2.2.2.2.2.1), (q_o_lengths, gI Cs 15 b_o.2.2.2.2.2.2.2.2.2.2.1), (q_o_earliest, gI Cs 10 b_o.2.2.2.2.2.2.2.2.2.2.2.1), (q_o_latest, gI Cs 10 b_o.2.2.2.2.2.2.2.2.2.2.2.2.1), (q_o_years, gI Cs 10 b_o.2.2.2.2.2.2.2.2.2.2.2.2.2.1), (q_o_explained, gI Cs 10 b_o.2.2.2.2.2.2.2.2.2.2.2.2.2.2.1), (q_o_together, gI Cs 1024 b_o.2.2.2.2.2.2.2.2.2.2.2.2.2.2.2), (q_a1, .inr (1, [.ref q_a1_cells])), (q_a1_cells, gI Cs 221 v_a1_cells)] H := hP
  have hD : va_D A [(q_o, .inr (0, [.ref q_o_from, .ref q_o_to, .ref q_o_lengths, .ref q_o_earliest, .ref q_o_latest, .ref q_o_years, .ref q_o_explained, .ref q_o_together, .int f_towns_6, .int b_o.2.1, .int b_o.2.2.1, .int (-1 : Int32), .int (0 : Int32), .int b_o.2.2.2.2.2.1, .int b_o.2.2.2.2.2.2.1, .int b_o.2.2.2.2.2.2.2.1])), (q_o_from, gI Cs 15 b_o.2.2.2.2.2.2.2.2.1), (q_o_to, gI Cs 15 b_o.2.2.2.2.2.2.2.2.2.1), (q_o_lengths, gI Cs 15 b_o.2.2.2.2.2.2.2.2.2.2.1), (q_o_earliest, gI Cs 10 b_o.2.2.2.2.2.2.2.2.2.2.2.1), (q_o_latest, gI Cs 10 b_o.2.2.2.2.2.2.2.2.2.2.2.2.1), (q_o_years, gI Cs 10 b_o.2.2.2.2.2.2.2.2.2.2.2.2.2.1), (q_o_explained, gI Cs 10 b_o.2.2.2.2.2.2.2.2.2.2.2.2.2.2.1), (q_o_together, gI Cs 1024 b_o.2.2.2.2.2.2.2.2.2.2.2.2.2.2.2), (q_a1, .inr (1, [.ref q_a1_cells])), (q_a1_cells, gI Cs 221 v_a1_cells)] := hD
  refine lv_aload_n hx hb dX0_study_23 rfl (lv_at hl 0 rfl) ?_
  refine lv_aload_n hx hb dX0_study_24 rfl (lv_at hl 1 rfl) ?_
  refine gVMv (wr := [(q_o_earliest, gI Cs 10 b_o.2.2.2.2.2.2.2.2.2.2.2.1), (q_o_latest, gI Cs 10 b_o.2.2.2.2.2.2.2.2.2.2.2.2.1), (q_o_years, gI Cs 10 b_o.2.2.2.2.2.2.2.2.2.2.2.2.2.1), (q_o_explained, gI Cs 10 b_o.2.2.2.2.2.2.2.2.2.2.2.2.2.2.1), (q_o_together, gI Cs 1024 b_o.2.2.2.2.2.2.2.2.2.2.2.2.2.2.2)]) (As := [.ref q_a1]) (rest := []) ⟨hx, hb, hml, hown, htb⟩ hK hP hD hS hA hN [0, 1, 2, 3, 9, 10] [4, 5, 6, 7, 8] rfl (by decide) rfl (by decide) (by decide) (c_X0_takeRoads l D Cs q_o q_a1 q_o_from q_o_to q_o_lengths q_o_earliest q_o_latest q_o_years q_o_explained q_o_together q_a1_cells H.size f_towns_6 b_o.2.1 b_o.2.2.2.2.2.2.2.2.1 b_o.2.2.2.2.2.2.2.2.2.1 b_o.2.2.2.2.2.2.2.2.2.2.1 v_a1_cells b_o.2.2.1 (-1 : Int32) (0 : Int32) b_o.2.2.2.2.2.1 b_o.2.2.2.2.2.2.1 b_o.2.2.2.2.2.2.2.1 h) (cwV 1 htb (TB_v tb_182 tb_183 tb_184 tb_26 (TB_self tb_185)) rfl rfl rfl z_X0_takeRoads ⟨Nat.le_of_ble_eq_true rfl, Nat.le_of_ble_eq_true rfl⟩) 0 rfl rfl rfl rfl hl.1 rfl (Nat.le_of_ble_eq_true rfl) ⟨Nat.le_of_ble_eq_true rfl, Nat.le_of_ble_eq_true rfl⟩ dX0_study_25 (fun u H locs h hP hD hS => ?_)
  obtain ⟨m_8, m_9, m_10, m_11⟩ := u
  try dsimp only at h
  have hP : va_P D vwCl [(q_o_earliest, gI Cs 10 b_o.2.2.2.2.2.2.2.2.2.2.2.1), (q_o_latest, gI Cs 10 b_o.2.2.2.2.2.2.2.2.2.2.2.2.1), (q_o_years, gI Cs 10 b_o.2.2.2.2.2.2.2.2.2.2.2.2.2.1), (q_o_explained, gI Cs 10 b_o.2.2.2.2.2.2.2.2.2.2.2.2.2.2.1), (q_o_together, gI Cs 1024 b_o.2.2.2.2.2.2.2.2.2.2.2.2.2.2.2), (q_o, .inr (0, [.ref q_o_from, .ref q_o_to, .ref q_o_lengths, .ref q_o_earliest, .ref q_o_latest, .ref q_o_years, .ref q_o_explained, .ref q_o_together, .int f_towns_6, .int m_8, .int b_o.2.2.1, .int (-1 : Int32), .int (0 : Int32), .int b_o.2.2.2.2.2.1, .int b_o.2.2.2.2.2.2.1, .int b_o.2.2.2.2.2.2.2.1])), (q_o_from, gI Cs 15 m_9), (q_o_to, gI Cs 15 m_10), (q_o_lengths, gI Cs 15 m_11), (q_a1, .inr (1, [.ref q_a1_cells])), (q_a1_cells, gI Cs 221 v_a1_cells)] H := hP
  have hD : va_D A [(q_o_earliest, gI Cs 10 b_o.2.2.2.2.2.2.2.2.2.2.2.1), (q_o_latest, gI Cs 10 b_o.2.2.2.2.2.2.2.2.2.2.2.2.1), (q_o_years, gI Cs 10 b_o.2.2.2.2.2.2.2.2.2.2.2.2.2.1), (q_o_explained, gI Cs 10 b_o.2.2.2.2.2.2.2.2.2.2.2.2.2.2.1), (q_o_together, gI Cs 1024 b_o.2.2.2.2.2.2.2.2.2.2.2.2.2.2.2), (q_o, .inr (0, [.ref q_o_from, .ref q_o_to, .ref q_o_lengths, .ref q_o_earliest, .ref q_o_latest, .ref q_o_years, .ref q_o_explained, .ref q_o_together, .int f_towns_6, .int m_8, .int b_o.2.2.1, .int (-1 : Int32), .int (0 : Int32), .int b_o.2.2.2.2.2.1, .int b_o.2.2.2.2.2.2.1, .int b_o.2.2.2.2.2.2.2.1])), (q_o_from, gI Cs 15 m_9), (q_o_to, gI Cs 15 m_10), (q_o_lengths, gI Cs 15 m_11), (q_a1, .inr (1, [.ref q_a1_cells])), (q_a1_cells, gI Cs 221 v_a1_cells)] := hD
  refine lv_aload_n hx hb dX0_study_28 rfl (lv_at hl 0 rfl) ?_
  refine lv_aload_n hx hb dX0_study_29 rfl (lv_at hl 1 rfl) ?_
  refine lv_iload_n hx hb dX0_study_30 rfl (lv_at hl 2 rfl) ?_
  refine gVM (wr := [(q_o_years, gI Cs 10 b_o.2.2.2.2.2.2.2.2.2.2.2.2.2.1), (q_o_explained, gI Cs 10 b_o.2.2.2.2.2.2.2.2.2.2.2.2.2.2.1), (q_o_together, gI Cs 1024 b_o.2.2.2.2.2.2.2.2.2.2.2.2.2.2.2), (q_o_from, gI Cs 15 m_9), (q_o_to, gI Cs 15 m_10), (q_o_lengths, gI Cs 15 m_11)]) (As := [.ref q_a1, .int x2]) (rest := []) ⟨hx, hb, hml, hown, htb⟩ hK hP hD hS hA hN [5, 0, 1, 9, 10] [2, 3, 4, 6, 7, 8] rfl (by decide) rfl (by decide) (by decide) (c_X0_takeReports l D Cs q_o q_a1 q_o_from q_o_to q_o_lengths q_o_earliest q_o_latest q_o_years q_o_explained q_o_together q_a1_cells H.size f_towns_6 b_o.2.2.1 b_o.2.2.2.2.2.2.2.2.2.2.2.1 b_o.2.2.2.2.2.2.2.2.2.2.2.2.1 v_a1_cells m_8 (-1 : Int32) (0 : Int32) b_o.2.2.2.2.2.1 b_o.2.2.2.2.2.2.1 b_o.2.2.2.2.2.2.2.1 x2 h) (cwV 2 htb (TB_v tb_188 tb_189 tb_190 tb_26 (TB_self tb_191)) rfl rfl rfl z_X0_takeReports ⟨Nat.le_of_ble_eq_true rfl, Nat.le_of_ble_eq_true rfl⟩) 5 rfl rfl rfl rfl hl.1 rfl (Nat.le_of_ble_eq_true rfl) ⟨Nat.le_of_ble_eq_true rfl, Nat.le_of_ble_eq_true rfl⟩ dX0_study_31 (fun r_12 u H locs h hP hD hS => ?_)
  obtain ⟨m_13, m_14, m_15⟩ := u
  try dsimp only at h
  have hP : va_P D vwCl [(q_o_years, gI Cs 10 b_o.2.2.2.2.2.2.2.2.2.2.2.2.2.1), (q_o_explained, gI Cs 10 b_o.2.2.2.2.2.2.2.2.2.2.2.2.2.2.1), (q_o_together, gI Cs 1024 b_o.2.2.2.2.2.2.2.2.2.2.2.2.2.2.2), (q_o_from, gI Cs 15 m_9), (q_o_to, gI Cs 15 m_10), (q_o_lengths, gI Cs 15 m_11), (q_o, .inr (0, [.ref q_o_from, .ref q_o_to, .ref q_o_lengths, .ref q_o_earliest, .ref q_o_latest, .ref q_o_years, .ref q_o_explained, .ref q_o_together, .int f_towns_6, .int m_8, .int m_13, .int (-1 : Int32), .int (0 : Int32), .int b_o.2.2.2.2.2.1, .int b_o.2.2.2.2.2.2.1, .int b_o.2.2.2.2.2.2.2.1])), (q_o_earliest, gI Cs 10 m_14), (q_o_latest, gI Cs 10 m_15), (q_a1, .inr (1, [.ref q_a1_cells])), (q_a1_cells, gI Cs 221 v_a1_cells)] H := hP
  have hD : va_D A [(q_o_years, gI Cs 10 b_o.2.2.2.2.2.2.2.2.2.2.2.2.2.1), (q_o_explained, gI Cs 10 b_o.2.2.2.2.2.2.2.2.2.2.2.2.2.2.1), (q_o_together, gI Cs 1024 b_o.2.2.2.2.2.2.2.2.2.2.2.2.2.2.2), (q_o_from, gI Cs 15 m_9), (q_o_to, gI Cs 15 m_10), (q_o_lengths, gI Cs 15 m_11), (q_o, .inr (0, [.ref q_o_from, .ref q_o_to, .ref q_o_lengths, .ref q_o_earliest, .ref q_o_latest, .ref q_o_years, .ref q_o_explained, .ref q_o_together, .int f_towns_6, .int m_8, .int m_13, .int (-1 : Int32), .int (0 : Int32), .int b_o.2.2.2.2.2.1, .int b_o.2.2.2.2.2.2.1, .int b_o.2.2.2.2.2.2.2.1])), (q_o_earliest, gI Cs 10 m_14), (q_o_latest, gI Cs 10 m_15), (q_a1, .inr (1, [.ref q_a1_cells])), (q_a1_cells, gI Cs 221 v_a1_cells)] := hD
  refine lv_if_eq (tgt := 45) hx hb dX0_study_34 (by decide) (fun c_16 => ?_) (fun c_16 => ?_)
  · have h := h.1 c_16
    exact B45 _ _ _ (f_towns_6, m_8, m_13, (-1 : Int32), (0 : Int32), b_o.2.2.2.2.2.1, b_o.2.2.2.2.2.2.1, b_o.2.2.2.2.2.2.2.1, m_9, m_10, m_11, m_14, m_15, b_o.2.2.2.2.2.2.2.2.2.2.2.2.2.1, b_o.2.2.2.2.2.2.2.2.2.2.2.2.2.2.1, b_o.2.2.2.2.2.2.2.2.2.2.2.2.2.2.2) (hP.sub [6, 3, 4, 5, 7, 8, 0, 1, 2, 9, 10] rfl) (hD.sub [6, 3, 4, 5, 7, 8, 0, 1, 2, 9, 10] (by decide) rfl) hS (lv_sub hl [0, 1, 2] rfl) h
  · have h := h.2 c_16
    refine lv_aload_n hx hb dX0_study_37 rfl (lv_at hl 0 rfl) ?_
    refine gVMv (wr := [(q_o_together, gI Cs 1024 b_o.2.2.2.2.2.2.2.2.2.2.2.2.2.2.2), (q_a1, .inr (1, [.ref q_a1_cells])), (q_a1_cells, gI Cs 221 v_a1_cells)]) (As := []) (rest := []) ⟨hx, hb, hml, hown, htb⟩ hK hP hD hS hA hN [6, 3, 4, 5, 7, 8, 0, 1] [2, 9, 10] rfl (by decide) rfl (by decide) (by decide) (c_X0_explainAlone l D Cs q_o q_o_from q_o_to q_o_lengths q_o_earliest q_o_latest q_o_years q_o_explained q_o_together H.size f_towns_6 m_8 m_13 m_9 m_10 m_11 m_14 m_15 b_o.2.2.2.2.2.2.2.2.2.2.2.2.2.1 b_o.2.2.2.2.2.2.2.2.2.2.2.2.2.2.1 (-1 : Int32) (0 : Int32) b_o.2.2.2.2.2.1 b_o.2.2.2.2.2.2.1 b_o.2.2.2.2.2.2.2.1 h) (cwV 0 htb (TB_v tb_194 tb_195 tb_196 tb_26 (TB_self tb_197)) rfl rfl rfl z_X0_explainAlone ⟨Nat.le_of_ble_eq_true rfl, Nat.le_of_ble_eq_true rfl⟩) 6 rfl rfl rfl rfl hl.1 rfl (Nat.le_of_ble_eq_true rfl) ⟨Nat.le_of_ble_eq_true rfl, Nat.le_of_ble_eq_true rfl⟩ dX0_study_38 (fun u H locs h hP hD hS => ?_)
    obtain ⟨m_18, m_19⟩ := u
    try dsimp only at h
    have hP : va_P D vwCl [(q_o_together, gI Cs 1024 b_o.2.2.2.2.2.2.2.2.2.2.2.2.2.2.2), (q_a1, .inr (1, [.ref q_a1_cells])), (q_a1_cells, gI Cs 221 v_a1_cells), (q_o, .inr (0, [.ref q_o_from, .ref q_o_to, .ref q_o_lengths, .ref q_o_earliest, .ref q_o_latest, .ref q_o_years, .ref q_o_explained, .ref q_o_together, .int f_towns_6, .int m_8, .int m_13, .int (-1 : Int32), .int (0 : Int32), .int b_o.2.2.2.2.2.1, .int b_o.2.2.2.2.2.2.1, .int b_o.2.2.2.2.2.2.2.1])), (q_o_from, gI Cs 15 m_9), (q_o_to, gI Cs 15 m_10), (q_o_lengths, gI Cs 15 m_11), (q_o_earliest, gI Cs 10 m_14), (q_o_latest, gI Cs 10 m_15), (q_o_years, gI Cs 10 m_18), (q_o_explained, gI Cs 10 m_19)] H := hP
    have hD : va_D A [(q_o_together, gI Cs 1024 b_o.2.2.2.2.2.2.2.2.2.2.2.2.2.2.2), (q_a1, .inr (1, [.ref q_a1_cells])), (q_a1_cells, gI Cs 221 v_a1_cells), (q_o, .inr (0, [.ref q_o_from, .ref q_o_to, .ref q_o_lengths, .ref q_o_earliest, .ref q_o_latest, .ref q_o_years, .ref q_o_explained, .ref q_o_together, .int f_towns_6, .int m_8, .int m_13, .int (-1 : Int32), .int (0 : Int32), .int b_o.2.2.2.2.2.1, .int b_o.2.2.2.2.2.2.1, .int b_o.2.2.2.2.2.2.2.1])), (q_o_from, gI Cs 15 m_9), (q_o_to, gI Cs 15 m_10), (q_o_lengths, gI Cs 15 m_11), (q_o_earliest, gI Cs 10 m_14), (q_o_latest, gI Cs 10 m_15), (q_o_years, gI Cs 10 m_18), (q_o_explained, gI Cs 10 m_19)] := hD
    refine lv_aload_n hx hb dX0_study_41 rfl (lv_at hl 0 rfl) ?_
    refine gVMv (wr := [(q_a1, .inr (1, [.ref q_a1_cells])), (q_a1_cells, gI Cs 221 v_a1_cells), (q_o_from, gI Cs 15 m_9), (q_o_to, gI Cs 15 m_10), (q_o_lengths, gI Cs 15 m_11), (q_o_earliest, gI Cs 10 m_14), (q_o_latest, gI Cs 10 m_15), (q_o_years, gI Cs 10 m_18)]) (As := []) (rest := []) ⟨hx, hb, hml, hown, htb⟩ hK hP hD hS hA hN [3, 10, 0] [1, 2, 4, 5, 6, 7, 8, 9] rfl (by decide) rfl (by decide) (by decide) (c_X0_weighSets l D Cs q_o q_o_from q_o_to q_o_lengths q_o_earliest q_o_latest q_o_years q_o_explained q_o_together H.size f_towns_6 m_13 (-1 : Int32) (0 : Int32) b_o.2.2.2.2.2.1 b_o.2.2.2.2.2.2.1 b_o.2.2.2.2.2.2.2.1 m_19 b_o.2.2.2.2.2.2.2.2.2.2.2.2.2.2.2 m_8 h) (cwV 0 htb (TB_v tb_214 tb_215 tb_216 tb_26 (TB_self tb_217)) rfl rfl rfl z_X0_weighSets ⟨Nat.le_of_ble_eq_true rfl, Nat.le_of_ble_eq_true rfl⟩) 3 rfl rfl rfl rfl hl.1 rfl (Nat.le_of_ble_eq_true rfl) ⟨Nat.le_of_ble_eq_true rfl, Nat.le_of_ble_eq_true rfl⟩ dX0_study_42 (fun u H locs h hP hD hS => ?_)
    obtain ⟨m_21, m_22, m_23, m_24, m_25, m_26⟩ := u
    try dsimp only at h
    have hP : va_P D vwCl [(q_a1, .inr (1, [.ref q_a1_cells])), (q_a1_cells, gI Cs 221 v_a1_cells), (q_o_from, gI Cs 15 m_9), (q_o_to, gI Cs 15 m_10), (q_o_lengths, gI Cs 15 m_11), (q_o_earliest, gI Cs 10 m_14), (q_o_latest, gI Cs 10 m_15), (q_o_years, gI Cs 10 m_18), (q_o, .inr (0, [.ref q_o_from, .ref q_o_to, .ref q_o_lengths, .ref q_o_earliest, .ref q_o_latest, .ref q_o_years, .ref q_o_explained, .ref q_o_together, .int f_towns_6, .int m_8, .int m_13, .int m_21, .int m_22, .int m_23, .int m_24, .int m_25])), (q_o_explained, gI Cs 10 m_19), (q_o_together, gI Cs 1024 m_26)] H := hP
    have hD : va_D A [(q_a1, .inr (1, [.ref q_a1_cells])), (q_a1_cells, gI Cs 221 v_a1_cells), (q_o_from, gI Cs 15 m_9), (q_o_to, gI Cs 15 m_10), (q_o_lengths, gI Cs 15 m_11), (q_o_earliest, gI Cs 10 m_14), (q_o_latest, gI Cs 10 m_15), (q_o_years, gI Cs 10 m_18), (q_o, .inr (0, [.ref q_o_from, .ref q_o_to, .ref q_o_lengths, .ref q_o_earliest, .ref q_o_latest, .ref q_o_years, .ref q_o_explained, .ref q_o_together, .int f_towns_6, .int m_8, .int m_13, .int m_21, .int m_22, .int m_23, .int m_24, .int m_25])), (q_o_explained, gI Cs 10 m_19), (q_o_together, gI Cs 1024 m_26)] := hD
    exact B45 _ _ _ (f_towns_6, m_8, m_13, m_21, m_22, m_23, m_24, m_25, m_9, m_10, m_11, m_14, m_15, m_18, m_19, m_26) (hP.sub [8, 2, 3, 4, 5, 6, 7, 9, 10, 0, 1] rfl) (hD.sub [8, 2, 3, 4, 5, 6, 7, 9, 10, 0, 1] (by decide) rfl) hS (lv_sub hl [0, 1, 2] rfl) h
set_option maxHeartbeats 4000000 in
set_option maxRecDepth 100000 in
theorem c_X0_allInventions (l : Launch) (D : va_G) (Cs : Nat → ClassId) (q_o : Nat) (q_a1 : Nat) (q_o_from : Nat) (q_o_to : Nat) (q_o_lengths : Nat) (q_o_earliest : Nat) (q_o_latest : Nat) (q_o_years : Nat) (q_o_explained : Nat) (q_o_together : Nat) (q_a1_cells : Nat) (sz : Nat) (b_o : BH) (v_a1_cells : (Nat → Int32)) {post : Int32 → BH → Prop} (h : P_X0_allInventions b_o v_a1_cells post) : Met l yX0_allInventions wsX0_allInventions ({ frames := 4, cells := 0, slots := 0, locals := 92 } : Room) (va_Pc [.ref q_o, .ref q_a1] (gM D Cs [(q_o, .inr (0, [.ref q_o_from, .ref q_o_to, .ref q_o_lengths, .ref q_o_earliest, .ref q_o_latest, .ref q_o_years, .ref q_o_explained, .ref q_o_together, .int b_o.1, .int b_o.2.1, .int b_o.2.2.1, .int b_o.2.2.2.1, .int b_o.2.2.2.2.1, .int b_o.2.2.2.2.2.1, .int b_o.2.2.2.2.2.2.1, .int b_o.2.2.2.2.2.2.2.1])), (q_o_from, gI Cs 15 b_o.2.2.2.2.2.2.2.2.1), (q_o_to, gI Cs 15 b_o.2.2.2.2.2.2.2.2.2.1), (q_o_lengths, gI Cs 15 b_o.2.2.2.2.2.2.2.2.2.2.1), (q_o_earliest, gI Cs 10 b_o.2.2.2.2.2.2.2.2.2.2.2.1), (q_o_latest, gI Cs 10 b_o.2.2.2.2.2.2.2.2.2.2.2.2.1), (q_o_years, gI Cs 10 b_o.2.2.2.2.2.2.2.2.2.2.2.2.2.1), (q_o_explained, gI Cs 10 b_o.2.2.2.2.2.2.2.2.2.2.2.2.2.2.1), (q_o_together, gI Cs 1024 b_o.2.2.2.2.2.2.2.2.2.2.2.2.2.2.2), (q_a1, .inr (1, [.ref q_a1_cells])), (q_a1_cells, gI Cs 221 v_a1_cells)] sz)) (va_Qi (fun (r : Int32) (u : BH) => post r u) (gB D (va_A [(q_o, .inr (0, [.ref q_o_from, .ref q_o_to, .ref q_o_lengths, .ref q_o_earliest, .ref q_o_latest, .ref q_o_years, .ref q_o_explained, .ref q_o_together, .int b_o.1, .int b_o.2.1, .int b_o.2.2.1, .int b_o.2.2.2.1, .int b_o.2.2.2.2.1, .int b_o.2.2.2.2.2.1, .int b_o.2.2.2.2.2.2.1, .int b_o.2.2.2.2.2.2.2.1])), (q_o_from, gI Cs 15 b_o.2.2.2.2.2.2.2.2.1), (q_o_to, gI Cs 15 b_o.2.2.2.2.2.2.2.2.2.1), (q_o_lengths, gI Cs 15 b_o.2.2.2.2.2.2.2.2.2.2.1), (q_o_earliest, gI Cs 10 b_o.2.2.2.2.2.2.2.2.2.2.2.1), (q_o_latest, gI Cs 10 b_o.2.2.2.2.2.2.2.2.2.2.2.2.1), (q_o_years, gI Cs 10 b_o.2.2.2.2.2.2.2.2.2.2.2.2.2.1), (q_o_explained, gI Cs 10 b_o.2.2.2.2.2.2.2.2.2.2.2.2.2.2.1), (q_o_together, gI Cs 1024 b_o.2.2.2.2.2.2.2.2.2.2.2.2.2.2.2), (q_a1, .inr (1, [.ref q_a1_cells])), (q_a1_cells, gI Cs 221 v_a1_cells)] sz) (fun u : BH => [(q_o, .inr (0, [.ref q_o_from, .ref q_o_to, .ref q_o_lengths, .ref q_o_earliest, .ref q_o_latest, .ref q_o_years, .ref q_o_explained, .ref q_o_together, .int u.1, .int u.2.1, .int u.2.2.1, .int u.2.2.2.1, .int u.2.2.2.2.1, .int u.2.2.2.2.2.1, .int u.2.2.2.2.2.2.1, .int u.2.2.2.2.2.2.2.1])), (q_o_from, gI Cs 15 u.2.2.2.2.2.2.2.2.1), (q_o_to, gI Cs 15 u.2.2.2.2.2.2.2.2.2.1), (q_o_lengths, gI Cs 15 u.2.2.2.2.2.2.2.2.2.2.1), (q_o_earliest, gI Cs 10 u.2.2.2.2.2.2.2.2.2.2.2.1), (q_o_latest, gI Cs 10 u.2.2.2.2.2.2.2.2.2.2.2.2.1), (q_o_years, gI Cs 10 u.2.2.2.2.2.2.2.2.2.2.2.2.2.1), (q_o_explained, gI Cs 10 u.2.2.2.2.2.2.2.2.2.2.2.2.2.2.1), (q_o_together, gI Cs 1024 u.2.2.2.2.2.2.2.2.2.2.2.2.2.2.2), (q_a1, .inr (1, [.ref q_a1_cells])), (q_a1_cells, gI Cs 221 v_a1_cells)])) (va_A [(q_o, .inr (0, [.ref q_o_from, .ref q_o_to, .ref q_o_lengths, .ref q_o_earliest, .ref q_o_latest, .ref q_o_years, .ref q_o_explained, .ref q_o_together, .int b_o.1, .int b_o.2.1, .int b_o.2.2.1, .int b_o.2.2.2.1, .int b_o.2.2.2.2.1, .int b_o.2.2.2.2.2.1, .int b_o.2.2.2.2.2.2.1, .int b_o.2.2.2.2.2.2.2.1])), (q_o_from, gI Cs 15 b_o.2.2.2.2.2.2.2.2.1), (q_o_to, gI Cs 15 b_o.2.2.2.2.2.2.2.2.2.1), (q_o_lengths, gI Cs 15 b_o.2.2.2.2.2.2.2.2.2.2.1), (q_o_earliest, gI Cs 10 b_o.2.2.2.2.2.2.2.2.2.2.2.1), (q_o_latest, gI Cs 10 b_o.2.2.2.2.2.2.2.2.2.2.2.2.1), (q_o_years, gI Cs 10 b_o.2.2.2.2.2.2.2.2.2.2.2.2.2.1), (q_o_explained, gI Cs 10 b_o.2.2.2.2.2.2.2.2.2.2.2.2.2.2.1), (q_o_together, gI Cs 1024 b_o.2.2.2.2.2.2.2.2.2.2.2.2.2.2.2), (q_a1, .inr (1, [.ref q_a1_cells])), (q_a1_cells, gI Cs 221 v_a1_cells)] sz)) 0 0 (va_A [(q_o, .inr (0, [.ref q_o_from, .ref q_o_to, .ref q_o_lengths, .ref q_o_earliest, .ref q_o_latest, .ref q_o_years, .ref q_o_explained, .ref q_o_together, .int b_o.1, .int b_o.2.1, .int b_o.2.2.1, .int b_o.2.2.2.1, .int b_o.2.2.2.2.1, .int b_o.2.2.2.2.2.1, .int b_o.2.2.2.2.2.2.1, .int b_o.2.2.2.2.2.2.2.1])), (q_o_from, gI Cs 15 b_o.2.2.2.2.2.2.2.2.1), (q_o_to, gI Cs 15 b_o.2.2.2.2.2.2.2.2.2.1), (q_o_lengths, gI Cs 15 b_o.2.2.2.2.2.2.2.2.2.2.1), (q_o_earliest, gI Cs 10 b_o.2.2.2.2.2.2.2.2.2.2.2.1), (q_o_latest, gI Cs 10 b_o.2.2.2.2.2.2.2.2.2.2.2.2.1), (q_o_years, gI Cs 10 b_o.2.2.2.2.2.2.2.2.2.2.2.2.2.1), (q_o_explained, gI Cs 10 b_o.2.2.2.2.2.2.2.2.2.2.2.2.2.2.1), (q_o_together, gI Cs 1024 b_o.2.2.2.2.2.2.2.2.2.2.2.2.2.2.2), (q_a1, .inr (1, [.ref q_a1_cells])), (q_a1_cells, gI Cs 221 v_a1_cells)] sz) := by
  refine Met.ofW (cc := cX0_allInventions) (maxL := 4) (ret := (some .int)) (by decide) rfl ?_
  intro p e s m args below meth c s₁ B hml hv
  obtain ⟨ha, hsz, hP, hK, hD0, hN⟩ := hv
  have hx := B.exec
  have hb := B.bytes
  have hr := B.returns
  have hts := atoms_spec (ws := wsX0_allInventions) B.pre
  have htb : ∀ w ∈ TB, w.before args s = true := fun w h9 => hts w (List.mem_cons_of_mem _ h9)
  have hown : s.vm.findClass RX0 = some m.cls := findClass_of_methodNamed B.named
  have hlocks := B.notSynchronized
  subst hsz
  have hD := hD0.self (sz := s.heap.size)
  generalize hAe : va_A [(q_o, .inr (0, [.ref q_o_from, .ref q_o_to, .ref q_o_lengths, .ref q_o_earliest, .ref q_o_latest, .ref q_o_years, .ref q_o_explained, .ref q_o_together, .int b_o.1, .int b_o.2.1, .int b_o.2.2.1, .int b_o.2.2.2.1, .int b_o.2.2.2.2.1, .int b_o.2.2.2.2.2.1, .int b_o.2.2.2.2.2.2.1, .int b_o.2.2.2.2.2.2.2.1])), (q_o_from, gI Cs 15 b_o.2.2.2.2.2.2.2.2.1), (q_o_to, gI Cs 15 b_o.2.2.2.2.2.2.2.2.2.1), (q_o_lengths, gI Cs 15 b_o.2.2.2.2.2.2.2.2.2.2.1), (q_o_earliest, gI Cs 10 b_o.2.2.2.2.2.2.2.2.2.2.2.1), (q_o_latest, gI Cs 10 b_o.2.2.2.2.2.2.2.2.2.2.2.2.1), (q_o_years, gI Cs 10 b_o.2.2.2.2.2.2.2.2.2.2.2.2.2.1), (q_o_explained, gI Cs 10 b_o.2.2.2.2.2.2.2.2.2.2.2.2.2.2.1), (q_o_together, gI Cs 1024 b_o.2.2.2.2.2.2.2.2.2.2.2.2.2.2.2), (q_a1, .inr (1, [.ref q_a1_cells])), (q_a1_cells, gI Cs 221 v_a1_cells)] s.heap.size = A at hD ⊢
  have hA : ∀ q : Nat, s.heap.size ≤ q → A q := fun q h9 => by rw [← hAe]; exact Or.inr h9
  obtain ⟨H, hH⟩ : ∃ z : Heap, z = s.heap := ⟨_, rfl⟩
  have hS : va_S A s.heap H [] := by rw [hH]; exact va_S.rf
  have hP : va_P D vwCl [(q_o, .inr (0, [.ref q_o_from, .ref q_o_to, .ref q_o_lengths, .ref q_o_earliest, .ref q_o_latest, .ref q_o_years, .ref q_o_explained, .ref q_o_together, .int b_o.1, .int b_o.2.1, .int b_o.2.2.1, .int b_o.2.2.2.1, .int b_o.2.2.2.2.1, .int b_o.2.2.2.2.2.1, .int b_o.2.2.2.2.2.2.1, .int b_o.2.2.2.2.2.2.2.1])), (q_o_from, gI Cs 15 b_o.2.2.2.2.2.2.2.2.1), (q_o_to, gI Cs 15 b_o.2.2.2.2.2.2.2.2.2.1), (q_o_lengths, gI Cs 15 b_o.2.2.2.2.2.2.2.2.2.2.1), (q_o_earliest, gI Cs 10 b_o.2.2.2.2.2.2.2.2.2.2.2.1), (q_o_latest, gI Cs 10 b_o.2.2.2.2.2.2.2.2.2.2.2.2.1), (q_o_years, gI Cs 10 b_o.2.2.2.2.2.2.2.2.2.2.2.2.2.1), (q_o_explained, gI Cs 10 b_o.2.2.2.2.2.2.2.2.2.2.2.2.2.2.1), (q_o_together, gI Cs 1024 b_o.2.2.2.2.2.2.2.2.2.2.2.2.2.2.2), (q_a1, .inr (1, [.ref q_a1_cells])), (q_a1_cells, gI Cs 221 v_a1_cells)] H := by rw [hH]; exact hP
  generalize hQ : MQ below _ args s _ _ _ = Q
  show W p l e ({ frames := 4, cells := 0, slots := 0, locals := 92 } : Room) s m args below meth c s.heap [] 0 0 Q (entryFrame m args 4)
  have hent : entryFrame m args 4 = F0 m 0 ((lg_sl ([.ref q_o, .ref q_a1]) ++ List.replicate (4 - (lg_sl ([.ref q_o, .ref q_a1])).length) Slot.unset).toArray) [] := by rw [ha]; exact lg_entry_eq m ([.ref q_o, .ref q_a1]) 4
  rw [hent]; clear hent
  rw [← hH]
  have hl := lv_entry ([.ref q_o, .ref q_a1]) (n := 4) (Nat.le_of_ble_eq_true rfl)
  generalize (lg_sl ([.ref q_o, .ref q_a1]) ++ List.replicate (4 - (lg_sl ([.ref q_o, .ref q_a1])).length) Slot.unset).toArray = ls at hl ⊢
  have hl : lv_has ls 4 [(0, .ref q_o), (1, .ref q_a1)] := hl
  have L4 : ∀ (n : Nat) (H : Heap) (locs : List Loc) (ls : Array Slot) (d_o : BH) (x2 : Int32) (x3 : Int32), va_P D vwCl [(q_o, .inr (0, [.ref q_o_from, .ref q_o_to, .ref q_o_lengths, .ref q_o_earliest, .ref q_o_latest, .ref q_o_years, .ref q_o_explained, .ref q_o_together, .int d_o.1, .int d_o.2.1, .int d_o.2.2.1, .int d_o.2.2.2.1, .int d_o.2.2.2.2.1, .int d_o.2.2.2.2.2.1, .int d_o.2.2.2.2.2.2.1, .int d_o.2.2.2.2.2.2.2.1])), (q_o_from, gI Cs 15 d_o.2.2.2.2.2.2.2.2.1), (q_o_to, gI Cs 15 d_o.2.2.2.2.2.2.2.2.2.1), (q_o_lengths, gI Cs 15 d_o.2.2.2.2.2.2.2.2.2.2.1), (q_o_earliest, gI Cs 10 d_o.2.2.2.2.2.2.2.2.2.2.2.1), (q_o_latest, gI Cs 10 d_o.2.2.2.2.2.2.2.2.2.2.2.2.1), (q_o_years, gI Cs 10 d_o.2.2.2.2.2.2.2.2.2.2.2.2.2.1), (q_o_explained, gI Cs 10 d_o.2.2.2.2.2.2.2.2.2.2.2.2.2.2.1), (q_o_together, gI Cs 1024 d_o.2.2.2.2.2.2.2.2.2.2.2.2.2.2.2), (q_a1, .inr (1, [.ref q_a1_cells])), (q_a1_cells, gI Cs 221 v_a1_cells)] H → va_D A [(q_o, .inr (0, [.ref q_o_from, .ref q_o_to, .ref q_o_lengths, .ref q_o_earliest, .ref q_o_latest, .ref q_o_years, .ref q_o_explained, .ref q_o_together, .int d_o.1, .int d_o.2.1, .int d_o.2.2.1, .int d_o.2.2.2.1, .int d_o.2.2.2.2.1, .int d_o.2.2.2.2.2.1, .int d_o.2.2.2.2.2.2.1, .int d_o.2.2.2.2.2.2.2.1])), (q_o_from, gI Cs 15 d_o.2.2.2.2.2.2.2.2.1), (q_o_to, gI Cs 15 d_o.2.2.2.2.2.2.2.2.2.1), (q_o_lengths, gI Cs 15 d_o.2.2.2.2.2.2.2.2.2.2.1), (q_o_earliest, gI Cs 10 d_o.2.2.2.2.2.2.2.2.2.2.2.1), (q_o_latest, gI Cs 10 d_o.2.2.2.2.2.2.2.2.2.2.2.2.1), (q_o_years, gI Cs 10 d_o.2.2.2.2.2.2.2.2.2.2.2.2.2.1), (q_o_explained, gI Cs 10 d_o.2.2.2.2.2.2.2.2.2.2.2.2.2.2.1), (q_o_together, gI Cs 1024 d_o.2.2.2.2.2.2.2.2.2.2.2.2.2.2.2), (q_a1, .inr (1, [.ref q_a1_cells])), (q_a1_cells, gI Cs 221 v_a1_cells)] → va_S A s.heap H locs → lv_has ls 4 [(0, .ref q_o), (1, .ref q_a1), (2, .int x2), (3, .int x3)] → P_X0_allInventions_l4 b_o v_a1_cells post n d_o x2 x3 → W p l e ({ frames := 4, cells := 0, slots := 0, locals := 92 } : Room) s m args below meth c H locs 0 0 Q (F0 m 4 ls []) := by
    intro n4
    induction n4 with
    | zero => intro H locs ls d_o x2 x3 hP hD hS hl h; exact False.elim h
    | succ n4 ih4 =>
      intro H locs ls d_o x2 x3 hP hD hS hl h
      replace h : P_X0_allInventions_b4 b_o v_a1_cells post (P_X0_allInventions_l4 b_o v_a1_cells post n4) d_o x2 x3 := h
      unfold P_X0_allInventions_b4 at h
      refine lv_iload_n hx hb dX0_allInventions_4 rfl (lv_at hl 3 rfl) ?_
      refine lv_bipush (v := (6 : Int32)) hx hb dX0_allInventions_5 (by decide) ?_
      refine lv_icmp_ge (tgt := 29) hx hb dX0_allInventions_7 (by decide) (fun c_1 => ?_) (fun c_1 => ?_)
      · have h := h.1 c_1
        refine lv_iload_n hx hb dX0_allInventions_29 rfl (lv_at hl 2 rfl) ?_
        rw [← hQ]
        exact gRetI (u := d_o) hx hb hr rfl h hP hD hS dX0_allInventions_30 hlocks
      · have h := h.2 c_1
        refine lv_iload_n hx hb dX0_allInventions_10 rfl (lv_at hl 2 rfl) ?_
        refine lv_aload_n hx hb dX0_allInventions_11 rfl (lv_at hl 0 rfl) ?_
        refine lv_aload_n hx hb dX0_allInventions_12 rfl (lv_at hl 1 rfl) ?_
        refine lv_iload_n hx hb dX0_allInventions_13 rfl (lv_at hl 3 rfl) ?_
        refine gVM (wr := []) (As := [.ref q_a1, .int x3]) (rest := [.int x2]) ⟨hx, hb, hml, hown, htb⟩ hK hP hD hS hA hN [0, 1, 2, 3, 4, 5, 6, 7, 8, 9, 10] [] rfl (by decide) rfl (by decide) (by decide) (c_X0_study l D Cs q_o q_a1 q_o_from q_o_to q_o_lengths q_o_earliest q_o_latest q_o_years q_o_explained q_o_together q_a1_cells H.size d_o v_a1_cells x3 h) (cwV 2 htb (TB_v tb_170 tb_171 tb_172 tb_26 (TB_self tb_173)) rfl rfl rfl z_X0_study ⟨Nat.le_of_ble_eq_true rfl, Nat.le_of_ble_eq_true rfl⟩) 0 rfl rfl rfl rfl hl.1 rfl (Nat.le_of_ble_eq_true rfl) ⟨Nat.le_of_ble_eq_true rfl, Nat.le_of_ble_eq_true rfl⟩ dX0_allInventions_14 (fun r_2 m_3 H locs h hP hD hS => ?_)
        have hP : va_P D vwCl [(q_o, .inr (0, [.ref q_o_from, .ref q_o_to, .ref q_o_lengths, .ref q_o_earliest, .ref q_o_latest, .ref q_o_years, .ref q_o_explained, .ref q_o_together, .int m_3.1, .int m_3.2.1, .int m_3.2.2.1, .int m_3.2.2.2.1, .int m_3.2.2.2.2.1, .int m_3.2.2.2.2.2.1, .int m_3.2.2.2.2.2.2.1, .int m_3.2.2.2.2.2.2.2.1])), (q_o_from, gI Cs 15 m_3.2.2.2.2.2.2.2.2.1), (q_o_to, gI Cs 15 m_3.2.2.2.2.2.2.2.2.2.1), (q_o_lengths, gI Cs 15 m_3.2.2.2.2.2.2.2.2.2.2.1), (q_o_earliest, gI Cs 10 m_3.2.2.2.2.2.2.2.2.2.2.2.1), (q_o_latest, gI Cs 10 m_3.2.2.2.2.2.2.2.2.2.2.2.2.1), (q_o_years, gI Cs 10 m_3.2.2.2.2.2.2.2.2.2.2.2.2.2.1), (q_o_explained, gI Cs 10 m_3.2.2.2.2.2.2.2.2.2.2.2.2.2.2.1), (q_o_together, gI Cs 1024 m_3.2.2.2.2.2.2.2.2.2.2.2.2.2.2.2), (q_a1, .inr (1, [.ref q_a1_cells])), (q_a1_cells, gI Cs 221 v_a1_cells)] H := hP
        have hD : va_D A [(q_o, .inr (0, [.ref q_o_from, .ref q_o_to, .ref q_o_lengths, .ref q_o_earliest, .ref q_o_latest, .ref q_o_years, .ref q_o_explained, .ref q_o_together, .int m_3.1, .int m_3.2.1, .int m_3.2.2.1, .int m_3.2.2.2.1, .int m_3.2.2.2.2.1, .int m_3.2.2.2.2.2.1, .int m_3.2.2.2.2.2.2.1, .int m_3.2.2.2.2.2.2.2.1])), (q_o_from, gI Cs 15 m_3.2.2.2.2.2.2.2.2.1), (q_o_to, gI Cs 15 m_3.2.2.2.2.2.2.2.2.2.1), (q_o_lengths, gI Cs 15 m_3.2.2.2.2.2.2.2.2.2.2.1), (q_o_earliest, gI Cs 10 m_3.2.2.2.2.2.2.2.2.2.2.2.1), (q_o_latest, gI Cs 10 m_3.2.2.2.2.2.2.2.2.2.2.2.2.1), (q_o_years, gI Cs 10 m_3.2.2.2.2.2.2.2.2.2.2.2.2.2.1), (q_o_explained, gI Cs 10 m_3.2.2.2.2.2.2.2.2.2.2.2.2.2.2.1), (q_o_together, gI Cs 1024 m_3.2.2.2.2.2.2.2.2.2.2.2.2.2.2.2), (q_a1, .inr (1, [.ref q_a1_cells])), (q_a1_cells, gI Cs 221 v_a1_cells)] := hD
        refine lv_iconst (v := (0 : Int32)) hx hb dX0_allInventions_17 (by decide) ?_
        refine va_mmax hx hb (hml.trans hl.1.symm) hown (htb _ tb_236) (htb _ tb_237) (htb _ tb_176) (htb _ tb_238) (Nat.le_of_ble_eq_true rfl) (Nat.le_of_ble_eq_true rfl) (Nat.le_of_ble_eq_true rfl) (Nat.le_of_ble_eq_true rfl) dX0_allInventions_18 ?_
        refine lv_iadd hx hb dX0_allInventions_21 ?_
        refine lv_topi (fun x2_4 ex2_4 => ?_)
        have h := h _ ex2_4
        refine lv_istore_n (lv' := [(2, .int x2_4), (0, .ref q_o), (1, .ref q_a1), (3, .int x3)]) hx hb dX0_allInventions_22 rfl hl (by decide) rfl (fun ls hl => ?_)
        obtain ⟨x3_5, ex3_5⟩ : ∃ y : Int32, y = x3 + (1 : Int32) := ⟨_, rfl⟩
        have h := h _ ex3_5
        refine lv_iinc (v := x3_5) (lv' := [(3, .int x3_5), (2, .int x2_4), (0, .ref q_o), (1, .ref q_a1)]) hx hb dX0_allInventions_23 hl (k := 3) rfl (by rw [ex3_5]; rfl) (by decide) rfl (fun ls hl => ?_)
        refine lv_goto (tgt := 4) hx hb dX0_allInventions_26 (by decide) ?_
        exact ih4 _ _ _ m_3 x2_4 x3_5 hP hD hS (lv_sub hl [2, 3, 1, 0] rfl) h
  unfold P_X0_allInventions at h
  refine lv_iconst (v := (0 : Int32)) hx hb dX0_allInventions_0 (by decide) ?_
  refine lv_istore_n (lv' := [(2, .int (0 : Int32)), (0, .ref q_o), (1, .ref q_a1)]) hx hb dX0_allInventions_1 rfl hl (by decide) rfl (fun ls hl => ?_)
  refine lv_iconst (v := (0 : Int32)) hx hb dX0_allInventions_2 (by decide) ?_
  refine lv_istore_n (lv' := [(3, .int (0 : Int32)), (2, .int (0 : Int32)), (0, .ref q_o), (1, .ref q_a1)]) hx hb dX0_allInventions_3 rfl hl (by decide) rfl (fun ls hl => ?_)
  obtain ⟨n, h⟩ := h
  exact L4 n _ _ _ b_o (0 : Int32) (0 : Int32) hP hD hS (lv_sub hl [2, 3, 1, 0] rfl) h
set_option maxHeartbeats 4000000 in
set_option maxRecDepth 100000 in
theorem c_X0_inventedTraits (l : Launch) (D : va_G) (Cs : Nat → ClassId) (q_o : Nat) (q_a1 : Nat) (q_o_from : Nat) (q_o_to : Nat) (q_o_lengths : Nat) (q_o_earliest : Nat) (q_o_latest : Nat) (q_o_years : Nat) (q_o_explained : Nat) (q_o_together : Nat) (q_a1_cells : Nat) (sz : Nat) (b_o : BH) (v_a1_cells : (Nat → Int32)) {post : Int32 → BH → Prop} (h : P_X0_inventedTraits b_o v_a1_cells post) : Met l yX0_inventedTraits wsX0_inventedTraits ({ frames := 4, cells := 0, slots := 0, locals := 92 } : Room) (va_Pc [.ref q_o, .ref q_a1] (gM D Cs [(q_o, .inr (0, [.ref q_o_from, .ref q_o_to, .ref q_o_lengths, .ref q_o_earliest, .ref q_o_latest, .ref q_o_years, .ref q_o_explained, .ref q_o_together, .int b_o.1, .int b_o.2.1, .int b_o.2.2.1, .int b_o.2.2.2.1, .int b_o.2.2.2.2.1, .int b_o.2.2.2.2.2.1, .int b_o.2.2.2.2.2.2.1, .int b_o.2.2.2.2.2.2.2.1])), (q_o_from, gI Cs 15 b_o.2.2.2.2.2.2.2.2.1), (q_o_to, gI Cs 15 b_o.2.2.2.2.2.2.2.2.2.1), (q_o_lengths, gI Cs 15 b_o.2.2.2.2.2.2.2.2.2.2.1), (q_o_earliest, gI Cs 10 b_o.2.2.2.2.2.2.2.2.2.2.2.1), (q_o_latest, gI Cs 10 b_o.2.2.2.2.2.2.2.2.2.2.2.2.1), (q_o_years, gI Cs 10 b_o.2.2.2.2.2.2.2.2.2.2.2.2.2.1), (q_o_explained, gI Cs 10 b_o.2.2.2.2.2.2.2.2.2.2.2.2.2.2.1), (q_o_together, gI Cs 1024 b_o.2.2.2.2.2.2.2.2.2.2.2.2.2.2.2), (q_a1, .inr (1, [.ref q_a1_cells])), (q_a1_cells, gI Cs 221 v_a1_cells)] sz)) (va_Qi (fun (r : Int32) (u : BH) => post r u) (gB D (va_A [(q_o, .inr (0, [.ref q_o_from, .ref q_o_to, .ref q_o_lengths, .ref q_o_earliest, .ref q_o_latest, .ref q_o_years, .ref q_o_explained, .ref q_o_together, .int b_o.1, .int b_o.2.1, .int b_o.2.2.1, .int b_o.2.2.2.1, .int b_o.2.2.2.2.1, .int b_o.2.2.2.2.2.1, .int b_o.2.2.2.2.2.2.1, .int b_o.2.2.2.2.2.2.2.1])), (q_o_from, gI Cs 15 b_o.2.2.2.2.2.2.2.2.1), (q_o_to, gI Cs 15 b_o.2.2.2.2.2.2.2.2.2.1), (q_o_lengths, gI Cs 15 b_o.2.2.2.2.2.2.2.2.2.2.1), (q_o_earliest, gI Cs 10 b_o.2.2.2.2.2.2.2.2.2.2.2.1), (q_o_latest, gI Cs 10 b_o.2.2.2.2.2.2.2.2.2.2.2.2.1), (q_o_years, gI Cs 10 b_o.2.2.2.2.2.2.2.2.2.2.2.2.2.1), (q_o_explained, gI Cs 10 b_o.2.2.2.2.2.2.2.2.2.2.2.2.2.2.1), (q_o_together, gI Cs 1024 b_o.2.2.2.2.2.2.2.2.2.2.2.2.2.2.2), (q_a1, .inr (1, [.ref q_a1_cells])), (q_a1_cells, gI Cs 221 v_a1_cells)] sz) (fun u : BH => [(q_o, .inr (0, [.ref q_o_from, .ref q_o_to, .ref q_o_lengths, .ref q_o_earliest, .ref q_o_latest, .ref q_o_years, .ref q_o_explained, .ref q_o_together, .int u.1, .int u.2.1, .int u.2.2.1, .int u.2.2.2.1, .int u.2.2.2.2.1, .int u.2.2.2.2.2.1, .int u.2.2.2.2.2.2.1, .int u.2.2.2.2.2.2.2.1])), (q_o_from, gI Cs 15 u.2.2.2.2.2.2.2.2.1), (q_o_to, gI Cs 15 u.2.2.2.2.2.2.2.2.2.1), (q_o_lengths, gI Cs 15 u.2.2.2.2.2.2.2.2.2.2.1), (q_o_earliest, gI Cs 10 u.2.2.2.2.2.2.2.2.2.2.2.1), (q_o_latest, gI Cs 10 u.2.2.2.2.2.2.2.2.2.2.2.2.1), (q_o_years, gI Cs 10 u.2.2.2.2.2.2.2.2.2.2.2.2.2.1), (q_o_explained, gI Cs 10 u.2.2.2.2.2.2.2.2.2.2.2.2.2.2.1), (q_o_together, gI Cs 1024 u.2.2.2.2.2.2.2.2.2.2.2.2.2.2.2), (q_a1, .inr (1, [.ref q_a1_cells])), (q_a1_cells, gI Cs 221 v_a1_cells)])) (va_A [(q_o, .inr (0, [.ref q_o_from, .ref q_o_to, .ref q_o_lengths, .ref q_o_earliest, .ref q_o_latest, .ref q_o_years, .ref q_o_explained, .ref q_o_together, .int b_o.1, .int b_o.2.1, .int b_o.2.2.1, .int b_o.2.2.2.1, .int b_o.2.2.2.2.1, .int b_o.2.2.2.2.2.1, .int b_o.2.2.2.2.2.2.1, .int b_o.2.2.2.2.2.2.2.1])), (q_o_from, gI Cs 15 b_o.2.2.2.2.2.2.2.2.1), (q_o_to, gI Cs 15 b_o.2.2.2.2.2.2.2.2.2.1), (q_o_lengths, gI Cs 15 b_o.2.2.2.2.2.2.2.2.2.2.1), (q_o_earliest, gI Cs 10 b_o.2.2.2.2.2.2.2.2.2.2.2.1), (q_o_latest, gI Cs 10 b_o.2.2.2.2.2.2.2.2.2.2.2.2.1), (q_o_years, gI Cs 10 b_o.2.2.2.2.2.2.2.2.2.2.2.2.2.1), (q_o_explained, gI Cs 10 b_o.2.2.2.2.2.2.2.2.2.2.2.2.2.2.1), (q_o_together, gI Cs 1024 b_o.2.2.2.2.2.2.2.2.2.2.2.2.2.2.2), (q_a1, .inr (1, [.ref q_a1_cells])), (q_a1_cells, gI Cs 221 v_a1_cells)] sz)) 0 0 (va_A [(q_o, .inr (0, [.ref q_o_from, .ref q_o_to, .ref q_o_lengths, .ref q_o_earliest, .ref q_o_latest, .ref q_o_years, .ref q_o_explained, .ref q_o_together, .int b_o.1, .int b_o.2.1, .int b_o.2.2.1, .int b_o.2.2.2.1, .int b_o.2.2.2.2.1, .int b_o.2.2.2.2.2.1, .int b_o.2.2.2.2.2.2.1, .int b_o.2.2.2.2.2.2.2.1])), (q_o_from, gI Cs 15 b_o.2.2.2.2.2.2.2.2.1), (q_o_to, gI Cs 15 b_o.2.2.2.2.2.2.2.2.2.1), (q_o_lengths, gI Cs 15 b_o.2.2.2.2.2.2.2.2.2.2.1), (q_o_earliest, gI Cs 10 b_o.2.2.2.2.2.2.2.2.2.2.2.1), (q_o_latest, gI Cs 10 b_o.2.2.2.2.2.2.2.2.2.2.2.2.1), (q_o_years, gI Cs 10 b_o.2.2.2.2.2.2.2.2.2.2.2.2.2.1), (q_o_explained, gI Cs 10 b_o.2.2.2.2.2.2.2.2.2.2.2.2.2.2.1), (q_o_together, gI Cs 1024 b_o.2.2.2.2.2.2.2.2.2.2.2.2.2.2.2), (q_a1, .inr (1, [.ref q_a1_cells])), (q_a1_cells, gI Cs 221 v_a1_cells)] sz) := by
  refine Met.ofW (cc := cX0_inventedTraits) (maxL := 4) (ret := (some .int)) (by decide) rfl ?_
  intro p e s m args below meth c s₁ B hml hv
  obtain ⟨ha, hsz, hP, hK, hD0, hN⟩ := hv
  have hx := B.exec
  have hb := B.bytes
  have hr := B.returns
  have hts := atoms_spec (ws := wsX0_inventedTraits) B.pre
  have htb : ∀ w ∈ TB, w.before args s = true := fun w h9 => hts w (List.mem_cons_of_mem _ h9)
  have hown : s.vm.findClass RX0 = some m.cls := findClass_of_methodNamed B.named
  have hlocks := B.notSynchronized
  subst hsz
  have hD := hD0.self (sz := s.heap.size)
  generalize hAe : va_A [(q_o, .inr (0, [.ref q_o_from, .ref q_o_to, .ref q_o_lengths, .ref q_o_earliest, .ref q_o_latest, .ref q_o_years, .ref q_o_explained, .ref q_o_together, .int b_o.1, .int b_o.2.1, .int b_o.2.2.1, .int b_o.2.2.2.1, .int b_o.2.2.2.2.1, .int b_o.2.2.2.2.2.1, .int b_o.2.2.2.2.2.2.1, .int b_o.2.2.2.2.2.2.2.1])), (q_o_from, gI Cs 15 b_o.2.2.2.2.2.2.2.2.1), (q_o_to, gI Cs 15 b_o.2.2.2.2.2.2.2.2.2.1), (q_o_lengths, gI Cs 15 b_o.2.2.2.2.2.2.2.2.2.2.1), (q_o_earliest, gI Cs 10 b_o.2.2.2.2.2.2.2.2.2.2.2.1), (q_o_latest, gI Cs 10 b_o.2.2.2.2.2.2.2.2.2.2.2.2.1), (q_o_years, gI Cs 10 b_o.2.2.2.2.2.2.2.2.2.2.2.2.2.1), (q_o_explained, gI Cs 10 b_o.2.2.2.2.2.2.2.2.2.2.2.2.2.2.1), (q_o_together, gI Cs 1024 b_o.2.2.2.2.2.2.2.2.2.2.2.2.2.2.2), (q_a1, .inr (1, [.ref q_a1_cells])), (q_a1_cells, gI Cs 221 v_a1_cells)] s.heap.size = A at hD ⊢
  have hA : ∀ q : Nat, s.heap.size ≤ q → A q := fun q h9 => by rw [← hAe]; exact Or.inr h9
  obtain ⟨H, hH⟩ : ∃ z : Heap, z = s.heap := ⟨_, rfl⟩
  have hS : va_S A s.heap H [] := by rw [hH]; exact va_S.rf
  have hP : va_P D vwCl [(q_o, .inr (0, [.ref q_o_from, .ref q_o_to, .ref q_o_lengths, .ref q_o_earliest, .ref q_o_latest, .ref q_o_years, .ref q_o_explained, .ref q_o_together, .int b_o.1, .int b_o.2.1, .int b_o.2.2.1, .int b_o.2.2.2.1, .int b_o.2.2.2.2.1, .int b_o.2.2.2.2.2.1, .int b_o.2.2.2.2.2.2.1, .int b_o.2.2.2.2.2.2.2.1])), (q_o_from, gI Cs 15 b_o.2.2.2.2.2.2.2.2.1), (q_o_to, gI Cs 15 b_o.2.2.2.2.2.2.2.2.2.1), (q_o_lengths, gI Cs 15 b_o.2.2.2.2.2.2.2.2.2.2.1), (q_o_earliest, gI Cs 10 b_o.2.2.2.2.2.2.2.2.2.2.2.1), (q_o_latest, gI Cs 10 b_o.2.2.2.2.2.2.2.2.2.2.2.2.1), (q_o_years, gI Cs 10 b_o.2.2.2.2.2.2.2.2.2.2.2.2.2.1), (q_o_explained, gI Cs 10 b_o.2.2.2.2.2.2.2.2.2.2.2.2.2.2.1), (q_o_together, gI Cs 1024 b_o.2.2.2.2.2.2.2.2.2.2.2.2.2.2.2), (q_a1, .inr (1, [.ref q_a1_cells])), (q_a1_cells, gI Cs 221 v_a1_cells)] H := by rw [hH]; exact hP
  generalize hQ : MQ below _ args s _ _ _ = Q
  show W p l e ({ frames := 4, cells := 0, slots := 0, locals := 92 } : Room) s m args below meth c s.heap [] 0 0 Q (entryFrame m args 4)
  have hent : entryFrame m args 4 = F0 m 0 ((lg_sl ([.ref q_o, .ref q_a1]) ++ List.replicate (4 - (lg_sl ([.ref q_o, .ref q_a1])).length) Slot.unset).toArray) [] := by rw [ha]; exact lg_entry_eq m ([.ref q_o, .ref q_a1]) 4
  rw [hent]; clear hent
  rw [← hH]
  have hl := lv_entry ([.ref q_o, .ref q_a1]) (n := 4) (Nat.le_of_ble_eq_true rfl)
  generalize (lg_sl ([.ref q_o, .ref q_a1]) ++ List.replicate (4 - (lg_sl ([.ref q_o, .ref q_a1])).length) Slot.unset).toArray = ls at hl ⊢
  have hl : lv_has ls 4 [(0, .ref q_o), (1, .ref q_a1)] := hl
  have L4 : ∀ (n : Nat) (H : Heap) (locs : List Loc) (ls : Array Slot) (d_o : BH) (x2 : Int32) (x3 : Int32), va_P D vwCl [(q_o, .inr (0, [.ref q_o_from, .ref q_o_to, .ref q_o_lengths, .ref q_o_earliest, .ref q_o_latest, .ref q_o_years, .ref q_o_explained, .ref q_o_together, .int d_o.1, .int d_o.2.1, .int d_o.2.2.1, .int d_o.2.2.2.1, .int d_o.2.2.2.2.1, .int d_o.2.2.2.2.2.1, .int d_o.2.2.2.2.2.2.1, .int d_o.2.2.2.2.2.2.2.1])), (q_o_from, gI Cs 15 d_o.2.2.2.2.2.2.2.2.1), (q_o_to, gI Cs 15 d_o.2.2.2.2.2.2.2.2.2.1), (q_o_lengths, gI Cs 15 d_o.2.2.2.2.2.2.2.2.2.2.1), (q_o_earliest, gI Cs 10 d_o.2.2.2.2.2.2.2.2.2.2.2.1), (q_o_latest, gI Cs 10 d_o.2.2.2.2.2.2.2.2.2.2.2.2.1), (q_o_years, gI Cs 10 d_o.2.2.2.2.2.2.2.2.2.2.2.2.2.1), (q_o_explained, gI Cs 10 d_o.2.2.2.2.2.2.2.2.2.2.2.2.2.2.1), (q_o_together, gI Cs 1024 d_o.2.2.2.2.2.2.2.2.2.2.2.2.2.2.2), (q_a1, .inr (1, [.ref q_a1_cells])), (q_a1_cells, gI Cs 221 v_a1_cells)] H → va_D A [(q_o, .inr (0, [.ref q_o_from, .ref q_o_to, .ref q_o_lengths, .ref q_o_earliest, .ref q_o_latest, .ref q_o_years, .ref q_o_explained, .ref q_o_together, .int d_o.1, .int d_o.2.1, .int d_o.2.2.1, .int d_o.2.2.2.1, .int d_o.2.2.2.2.1, .int d_o.2.2.2.2.2.1, .int d_o.2.2.2.2.2.2.1, .int d_o.2.2.2.2.2.2.2.1])), (q_o_from, gI Cs 15 d_o.2.2.2.2.2.2.2.2.1), (q_o_to, gI Cs 15 d_o.2.2.2.2.2.2.2.2.2.1), (q_o_lengths, gI Cs 15 d_o.2.2.2.2.2.2.2.2.2.2.1), (q_o_earliest, gI Cs 10 d_o.2.2.2.2.2.2.2.2.2.2.2.1), (q_o_latest, gI Cs 10 d_o.2.2.2.2.2.2.2.2.2.2.2.2.1), (q_o_years, gI Cs 10 d_o.2.2.2.2.2.2.2.2.2.2.2.2.2.1), (q_o_explained, gI Cs 10 d_o.2.2.2.2.2.2.2.2.2.2.2.2.2.2.1), (q_o_together, gI Cs 1024 d_o.2.2.2.2.2.2.2.2.2.2.2.2.2.2.2), (q_a1, .inr (1, [.ref q_a1_cells])), (q_a1_cells, gI Cs 221 v_a1_cells)] → va_S A s.heap H locs → lv_has ls 4 [(0, .ref q_o), (1, .ref q_a1), (2, .int x2), (3, .int x3)] → P_X0_inventedTraits_l4 b_o v_a1_cells post n d_o x2 x3 → W p l e ({ frames := 4, cells := 0, slots := 0, locals := 92 } : Room) s m args below meth c H locs 0 0 Q (F0 m 4 ls []) := by
    intro n4
    induction n4 with
    | zero => intro H locs ls d_o x2 x3 hP hD hS hl h; exact False.elim h
    | succ n4 ih4 =>
      have B22 : ∀ (H : Heap) (locs : List Loc) (ls : Array Slot) (d_o : BH) (x2 : Int32) (x3 : Int32), va_P D vwCl [(q_o, .inr (0, [.ref q_o_from, .ref q_o_to, .ref q_o_lengths, .ref q_o_earliest, .ref q_o_latest, .ref q_o_years, .ref q_o_explained, .ref q_o_together, .int d_o.1, .int d_o.2.1, .int d_o.2.2.1, .int d_o.2.2.2.1, .int d_o.2.2.2.2.1, .int d_o.2.2.2.2.2.1, .int d_o.2.2.2.2.2.2.1, .int d_o.2.2.2.2.2.2.2.1])), (q_o_from, gI Cs 15 d_o.2.2.2.2.2.2.2.2.1), (q_o_to, gI Cs 15 d_o.2.2.2.2.2.2.2.2.2.1), (q_o_lengths, gI Cs 15 d_o.2.2.2.2.2.2.2.2.2.2.1), (q_o_earliest, gI Cs 10 d_o.2.2.2.2.2.2.2.2.2.2.2.1), (q_o_latest, gI Cs 10 d_o.2.2.2.2.2.2.2.2.2.2.2.2.1), (q_o_years, gI Cs 10 d_o.2.2.2.2.2.2.2.2.2.2.2.2.2.1), (q_o_explained, gI Cs 10 d_o.2.2.2.2.2.2.2.2.2.2.2.2.2.2.1), (q_o_together, gI Cs 1024 d_o.2.2.2.2.2.2.2.2.2.2.2.2.2.2.2), (q_a1, .inr (1, [.ref q_a1_cells])), (q_a1_cells, gI Cs 221 v_a1_cells)] H → va_D A [(q_o, .inr (0, [.ref q_o_from, .ref q_o_to, .ref q_o_lengths, .ref q_o_earliest, .ref q_o_latest, .ref q_o_years, .ref q_o_explained, .ref q_o_together, .int d_o.1, .int d_o.2.1, .int d_o.2.2.1, .int d_o.2.2.2.1, .int d_o.2.2.2.2.1, .int d_o.2.2.2.2.2.1, .int d_o.2.2.2.2.2.2.1, .int d_o.2.2.2.2.2.2.2.1])), (q_o_from, gI Cs 15 d_o.2.2.2.2.2.2.2.2.1), (q_o_to, gI Cs 15 d_o.2.2.2.2.2.2.2.2.2.1), (q_o_lengths, gI Cs 15 d_o.2.2.2.2.2.2.2.2.2.2.1), (q_o_earliest, gI Cs 10 d_o.2.2.2.2.2.2.2.2.2.2.2.1), (q_o_latest, gI Cs 10 d_o.2.2.2.2.2.2.2.2.2.2.2.2.1), (q_o_years, gI Cs 10 d_o.2.2.2.2.2.2.2.2.2.2.2.2.2.1), (q_o_explained, gI Cs 10 d_o.2.2.2.2.2.2.2.2.2.2.2.2.2.2.1), (q_o_together, gI Cs 1024 d_o.2.2.2.2.2.2.2.2.2.2.2.2.2.2.2), (q_a1, .inr (1, [.ref q_a1_cells])), (q_a1_cells, gI Cs 221 v_a1_cells)] → va_S A s.heap H locs → lv_has ls 4 [(0, .ref q_o), (1, .ref q_a1), (2, .int x2), (3, .int x3)] → P_X0_inventedTraits_b22 b_o v_a1_cells post (P_X0_inventedTraits_l4 b_o v_a1_cells post n4) d_o x2 x3 → W p l e ({ frames := 4, cells := 0, slots := 0, locals := 92 } : Room) s m args below meth c H locs 0 0 Q (F0 m 22 ls []) := by
        intro H locs ls d_o x2 x3 hP hD hS hl h
        unfold P_X0_inventedTraits_b22 at h
        obtain ⟨x3_1, ex3_1⟩ : ∃ y : Int32, y = x3 + (1 : Int32) := ⟨_, rfl⟩
        have h := h _ ex3_1
        refine lv_iinc (v := x3_1) (lv' := [(3, .int x3_1), (0, .ref q_o), (1, .ref q_a1), (2, .int x2)]) hx hb dX0_inventedTraits_22 hl (k := 3) rfl (by rw [ex3_1]; rfl) (by decide) rfl (fun ls hl => ?_)
        refine lv_goto (tgt := 4) hx hb dX0_inventedTraits_25 (by decide) ?_
        exact ih4 _ _ _ d_o x2 x3_1 hP hD hS (lv_sub hl [1, 2, 3, 0] rfl) h
      intro H locs ls d_o x2 x3 hP hD hS hl h
      replace h : P_X0_inventedTraits_b4 b_o v_a1_cells post (P_X0_inventedTraits_l4 b_o v_a1_cells post n4) d_o x2 x3 := h
      unfold P_X0_inventedTraits_b4 at h
      refine lv_iload_n hx hb dX0_inventedTraits_4 rfl (lv_at hl 3 rfl) ?_
      refine lv_bipush (v := (6 : Int32)) hx hb dX0_inventedTraits_5 (by decide) ?_
      refine lv_icmp_ge (tgt := 28) hx hb dX0_inventedTraits_7 (by decide) (fun c_2 => ?_) (fun c_2 => ?_)
      · have h := h.1 c_2
        refine lv_iload_n hx hb dX0_inventedTraits_28 rfl (lv_at hl 2 rfl) ?_
        rw [← hQ]
        exact gRetI (u := d_o) hx hb hr rfl h hP hD hS dX0_inventedTraits_29 hlocks
      · have h := h.2 c_2
        refine lv_aload_n hx hb dX0_inventedTraits_10 rfl (lv_at hl 0 rfl) ?_
        refine lv_aload_n hx hb dX0_inventedTraits_11 rfl (lv_at hl 1 rfl) ?_
        refine lv_iload_n hx hb dX0_inventedTraits_12 rfl (lv_at hl 3 rfl) ?_
        refine gVM (wr := []) (As := [.ref q_a1, .int x3]) (rest := []) ⟨hx, hb, hml, hown, htb⟩ hK hP hD hS hA hN [0, 1, 2, 3, 4, 5, 6, 7, 8, 9, 10] [] rfl (by decide) rfl (by decide) (by decide) (c_X0_study l D Cs q_o q_a1 q_o_from q_o_to q_o_lengths q_o_earliest q_o_latest q_o_years q_o_explained q_o_together q_a1_cells H.size d_o v_a1_cells x3 h) (cwV 2 htb (TB_v tb_170 tb_171 tb_172 tb_26 (TB_self tb_173)) rfl rfl rfl z_X0_study ⟨Nat.le_of_ble_eq_true rfl, Nat.le_of_ble_eq_true rfl⟩) 0 rfl rfl rfl rfl hl.1 rfl (Nat.le_of_ble_eq_true rfl) ⟨Nat.le_of_ble_eq_true rfl, Nat.le_of_ble_eq_true rfl⟩ dX0_inventedTraits_13 (fun r_3 m_4 H locs h hP hD hS => ?_)
        have hP : va_P D vwCl [(q_o, .inr (0, [.ref q_o_from, .ref q_o_to, .ref q_o_lengths, .ref q_o_earliest, .ref q_o_latest, .ref q_o_years, .ref q_o_explained, .ref q_o_together, .int m_4.1, .int m_4.2.1, .int m_4.2.2.1, .int m_4.2.2.2.1, .int m_4.2.2.2.2.1, .int m_4.2.2.2.2.2.1, .int m_4.2.2.2.2.2.2.1, .int m_4.2.2.2.2.2.2.2.1])), (q_o_from, gI Cs 15 m_4.2.2.2.2.2.2.2.2.1), (q_o_to, gI Cs 15 m_4.2.2.2.2.2.2.2.2.2.1), (q_o_lengths, gI Cs 15 m_4.2.2.2.2.2.2.2.2.2.2.1), (q_o_earliest, gI Cs 10 m_4.2.2.2.2.2.2.2.2.2.2.2.1), (q_o_latest, gI Cs 10 m_4.2.2.2.2.2.2.2.2.2.2.2.2.1), (q_o_years, gI Cs 10 m_4.2.2.2.2.2.2.2.2.2.2.2.2.2.1), (q_o_explained, gI Cs 10 m_4.2.2.2.2.2.2.2.2.2.2.2.2.2.2.1), (q_o_together, gI Cs 1024 m_4.2.2.2.2.2.2.2.2.2.2.2.2.2.2.2), (q_a1, .inr (1, [.ref q_a1_cells])), (q_a1_cells, gI Cs 221 v_a1_cells)] H := hP
        have hD : va_D A [(q_o, .inr (0, [.ref q_o_from, .ref q_o_to, .ref q_o_lengths, .ref q_o_earliest, .ref q_o_latest, .ref q_o_years, .ref q_o_explained, .ref q_o_together, .int m_4.1, .int m_4.2.1, .int m_4.2.2.1, .int m_4.2.2.2.1, .int m_4.2.2.2.2.1, .int m_4.2.2.2.2.2.1, .int m_4.2.2.2.2.2.2.1, .int m_4.2.2.2.2.2.2.2.1])), (q_o_from, gI Cs 15 m_4.2.2.2.2.2.2.2.2.1), (q_o_to, gI Cs 15 m_4.2.2.2.2.2.2.2.2.2.1), (q_o_lengths, gI Cs 15 m_4.2.2.2.2.2.2.2.2.2.2.1), (q_o_earliest, gI Cs 10 m_4.2.2.2.2.2.2.2.2.2.2.2.1), (q_o_latest, gI Cs 10 m_4.2.2.2.2.2.2.2.2.2.2.2.2.1), (q_o_years, gI Cs 10 m_4.2.2.2.2.2.2.2.2.2.2.2.2.2.1), (q_o_explained, gI Cs 10 m_4.2.2.2.2.2.2.2.2.2.2.2.2.2.2.1), (q_o_together, gI Cs 1024 m_4.2.2.2.2.2.2.2.2.2.2.2.2.2.2.2), (q_a1, .inr (1, [.ref q_a1_cells])), (q_a1_cells, gI Cs 221 v_a1_cells)] := hD
        refine lv_if_le (tgt := 22) hx hb dX0_inventedTraits_16 (by decide) (fun c_5 => ?_) (fun c_5 => ?_)
        · have h := h.1 c_5
          exact B22 _ _ _ m_4 x2 x3 hP hD hS (lv_sub hl [0, 1, 2, 3] rfl) h
        · have h := h.2 c_5
          obtain ⟨x2_6, ex2_6⟩ : ∃ y : Int32, y = x2 + (1 : Int32) := ⟨_, rfl⟩
          have h := h _ ex2_6
          refine lv_iinc (v := x2_6) (lv' := [(2, .int x2_6), (0, .ref q_o), (1, .ref q_a1), (3, .int x3)]) hx hb dX0_inventedTraits_19 hl (k := 2) rfl (by rw [ex2_6]; rfl) (by decide) rfl (fun ls hl => ?_)
          exact B22 _ _ _ m_4 x2_6 x3 hP hD hS (lv_sub hl [1, 2, 0, 3] rfl) h
  unfold P_X0_inventedTraits at h
  refine lv_iconst (v := (0 : Int32)) hx hb dX0_inventedTraits_0 (by decide) ?_
  refine lv_istore_n (lv' := [(2, .int (0 : Int32)), (0, .ref q_o), (1, .ref q_a1)]) hx hb dX0_inventedTraits_1 rfl hl (by decide) rfl (fun ls hl => ?_)
  refine lv_iconst (v := (0 : Int32)) hx hb dX0_inventedTraits_2 (by decide) ?_
  refine lv_istore_n (lv' := [(3, .int (0 : Int32)), (2, .int (0 : Int32)), (0, .ref q_o), (1, .ref q_a1)]) hx hb dX0_inventedTraits_3 rfl hl (by decide) rfl (fun ls hl => ?_)
  obtain ⟨n, h⟩ := h
  exact L4 n _ _ _ b_o (0 : Int32) (0 : Int32) hP hD hS (lv_sub hl [2, 3, 1, 0] rfl) h
set_option maxHeartbeats 4000000 in
set_option maxRecDepth 100000 in
theorem c_X0_sinceWhen (l : Launch) (D : va_G) (Cs : Nat → ClassId) (q_o : Nat) (q_a1 : Nat) (q_o_from : Nat) (q_o_to : Nat) (q_o_lengths : Nat) (q_o_earliest : Nat) (q_o_latest : Nat) (q_o_years : Nat) (q_o_explained : Nat) (q_o_together : Nat) (q_a1_cells : Nat) (sz : Nat) (b_o : BH) (v_a1_cells : (Nat → Int32)) (x2 : Int32) (x3 : Int32) {post : Int32 → BH → Prop} (h : P_X0_sinceWhen b_o v_a1_cells x2 x3 post) : Met l yX0_sinceWhen wsX0_sinceWhen ({ frames := 4, cells := 0, slots := 0, locals := 92 } : Room) (va_Pc [.ref q_o, .ref q_a1, .int x2, .int x3] (gM D Cs [(q_o, .inr (0, [.ref q_o_from, .ref q_o_to, .ref q_o_lengths, .ref q_o_earliest, .ref q_o_latest, .ref q_o_years, .ref q_o_explained, .ref q_o_together, .int b_o.1, .int b_o.2.1, .int b_o.2.2.1, .int b_o.2.2.2.1, .int b_o.2.2.2.2.1, .int b_o.2.2.2.2.2.1, .int b_o.2.2.2.2.2.2.1, .int b_o.2.2.2.2.2.2.2.1])), (q_o_from, gI Cs 15 b_o.2.2.2.2.2.2.2.2.1), (q_o_to, gI Cs 15 b_o.2.2.2.2.2.2.2.2.2.1), (q_o_lengths, gI Cs 15 b_o.2.2.2.2.2.2.2.2.2.2.1), (q_o_earliest, gI Cs 10 b_o.2.2.2.2.2.2.2.2.2.2.2.1), (q_o_latest, gI Cs 10 b_o.2.2.2.2.2.2.2.2.2.2.2.2.1), (q_o_years, gI Cs 10 b_o.2.2.2.2.2.2.2.2.2.2.2.2.2.1), (q_o_explained, gI Cs 10 b_o.2.2.2.2.2.2.2.2.2.2.2.2.2.2.1), (q_o_together, gI Cs 1024 b_o.2.2.2.2.2.2.2.2.2.2.2.2.2.2.2), (q_a1, .inr (1, [.ref q_a1_cells])), (q_a1_cells, gI Cs 221 v_a1_cells)] sz)) (va_Qi (fun (r : Int32) (u : BH) => post r u) (gB D (va_A [(q_o, .inr (0, [.ref q_o_from, .ref q_o_to, .ref q_o_lengths, .ref q_o_earliest, .ref q_o_latest, .ref q_o_years, .ref q_o_explained, .ref q_o_together, .int b_o.1, .int b_o.2.1, .int b_o.2.2.1, .int b_o.2.2.2.1, .int b_o.2.2.2.2.1, .int b_o.2.2.2.2.2.1, .int b_o.2.2.2.2.2.2.1, .int b_o.2.2.2.2.2.2.2.1])), (q_o_from, gI Cs 15 b_o.2.2.2.2.2.2.2.2.1), (q_o_to, gI Cs 15 b_o.2.2.2.2.2.2.2.2.2.1), (q_o_lengths, gI Cs 15 b_o.2.2.2.2.2.2.2.2.2.2.1), (q_o_earliest, gI Cs 10 b_o.2.2.2.2.2.2.2.2.2.2.2.1), (q_o_latest, gI Cs 10 b_o.2.2.2.2.2.2.2.2.2.2.2.2.1), (q_o_years, gI Cs 10 b_o.2.2.2.2.2.2.2.2.2.2.2.2.2.1), (q_o_explained, gI Cs 10 b_o.2.2.2.2.2.2.2.2.2.2.2.2.2.2.1), (q_o_together, gI Cs 1024 b_o.2.2.2.2.2.2.2.2.2.2.2.2.2.2.2), (q_a1, .inr (1, [.ref q_a1_cells])), (q_a1_cells, gI Cs 221 v_a1_cells)] sz) (fun u : BH => [(q_o, .inr (0, [.ref q_o_from, .ref q_o_to, .ref q_o_lengths, .ref q_o_earliest, .ref q_o_latest, .ref q_o_years, .ref q_o_explained, .ref q_o_together, .int u.1, .int u.2.1, .int u.2.2.1, .int u.2.2.2.1, .int u.2.2.2.2.1, .int u.2.2.2.2.2.1, .int u.2.2.2.2.2.2.1, .int u.2.2.2.2.2.2.2.1])), (q_o_from, gI Cs 15 u.2.2.2.2.2.2.2.2.1), (q_o_to, gI Cs 15 u.2.2.2.2.2.2.2.2.2.1), (q_o_lengths, gI Cs 15 u.2.2.2.2.2.2.2.2.2.2.1), (q_o_earliest, gI Cs 10 u.2.2.2.2.2.2.2.2.2.2.2.1), (q_o_latest, gI Cs 10 u.2.2.2.2.2.2.2.2.2.2.2.2.1), (q_o_years, gI Cs 10 u.2.2.2.2.2.2.2.2.2.2.2.2.2.1), (q_o_explained, gI Cs 10 u.2.2.2.2.2.2.2.2.2.2.2.2.2.2.1), (q_o_together, gI Cs 1024 u.2.2.2.2.2.2.2.2.2.2.2.2.2.2.2), (q_a1, .inr (1, [.ref q_a1_cells])), (q_a1_cells, gI Cs 221 v_a1_cells)])) (va_A [(q_o, .inr (0, [.ref q_o_from, .ref q_o_to, .ref q_o_lengths, .ref q_o_earliest, .ref q_o_latest, .ref q_o_years, .ref q_o_explained, .ref q_o_together, .int b_o.1, .int b_o.2.1, .int b_o.2.2.1, .int b_o.2.2.2.1, .int b_o.2.2.2.2.1, .int b_o.2.2.2.2.2.1, .int b_o.2.2.2.2.2.2.1, .int b_o.2.2.2.2.2.2.2.1])), (q_o_from, gI Cs 15 b_o.2.2.2.2.2.2.2.2.1), (q_o_to, gI Cs 15 b_o.2.2.2.2.2.2.2.2.2.1), (q_o_lengths, gI Cs 15 b_o.2.2.2.2.2.2.2.2.2.2.1), (q_o_earliest, gI Cs 10 b_o.2.2.2.2.2.2.2.2.2.2.2.1), (q_o_latest, gI Cs 10 b_o.2.2.2.2.2.2.2.2.2.2.2.2.1), (q_o_years, gI Cs 10 b_o.2.2.2.2.2.2.2.2.2.2.2.2.2.1), (q_o_explained, gI Cs 10 b_o.2.2.2.2.2.2.2.2.2.2.2.2.2.2.1), (q_o_together, gI Cs 1024 b_o.2.2.2.2.2.2.2.2.2.2.2.2.2.2.2), (q_a1, .inr (1, [.ref q_a1_cells])), (q_a1_cells, gI Cs 221 v_a1_cells)] sz)) 0 0 (va_A [(q_o, .inr (0, [.ref q_o_from, .ref q_o_to, .ref q_o_lengths, .ref q_o_earliest, .ref q_o_latest, .ref q_o_years, .ref q_o_explained, .ref q_o_together, .int b_o.1, .int b_o.2.1, .int b_o.2.2.1, .int b_o.2.2.2.1, .int b_o.2.2.2.2.1, .int b_o.2.2.2.2.2.1, .int b_o.2.2.2.2.2.2.1, .int b_o.2.2.2.2.2.2.2.1])), (q_o_from, gI Cs 15 b_o.2.2.2.2.2.2.2.2.1), (q_o_to, gI Cs 15 b_o.2.2.2.2.2.2.2.2.2.1), (q_o_lengths, gI Cs 15 b_o.2.2.2.2.2.2.2.2.2.2.1), (q_o_earliest, gI Cs 10 b_o.2.2.2.2.2.2.2.2.2.2.2.1), (q_o_latest, gI Cs 10 b_o.2.2.2.2.2.2.2.2.2.2.2.2.1), (q_o_years, gI Cs 10 b_o.2.2.2.2.2.2.2.2.2.2.2.2.2.1), (q_o_explained, gI Cs 10 b_o.2.2.2.2.2.2.2.2.2.2.2.2.2.2.1), (q_o_together, gI Cs 1024 b_o.2.2.2.2.2.2.2.2.2.2.2.2.2.2.2), (q_a1, .inr (1, [.ref q_a1_cells])), (q_a1_cells, gI Cs 221 v_a1_cells)] sz) := by
  refine Met.ofW (cc := cX0_sinceWhen) (maxL := 4) (ret := (some .int)) (by decide) rfl ?_
  intro p e s m args below meth c s₁ B hml hv
  obtain ⟨ha, hsz, hP, hK, hD0, hN⟩ := hv
  have hx := B.exec
  have hb := B.bytes
  have hr := B.returns
  have hts := atoms_spec (ws := wsX0_sinceWhen) B.pre
  have htb : ∀ w ∈ TB, w.before args s = true := fun w h9 => hts w (List.mem_cons_of_mem _ h9)
  have hown : s.vm.findClass RX0 = some m.cls := findClass_of_methodNamed B.named
  have hlocks := B.notSynchronized
  subst hsz
  have hD := hD0.self (sz := s.heap.size)
  generalize hAe : va_A [(q_o, .inr (0, [.ref q_o_from, .ref q_o_to, .ref q_o_lengths, .ref q_o_earliest, .ref q_o_latest, .ref q_o_years, .ref q_o_explained, .ref q_o_together, .int b_o.1, .int b_o.2.1, .int b_o.2.2.1, .int b_o.2.2.2.1, .int b_o.2.2.2.2.1, .int b_o.2.2.2.2.2.1, .int b_o.2.2.2.2.2.2.1, .int b_o.2.2.2.2.2.2.2.1])), (q_o_from, gI Cs 15 b_o.2.2.2.2.2.2.2.2.1), (q_o_to, gI Cs 15 b_o.2.2.2.2.2.2.2.2.2.1), (q_o_lengths, gI Cs 15 b_o.2.2.2.2.2.2.2.2.2.2.1), (q_o_earliest, gI Cs 10 b_o.2.2.2.2.2.2.2.2.2.2.2.1), (q_o_latest, gI Cs 10 b_o.2.2.2.2.2.2.2.2.2.2.2.2.1), (q_o_years, gI Cs 10 b_o.2.2.2.2.2.2.2.2.2.2.2.2.2.1), (q_o_explained, gI Cs 10 b_o.2.2.2.2.2.2.2.2.2.2.2.2.2.2.1), (q_o_together, gI Cs 1024 b_o.2.2.2.2.2.2.2.2.2.2.2.2.2.2.2), (q_a1, .inr (1, [.ref q_a1_cells])), (q_a1_cells, gI Cs 221 v_a1_cells)] s.heap.size = A at hD ⊢
  have hA : ∀ q : Nat, s.heap.size ≤ q → A q := fun q h9 => by rw [← hAe]; exact Or.inr h9
  obtain ⟨H, hH⟩ : ∃ z : Heap, z = s.heap := ⟨_, rfl⟩
  have hS : va_S A s.heap H [] := by rw [hH]; exact va_S.rf
  have hP : va_P D vwCl [(q_o, .inr (0, [.ref q_o_from, .ref q_o_to, .ref q_o_lengths, .ref q_o_earliest, .ref q_o_latest, .ref q_o_years, .ref q_o_explained, .ref q_o_together, .int b_o.1, .int b_o.2.1, .int b_o.2.2.1, .int b_o.2.2.2.1, .int b_o.2.2.2.2.1, .int b_o.2.2.2.2.2.1, .int b_o.2.2.2.2.2.2.1, .int b_o.2.2.2.2.2.2.2.1])), (q_o_from, gI Cs 15 b_o.2.2.2.2.2.2.2.2.1), (q_o_to, gI Cs 15 b_o.2.2.2.2.2.2.2.2.2.1), (q_o_lengths, gI Cs 15 b_o.2.2.2.2.2.2.2.2.2.2.1), (q_o_earliest, gI Cs 10 b_o.2.2.2.2.2.2.2.2.2.2.2.1), (q_o_latest, gI Cs 10 b_o.2.2.2.2.2.2.2.2.2.2.2.2.1), (q_o_years, gI Cs 10 b_o.2.2.2.2.2.2.2.2.2.2.2.2.2.1), (q_o_explained, gI Cs 10 b_o.2.2.2.2.2.2.2.2.2.2.2.2.2.2.1), (q_o_together, gI Cs 1024 b_o.2.2.2.2.2.2.2.2.2.2.2.2.2.2.2), (q_a1, .inr (1, [.ref q_a1_cells])), (q_a1_cells, gI Cs 221 v_a1_cells)] H := by rw [hH]; exact hP
  generalize hQ : MQ below _ args s _ _ _ = Q
  show W p l e ({ frames := 4, cells := 0, slots := 0, locals := 92 } : Room) s m args below meth c s.heap [] 0 0 Q (entryFrame m args 4)
  have hent : entryFrame m args 4 = F0 m 0 ((lg_sl ([.ref q_o, .ref q_a1, .int x2, .int x3]) ++ List.replicate (4 - (lg_sl ([.ref q_o, .ref q_a1, .int x2, .int x3])).length) Slot.unset).toArray) [] := by rw [ha]; exact lg_entry_eq m ([.ref q_o, .ref q_a1, .int x2, .int x3]) 4
  rw [hent]; clear hent
  rw [← hH]
  have hl := lv_entry ([.ref q_o, .ref q_a1, .int x2, .int x3]) (n := 4) (Nat.le_of_ble_eq_true rfl)
  generalize (lg_sl ([.ref q_o, .ref q_a1, .int x2, .int x3]) ++ List.replicate (4 - (lg_sl ([.ref q_o, .ref q_a1, .int x2, .int x3])).length) Slot.unset).toArray = ls at hl ⊢
  have hl : lv_has ls 4 [(0, .ref q_o), (1, .ref q_a1), (2, .int x2), (3, .int x3)] := hl
  have B41 : ∀ (H : Heap) (locs : List Loc) (ls : Array Slot) (d_o : BH) (s0 : Int32), va_P D vwCl [(q_o, .inr (0, [.ref q_o_from, .ref q_o_to, .ref q_o_lengths, .ref q_o_earliest, .ref q_o_latest, .ref q_o_years, .ref q_o_explained, .ref q_o_together, .int d_o.1, .int d_o.2.1, .int d_o.2.2.1, .int d_o.2.2.2.1, .int d_o.2.2.2.2.1, .int d_o.2.2.2.2.2.1, .int d_o.2.2.2.2.2.2.1, .int d_o.2.2.2.2.2.2.2.1])), (q_o_from, gI Cs 15 d_o.2.2.2.2.2.2.2.2.1), (q_o_to, gI Cs 15 d_o.2.2.2.2.2.2.2.2.2.1), (q_o_lengths, gI Cs 15 d_o.2.2.2.2.2.2.2.2.2.2.1), (q_o_earliest, gI Cs 10 d_o.2.2.2.2.2.2.2.2.2.2.2.1), (q_o_latest, gI Cs 10 d_o.2.2.2.2.2.2.2.2.2.2.2.2.1), (q_o_years, gI Cs 10 d_o.2.2.2.2.2.2.2.2.2.2.2.2.2.1), (q_o_explained, gI Cs 10 d_o.2.2.2.2.2.2.2.2.2.2.2.2.2.2.1), (q_o_together, gI Cs 1024 d_o.2.2.2.2.2.2.2.2.2.2.2.2.2.2.2), (q_a1, .inr (1, [.ref q_a1_cells])), (q_a1_cells, gI Cs 221 v_a1_cells)] H → va_D A [(q_o, .inr (0, [.ref q_o_from, .ref q_o_to, .ref q_o_lengths, .ref q_o_earliest, .ref q_o_latest, .ref q_o_years, .ref q_o_explained, .ref q_o_together, .int d_o.1, .int d_o.2.1, .int d_o.2.2.1, .int d_o.2.2.2.1, .int d_o.2.2.2.2.1, .int d_o.2.2.2.2.2.1, .int d_o.2.2.2.2.2.2.1, .int d_o.2.2.2.2.2.2.2.1])), (q_o_from, gI Cs 15 d_o.2.2.2.2.2.2.2.2.1), (q_o_to, gI Cs 15 d_o.2.2.2.2.2.2.2.2.2.1), (q_o_lengths, gI Cs 15 d_o.2.2.2.2.2.2.2.2.2.2.1), (q_o_earliest, gI Cs 10 d_o.2.2.2.2.2.2.2.2.2.2.2.1), (q_o_latest, gI Cs 10 d_o.2.2.2.2.2.2.2.2.2.2.2.2.1), (q_o_years, gI Cs 10 d_o.2.2.2.2.2.2.2.2.2.2.2.2.2.1), (q_o_explained, gI Cs 10 d_o.2.2.2.2.2.2.2.2.2.2.2.2.2.2.1), (q_o_together, gI Cs 1024 d_o.2.2.2.2.2.2.2.2.2.2.2.2.2.2.2), (q_a1, .inr (1, [.ref q_a1_cells])), (q_a1_cells, gI Cs 221 v_a1_cells)] → va_S A s.heap H locs → lv_has ls 4 [(0, .ref q_o), (1, .ref q_a1), (2, .int x2), (3, .int x3)] → P_X0_sinceWhen_b41 b_o v_a1_cells x2 x3 post d_o s0 → W p l e ({ frames := 4, cells := 0, slots := 0, locals := 92 } : Room) s m args below meth c H locs 0 0 Q (F0 m 41 ls [.int s0]) := by
    intro H locs ls d_o s0 hP hD hS hl h
    unfold P_X0_sinceWhen_b41 at h
    rw [← hQ]
    exact gRetI (u := d_o) hx hb hr rfl h hP hD hS dX0_sinceWhen_41 hlocks
  have B40 : ∀ (H : Heap) (locs : List Loc) (ls : Array Slot) (d_o : BH), va_P D vwCl [(q_o, .inr (0, [.ref q_o_from, .ref q_o_to, .ref q_o_lengths, .ref q_o_earliest, .ref q_o_latest, .ref q_o_years, .ref q_o_explained, .ref q_o_together, .int d_o.1, .int d_o.2.1, .int d_o.2.2.1, .int d_o.2.2.2.1, .int d_o.2.2.2.2.1, .int d_o.2.2.2.2.2.1, .int d_o.2.2.2.2.2.2.1, .int d_o.2.2.2.2.2.2.2.1])), (q_o_from, gI Cs 15 d_o.2.2.2.2.2.2.2.2.1), (q_o_to, gI Cs 15 d_o.2.2.2.2.2.2.2.2.2.1), (q_o_lengths, gI Cs 15 d_o.2.2.2.2.2.2.2.2.2.2.1), (q_o_earliest, gI Cs 10 d_o.2.2.2.2.2.2.2.2.2.2.2.1), (q_o_latest, gI Cs 10 d_o.2.2.2.2.2.2.2.2.2.2.2.2.1), (q_o_years, gI Cs 10 d_o.2.2.2.2.2.2.2.2.2.2.2.2.2.1), (q_o_explained, gI Cs 10 d_o.2.2.2.2.2.2.2.2.2.2.2.2.2.2.1), (q_o_together, gI Cs 1024 d_o.2.2.2.2.2.2.2.2.2.2.2.2.2.2.2), (q_a1, .inr (1, [.ref q_a1_cells])), (q_a1_cells, gI Cs 221 v_a1_cells)] H → va_D A [(q_o, .inr (0, [.ref q_o_from, .ref q_o_to, .ref q_o_lengths, .ref q_o_earliest, .ref q_o_latest, .ref q_o_years, .ref q_o_explained, .ref q_o_together, .int d_o.1, .int d_o.2.1, .int d_o.2.2.1, .int d_o.2.2.2.1, .int d_o.2.2.2.2.1, .int d_o.2.2.2.2.2.1, .int d_o.2.2.2.2.2.2.1, .int d_o.2.2.2.2.2.2.2.1])), (q_o_from, gI Cs 15 d_o.2.2.2.2.2.2.2.2.1), (q_o_to, gI Cs 15 d_o.2.2.2.2.2.2.2.2.2.1), (q_o_lengths, gI Cs 15 d_o.2.2.2.2.2.2.2.2.2.2.1), (q_o_earliest, gI Cs 10 d_o.2.2.2.2.2.2.2.2.2.2.2.1), (q_o_latest, gI Cs 10 d_o.2.2.2.2.2.2.2.2.2.2.2.2.1), (q_o_years, gI Cs 10 d_o.2.2.2.2.2.2.2.2.2.2.2.2.2.1), (q_o_explained, gI Cs 10 d_o.2.2.2.2.2.2.2.2.2.2.2.2.2.2.1), (q_o_together, gI Cs 1024 d_o.2.2.2.2.2.2.2.2.2.2.2.2.2.2.2), (q_a1, .inr (1, [.ref q_a1_cells])), (q_a1_cells, gI Cs 221 v_a1_cells)] → va_S A s.heap H locs → lv_has ls 4 [(0, .ref q_o), (1, .ref q_a1), (2, .int x2), (3, .int x3)] → P_X0_sinceWhen_b40 b_o v_a1_cells x2 x3 post d_o → W p l e ({ frames := 4, cells := 0, slots := 0, locals := 92 } : Room) s m args below meth c H locs 0 0 Q (F0 m 40 ls []) := by
    intro H locs ls d_o hP hD hS hl h
    unfold P_X0_sinceWhen_b40 at h
    refine lv_iconst (v := (-1 : Int32)) hx hb dX0_sinceWhen_40 (by decide) ?_
    exact B41 _ _ _ d_o (-1 : Int32) hP hD hS (lv_sub hl [0, 1, 2, 3] rfl) h
  unfold P_X0_sinceWhen at h
  refine lv_aload_n hx hb dX0_sinceWhen_0 rfl (lv_at hl 0 rfl) ?_
  refine lv_aload_n hx hb dX0_sinceWhen_1 rfl (lv_at hl 1 rfl) ?_
  refine lv_iload_n hx hb dX0_sinceWhen_2 rfl (lv_at hl 3 rfl) ?_
  refine gVM (wr := []) (As := [.ref q_a1, .int x3]) (rest := []) ⟨hx, hb, hml, hown, htb⟩ hK hP hD hS hA hN [0, 1, 2, 3, 4, 5, 6, 7, 8, 9, 10] [] rfl (by decide) rfl (by decide) (by decide) (c_X0_study l D Cs q_o q_a1 q_o_from q_o_to q_o_lengths q_o_earliest q_o_latest q_o_years q_o_explained q_o_together q_a1_cells H.size b_o v_a1_cells x3 h) (cwV 2 htb (TB_v tb_170 tb_171 tb_172 tb_26 (TB_self tb_173)) rfl rfl rfl z_X0_study ⟨Nat.le_of_ble_eq_true rfl, Nat.le_of_ble_eq_true rfl⟩) 0 rfl rfl rfl rfl hl.1 rfl (Nat.le_of_ble_eq_true rfl) ⟨Nat.le_of_ble_eq_true rfl, Nat.le_of_ble_eq_true rfl⟩ dX0_sinceWhen_3 (fun r_1 m_2 H locs h hP hD hS => ?_)
  have hP : va_P D vwCl [(q_o, .inr (0, [.ref q_o_from, .ref q_o_to, .ref q_o_lengths, .ref q_o_earliest, .ref q_o_latest, .ref q_o_years, .ref q_o_explained, .ref q_o_together, .int m_2.1, .int m_2.2.1, .int m_2.2.2.1, .int m_2.2.2.2.1, .int m_2.2.2.2.2.1, .int m_2.2.2.2.2.2.1, .int m_2.2.2.2.2.2.2.1, .int m_2.2.2.2.2.2.2.2.1])), (q_o_from, gI Cs 15 m_2.2.2.2.2.2.2.2.2.1), (q_o_to, gI Cs 15 m_2.2.2.2.2.2.2.2.2.2.1), (q_o_lengths, gI Cs 15 m_2.2.2.2.2.2.2.2.2.2.2.1), (q_o_earliest, gI Cs 10 m_2.2.2.2.2.2.2.2.2.2.2.2.1), (q_o_latest, gI Cs 10 m_2.2.2.2.2.2.2.2.2.2.2.2.2.1), (q_o_years, gI Cs 10 m_2.2.2.2.2.2.2.2.2.2.2.2.2.2.1), (q_o_explained, gI Cs 10 m_2.2.2.2.2.2.2.2.2.2.2.2.2.2.2.1), (q_o_together, gI Cs 1024 m_2.2.2.2.2.2.2.2.2.2.2.2.2.2.2.2), (q_a1, .inr (1, [.ref q_a1_cells])), (q_a1_cells, gI Cs 221 v_a1_cells)] H := hP
  have hD : va_D A [(q_o, .inr (0, [.ref q_o_from, .ref q_o_to, .ref q_o_lengths, .ref q_o_earliest, .ref q_o_latest, .ref q_o_years, .ref q_o_explained, .ref q_o_together, .int m_2.1, .int m_2.2.1, .int m_2.2.2.1, .int m_2.2.2.2.1, .int m_2.2.2.2.2.1, .int m_2.2.2.2.2.2.1, .int m_2.2.2.2.2.2.2.1, .int m_2.2.2.2.2.2.2.2.1])), (q_o_from, gI Cs 15 m_2.2.2.2.2.2.2.2.2.1), (q_o_to, gI Cs 15 m_2.2.2.2.2.2.2.2.2.2.1), (q_o_lengths, gI Cs 15 m_2.2.2.2.2.2.2.2.2.2.2.1), (q_o_earliest, gI Cs 10 m_2.2.2.2.2.2.2.2.2.2.2.2.1), (q_o_latest, gI Cs 10 m_2.2.2.2.2.2.2.2.2.2.2.2.2.1), (q_o_years, gI Cs 10 m_2.2.2.2.2.2.2.2.2.2.2.2.2.2.1), (q_o_explained, gI Cs 10 m_2.2.2.2.2.2.2.2.2.2.2.2.2.2.2.1), (q_o_together, gI Cs 1024 m_2.2.2.2.2.2.2.2.2.2.2.2.2.2.2.2), (q_a1, .inr (1, [.ref q_a1_cells])), (q_a1_cells, gI Cs 221 v_a1_cells)] := hD
  refine lv_pop hx hb dX0_sinceWhen_6 rfl ?_
  refine lv_iload_n hx hb dX0_sinceWhen_7 rfl (lv_at hl 2 rfl) ?_
  refine lv_if_lt (tgt := 40) hx hb dX0_sinceWhen_8 (by decide) (fun c_3 => ?_) (fun c_3 => ?_)
  · have h := h.1 c_3
    exact B40 _ _ _ m_2 hP hD hS (lv_sub hl [0, 1, 2, 3] rfl) h
  · have h := h.2 c_3
    refine lv_iload_n hx hb dX0_sinceWhen_11 rfl (lv_at hl 2 rfl) ?_
    refine lv_aload_n hx hb dX0_sinceWhen_12 rfl (lv_at hl 0 rfl) ?_
    refine va_get (D := D) (ci := 0) (v := .int m_2.1) (C := RX0) (T := TX0) (N := 16) hx hb htb inT_X0 hown hK hP 0 rfl rfl 8 (by decide) (htb _ tb_178) (fun _ h9 => h9) rfl dX0_sinceWhen_13 ?_
    refine lv_icmp_ge (tgt := 40) hx hb dX0_sinceWhen_16 (by decide) (fun c_4 => ?_) (fun c_4 => ?_)
    · have h := h.1 c_4
      exact B40 _ _ _ m_2 hP hD hS (lv_sub hl [0, 1, 2, 3] rfl) h
    · have h := h.2 c_4
      refine lv_aload_n hx hb dX0_sinceWhen_19 rfl (lv_at hl 0 rfl) ?_
      refine va_get (D := D) (ci := 0) (v := .ref q_o_years) (C := RX0) (T := TX0) (N := 16) hx hb htb inT_X0 hown hK hP 0 rfl rfl 5 (by decide) (htb _ tb_70) (fun _ h9 => h9) rfl dX0_sinceWhen_20 ?_
      refine lv_iload_n hx hb dX0_sinceWhen_23 rfl (lv_at hl 2 rfl) ?_
      obtain ⟨hi_5, h⟩ := h
      refine va_iald hx hb hK hP 6 0 rfl rfl hi_5 dX0_sinceWhen_24 ?_
      refine lv_sipush (v := (1000 : Int32)) hx hb dX0_sinceWhen_25 (by decide) ?_
      refine lv_icmp_ge (tgt := 40) hx hb dX0_sinceWhen_28 (by decide) (fun c_6 => ?_) (fun c_6 => ?_)
      · have h := h.1 c_6
        exact B40 _ _ _ m_2 hP hD hS (lv_sub hl [0, 1, 2, 3] rfl) h
      · have h := h.2 c_6
        refine lv_aload_n hx hb dX0_sinceWhen_31 rfl (lv_at hl 0 rfl) ?_
        refine va_get (D := D) (ci := 0) (v := .ref q_o_years) (C := RX0) (T := TX0) (N := 16) hx hb htb inT_X0 hown hK hP 0 rfl rfl 5 (by decide) (htb _ tb_70) (fun _ h9 => h9) rfl dX0_sinceWhen_32 ?_
        refine lv_iload_n hx hb dX0_sinceWhen_35 rfl (lv_at hl 2 rfl) ?_
        obtain ⟨hi_7, h⟩ := h
        refine va_iald hx hb hK hP 6 0 rfl rfl hi_7 dX0_sinceWhen_36 ?_
        refine lv_goto (tgt := 41) hx hb dX0_sinceWhen_37 (by decide) ?_
        exact B41 _ _ _ m_2 (m_2.2.2.2.2.2.2.2.2.2.2.2.2.2.1 x2.toNatClampNeg) hP hD hS (lv_sub hl [0, 1, 2, 3] rfl) h
set_option maxHeartbeats 4000000 in
set_option maxRecDepth 100000 in
theorem c_X0_townsBefore (l : Launch) (D : va_G) (Cs : Nat → ClassId) (q_o : Nat) (q_o_from : Nat) (q_o_to : Nat) (q_o_lengths : Nat) (q_o_earliest : Nat) (q_o_latest : Nat) (q_o_years : Nat) (q_o_explained : Nat) (q_o_together : Nat) (v_o_towns : Int32) (v_o_years : (Nat → Int32)) (v_o_roads : Int32) (v_o_known : Int32) (v_o_fewest : Int32) (v_o_origins : Int32) (v_o_always : Int32) (v_o_sometimes : Int32) (v_o_leastSets : Int32) (x1 : Int32) {post : Int32 → Prop} (h : P_X0_townsBefore v_o_towns v_o_years x1 post) : Met l yX0_townsBefore wsX0_townsBefore ({ frames := 0, cells := 0, slots := 0, locals := 0 } : Room) (va_Pc [.ref q_o, .int x1] (gR D Cs [(q_o, .inr (0, [.ref q_o_from, .ref q_o_to, .ref q_o_lengths, .ref q_o_earliest, .ref q_o_latest, .ref q_o_years, .ref q_o_explained, .ref q_o_together, .int v_o_towns, .int v_o_roads, .int v_o_known, .int v_o_fewest, .int v_o_origins, .int v_o_always, .int v_o_sometimes, .int v_o_leastSets])), (q_o_years, gI Cs 10 v_o_years)])) (vp_Si post) 0 0 (fun _ => False) := by
  refine Met.ofW (cc := cX0_townsBefore) (maxL := 4) (ret := (some .int)) (by decide) rfl ?_
  intro p e s m args below meth c s₁ B hml hv
  obtain ⟨ha, hP, hK, hN⟩ := hv
  have hx := B.exec
  have hb := B.bytes
  have hr := B.returns
  have hts := atoms_spec (ws := wsX0_townsBefore) B.pre
  have htb : ∀ w ∈ TB, w.before args s = true := fun w h9 => hts w (List.mem_cons_of_mem _ h9)
  have hown : s.vm.findClass RX0 = some m.cls := findClass_of_methodNamed B.named
  have hlocks := B.notSynchronized
  generalize hQ : MQ below _ args s _ _ _ = Q
  show W p l e ({ frames := 0, cells := 0, slots := 0, locals := 0 } : Room) s m args below meth c s.heap [] 0 0 Q (entryFrame m args 4)
  have hent : entryFrame m args 4 = F0 m 0 ((lg_sl ([.ref q_o, .int x1]) ++ List.replicate (4 - (lg_sl ([.ref q_o, .int x1])).length) Slot.unset).toArray) [] := by rw [ha]; exact lg_entry_eq m ([.ref q_o, .int x1]) 4
  rw [hent]; clear hent
  have hl := lv_entry ([.ref q_o, .int x1]) (n := 4) (Nat.le_of_ble_eq_true rfl)
  generalize (lg_sl ([.ref q_o, .int x1]) ++ List.replicate (4 - (lg_sl ([.ref q_o, .int x1])).length) Slot.unset).toArray = ls at hl ⊢
  have hl : lv_has ls 4 [(0, .ref q_o), (1, .int x1)] := hl
  have L4 : ∀ (n : Nat) (ls : Array Slot) (x2 : Int32) (x3 : Int32), lv_has ls 4 [(0, .ref q_o), (1, .int x1), (2, .int x2), (3, .int x3)] → P_X0_townsBefore_l4 v_o_towns v_o_years x1 post n x2 x3 → W p l e ({ frames := 0, cells := 0, slots := 0, locals := 0 } : Room) s m args below meth c s.heap [] 0 0 Q (F0 m 4 ls []) := by
    intro n4
    induction n4 with
    | zero => intro ls x2 x3 hl h; exact False.elim h
    | succ n4 ih4 =>
      have B50 : ∀ (ls : Array Slot) (x2 : Int32) (x3 : Int32), lv_has ls 4 [(0, .ref q_o), (1, .int x1), (2, .int x2), (3, .int x3)] → P_X0_townsBefore_b50 v_o_towns v_o_years x1 post (P_X0_townsBefore_l4 v_o_towns v_o_years x1 post n4) x2 x3 → W p l e ({ frames := 0, cells := 0, slots := 0, locals := 0 } : Room) s m args below meth c s.heap [] 0 0 Q (F0 m 50 ls []) := by
        intro ls x2 x3 hl h
        unfold P_X0_townsBefore_b50 at h
        obtain ⟨x3_1, ex3_1⟩ : ∃ y : Int32, y = x3 + (1 : Int32) := ⟨_, rfl⟩
        have h := h _ ex3_1
        refine lv_iinc (v := x3_1) (lv' := [(3, .int x3_1), (0, .ref q_o), (1, .int x1), (2, .int x2)]) hx hb dX0_townsBefore_50 hl (k := 3) rfl (by rw [ex3_1]; rfl) (by decide) rfl (fun ls hl => ?_)
        refine lv_goto (tgt := 4) hx hb dX0_townsBefore_53 (by decide) ?_
        exact ih4 _ x2 x3_1 (lv_sub hl [1, 2, 3, 0] rfl) h
      have B47 : ∀ (ls : Array Slot) (x2 : Int32) (x3 : Int32), lv_has ls 4 [(0, .ref q_o), (1, .int x1), (2, .int x2), (3, .int x3)] → P_X0_townsBefore_b47 v_o_towns v_o_years x1 post (P_X0_townsBefore_l4 v_o_towns v_o_years x1 post n4) x2 x3 → W p l e ({ frames := 0, cells := 0, slots := 0, locals := 0 } : Room) s m args below meth c s.heap [] 0 0 Q (F0 m 47 ls []) := by
        intro ls x2 x3 hl h
        unfold P_X0_townsBefore_b47 at h
        obtain ⟨x2_2, ex2_2⟩ : ∃ y : Int32, y = x2 + (1 : Int32) := ⟨_, rfl⟩
        have h := h _ ex2_2
        refine lv_iinc (v := x2_2) (lv' := [(2, .int x2_2), (0, .ref q_o), (1, .int x1), (3, .int x3)]) hx hb dX0_townsBefore_47 hl (k := 2) rfl (by rw [ex2_2]; rfl) (by decide) rfl (fun ls hl => ?_)
        exact B50 _ x2_2 x3 (lv_sub hl [1, 2, 0, 3] rfl) h
      intro ls x2 x3 hl h
      replace h : P_X0_townsBefore_b4 v_o_towns v_o_years x1 post (P_X0_townsBefore_l4 v_o_towns v_o_years x1 post n4) x2 x3 := h
      unfold P_X0_townsBefore_b4 at h
      refine lv_iload_n hx hb dX0_townsBefore_4 rfl (lv_at hl 3 rfl) ?_
      refine lv_aload_n hx hb dX0_townsBefore_5 rfl (lv_at hl 0 rfl) ?_
      refine va_get (D := D) (ci := 0) (v := .int v_o_towns) (C := RX0) (T := TX0) (N := 16) hx hb htb inT_X0 hown hK hP 0 rfl rfl 8 (by decide) (htb _ tb_178) (fun _ h9 => h9) rfl dX0_townsBefore_6 ?_
      refine lv_icmp_ge (tgt := 56) hx hb dX0_townsBefore_9 (by decide) (fun c_3 => ?_) (fun c_3 => ?_)
      · have h := h.1 c_3
        refine lv_iload_n hx hb dX0_townsBefore_56 rfl (lv_at hl 2 rfl) ?_
        rw [← hQ]
        exact gRetR hx hb hr rfl h dX0_townsBefore_57 hlocks
      · have h := h.2 c_3
        refine lv_aload_n hx hb dX0_townsBefore_12 rfl (lv_at hl 0 rfl) ?_
        refine va_get (D := D) (ci := 0) (v := .ref q_o_years) (C := RX0) (T := TX0) (N := 16) hx hb htb inT_X0 hown hK hP 0 rfl rfl 5 (by decide) (htb _ tb_70) (fun _ h9 => h9) rfl dX0_townsBefore_13 ?_
        refine lv_iload_n hx hb dX0_townsBefore_16 rfl (lv_at hl 3 rfl) ?_
        obtain ⟨hi_4, h⟩ := h
        refine va_iald hx hb hK hP 1 0 rfl rfl hi_4 dX0_townsBefore_17 ?_
        refine lv_aload_n hx hb dX0_townsBefore_18 rfl (lv_at hl 0 rfl) ?_
        refine va_get (D := D) (ci := 0) (v := .ref q_o_years) (C := RX0) (T := TX0) (N := 16) hx hb htb inT_X0 hown hK hP 0 rfl rfl 5 (by decide) (htb _ tb_70) (fun _ h9 => h9) rfl dX0_townsBefore_19 ?_
        refine lv_iload_n hx hb dX0_townsBefore_22 rfl (lv_at hl 1 rfl) ?_
        obtain ⟨hi_5, h⟩ := h
        refine va_iald hx hb hK hP 1 0 rfl rfl hi_5 dX0_townsBefore_23 ?_
        refine lv_icmp_lt (tgt := 47) hx hb dX0_townsBefore_24 (by decide) (fun c_6 => ?_) (fun c_6 => ?_)
        · have h := h.1 c_6
          exact B47 _ x2 x3 (lv_sub hl [0, 1, 2, 3] rfl) h
        · have h := h.2 c_6
          refine lv_aload_n hx hb dX0_townsBefore_27 rfl (lv_at hl 0 rfl) ?_
          refine va_get (D := D) (ci := 0) (v := .ref q_o_years) (C := RX0) (T := TX0) (N := 16) hx hb htb inT_X0 hown hK hP 0 rfl rfl 5 (by decide) (htb _ tb_70) (fun _ h9 => h9) rfl dX0_townsBefore_28 ?_
          refine lv_iload_n hx hb dX0_townsBefore_31 rfl (lv_at hl 3 rfl) ?_
          obtain ⟨hi_7, h⟩ := h
          refine va_iald hx hb hK hP 1 0 rfl rfl hi_7 dX0_townsBefore_32 ?_
          refine lv_aload_n hx hb dX0_townsBefore_33 rfl (lv_at hl 0 rfl) ?_
          refine va_get (D := D) (ci := 0) (v := .ref q_o_years) (C := RX0) (T := TX0) (N := 16) hx hb htb inT_X0 hown hK hP 0 rfl rfl 5 (by decide) (htb _ tb_70) (fun _ h9 => h9) rfl dX0_townsBefore_34 ?_
          refine lv_iload_n hx hb dX0_townsBefore_37 rfl (lv_at hl 1 rfl) ?_
          obtain ⟨hi_8, h⟩ := h
          refine va_iald hx hb hK hP 1 0 rfl rfl hi_8 dX0_townsBefore_38 ?_
          refine lv_icmp_ne (tgt := 50) hx hb dX0_townsBefore_39 (by decide) (fun c_9 => ?_) (fun c_9 => ?_)
          · have h := h.2 c_9
            exact B50 _ x2 x3 (lv_sub hl [0, 1, 2, 3] rfl) h
          · have h := h.1 c_9
            refine lv_iload_n hx hb dX0_townsBefore_42 rfl (lv_at hl 3 rfl) ?_
            refine lv_iload_n hx hb dX0_townsBefore_43 rfl (lv_at hl 1 rfl) ?_
            refine lv_icmp_ge (tgt := 50) hx hb dX0_townsBefore_44 (by decide) (fun c_10 => ?_) (fun c_10 => ?_)
            · have h := h.1 c_10
              exact B50 _ x2 x3 (lv_sub hl [0, 1, 2, 3] rfl) h
            · have h := h.2 c_10
              exact B47 _ x2 x3 (lv_sub hl [0, 1, 2, 3] rfl) h
  unfold P_X0_townsBefore at h
  refine lv_iconst (v := (0 : Int32)) hx hb dX0_townsBefore_0 (by decide) ?_
  refine lv_istore_n (lv' := [(2, .int (0 : Int32)), (0, .ref q_o), (1, .int x1)]) hx hb dX0_townsBefore_1 rfl hl (by decide) rfl (fun ls hl => ?_)
  refine lv_iconst (v := (0 : Int32)) hx hb dX0_townsBefore_2 (by decide) ?_
  refine lv_istore_n (lv' := [(3, .int (0 : Int32)), (2, .int (0 : Int32)), (0, .ref q_o), (1, .int x1)]) hx hb dX0_townsBefore_3 rfl hl (by decide) rfl (fun ls hl => ?_)
  obtain ⟨n, h⟩ := h
  exact L4 n _ (0 : Int32) (0 : Int32) (lv_sub hl [2, 3, 1, 0] rfl) h
set_option maxHeartbeats 4000000 in
set_option maxRecDepth 100000 in
theorem c_X0_townInOrder (l : Launch) (D : va_G) (Cs : Nat → ClassId) (q_o : Nat) (q_a1 : Nat) (q_o_from : Nat) (q_o_to : Nat) (q_o_lengths : Nat) (q_o_earliest : Nat) (q_o_latest : Nat) (q_o_years : Nat) (q_o_explained : Nat) (q_o_together : Nat) (q_a1_cells : Nat) (sz : Nat) (b_o : BH) (v_a1_cells : (Nat → Int32)) (x2 : Int32) (x3 : Int32) {post : Int32 → BH → Prop} (h : P_X0_townInOrder b_o v_a1_cells x2 x3 post) : Met l yX0_townInOrder wsX0_townInOrder ({ frames := 4, cells := 0, slots := 0, locals := 92 } : Room) (va_Pc [.ref q_o, .ref q_a1, .int x2, .int x3] (gM D Cs [(q_o, .inr (0, [.ref q_o_from, .ref q_o_to, .ref q_o_lengths, .ref q_o_earliest, .ref q_o_latest, .ref q_o_years, .ref q_o_explained, .ref q_o_together, .int b_o.1, .int b_o.2.1, .int b_o.2.2.1, .int b_o.2.2.2.1, .int b_o.2.2.2.2.1, .int b_o.2.2.2.2.2.1, .int b_o.2.2.2.2.2.2.1, .int b_o.2.2.2.2.2.2.2.1])), (q_o_from, gI Cs 15 b_o.2.2.2.2.2.2.2.2.1), (q_o_to, gI Cs 15 b_o.2.2.2.2.2.2.2.2.2.1), (q_o_lengths, gI Cs 15 b_o.2.2.2.2.2.2.2.2.2.2.1), (q_o_earliest, gI Cs 10 b_o.2.2.2.2.2.2.2.2.2.2.2.1), (q_o_latest, gI Cs 10 b_o.2.2.2.2.2.2.2.2.2.2.2.2.1), (q_o_years, gI Cs 10 b_o.2.2.2.2.2.2.2.2.2.2.2.2.2.1), (q_o_explained, gI Cs 10 b_o.2.2.2.2.2.2.2.2.2.2.2.2.2.2.1), (q_o_together, gI Cs 1024 b_o.2.2.2.2.2.2.2.2.2.2.2.2.2.2.2), (q_a1, .inr (1, [.ref q_a1_cells])), (q_a1_cells, gI Cs 221 v_a1_cells)] sz)) (va_Qi (fun (r : Int32) (u : BH) => post r u) (gB D (va_A [(q_o, .inr (0, [.ref q_o_from, .ref q_o_to, .ref q_o_lengths, .ref q_o_earliest, .ref q_o_latest, .ref q_o_years, .ref q_o_explained, .ref q_o_together, .int b_o.1, .int b_o.2.1, .int b_o.2.2.1, .int b_o.2.2.2.1, .int b_o.2.2.2.2.1, .int b_o.2.2.2.2.2.1, .int b_o.2.2.2.2.2.2.1, .int b_o.2.2.2.2.2.2.2.1])), (q_o_from, gI Cs 15 b_o.2.2.2.2.2.2.2.2.1), (q_o_to, gI Cs 15 b_o.2.2.2.2.2.2.2.2.2.1), (q_o_lengths, gI Cs 15 b_o.2.2.2.2.2.2.2.2.2.2.1), (q_o_earliest, gI Cs 10 b_o.2.2.2.2.2.2.2.2.2.2.2.1), (q_o_latest, gI Cs 10 b_o.2.2.2.2.2.2.2.2.2.2.2.2.1), (q_o_years, gI Cs 10 b_o.2.2.2.2.2.2.2.2.2.2.2.2.2.1), (q_o_explained, gI Cs 10 b_o.2.2.2.2.2.2.2.2.2.2.2.2.2.2.1), (q_o_together, gI Cs 1024 b_o.2.2.2.2.2.2.2.2.2.2.2.2.2.2.2), (q_a1, .inr (1, [.ref q_a1_cells])), (q_a1_cells, gI Cs 221 v_a1_cells)] sz) (fun u : BH => [(q_o, .inr (0, [.ref q_o_from, .ref q_o_to, .ref q_o_lengths, .ref q_o_earliest, .ref q_o_latest, .ref q_o_years, .ref q_o_explained, .ref q_o_together, .int u.1, .int u.2.1, .int u.2.2.1, .int u.2.2.2.1, .int u.2.2.2.2.1, .int u.2.2.2.2.2.1, .int u.2.2.2.2.2.2.1, .int u.2.2.2.2.2.2.2.1])), (q_o_from, gI Cs 15 u.2.2.2.2.2.2.2.2.1), (q_o_to, gI Cs 15 u.2.2.2.2.2.2.2.2.2.1), (q_o_lengths, gI Cs 15 u.2.2.2.2.2.2.2.2.2.2.1), (q_o_earliest, gI Cs 10 u.2.2.2.2.2.2.2.2.2.2.2.1), (q_o_latest, gI Cs 10 u.2.2.2.2.2.2.2.2.2.2.2.2.1), (q_o_years, gI Cs 10 u.2.2.2.2.2.2.2.2.2.2.2.2.2.1), (q_o_explained, gI Cs 10 u.2.2.2.2.2.2.2.2.2.2.2.2.2.2.1), (q_o_together, gI Cs 1024 u.2.2.2.2.2.2.2.2.2.2.2.2.2.2.2), (q_a1, .inr (1, [.ref q_a1_cells])), (q_a1_cells, gI Cs 221 v_a1_cells)])) (va_A [(q_o, .inr (0, [.ref q_o_from, .ref q_o_to, .ref q_o_lengths, .ref q_o_earliest, .ref q_o_latest, .ref q_o_years, .ref q_o_explained, .ref q_o_together, .int b_o.1, .int b_o.2.1, .int b_o.2.2.1, .int b_o.2.2.2.1, .int b_o.2.2.2.2.1, .int b_o.2.2.2.2.2.1, .int b_o.2.2.2.2.2.2.1, .int b_o.2.2.2.2.2.2.2.1])), (q_o_from, gI Cs 15 b_o.2.2.2.2.2.2.2.2.1), (q_o_to, gI Cs 15 b_o.2.2.2.2.2.2.2.2.2.1), (q_o_lengths, gI Cs 15 b_o.2.2.2.2.2.2.2.2.2.2.1), (q_o_earliest, gI Cs 10 b_o.2.2.2.2.2.2.2.2.2.2.2.1), (q_o_latest, gI Cs 10 b_o.2.2.2.2.2.2.2.2.2.2.2.2.1), (q_o_years, gI Cs 10 b_o.2.2.2.2.2.2.2.2.2.2.2.2.2.1), (q_o_explained, gI Cs 10 b_o.2.2.2.2.2.2.2.2.2.2.2.2.2.2.1), (q_o_together, gI Cs 1024 b_o.2.2.2.2.2.2.2.2.2.2.2.2.2.2.2), (q_a1, .inr (1, [.ref q_a1_cells])), (q_a1_cells, gI Cs 221 v_a1_cells)] sz)) 0 0 (va_A [(q_o, .inr (0, [.ref q_o_from, .ref q_o_to, .ref q_o_lengths, .ref q_o_earliest, .ref q_o_latest, .ref q_o_years, .ref q_o_explained, .ref q_o_together, .int b_o.1, .int b_o.2.1, .int b_o.2.2.1, .int b_o.2.2.2.1, .int b_o.2.2.2.2.1, .int b_o.2.2.2.2.2.1, .int b_o.2.2.2.2.2.2.1, .int b_o.2.2.2.2.2.2.2.1])), (q_o_from, gI Cs 15 b_o.2.2.2.2.2.2.2.2.1), (q_o_to, gI Cs 15 b_o.2.2.2.2.2.2.2.2.2.1), (q_o_lengths, gI Cs 15 b_o.2.2.2.2.2.2.2.2.2.2.1), (q_o_earliest, gI Cs 10 b_o.2.2.2.2.2.2.2.2.2.2.2.1), (q_o_latest, gI Cs 10 b_o.2.2.2.2.2.2.2.2.2.2.2.2.1), (q_o_years, gI Cs 10 b_o.2.2.2.2.2.2.2.2.2.2.2.2.2.1), (q_o_explained, gI Cs 10 b_o.2.2.2.2.2.2.2.2.2.2.2.2.2.2.1), (q_o_together, gI Cs 1024 b_o.2.2.2.2.2.2.2.2.2.2.2.2.2.2.2), (q_a1, .inr (1, [.ref q_a1_cells])), (q_a1_cells, gI Cs 221 v_a1_cells)] sz) := by
  refine Met.ofW (cc := cX0_townInOrder) (maxL := 5) (ret := (some .int)) (by decide) rfl ?_
  intro p e s m args below meth c s₁ B hml hv
  obtain ⟨ha, hsz, hP, hK, hD0, hN⟩ := hv
  have hx := B.exec
  have hb := B.bytes
  have hr := B.returns
  have hts := atoms_spec (ws := wsX0_townInOrder) B.pre
  have htb : ∀ w ∈ TB, w.before args s = true := fun w h9 => hts w (List.mem_cons_of_mem _ h9)
  have hown : s.vm.findClass RX0 = some m.cls := findClass_of_methodNamed B.named
  have hlocks := B.notSynchronized
  subst hsz
  have hD := hD0.self (sz := s.heap.size)
  generalize hAe : va_A [(q_o, .inr (0, [.ref q_o_from, .ref q_o_to, .ref q_o_lengths, .ref q_o_earliest, .ref q_o_latest, .ref q_o_years, .ref q_o_explained, .ref q_o_together, .int b_o.1, .int b_o.2.1, .int b_o.2.2.1, .int b_o.2.2.2.1, .int b_o.2.2.2.2.1, .int b_o.2.2.2.2.2.1, .int b_o.2.2.2.2.2.2.1, .int b_o.2.2.2.2.2.2.2.1])), (q_o_from, gI Cs 15 b_o.2.2.2.2.2.2.2.2.1), (q_o_to, gI Cs 15 b_o.2.2.2.2.2.2.2.2.2.1), (q_o_lengths, gI Cs 15 b_o.2.2.2.2.2.2.2.2.2.2.1), (q_o_earliest, gI Cs 10 b_o.2.2.2.2.2.2.2.2.2.2.2.1), (q_o_latest, gI Cs 10 b_o.2.2.2.2.2.2.2.2.2.2.2.2.1), (q_o_years, gI Cs 10 b_o.2.2.2.2.2.2.2.2.2.2.2.2.2.1), (q_o_explained, gI Cs 10 b_o.2.2.2.2.2.2.2.2.2.2.2.2.2.2.1), (q_o_together, gI Cs 1024 b_o.2.2.2.2.2.2.2.2.2.2.2.2.2.2.2), (q_a1, .inr (1, [.ref q_a1_cells])), (q_a1_cells, gI Cs 221 v_a1_cells)] s.heap.size = A at hD ⊢
  have hA : ∀ q : Nat, s.heap.size ≤ q → A q := fun q h9 => by rw [← hAe]; exact Or.inr h9
  obtain ⟨H, hH⟩ : ∃ z : Heap, z = s.heap := ⟨_, rfl⟩
  have hS : va_S A s.heap H [] := by rw [hH]; exact va_S.rf
  have hP : va_P D vwCl [(q_o, .inr (0, [.ref q_o_from, .ref q_o_to, .ref q_o_lengths, .ref q_o_earliest, .ref q_o_latest, .ref q_o_years, .ref q_o_explained, .ref q_o_together, .int b_o.1, .int b_o.2.1, .int b_o.2.2.1, .int b_o.2.2.2.1, .int b_o.2.2.2.2.1, .int b_o.2.2.2.2.2.1, .int b_o.2.2.2.2.2.2.1, .int b_o.2.2.2.2.2.2.2.1])), (q_o_from, gI Cs 15 b_o.2.2.2.2.2.2.2.2.1), (q_o_to, gI Cs 15 b_o.2.2.2.2.2.2.2.2.2.1), (q_o_lengths, gI Cs 15 b_o.2.2.2.2.2.2.2.2.2.2.1), (q_o_earliest, gI Cs 10 b_o.2.2.2.2.2.2.2.2.2.2.2.1), (q_o_latest, gI Cs 10 b_o.2.2.2.2.2.2.2.2.2.2.2.2.1), (q_o_years, gI Cs 10 b_o.2.2.2.2.2.2.2.2.2.2.2.2.2.1), (q_o_explained, gI Cs 10 b_o.2.2.2.2.2.2.2.2.2.2.2.2.2.2.1), (q_o_together, gI Cs 1024 b_o.2.2.2.2.2.2.2.2.2.2.2.2.2.2.2), (q_a1, .inr (1, [.ref q_a1_cells])), (q_a1_cells, gI Cs 221 v_a1_cells)] H := by rw [hH]; exact hP
  generalize hQ : MQ below _ args s _ _ _ = Q
  show W p l e ({ frames := 4, cells := 0, slots := 0, locals := 92 } : Room) s m args below meth c s.heap [] 0 0 Q (entryFrame m args 5)
  have hent : entryFrame m args 5 = F0 m 0 ((lg_sl ([.ref q_o, .ref q_a1, .int x2, .int x3]) ++ List.replicate (5 - (lg_sl ([.ref q_o, .ref q_a1, .int x2, .int x3])).length) Slot.unset).toArray) [] := by rw [ha]; exact lg_entry_eq m ([.ref q_o, .ref q_a1, .int x2, .int x3]) 5
  rw [hent]; clear hent
  rw [← hH]
  have hl := lv_entry ([.ref q_o, .ref q_a1, .int x2, .int x3]) (n := 5) (Nat.le_of_ble_eq_true rfl)
  generalize (lg_sl ([.ref q_o, .ref q_a1, .int x2, .int x3]) ++ List.replicate (5 - (lg_sl ([.ref q_o, .ref q_a1, .int x2, .int x3])).length) Slot.unset).toArray = ls at hl ⊢
  have hl : lv_has ls 5 [(0, .ref q_o), (1, .ref q_a1), (2, .int x2), (3, .int x3)] := hl
  have L10 : ∀ (n : Nat) (H : Heap) (locs : List Loc) (ls : Array Slot) (d_o : BH) (x4 : Int32), va_P D vwCl [(q_o, .inr (0, [.ref q_o_from, .ref q_o_to, .ref q_o_lengths, .ref q_o_earliest, .ref q_o_latest, .ref q_o_years, .ref q_o_explained, .ref q_o_together, .int d_o.1, .int d_o.2.1, .int d_o.2.2.1, .int d_o.2.2.2.1, .int d_o.2.2.2.2.1, .int d_o.2.2.2.2.2.1, .int d_o.2.2.2.2.2.2.1, .int d_o.2.2.2.2.2.2.2.1])), (q_o_from, gI Cs 15 d_o.2.2.2.2.2.2.2.2.1), (q_o_to, gI Cs 15 d_o.2.2.2.2.2.2.2.2.2.1), (q_o_lengths, gI Cs 15 d_o.2.2.2.2.2.2.2.2.2.2.1), (q_o_earliest, gI Cs 10 d_o.2.2.2.2.2.2.2.2.2.2.2.1), (q_o_latest, gI Cs 10 d_o.2.2.2.2.2.2.2.2.2.2.2.2.1), (q_o_years, gI Cs 10 d_o.2.2.2.2.2.2.2.2.2.2.2.2.2.1), (q_o_explained, gI Cs 10 d_o.2.2.2.2.2.2.2.2.2.2.2.2.2.2.1), (q_o_together, gI Cs 1024 d_o.2.2.2.2.2.2.2.2.2.2.2.2.2.2.2), (q_a1, .inr (1, [.ref q_a1_cells])), (q_a1_cells, gI Cs 221 v_a1_cells)] H → va_D A [(q_o, .inr (0, [.ref q_o_from, .ref q_o_to, .ref q_o_lengths, .ref q_o_earliest, .ref q_o_latest, .ref q_o_years, .ref q_o_explained, .ref q_o_together, .int d_o.1, .int d_o.2.1, .int d_o.2.2.1, .int d_o.2.2.2.1, .int d_o.2.2.2.2.1, .int d_o.2.2.2.2.2.1, .int d_o.2.2.2.2.2.2.1, .int d_o.2.2.2.2.2.2.2.1])), (q_o_from, gI Cs 15 d_o.2.2.2.2.2.2.2.2.1), (q_o_to, gI Cs 15 d_o.2.2.2.2.2.2.2.2.2.1), (q_o_lengths, gI Cs 15 d_o.2.2.2.2.2.2.2.2.2.2.1), (q_o_earliest, gI Cs 10 d_o.2.2.2.2.2.2.2.2.2.2.2.1), (q_o_latest, gI Cs 10 d_o.2.2.2.2.2.2.2.2.2.2.2.2.1), (q_o_years, gI Cs 10 d_o.2.2.2.2.2.2.2.2.2.2.2.2.2.1), (q_o_explained, gI Cs 10 d_o.2.2.2.2.2.2.2.2.2.2.2.2.2.2.1), (q_o_together, gI Cs 1024 d_o.2.2.2.2.2.2.2.2.2.2.2.2.2.2.2), (q_a1, .inr (1, [.ref q_a1_cells])), (q_a1_cells, gI Cs 221 v_a1_cells)] → va_S A s.heap H locs → lv_has ls 5 [(0, .ref q_o), (1, .ref q_a1), (2, .int x2), (3, .int x3), (4, .int x4)] → P_X0_townInOrder_l10 b_o v_a1_cells x2 x3 post n d_o x4 → W p l e ({ frames := 4, cells := 0, slots := 0, locals := 92 } : Room) s m args below meth c H locs 0 0 Q (F0 m 10 ls []) := by
    intro n10
    induction n10 with
    | zero => intro H locs ls d_o x4 hP hD hS hl h; exact False.elim h
    | succ n10 ih10 =>
      have B45 : ∀ (H : Heap) (locs : List Loc) (ls : Array Slot) (d_o : BH) (x4 : Int32), va_P D vwCl [(q_o, .inr (0, [.ref q_o_from, .ref q_o_to, .ref q_o_lengths, .ref q_o_earliest, .ref q_o_latest, .ref q_o_years, .ref q_o_explained, .ref q_o_together, .int d_o.1, .int d_o.2.1, .int d_o.2.2.1, .int d_o.2.2.2.1, .int d_o.2.2.2.2.1, .int d_o.2.2.2.2.2.1, .int d_o.2.2.2.2.2.2.1, .int d_o.2.2.2.2.2.2.2.1])), (q_o_from, gI Cs 15 d_o.2.2.2.2.2.2.2.2.1), (q_o_to, gI Cs 15 d_o.2.2.2.2.2.2.2.2.2.1), (q_o_lengths, gI Cs 15 d_o.2.2.2.2.2.2.2.2.2.2.1), (q_o_earliest, gI Cs 10 d_o.2.2.2.2.2.2.2.2.2.2.2.1), (q_o_latest, gI Cs 10 d_o.2.2.2.2.2.2.2.2.2.2.2.2.1), (q_o_years, gI Cs 10 d_o.2.2.2.2.2.2.2.2.2.2.2.2.2.1), (q_o_explained, gI Cs 10 d_o.2.2.2.2.2.2.2.2.2.2.2.2.2.2.1), (q_o_together, gI Cs 1024 d_o.2.2.2.2.2.2.2.2.2.2.2.2.2.2.2), (q_a1, .inr (1, [.ref q_a1_cells])), (q_a1_cells, gI Cs 221 v_a1_cells)] H → va_D A [(q_o, .inr (0, [.ref q_o_from, .ref q_o_to, .ref q_o_lengths, .ref q_o_earliest, .ref q_o_latest, .ref q_o_years, .ref q_o_explained, .ref q_o_together, .int d_o.1, .int d_o.2.1, .int d_o.2.2.1, .int d_o.2.2.2.1, .int d_o.2.2.2.2.1, .int d_o.2.2.2.2.2.1, .int d_o.2.2.2.2.2.2.1, .int d_o.2.2.2.2.2.2.2.1])), (q_o_from, gI Cs 15 d_o.2.2.2.2.2.2.2.2.1), (q_o_to, gI Cs 15 d_o.2.2.2.2.2.2.2.2.2.1), (q_o_lengths, gI Cs 15 d_o.2.2.2.2.2.2.2.2.2.2.1), (q_o_earliest, gI Cs 10 d_o.2.2.2.2.2.2.2.2.2.2.2.1), (q_o_latest, gI Cs 10 d_o.2.2.2.2.2.2.2.2.2.2.2.2.1), (q_o_years, gI Cs 10 d_o.2.2.2.2.2.2.2.2.2.2.2.2.2.1), (q_o_explained, gI Cs 10 d_o.2.2.2.2.2.2.2.2.2.2.2.2.2.2.1), (q_o_together, gI Cs 1024 d_o.2.2.2.2.2.2.2.2.2.2.2.2.2.2.2), (q_a1, .inr (1, [.ref q_a1_cells])), (q_a1_cells, gI Cs 221 v_a1_cells)] → va_S A s.heap H locs → lv_has ls 5 [(0, .ref q_o), (1, .ref q_a1), (2, .int x2), (3, .int x3), (4, .int x4)] → P_X0_townInOrder_b45 b_o v_a1_cells x2 x3 post (P_X0_townInOrder_l10 b_o v_a1_cells x2 x3 post n10) d_o x4 → W p l e ({ frames := 4, cells := 0, slots := 0, locals := 92 } : Room) s m args below meth c H locs 0 0 Q (F0 m 45 ls []) := by
        intro H locs ls d_o x4 hP hD hS hl h
        unfold P_X0_townInOrder_b45 at h
        obtain ⟨x4_1, ex4_1⟩ : ∃ y : Int32, y = x4 + (1 : Int32) := ⟨_, rfl⟩
        have h := h _ ex4_1
        refine lv_iinc (v := x4_1) (lv' := [(4, .int x4_1), (0, .ref q_o), (1, .ref q_a1), (2, .int x2), (3, .int x3)]) hx hb dX0_townInOrder_45 hl (k := 4) rfl (by rw [ex4_1]; rfl) (by decide) rfl (fun ls hl => ?_)
        refine lv_goto (tgt := 10) hx hb dX0_townInOrder_48 (by decide) ?_
        exact ih10 _ _ _ d_o x4_1 hP hD hS (lv_sub hl [1, 2, 3, 4, 0] rfl) h
      intro H locs ls d_o x4 hP hD hS hl h
      replace h : P_X0_townInOrder_b10 b_o v_a1_cells x2 x3 post (P_X0_townInOrder_l10 b_o v_a1_cells x2 x3 post n10) d_o x4 := h
      unfold P_X0_townInOrder_b10 at h
      refine lv_iload hx hb dX0_townInOrder_10 (lv_at hl 4 rfl) ?_
      refine lv_aload_n hx hb dX0_townInOrder_12 rfl (lv_at hl 0 rfl) ?_
      refine va_get (D := D) (ci := 0) (v := .int d_o.1) (C := RX0) (T := TX0) (N := 16) hx hb htb inT_X0 hown hK hP 0 rfl rfl 8 (by decide) (htb _ tb_178) (fun _ h9 => h9) rfl dX0_townInOrder_13 ?_
      refine lv_icmp_ge (tgt := 51) hx hb dX0_townInOrder_16 (by decide) (fun c_2 => ?_) (fun c_2 => ?_)
      · have h := h.1 c_2
        refine lv_iconst (v := (-1 : Int32)) hx hb dX0_townInOrder_51 (by decide) ?_
        rw [← hQ]
        exact gRetI (u := d_o) hx hb hr rfl h hP hD hS dX0_townInOrder_52 hlocks
      · have h := h.2 c_2
        refine lv_aload_n hx hb dX0_townInOrder_19 rfl (lv_at hl 0 rfl) ?_
        refine va_get (D := D) (ci := 0) (v := .ref q_o_years) (C := RX0) (T := TX0) (N := 16) hx hb htb inT_X0 hown hK hP 0 rfl rfl 5 (by decide) (htb _ tb_70) (fun _ h9 => h9) rfl dX0_townInOrder_20 ?_
        refine lv_iload hx hb dX0_townInOrder_23 (lv_at hl 4 rfl) ?_
        obtain ⟨hi_3, h⟩ := h
        refine va_iald hx hb hK hP 6 0 rfl rfl hi_3 dX0_townInOrder_25 ?_
        refine lv_sipush (v := (1000 : Int32)) hx hb dX0_townInOrder_26 (by decide) ?_
        refine lv_icmp_ge (tgt := 45) hx hb dX0_townInOrder_29 (by decide) (fun c_4 => ?_) (fun c_4 => ?_)
        · have h := h.1 c_4
          exact B45 _ _ _ d_o x4 hP hD hS (lv_sub hl [0, 1, 2, 3, 4] rfl) h
        · have h := h.2 c_4
          refine lv_aload_n hx hb dX0_townInOrder_32 rfl (lv_at hl 0 rfl) ?_
          refine lv_iload hx hb dX0_townInOrder_33 (lv_at hl 4 rfl) ?_
          refine gVR (As := [.int x4]) (rest := []) ⟨hx, hb, hml, hown, htb⟩ hK hP hN [0, 6] rfl (c_X0_townsBefore l D Cs q_o q_o_from q_o_to q_o_lengths q_o_earliest q_o_latest q_o_years q_o_explained q_o_together d_o.1 d_o.2.2.2.2.2.2.2.2.2.2.2.2.2.1 d_o.2.1 d_o.2.2.1 d_o.2.2.2.1 d_o.2.2.2.2.1 d_o.2.2.2.2.2.1 d_o.2.2.2.2.2.2.1 d_o.2.2.2.2.2.2.2.1 x4 h) (cwV 1 htb (TB_v tb_441 tb_442 tb_443 tb_26 (TB_self tb_444)) rfl rfl rfl z_X0_townsBefore ⟨Nat.le_of_ble_eq_true rfl, Nat.le_of_ble_eq_true rfl⟩) 0 rfl rfl rfl rfl hl.1 rfl (Nat.le_of_ble_eq_true rfl) ⟨Nat.le_of_ble_eq_true rfl, Nat.le_of_ble_eq_true rfl⟩ dX0_townInOrder_35 (fun r_5 h => ?_)
          refine lv_iload_n hx hb dX0_townInOrder_38 rfl (lv_at hl 3 rfl) ?_
          refine lv_icmp_ne (tgt := 45) hx hb dX0_townInOrder_39 (by decide) (fun c_6 => ?_) (fun c_6 => ?_)
          · have h := h.2 c_6
            exact B45 _ _ _ d_o x4 hP hD hS (lv_sub hl [0, 1, 2, 3, 4] rfl) h
          · have h := h.1 c_6
            refine lv_iload hx hb dX0_townInOrder_42 (lv_at hl 4 rfl) ?_
            rw [← hQ]
            exact gRetI (u := d_o) hx hb hr rfl h hP hD hS dX0_townInOrder_44 hlocks
  unfold P_X0_townInOrder at h
  refine lv_aload_n hx hb dX0_townInOrder_0 rfl (lv_at hl 0 rfl) ?_
  refine lv_aload_n hx hb dX0_townInOrder_1 rfl (lv_at hl 1 rfl) ?_
  refine lv_iload_n hx hb dX0_townInOrder_2 rfl (lv_at hl 2 rfl) ?_
  refine gVM (wr := []) (As := [.ref q_a1, .int x2]) (rest := []) ⟨hx, hb, hml, hown, htb⟩ hK hP hD hS hA hN [0, 1, 2, 3, 4, 5, 6, 7, 8, 9, 10] [] rfl (by decide) rfl (by decide) (by decide) (c_X0_study l D Cs q_o q_a1 q_o_from q_o_to q_o_lengths q_o_earliest q_o_latest q_o_years q_o_explained q_o_together q_a1_cells H.size b_o v_a1_cells x2 h) (cwV 2 htb (TB_v tb_170 tb_171 tb_172 tb_26 (TB_self tb_173)) rfl rfl rfl z_X0_study ⟨Nat.le_of_ble_eq_true rfl, Nat.le_of_ble_eq_true rfl⟩) 0 rfl rfl rfl rfl hl.1 rfl (Nat.le_of_ble_eq_true rfl) ⟨Nat.le_of_ble_eq_true rfl, Nat.le_of_ble_eq_true rfl⟩ dX0_townInOrder_3 (fun r_7 m_8 H locs h hP hD hS => ?_)
  have hP : va_P D vwCl [(q_o, .inr (0, [.ref q_o_from, .ref q_o_to, .ref q_o_lengths, .ref q_o_earliest, .ref q_o_latest, .ref q_o_years, .ref q_o_explained, .ref q_o_together, .int m_8.1, .int m_8.2.1, .int m_8.2.2.1, .int m_8.2.2.2.1, .int m_8.2.2.2.2.1, .int m_8.2.2.2.2.2.1, .int m_8.2.2.2.2.2.2.1, .int m_8.2.2.2.2.2.2.2.1])), (q_o_from, gI Cs 15 m_8.2.2.2.2.2.2.2.2.1), (q_o_to, gI Cs 15 m_8.2.2.2.2.2.2.2.2.2.1), (q_o_lengths, gI Cs 15 m_8.2.2.2.2.2.2.2.2.2.2.1), (q_o_earliest, gI Cs 10 m_8.2.2.2.2.2.2.2.2.2.2.2.1), (q_o_latest, gI Cs 10 m_8.2.2.2.2.2.2.2.2.2.2.2.2.1), (q_o_years, gI Cs 10 m_8.2.2.2.2.2.2.2.2.2.2.2.2.2.1), (q_o_explained, gI Cs 10 m_8.2.2.2.2.2.2.2.2.2.2.2.2.2.2.1), (q_o_together, gI Cs 1024 m_8.2.2.2.2.2.2.2.2.2.2.2.2.2.2.2), (q_a1, .inr (1, [.ref q_a1_cells])), (q_a1_cells, gI Cs 221 v_a1_cells)] H := hP
  have hD : va_D A [(q_o, .inr (0, [.ref q_o_from, .ref q_o_to, .ref q_o_lengths, .ref q_o_earliest, .ref q_o_latest, .ref q_o_years, .ref q_o_explained, .ref q_o_together, .int m_8.1, .int m_8.2.1, .int m_8.2.2.1, .int m_8.2.2.2.1, .int m_8.2.2.2.2.1, .int m_8.2.2.2.2.2.1, .int m_8.2.2.2.2.2.2.1, .int m_8.2.2.2.2.2.2.2.1])), (q_o_from, gI Cs 15 m_8.2.2.2.2.2.2.2.2.1), (q_o_to, gI Cs 15 m_8.2.2.2.2.2.2.2.2.2.1), (q_o_lengths, gI Cs 15 m_8.2.2.2.2.2.2.2.2.2.2.1), (q_o_earliest, gI Cs 10 m_8.2.2.2.2.2.2.2.2.2.2.2.1), (q_o_latest, gI Cs 10 m_8.2.2.2.2.2.2.2.2.2.2.2.2.1), (q_o_years, gI Cs 10 m_8.2.2.2.2.2.2.2.2.2.2.2.2.2.1), (q_o_explained, gI Cs 10 m_8.2.2.2.2.2.2.2.2.2.2.2.2.2.2.1), (q_o_together, gI Cs 1024 m_8.2.2.2.2.2.2.2.2.2.2.2.2.2.2.2), (q_a1, .inr (1, [.ref q_a1_cells])), (q_a1_cells, gI Cs 221 v_a1_cells)] := hD
  refine lv_pop hx hb dX0_townInOrder_6 rfl ?_
  refine lv_iconst (v := (0 : Int32)) hx hb dX0_townInOrder_7 (by decide) ?_
  refine lv_istore (lv' := [(4, .int (0 : Int32)), (0, .ref q_o), (1, .ref q_a1), (2, .int x2), (3, .int x3)]) hx hb dX0_townInOrder_8 hl (by decide) rfl (fun ls hl => ?_)
  obtain ⟨n, h⟩ := h
  exact L10 n _ _ _ m_8 (0 : Int32) hP hD hS (lv_sub hl [1, 2, 3, 4, 0] rfl) h
set_option maxHeartbeats 4000000 in
set_option maxRecDepth 100000 in
theorem c_X0_explainsByRoad (l : Launch) (D : va_G) (Cs : Nat → ClassId) (q_o : Nat) (q_o_from : Nat) (q_o_to : Nat) (q_o_lengths : Nat) (q_o_earliest : Nat) (q_o_latest : Nat) (q_o_years : Nat) (q_o_explained : Nat) (q_o_together : Nat) (sz : Nat) (v_o_towns : Int32) (v_o_roads : Int32) (v_o_known : Int32) (v_o_from : (Nat → Int32)) (v_o_to : (Nat → Int32)) (v_o_lengths : (Nat → Int32)) (v_o_earliest : (Nat → Int32)) (v_o_latest : (Nat → Int32)) (v_o_years : (Nat → Int32)) (v_o_fewest : Int32) (v_o_origins : Int32) (v_o_always : Int32) (v_o_sometimes : Int32) (v_o_leastSets : Int32) (x1 : Int32) (x2 : Int32) (x3 : Int32) (x4 : Int32) (x5 : Int32) {post : Int32 → (Nat → Int32) → Prop} (h : P_X0_explainsByRoad v_o_towns v_o_roads v_o_known v_o_from v_o_to v_o_lengths v_o_earliest v_o_latest v_o_years x1 x2 x3 x4 x5 post) : Met l yX0_explainsByRoad wsX0_explainsByRoad ({ frames := 2, cells := 0, slots := 0, locals := 49 } : Room) (va_Pc [.ref q_o, .int x1, .int x2, .int x3, .int x4, .int x5] (gM D Cs [(q_o, .inr (0, [.ref q_o_from, .ref q_o_to, .ref q_o_lengths, .ref q_o_earliest, .ref q_o_latest, .ref q_o_years, .ref q_o_explained, .ref q_o_together, .int v_o_towns, .int v_o_roads, .int v_o_known, .int v_o_fewest, .int v_o_origins, .int v_o_always, .int v_o_sometimes, .int v_o_leastSets])), (q_o_from, gI Cs 15 v_o_from), (q_o_to, gI Cs 15 v_o_to), (q_o_lengths, gI Cs 15 v_o_lengths), (q_o_earliest, gI Cs 10 v_o_earliest), (q_o_latest, gI Cs 10 v_o_latest), (q_o_years, gI Cs 10 v_o_years)] sz)) (va_Qi (fun (r : Int32) (u : (Nat → Int32)) => post r u) (gB D (va_A [(q_o, .inr (0, [.ref q_o_from, .ref q_o_to, .ref q_o_lengths, .ref q_o_earliest, .ref q_o_latest, .ref q_o_years, .ref q_o_explained, .ref q_o_together, .int v_o_towns, .int v_o_roads, .int v_o_known, .int v_o_fewest, .int v_o_origins, .int v_o_always, .int v_o_sometimes, .int v_o_leastSets])), (q_o_from, gI Cs 15 v_o_from), (q_o_to, gI Cs 15 v_o_to), (q_o_lengths, gI Cs 15 v_o_lengths), (q_o_earliest, gI Cs 10 v_o_earliest), (q_o_latest, gI Cs 10 v_o_latest), (q_o_years, gI Cs 10 v_o_years)] sz) (fun u : (Nat → Int32) => [(q_o, .inr (0, [.ref q_o_from, .ref q_o_to, .ref q_o_lengths, .ref q_o_earliest, .ref q_o_latest, .ref q_o_years, .ref q_o_explained, .ref q_o_together, .int v_o_towns, .int v_o_roads, .int v_o_known, .int v_o_fewest, .int v_o_origins, .int v_o_always, .int v_o_sometimes, .int v_o_leastSets])), (q_o_from, gI Cs 15 v_o_from), (q_o_to, gI Cs 15 v_o_to), (q_o_lengths, gI Cs 15 v_o_lengths), (q_o_earliest, gI Cs 10 v_o_earliest), (q_o_latest, gI Cs 10 v_o_latest), (q_o_years, gI Cs 10 u)])) (va_A [(q_o, .inr (0, [.ref q_o_from, .ref q_o_to, .ref q_o_lengths, .ref q_o_earliest, .ref q_o_latest, .ref q_o_years, .ref q_o_explained, .ref q_o_together, .int v_o_towns, .int v_o_roads, .int v_o_known, .int v_o_fewest, .int v_o_origins, .int v_o_always, .int v_o_sometimes, .int v_o_leastSets])), (q_o_from, gI Cs 15 v_o_from), (q_o_to, gI Cs 15 v_o_to), (q_o_lengths, gI Cs 15 v_o_lengths), (q_o_earliest, gI Cs 10 v_o_earliest), (q_o_latest, gI Cs 10 v_o_latest), (q_o_years, gI Cs 10 v_o_years)] sz)) 0 0 (va_A [(q_o, .inr (0, [.ref q_o_from, .ref q_o_to, .ref q_o_lengths, .ref q_o_earliest, .ref q_o_latest, .ref q_o_years, .ref q_o_explained, .ref q_o_together, .int v_o_towns, .int v_o_roads, .int v_o_known, .int v_o_fewest, .int v_o_origins, .int v_o_always, .int v_o_sometimes, .int v_o_leastSets])), (q_o_from, gI Cs 15 v_o_from), (q_o_to, gI Cs 15 v_o_to), (q_o_lengths, gI Cs 15 v_o_lengths), (q_o_earliest, gI Cs 10 v_o_earliest), (q_o_latest, gI Cs 10 v_o_latest), (q_o_years, gI Cs 10 v_o_years)] sz) := by
  refine Met.ofW (cc := cX0_explainsByRoad) (maxL := 7) (ret := (some .boolean)) (by decide) rfl ?_
  intro p e s m args below meth c s₁ B hml hv
  obtain ⟨ha, hsz, hP, hK, hD0, hN⟩ := hv
  have hx := B.exec
  have hb := B.bytes
  have hr := B.returns
  have hts := atoms_spec (ws := wsX0_explainsByRoad) B.pre
  have htb : ∀ w ∈ TB, w.before args s = true := fun w h9 => hts w (List.mem_cons_of_mem _ h9)
  have hown : s.vm.findClass RX0 = some m.cls := findClass_of_methodNamed B.named
  have hlocks := B.notSynchronized
  subst hsz
  have hD := hD0.self (sz := s.heap.size)
  generalize hAe : va_A [(q_o, .inr (0, [.ref q_o_from, .ref q_o_to, .ref q_o_lengths, .ref q_o_earliest, .ref q_o_latest, .ref q_o_years, .ref q_o_explained, .ref q_o_together, .int v_o_towns, .int v_o_roads, .int v_o_known, .int v_o_fewest, .int v_o_origins, .int v_o_always, .int v_o_sometimes, .int v_o_leastSets])), (q_o_from, gI Cs 15 v_o_from), (q_o_to, gI Cs 15 v_o_to), (q_o_lengths, gI Cs 15 v_o_lengths), (q_o_earliest, gI Cs 10 v_o_earliest), (q_o_latest, gI Cs 10 v_o_latest), (q_o_years, gI Cs 10 v_o_years)] s.heap.size = A at hD ⊢
  have hA : ∀ q : Nat, s.heap.size ≤ q → A q := fun q h9 => by rw [← hAe]; exact Or.inr h9
  obtain ⟨H, hH⟩ : ∃ z : Heap, z = s.heap := ⟨_, rfl⟩
  have hS : va_S A s.heap H [] := by rw [hH]; exact va_S.rf
  have hP : va_P D vwCl [(q_o, .inr (0, [.ref q_o_from, .ref q_o_to, .ref q_o_lengths, .ref q_o_earliest, .ref q_o_latest, .ref q_o_years, .ref q_o_explained, .ref q_o_together, .int v_o_towns, .int v_o_roads, .int v_o_known, .int v_o_fewest, .int v_o_origins, .int v_o_always, .int v_o_sometimes, .int v_o_leastSets])), (q_o_from, gI Cs 15 v_o_from), (q_o_to, gI Cs 15 v_o_to), (q_o_lengths, gI Cs 15 v_o_lengths), (q_o_earliest, gI Cs 10 v_o_earliest), (q_o_latest, gI Cs 10 v_o_latest), (q_o_years, gI Cs 10 v_o_years)] H := by rw [hH]; exact hP
  generalize hQ : MQ below _ args s _ _ _ = Q
  show W p l e ({ frames := 2, cells := 0, slots := 0, locals := 49 } : Room) s m args below meth c s.heap [] 0 0 Q (entryFrame m args 7)
  have hent : entryFrame m args 7 = F0 m 0 ((lg_sl ([.ref q_o, .int x1, .int x2, .int x3, .int x4, .int x5]) ++ List.replicate (7 - (lg_sl ([.ref q_o, .int x1, .int x2, .int x3, .int x4, .int x5])).length) Slot.unset).toArray) [] := by rw [ha]; exact lg_entry_eq m ([.ref q_o, .int x1, .int x2, .int x3, .int x4, .int x5]) 7
  rw [hent]; clear hent
  rw [← hH]
  have hl := lv_entry ([.ref q_o, .int x1, .int x2, .int x3, .int x4, .int x5]) (n := 7) (Nat.le_of_ble_eq_true rfl)
  generalize (lg_sl ([.ref q_o, .int x1, .int x2, .int x3, .int x4, .int x5]) ++ List.replicate (7 - (lg_sl ([.ref q_o, .int x1, .int x2, .int x3, .int x4, .int x5])).length) Slot.unset).toArray = ls at hl ⊢
  have hl : lv_has ls 7 [(0, .ref q_o), (1, .int x1), (2, .int x2), (3, .int x3), (4, .int x4), (5, .int x5)] := hl
  have B72 : ∀ (H : Heap) (locs : List Loc) (ls : Array Slot) (w_o_years : (Nat → Int32)) (s0 : Int32), va_P D vwCl [(q_o, .inr (0, [.ref q_o_from, .ref q_o_to, .ref q_o_lengths, .ref q_o_earliest, .ref q_o_latest, .ref q_o_years, .ref q_o_explained, .ref q_o_together, .int v_o_towns, .int v_o_roads, .int v_o_known, .int v_o_fewest, .int v_o_origins, .int v_o_always, .int v_o_sometimes, .int v_o_leastSets])), (q_o_from, gI Cs 15 v_o_from), (q_o_to, gI Cs 15 v_o_to), (q_o_lengths, gI Cs 15 v_o_lengths), (q_o_earliest, gI Cs 10 v_o_earliest), (q_o_latest, gI Cs 10 v_o_latest), (q_o_years, gI Cs 10 w_o_years)] H → va_D A [(q_o, .inr (0, [.ref q_o_from, .ref q_o_to, .ref q_o_lengths, .ref q_o_earliest, .ref q_o_latest, .ref q_o_years, .ref q_o_explained, .ref q_o_together, .int v_o_towns, .int v_o_roads, .int v_o_known, .int v_o_fewest, .int v_o_origins, .int v_o_always, .int v_o_sometimes, .int v_o_leastSets])), (q_o_from, gI Cs 15 v_o_from), (q_o_to, gI Cs 15 v_o_to), (q_o_lengths, gI Cs 15 v_o_lengths), (q_o_earliest, gI Cs 10 v_o_earliest), (q_o_latest, gI Cs 10 v_o_latest), (q_o_years, gI Cs 10 w_o_years)] → va_S A s.heap H locs → lv_has ls 7 [(0, .ref q_o), (1, .int x1), (2, .int x2), (3, .int x3), (4, .int x4), (5, .int x5)] → P_X0_explainsByRoad_b72 v_o_towns v_o_roads v_o_known v_o_from v_o_to v_o_lengths v_o_earliest v_o_latest v_o_years x1 x2 x3 x4 x5 post w_o_years s0 → W p l e ({ frames := 2, cells := 0, slots := 0, locals := 49 } : Room) s m args below meth c H locs 0 0 Q (F0 m 72 ls [.int s0]) := by
    intro H locs ls w_o_years s0 hP hD hS hl h
    unfold P_X0_explainsByRoad_b72 at h
    obtain ⟨hnb, h⟩ := h
    rw [← hQ]
    exact gRetI (u := w_o_years) hx hb hr hnb h hP hD hS dX0_explainsByRoad_72 hlocks
  have B31 : ∀ (H : Heap) (locs : List Loc) (ls : Array Slot) (w_o_years : (Nat → Int32)) (x6 : Int32), va_P D vwCl [(q_o, .inr (0, [.ref q_o_from, .ref q_o_to, .ref q_o_lengths, .ref q_o_earliest, .ref q_o_latest, .ref q_o_years, .ref q_o_explained, .ref q_o_together, .int v_o_towns, .int v_o_roads, .int v_o_known, .int v_o_fewest, .int v_o_origins, .int v_o_always, .int v_o_sometimes, .int v_o_leastSets])), (q_o_from, gI Cs 15 v_o_from), (q_o_to, gI Cs 15 v_o_to), (q_o_lengths, gI Cs 15 v_o_lengths), (q_o_earliest, gI Cs 10 v_o_earliest), (q_o_latest, gI Cs 10 v_o_latest), (q_o_years, gI Cs 10 w_o_years)] H → va_D A [(q_o, .inr (0, [.ref q_o_from, .ref q_o_to, .ref q_o_lengths, .ref q_o_earliest, .ref q_o_latest, .ref q_o_years, .ref q_o_explained, .ref q_o_together, .int v_o_towns, .int v_o_roads, .int v_o_known, .int v_o_fewest, .int v_o_origins, .int v_o_always, .int v_o_sometimes, .int v_o_leastSets])), (q_o_from, gI Cs 15 v_o_from), (q_o_to, gI Cs 15 v_o_to), (q_o_lengths, gI Cs 15 v_o_lengths), (q_o_earliest, gI Cs 10 v_o_earliest), (q_o_latest, gI Cs 10 v_o_latest), (q_o_years, gI Cs 10 w_o_years)] → va_S A s.heap H locs → lv_has ls 7 [(0, .ref q_o), (1, .int x1), (2, .int x2), (3, .int x3), (4, .int x4), (5, .int x5), (6, .int x6)] → P_X0_explainsByRoad_b31 v_o_towns v_o_roads v_o_known v_o_from v_o_to v_o_lengths v_o_earliest v_o_latest v_o_years x1 x2 x3 x4 x5 post w_o_years x6 → W p l e ({ frames := 2, cells := 0, slots := 0, locals := 49 } : Room) s m args below meth c H locs 0 0 Q (F0 m 31 ls []) := by
    intro H locs ls w_o_years x6 hP hD hS hl h
    unfold P_X0_explainsByRoad_b31 at h
    refine lv_iload hx hb dX0_explainsByRoad_31 (lv_at hl 6 rfl) ?_
    refine lv_aload_n hx hb dX0_explainsByRoad_33 rfl (lv_at hl 0 rfl) ?_
    refine va_get (D := D) (ci := 0) (v := .ref q_o_latest) (C := RX0) (T := TX0) (N := 16) hx hb htb inT_X0 hown hK hP 0 rfl rfl 4 (by decide) (htb _ tb_69) (fun _ h9 => h9) rfl dX0_explainsByRoad_34 ?_
    refine lv_iload_n hx hb dX0_explainsByRoad_37 rfl (lv_at hl 3 rfl) ?_
    obtain ⟨hi_1, h⟩ := h
    refine va_iald hx hb hK hP 5 0 rfl rfl hi_1 dX0_explainsByRoad_38 ?_
    refine lv_icmp_le (tgt := 44) hx hb dX0_explainsByRoad_39 (by decide) (fun c_2 => ?_) (fun c_2 => ?_)
    · have h := h.1 c_2
      refine lv_aload_n hx hb dX0_explainsByRoad_44 rfl (lv_at hl 0 rfl) ?_
      refine va_get (D := D) (ci := 0) (v := .ref q_o_years) (C := RX0) (T := TX0) (N := 16) hx hb htb inT_X0 hown hK hP 0 rfl rfl 5 (by decide) (htb _ tb_70) (fun _ h9 => h9) rfl dX0_explainsByRoad_45 ?_
      refine lv_iload_n hx hb dX0_explainsByRoad_48 rfl (lv_at hl 3 rfl) ?_
      refine lv_iload hx hb dX0_explainsByRoad_49 (lv_at hl 6 rfl) ?_
      obtain ⟨hi_3, h⟩ := h
      refine va_iast hx hb hK hP hD hS 6 0 rfl rfl hi_3 dX0_explainsByRoad_51 (fun H locs hP hD hS => ?_)
      have hP : va_P D vwCl [(q_o, .inr (0, [.ref q_o_from, .ref q_o_to, .ref q_o_lengths, .ref q_o_earliest, .ref q_o_latest, .ref q_o_years, .ref q_o_explained, .ref q_o_together, .int v_o_towns, .int v_o_roads, .int v_o_known, .int v_o_fewest, .int v_o_origins, .int v_o_always, .int v_o_sometimes, .int v_o_leastSets])), (q_o_from, gI Cs 15 v_o_from), (q_o_to, gI Cs 15 v_o_to), (q_o_lengths, gI Cs 15 v_o_lengths), (q_o_earliest, gI Cs 10 v_o_earliest), (q_o_latest, gI Cs 10 v_o_latest), (q_o_years, gI Cs 10 (upd w_o_years x3.toNatClampNeg x6))] H := hP
      have hD : va_D A [(q_o, .inr (0, [.ref q_o_from, .ref q_o_to, .ref q_o_lengths, .ref q_o_earliest, .ref q_o_latest, .ref q_o_years, .ref q_o_explained, .ref q_o_together, .int v_o_towns, .int v_o_roads, .int v_o_known, .int v_o_fewest, .int v_o_origins, .int v_o_always, .int v_o_sometimes, .int v_o_leastSets])), (q_o_from, gI Cs 15 v_o_from), (q_o_to, gI Cs 15 v_o_to), (q_o_lengths, gI Cs 15 v_o_lengths), (q_o_earliest, gI Cs 10 v_o_earliest), (q_o_latest, gI Cs 10 v_o_latest), (q_o_years, gI Cs 10 (upd w_o_years x3.toNatClampNeg x6))] := hD
      refine lv_aload_n hx hb dX0_explainsByRoad_52 rfl (lv_at hl 0 rfl) ?_
      refine gVMv (wr := [(q_o_latest, gI Cs 10 v_o_latest)]) (As := []) (rest := []) ⟨hx, hb, hml, hown, htb⟩ hK hP hD hS hA hN [0, 1, 2, 3, 4, 6] [5] rfl (by decide) rfl (by decide) (by decide) (c_X0_spread l D Cs q_o q_o_from q_o_to q_o_lengths q_o_earliest q_o_latest q_o_years q_o_explained q_o_together H.size v_o_towns v_o_roads v_o_from v_o_to v_o_lengths v_o_earliest (upd w_o_years x3.toNatClampNeg x6) v_o_known v_o_fewest v_o_origins v_o_always v_o_sometimes v_o_leastSets h) (cwV 0 htb (TB_v tb_202 tb_203 tb_204 tb_26 (TB_self tb_205)) rfl rfl rfl z_X0_spread ⟨Nat.le_of_ble_eq_true rfl, Nat.le_of_ble_eq_true rfl⟩) 0 rfl rfl rfl rfl hl.1 rfl (Nat.le_of_ble_eq_true rfl) ⟨Nat.le_of_ble_eq_true rfl, Nat.le_of_ble_eq_true rfl⟩ dX0_explainsByRoad_53 (fun m_5 H locs h hP hD hS => ?_)
      have hP : va_P D vwCl [(q_o_latest, gI Cs 10 v_o_latest), (q_o, .inr (0, [.ref q_o_from, .ref q_o_to, .ref q_o_lengths, .ref q_o_earliest, .ref q_o_latest, .ref q_o_years, .ref q_o_explained, .ref q_o_together, .int v_o_towns, .int v_o_roads, .int v_o_known, .int v_o_fewest, .int v_o_origins, .int v_o_always, .int v_o_sometimes, .int v_o_leastSets])), (q_o_from, gI Cs 15 v_o_from), (q_o_to, gI Cs 15 v_o_to), (q_o_lengths, gI Cs 15 v_o_lengths), (q_o_earliest, gI Cs 10 v_o_earliest), (q_o_years, gI Cs 10 m_5)] H := hP
      have hD : va_D A [(q_o_latest, gI Cs 10 v_o_latest), (q_o, .inr (0, [.ref q_o_from, .ref q_o_to, .ref q_o_lengths, .ref q_o_earliest, .ref q_o_latest, .ref q_o_years, .ref q_o_explained, .ref q_o_together, .int v_o_towns, .int v_o_roads, .int v_o_known, .int v_o_fewest, .int v_o_origins, .int v_o_always, .int v_o_sometimes, .int v_o_leastSets])), (q_o_from, gI Cs 15 v_o_from), (q_o_to, gI Cs 15 v_o_to), (q_o_lengths, gI Cs 15 v_o_lengths), (q_o_earliest, gI Cs 10 v_o_earliest), (q_o_years, gI Cs 10 m_5)] := hD
      refine lv_aload_n hx hb dX0_explainsByRoad_56 rfl (lv_at hl 0 rfl) ?_
      refine gVR (As := []) (rest := []) ⟨hx, hb, hml, hown, htb⟩ hK hP hN [1, 0, 6] rfl (c_X0_knownInTime l D Cs q_o q_o_from q_o_to q_o_lengths q_o_earliest q_o_latest q_o_years q_o_explained q_o_together v_o_towns v_o_latest m_5 v_o_roads v_o_known v_o_fewest v_o_origins v_o_always v_o_sometimes v_o_leastSets h) (cwV 0 htb (TB_v tb_210 tb_211 tb_212 tb_26 (TB_self tb_213)) rfl rfl rfl z_X0_knownInTime ⟨Nat.le_of_ble_eq_true rfl, Nat.le_of_ble_eq_true rfl⟩) 1 rfl rfl rfl rfl hl.1 rfl (Nat.le_of_ble_eq_true rfl) ⟨Nat.le_of_ble_eq_true rfl, Nat.le_of_ble_eq_true rfl⟩ dX0_explainsByRoad_57 (fun r_6 h => ?_)
      refine lv_aload_n hx hb dX0_explainsByRoad_60 rfl (lv_at hl 0 rfl) ?_
      refine va_get (D := D) (ci := 0) (v := .int v_o_known) (C := RX0) (T := TX0) (N := 16) hx hb htb inT_X0 hown hK hP 1 rfl rfl 10 (by decide) (htb _ tb_192) (fun _ h9 => h9) rfl dX0_explainsByRoad_61 ?_
      refine lv_icmp_ne (tgt := 71) hx hb dX0_explainsByRoad_64 (by decide) (fun c_7 => ?_) (fun c_7 => ?_)
      · have h := h.2 c_7
        refine lv_iconst (v := (0 : Int32)) hx hb dX0_explainsByRoad_71 (by decide) ?_
        exact B72 _ _ _ m_5 (0 : Int32) (hP.sub [1, 2, 3, 4, 5, 0, 6] rfl) (hD.sub [1, 2, 3, 4, 5, 0, 6] (by decide) rfl) hS (lv_sub hl [0, 1, 2, 3, 4, 5] rfl) h
      · have h := h.1 c_7
        refine lv_iconst (v := (1 : Int32)) hx hb dX0_explainsByRoad_67 (by decide) ?_
        refine lv_goto (tgt := 72) hx hb dX0_explainsByRoad_68 (by decide) ?_
        exact B72 _ _ _ m_5 (1 : Int32) (hP.sub [1, 2, 3, 4, 5, 0, 6] rfl) (hD.sub [1, 2, 3, 4, 5, 0, 6] (by decide) rfl) hS (lv_sub hl [0, 1, 2, 3, 4, 5] rfl) h
    · have h := h.2 c_2
      refine lv_iconst (v := (0 : Int32)) hx hb dX0_explainsByRoad_42 (by decide) ?_
      rw [← hQ]
      exact gRetI (u := w_o_years) hx hb hr rfl h hP hD hS dX0_explainsByRoad_43 hlocks
  unfold P_X0_explainsByRoad at h
  refine lv_aload_n hx hb dX0_explainsByRoad_0 rfl (lv_at hl 0 rfl) ?_
  refine lv_iload_n hx hb dX0_explainsByRoad_1 rfl (lv_at hl 1 rfl) ?_
  refine gVMv (wr := [(q_o_from, gI Cs 15 v_o_from), (q_o_to, gI Cs 15 v_o_to), (q_o_lengths, gI Cs 15 v_o_lengths), (q_o_latest, gI Cs 10 v_o_latest)]) (As := [.int x1]) (rest := []) ⟨hx, hb, hml, hown, htb⟩ hK hP hD hS hA hN [0, 4, 6] [1, 2, 3, 5] rfl (by decide) rfl (by decide) (by decide) (c_X0_inventIn l D Cs q_o q_o_from q_o_to q_o_lengths q_o_earliest q_o_latest q_o_years q_o_explained q_o_together H.size v_o_towns v_o_earliest v_o_years v_o_roads v_o_known v_o_fewest v_o_origins v_o_always v_o_sometimes v_o_leastSets x1 h) (cwV 1 htb (TB_v tb_198 tb_199 tb_200 tb_26 (TB_self tb_201)) rfl rfl rfl z_X0_inventIn ⟨Nat.le_of_ble_eq_true rfl, Nat.le_of_ble_eq_true rfl⟩) 0 rfl rfl rfl rfl hl.1 rfl (Nat.le_of_ble_eq_true rfl) ⟨Nat.le_of_ble_eq_true rfl, Nat.le_of_ble_eq_true rfl⟩ dX0_explainsByRoad_2 (fun m_9 H locs h hP hD hS => ?_)
  have hP : va_P D vwCl [(q_o_from, gI Cs 15 v_o_from), (q_o_to, gI Cs 15 v_o_to), (q_o_lengths, gI Cs 15 v_o_lengths), (q_o_latest, gI Cs 10 v_o_latest), (q_o, .inr (0, [.ref q_o_from, .ref q_o_to, .ref q_o_lengths, .ref q_o_earliest, .ref q_o_latest, .ref q_o_years, .ref q_o_explained, .ref q_o_together, .int v_o_towns, .int v_o_roads, .int v_o_known, .int v_o_fewest, .int v_o_origins, .int v_o_always, .int v_o_sometimes, .int v_o_leastSets])), (q_o_earliest, gI Cs 10 v_o_earliest), (q_o_years, gI Cs 10 m_9)] H := hP
  have hD : va_D A [(q_o_from, gI Cs 15 v_o_from), (q_o_to, gI Cs 15 v_o_to), (q_o_lengths, gI Cs 15 v_o_lengths), (q_o_latest, gI Cs 10 v_o_latest), (q_o, .inr (0, [.ref q_o_from, .ref q_o_to, .ref q_o_lengths, .ref q_o_earliest, .ref q_o_latest, .ref q_o_years, .ref q_o_explained, .ref q_o_together, .int v_o_towns, .int v_o_roads, .int v_o_known, .int v_o_fewest, .int v_o_origins, .int v_o_always, .int v_o_sometimes, .int v_o_leastSets])), (q_o_earliest, gI Cs 10 v_o_earliest), (q_o_years, gI Cs 10 m_9)] := hD
  refine lv_aload_n hx hb dX0_explainsByRoad_5 rfl (lv_at hl 0 rfl) ?_
  refine gVMv (wr := [(q_o_latest, gI Cs 10 v_o_latest)]) (As := []) (rest := []) ⟨hx, hb, hml, hown, htb⟩ hK hP hD hS hA hN [4, 0, 1, 2, 5, 6] [3] rfl (by decide) rfl (by decide) (by decide) (c_X0_spread l D Cs q_o q_o_from q_o_to q_o_lengths q_o_earliest q_o_latest q_o_years q_o_explained q_o_together H.size v_o_towns v_o_roads v_o_from v_o_to v_o_lengths v_o_earliest m_9 v_o_known v_o_fewest v_o_origins v_o_always v_o_sometimes v_o_leastSets h) (cwV 0 htb (TB_v tb_202 tb_203 tb_204 tb_26 (TB_self tb_205)) rfl rfl rfl z_X0_spread ⟨Nat.le_of_ble_eq_true rfl, Nat.le_of_ble_eq_true rfl⟩) 4 rfl rfl rfl rfl hl.1 rfl (Nat.le_of_ble_eq_true rfl) ⟨Nat.le_of_ble_eq_true rfl, Nat.le_of_ble_eq_true rfl⟩ dX0_explainsByRoad_6 (fun m_11 H locs h hP hD hS => ?_)
  have hP : va_P D vwCl [(q_o_latest, gI Cs 10 v_o_latest), (q_o, .inr (0, [.ref q_o_from, .ref q_o_to, .ref q_o_lengths, .ref q_o_earliest, .ref q_o_latest, .ref q_o_years, .ref q_o_explained, .ref q_o_together, .int v_o_towns, .int v_o_roads, .int v_o_known, .int v_o_fewest, .int v_o_origins, .int v_o_always, .int v_o_sometimes, .int v_o_leastSets])), (q_o_from, gI Cs 15 v_o_from), (q_o_to, gI Cs 15 v_o_to), (q_o_lengths, gI Cs 15 v_o_lengths), (q_o_earliest, gI Cs 10 v_o_earliest), (q_o_years, gI Cs 10 m_11)] H := hP
  have hD : va_D A [(q_o_latest, gI Cs 10 v_o_latest), (q_o, .inr (0, [.ref q_o_from, .ref q_o_to, .ref q_o_lengths, .ref q_o_earliest, .ref q_o_latest, .ref q_o_years, .ref q_o_explained, .ref q_o_together, .int v_o_towns, .int v_o_roads, .int v_o_known, .int v_o_fewest, .int v_o_origins, .int v_o_always, .int v_o_sometimes, .int v_o_leastSets])), (q_o_from, gI Cs 15 v_o_from), (q_o_to, gI Cs 15 v_o_to), (q_o_lengths, gI Cs 15 v_o_lengths), (q_o_earliest, gI Cs 10 v_o_earliest), (q_o_years, gI Cs 10 m_11)] := hD
  refine lv_aload_n hx hb dX0_explainsByRoad_9 rfl (lv_at hl 0 rfl) ?_
  refine va_get (D := D) (ci := 0) (v := .ref q_o_years) (C := RX0) (T := TX0) (N := 16) hx hb htb inT_X0 hown hK hP 1 rfl rfl 5 (by decide) (htb _ tb_70) (fun _ h9 => h9) rfl dX0_explainsByRoad_10 ?_
  refine lv_iload_n hx hb dX0_explainsByRoad_13 rfl (lv_at hl 2 rfl) ?_
  obtain ⟨hi_12, h⟩ := h
  refine va_iald hx hb hK hP 6 0 rfl rfl hi_12 dX0_explainsByRoad_14 ?_
  refine lv_iload hx hb dX0_explainsByRoad_15 (lv_at hl 4 rfl) ?_
  refine lv_iadd hx hb dX0_explainsByRoad_17 ?_
  refine lv_topi (fun x6_13 ex6_13 => ?_)
  have h := h _ ex6_13
  refine lv_istore (lv' := [(6, .int x6_13), (0, .ref q_o), (1, .int x1), (2, .int x2), (3, .int x3), (4, .int x4), (5, .int x5)]) hx hb dX0_explainsByRoad_18 hl (by decide) rfl (fun ls hl => ?_)
  refine lv_iload hx hb dX0_explainsByRoad_20 (lv_at hl 0 rfl) ?_
  refine lv_iload hx hb dX0_explainsByRoad_22 (lv_at hl 6 rfl) ?_
  refine lv_icmp_ge (tgt := 31) hx hb dX0_explainsByRoad_24 (by decide) (fun c_14 => ?_) (fun c_14 => ?_)
  · have h := h.1 c_14
    exact B31 _ _ _ m_11 x6_13 (hP.sub [1, 2, 3, 4, 5, 0, 6] rfl) (hD.sub [1, 2, 3, 4, 5, 0, 6] (by decide) rfl) hS (lv_sub hl [1, 2, 3, 4, 5, 6, 0] rfl) h
  · have h := h.2 c_14
    refine lv_iload hx hb dX0_explainsByRoad_27 (lv_at hl 6 rfl) ?_
    refine lv_istore (lv' := [(6, .int x5), (0, .ref q_o), (1, .int x1), (2, .int x2), (3, .int x3), (4, .int x4), (5, .int x5)]) hx hb dX0_explainsByRoad_29 hl (by decide) rfl (fun ls hl => ?_)
    exact B31 _ _ _ m_11 x5 (hP.sub [1, 2, 3, 4, 5, 0, 6] rfl) (hD.sub [1, 2, 3, 4, 5, 0, 6] (by decide) rfl) hS (lv_sub hl [1, 2, 3, 4, 5, 6, 0] rfl) h
set_option maxHeartbeats 4000000 in
set_option maxRecDepth 100000 in
theorem c_X0_canHavePassed (l : Launch) (D : va_G) (Cs : Nat → ClassId) (q_o : Nat) (q_a1 : Nat) (q_o_from : Nat) (q_o_to : Nat) (q_o_lengths : Nat) (q_o_earliest : Nat) (q_o_latest : Nat) (q_o_years : Nat) (q_o_explained : Nat) (q_o_together : Nat) (q_a1_cells : Nat) (sz : Nat) (b_o : BH) (v_a1_cells : (Nat → Int32)) (x2 : Int32) (x3 : Int32) (x4 : Int32) {post : Int32 → BH → Prop} (h : P_X0_canHavePassed b_o v_a1_cells x2 x3 x4 post) : Met l yX0_canHavePassed wsX0_canHavePassed ({ frames := 4, cells := 0, slots := 0, locals := 92 } : Room) (va_Pc [.ref q_o, .ref q_a1, .int x2, .int x3, .int x4] (gM D Cs [(q_o, .inr (0, [.ref q_o_from, .ref q_o_to, .ref q_o_lengths, .ref q_o_earliest, .ref q_o_latest, .ref q_o_years, .ref q_o_explained, .ref q_o_together, .int b_o.1, .int b_o.2.1, .int b_o.2.2.1, .int b_o.2.2.2.1, .int b_o.2.2.2.2.1, .int b_o.2.2.2.2.2.1, .int b_o.2.2.2.2.2.2.1, .int b_o.2.2.2.2.2.2.2.1])), (q_o_from, gI Cs 15 b_o.2.2.2.2.2.2.2.2.1), (q_o_to, gI Cs 15 b_o.2.2.2.2.2.2.2.2.2.1), (q_o_lengths, gI Cs 15 b_o.2.2.2.2.2.2.2.2.2.2.1), (q_o_earliest, gI Cs 10 b_o.2.2.2.2.2.2.2.2.2.2.2.1), (q_o_latest, gI Cs 10 b_o.2.2.2.2.2.2.2.2.2.2.2.2.1), (q_o_years, gI Cs 10 b_o.2.2.2.2.2.2.2.2.2.2.2.2.2.1), (q_o_explained, gI Cs 10 b_o.2.2.2.2.2.2.2.2.2.2.2.2.2.2.1), (q_o_together, gI Cs 1024 b_o.2.2.2.2.2.2.2.2.2.2.2.2.2.2.2), (q_a1, .inr (1, [.ref q_a1_cells])), (q_a1_cells, gI Cs 221 v_a1_cells)] sz)) (va_Qi (fun (r : Int32) (u : BH) => post r u) (gB D (va_A [(q_o, .inr (0, [.ref q_o_from, .ref q_o_to, .ref q_o_lengths, .ref q_o_earliest, .ref q_o_latest, .ref q_o_years, .ref q_o_explained, .ref q_o_together, .int b_o.1, .int b_o.2.1, .int b_o.2.2.1, .int b_o.2.2.2.1, .int b_o.2.2.2.2.1, .int b_o.2.2.2.2.2.1, .int b_o.2.2.2.2.2.2.1, .int b_o.2.2.2.2.2.2.2.1])), (q_o_from, gI Cs 15 b_o.2.2.2.2.2.2.2.2.1), (q_o_to, gI Cs 15 b_o.2.2.2.2.2.2.2.2.2.1), (q_o_lengths, gI Cs 15 b_o.2.2.2.2.2.2.2.2.2.2.1), (q_o_earliest, gI Cs 10 b_o.2.2.2.2.2.2.2.2.2.2.2.1), (q_o_latest, gI Cs 10 b_o.2.2.2.2.2.2.2.2.2.2.2.2.1), (q_o_years, gI Cs 10 b_o.2.2.2.2.2.2.2.2.2.2.2.2.2.1), (q_o_explained, gI Cs 10 b_o.2.2.2.2.2.2.2.2.2.2.2.2.2.2.1), (q_o_together, gI Cs 1024 b_o.2.2.2.2.2.2.2.2.2.2.2.2.2.2.2), (q_a1, .inr (1, [.ref q_a1_cells])), (q_a1_cells, gI Cs 221 v_a1_cells)] sz) (fun u : BH => [(q_o, .inr (0, [.ref q_o_from, .ref q_o_to, .ref q_o_lengths, .ref q_o_earliest, .ref q_o_latest, .ref q_o_years, .ref q_o_explained, .ref q_o_together, .int u.1, .int u.2.1, .int u.2.2.1, .int u.2.2.2.1, .int u.2.2.2.2.1, .int u.2.2.2.2.2.1, .int u.2.2.2.2.2.2.1, .int u.2.2.2.2.2.2.2.1])), (q_o_from, gI Cs 15 u.2.2.2.2.2.2.2.2.1), (q_o_to, gI Cs 15 u.2.2.2.2.2.2.2.2.2.1), (q_o_lengths, gI Cs 15 u.2.2.2.2.2.2.2.2.2.2.1), (q_o_earliest, gI Cs 10 u.2.2.2.2.2.2.2.2.2.2.2.1), (q_o_latest, gI Cs 10 u.2.2.2.2.2.2.2.2.2.2.2.2.1), (q_o_years, gI Cs 10 u.2.2.2.2.2.2.2.2.2.2.2.2.2.1), (q_o_explained, gI Cs 10 u.2.2.2.2.2.2.2.2.2.2.2.2.2.2.1), (q_o_together, gI Cs 1024 u.2.2.2.2.2.2.2.2.2.2.2.2.2.2.2), (q_a1, .inr (1, [.ref q_a1_cells])), (q_a1_cells, gI Cs 221 v_a1_cells)])) (va_A [(q_o, .inr (0, [.ref q_o_from, .ref q_o_to, .ref q_o_lengths, .ref q_o_earliest, .ref q_o_latest, .ref q_o_years, .ref q_o_explained, .ref q_o_together, .int b_o.1, .int b_o.2.1, .int b_o.2.2.1, .int b_o.2.2.2.1, .int b_o.2.2.2.2.1, .int b_o.2.2.2.2.2.1, .int b_o.2.2.2.2.2.2.1, .int b_o.2.2.2.2.2.2.2.1])), (q_o_from, gI Cs 15 b_o.2.2.2.2.2.2.2.2.1), (q_o_to, gI Cs 15 b_o.2.2.2.2.2.2.2.2.2.1), (q_o_lengths, gI Cs 15 b_o.2.2.2.2.2.2.2.2.2.2.1), (q_o_earliest, gI Cs 10 b_o.2.2.2.2.2.2.2.2.2.2.2.1), (q_o_latest, gI Cs 10 b_o.2.2.2.2.2.2.2.2.2.2.2.2.1), (q_o_years, gI Cs 10 b_o.2.2.2.2.2.2.2.2.2.2.2.2.2.1), (q_o_explained, gI Cs 10 b_o.2.2.2.2.2.2.2.2.2.2.2.2.2.2.1), (q_o_together, gI Cs 1024 b_o.2.2.2.2.2.2.2.2.2.2.2.2.2.2.2), (q_a1, .inr (1, [.ref q_a1_cells])), (q_a1_cells, gI Cs 221 v_a1_cells)] sz)) 0 0 (va_A [(q_o, .inr (0, [.ref q_o_from, .ref q_o_to, .ref q_o_lengths, .ref q_o_earliest, .ref q_o_latest, .ref q_o_years, .ref q_o_explained, .ref q_o_together, .int b_o.1, .int b_o.2.1, .int b_o.2.2.1, .int b_o.2.2.2.1, .int b_o.2.2.2.2.1, .int b_o.2.2.2.2.2.1, .int b_o.2.2.2.2.2.2.1, .int b_o.2.2.2.2.2.2.2.1])), (q_o_from, gI Cs 15 b_o.2.2.2.2.2.2.2.2.1), (q_o_to, gI Cs 15 b_o.2.2.2.2.2.2.2.2.2.1), (q_o_lengths, gI Cs 15 b_o.2.2.2.2.2.2.2.2.2.2.1), (q_o_earliest, gI Cs 10 b_o.2.2.2.2.2.2.2.2.2.2.2.1), (q_o_latest, gI Cs 10 b_o.2.2.2.2.2.2.2.2.2.2.2.2.1), (q_o_years, gI Cs 10 b_o.2.2.2.2.2.2.2.2.2.2.2.2.2.1), (q_o_explained, gI Cs 10 b_o.2.2.2.2.2.2.2.2.2.2.2.2.2.2.1), (q_o_together, gI Cs 1024 b_o.2.2.2.2.2.2.2.2.2.2.2.2.2.2.2), (q_a1, .inr (1, [.ref q_a1_cells])), (q_a1_cells, gI Cs 221 v_a1_cells)] sz) := by
  refine Met.ofW (cc := cX0_canHavePassed) (maxL := 9) (ret := (some .boolean)) (by decide) rfl ?_
  intro p e s m args below meth c s₁ B hml hv
  obtain ⟨ha, hsz, hP, hK, hD0, hN⟩ := hv
  have hx := B.exec
  have hb := B.bytes
  have hr := B.returns
  have hts := atoms_spec (ws := wsX0_canHavePassed) B.pre
  have htb : ∀ w ∈ TB, w.before args s = true := fun w h9 => hts w (List.mem_cons_of_mem _ h9)
  have hown : s.vm.findClass RX0 = some m.cls := findClass_of_methodNamed B.named
  have hlocks := B.notSynchronized
  subst hsz
  have hD := hD0.self (sz := s.heap.size)
  generalize hAe : va_A [(q_o, .inr (0, [.ref q_o_from, .ref q_o_to, .ref q_o_lengths, .ref q_o_earliest, .ref q_o_latest, .ref q_o_years, .ref q_o_explained, .ref q_o_together, .int b_o.1, .int b_o.2.1, .int b_o.2.2.1, .int b_o.2.2.2.1, .int b_o.2.2.2.2.1, .int b_o.2.2.2.2.2.1, .int b_o.2.2.2.2.2.2.1, .int b_o.2.2.2.2.2.2.2.1])), (q_o_from, gI Cs 15 b_o.2.2.2.2.2.2.2.2.1), (q_o_to, gI Cs 15 b_o.2.2.2.2.2.2.2.2.2.1), (q_o_lengths, gI Cs 15 b_o.2.2.2.2.2.2.2.2.2.2.1), (q_o_earliest, gI Cs 10 b_o.2.2.2.2.2.2.2.2.2.2.2.1), (q_o_latest, gI Cs 10 b_o.2.2.2.2.2.2.2.2.2.2.2.2.1), (q_o_years, gI Cs 10 b_o.2.2.2.2.2.2.2.2.2.2.2.2.2.1), (q_o_explained, gI Cs 10 b_o.2.2.2.2.2.2.2.2.2.2.2.2.2.2.1), (q_o_together, gI Cs 1024 b_o.2.2.2.2.2.2.2.2.2.2.2.2.2.2.2), (q_a1, .inr (1, [.ref q_a1_cells])), (q_a1_cells, gI Cs 221 v_a1_cells)] s.heap.size = A at hD ⊢
  have hA : ∀ q : Nat, s.heap.size ≤ q → A q := fun q h9 => by rw [← hAe]; exact Or.inr h9
  obtain ⟨H, hH⟩ : ∃ z : Heap, z = s.heap := ⟨_, rfl⟩
  have hS : va_S A s.heap H [] := by rw [hH]; exact va_S.rf
  have hP : va_P D vwCl [(q_o, .inr (0, [.ref q_o_from, .ref q_o_to, .ref q_o_lengths, .ref q_o_earliest, .ref q_o_latest, .ref q_o_years, .ref q_o_explained, .ref q_o_together, .int b_o.1, .int b_o.2.1, .int b_o.2.2.1, .int b_o.2.2.2.1, .int b_o.2.2.2.2.1, .int b_o.2.2.2.2.2.1, .int b_o.2.2.2.2.2.2.1, .int b_o.2.2.2.2.2.2.2.1])), (q_o_from, gI Cs 15 b_o.2.2.2.2.2.2.2.2.1), (q_o_to, gI Cs 15 b_o.2.2.2.2.2.2.2.2.2.1), (q_o_lengths, gI Cs 15 b_o.2.2.2.2.2.2.2.2.2.2.1), (q_o_earliest, gI Cs 10 b_o.2.2.2.2.2.2.2.2.2.2.2.1), (q_o_latest, gI Cs 10 b_o.2.2.2.2.2.2.2.2.2.2.2.2.1), (q_o_years, gI Cs 10 b_o.2.2.2.2.2.2.2.2.2.2.2.2.2.1), (q_o_explained, gI Cs 10 b_o.2.2.2.2.2.2.2.2.2.2.2.2.2.2.1), (q_o_together, gI Cs 1024 b_o.2.2.2.2.2.2.2.2.2.2.2.2.2.2.2), (q_a1, .inr (1, [.ref q_a1_cells])), (q_a1_cells, gI Cs 221 v_a1_cells)] H := by rw [hH]; exact hP
  generalize hQ : MQ below _ args s _ _ _ = Q
  show W p l e ({ frames := 4, cells := 0, slots := 0, locals := 92 } : Room) s m args below meth c s.heap [] 0 0 Q (entryFrame m args 9)
  have hent : entryFrame m args 9 = F0 m 0 ((lg_sl ([.ref q_o, .ref q_a1, .int x2, .int x3, .int x4]) ++ List.replicate (9 - (lg_sl ([.ref q_o, .ref q_a1, .int x2, .int x3, .int x4])).length) Slot.unset).toArray) [] := by rw [ha]; exact lg_entry_eq m ([.ref q_o, .ref q_a1, .int x2, .int x3, .int x4]) 9
  rw [hent]; clear hent
  rw [← hH]
  have hl := lv_entry ([.ref q_o, .ref q_a1, .int x2, .int x3, .int x4]) (n := 9) (Nat.le_of_ble_eq_true rfl)
  generalize (lg_sl ([.ref q_o, .ref q_a1, .int x2, .int x3, .int x4]) ++ List.replicate (9 - (lg_sl ([.ref q_o, .ref q_a1, .int x2, .int x3, .int x4])).length) Slot.unset).toArray = ls at hl ⊢
  have hl : lv_has ls 9 [(0, .ref q_o), (1, .ref q_a1), (2, .int x2), (3, .int x3), (4, .int x4)] := hl
  have B36 : ∀ (H : Heap) (locs : List Loc) (ls : Array Slot) (d_o : BH), va_P D vwCl [(q_o, .inr (0, [.ref q_o_from, .ref q_o_to, .ref q_o_lengths, .ref q_o_earliest, .ref q_o_latest, .ref q_o_years, .ref q_o_explained, .ref q_o_together, .int d_o.1, .int d_o.2.1, .int d_o.2.2.1, .int d_o.2.2.2.1, .int d_o.2.2.2.2.1, .int d_o.2.2.2.2.2.1, .int d_o.2.2.2.2.2.2.1, .int d_o.2.2.2.2.2.2.2.1])), (q_o_from, gI Cs 15 d_o.2.2.2.2.2.2.2.2.1), (q_o_to, gI Cs 15 d_o.2.2.2.2.2.2.2.2.2.1), (q_o_lengths, gI Cs 15 d_o.2.2.2.2.2.2.2.2.2.2.1), (q_o_earliest, gI Cs 10 d_o.2.2.2.2.2.2.2.2.2.2.2.1), (q_o_latest, gI Cs 10 d_o.2.2.2.2.2.2.2.2.2.2.2.2.1), (q_o_years, gI Cs 10 d_o.2.2.2.2.2.2.2.2.2.2.2.2.2.1), (q_o_explained, gI Cs 10 d_o.2.2.2.2.2.2.2.2.2.2.2.2.2.2.1), (q_o_together, gI Cs 1024 d_o.2.2.2.2.2.2.2.2.2.2.2.2.2.2.2), (q_a1, .inr (1, [.ref q_a1_cells])), (q_a1_cells, gI Cs 221 v_a1_cells)] H → va_D A [(q_o, .inr (0, [.ref q_o_from, .ref q_o_to, .ref q_o_lengths, .ref q_o_earliest, .ref q_o_latest, .ref q_o_years, .ref q_o_explained, .ref q_o_together, .int d_o.1, .int d_o.2.1, .int d_o.2.2.1, .int d_o.2.2.2.1, .int d_o.2.2.2.2.1, .int d_o.2.2.2.2.2.1, .int d_o.2.2.2.2.2.2.1, .int d_o.2.2.2.2.2.2.2.1])), (q_o_from, gI Cs 15 d_o.2.2.2.2.2.2.2.2.1), (q_o_to, gI Cs 15 d_o.2.2.2.2.2.2.2.2.2.1), (q_o_lengths, gI Cs 15 d_o.2.2.2.2.2.2.2.2.2.2.1), (q_o_earliest, gI Cs 10 d_o.2.2.2.2.2.2.2.2.2.2.2.1), (q_o_latest, gI Cs 10 d_o.2.2.2.2.2.2.2.2.2.2.2.2.1), (q_o_years, gI Cs 10 d_o.2.2.2.2.2.2.2.2.2.2.2.2.2.1), (q_o_explained, gI Cs 10 d_o.2.2.2.2.2.2.2.2.2.2.2.2.2.2.1), (q_o_together, gI Cs 1024 d_o.2.2.2.2.2.2.2.2.2.2.2.2.2.2.2), (q_a1, .inr (1, [.ref q_a1_cells])), (q_a1_cells, gI Cs 221 v_a1_cells)] → va_S A s.heap H locs → lv_has ls 9 [(0, .ref q_o), (1, .ref q_a1), (2, .int x2), (3, .int x3), (4, .int x4)] → P_X0_canHavePassed_b36 b_o v_a1_cells x2 x3 x4 post d_o → W p l e ({ frames := 4, cells := 0, slots := 0, locals := 92 } : Room) s m args below meth c H locs 0 0 Q (F0 m 36 ls []) := by
    intro H locs ls d_o hP hD hS hl h
    unfold P_X0_canHavePassed_b36 at h
    refine lv_iconst (v := (0 : Int32)) hx hb dX0_canHavePassed_36 (by decide) ?_
    rw [← hQ]
    exact gRetI (u := d_o) hx hb hr rfl h hP hD hS dX0_canHavePassed_37 hlocks
  have L58 : ∀ (n : Nat) (H : Heap) (locs : List Loc) (ls : Array Slot) (d_o : BH) (x5 : Int32) (x6 : Int32) (x7 : Int32), va_P D vwCl [(q_o, .inr (0, [.ref q_o_from, .ref q_o_to, .ref q_o_lengths, .ref q_o_earliest, .ref q_o_latest, .ref q_o_years, .ref q_o_explained, .ref q_o_together, .int d_o.1, .int d_o.2.1, .int d_o.2.2.1, .int d_o.2.2.2.1, .int d_o.2.2.2.2.1, .int d_o.2.2.2.2.2.1, .int d_o.2.2.2.2.2.2.1, .int d_o.2.2.2.2.2.2.2.1])), (q_o_from, gI Cs 15 d_o.2.2.2.2.2.2.2.2.1), (q_o_to, gI Cs 15 d_o.2.2.2.2.2.2.2.2.2.1), (q_o_lengths, gI Cs 15 d_o.2.2.2.2.2.2.2.2.2.2.1), (q_o_earliest, gI Cs 10 d_o.2.2.2.2.2.2.2.2.2.2.2.1), (q_o_latest, gI Cs 10 d_o.2.2.2.2.2.2.2.2.2.2.2.2.1), (q_o_years, gI Cs 10 d_o.2.2.2.2.2.2.2.2.2.2.2.2.2.1), (q_o_explained, gI Cs 10 d_o.2.2.2.2.2.2.2.2.2.2.2.2.2.2.1), (q_o_together, gI Cs 1024 d_o.2.2.2.2.2.2.2.2.2.2.2.2.2.2.2), (q_a1, .inr (1, [.ref q_a1_cells])), (q_a1_cells, gI Cs 221 v_a1_cells)] H → va_D A [(q_o, .inr (0, [.ref q_o_from, .ref q_o_to, .ref q_o_lengths, .ref q_o_earliest, .ref q_o_latest, .ref q_o_years, .ref q_o_explained, .ref q_o_together, .int d_o.1, .int d_o.2.1, .int d_o.2.2.1, .int d_o.2.2.2.1, .int d_o.2.2.2.2.1, .int d_o.2.2.2.2.2.1, .int d_o.2.2.2.2.2.2.1, .int d_o.2.2.2.2.2.2.2.1])), (q_o_from, gI Cs 15 d_o.2.2.2.2.2.2.2.2.1), (q_o_to, gI Cs 15 d_o.2.2.2.2.2.2.2.2.2.1), (q_o_lengths, gI Cs 15 d_o.2.2.2.2.2.2.2.2.2.2.1), (q_o_earliest, gI Cs 10 d_o.2.2.2.2.2.2.2.2.2.2.2.1), (q_o_latest, gI Cs 10 d_o.2.2.2.2.2.2.2.2.2.2.2.2.1), (q_o_years, gI Cs 10 d_o.2.2.2.2.2.2.2.2.2.2.2.2.2.1), (q_o_explained, gI Cs 10 d_o.2.2.2.2.2.2.2.2.2.2.2.2.2.2.1), (q_o_together, gI Cs 1024 d_o.2.2.2.2.2.2.2.2.2.2.2.2.2.2.2), (q_a1, .inr (1, [.ref q_a1_cells])), (q_a1_cells, gI Cs 221 v_a1_cells)] → va_S A s.heap H locs → lv_has ls 9 [(0, .ref q_o), (1, .ref q_a1), (2, .int x2), (3, .int x3), (4, .int x4), (5, .int x5), (6, .int x6), (7, .int x7)] → P_X0_canHavePassed_l58 b_o v_a1_cells x2 x3 x4 post n d_o x5 x6 x7 → W p l e ({ frames := 4, cells := 0, slots := 0, locals := 92 } : Room) s m args below meth c H locs 0 0 Q (F0 m 58 ls []) := by
    intro n58
    induction n58 with
    | zero => intro H locs ls d_o x5 x6 x7 hP hD hS hl h; exact False.elim h
    | succ n58 ih58 =>
      have B133 : ∀ (H : Heap) (locs : List Loc) (ls : Array Slot) (d_o : BH) (x5 : Int32) (x6 : Int32) (x7 : Int32), va_P D vwCl [(q_o, .inr (0, [.ref q_o_from, .ref q_o_to, .ref q_o_lengths, .ref q_o_earliest, .ref q_o_latest, .ref q_o_years, .ref q_o_explained, .ref q_o_together, .int d_o.1, .int d_o.2.1, .int d_o.2.2.1, .int d_o.2.2.2.1, .int d_o.2.2.2.2.1, .int d_o.2.2.2.2.2.1, .int d_o.2.2.2.2.2.2.1, .int d_o.2.2.2.2.2.2.2.1])), (q_o_from, gI Cs 15 d_o.2.2.2.2.2.2.2.2.1), (q_o_to, gI Cs 15 d_o.2.2.2.2.2.2.2.2.2.1), (q_o_lengths, gI Cs 15 d_o.2.2.2.2.2.2.2.2.2.2.1), (q_o_earliest, gI Cs 10 d_o.2.2.2.2.2.2.2.2.2.2.2.1), (q_o_latest, gI Cs 10 d_o.2.2.2.2.2.2.2.2.2.2.2.2.1), (q_o_years, gI Cs 10 d_o.2.2.2.2.2.2.2.2.2.2.2.2.2.1), (q_o_explained, gI Cs 10 d_o.2.2.2.2.2.2.2.2.2.2.2.2.2.2.1), (q_o_together, gI Cs 1024 d_o.2.2.2.2.2.2.2.2.2.2.2.2.2.2.2), (q_a1, .inr (1, [.ref q_a1_cells])), (q_a1_cells, gI Cs 221 v_a1_cells)] H → va_D A [(q_o, .inr (0, [.ref q_o_from, .ref q_o_to, .ref q_o_lengths, .ref q_o_earliest, .ref q_o_latest, .ref q_o_years, .ref q_o_explained, .ref q_o_together, .int d_o.1, .int d_o.2.1, .int d_o.2.2.1, .int d_o.2.2.2.1, .int d_o.2.2.2.2.1, .int d_o.2.2.2.2.2.1, .int d_o.2.2.2.2.2.2.1, .int d_o.2.2.2.2.2.2.2.1])), (q_o_from, gI Cs 15 d_o.2.2.2.2.2.2.2.2.1), (q_o_to, gI Cs 15 d_o.2.2.2.2.2.2.2.2.2.1), (q_o_lengths, gI Cs 15 d_o.2.2.2.2.2.2.2.2.2.2.1), (q_o_earliest, gI Cs 10 d_o.2.2.2.2.2.2.2.2.2.2.2.1), (q_o_latest, gI Cs 10 d_o.2.2.2.2.2.2.2.2.2.2.2.2.1), (q_o_years, gI Cs 10 d_o.2.2.2.2.2.2.2.2.2.2.2.2.2.1), (q_o_explained, gI Cs 10 d_o.2.2.2.2.2.2.2.2.2.2.2.2.2.2.1), (q_o_together, gI Cs 1024 d_o.2.2.2.2.2.2.2.2.2.2.2.2.2.2.2), (q_a1, .inr (1, [.ref q_a1_cells])), (q_a1_cells, gI Cs 221 v_a1_cells)] → va_S A s.heap H locs → lv_has ls 9 [(0, .ref q_o), (1, .ref q_a1), (2, .int x2), (3, .int x3), (4, .int x4), (5, .int x5), (6, .int x6), (7, .int x7)] → P_X0_canHavePassed_b133 b_o v_a1_cells x2 x3 x4 post (P_X0_canHavePassed_l58 b_o v_a1_cells x2 x3 x4 post n58) d_o x5 x6 x7 → W p l e ({ frames := 4, cells := 0, slots := 0, locals := 92 } : Room) s m args below meth c H locs 0 0 Q (F0 m 133 ls []) := by
        intro H locs ls d_o x5 x6 x7 hP hD hS hl h
        unfold P_X0_canHavePassed_b133 at h
        obtain ⟨x7_1, ex7_1⟩ : ∃ y : Int32, y = x7 + (1 : Int32) := ⟨_, rfl⟩
        have h := h _ ex7_1
        refine lv_iinc (v := x7_1) (lv' := [(7, .int x7_1), (0, .ref q_o), (1, .ref q_a1), (2, .int x2), (3, .int x3), (4, .int x4), (5, .int x5), (6, .int x6)]) hx hb dX0_canHavePassed_133 hl (k := 7) rfl (by rw [ex7_1]; rfl) (by decide) rfl (fun ls hl => ?_)
        refine lv_goto (tgt := 58) hx hb dX0_canHavePassed_136 (by decide) ?_
        exact ih58 _ _ _ d_o x5 x6 x7_1 hP hD hS (lv_sub hl [1, 2, 3, 4, 5, 6, 7, 0] rfl) h
      have B100 : ∀ (H : Heap) (locs : List Loc) (ls : Array Slot) (d_o : BH) (x5 : Int32) (x6 : Int32) (x7 : Int32) (s0 : Int32), va_P D vwCl [(q_o, .inr (0, [.ref q_o_from, .ref q_o_to, .ref q_o_lengths, .ref q_o_earliest, .ref q_o_latest, .ref q_o_years, .ref q_o_explained, .ref q_o_together, .int d_o.1, .int d_o.2.1, .int d_o.2.2.1, .int d_o.2.2.2.1, .int d_o.2.2.2.2.1, .int d_o.2.2.2.2.2.1, .int d_o.2.2.2.2.2.2.1, .int d_o.2.2.2.2.2.2.2.1])), (q_o_from, gI Cs 15 d_o.2.2.2.2.2.2.2.2.1), (q_o_to, gI Cs 15 d_o.2.2.2.2.2.2.2.2.2.1), (q_o_lengths, gI Cs 15 d_o.2.2.2.2.2.2.2.2.2.2.1), (q_o_earliest, gI Cs 10 d_o.2.2.2.2.2.2.2.2.2.2.2.1), (q_o_latest, gI Cs 10 d_o.2.2.2.2.2.2.2.2.2.2.2.2.1), (q_o_years, gI Cs 10 d_o.2.2.2.2.2.2.2.2.2.2.2.2.2.1), (q_o_explained, gI Cs 10 d_o.2.2.2.2.2.2.2.2.2.2.2.2.2.2.1), (q_o_together, gI Cs 1024 d_o.2.2.2.2.2.2.2.2.2.2.2.2.2.2.2), (q_a1, .inr (1, [.ref q_a1_cells])), (q_a1_cells, gI Cs 221 v_a1_cells)] H → va_D A [(q_o, .inr (0, [.ref q_o_from, .ref q_o_to, .ref q_o_lengths, .ref q_o_earliest, .ref q_o_latest, .ref q_o_years, .ref q_o_explained, .ref q_o_together, .int d_o.1, .int d_o.2.1, .int d_o.2.2.1, .int d_o.2.2.2.1, .int d_o.2.2.2.2.1, .int d_o.2.2.2.2.2.1, .int d_o.2.2.2.2.2.2.1, .int d_o.2.2.2.2.2.2.2.1])), (q_o_from, gI Cs 15 d_o.2.2.2.2.2.2.2.2.1), (q_o_to, gI Cs 15 d_o.2.2.2.2.2.2.2.2.2.1), (q_o_lengths, gI Cs 15 d_o.2.2.2.2.2.2.2.2.2.2.1), (q_o_earliest, gI Cs 10 d_o.2.2.2.2.2.2.2.2.2.2.2.1), (q_o_latest, gI Cs 10 d_o.2.2.2.2.2.2.2.2.2.2.2.2.1), (q_o_years, gI Cs 10 d_o.2.2.2.2.2.2.2.2.2.2.2.2.2.1), (q_o_explained, gI Cs 10 d_o.2.2.2.2.2.2.2.2.2.2.2.2.2.2.1), (q_o_together, gI Cs 1024 d_o.2.2.2.2.2.2.2.2.2.2.2.2.2.2.2), (q_a1, .inr (1, [.ref q_a1_cells])), (q_a1_cells, gI Cs 221 v_a1_cells)] → va_S A s.heap H locs → lv_has ls 9 [(0, .ref q_o), (1, .ref q_a1), (2, .int x2), (3, .int x3), (4, .int x4), (5, .int x5), (6, .int x6), (7, .int x7)] → P_X0_canHavePassed_b100 b_o v_a1_cells x2 x3 x4 post (P_X0_canHavePassed_l58 b_o v_a1_cells x2 x3 x4 post n58) d_o x5 x6 x7 s0 → W p l e ({ frames := 4, cells := 0, slots := 0, locals := 92 } : Room) s m args below meth c H locs 0 0 Q (F0 m 100 ls [.int s0]) := by
        intro H locs ls d_o x5 x6 x7 s0 hP hD hS hl h
        unfold P_X0_canHavePassed_b100 at h
        refine lv_istore (lv' := [(8, .int s0), (0, .ref q_o), (1, .ref q_a1), (2, .int x2), (3, .int x3), (4, .int x4), (5, .int x5), (6, .int x6), (7, .int x7)]) hx hb dX0_canHavePassed_100 hl (by decide) rfl (fun ls hl => ?_)
        refine lv_iload hx hb dX0_canHavePassed_102 (lv_at hl 0 rfl) ?_
        refine lv_if_eq (tgt := 133) hx hb dX0_canHavePassed_104 (by decide) (fun c_2 => ?_) (fun c_2 => ?_)
        · have h := h.1 c_2
          exact B133 _ _ _ d_o x5 x6 x7 hP hD hS (lv_sub hl [1, 2, 3, 4, 5, 6, 7, 8] rfl) h
        · have h := h.2 c_2
          refine lv_iload hx hb dX0_canHavePassed_107 (lv_at hl 8 rfl) ?_
          refine lv_iload_n hx hb dX0_canHavePassed_109 rfl (lv_at hl 4 rfl) ?_
          refine lv_ishr hx hb dX0_canHavePassed_110 ?_
          refine lv_iconst (v := (1 : Int32)) hx hb dX0_canHavePassed_111 (by decide) ?_
          refine lv_iand hx hb dX0_canHavePassed_112 ?_
          refine lv_if_ne (tgt := 133) hx hb dX0_canHavePassed_113 (by decide) (fun c_3 => ?_) (fun c_3 => ?_)
          · have h := h.2 c_3
            exact B133 _ _ _ d_o x5 x6 x7 hP hD hS (lv_sub hl [1, 2, 3, 4, 5, 6, 7, 8] rfl) h
          · have h := h.1 c_3
            refine lv_aload_n hx hb dX0_canHavePassed_116 rfl (lv_at hl 1 rfl) ?_
            refine lv_iload hx hb dX0_canHavePassed_117 (lv_at hl 8 rfl) ?_
            refine lv_iload_n hx hb dX0_canHavePassed_119 rfl (lv_at hl 3 rfl) ?_
            refine lv_iload_n hx hb dX0_canHavePassed_120 rfl (lv_at hl 4 rfl) ?_
            refine lv_iload hx hb dX0_canHavePassed_121 (lv_at hl 6 rfl) ?_
            refine lv_iload hx hb dX0_canHavePassed_123 (lv_at hl 7 rfl) ?_
            refine gVM (wr := [(q_o_explained, gI Cs 10 d_o.2.2.2.2.2.2.2.2.2.2.2.2.2.2.1), (q_o_together, gI Cs 1024 d_o.2.2.2.2.2.2.2.2.2.2.2.2.2.2.2), (q_a1, .inr (1, [.ref q_a1_cells])), (q_a1_cells, gI Cs 221 v_a1_cells)]) (As := [.int x7, .int x2, .int x3, .int x5, .int x6]) (rest := []) ⟨hx, hb, hml, hown, htb⟩ hK hP hD hS hA hN [0, 1, 2, 3, 4, 5, 6] [7, 8, 9, 10] rfl (by decide) rfl (by decide) (by decide) (c_X0_explainsByRoad l D Cs q_o q_o_from q_o_to q_o_lengths q_o_earliest q_o_latest q_o_years q_o_explained q_o_together H.size d_o.1 d_o.2.1 d_o.2.2.1 d_o.2.2.2.2.2.2.2.2.1 d_o.2.2.2.2.2.2.2.2.2.1 d_o.2.2.2.2.2.2.2.2.2.2.1 d_o.2.2.2.2.2.2.2.2.2.2.2.1 d_o.2.2.2.2.2.2.2.2.2.2.2.2.1 d_o.2.2.2.2.2.2.2.2.2.2.2.2.2.1 d_o.2.2.2.1 d_o.2.2.2.2.1 d_o.2.2.2.2.2.1 d_o.2.2.2.2.2.2.1 d_o.2.2.2.2.2.2.2.1 x7 x2 x3 x5 x6 h) (cwV 5 htb (TB_v tb_456 tb_457 tb_458 tb_26 (TB_self tb_459)) rfl rfl rfl z_X0_explainsByRoad ⟨Nat.le_of_ble_eq_true rfl, Nat.le_of_ble_eq_true rfl⟩) 0 rfl rfl rfl rfl hl.1 rfl (Nat.le_of_ble_eq_true rfl) ⟨Nat.le_of_ble_eq_true rfl, Nat.le_of_ble_eq_true rfl⟩ dX0_canHavePassed_125 (fun r_4 m_5 H locs h hP hD hS => ?_)
            have hP : va_P D vwCl [(q_o_explained, gI Cs 10 d_o.2.2.2.2.2.2.2.2.2.2.2.2.2.2.1), (q_o_together, gI Cs 1024 d_o.2.2.2.2.2.2.2.2.2.2.2.2.2.2.2), (q_a1, .inr (1, [.ref q_a1_cells])), (q_a1_cells, gI Cs 221 v_a1_cells), (q_o, .inr (0, [.ref q_o_from, .ref q_o_to, .ref q_o_lengths, .ref q_o_earliest, .ref q_o_latest, .ref q_o_years, .ref q_o_explained, .ref q_o_together, .int d_o.1, .int d_o.2.1, .int d_o.2.2.1, .int d_o.2.2.2.1, .int d_o.2.2.2.2.1, .int d_o.2.2.2.2.2.1, .int d_o.2.2.2.2.2.2.1, .int d_o.2.2.2.2.2.2.2.1])), (q_o_from, gI Cs 15 d_o.2.2.2.2.2.2.2.2.1), (q_o_to, gI Cs 15 d_o.2.2.2.2.2.2.2.2.2.1), (q_o_lengths, gI Cs 15 d_o.2.2.2.2.2.2.2.2.2.2.1), (q_o_earliest, gI Cs 10 d_o.2.2.2.2.2.2.2.2.2.2.2.1), (q_o_latest, gI Cs 10 d_o.2.2.2.2.2.2.2.2.2.2.2.2.1), (q_o_years, gI Cs 10 m_5)] H := hP
            have hD : va_D A [(q_o_explained, gI Cs 10 d_o.2.2.2.2.2.2.2.2.2.2.2.2.2.2.1), (q_o_together, gI Cs 1024 d_o.2.2.2.2.2.2.2.2.2.2.2.2.2.2.2), (q_a1, .inr (1, [.ref q_a1_cells])), (q_a1_cells, gI Cs 221 v_a1_cells), (q_o, .inr (0, [.ref q_o_from, .ref q_o_to, .ref q_o_lengths, .ref q_o_earliest, .ref q_o_latest, .ref q_o_years, .ref q_o_explained, .ref q_o_together, .int d_o.1, .int d_o.2.1, .int d_o.2.2.1, .int d_o.2.2.2.1, .int d_o.2.2.2.2.1, .int d_o.2.2.2.2.2.1, .int d_o.2.2.2.2.2.2.1, .int d_o.2.2.2.2.2.2.2.1])), (q_o_from, gI Cs 15 d_o.2.2.2.2.2.2.2.2.1), (q_o_to, gI Cs 15 d_o.2.2.2.2.2.2.2.2.2.1), (q_o_lengths, gI Cs 15 d_o.2.2.2.2.2.2.2.2.2.2.1), (q_o_earliest, gI Cs 10 d_o.2.2.2.2.2.2.2.2.2.2.2.1), (q_o_latest, gI Cs 10 d_o.2.2.2.2.2.2.2.2.2.2.2.2.1), (q_o_years, gI Cs 10 m_5)] := hD
            refine lv_if_eq (tgt := 133) hx hb dX0_canHavePassed_128 (by decide) (fun c_6 => ?_) (fun c_6 => ?_)
            · have h := h.1 c_6
              exact B133 _ _ _ (d_o.1, d_o.2.1, d_o.2.2.1, d_o.2.2.2.1, d_o.2.2.2.2.1, d_o.2.2.2.2.2.1, d_o.2.2.2.2.2.2.1, d_o.2.2.2.2.2.2.2.1, d_o.2.2.2.2.2.2.2.2.1, d_o.2.2.2.2.2.2.2.2.2.1, d_o.2.2.2.2.2.2.2.2.2.2.1, d_o.2.2.2.2.2.2.2.2.2.2.2.1, d_o.2.2.2.2.2.2.2.2.2.2.2.2.1, m_5, d_o.2.2.2.2.2.2.2.2.2.2.2.2.2.2.1, d_o.2.2.2.2.2.2.2.2.2.2.2.2.2.2.2) x5 x6 x7 (hP.sub [4, 5, 6, 7, 8, 9, 10, 0, 1, 2, 3] rfl) (hD.sub [4, 5, 6, 7, 8, 9, 10, 0, 1, 2, 3] (by decide) rfl) hS (lv_sub hl [1, 2, 3, 4, 5, 6, 7, 8] rfl) h
            · have h := h.2 c_6
              refine lv_iconst (v := (1 : Int32)) hx hb dX0_canHavePassed_131 (by decide) ?_
              rw [← hQ]
              exact gRetI (u := (d_o.1, d_o.2.1, d_o.2.2.1, d_o.2.2.2.1, d_o.2.2.2.2.1, d_o.2.2.2.2.2.1, d_o.2.2.2.2.2.2.1, d_o.2.2.2.2.2.2.2.1, d_o.2.2.2.2.2.2.2.2.1, d_o.2.2.2.2.2.2.2.2.2.1, d_o.2.2.2.2.2.2.2.2.2.2.1, d_o.2.2.2.2.2.2.2.2.2.2.2.1, d_o.2.2.2.2.2.2.2.2.2.2.2.2.1, m_5, d_o.2.2.2.2.2.2.2.2.2.2.2.2.2.2.1, d_o.2.2.2.2.2.2.2.2.2.2.2.2.2.2.2)) hx hb hr rfl h (hP.sub [4, 5, 6, 7, 8, 9, 10, 0, 1, 2, 3] rfl) (hD.sub [4, 5, 6, 7, 8, 9, 10, 0, 1, 2, 3] (by decide) rfl) hS dX0_canHavePassed_132 hlocks
      have B99 : ∀ (H : Heap) (locs : List Loc) (ls : Array Slot) (d_o : BH) (x5 : Int32) (x6 : Int32) (x7 : Int32), va_P D vwCl [(q_o, .inr (0, [.ref q_o_from, .ref q_o_to, .ref q_o_lengths, .ref q_o_earliest, .ref q_o_latest, .ref q_o_years, .ref q_o_explained, .ref q_o_together, .int d_o.1, .int d_o.2.1, .int d_o.2.2.1, .int d_o.2.2.2.1, .int d_o.2.2.2.2.1, .int d_o.2.2.2.2.2.1, .int d_o.2.2.2.2.2.2.1, .int d_o.2.2.2.2.2.2.2.1])), (q_o_from, gI Cs 15 d_o.2.2.2.2.2.2.2.2.1), (q_o_to, gI Cs 15 d_o.2.2.2.2.2.2.2.2.2.1), (q_o_lengths, gI Cs 15 d_o.2.2.2.2.2.2.2.2.2.2.1), (q_o_earliest, gI Cs 10 d_o.2.2.2.2.2.2.2.2.2.2.2.1), (q_o_latest, gI Cs 10 d_o.2.2.2.2.2.2.2.2.2.2.2.2.1), (q_o_years, gI Cs 10 d_o.2.2.2.2.2.2.2.2.2.2.2.2.2.1), (q_o_explained, gI Cs 10 d_o.2.2.2.2.2.2.2.2.2.2.2.2.2.2.1), (q_o_together, gI Cs 1024 d_o.2.2.2.2.2.2.2.2.2.2.2.2.2.2.2), (q_a1, .inr (1, [.ref q_a1_cells])), (q_a1_cells, gI Cs 221 v_a1_cells)] H → va_D A [(q_o, .inr (0, [.ref q_o_from, .ref q_o_to, .ref q_o_lengths, .ref q_o_earliest, .ref q_o_latest, .ref q_o_years, .ref q_o_explained, .ref q_o_together, .int d_o.1, .int d_o.2.1, .int d_o.2.2.1, .int d_o.2.2.2.1, .int d_o.2.2.2.2.1, .int d_o.2.2.2.2.2.1, .int d_o.2.2.2.2.2.2.1, .int d_o.2.2.2.2.2.2.2.1])), (q_o_from, gI Cs 15 d_o.2.2.2.2.2.2.2.2.1), (q_o_to, gI Cs 15 d_o.2.2.2.2.2.2.2.2.2.1), (q_o_lengths, gI Cs 15 d_o.2.2.2.2.2.2.2.2.2.2.1), (q_o_earliest, gI Cs 10 d_o.2.2.2.2.2.2.2.2.2.2.2.1), (q_o_latest, gI Cs 10 d_o.2.2.2.2.2.2.2.2.2.2.2.2.1), (q_o_years, gI Cs 10 d_o.2.2.2.2.2.2.2.2.2.2.2.2.2.1), (q_o_explained, gI Cs 10 d_o.2.2.2.2.2.2.2.2.2.2.2.2.2.2.1), (q_o_together, gI Cs 1024 d_o.2.2.2.2.2.2.2.2.2.2.2.2.2.2.2), (q_a1, .inr (1, [.ref q_a1_cells])), (q_a1_cells, gI Cs 221 v_a1_cells)] → va_S A s.heap H locs → lv_has ls 9 [(0, .ref q_o), (1, .ref q_a1), (2, .int x2), (3, .int x3), (4, .int x4), (5, .int x5), (6, .int x6), (7, .int x7)] → P_X0_canHavePassed_b99 b_o v_a1_cells x2 x3 x4 post (P_X0_canHavePassed_l58 b_o v_a1_cells x2 x3 x4 post n58) d_o x5 x6 x7 → W p l e ({ frames := 4, cells := 0, slots := 0, locals := 92 } : Room) s m args below meth c H locs 0 0 Q (F0 m 99 ls []) := by
        intro H locs ls d_o x5 x6 x7 hP hD hS hl h
        unfold P_X0_canHavePassed_b99 at h
        refine lv_iconst (v := (0 : Int32)) hx hb dX0_canHavePassed_99 (by decide) ?_
        exact B100 _ _ _ d_o x5 x6 x7 (0 : Int32) hP hD hS (lv_sub hl [0, 1, 2, 3, 4, 5, 6, 7] rfl) h
      intro H locs ls d_o x5 x6 x7 hP hD hS hl h
      replace h : P_X0_canHavePassed_b58 b_o v_a1_cells x2 x3 x4 post (P_X0_canHavePassed_l58 b_o v_a1_cells x2 x3 x4 post n58) d_o x5 x6 x7 := h
      unfold P_X0_canHavePassed_b58 at h
      refine lv_iload hx hb dX0_canHavePassed_58 (lv_at hl 7 rfl) ?_
      refine lv_iconst (v := (1 : Int32)) hx hb dX0_canHavePassed_60 (by decide) ?_
      refine lv_aload_n hx hb dX0_canHavePassed_61 rfl (lv_at hl 0 rfl) ?_
      refine va_get (D := D) (ci := 0) (v := .int d_o.1) (C := RX0) (T := TX0) (N := 16) hx hb htb inT_X0 hown hK hP 0 rfl rfl 8 (by decide) (htb _ tb_178) (fun _ h9 => h9) rfl dX0_canHavePassed_62 ?_
      refine lv_ishl hx hb dX0_canHavePassed_65 ?_
      refine lv_icmp_ge (tgt := 139) hx hb dX0_canHavePassed_66 (by decide) (fun c_7 => ?_) (fun c_7 => ?_)
      · have h := h.1 c_7
        refine lv_iconst (v := (0 : Int32)) hx hb dX0_canHavePassed_139 (by decide) ?_
        rw [← hQ]
        exact gRetI (u := d_o) hx hb hr rfl h hP hD hS dX0_canHavePassed_140 hlocks
      · have h := h.2 c_7
        refine lv_aload_n hx hb dX0_canHavePassed_69 rfl (lv_at hl 0 rfl) ?_
        refine va_get (D := D) (ci := 0) (v := .ref q_o_together) (C := RX0) (T := TX0) (N := 16) hx hb htb inT_X0 hown hK hP 0 rfl rfl 7 (by decide) (htb _ tb_72) (fun _ h9 => h9) rfl dX0_canHavePassed_70 ?_
        refine lv_iload hx hb dX0_canHavePassed_73 (lv_at hl 7 rfl) ?_
        obtain ⟨hi_8, h⟩ := h
        refine va_iald hx hb hK hP 8 0 rfl rfl hi_8 dX0_canHavePassed_75 ?_
        refine lv_aload_n hx hb dX0_canHavePassed_76 rfl (lv_at hl 0 rfl) ?_
        refine va_get (D := D) (ci := 0) (v := .int d_o.2.2.1) (C := RX0) (T := TX0) (N := 16) hx hb htb inT_X0 hown hK hP 0 rfl rfl 10 (by decide) (htb _ tb_192) (fun _ h9 => h9) rfl dX0_canHavePassed_77 ?_
        refine lv_icmp_ne (tgt := 99) hx hb dX0_canHavePassed_80 (by decide) (fun c_9 => ?_) (fun c_9 => ?_)
        · have h := h.2 c_9
          exact B99 _ _ _ d_o x5 x6 x7 hP hD hS (lv_sub hl [0, 1, 2, 3, 4, 5, 6, 7] rfl) h
        · have h := h.1 c_9
          refine lv_iload hx hb dX0_canHavePassed_83 (lv_at hl 7 rfl) ?_
          refine gSR (As := [.int x7]) (rest := []) ⟨hx, hb, hml, hown, htb⟩ hK hP hN [] rfl (c_J6_bitCount_0f7a4 l D Cs x7 h) (va_cwS 1 htb (TB_s tb_225 tb_226 tb_227 (TB_self tb_228)) rfl rfl rfl z_J6_bitCount_0f7a4.2 ⟨Nat.le_of_ble_eq_true rfl, Nat.le_of_ble_eq_true rfl⟩) rfl hl.1 rfl (Nat.le_of_ble_eq_true rfl) ⟨Nat.le_of_ble_eq_true rfl, Nat.le_of_ble_eq_true rfl⟩ dX0_canHavePassed_85 (fun r_10 h => ?_)
          refine lv_aload_n hx hb dX0_canHavePassed_88 rfl (lv_at hl 0 rfl) ?_
          refine va_get (D := D) (ci := 0) (v := .int d_o.2.2.2.1) (C := RX0) (T := TX0) (N := 16) hx hb htb inT_X0 hown hK hP 0 rfl rfl 11 (by decide) (htb _ tb_179) (fun _ h9 => h9) rfl dX0_canHavePassed_89 ?_
          refine lv_icmp_ne (tgt := 99) hx hb dX0_canHavePassed_92 (by decide) (fun c_11 => ?_) (fun c_11 => ?_)
          · have h := h.2 c_11
            exact B99 _ _ _ d_o x5 x6 x7 hP hD hS (lv_sub hl [0, 1, 2, 3, 4, 5, 6, 7] rfl) h
          · have h := h.1 c_11
            refine lv_iconst (v := (1 : Int32)) hx hb dX0_canHavePassed_95 (by decide) ?_
            refine lv_goto (tgt := 100) hx hb dX0_canHavePassed_96 (by decide) ?_
            exact B100 _ _ _ d_o x5 x6 x7 (1 : Int32) hP hD hS (lv_sub hl [0, 1, 2, 3, 4, 5, 6, 7] rfl) h
  unfold P_X0_canHavePassed at h
  refine lv_aload_n hx hb dX0_canHavePassed_0 rfl (lv_at hl 1 rfl) ?_
  refine lv_iload_n hx hb dX0_canHavePassed_1 rfl (lv_at hl 2 rfl) ?_
  refine lv_iload_n hx hb dX0_canHavePassed_2 rfl (lv_at hl 3 rfl) ?_
  refine gVR (As := [.int x2, .int x3]) (rest := []) ⟨hx, hb, hml, hown, htb⟩ hK hP hN [9, 10] rfl (c_X1_roadLength l D Cs q_a1 q_a1_cells v_a1_cells x2 x3 h) (cwV 2 htb (TB_v tb_187 tb_137 tb_138 tb_14 (TB_self tb_139)) rfl rfl rfl z_X1_roadLength ⟨Nat.le_of_ble_eq_true rfl, Nat.le_of_ble_eq_true rfl⟩) 9 rfl rfl rfl rfl hl.1 rfl (Nat.le_of_ble_eq_true rfl) ⟨Nat.le_of_ble_eq_true rfl, Nat.le_of_ble_eq_true rfl⟩ dX0_canHavePassed_3 (fun r_12 h => ?_)
  refine lv_istore (lv' := [(5, .int r_12), (0, .ref q_o), (1, .ref q_a1), (2, .int x2), (3, .int x3), (4, .int x4)]) hx hb dX0_canHavePassed_6 hl (by decide) rfl (fun ls hl => ?_)
  refine lv_iload hx hb dX0_canHavePassed_8 (lv_at hl 0 rfl) ?_
  refine lv_iconst (v := (-1 : Int32)) hx hb dX0_canHavePassed_10 (by decide) ?_
  refine lv_icmp_eq (tgt := 36) hx hb dX0_canHavePassed_11 (by decide) (fun c_13 => ?_) (fun c_13 => ?_)
  · have h := h.1 c_13
    exact B36 _ _ _ b_o hP hD hS (lv_sub hl [1, 2, 3, 4, 5] rfl) h
  · have h := h.2 c_13
    refine lv_aload_n hx hb dX0_canHavePassed_14 rfl (lv_at hl 1 rfl) ?_
    refine lv_aload_n hx hb dX0_canHavePassed_15 rfl (lv_at hl 2 rfl) ?_
    refine lv_iload hx hb dX0_canHavePassed_16 (lv_at hl 5 rfl) ?_
    refine gVM (wr := []) (As := [.ref q_a1, .int x4]) (rest := []) ⟨hx, hb, hml, hown, htb⟩ hK hP hD hS hA hN [0, 1, 2, 3, 4, 5, 6, 7, 8, 9, 10] [] rfl (by decide) rfl (by decide) (by decide) (c_X0_study l D Cs q_o q_a1 q_o_from q_o_to q_o_lengths q_o_earliest q_o_latest q_o_years q_o_explained q_o_together q_a1_cells H.size b_o v_a1_cells x4 h) (cwV 2 htb (TB_v tb_170 tb_171 tb_172 tb_26 (TB_self tb_173)) rfl rfl rfl z_X0_study ⟨Nat.le_of_ble_eq_true rfl, Nat.le_of_ble_eq_true rfl⟩) 0 rfl rfl rfl rfl hl.1 rfl (Nat.le_of_ble_eq_true rfl) ⟨Nat.le_of_ble_eq_true rfl, Nat.le_of_ble_eq_true rfl⟩ dX0_canHavePassed_18 (fun r_14 m_15 H locs h hP hD hS => ?_)
    have hP : va_P D vwCl [(q_o, .inr (0, [.ref q_o_from, .ref q_o_to, .ref q_o_lengths, .ref q_o_earliest, .ref q_o_latest, .ref q_o_years, .ref q_o_explained, .ref q_o_together, .int m_15.1, .int m_15.2.1, .int m_15.2.2.1, .int m_15.2.2.2.1, .int m_15.2.2.2.2.1, .int m_15.2.2.2.2.2.1, .int m_15.2.2.2.2.2.2.1, .int m_15.2.2.2.2.2.2.2.1])), (q_o_from, gI Cs 15 m_15.2.2.2.2.2.2.2.2.1), (q_o_to, gI Cs 15 m_15.2.2.2.2.2.2.2.2.2.1), (q_o_lengths, gI Cs 15 m_15.2.2.2.2.2.2.2.2.2.2.1), (q_o_earliest, gI Cs 10 m_15.2.2.2.2.2.2.2.2.2.2.2.1), (q_o_latest, gI Cs 10 m_15.2.2.2.2.2.2.2.2.2.2.2.2.1), (q_o_years, gI Cs 10 m_15.2.2.2.2.2.2.2.2.2.2.2.2.2.1), (q_o_explained, gI Cs 10 m_15.2.2.2.2.2.2.2.2.2.2.2.2.2.2.1), (q_o_together, gI Cs 1024 m_15.2.2.2.2.2.2.2.2.2.2.2.2.2.2.2), (q_a1, .inr (1, [.ref q_a1_cells])), (q_a1_cells, gI Cs 221 v_a1_cells)] H := hP
    have hD : va_D A [(q_o, .inr (0, [.ref q_o_from, .ref q_o_to, .ref q_o_lengths, .ref q_o_earliest, .ref q_o_latest, .ref q_o_years, .ref q_o_explained, .ref q_o_together, .int m_15.1, .int m_15.2.1, .int m_15.2.2.1, .int m_15.2.2.2.1, .int m_15.2.2.2.2.1, .int m_15.2.2.2.2.2.1, .int m_15.2.2.2.2.2.2.1, .int m_15.2.2.2.2.2.2.2.1])), (q_o_from, gI Cs 15 m_15.2.2.2.2.2.2.2.2.1), (q_o_to, gI Cs 15 m_15.2.2.2.2.2.2.2.2.2.1), (q_o_lengths, gI Cs 15 m_15.2.2.2.2.2.2.2.2.2.2.1), (q_o_earliest, gI Cs 10 m_15.2.2.2.2.2.2.2.2.2.2.2.1), (q_o_latest, gI Cs 10 m_15.2.2.2.2.2.2.2.2.2.2.2.2.1), (q_o_years, gI Cs 10 m_15.2.2.2.2.2.2.2.2.2.2.2.2.2.1), (q_o_explained, gI Cs 10 m_15.2.2.2.2.2.2.2.2.2.2.2.2.2.2.1), (q_o_together, gI Cs 1024 m_15.2.2.2.2.2.2.2.2.2.2.2.2.2.2.2), (q_a1, .inr (1, [.ref q_a1_cells])), (q_a1_cells, gI Cs 221 v_a1_cells)] := hD
    refine lv_iconst (v := (-1 : Int32)) hx hb dX0_canHavePassed_21 (by decide) ?_
    refine lv_icmp_eq (tgt := 36) hx hb dX0_canHavePassed_22 (by decide) (fun c_16 => ?_) (fun c_16 => ?_)
    · have h := h.1 c_16
      exact B36 _ _ _ m_15 hP hD hS (lv_sub hl [1, 2, 3, 4, 5] rfl) h
    · have h := h.2 c_16
      refine lv_aload_n hx hb dX0_canHavePassed_25 rfl (lv_at hl 1 rfl) ?_
      refine va_get (D := D) (ci := 0) (v := .int m_15.2.2.1) (C := RX0) (T := TX0) (N := 16) hx hb htb inT_X0 hown hK hP 0 rfl rfl 10 (by decide) (htb _ tb_192) (fun _ h9 => h9) rfl dX0_canHavePassed_26 ?_
      refine lv_iload_n hx hb dX0_canHavePassed_29 rfl (lv_at hl 4 rfl) ?_
      refine lv_ishr hx hb dX0_canHavePassed_30 ?_
      refine lv_iconst (v := (1 : Int32)) hx hb dX0_canHavePassed_31 (by decide) ?_
      refine lv_iand hx hb dX0_canHavePassed_32 ?_
      refine lv_if_ne (tgt := 38) hx hb dX0_canHavePassed_33 (by decide) (fun c_17 => ?_) (fun c_17 => ?_)
      · have h := h.2 c_17
        refine lv_aload_n hx hb dX0_canHavePassed_38 rfl (lv_at hl 1 rfl) ?_
        refine va_get (D := D) (ci := 0) (v := .ref q_o_earliest) (C := RX0) (T := TX0) (N := 16) hx hb htb inT_X0 hown hK hP 0 rfl rfl 3 (by decide) (htb _ tb_68) (fun _ h9 => h9) rfl dX0_canHavePassed_39 ?_
        refine lv_iload_n hx hb dX0_canHavePassed_42 rfl (lv_at hl 4 rfl) ?_
        obtain ⟨hi_18, h⟩ := h
        refine va_iald hx hb hK hP 4 0 rfl rfl hi_18 dX0_canHavePassed_43 ?_
        refine lv_topi (fun x6_19 ex6_19 => ?_)
        have h := h _ ex6_19
        refine lv_istore (lv' := [(6, .int x6_19), (5, .int r_12), (0, .ref q_o), (1, .ref q_a1), (2, .int x2), (3, .int x3), (4, .int x4)]) hx hb dX0_canHavePassed_44 hl (by decide) rfl (fun ls hl => ?_)
        refine lv_aload_n hx hb dX0_canHavePassed_46 rfl (lv_at hl 2 rfl) ?_
        refine va_get (D := D) (ci := 0) (v := .ref q_o_earliest) (C := RX0) (T := TX0) (N := 16) hx hb htb inT_X0 hown hK hP 0 rfl rfl 3 (by decide) (htb _ tb_68) (fun _ h9 => h9) rfl dX0_canHavePassed_47 ?_
        refine lv_iload_n hx hb dX0_canHavePassed_50 rfl (lv_at hl 5 rfl) ?_
        refine lv_sipush (v := (1000 : Int32)) hx hb dX0_canHavePassed_51 (by decide) ?_
        obtain ⟨hi_20, h⟩ := h
        refine va_iast hx hb hK hP hD hS 4 0 rfl rfl hi_20 dX0_canHavePassed_54 (fun H locs hP hD hS => ?_)
        have hP : va_P D vwCl [(q_o, .inr (0, [.ref q_o_from, .ref q_o_to, .ref q_o_lengths, .ref q_o_earliest, .ref q_o_latest, .ref q_o_years, .ref q_o_explained, .ref q_o_together, .int m_15.1, .int m_15.2.1, .int m_15.2.2.1, .int m_15.2.2.2.1, .int m_15.2.2.2.2.1, .int m_15.2.2.2.2.2.1, .int m_15.2.2.2.2.2.2.1, .int m_15.2.2.2.2.2.2.2.1])), (q_o_from, gI Cs 15 m_15.2.2.2.2.2.2.2.2.1), (q_o_to, gI Cs 15 m_15.2.2.2.2.2.2.2.2.2.1), (q_o_lengths, gI Cs 15 m_15.2.2.2.2.2.2.2.2.2.2.1), (q_o_earliest, gI Cs 10 (upd m_15.2.2.2.2.2.2.2.2.2.2.2.1 x3.toNatClampNeg (1000 : Int32))), (q_o_latest, gI Cs 10 m_15.2.2.2.2.2.2.2.2.2.2.2.2.1), (q_o_years, gI Cs 10 m_15.2.2.2.2.2.2.2.2.2.2.2.2.2.1), (q_o_explained, gI Cs 10 m_15.2.2.2.2.2.2.2.2.2.2.2.2.2.2.1), (q_o_together, gI Cs 1024 m_15.2.2.2.2.2.2.2.2.2.2.2.2.2.2.2), (q_a1, .inr (1, [.ref q_a1_cells])), (q_a1_cells, gI Cs 221 v_a1_cells)] H := hP
        have hD : va_D A [(q_o, .inr (0, [.ref q_o_from, .ref q_o_to, .ref q_o_lengths, .ref q_o_earliest, .ref q_o_latest, .ref q_o_years, .ref q_o_explained, .ref q_o_together, .int m_15.1, .int m_15.2.1, .int m_15.2.2.1, .int m_15.2.2.2.1, .int m_15.2.2.2.2.1, .int m_15.2.2.2.2.2.1, .int m_15.2.2.2.2.2.2.1, .int m_15.2.2.2.2.2.2.2.1])), (q_o_from, gI Cs 15 m_15.2.2.2.2.2.2.2.2.1), (q_o_to, gI Cs 15 m_15.2.2.2.2.2.2.2.2.2.1), (q_o_lengths, gI Cs 15 m_15.2.2.2.2.2.2.2.2.2.2.1), (q_o_earliest, gI Cs 10 (upd m_15.2.2.2.2.2.2.2.2.2.2.2.1 x3.toNatClampNeg (1000 : Int32))), (q_o_latest, gI Cs 10 m_15.2.2.2.2.2.2.2.2.2.2.2.2.1), (q_o_years, gI Cs 10 m_15.2.2.2.2.2.2.2.2.2.2.2.2.2.1), (q_o_explained, gI Cs 10 m_15.2.2.2.2.2.2.2.2.2.2.2.2.2.2.1), (q_o_together, gI Cs 1024 m_15.2.2.2.2.2.2.2.2.2.2.2.2.2.2.2), (q_a1, .inr (1, [.ref q_a1_cells])), (q_a1_cells, gI Cs 221 v_a1_cells)] := hD
        refine lv_iconst (v := (0 : Int32)) hx hb dX0_canHavePassed_55 (by decide) ?_
        refine lv_istore (lv' := [(7, .int (0 : Int32)), (6, .int x6_19), (5, .int r_12), (0, .ref q_o), (1, .ref q_a1), (2, .int x2), (3, .int x3), (4, .int x4)]) hx hb dX0_canHavePassed_56 hl (by decide) rfl (fun ls hl => ?_)
        obtain ⟨n, h⟩ := h
        exact L58 n _ _ _ (m_15.1, m_15.2.1, m_15.2.2.1, m_15.2.2.2.1, m_15.2.2.2.2.1, m_15.2.2.2.2.2.1, m_15.2.2.2.2.2.2.1, m_15.2.2.2.2.2.2.2.1, m_15.2.2.2.2.2.2.2.2.1, m_15.2.2.2.2.2.2.2.2.2.1, m_15.2.2.2.2.2.2.2.2.2.2.1, (upd m_15.2.2.2.2.2.2.2.2.2.2.2.1 x3.toNatClampNeg (1000 : Int32)), m_15.2.2.2.2.2.2.2.2.2.2.2.2.1, m_15.2.2.2.2.2.2.2.2.2.2.2.2.2.1, m_15.2.2.2.2.2.2.2.2.2.2.2.2.2.2.1, m_15.2.2.2.2.2.2.2.2.2.2.2.2.2.2.2) r_12 x6_19 (0 : Int32) hP hD hS (lv_sub hl [3, 4, 5, 6, 7, 2, 1, 0] rfl) h
      · have h := h.1 c_17
        exact B36 _ _ _ m_15 hP hD hS (lv_sub hl [1, 2, 3, 4, 5] rfl) h
