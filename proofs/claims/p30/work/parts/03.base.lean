/-! arrays of the world by their kinds, the words of nest mates, what a method's start and end say (three kinds: reading alone; writing; writing or throwing), and a row for each kind of call -/
abbrev gI (Cs : Nat → ClassId) (n : Nat) (f : Nat → Int32) : va_E := .inl (Cs 0, n, .inl f)
abbrev gC (Cs : Nat → ClassId) (n : Nat) (f : Nat → Int32) : va_E := .inl (Cs 1, n, .inl f)
abbrev gZ (Cs : Nat → ClassId) (n : Nat) (f : Nat → Int32) : va_E := .inl (Cs 2, n, .inl f)
abbrev gJ (Cs : Nat → ClassId) (n : Nat) (f : Nat → Int64) : va_E := .inl (Cs 3, n, .inr (.inl f))
abbrev gQ (Cs : Nat → ClassId) (n : Nat) (f : Nat → Option Nat) : va_E := .inl (Cs 4, n, .inr (.inr (.inr (.inr f))))
def gqf (n : Nat) (qs : Nat → Nat) : Nat → Option Nat := fun j => if j < n then some (qs j) else none
abbrev gT (Cs : Nat → ClassId) : List (ClassId × FieldType) := [(Cs 0, .int), (Cs 1, .char), (Cs 2, .boolean), (Cs 3, .int), (Cs 4, .array .int)]
def nwl : List Cond := [.methodLinkNest RX1 39 yX5_isTrait RX5, .methodLinkNest RX1 53 yX5_isLength RX5, .methodLinkNest RX1 72 yX5_isYear RX5, .methodLinkNest RX3 79 yX5_isTrait RX5, .methodLinkNest RX4 27 yX5_isTrait RX5, .fieldLinkNest RX5 176 RX0 "origins" "I" RX5, .fieldLinkNest RX5 180 RX0 "always" "I" RX5, .fieldLinkNest RX5 183 RX0 "sometimes" "I" RX5, .fieldLinkNest RX5 186 RX0 "leastSets" "I" RX5]
def NW (U : State) : Prop := ∀ w ∈ nwl, va_Nw w U
theorem NW.warm {s U : State} (hW : s.WarmedH U.vm) (h : NW s) : NW U := by
  intro w hw
  have h9 := h w hw
  simp only [nwl, List.mem_cons, List.not_mem_nil, or_false] at hw
  rcases hw with rfl | rfl | rfl | rfl | rfl | rfl | rfl | rfl | rfl
  · exact va_Nw.warmM hW h9
  · exact va_Nw.warmM hW h9
  · exact va_Nw.warmM hW h9
  · exact va_Nw.warmM hW h9
  · exact va_Nw.warmM hW h9
  · exact va_Nw.warmF hW h9
  · exact va_Nw.warmF hW h9
  · exact va_Nw.warmF hW h9
  · exact va_Nw.warmF hW h9
/-- reading alone -/
def gR (D : va_G) (Cs : Nat → ClassId) (ws : va_W) (U : State) : Prop := va_P D vwCl ws U.heap ∧ va_K D vwCl (gT Cs) U ∧ NW U
theorem gR_fb {av : List Value} {D : va_G} {Cs : Nat → ClassId} {ws : va_W} : FrameBlind (va_Pc av (gR D Cs ws)) := fun a U g mk q => ⟨q.1, q.2.1, va_K.moved (u := U) (U := U.calling g mk a) (Vm.Alike.refl U.vm) q.2.2.1, NW.warm (s := U) (U := U.calling g mk a) (State.WarmedH.refl U) q.2.2.2⟩
/-- writing -/
def gM (D : va_G) (Cs : Nat → ClassId) (ws : va_W) (sz : Nat) (U : State) : Prop := U.heap.size = sz ∧ va_P D vwCl ws U.heap ∧ va_K D vwCl (gT Cs) U ∧ va_D (fun _ => True) ws ∧ NW U
theorem gM_fb {av : List Value} {D : va_G} {Cs : Nat → ClassId} {ws : va_W} {sz : Nat} : FrameBlind (va_Pc av (gM D Cs ws sz)) := fun a U g mk q => ⟨q.1, q.2.1, q.2.2.1, va_K.moved (u := U) (U := U.calling g mk a) (Vm.Alike.refl U.vm) q.2.2.2.1, q.2.2.2.2.1, NW.warm (s := U) (U := U.calling g mk a) (State.WarmedH.refl U) q.2.2.2.2.2⟩
def gB {S : Type} (D : va_G) (A : Nat → Prop) (wf : S → va_W) (u : S) (t : State) : Prop := va_P D vwCl (wf u) t.heap ∧ va_D A (wf u)
section GCALL
variable {p : Program} {l : Launch} {e : Env} {R : Room} {s : State} {m : MethodId} {args : Array Value} {below : List Frame} {meth : Method} {c : Code} {H : Heap} {locs : List Loc} {cells slots : Nat} {Q : State → Prop}
variable {pc : Nat} {ls : Array Slot} {st0 rest : List Value} {D : va_G} {Cs : Nat → ClassId} {A : Nat → Prop} {ws : va_W}
variable {y : MethodName} {bytes cc : ByteArray} {maxL nL n index : Nat} {ret : Option FieldType} {ws9 : List Cond} {rm : Room} {Ts : List Cond} {own C host : String} {b : Addr} {As : List Value}
/-- returning an int from a method that reads alone -/
theorem gRetR {v : Int32} {post : Int32 → Prop} (hx : p.tables.exec = Jvm.exec) (hb : c.code = cc) {ty : FieldType} (hr : meth.sig.returnType = some ty) (hn : narrow ty (.int v) = .int v) (h : post v) (hdg : decode cc pc = .ok (.ireturn, 1)) (hlocks : meth.locks = false) : W p l e R s m args below meth c s.heap [] 0 0 (MQ below (vp_Si post) args s 0 0 (fun _ => False)) (F0 m pc ls [.int v]) :=
  W.zret hx hb hr hn (fun _ ht _ => ⟨v, rfl, h, ht⟩) (fun _ hq => nomatch hq) hdg hlocks
theorem gRetI {S : Type} {v : Int32} {post : Int32 → S → Prop} {wf : S → va_W} (u : S) (hx : p.tables.exec = Jvm.exec) (hb : c.code = cc) {ty : FieldType} (hr : meth.sig.returnType = some ty) (hn : narrow ty (.int v) = .int v) (h : post v u) (hP : va_P D vwCl (wf u) H) (hD : va_D A (wf u)) (hS : va_S A s.heap H locs) (hdg : decode cc pc = .ok (.ireturn, 1)) (hlocks : meth.locks = false) : W p l e R s m args below meth c H locs cells slots (MQ below (va_Qi post (gB D A wf) A) args s cells slots A) (F0 m pc ls [.int v]) :=
  W.zret hx hb hr hn (fun _ ht _ => ⟨⟨v, u, rfl, h, by rw [ht]; exact hP, hD⟩, hS.F ht⟩) hS.2.2 hdg hlocks
theorem gRetV {S : Type} {post : S → Prop} {wf : S → va_W} (u : S) (hx : p.tables.exec = Jvm.exec) (hb : c.code = cc) (hr : meth.sig.returnType = none) (h : post u) (hP : va_P D vwCl (wf u) H) (hD : va_D A (wf u)) (hS : va_S A s.heap H locs) (hdg : decode cc pc = .ok (.return_, 1)) (hlocks : meth.locks = false) : W p l e R s m args below meth c H locs cells slots (MQ below (va_Qv post (gB D A wf) A) args s cells slots A) (F0 m pc ls []) :=
  W.vret hx hb hr (fun _ ht _ => ⟨⟨u, rfl, h, by rw [ht]; exact hP, hD⟩, hS.F ht⟩) hS.2.2 hdg hlocks
/-- calls of methods that read alone -/
theorem gVR {post : Int32 → Prop} {wc : va_W} (Sx : CallFix p m c cc nL s args Ts own) (hK : va_K D vwCl (gT Cs) s) (hP : va_P D vwCl ws H) (hN : NW s) (isC : List Nat) (hC : isC.filterMap (fun i => ws[i]?) = wc)
    (hM : Met l y ws9 rm (va_Pc (.ref b :: As) (gR D Cs wc)) (vp_Si post) 0 0 (fun _ => False)) (cw : CallW R s args own C index y bytes maxL ret ws9 rm 0 0 n) (i0 : Nat) {ci : Nat} {fs : List Value} {q : vw_C} (hc : vwCl[ci]? = some q) (he : ws[i0]? = some (b, .inr (ci, fs))) (hq : q.1 = C) (hn : As.length = n) (hl : ls.size = nL) (hst : st0 = As.reverse ++ .ref b :: rest) (hW : (rest.map fun v => v.category).sum ≤ 8) (hf : cells ≤ R.cells ∧ slots ≤ R.slots) (hdg : decode cc pc = .ok (.invokevirtual index, 3))
    (kk : ∀ r : Int32, post r → W p l e R s m args below meth c H locs cells slots Q (F0 m (pc + 3) ls (.int r :: rest))) : W p l e R s m args below meth c H locs cells slots Q (F0 m pc ls st0) :=
  vp_callSi (va_runV (g := F0 m pc ls st0) Sx hM cw ⟨gR_fb, by rw [← hq]; exact va_recv hK hP hc he, fun U hU hW => ⟨rfl, by rw [hU]; exact hP.sub isC hC, va_K.moved hW.alike hK, NW.warm hW hN⟩⟩ rfl hn hl hst (lv_room hW) hdg hf).run kk
theorem gSR {post : Int32 → Prop} {wc : va_W} (Sx : CallFix p m c cc nL s args Ts own) (hK : va_K D vwCl (gT Cs) s) (hP : va_P D vwCl ws H) (hN : NW s) (isC : List Nat) (hC : isC.filterMap (fun i => ws[i]?) = wc)
    (hM : Met l y ws9 rm (va_Pc As (gR D Cs wc)) (vp_Si post) 0 0 (fun _ => False)) (cw : CallB R s args own index y bytes maxL ret ws9 rm 0 0 n ∧ (Cond.static y).before args s = true) (hn : As.length = n) (hl : ls.size = nL) (hst : st0 = As.reverse ++ rest) (hW : (rest.map fun v => v.category).sum ≤ 8) (hf : cells ≤ R.cells ∧ slots ≤ R.slots) (hdg : decode cc pc = .ok (.invokestatic index, 3))
    (kk : ∀ r : Int32, post r → W p l e R s m args below meth c H locs cells slots Q (F0 m (pc + 3) ls (.int r :: rest))) : W p l e R s m args below meth c H locs cells slots Q (F0 m pc ls st0) :=
  vp_callSi (va_runS (g := F0 m pc ls st0) Sx hM cw ⟨gR_fb, fun U hU hW => ⟨rfl, by rw [hU]; exact hP.sub isC hC, va_K.moved hW.alike hK, NW.warm hW hN⟩⟩ rfl hn hl hst (lv_room hW) hdg hf).run kk
theorem gNR {post : Int32 → Prop} {wc : va_W} (Sx : CallFix p m c cc nL s args Ts own) (hK : va_K D vwCl (gT Cs) s) (hP : va_P D vwCl ws H) (hN : NW s) (isC : List Nat) (hC : isC.filterMap (fun i => ws[i]?) = wc)
    (hM : Met l y ws9 rm (va_Pc As (gR D Cs wc)) (vp_Si post) 0 0 (fun _ => False)) (cw : va_CN R s args own index y host bytes maxL ret ws9 rm 0 0 n) (hstat : (Cond.static y).before args s = true) (hn : As.length = n) (hl : ls.size = nL) (hst : st0 = As.reverse ++ rest) (hW : (rest.map fun v => v.category).sum ≤ 8) (hf : cells ≤ R.cells ∧ slots ≤ R.slots) (hdg : decode cc pc = .ok (.invokestatic index, 3))
    (kk : ∀ r : Int32, post r → W p l e R s m args below meth c H locs cells slots Q (F0 m (pc + 3) ls (.int r :: rest))) : W p l e R s m args below meth c H locs cells slots Q (F0 m pc ls st0) :=
  vp_callSi (va_runSN (g := F0 m pc ls st0) Sx hM ⟨cw, hstat, trivial⟩ ⟨gR_fb, fun U hU hW => ⟨rfl, by rw [hU]; exact hP.sub isC hC, va_K.moved hW.alike hK, NW.warm hW hN⟩⟩ rfl hn hl hst (lv_room hW) hdg hf).run kk
/-- calls of methods that write -/
theorem gVM {S : Type} {post : Int32 → S → Prop} {wf : S → va_W} {wc wr : va_W} (Sx : CallFix p m c cc nL s args Ts own) (hK : va_K D vwCl (gT Cs) s) (hP : va_P D vwCl ws H) (hD : va_D A ws) (hS : va_S A s.heap H locs) (hA : ∀ q, s.heap.size ≤ q → A q) (hN : NW s) (isC isR : List Nat) (hC : isC.map (fun i => ws[i]?) = wc.map some) (hnC : va_nd isC = true) (hR : isR.map (fun i => ws[i]?) = wr.map some) (hnR : va_nd isR = true) (hdis : ∀ i ∈ isR, i ∉ isC)
    (hM : Met l y ws9 rm (va_Pc (.ref b :: As) (gM D Cs wc H.size)) (va_Qi post (gB D (va_A wc H.size) wf) (va_A wc H.size)) 0 0 (va_A wc H.size)) (cw : CallW R s args own C index y bytes maxL ret ws9 rm 0 0 n) (i0 : Nat) {ci : Nat} {fs : List Value} {q : vw_C} (hc : vwCl[ci]? = some q) (he : ws[i0]? = some (b, .inr (ci, fs))) (hq : q.1 = C) (hn : As.length = n) (hl : ls.size = nL) (hst : st0 = As.reverse ++ .ref b :: rest) (hW : (rest.map fun v => v.category).sum ≤ 8) (hf : cells ≤ R.cells ∧ slots ≤ R.slots) (hdg : decode cc pc = .ok (.invokevirtual index, 3))
    (kk : ∀ (r : Int32) (u : S) (H1 : Heap) (locs1 : List Loc), post r u → va_P D vwCl (wr ++ wf u) H1 → va_D A (wr ++ wf u) → va_S A s.heap H1 locs1 → W p l e R s m args below meth c H1 locs1 cells slots Q (F0 m (pc + 3) ls (.int r :: rest))) : W p l e R s m args below meth c H locs cells slots Q (F0 m pc ls st0) := by
  have hFc := va_free (wc := wc) hD hS hA isC hC
  have hPc : va_P D vwCl wc H := by
    intro k q hk
    have h1 : (isC.map (fun i => ws[i]?))[k]? = some (some q) := by rw [hC, List.getElem?_map, hk]; rfl
    rw [List.getElem?_map] at h1
    cases hi : isC[k]? with
    | none => rw [hi] at h1; cases h1
    | some i => rw [hi] at h1; exact hP i q (Option.some.inj h1)
  have hDc := hD.sub (ws' := wc) isC hnC hC
  refine va_calli (va_runV (g := F0 m pc ls st0) Sx hM cw ⟨gM_fb, by rw [← hq]; exact va_recv hK hP hc he, fun U hU hW => ⟨rfl, by rw [hU], by rw [hU]; exact hPc, va_K.moved hW.alike hK, hDc.weaken (fun _ _ _ _ => trivial), NW.warm hW hN⟩⟩ rfl hn hl hst (lv_room hW) hdg hf) hS (fun q _ h => hFc q h) hFc (fun r u t H1 locs1 ht hvm hw hB hz1 hk1 hS1 => ?_)
  obtain ⟨hP1, hD1⟩ := hB
  rw [ht] at hP1
  obtain ⟨hP2, hD2⟩ := va_join (wr := wr) (w1 := wf u) hP hD isC isR hC hR hnR hdis hk1 hFc hP1 hD1
  exact kk r u H1 locs1 hw hP2 hD2 hS1
theorem gVMv {S : Type} {post : S → Prop} {wf : S → va_W} {wc wr : va_W} (Sx : CallFix p m c cc nL s args Ts own) (hK : va_K D vwCl (gT Cs) s) (hP : va_P D vwCl ws H) (hD : va_D A ws) (hS : va_S A s.heap H locs) (hA : ∀ q, s.heap.size ≤ q → A q) (hN : NW s) (isC isR : List Nat) (hC : isC.map (fun i => ws[i]?) = wc.map some) (hnC : va_nd isC = true) (hR : isR.map (fun i => ws[i]?) = wr.map some) (hnR : va_nd isR = true) (hdis : ∀ i ∈ isR, i ∉ isC)
    (hM : Met l y ws9 rm (va_Pc (.ref b :: As) (gM D Cs wc H.size)) (va_Qv post (gB D (va_A wc H.size) wf) (va_A wc H.size)) 0 0 (va_A wc H.size)) (cw : CallW R s args own C index y bytes maxL ret ws9 rm 0 0 n) (i0 : Nat) {ci : Nat} {fs : List Value} {q : vw_C} (hc : vwCl[ci]? = some q) (he : ws[i0]? = some (b, .inr (ci, fs))) (hq : q.1 = C) (hn : As.length = n) (hl : ls.size = nL) (hst : st0 = As.reverse ++ .ref b :: rest) (hW : (rest.map fun v => v.category).sum ≤ 8) (hf : cells ≤ R.cells ∧ slots ≤ R.slots) (hdg : decode cc pc = .ok (.invokevirtual index, 3))
    (kk : ∀ (u : S) (H1 : Heap) (locs1 : List Loc), post u → va_P D vwCl (wr ++ wf u) H1 → va_D A (wr ++ wf u) → va_S A s.heap H1 locs1 → W p l e R s m args below meth c H1 locs1 cells slots Q (F0 m (pc + 3) ls rest)) : W p l e R s m args below meth c H locs cells slots Q (F0 m pc ls st0) := by
  have hFc := va_free (wc := wc) hD hS hA isC hC
  have hPc : va_P D vwCl wc H := by
    intro k q hk
    have h1 : (isC.map (fun i => ws[i]?))[k]? = some (some q) := by rw [hC, List.getElem?_map, hk]; rfl
    rw [List.getElem?_map] at h1
    cases hi : isC[k]? with
    | none => rw [hi] at h1; cases h1
    | some i => rw [hi] at h1; exact hP i q (Option.some.inj h1)
  have hDc := hD.sub (ws' := wc) isC hnC hC
  refine va_callv (va_runV (g := F0 m pc ls st0) Sx hM cw ⟨gM_fb, by rw [← hq]; exact va_recv hK hP hc he, fun U hU hW => ⟨rfl, by rw [hU], by rw [hU]; exact hPc, va_K.moved hW.alike hK, hDc.weaken (fun _ _ _ _ => trivial), NW.warm hW hN⟩⟩ rfl hn hl hst (lv_room hW) hdg hf) hS (fun q _ h => hFc q h) hFc (fun u t H1 locs1 ht hvm hw hB hz1 hk1 hS1 => ?_)
  obtain ⟨hP1, hD1⟩ := hB
  rw [ht] at hP1
  obtain ⟨hP2, hD2⟩ := va_join (wr := wr) (w1 := wf u) hP hD isC isR hC hR hnR hdis hk1 hFc hP1 hD1
  exact kk u H1 locs1 hw hP2 hD2 hS1
theorem gSM {S : Type} {post : Int32 → S → Prop} {wf : S → va_W} {wc wr : va_W} (Sx : CallFix p m c cc nL s args Ts own) (hK : va_K D vwCl (gT Cs) s) (hP : va_P D vwCl ws H) (hD : va_D A ws) (hS : va_S A s.heap H locs) (hA : ∀ q, s.heap.size ≤ q → A q) (hN : NW s) (isC isR : List Nat) (hC : isC.map (fun i => ws[i]?) = wc.map some) (hnC : va_nd isC = true) (hR : isR.map (fun i => ws[i]?) = wr.map some) (hnR : va_nd isR = true) (hdis : ∀ i ∈ isR, i ∉ isC)
    (hM : Met l y ws9 rm (va_Pc As (gM D Cs wc H.size)) (va_Qi post (gB D (va_A wc H.size) wf) (va_A wc H.size)) 0 0 (va_A wc H.size)) (cw : CallB R s args own index y bytes maxL ret ws9 rm 0 0 n ∧ (Cond.static y).before args s = true) (hn : As.length = n) (hl : ls.size = nL) (hst : st0 = As.reverse ++ rest) (hW : (rest.map fun v => v.category).sum ≤ 8) (hf : cells ≤ R.cells ∧ slots ≤ R.slots) (hdg : decode cc pc = .ok (.invokestatic index, 3))
    (kk : ∀ (r : Int32) (u : S) (H1 : Heap) (locs1 : List Loc), post r u → va_P D vwCl (wr ++ wf u) H1 → va_D A (wr ++ wf u) → va_S A s.heap H1 locs1 → W p l e R s m args below meth c H1 locs1 cells slots Q (F0 m (pc + 3) ls (.int r :: rest))) : W p l e R s m args below meth c H locs cells slots Q (F0 m pc ls st0) := by
  have hFc := va_free (wc := wc) hD hS hA isC hC
  have hPc : va_P D vwCl wc H := by
    intro k q hk
    have h1 : (isC.map (fun i => ws[i]?))[k]? = some (some q) := by rw [hC, List.getElem?_map, hk]; rfl
    rw [List.getElem?_map] at h1
    cases hi : isC[k]? with
    | none => rw [hi] at h1; cases h1
    | some i => rw [hi] at h1; exact hP i q (Option.some.inj h1)
  have hDc := hD.sub (ws' := wc) isC hnC hC
  refine va_calli (va_runS (g := F0 m pc ls st0) Sx hM cw ⟨gM_fb, fun U hU hW => ⟨rfl, by rw [hU], by rw [hU]; exact hPc, va_K.moved hW.alike hK, hDc.weaken (fun _ _ _ _ => trivial), NW.warm hW hN⟩⟩ rfl hn hl hst (lv_room hW) hdg hf) hS (fun q _ h => hFc q h) hFc (fun r u t H1 locs1 ht hvm hw hB hz1 hk1 hS1 => ?_)
  obtain ⟨hP1, hD1⟩ := hB
  rw [ht] at hP1
  obtain ⟨hP2, hD2⟩ := va_join (wr := wr) (w1 := wf u) hP hD isC isR hC hR hnR hdis hk1 hFc hP1 hD1
  exact kk r u H1 locs1 hw hP2 hD2 hS1
theorem gSMv {S : Type} {post : S → Prop} {wf : S → va_W} {wc wr : va_W} (Sx : CallFix p m c cc nL s args Ts own) (hK : va_K D vwCl (gT Cs) s) (hP : va_P D vwCl ws H) (hD : va_D A ws) (hS : va_S A s.heap H locs) (hA : ∀ q, s.heap.size ≤ q → A q) (hN : NW s) (isC isR : List Nat) (hC : isC.map (fun i => ws[i]?) = wc.map some) (hnC : va_nd isC = true) (hR : isR.map (fun i => ws[i]?) = wr.map some) (hnR : va_nd isR = true) (hdis : ∀ i ∈ isR, i ∉ isC)
    (hM : Met l y ws9 rm (va_Pc As (gM D Cs wc H.size)) (va_Qv post (gB D (va_A wc H.size) wf) (va_A wc H.size)) 0 0 (va_A wc H.size)) (cw : CallB R s args own index y bytes maxL ret ws9 rm 0 0 n ∧ (Cond.static y).before args s = true) (hn : As.length = n) (hl : ls.size = nL) (hst : st0 = As.reverse ++ rest) (hW : (rest.map fun v => v.category).sum ≤ 8) (hf : cells ≤ R.cells ∧ slots ≤ R.slots) (hdg : decode cc pc = .ok (.invokestatic index, 3))
    (kk : ∀ (u : S) (H1 : Heap) (locs1 : List Loc), post u → va_P D vwCl (wr ++ wf u) H1 → va_D A (wr ++ wf u) → va_S A s.heap H1 locs1 → W p l e R s m args below meth c H1 locs1 cells slots Q (F0 m (pc + 3) ls rest)) : W p l e R s m args below meth c H locs cells slots Q (F0 m pc ls st0) := by
  have hFc := va_free (wc := wc) hD hS hA isC hC
  have hPc : va_P D vwCl wc H := by
    intro k q hk
    have h1 : (isC.map (fun i => ws[i]?))[k]? = some (some q) := by rw [hC, List.getElem?_map, hk]; rfl
    rw [List.getElem?_map] at h1
    cases hi : isC[k]? with
    | none => rw [hi] at h1; cases h1
    | some i => rw [hi] at h1; exact hP i q (Option.some.inj h1)
  have hDc := hD.sub (ws' := wc) isC hnC hC
  refine va_callv (va_runS (g := F0 m pc ls st0) Sx hM cw ⟨gM_fb, fun U hU hW => ⟨rfl, by rw [hU], by rw [hU]; exact hPc, va_K.moved hW.alike hK, hDc.weaken (fun _ _ _ _ => trivial), NW.warm hW hN⟩⟩ rfl hn hl hst (lv_room hW) hdg hf) hS (fun q _ h => hFc q h) hFc (fun u t H1 locs1 ht hvm hw hB hz1 hk1 hS1 => ?_)
  obtain ⟨hP1, hD1⟩ := hB
  rw [ht] at hP1
  obtain ⟨hP2, hD2⟩ := va_join (wr := wr) (w1 := wf u) hP hD isC isR hC hR hnR hdis hk1 hFc hP1 hD1
  exact kk u H1 locs1 hw hP2 hD2 hS1
end GCALL
theorem g_inp {big ws : List Cond} (ps : List Nat) (hp : ps.filterMap (fun i => big[i]?) = ws) : ∀ w ∈ ws, w ∈ big := by
  intro w hw
  rw [← hp] at hw
  obtain ⟨i, -, hi⟩ := List.mem_filterMap.mp hw
  exact List.mem_of_getElem? hi
theorem g_sw0_5 {x : Int32} (h0 : ¬ x = 0) (h1 : ¬ x = 1) (h2 : ¬ x = 2) (h3 : ¬ x = 3) (h4 : ¬ x = 4) (h5 : ¬ x = 5) : x.toInt < 0 ∨ 5 < x.toInt := by
  have a0 := lv_neT h0 (a := 0) (by decide)
  have a1 := lv_neT h1 (a := 1) (by decide)
  have a2 := lv_neT h2 (a := 2) (by decide)
  have a3 := lv_neT h3 (a := 3) (by decide)
  have a4 := lv_neT h4 (a := 4) (by decide)
  have a5 := lv_neT h5 (a := 5) (by decide)
  omega
theorem g_sw0_6 {x : Int32} (h0 : ¬ x = 0) (h1 : ¬ x = 1) (h2 : ¬ x = 2) (h3 : ¬ x = 3) (h4 : ¬ x = 4) (h5 : ¬ x = 5) (h6 : ¬ x = 6) : x.toInt < 0 ∨ 6 < x.toInt := by
  have a := g_sw0_5 h0 h1 h2 h3 h4 h5
  have a6 := lv_neT h6 (a := 6) (by decide)
  omega
theorem g_sw1_9 {x : Int32} (h1 : ¬ x = 1) (h2 : ¬ x = 2) (h3 : ¬ x = 3) (h4 : ¬ x = 4) (h5 : ¬ x = 5) (h6 : ¬ x = 6) (h7 : ¬ x = 7) (h8 : ¬ x = 8) (h9 : ¬ x = 9) : x.toInt < 1 ∨ 9 < x.toInt := by
  have a1 := lv_neT h1 (a := 1) (by decide)
  have a2 := lv_neT h2 (a := 2) (by decide)
  have a3 := lv_neT h3 (a := 3) (by decide)
  have a4 := lv_neT h4 (a := 4) (by decide)
  have a5 := lv_neT h5 (a := 5) (by decide)
  have a6 := lv_neT h6 (a := 6) (by decide)
  have a7 := lv_neT h7 (a := 7) (by decide)
  have a8 := lv_neT h8 (a := 8) (by decide)
  have a9 := lv_neT h9 (a := 9) (by decide)
  omega
abbrev BH : Type := Int32 × Int32 × Int32 × Int32 × Int32 × Int32 × Int32 × Int32 × (Nat → Int32) × (Nat → Int32) × (Nat → Int32) × (Nat → Int32) × (Nat → Int32) × (Nat → Int32) × (Nat → Int32) × (Nat → Int32)
/-! what may throw -/
def xsl : List (Nat × String) := [(122, "there are as many towns as there may be"), (139, "there is no road between them"), (148, "no such year"), (154, "the text is not reports"), (165, "no state is remembered"), (174, "no such kind"), (210, "no such length"), (218, "no such number of commands"), (222, "not a script of so many commands"), (227, "no such number of turns"), (246, "nothing has been saved in this slot"), (259, "no such town"), (262, "no such road"), (267, "as many roads as may be are there already"), (272, "no such trait"), (274, "a negative number"), (276, "no such save slot"), (55, "no such character code"), (66, "the text is full"), (99, "no such number")]
abbrev eA : String := "java/lang/IllegalArgumentException"
abbrev eS : String := "java/lang/IllegalStateException"
abbrev eI : String := "java/lang/IndexOutOfBoundsException"
abbrev eNs : List String := ["java/lang/RuntimeException", "java/lang/Exception"]
def xwl : List Cond := [.castable eA eA, .castable eS eS, .castable eI eI, .declares (Bundle.initS "java/lang/RuntimeException"), .declares (Bundle.initS "java/lang/Exception"), .declares (Bundle.initS Bundle.tN)]
def xnc : List (String × String) := [(eA, eS), (eA, eI), (eS, eA), (eS, eI), (eI, eA), (eI, eS)]
def XS (A : Nat → Prop) (U : State) : Prop := vx_Zq Bundle.tN "UNASSIGNED_STACK" Bundle.steD A U U.heap ∧ vx_Zq Bundle.tN "SUPPRESSED_SENTINEL" Bundle.listD A U U.heap ∧ (∀ w ∈ xwl, va_Nw w U) ∧ (∀ q ∈ xsl, ∃ sa, vk_R RX5 q.1 q.2 sa U) ∧ ∀ q ∈ xnc, va_Nc q.1 q.2 U
theorem XS.to {A A' : Nat → Prop} {s U : State} {H : Heap} {locs : List Loc} (h : XS A s) (hS : va_S A s.heap H locs) (hU : U.heap = H) (hW : s.WarmedH U.vm) (hAA : ∀ q, A' q → A q) : XS A' U := by
  obtain ⟨h1, h2, h3, h4, h5⟩ := h
  refine ⟨?_, ?_, ?_, ?_, fun q hq => (h5 q hq).moved hW.alike⟩
  · rw [hU]; exact (vx_Zq.moved hW.alike (h1.kept hS.2.1)).narrow hAA
  · rw [hU]; exact (vx_Zq.moved hW.alike (h2.kept hS.2.1)).narrow hAA
  · intro w hw
    have h9 := h3 w hw
    simp only [xwl, List.mem_cons, List.not_mem_nil, or_false] at hw
    rcases hw with rfl | rfl | rfl | rfl | rfl | rfl
    · exact va_Nw.warmC hW h9
    · exact va_Nw.warmC hW h9
    · exact va_Nw.warmC hW h9
    · exact va_Nw.warmD hW h9
    · exact va_Nw.warmD hW h9
    · exact va_Nw.warmD hW h9
  · intro q hq
    obtain ⟨sa, h9⟩ := h4 q hq
    exact ⟨sa, vk_R.warm hW h9⟩
def gX (D : va_G) (Cs : Nat → ClassId) (ws : va_W) (sz : Nat) (U : State) : Prop := U.heap.size = sz ∧ va_P D vwCl ws U.heap ∧ va_K D vwCl (gT Cs) U ∧ va_D (fun _ => True) ws ∧ NW U ∧ XS (va_A ws sz) U
theorem gX_fb {av : List Value} {D : va_G} {Cs : Nat → ClassId} {ws : va_W} {sz : Nat} : FrameBlind (va_Pc av (gX D Cs ws sz)) := fun a U g mk q => ⟨q.1, q.2.1, q.2.2.1, va_K.moved (u := U) (U := U.calling g mk a) (Vm.Alike.refl U.vm) q.2.2.2.1, q.2.2.2.2.1, NW.warm (s := U) (U := U.calling g mk a) (State.WarmedH.refl U) q.2.2.2.2.2.1, XS.to (s := U) (U := U.calling g mk a) (H := U.heap) (locs := []) q.2.2.2.2.2.2 va_S.rf rfl (State.WarmedH.refl U) (fun _ h => h)⟩
def gXC (px : String → Prop) (D : va_G) (ws : va_W) (A : Nat → Prop) : String → State → State → Prop := vx_X px (fun (E : String) (u : String) (t : State) => u = E ∧ va_P D vwCl ws t.heap ∧ va_D A ws) A
theorem TB_lw {w : Cond} (h : w ∈ lw_tbl) (hg : goodWord w = true) : w ∈ TB := List.mem_filter.mpr ⟨h, hg⟩
theorem gx_in57 : ∀ w ∈ (vx_atS RX5 57 eA eNs).filter goodWord, w ∈ TB := fun w hw => TB_lw ((by decide +kernel : ∀ w ∈ (vx_atS RX5 57 eA eNs).filter goodWord, w ∈ lw_tbl) w hw) (List.mem_filter.mp hw).2
theorem gx_in68 : ∀ w ∈ (vx_atS RX5 68 eS eNs).filter goodWord, w ∈ TB := fun w hw => TB_lw ((by decide +kernel : ∀ w ∈ (vx_atS RX5 68 eS eNs).filter goodWord, w ∈ lw_tbl) w hw) (List.mem_filter.mp hw).2
theorem gx_in261 : ∀ w ∈ (vx_atS RX5 261 eI eNs).filter goodWord, w ∈ TB := fun w hw => TB_lw ((by decide +kernel : ∀ w ∈ (vx_atS RX5 261 eI eNs).filter goodWord, w ∈ lw_tbl) w hw) (List.mem_filter.mp hw).2
theorem gx_nx {s : State} {args : Array Value} (h : ∀ w ∈ xwl, va_Nw w s) : ∀ w ∈ xwl, w.before args s = true := by
  intro w hw
  have h9 := h w hw
  simp only [xwl, List.mem_cons, List.not_mem_nil, or_false] at hw
  rcases hw with rfl | rfl | rfl | rfl | rfl | rfl
  · exact va_Nw.use rfl h9
  · exact va_Nw.use rfl h9
  · exact va_Nw.use rfl h9
  · exact va_Nw.use rfl h9
  · exact va_Nw.use rfl h9
  · exact va_Nw.use rfl h9
theorem gx_at57 {s : State} {args : Array Value} (ht : ∀ w ∈ TB, w.before args s = true) (h : ∀ w ∈ xwl, va_Nw w s) : ∀ w ∈ vx_atS RX5 57 eA eNs, w.before args s = true := vx_hat (B := xwl) (fun w hw => ht w (gx_in57 w hw)) (by decide +kernel) (gx_nx h)
theorem gx_at68 {s : State} {args : Array Value} (ht : ∀ w ∈ TB, w.before args s = true) (h : ∀ w ∈ xwl, va_Nw w s) : ∀ w ∈ vx_atS RX5 68 eS eNs, w.before args s = true := vx_hat (B := xwl) (fun w hw => ht w (gx_in68 w hw)) (by decide +kernel) (gx_nx h)
theorem gx_at261 {s : State} {args : Array Value} (ht : ∀ w ∈ TB, w.before args s = true) (h : ∀ w ∈ xwl, va_Nw w s) : ∀ w ∈ vx_atS RX5 261 eI eNs, w.before args s = true := vx_hat (B := xwl) (fun w hw => ht w (gx_in261 w hw)) (by decide +kernel) (gx_nx h)
theorem gx_ok57 : ∀ w ∈ Cond.classLink RX5 53 eA :: Cond.initialized eA :: vx_atS RX5 57 eA eNs, vx_ot w = true := by decide +kernel
theorem gx_ok68 : ∀ w ∈ Cond.classLink RX5 64 eS :: Cond.initialized eS :: vx_atS RX5 68 eS eNs, vx_ot w = true := by decide +kernel
theorem gx_ok261 : ∀ w ∈ Cond.classLink RX5 257 eI :: Cond.initialized eI :: vx_atS RX5 261 eI eNs, vx_ot w = true := by decide +kernel
section GX
variable {p : Program} {l : Launch} {e : Env} {R : Room} {s : State} {m : MethodId} {args : Array Value} {below : List Frame} {meth : Method} {c : Code} {H : Heap} {locs : List Loc} {cells slots : Nat} {Q : State → Prop}
variable {pc : Nat} {ls : Array Slot} {st0 rest : List Value} {D : va_G} {Cs : Nat → ClassId} {A : Nat → Prop} {ws : va_W}
variable {y : MethodName} {bytes cc : ByteArray} {maxL nL n index : Nat} {ret : Option FieldType} {ws9 : List Cond} {rm : Room} {Ts : List Cond} {own C host : String} {b : Addr} {As : List Value}
theorem gx_sub {A : Nat → Prop} {D : va_G} {H : Heap} {ws ws0 : va_W} (hP : va_P D vwCl ws H) (perm : List Nat) (h : perm.map (fun i => ws[i]?) = ws0.map some) : va_P D vwCl ws0 H := by
  intro k q hk
  have h1 : (perm.map (fun i => ws[i]?))[k]? = some (some q) := by rw [h, List.getElem?_map, hk]; rfl
  rw [List.getElem?_map] at h1
  cases hi : perm[k]? with
  | none => rw [hi] at h1; cases h1
  | some i => rw [hi] at h1; exact hP i q (Option.some.inj h1)
/-- the end by a throw, at a state t behind H in which H's cells lie as they were -/
theorem gx_end {ws0 : va_W} {px : String → Prop} {E : String} {t : State} (hP : va_P D vwCl ws H) (hD : va_D A ws) (hS : va_S A s.heap H locs) (perm : List Nat) (hn : va_nd perm = true) (hperm : perm.map (fun i => ws[i]?) = ws0.map some) (h : px E) (h1 : H.size ≤ t.heap.size) (h2 : ∀ q : Nat, q < H.size → t.heap[q]? = H[q]?) : gXC px D ws0 A E s t :=
  ⟨E, h, ⟨rfl, (gx_sub (A := A) hP perm hperm).kept (fun k q hk => h2 q.1 ((gx_sub (A := A) hP perm hperm k q hk).lt)), hD.sub perm hn hperm⟩, ⟨Nat.le_trans hS.1 h1, fun q a b => (h2 q (Nat.lt_of_lt_of_le a hS.1)).trans (hS.2.1 q a b)⟩⟩
theorem gThrow {Qc : Array Value → State → Outcome → State → Prop} {px : String → Prop} {ws0 : va_W} {MC MS : Nat} {E text : String} {ik is ic : Nat} (hx : p.tables.exec = Jvm.exec) (hb : c.code = cc) (hl : l.stackTraces = false) (hown : s.vm.findClass RX5 = some m.cls) (hE : Bundle.fit E = true)
    (hk : (Cond.classLink RX5 ik E).before args s = true) (hini : (Cond.initialized E).before args s = true) (hstr : (is, text) ∈ xsl) (hX : XS A s) (hat : ∀ w ∈ vx_atS RX5 ic E eNs, w.before args s = true) (hok : ∀ w ∈ Cond.classLink RX5 ik E :: Cond.initialized E :: vx_atS RX5 ic E eNs, vx_ot w = true)
    (hP : va_P D vwCl ws H) (hD : va_D A ws) (hS : va_S A s.heap H locs) (hls : ls.size = nL) (hml : c.maxLocals = nL)
    (d0 : decode cc pc = .ok (.new ik, 3)) (d3 : decode cc (pc + 3) = .ok (.dup, 1)) (d4 : decode cc (pc + 4) = .ok (.ldc is, 2)) (d6 : decode cc (pc + 6) = .ok (.invokespecial ic, 3)) (d9 : decode cc (pc + 9) = .ok (.athrow, 1)) (hout : ∀ (k : Nat), ∀ x ∈ c.exceptionTable.toList, covers x k = false)
    (hRf : 5 < R.frames) (hRl : (rest.map fun v => v.category).sum + 82 ≤ R.locals) (hRc : cells + 1 ≤ R.cells ∧ slots + 6 ≤ R.slots) (hM : cells + 1 ≤ MC ∧ slots + 6 ≤ MS) (hlocks : meth.locks = false) (hQ : vx_MQ below Qc (gXC px D ws0 A) args s MC MS A = Q) (perm : List Nat) (hn : va_nd perm = true) (hperm : perm.map (fun i => ws[i]?) = ws0.map some) (h : px E) : W p l e R s m args below meth c H locs cells slots Q (F0 m pc ls rest) := by
  subst hQ
  obtain ⟨h1, h2, h3, h4, -⟩ := hX
  obtain ⟨sa, hsa⟩ := h4 _ hstr
  exact vx_throwS hx hb hl hown hE (by decide) hk hini hsa hat hok h1 h2 hS (hls.trans hml.symm) d0 d3 d4 d6 d9 (hout _) hRf hRl hRc.1 hRc.2 hlocks (fun t _ a b => gx_end hP hD hS perm hn hperm h a b) hS.2.2 hM.1 hM.2
theorem gThrowW {Qc : Array Value → State → Outcome → State → Prop} {px : String → Prop} {ws0 : va_W} {MC MS : Nat} {E text : String} {ik is ic : Nat} (hx : p.tables.exec = Jvm.exec) (hb : c.code = cc) (hl : l.stackTraces = false) (hown : s.vm.findClass RX5 = some m.cls) (hE : Bundle.fit E = true)
    (hk : (Cond.classLink RX5 ik E).before args s = true) (hini : (Cond.initialized E).before args s = true) (hstr : (is, text) ∈ xsl) (hX : XS A s) (hat : ∀ w ∈ vx_atS RX5 ic E eNs, w.before args s = true) (hok : ∀ w ∈ Cond.classLink RX5 ik E :: Cond.initialized E :: vx_atS RX5 ic E eNs, vx_ot w = true)
    (hP : va_P D vwCl ws H) (hD : va_D A ws) (hS : va_S A s.heap H locs) (hls : ls.size = nL) (hml : c.maxLocals = nL)
    (d0 : decode cc pc = .ok (.new ik, 3)) (d3 : decode cc (pc + 3) = .ok (.dup, 1)) (d4 : decode cc (pc + 4) = .ok (.ldc_w is, 3)) (d7 : decode cc (pc + 7) = .ok (.invokespecial ic, 3)) (d10 : decode cc (pc + 10) = .ok (.athrow, 1)) (hout : ∀ (k : Nat), ∀ x ∈ c.exceptionTable.toList, covers x k = false)
    (hRf : 5 < R.frames) (hRl : (rest.map fun v => v.category).sum + 82 ≤ R.locals) (hRc : cells + 1 ≤ R.cells ∧ slots + 6 ≤ R.slots) (hM : cells + 1 ≤ MC ∧ slots + 6 ≤ MS) (hlocks : meth.locks = false) (hQ : vx_MQ below Qc (gXC px D ws0 A) args s MC MS A = Q) (perm : List Nat) (hn : va_nd perm = true) (hperm : perm.map (fun i => ws[i]?) = ws0.map some) (h : px E) : W p l e R s m args below meth c H locs cells slots Q (F0 m pc ls rest) := by
  subst hQ
  obtain ⟨h1, h2, h3, h4, -⟩ := hX
  obtain ⟨sa, hsa⟩ := h4 _ hstr
  exact vx_throwSW hx hb hl hown hE (by decide) hk hini hsa hat hok h1 h2 hS (hls.trans hml.symm) d0 d3 d4 d7 d10 (hout _) hRf hRl hRc.1 hRc.2 hlocks (fun t _ a b => gx_end hP hD hS perm hn hperm h a b) hS.2.2 hM.1 hM.2
theorem gVX {S : Type} {post : Int32 → S → Prop} {px : String → Prop} {wf : S → va_W} {wc wr ws0 : va_W} {mc ms MC MS : Nat} {Qc : Array Value → State → Outcome → State → Prop} (Sx : CallFix p m c cc nL s args Ts own) (hK : va_K D vwCl (gT Cs) s) (hP : va_P D vwCl ws H) (hD : va_D A ws) (hS : va_S A s.heap H locs) (hA : ∀ q, s.heap.size ≤ q → A q) (hN : NW s) (hX : XS A s) (isC isR : List Nat) (hC : isC.map (fun i => ws[i]?) = wc.map some) (hnC : va_nd isC = true) (hR : isR.map (fun i => ws[i]?) = wr.map some) (hnR : va_nd isR = true) (hdis : ∀ i ∈ isR, i ∉ isC)
    (hM : vx_Met l y ws9 rm (va_Pc (.ref b :: As) (gX D Cs wc H.size)) (va_Qi post (gB D (va_A wc H.size) wf) (va_A wc H.size)) (gXC px D wc (va_A wc H.size)) mc ms (va_A wc H.size)) (cw : CallW R s args own C index y bytes maxL ret ws9 rm mc ms n) (i0 : Nat) {ci : Nat} {fs : List Value} {q : vw_C} (hc : vwCl[ci]? = some q) (he : ws[i0]? = some (b, .inr (ci, fs))) (hq : q.1 = C) (hn : As.length = n) (hl : ls.size = nL) (hst : st0 = As.reverse ++ .ref b :: rest) (hW : (rest.map fun v => v.category).sum ≤ 8) (hf : cells + mc ≤ R.cells ∧ slots + ms ≤ R.slots) (hdg : decode cc pc = .ok (.invokevirtual index, 3))
    (hlocks : meth.locks = false) (hout : ∀ (k : Nat), ∀ x ∈ c.exceptionTable.toList, covers x k = false) (hQ : vx_MQ below Qc (gXC px D ws0 A) args s MC MS A = Q) (perm : List Nat) (hnp : va_nd perm = true) (hperm : perm.map (fun i => (wr ++ wc)[i]?) = ws0.map some) (hmc : cells + mc ≤ MC ∧ slots + ms ≤ MS)
    (kk : ∀ (r : Int32) (u : S) (H1 : Heap) (locs1 : List Loc), post r u → va_P D vwCl (wr ++ wf u) H1 → va_D A (wr ++ wf u) → va_S A s.heap H1 locs1 → W p l e R s m args below meth c H1 locs1 (cells + mc) (slots + ms) Q (F0 m (pc + 3) ls (.int r :: rest))) : W p l e R s m args below meth c H locs cells slots Q (F0 m pc ls st0) := by
  have hFc := va_free (wc := wc) hD hS hA isC hC
  have hPc : va_P D vwCl wc H := gx_sub (A := A) hP isC hC
  have hDc := hD.sub (ws' := wc) isC hnC hC
  refine vx_calli (vx_runV (g := F0 m pc ls st0) Sx hM cw ⟨gX_fb, by rw [← hq]; exact va_recv hK hP hc he, fun U hU hW => ⟨rfl, by rw [hU], by rw [hU]; exact hPc, va_K.moved hW.alike hK, hDc.weaken (fun _ _ _ _ => trivial), NW.warm hW hN, XS.to hX hS hU hW hFc⟩⟩ rfl hn hl hst (lv_room hW) hdg hf) hS (fun q _ h => hFc q h) hFc (fun q _ h => hFc q h) ?_ (fun r u t H1 locs1 ht hvm hw hB hz1 hk1 hS1 => ?_)
  · intro E ce q9 u t H1 locs1 ht hvm hpx hB hz1 hk1 hS1 hce hcv hcl
    subst hQ
    obtain ⟨hu, hP1, hD1⟩ := hB
    subst hu
    rw [ht] at hP1
    obtain ⟨hP2, hD2⟩ := va_join (wr := wr) (w1 := wc) hP hD isC isR hC hR hnR hdis hk1 hFc hP1 hD1
    exact vx_out (hout _) hlocks hce hcv hcl (fun t9 ht9 _ => gx_end (H := H1) hP2 hD2 hS1 perm hnp hperm hpx (by rw [ht9]; exact Nat.le_refl _) (fun q _ => by rw [ht9])) hS1.2.2 hmc.1 hmc.2
  · obtain ⟨hP1, hD1⟩ := hB
    rw [ht] at hP1
    obtain ⟨hP2, hD2⟩ := va_join (wr := wr) (w1 := wf u) hP hD isC isR hC hR hnR hdis hk1 hFc hP1 hD1
    exact kk r u H1 locs1 hw hP2 hD2 hS1
theorem gVXv {S : Type} {post : S → Prop} {px : String → Prop} {wf : S → va_W} {wc wr ws0 : va_W} {mc ms MC MS : Nat} {Qc : Array Value → State → Outcome → State → Prop} (Sx : CallFix p m c cc nL s args Ts own) (hK : va_K D vwCl (gT Cs) s) (hP : va_P D vwCl ws H) (hD : va_D A ws) (hS : va_S A s.heap H locs) (hA : ∀ q, s.heap.size ≤ q → A q) (hN : NW s) (hX : XS A s) (isC isR : List Nat) (hC : isC.map (fun i => ws[i]?) = wc.map some) (hnC : va_nd isC = true) (hR : isR.map (fun i => ws[i]?) = wr.map some) (hnR : va_nd isR = true) (hdis : ∀ i ∈ isR, i ∉ isC)
    (hM : vx_Met l y ws9 rm (va_Pc (.ref b :: As) (gX D Cs wc H.size)) (va_Qv post (gB D (va_A wc H.size) wf) (va_A wc H.size)) (gXC px D wc (va_A wc H.size)) mc ms (va_A wc H.size)) (cw : CallW R s args own C index y bytes maxL ret ws9 rm mc ms n) (i0 : Nat) {ci : Nat} {fs : List Value} {q : vw_C} (hc : vwCl[ci]? = some q) (he : ws[i0]? = some (b, .inr (ci, fs))) (hq : q.1 = C) (hn : As.length = n) (hl : ls.size = nL) (hst : st0 = As.reverse ++ .ref b :: rest) (hW : (rest.map fun v => v.category).sum ≤ 8) (hf : cells + mc ≤ R.cells ∧ slots + ms ≤ R.slots) (hdg : decode cc pc = .ok (.invokevirtual index, 3))
    (hlocks : meth.locks = false) (hout : ∀ (k : Nat), ∀ x ∈ c.exceptionTable.toList, covers x k = false) (hQ : vx_MQ below Qc (gXC px D ws0 A) args s MC MS A = Q) (perm : List Nat) (hnp : va_nd perm = true) (hperm : perm.map (fun i => (wr ++ wc)[i]?) = ws0.map some) (hmc : cells + mc ≤ MC ∧ slots + ms ≤ MS)
    (kk : ∀ (u : S) (H1 : Heap) (locs1 : List Loc), post u → va_P D vwCl (wr ++ wf u) H1 → va_D A (wr ++ wf u) → va_S A s.heap H1 locs1 → W p l e R s m args below meth c H1 locs1 (cells + mc) (slots + ms) Q (F0 m (pc + 3) ls rest)) : W p l e R s m args below meth c H locs cells slots Q (F0 m pc ls st0) := by
  have hFc := va_free (wc := wc) hD hS hA isC hC
  have hPc : va_P D vwCl wc H := gx_sub (A := A) hP isC hC
  have hDc := hD.sub (ws' := wc) isC hnC hC
  refine vx_callv (vx_runV (g := F0 m pc ls st0) Sx hM cw ⟨gX_fb, by rw [← hq]; exact va_recv hK hP hc he, fun U hU hW => ⟨rfl, by rw [hU], by rw [hU]; exact hPc, va_K.moved hW.alike hK, hDc.weaken (fun _ _ _ _ => trivial), NW.warm hW hN, XS.to hX hS hU hW hFc⟩⟩ rfl hn hl hst (lv_room hW) hdg hf) hS (fun q _ h => hFc q h) hFc (fun q _ h => hFc q h) ?_ (fun u t H1 locs1 ht hvm hw hB hz1 hk1 hS1 => ?_)
  · intro E ce q9 u t H1 locs1 ht hvm hpx hB hz1 hk1 hS1 hce hcv hcl
    subst hQ
    obtain ⟨hu, hP1, hD1⟩ := hB
    subst hu
    rw [ht] at hP1
    obtain ⟨hP2, hD2⟩ := va_join (wr := wr) (w1 := wc) hP hD isC isR hC hR hnR hdis hk1 hFc hP1 hD1
    exact vx_out (hout _) hlocks hce hcv hcl (fun t9 ht9 _ => gx_end (H := H1) hP2 hD2 hS1 perm hnp hperm hpx (by rw [ht9]; exact Nat.le_refl _) (fun q _ => by rw [ht9])) hS1.2.2 hmc.1 hmc.2
  · obtain ⟨hP1, hD1⟩ := hB
    rw [ht] at hP1
    obtain ⟨hP2, hD2⟩ := va_join (wr := wr) (w1 := wf u) hP hD isC isR hC hR hnR hdis hk1 hFc hP1 hD1
    exact kk u H1 locs1 hw hP2 hD2 hS1
theorem gSX {S : Type} {post : Int32 → S → Prop} {px : String → Prop} {wf : S → va_W} {wc wr ws0 : va_W} {mc ms MC MS : Nat} {Qc : Array Value → State → Outcome → State → Prop} (Sx : CallFix p m c cc nL s args Ts own) (hK : va_K D vwCl (gT Cs) s) (hP : va_P D vwCl ws H) (hD : va_D A ws) (hS : va_S A s.heap H locs) (hA : ∀ q, s.heap.size ≤ q → A q) (hN : NW s) (hX : XS A s) (isC isR : List Nat) (hC : isC.map (fun i => ws[i]?) = wc.map some) (hnC : va_nd isC = true) (hR : isR.map (fun i => ws[i]?) = wr.map some) (hnR : va_nd isR = true) (hdis : ∀ i ∈ isR, i ∉ isC)
    (hM : vx_Met l y ws9 rm (va_Pc As (gX D Cs wc H.size)) (va_Qi post (gB D (va_A wc H.size) wf) (va_A wc H.size)) (gXC px D wc (va_A wc H.size)) mc ms (va_A wc H.size)) (cw : CallB R s args own index y bytes maxL ret ws9 rm mc ms n ∧ (Cond.static y).before args s = true) (hn : As.length = n) (hl : ls.size = nL) (hst : st0 = As.reverse ++ rest) (hW : (rest.map fun v => v.category).sum ≤ 8) (hf : cells + mc ≤ R.cells ∧ slots + ms ≤ R.slots) (hdg : decode cc pc = .ok (.invokestatic index, 3))
    (hlocks : meth.locks = false) (hout : ∀ (k : Nat), ∀ x ∈ c.exceptionTable.toList, covers x k = false) (hQ : vx_MQ below Qc (gXC px D ws0 A) args s MC MS A = Q) (perm : List Nat) (hnp : va_nd perm = true) (hperm : perm.map (fun i => (wr ++ wc)[i]?) = ws0.map some) (hmc : cells + mc ≤ MC ∧ slots + ms ≤ MS)
    (kk : ∀ (r : Int32) (u : S) (H1 : Heap) (locs1 : List Loc), post r u → va_P D vwCl (wr ++ wf u) H1 → va_D A (wr ++ wf u) → va_S A s.heap H1 locs1 → W p l e R s m args below meth c H1 locs1 (cells + mc) (slots + ms) Q (F0 m (pc + 3) ls (.int r :: rest))) : W p l e R s m args below meth c H locs cells slots Q (F0 m pc ls st0) := by
  have hFc := va_free (wc := wc) hD hS hA isC hC
  have hPc : va_P D vwCl wc H := gx_sub (A := A) hP isC hC
  have hDc := hD.sub (ws' := wc) isC hnC hC
  refine vx_calli (vx_runS (g := F0 m pc ls st0) Sx hM cw ⟨gX_fb, fun U hU hW => ⟨rfl, by rw [hU], by rw [hU]; exact hPc, va_K.moved hW.alike hK, hDc.weaken (fun _ _ _ _ => trivial), NW.warm hW hN, XS.to hX hS hU hW hFc⟩⟩ rfl hn hl hst (lv_room hW) hdg hf) hS (fun q _ h => hFc q h) hFc (fun q _ h => hFc q h) ?_ (fun r u t H1 locs1 ht hvm hw hB hz1 hk1 hS1 => ?_)
  · intro E ce q9 u t H1 locs1 ht hvm hpx hB hz1 hk1 hS1 hce hcv hcl
    subst hQ
    obtain ⟨hu, hP1, hD1⟩ := hB
    subst hu
    rw [ht] at hP1
    obtain ⟨hP2, hD2⟩ := va_join (wr := wr) (w1 := wc) hP hD isC isR hC hR hnR hdis hk1 hFc hP1 hD1
    exact vx_out (hout _) hlocks hce hcv hcl (fun t9 ht9 _ => gx_end (H := H1) hP2 hD2 hS1 perm hnp hperm hpx (by rw [ht9]; exact Nat.le_refl _) (fun q _ => by rw [ht9])) hS1.2.2 hmc.1 hmc.2
  · obtain ⟨hP1, hD1⟩ := hB
    rw [ht] at hP1
    obtain ⟨hP2, hD2⟩ := va_join (wr := wr) (w1 := wf u) hP hD isC isR hC hR hnR hdis hk1 hFc hP1 hD1
    exact kk r u H1 locs1 hw hP2 hD2 hS1
theorem gSXv {S : Type} {post : S → Prop} {px : String → Prop} {wf : S → va_W} {wc wr ws0 : va_W} {mc ms MC MS : Nat} {Qc : Array Value → State → Outcome → State → Prop} (Sx : CallFix p m c cc nL s args Ts own) (hK : va_K D vwCl (gT Cs) s) (hP : va_P D vwCl ws H) (hD : va_D A ws) (hS : va_S A s.heap H locs) (hA : ∀ q, s.heap.size ≤ q → A q) (hN : NW s) (hX : XS A s) (isC isR : List Nat) (hC : isC.map (fun i => ws[i]?) = wc.map some) (hnC : va_nd isC = true) (hR : isR.map (fun i => ws[i]?) = wr.map some) (hnR : va_nd isR = true) (hdis : ∀ i ∈ isR, i ∉ isC)
    (hM : vx_Met l y ws9 rm (va_Pc As (gX D Cs wc H.size)) (va_Qv post (gB D (va_A wc H.size) wf) (va_A wc H.size)) (gXC px D wc (va_A wc H.size)) mc ms (va_A wc H.size)) (cw : CallB R s args own index y bytes maxL ret ws9 rm mc ms n ∧ (Cond.static y).before args s = true) (hn : As.length = n) (hl : ls.size = nL) (hst : st0 = As.reverse ++ rest) (hW : (rest.map fun v => v.category).sum ≤ 8) (hf : cells + mc ≤ R.cells ∧ slots + ms ≤ R.slots) (hdg : decode cc pc = .ok (.invokestatic index, 3))
    (hlocks : meth.locks = false) (hout : ∀ (k : Nat), ∀ x ∈ c.exceptionTable.toList, covers x k = false) (hQ : vx_MQ below Qc (gXC px D ws0 A) args s MC MS A = Q) (perm : List Nat) (hnp : va_nd perm = true) (hperm : perm.map (fun i => (wr ++ wc)[i]?) = ws0.map some) (hmc : cells + mc ≤ MC ∧ slots + ms ≤ MS)
    (kk : ∀ (u : S) (H1 : Heap) (locs1 : List Loc), post u → va_P D vwCl (wr ++ wf u) H1 → va_D A (wr ++ wf u) → va_S A s.heap H1 locs1 → W p l e R s m args below meth c H1 locs1 (cells + mc) (slots + ms) Q (F0 m (pc + 3) ls rest)) : W p l e R s m args below meth c H locs cells slots Q (F0 m pc ls st0) := by
  have hFc := va_free (wc := wc) hD hS hA isC hC
  have hPc : va_P D vwCl wc H := gx_sub (A := A) hP isC hC
  have hDc := hD.sub (ws' := wc) isC hnC hC
  refine vx_callv (vx_runS (g := F0 m pc ls st0) Sx hM cw ⟨gX_fb, fun U hU hW => ⟨rfl, by rw [hU], by rw [hU]; exact hPc, va_K.moved hW.alike hK, hDc.weaken (fun _ _ _ _ => trivial), NW.warm hW hN, XS.to hX hS hU hW hFc⟩⟩ rfl hn hl hst (lv_room hW) hdg hf) hS (fun q _ h => hFc q h) hFc (fun q _ h => hFc q h) ?_ (fun u t H1 locs1 ht hvm hw hB hz1 hk1 hS1 => ?_)
  · intro E ce q9 u t H1 locs1 ht hvm hpx hB hz1 hk1 hS1 hce hcv hcl
    subst hQ
    obtain ⟨hu, hP1, hD1⟩ := hB
    subst hu
    rw [ht] at hP1
    obtain ⟨hP2, hD2⟩ := va_join (wr := wr) (w1 := wc) hP hD isC isR hC hR hnR hdis hk1 hFc hP1 hD1
    exact vx_out (hout _) hlocks hce hcv hcl (fun t9 ht9 _ => gx_end (H := H1) hP2 hD2 hS1 perm hnp hperm hpx (by rw [ht9]; exact Nat.le_refl _) (fun q _ => by rw [ht9])) hS1.2.2 hmc.1 hmc.2
  · obtain ⟨hP1, hD1⟩ := hB
    rw [ht] at hP1
    obtain ⟨hP2, hD2⟩ := va_join (wr := wr) (w1 := wf u) hP hD isC isR hC hR hnR hdis hk1 hFc hP1 hD1
    exact kk u H1 locs1 hw hP2 hD2 hS1
theorem gVXc {S : Type} {post : Int32 → S → Prop} {px : String → Prop} {wf : S → va_W} {wc wr : va_W} {mc ms : Nat} (Sx : CallFix p m c cc nL s args Ts own) (hK : va_K D vwCl (gT Cs) s) (hP : va_P D vwCl ws H) (hD : va_D A ws) (hS : va_S A s.heap H locs) (hA : ∀ q, s.heap.size ≤ q → A q) (hN : NW s) (hX : XS A s) (isC isR : List Nat) (hC : isC.map (fun i => ws[i]?) = wc.map some) (hnC : va_nd isC = true) (hR : isR.map (fun i => ws[i]?) = wr.map some) (hnR : va_nd isR = true) (hdis : ∀ i ∈ isR, i ∉ isC)
    (hM : vx_Met l y ws9 rm (va_Pc (.ref b :: As) (gX D Cs wc H.size)) (va_Qi post (gB D (va_A wc H.size) wf) (va_A wc H.size)) (gXC px D wc (va_A wc H.size)) mc ms (va_A wc H.size)) (cw : CallW R s args own C index y bytes maxL ret ws9 rm mc ms n) (i0 : Nat) {ci : Nat} {fs : List Value} {q : vw_C} (hc : vwCl[ci]? = some q) (he : ws[i0]? = some (b, .inr (ci, fs))) (hq : q.1 = C) (hn : As.length = n) (hl : ls.size = nL) (hst : st0 = As.reverse ++ .ref b :: rest) (hW : (rest.map fun v => v.category).sum ≤ 8) (hf : cells + mc ≤ R.cells ∧ slots + ms ≤ R.slots) (hdg : decode cc pc = .ok (.invokevirtual index, 3))
    (kx : ∀ (E : String) (ce : Cell) (q9 : Addr) (H1 : Heap) (locs1 : List Loc), px E → va_P D vwCl (wr ++ wc) H1 → va_D A (wr ++ wc) → va_S A s.heap H1 locs1 → H1[q9]? = some ce → ce.vm = .none → s.vm.findClass E = some ce.cls → vx_W p l e R s m args below meth c H1 locs1 (cells + mc) (slots + ms) Q (F0 m pc ls rest) q9)
    (kk : ∀ (r : Int32) (u : S) (H1 : Heap) (locs1 : List Loc), post r u → va_P D vwCl (wr ++ wf u) H1 → va_D A (wr ++ wf u) → va_S A s.heap H1 locs1 → W p l e R s m args below meth c H1 locs1 (cells + mc) (slots + ms) Q (F0 m (pc + 3) ls (.int r :: rest))) : W p l e R s m args below meth c H locs cells slots Q (F0 m pc ls st0) := by
  have hFc := va_free (wc := wc) hD hS hA isC hC
  have hPc : va_P D vwCl wc H := gx_sub (A := A) hP isC hC
  have hDc := hD.sub (ws' := wc) isC hnC hC
  refine vx_calli (vx_runV (g := F0 m pc ls st0) Sx hM cw ⟨gX_fb, by rw [← hq]; exact va_recv hK hP hc he, fun U hU hW => ⟨rfl, by rw [hU], by rw [hU]; exact hPc, va_K.moved hW.alike hK, hDc.weaken (fun _ _ _ _ => trivial), NW.warm hW hN, XS.to hX hS hU hW hFc⟩⟩ rfl hn hl hst (lv_room hW) hdg hf) hS (fun q _ h => hFc q h) hFc (fun q _ h => hFc q h) ?_ (fun r u t H1 locs1 ht hvm hw hB hz1 hk1 hS1 => ?_)
  · intro E ce q9 u t H1 locs1 ht hvm hpx hB hz1 hk1 hS1 hce hcv hcl
    obtain ⟨hu, hP1, hD1⟩ := hB
    subst hu
    rw [ht] at hP1
    obtain ⟨hP2, hD2⟩ := va_join (wr := wr) (w1 := wc) hP hD isC isR hC hR hnR hdis hk1 hFc hP1 hD1
    exact kx u ce q9 H1 locs1 hpx hP2 hD2 hS1 hce hcv hcl
  · obtain ⟨hP1, hD1⟩ := hB
    rw [ht] at hP1
    obtain ⟨hP2, hD2⟩ := va_join (wr := wr) (w1 := wf u) hP hD isC isR hC hR hnR hdis hk1 hFc hP1 hD1
    exact kk r u H1 locs1 hw hP2 hD2 hS1
theorem g_aald {n : Nat} {qs : Nat → Nat} {a : Nat} {i : Int32} (hx : p.tables.exec = Jvm.exec) (hb : c.code = cc) (hK : va_K D vwCl (gT Cs) s) (hP : va_P D vwCl ws H) (q0 : Nat) (ha : ws[q0]? = some (a, gQ Cs n (gqf n qs))) (hin : vp_in i n) (hdg : decode cc pc = .ok (.aaload, 1))
    (kk : W p l e R s m args below meth c H locs cells slots Q (F0 m (pc + 1) ls (.ref (qs i.toNatClampNeg) :: rest))) : W p l e R s m args below meth c H locs cells slots Q (F0 m pc ls (.int i :: .ref a :: rest)) := by
  have hlt : i.toNatClampNeg < n := Nat.not_le.mp fun q => hin (Or.inr q)
  exact W.aald (v := .ref (qs i.toNatClampNeg)) (ty := .array .int) hx hb (hP q0 _ ha) ((hK.2 4 _ rfl).1 n (fun j => va_rf (gqf n qs j))) rfl (fun q => by cases q) (by show ¬ (i < 0 ∨ (arrV _ _ _).slots.size ≤ _); rw [arrV_size]; exact hin) (by show (arrV _ _ _).slots[_]? = _; rw [arrV_read _ _ hlt]; unfold gqf; rw [if_pos hlt]; rfl) rfl rfl hdg kk
end GX
def updG (v : Nat → Nat → Int32) (k : Nat) (f : Nat → Int32) : Nat → Nat → Int32 := fun j => if j = k then f else v j
