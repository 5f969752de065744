/-! law's cases about the text -/
theorem feR_le {t : Nat → Nat} {n : Nat} : ∀ (k s q : Nat), k ≤ n → feR t n k s = some q → q ≤ n
  | 0, s, q, _, h => by
    unfold feR at h
    split at h
    · cases h
    · cases h; exact Nat.le_refl _
  | k + 1, s, q, hk, h => by
    unfold feR at h
    split at h
    · cases h; exact Nat.sub_le _ _
    · exact feR_le k _ q (by omega) h
theorem readF_fe {t : Nat → Nat} {n : Nat} (S : Nat → Nat) : feR t n n 0 = (readF t n (n + 1) 0 S 0).1 := fe_readF (n + 1) 0 S 0 (by omega) (by omega)
theorem awI_n1 {t : Nat → Nat} {n q : Nat} (hn : n ≤ 100) (h : feR t n n 0 = some q) : ¬ awI (some q) = -1 := fun e => by
  have := feR_le n 0 q (Nat.le_refl _) h
  have e2 := congrArg Int32.toInt e
  rw [show awI (some q) = nI q from rfl, nI_toInt (by omega), show (-1 : Int32).toInt = -1 from rfl] at e2
  omega
theorem cp221 {v w : Nat → Int32} {post : (Nat → Int32) → Prop} (h : ∀ q, (∀ k, k < 221 → q k = v k) → post q) : P_X6_copyState 221 221 v w (0 : Int32) (0 : Int32) post :=
  x6_copy (o1 := 0) (o2 := 0) rfl rfl (by omega) (by omega) (by omega) (by omega) (fun q h1 _ => h q (fun k hk => by
    have := h1 k hk
    rw [Nat.zero_add] at this; exact this))
theorem h229 {xs : Nat → Int32} {L i : Nat} {g : GS} (hR : REL g) (hi : i + 5 ≤ L) (hL : L ≤ 2560) : P_Ls229 xs L g (nI i) REL := by
  obtain ⟨lc, po, pc, ps, tl, ts, bh, rc, brh, sl, sv, rf, sz, ac, ba, sp, ou, mt, nw, tr, di, ke, ik, a3⟩ := g
  obtain ⟨⟨S, ok, hC, hM⟩, ⟨o, n, PS, rfl, rfl, rfl, hn, hP, hD, hok⟩, hX, hS⟩ := hR
  unfold P_Ls229
  obtain ⟨m, t, rfl, rfl, hm, hX1, hX2⟩ := hX
  have hX : RText (nI m) ts (nI m) mt := ⟨m, t, rfl, rfl, hm, hX1, hX2⟩
  unfold P_X5_errorPosition P_X6_errorPosition
  refine x4_firstError hm hX1 (cp221 (fun q hq => x6_readAll hm hX2 (AgM_eq hM hq) ok (fun u r' _ => ?_)))
  rw [← readF_fe S]
  exact brT rfl (REL_mk (RLand_mk ok hC hM) ⟨o, n, PS, rfl, rfl, rfl, hn, hP, hD, hok⟩ hX hS)
theorem h830 {xs : Nat → Int32} {L i : Nat} {g : GS} (hR : REL g) (hi : i + 5 ≤ L) (hL : L ≤ 2560) : P_Ls830 xs L g (nI i) REL := by
  obtain ⟨lc, po, pc, ps, tl, ts, bh, rc, brh, sl, sv, rf, sz, ac, ba, sp, ou, mt, nw, tr, di, ke, ik, a3⟩ := g
  obtain ⟨⟨S, ok, hC, hM⟩, ⟨o, n, PS, rfl, rfl, rfl, hn, hP, hD, hok⟩, hX, hS⟩ := hR
  unfold P_Ls830 P_Ls830_b871
  obtain ⟨m, t, rfl, rfl, hm, hX1, hX2⟩ := hX
  have hX : RText (nI m) ts (nI m) mt := ⟨m, t, rfl, rfl, hm, hX1, hX2⟩
  unfold P_L_seeAll P_X5_seeAll P_X6_seeAll P_X6_seeAll_b31
  have E := readF_fe (t := t) (n := m) S
  have ok' := OK_readF (t := t) (n := m) (m + 1) 0 S 0 ok
  refine x4_firstError hm hX1 ?_
  cases e : feR t m m 0 with
  | none =>
    rw [e] at E
    refine brT rfl (x2_remember hC hn hP (fun o' st' hp => x4_noteIn hm hX1 hC ok E.symm (fun C' hc => ⟨in01, cp221 (fun q hq => x6_readAll hm hX2 (AgM_eq hM hq) ok (fun u r' hr => ?_))⟩)))
    rw [← E]
    refine brT rfl (x6_ok (brT rfl (x6_remember hM hn hD (fun d' hd => cp221 (fun w hw => ?_)))))
    exact (cmpY (a := a3) (REL_mk (RLand_mk ok' hc (AgM_eq hr hw)) (RPast_push hn hok ok hp hd) hX hS))
  | some q =>
    rw [e] at E
    have ne := awI_n1 hm e
    refine brF ne ⟨rfl, cp221 (fun q2 hq => x6_readAll hm hX2 (AgM_eq hM hq) ok (fun u r' hr => ?_))⟩
    rw [← E]
    exact brF ne (x6_no1 (brF f10 (cmpN f10 (REL_mk (RLand_mk ok hC hM) ⟨o, n, PS, rfl, rfl, rfl, hn, hP, hD, hok⟩ hX hS))))
