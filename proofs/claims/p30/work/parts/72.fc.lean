/-! what a report of one trait does not touch -/
theorem GSol_lnc {N : Nat} {bd bd' : Nat → Nat} {ln ln' : Nat → Nat → Nat} {ex : Nat → Bool} {y0 y1 Y : Nat → Nat} (h : GSol N bd ln ex y0 Y) (hy : ∀ t, t < N → y0 t = y1 t) (hb : ∀ t, t < N → bd t = bd' t) (hl : ∀ a b, a < N → b < N → ln a b = ln' a b) : GSol N bd' ln' ex y1 Y := by
  have sub : ∀ z, Sub N bd' ln' ex y1 z ↔ Sub N bd ln ex y0 z := fun z => by
    constructor
    · intro q
      exact ⟨fun t ht => by rw [hy t ht]; exact q.1 t ht, fun a b ha hb' hl' he => by rw [hl a b ha hb', hb b hb']; exact q.2 a b ha hb' (by rw [← hl a b ha hb']; exact hl') he⟩
    · intro q
      exact ⟨fun t ht => by rw [← hy t ht]; exact q.1 t ht, fun a b ha hb' hl' he => by rw [← hl a b ha hb', ← hb b hb']; exact q.2 a b ha hb' (by rw [hl a b ha hb']; exact hl') he⟩
  exact ⟨(sub Y).mpr h.1, fun z hz => h.2 z ((sub z).mp hz)⟩
theorem FL_congr {S S' : Nat → Nat} {x : Nat} (hT : S 0 ≤ 10) (h0 : S' 0 = S 0) (hr : ∀ a b, a < 10 → b < 10 → rd S' a b = rd S a b) (hh : ∀ t, t < 10 → hd S' t x = hd S t x) (hn : ∀ t, t < 10 → nt S' t x = nt S t x) : FL S' x = FL S x := by
  have hE : EX S' x = EX S x := funext fun s => by
    have g := gs_sol S' x exN (ini S' x s 100000)
    rw [h0] at g
    have i0 : ∀ t, t < S 0 → ini S' x s 100000 t = ini S x s 100000 t := fun t ht => by
      unfold ini bdS; rw [hn t (by omega)]
    have g' := GSol_lnc (bd' := bdS S x) (ln' := rd S) g i0 (fun t ht => hn t (by omega)) (fun a b ha hb => hr a b (by omega) (by omega))
    have u := GSol_uniq g' (gs_sol S x exN (ini S x s 100000))
    unfold EX inT
    rw [h0]
    exact allB_congr (fun t ht => by rw [u t ht, hh t (by omega)])
  have hH : hasH S' x = hasH S x := by
    unfold hasH
    rw [h0]
    exact allB_congr (fun t ht => by
      show (!decide (0 < hd S' t x ∧ hd S' t x ≤ nt S' t x)) = (!decide (0 < hd S t x ∧ hd S t x ≤ nt S t x))
      rw [hh t (by omega), hn t (by omega)])
  unfold FL
  rw [hE, hH, h0]
theorem FL_drop {S : Nat → Nat} {t x k : Nat} (hT : S 0 ≤ 10) (ht : t < 10) (hx : x < 6) (hk : k < 6) (hne : k ≠ x) : FL (dropS S t x) k = FL S k := by
  have e : ∀ j, j ≠ 101 + 6 * t + x → j ≠ 161 + 6 * t + x → dropS S t x j = S j := fun j h1 h2 => by unfold dropS; rw [setS_ne h2, setS_ne h1]
  exact FL_congr hT (e 0 (by omega) (by omega)) (fun a b ha hb => e _ (by omega) (by omega)) (fun u hu => e _ (by omega) (by omega)) (fun u hu => e _ (by omega) (by omega))
theorem allN_drop {S : Nat → Nat} {t x : Nat} (hT : S 0 ≤ 10) (ht : t < 10) (hx : x < 6) : allN (dropS S t x) + feN (FL S x) = allN S + feN (FL (dropS S t x) x) :=
  sumTo_upd (n := 6) (f := fun k => feN (FL S k)) (g := fun k => feN (FL (dropS S t x) k)) (fun k hk hn => by
    show feN (FL (dropS S t x) k) = feN (FL S k)
    rw [FL_drop hT ht hx hk hn]) hx
