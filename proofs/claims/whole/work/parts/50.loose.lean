/-! the eight let a field go: the class -/
def trn (a b : Int) : Int := xAnd (xOr (xShl a b) (xShr a (8 - b))) 255
def pwS (am ab p : Int) : Int := xOr p (xAnd (if ab = 0 then xOr (trn p 1) (trn p 7) else xOr (xOr (trn p 1) (trn p 7)) (xOr (trn (xAnd p 85) 2) (trn (xAnd p 85) 6))) am)
def pwI (am ab : Int) : Nat → Int → Int
  | 0, p => p
  | n + 1, p => pwI am ab n (pwS am ab p)
theorem xAnd_R (a b : Int) : xR (xAnd a b) := ⟨Int32.le_toInt _, by have := Int32.toInt_lt (xI a &&& xI b); unfold xAnd; omega⟩
theorem xOr_R (a b : Int) : xR (xOr a b) := ⟨Int32.le_toInt _, by have := Int32.toInt_lt (xI a ||| xI b); unfold xOr; omega⟩
theorem pwI_R (am ab : Int) (n : Nat) (p : Int) (h : xR p) : xR (pwI am ab n p) := by
  induction n generalizing p with
  | zero => exact h
  | succ n ih => exact ih _ (xOr_R _ _)
theorem sx_partWith {σ : xSt} {Post : Int → Prop} {a am ab : Int} (hb : xR ab) (h : Post (pwI am ab 8 a)) : wp_X7_partWith a am ab σ Post := by
  unfold wp_X7_partWith
  intro k hk
  have key := lpU (P := fun x => 0 ≤ x → ∀ p, Post (pwI am ab (8 - x).toNat p) → k p x) 8 (fun x hx ih x0 p hp => ?_) 0 (by omega) (by omega) a (by rw [show ((8 : Int) - 0).toNat = 8 from by omega]; exact h)
  · exact key
  · refine hk p x ⟨by omega, fun c => ?_, fun c => ?_⟩
    · have ex : (8 - x).toNat = 0 := by omega
      rw [ex] at hp; exact hp
    · have ex : (8 - x).toNat = (8 - (x + 1)).toNat + 1 := by omega
      rw [ex] at hp
      have st := ih (x + 1) (by omega) (by omega) (by omega) (pwS am ab p) hp
      show ∀ k53 : Int → Prop, _
      intro k2 hk2
      refine ⟨hb, fun d => hk2 _ ?_, fun d => ?_⟩
      · intro z e; subst e
        rw [pwS, if_pos d] at st; exact st
      · show ∀ z5_51 : Int, _
        intro z e; subst e
        refine hk2 _ ?_
        intro z e; subst e
        rw [pwS, if_neg d] at st; exact st
def lG (m : Int) : Int :=
  if m = 0 then 0 else if xAnd (xAnd 255 (xXor m (-1))) 85 = 0 then 0 else
  if pwI m 1 8 (xAnd m (-m)) = m then (if xAnd (xAnd (xAnd 255 (xXor m (-1))) 85) (xXor (pwI (xAnd 255 (xXor m (-1))) 0 8 (xAnd (xAnd (xAnd 255 (xXor m (-1))) 85) (-(xAnd (xAnd 255 (xXor m (-1))) 85)))) (-1)) = 0 then 1 else 0) else 0
theorem sx_letGo {σ : xSt} {Post : Int → Prop} {m : Int} (hm : xR m) (h : Post (lG m)) : wp_X7_eightLetGo m σ Post := by
  unfold wp_X7_eightLetGo
  intro z e; subst e
  refine ⟨hm, fun c => ?_, fun c => ⟨xAnd_R _ _, fun d => sx_partWith (by omega) ?_, fun d => ?_⟩⟩
  · rw [lG, if_pos c] at h; exact h
  · intro k hk
    refine ⟨pwI_R _ _ _ _ (xAnd_R _ _), hm, fun e => hk 0 (sx_partWith (by omega) ⟨by omega, fun _ => ?_, fun q => absurd rfl q⟩), fun e => hk 1 (sx_partWith (by omega) ⟨by omega, fun q => absurd q (by omega), fun _ => ⟨xAnd_R _ _, fun q => ?_, fun q => ?_⟩⟩)⟩
    · rw [lG, if_neg c, if_neg d, if_neg e] at h; exact h
    · rw [lG, if_neg c, if_neg d, if_pos e, if_neg q] at h; exact h
    · rw [lG, if_neg c, if_neg d, if_pos e, if_pos q] at h; exact h
  · rw [lG, if_neg c, if_pos d] at h; exact h
/-! the reference looks about -/
def cw : Nat → Nat
  | 0 => 5 | 1 => 6 | 2 => 7 | 3 => 4 | 5 => 0 | 6 => 3 | 7 => 2 | _ => 1
theorem cw_ok : ∀ i : Nat, i < 9 → i ≠ 4 → cw i < 8 ∧ (i : Int) % 3 - 1 = xRt (cw i) ∧ (i : Int) / 3 - 1 = xUp (cw i) := by decide +kernel
def bt (m i : Nat) : Int := ((m / 2 ^ cw i % 2 : Nat) : Int)
theorem bt_01 (m i : Nat) : bt m i = 0 ∨ bt m i = 1 := by unfold bt; omega
def pc (m : Nat) : Int := sI (fun i => if i = 4 then 0 else bt m i) 9
theorem sm_look {σ : xSt} {Post : Int → xSt → Prop} (hG : GOk (σ 0 5) (σ 0 6) (σ 4)) {f : Int} (f0 : 0 ≤ f) (f1 : f < σ 0 5 * σ 0 6) {m : Nat} (hm : eB (σ 0 5) (σ 0 6) (σ 4) f m) (hp : ∀ s', eqx [10] σ s' → (∀ i : Nat, i < 9 → i ≠ 4 → s' 10 i = bt m i) → Post (pc m) s') : wp_X10_lookAbout f σ Post := by
  have hN1 := hG.N
  have hF := fxy hG.1 f0 f1
  obtain ⟨g1, g2, g3, g4, -⟩ := id hG
  unfold wp_X10_lookAbout
  intro k hk
  have key := lpU (P := fun x => 0 ≤ x → ∀ s : xSt, eqx [10] σ s → (∀ i : Nat, (i : Int) < x → i ≠ 4 → s 10 i = bt m i) → k (sI (fun i => if i = 4 then 0 else bt m i) x.toNat) x s) 9 (fun x hx ih x0 s qs hs => ?_) 0 (by omega) (by omega) σ (eqx_rf _ _) (fun i hi => absurd hi (by omega))
  · exact key
  · have s0 : s 0 = σ 0 := qs 0 (by decide)
    have s4 : s 4 = σ 4 := qs 4 (by decide)
    have gs : GOk (s 0 5) (s 0 6) (s 4) := by rw [s0, s4]; exact hG
    refine hk _ x s ?_
    rw [s0, tmod_e f0, tdiv_e f0, tmod_e x0, tdiv_e x0]
    refine ⟨by omega, fun c => ?_, fun c => ⟨by omega, by omega, by omega, by omega, by omega, by omega, by omega, by omega, by omega, by omega, by omega, by omega, sm_isOf gs (by omega) (by omega) ⟨by omega, aV_01 gs _ _, ?_⟩⟩⟩
    · have ex : x = 9 := by omega
      subst ex
      exact hp s qs (fun i hi => hs i (by omega))
    · intro t e; subst e
      have st := ih (x + 1) (by omega) (by omega) (by omega)
      rw [sI_s _ x0] at st
      refine ⟨by omega, fun d => ?_, fun d => ⟨by omega, ?_⟩⟩
      · have ex : x.toNat = 4 := by omega
        rw [ex] at st ⊢
        refine st _ (eqx_tr qs (eqx_up s _ (by simp))) (fun i hi i4 => ?_)
        rw [xU_i, if_neg i4]
        exact hs i (by omega) i4
      · rw [xU_s]
        have d4 : x.toNat ≠ 4 := by omega
        obtain ⟨w1, w2, w3⟩ := cw_ok x.toNat (by omega) d4
        have ex : ((x.toNat : Nat) : Int) = x := by omega
        rw [ex] at w2 w3
        have ev : aV (s 0 5) (s 0 6) (s 4) (f % σ 0 5 + x % 3 - 1) (f / σ 0 5 + x / 3 - 1) = bt m x.toNat := by
          rw [s0, s4, Int.add_sub_assoc, Int.add_sub_assoc, w2, w3]; exact hm.2 _ w1
        rw [ev]
        rw [if_neg d4] at st
        have nx : ∀ i : Nat, (i : Int) < x + 1 → i ≠ 4 → xU s 10 x.toNat (bt m x.toNat) 10 i = bt m i := by
          intro i hi i4
          rw [xU_i]
          by_cases ci : i = x.toNat
          · rw [if_pos ci, ci]
          · rw [if_neg ci]; exact hs i (by omega) i4
        have st2 := st _ (eqx_tr qs (eqx_up s (j := x.toNat) (bt m x.toNat) (by simp))) nx
        refine ⟨r01 (bt_01 _ _), fun q => ?_, fun q => ?_⟩
        · rw [q] at st2 ⊢; exact st2
        · rw [(bt_01 m x.toNat).resolve_left q] at st2 ⊢; exact st2
/-! the reference's groups, over lists -/
def adb (a : Int) (x y : Nat) : Bool := if a = 0 then ((x % 3 - y % 3) + (y % 3 - x % 3) + (x / 3 - y / 3) + (y / 3 - x / 3) == 1) else (x % 3 - y % 3 < 2 && y % 3 - x % 3 < 2 && x / 3 - y / 3 < 2 && y / 3 - x / 3 < 2)
abbrev ada (a : Int) (x y : Nat) : Prop := (a = 0 → xAbs ((x : Int) % 3 - (y : Int) % 3) + xAbs ((x : Int) / 3 - (y : Int) / 3) = 1) ∧ (a ≠ 0 → xAbs ((x : Int) % 3 - (y : Int) % 3) < 2 ∧ xAbs ((x : Int) / 3 - (y : Int) / 3) < 2)
theorem ad_0 : ∀ x : Nat, x < 9 → ∀ y : Nat, y < 9 → (adb 0 x y = true ↔ ada 0 x y) := by decide +kernel
theorem ad_1 : ∀ x : Nat, x < 9 → ∀ y : Nat, y < 9 → (adb 1 x y = true ↔ ada 1 x y) := by decide +kernel
def gst (a : Int) (x y : Nat) (L : List Int) : List Int :=
  if adb a x y then (if L.getD x 0 = -999 ∨ L.getD y 0 = -999 ∨ L.getD x 0 ≤ L.getD y 0 then L else L.set x (L.getD y 0)) else L
def gyl (a : Int) (x : Nat) : Nat → List Int → List Int
  | 0, L => L
  | n + 1, L => gyl a x n (gst a x (8 - n) L)
def gxl (a : Int) : Nat → List Int → List Int
  | 0, L => L
  | n + 1, L => gxl a n (gyl a (8 - n) 9 L)
def grl (a : Int) : Nat → List Int → List Int
  | 0, L => L
  | n + 1, L => grl a n (gxl a 9 L)
def g0 (a : Int) (m : Nat) : List Int := [if bt m 0 = a then 0 else -999, if bt m 1 = a then 1 else -999, if bt m 2 = a then 2 else -999, if bt m 3 = a then 3 else -999, -999, if bt m 5 = a then 5 else -999, if bt m 6 = a then 6 else -999, if bt m 7 = a then 7 else -999, if bt m 8 = a then 8 else -999]
def gct (a : Int) (L : List Int) (x : Nat) : Int := if L.getD x 0 = (x : Int) ∧ (a ≠ 0 ∨ L.getD 1 0 = (x : Int) ∨ L.getD 3 0 = (x : Int) ∨ L.getD 5 0 = (x : Int) ∨ L.getD 7 0 = (x : Int)) then 1 else 0
def gC (a : Int) (m : Nat) : Int := sI (gct a (grl a 9 (g0 a m))) 9
def grel (s : xSt) (L : List Int) : Prop := L.length = 9 ∧ ∀ i : Nat, i < 9 → s 11 i = L.getD i 0 ∧ -999 ≤ s 11 i ∧ s 11 i ≤ 8
theorem getD_set (L : List Int) (i j : Nat) (v : Int) (h : i < L.length) : (L.set i v).getD j 0 = if j = i then v else L.getD j 0 := by
  simp only [List.getD_eq_getElem?_getD, List.getElem?_set]
  by_cases c : i = j
  · subst c; simp [h]
  · simp [c, Ne.symm c]
theorem grel_1 {s : xSt} {L : List Int} (h : grel s L) {a : Int} {x y : Nat} (hx : x < 9) (hy : y < 9) (c : ¬ (adb a x y = true ∧ s 11 x ≠ -999 ∧ s 11 y ≠ -999 ∧ s 11 y < s 11 x)) : grel (xU s 11 x (s 11 x)) (gst a x y L) := by
  have e : gst a x y L = L := by
    unfold gst
    by_cases c1 : adb a x y = true
    · rw [if_pos c1, if_pos]
      rw [← (h.2 x hx).1, ← (h.2 y hy).1]
      by_cases c2 : s 11 x = -999
      · exact Or.inl c2
      · by_cases c3 : s 11 y = -999
        · exact Or.inr (Or.inl c3)
        · refine Or.inr (Or.inr ?_)
          have : ¬ s 11 y < s 11 x := fun q => c ⟨c1, c2, c3, q⟩
          omega
    · rw [if_neg c1]
  rw [e]
  refine ⟨h.1, fun i hi => ?_⟩
  rw [xU_i]
  by_cases ci : i = x
  · rw [if_pos ci, ci]; exact h.2 x hx
  · rw [if_neg ci]; exact h.2 i hi
theorem grel_2 {s : xSt} {L : List Int} (h : grel s L) {a : Int} {x y : Nat} (hx : x < 9) (hy : y < 9) (c1 : adb a x y = true) (c2 : s 11 x ≠ -999) (c3 : s 11 y ≠ -999) (c4 : s 11 y < s 11 x) : grel (xU s 11 x (s 11 y)) (gst a x y L) := by
  have e : gst a x y L = L.set x (s 11 y) := by
    unfold gst
    rw [if_pos c1, ← (h.2 x hx).1, ← (h.2 y hy).1, if_neg]
    rintro (q | q | q)
    · exact c2 q
    · exact c3 q
    · omega
  rw [e]
  refine ⟨by rw [List.length_set]; exact h.1, fun i hi => ?_⟩
  rw [xU_i, getD_set _ _ _ _ (by rw [h.1]; exact hx)]
  by_cases ci : i = x
  · rw [if_pos ci, if_pos ci]; exact ⟨rfl, (h.2 y hy).2⟩
  · rw [if_neg ci, if_neg ci]; exact h.2 i hi
