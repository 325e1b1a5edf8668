/-! stacks of corners -/
def sd (a b p : Int × Int) : Int := (b.1 - a.1) * (p.2 - a.2) - (b.2 - a.2) * (p.1 - a.1)
def pops (b : Nat) (p : Int × Int) : List (Int × Int) → List (Int × Int)
  | [] => []
  | [t] => [t]
  | t :: u :: r => if b ≤ r.length ∧ sd u t p ≤ 0 then pops b p (u :: r) else t :: u :: r
def psh (b : Nat) (p : Int × Int) (L : List (Int × Int)) : List (Int × Int) := p :: pops b p L
def sR (X Y : Nat → Int) : List (Int × Int) → Prop
  | [] => True
  | p :: L => X L.length = p.1 ∧ Y L.length = p.2 ∧ sR X Y L
theorem sR_c {X Y X' Y' : Nat → Int} {L : List (Int × Int)} (h : sR X Y L) (e : ∀ i, i < L.length → X' i = X i ∧ Y' i = Y i) : sR X' Y' L := by
  induction L with
  | nil => trivial
  | cons p L ih =>
    obtain ⟨h1, h2, h3⟩ := h
    have q := e L.length (by simp)
    exact ⟨by rw [q.1]; exact h1, by rw [q.2]; exact h2, ih h3 (fun i hi => e i (by simp <;> omega))⟩
theorem pops_len (b : Nat) (p : Int × Int) (L : List (Int × Int)) : (pops b p L).length ≤ L.length := by
  induction L with
  | nil => exact Nat.le_refl _
  | cons t L ih =>
    cases L with
    | nil => exact Nat.le_refl _
    | cons u r =>
      rw [pops]; split
      · exact Nat.le_trans ih (Nat.le_succ _)
      · exact Nat.le_refl _
theorem pops_mem {b : Nat} {p : Int × Int} {L : List (Int × Int)} {q : Int × Int} (h : q ∈ pops b p L) : q ∈ L := by
  induction L with
  | nil => exact h
  | cons t L ih =>
    cases L with
    | nil => exact h
    | cons u r =>
      rw [pops] at h; split at h
      · exact List.mem_cons_of_mem _ (ih h)
      · exact h
def pB (L : List (Int × Int)) : Prop := ∀ q ∈ L, 0 ≤ q.1 ∧ q.1 ≤ 11 ∧ 0 ≤ q.2 ∧ q.2 ≤ 11
theorem ab_bd {x y A B : Int} (h1 : -A ≤ x) (h2 : x ≤ A) (h3 : -B ≤ y) (h4 : y ≤ B) (hA : 0 ≤ A) (hB : 0 ≤ B) : -(A * B) ≤ x * y ∧ x * y ≤ A * B := by
  have b1 := xAbs_bd h1 h2
  have b2 := xAbs_bd h3 h4
  have m : xAbs x * xAbs y ≤ A * B := Int.mul_le_mul b1.2 b2.2 b2.1 hA
  have n : xAbs (x * y) = xAbs x * xAbs y := by
    have e : ∀ z : Int, xAbs z = (z.natAbs : Int) := by intro z; unfold xAbs; split <;> omega
    rw [e, e, e, Int.natAbs_mul]; simp
  have q : ∀ z : Int, -(xAbs z) ≤ z ∧ z ≤ xAbs z := by intro z; unfold xAbs; split <;> omega
  have qz := q (x * y)
  omega
theorem sd_bd {a b p : Int × Int} (ha : 0 ≤ a.1 ∧ a.1 ≤ 11 ∧ 0 ≤ a.2 ∧ a.2 ≤ 11) (hb : 0 ≤ b.1 ∧ b.1 ≤ 11 ∧ 0 ≤ b.2 ∧ b.2 ≤ 11) (hp : 0 ≤ p.1 ∧ p.1 ≤ 11 ∧ 0 ≤ p.2 ∧ p.2 ≤ 11) : xR (sd a b p) := by
  unfold sd
  have m1 := ab_bd (x := b.1 - a.1) (y := p.2 - a.2) (A := 11) (B := 11) (by omega) (by omega) (by omega) (by omega) (by omega) (by omega)
  have m2 := ab_bd (x := b.2 - a.2) (y := p.1 - a.1) (A := 11) (B := 11) (by omega) (by omega) (by omega) (by omega) (by omega) (by omega)
  omega
def cR (s : xSt) (L : List (Int × Int)) : Prop := s 15 2 = (L.length : Int) ∧ sR (s 16) (s 17) L
theorem sx_sideL {σ : xSt} {Post : Int → Prop} {u t p : Int × Int} {r : List (Int × Int)} (hr : r.length ≤ 22) (h : sR (σ 16) (σ 17) (t :: u :: r)) (hp : Post (sd u t p)) {i j : Int} (hi : i = (r.length : Int)) (hj : j = (r.length : Int) + 1) : wp_X3_side i j p.1 p.2 σ Post := by
  subst hi; subst hj
  obtain ⟨h1, h2, h3, h4, -⟩ := h
  have e0 : ((r.length : Int)).toNat = r.length := by omega
  have e1 : ((r.length : Int) + 1).toNat = (u :: r).length := by simp <;> omega
  unfold wp_X3_side
  rw [e0, e1, h1, h2, h3, h4]
  exact ⟨by omega, fun c => absurd c (by omega), fun _ => ⟨by omega, fun c => absurd c (by omega), fun _ => ⟨by omega, fun c => absurd c (by omega), fun _ => ⟨by omega, fun _ => ⟨by omega, by omega, by omega, by omega, by omega, by omega, hp⟩, fun c => absurd c (by omega)⟩⟩⟩⟩
theorem sx_add {σ : xSt} {Post : xSt → Prop} {b : Nat} {p : Int × Int} {L : List (Int × Int)} (hL : L.length ≤ 23) (hb : b ≤ 100) (hB : pB L) (hpB : 0 ≤ p.1 ∧ p.1 ≤ 11 ∧ 0 ≤ p.2 ∧ p.2 ≤ 11) (hc : cR σ L) (hp : ∀ s', eqx [15, 16, 17] σ s' → cR s' (psh b p L) → Post s') : wp_X3_add p.1 p.2 (b : Int) σ Post := by
  unfold wp_X3_add
  intro k hk
  have pu : ∀ (s : xSt) (Z : List (Int × Int)), Z.length ≤ 23 → eqx [15, 16, 17] σ s → cR s Z → (∀ s', eqx [15, 16, 17] σ s' → cR s' (p :: Z) → Post s') → (xR (s 15 2) ∧ (24 ≤ (s 15 2) → Post s) ∧ ((s 15 2) < 24 → (0 ≤ (s 15 2) ∧ (s 15 2) < (24 : Nat)) ∧ ∀ σ_62 : xSt, σ_62 = xU s 16 (((s 15 2)).toNat) p.1 → (0 ≤ (σ_62 15 2) ∧ (σ_62 15 2) < (24 : Nat)) ∧ ∀ σ_72 : xSt, σ_72 = xU σ_62 17 (((σ_62 15 2)).toNat) p.2 → ∀ σ_80 : xSt, σ_80 = xU σ_72 15 2 ((σ_72 15 2) + 1) → Post σ_80)) := by
    intro s Z hZ qs hs nx
    obtain ⟨c1, c2⟩ := hs
    refine ⟨by omega, fun q => absurd q (by omega), fun q => ⟨by omega, fun s1 e1 => ?_⟩⟩
    have a1 : s1 15 2 = s 15 2 := by rw [e1]; rfl
    refine ⟨by omega, fun s2 e2 s3 e3 => ?_⟩
    have a2 : s2 15 2 = s 15 2 := by rw [e2]; exact a1
    have eZ : (s 15 2).toNat = Z.length := by omega
    rw [a1, eZ] at e2
    rw [eZ] at e1
    rw [a2, c1] at e3
    subst e3; subst e2; subst e1
    refine nx _ (eqx_tr (eqx_tr (eqx_tr qs (eqx_up s _ (by simp))) (eqx_up _ _ (by simp))) (eqx_up _ _ (by simp))) ⟨?_, ?_, ?_, ?_⟩
    · rw [xU_s]; simp
    · show xU s 16 Z.length p.1 16 Z.length = p.1
      rw [xU_s]
    · show xU s 17 Z.length p.2 17 Z.length = p.2
      rw [xU_s]
    · refine sR_c c2 (fun i hi => ⟨?_, ?_⟩)
      · show xU s 16 Z.length p.1 16 i = s 16 i
        rw [xU_j _ _ _ (by omega)]
      · show xU s 17 Z.length p.2 17 i = s 17 i
        rw [xU_j _ _ _ (by omega)]
  suffices go : ∀ (L : List (Int × Int)) (s : xSt), L.length ≤ 23 → pB L → eqx [15, 16, 17] σ s → cR s L → (∀ s', eqx [15, 16, 17] σ s' → cR s' (psh b p L) → Post s') → k s from go L σ hL hB (eqx_rf _ _) hc hp
  intro L
  induction L with
  | nil =>
    intro s hl hB qs hs nx
    have c1 : s 15 2 = 0 := hs.1
    refine hk s ?_
    intro k2 hk2
    have hk3 := hk2 (pu s [] hl qs hs nx)
    rw [c1]
    exact ⟨by omega, fun _ => hk3, fun q => absurd q (by omega)⟩
  | cons t L ih =>
    intro s hl hB qs hs nx
    cases L with
    | nil =>
      have c1 : s 15 2 = 1 := hs.1
      refine hk s ?_
      intro k2 hk2
      have hk3 := hk2 (pu s [t] hl qs hs nx)
      rw [c1]
      exact ⟨by omega, fun _ => hk3, fun q => absurd q (by omega)⟩
    | cons u r =>
      have c1 : s 15 2 = (r.length : Int) + 2 := by rw [hs.1]; simp; omega
      simp only [List.length_cons] at hl
      refine hk s ?_
      intro k2 hk2
      have bu := hB u (by simp)
      have bt := hB t (by simp)
      have sb := sd_bd bu bt hpB
      by_cases cc : b ≤ r.length ∧ sd u t p ≤ 0
      · rw [psh, pops, if_pos cc] at nx
        refine ⟨by omega, fun q => absurd q (by omega), fun _ => sx_sideL (r := r) (u := u) (t := t) (p := p) (by omega) hs.2 ⟨sb, fun q => absurd cc.2 (by omega), fun _ => ?_⟩ (by omega) (by omega)⟩
        intro s' e'; subst e'
        refine ih _ (by simp <;> omega) (fun q hq => hB q (List.mem_cons_of_mem _ hq)) (eqx_tr qs (eqx_up s _ (by simp))) ⟨?_, ?_⟩ nx
        · rw [xU_s, c1]; simp; omega
        · exact hs.2.2.2
      · have hk3 := hk2 (pu s (t :: u :: r) (by simp <;> omega) qs hs (by rw [psh, pops, if_neg cc] at nx; exact nx))
        refine ⟨by omega, fun _ => hk3, fun q => sx_sideL (r := r) (u := u) (t := t) (p := p) (by omega) hs.2 ⟨sb, fun _ => hk3, fun q2 => absurd ⟨by omega, q2⟩ cc⟩ (by omega) (by omega)⟩
/-! the reference's stack -/
def mR (w h : Int) (H : Nat → Int) : List (Int × Int) → Prop
  | [] => True
  | p :: L => H L.length = p.2 * w + p.1 ∧ (0 ≤ p.1 ∧ p.1 < w ∧ 0 ≤ p.2 ∧ p.2 < h) ∧ mR w h H L
theorem mR_c {w h : Int} {H H' : Nat → Int} {L : List (Int × Int)} (hm : mR w h H L) (e : ∀ i, i < L.length → H' i = H i) : mR w h H' L := by
  induction L with
  | nil => trivial
  | cons p L ih =>
    obtain ⟨h1, h2, h3⟩ := hm
    exact ⟨by rw [e L.length (by simp)]; exact h1, h2, ih h3 (fun i hi => e i (by simp <;> omega))⟩
theorem sm_side {σ : xSt} {Post : Int → Prop} (hG : GOk (σ 0 5) (σ 0 6) (σ 4)) {a b p : Int × Int} (ha : 0 ≤ a.1 ∧ a.1 < σ 0 5 ∧ 0 ≤ a.2 ∧ a.2 < σ 0 6) (hb : 0 ≤ b.1 ∧ b.1 < σ 0 5 ∧ 0 ≤ b.2 ∧ b.2 < σ 0 6) (hp : 0 ≤ p.1 ∧ p.1 < σ 0 5 ∧ 0 ≤ p.2 ∧ p.2 < σ 0 6) {fa fb fp : Int} (ea : fa = a.2 * σ 0 5 + a.1) (eb : fb = b.2 * σ 0 5 + b.1) (ep : fp = p.2 * σ 0 5 + p.1) (h : Post (sd a b p)) : wp_X10_side fa fb fp σ Post := by
  have hN1 := hG.N
  obtain ⟨g1, g2, g3, g4, -⟩ := id hG
  have qa := fN (w := σ 0 5) (h := σ 0 6) g1 ha.1 ha.2.1 ha.2.2.1 ha.2.2.2
  have qb := fN (w := σ 0 5) (h := σ 0 6) g1 hb.1 hb.2.1 hb.2.2.1 hb.2.2.2
  have qp := fN (w := σ 0 5) (h := σ 0 6) g1 hp.1 hp.2.1 hp.2.2.1 hp.2.2.2
  rw [← ea] at qa
  rw [← eb] at qb
  rw [← ep] at qp
  unfold wp_X10_side
  rw [tmod_e qa.1, tdiv_e qa.1, tmod_e qb.1, tdiv_e qb.1, tmod_e qp.1, tdiv_e qp.1, qa.2.2.1, qa.2.2.2, qb.2.2.1, qb.2.2.2, qp.2.2.1, qp.2.2.2]
  refine ⟨by omega, by omega, by omega, by omega, by omega, by omega, by omega, by omega, by omega, by omega, by omega, by omega, by omega, by omega, by omega, by omega, by omega, by omega, by omega, by omega, by omega, by omega, by omega, by omega, h⟩
theorem sm_lay {σ : xSt} {Post : Int → xSt → Prop} (hG : GOk (σ 0 5) (σ 0 6) (σ 4)) {b : Nat} {p : Int × Int} {L : List (Int × Int)} (hL : L.length ≤ 200) (hb : b ≤ 200) (hpB : 0 ≤ p.1 ∧ p.1 < σ 0 5 ∧ 0 ≤ p.2 ∧ p.2 < σ 0 6) (hm : mR (σ 0 5) (σ 0 6) (σ 9) L) {f n kp : Int} (hf : f = p.2 * σ 0 5 + p.1) (hn : n = (L.length : Int)) (hkp : kp = (b : Int) + 1) (hp : ∀ s', eqx [9] σ s' → mR (σ 0 5) (σ 0 6) (s' 9) (psh b p L) → Post ((psh b p L).length : Int) s') : wp_X10_lay n kp f σ Post := by
  obtain ⟨g1, g2, g3, g4, -⟩ := id hG
  subst hn; subst hkp
  unfold wp_X10_lay
  intro k hk
  suffices go : ∀ L : List (Int × Int), L.length ≤ 200 → mR (σ 0 5) (σ 0 6) (σ 9) L → (∀ s', eqx [9] σ s' → mR (σ 0 5) (σ 0 6) (s' 9) (psh b p L) → Post ((psh b p L).length : Int) s') → k (L.length : Int) from go L hL hm hp
  have pu : ∀ Z : List (Int × Int), Z.length ≤ 200 → mR (σ 0 5) (σ 0 6) (σ 9) Z → (∀ s', eqx [9] σ s' → mR (σ 0 5) (σ 0 6) (s' 9) (p :: Z) → Post ((p :: Z).length : Int) s') → ((0 ≤ (Z.length : Int) ∧ (Z.length : Int) < (300 : Nat)) ∧ ∀ σ_48 : xSt, σ_48 = xU σ 9 (((Z.length : Int)).toNat) f → Post ((Z.length : Int) + 1) σ_48) := by
    intro Z hZ hs nx
    refine ⟨by omega, fun s e => ?_⟩
    have eZ : ((Z.length : Int)).toNat = Z.length := by omega
    rw [eZ] at e
    subst e
    refine nx _ (eqx_up σ _ (by simp)) ⟨?_, hpB, mR_c hs (fun i hi => ?_)⟩
    · rw [xU_s]; exact hf
    · rw [xU_j _ _ _ (by omega)]
  intro L
  induction L with
  | nil =>
    intro hl hs nx
    refine hk _ ?_
    intro k2 hk2
    have hk3 := hk2 (pu [] hl hs nx)
    refine ⟨by simp <;> omega, by omega, fun _ => hk3, fun q => absurd q (by simp <;> omega)⟩
  | cons t L ih =>
    intro hl hs nx
    cases L with
    | nil =>
      refine hk _ ?_
      intro k2 hk2
      have hk3 := hk2 (pu [t] hl hs nx)
      refine ⟨by simp <;> omega, by omega, fun _ => hk3, fun q => absurd q (by simp <;> omega)⟩
    | cons u r =>
      have el : ((t :: u :: r).length : Int) = (r.length : Int) + 2 := by simp <;> omega
      have el1 : ((u :: r).length : Int) = (r.length : Int) + 1 := by simp
      simp only [List.length_cons] at hl
      refine hk _ ?_
      intro k2 hk2
      obtain ⟨h1, h2, h3, h4, h5⟩ := hs
      have e0 : ((r.length : Int) + 2 - 2).toNat = r.length := by omega
      have e1 : ((r.length : Int) + 2 - 1).toNat = (u :: r).length := by simp <;> omega
      have sb := sd_bd (a := u) (b := t) (p := p) (by omega) (by omega) (by omega)
      by_cases cc : b ≤ r.length ∧ sd u t p ≤ 0
      · rw [psh, pops, if_pos cc] at nx
        have kk := ih (by simp <;> omega) ⟨h3, h4, h5⟩ nx
        rw [el1] at kk
        rw [el, e0, e1, h1, h3]
        refine ⟨by omega, by omega, fun q => absurd q (by omega), fun _ => ⟨by omega, by omega, sm_side hG h4 h2 hpB rfl rfl hf ⟨sb, fun q => absurd cc.2 (by omega), fun _ => ?_⟩⟩⟩
        have e3 : (r.length : Int) + 2 + -1 = (r.length : Int) + 1 := by omega
        rw [e3]; exact kk
      · have hk3 := hk2 (pu (t :: u :: r) (by simp <;> omega) ⟨h1, h2, h3, h4, h5⟩ (by rw [psh, pops, if_neg cc] at nx; exact nx))
        rw [el, e0, e1, h1, h3]
        exact ⟨by omega, by omega, fun _ => hk3, fun q => ⟨by omega, by omega, sm_side hG h4 h2 hpB rfl rfl hf ⟨sb, fun _ => hk3, fun q2 => absurd ⟨by omega, q2⟩ cc⟩⟩⟩
