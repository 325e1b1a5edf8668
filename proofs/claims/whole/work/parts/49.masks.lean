/-! the eight about a field as a mask -/
theorem or_1 : ∀ w : Fin 8, ∀ m : Fin 256, m.val < 2 ^ w.val → xOr (m.val : Int) (xShl 1 (w.val : Int)) = ((m.val + 2 ^ w.val : Nat) : Int) := by decide +kernel
theorem or_2 : ∀ w : Fin 8, ∀ m : Fin 256, m.val < 2 ^ w.val → ∀ j : Fin 8, j.val < w.val → (m.val + 2 ^ w.val) / 2 ^ j.val % 2 = m.val / 2 ^ j.val % 2 := by decide +kernel
theorem or_3 : ∀ w : Fin 8, ∀ m : Fin 256, m.val < 2 ^ w.val → (m.val + 2 ^ w.val) / 2 ^ w.val % 2 = 1 ∧ m.val / 2 ^ w.val % 2 = 0 := by decide +kernel
theorem pw_8 {w : Nat} (h : w < 8) : 2 ^ w ≤ 128 ∧ 2 ^ (w + 1) = 2 * 2 ^ w := by
  refine ⟨?_, by rw [Nat.pow_succ, Nat.mul_comm]⟩
  have : (2 : Nat) ^ w ≤ 2 ^ 7 := Nat.pow_le_pow_right (by omega) (by omega)
  omega
def eB (w h : Int) (p : Nat → Int) (f : Int) (m : Nat) : Prop := m < 256 ∧ ∀ j : Nat, j < 8 → aV w h p (f % w + xRt j) (f / w + xUp j) = ((m / 2 ^ j % 2 : Nat) : Int)
theorem sx_eight {σ : xSt} {Post : Int → Prop} (hG : GOk (σ 7 1) (σ 7 2) (σ 8)) {f : Int} (f0 : 0 ≤ f) (f1 : f < σ 7 1 * σ 7 2) (hp : ∀ m : Nat, eB (σ 7 1) (σ 7 2) (σ 8) f m → Post (m : Int)) : wp_X2_eightAbout f σ Post := by
  have hN1 := hG.N
  have hF := fxy hG.1 f0 f1
  obtain ⟨g1, g2, g3, g4, -⟩ := id hG
  unfold wp_X2_eightAbout
  refine sx_col hG (by omega) f0 (sx_line hG (by omega) f0 ?_)
  intro k hk
  have key := lpU (P := fun x => 0 ≤ x → ∀ m : Nat, m < 2 ^ x.toNat → (∀ j : Nat, (j : Int) < x → aV (σ 7 1) (σ 7 2) (σ 8) (f % σ 7 1 + xRt j) (f / σ 7 1 + xUp j) = ((m / 2 ^ j % 2 : Nat) : Int)) → k (m : Int) x) 8 (fun x hx ih x0 m hm hb => ?_) 0 (by omega) (by omega) 0 (by decide) (fun j hj => absurd hj (by omega))
  · exact key
  · refine hk _ x ⟨by omega, fun c => ?_, fun c => ⟨by omega, by omega, ?_⟩⟩
    · have ex : x = 8 := by omega
      subst ex
      exact hp m ⟨hm, fun j hj => hb j (by omega)⟩
    · have ew : x.toNat < 8 := by omega
      have p8 := pw_8 ew
      have q1 := xRt_bd x.toNat
      have q2 := xUp_bd x.toNat
      have o1 := or_1 ⟨x.toNat, ew⟩ ⟨m, by omega⟩ hm
      have o3 := or_3 ⟨x.toNat, ew⟩ ⟨m, by omega⟩ hm
      have o2 := fun (j : Nat) (hj : j < x.toNat) => or_2 ⟨x.toNat, ew⟩ ⟨m, by omega⟩ hm ⟨j, by omega⟩ hj
      have ex : ((x.toNat : Nat) : Int) = x := by omega
      have e1 : (x + 1).toNat = x.toNat + 1 := by omega
      simp only [ex] at o1 o2 o3
      refine sx_holdsAt hG (by omega) (by omega) ⟨r01 (aV_01 hG _ _), fun d => ?_, fun d => ?_⟩
      · refine ih (x + 1) (by omega) (by omega) (by omega) m (by rw [e1]; omega) (fun j hj => ?_)
        by_cases cj : (j : Int) < x
        · exact hb j cj
        · have ej : j = x.toNat := by omega
          rw [ej, d, o3.2]; rfl
      · have d1 := (aV_01 hG _ _).resolve_left d
        intro z ez
        rw [o1] at ez
        subst ez
        refine ih (x + 1) (by omega) (by omega) (by omega) _ (by rw [e1]; omega) (fun j hj => ?_)
        by_cases cj : (j : Int) < x
        · rw [o2 j (by omega)]; exact hb j cj
        · have ej : j = x.toNat := by omega
          rw [ej, d1, o3.1]; rfl
def bc (a0 : Int) : Int :=
  let a := a0 - (xAnd (xUshr a0 1) 1431655765)
  let b := (xAnd a 858993459) + (xAnd (xUshr a 2) 858993459)
  let c := xAnd (b + (xUshr b 4)) 252645135
  let d := c + (xUshr c 8)
  let e := d + (xUshr d 16)
  xAnd e 63
theorem sx_bc {σ : xSt} {Post : Int → Prop} {a : Int} (h : Post (bc a)) : wp_J6_bitCount_0f7a4 a σ Post := by
  intro z1 e1 z2 e2 z3 e3 z4 e4 z5 e5
  subst e1; subst e2; subst e3; subst e4; subst e5
  exact h
theorem bc_85 : ∀ m : Fin 256, bc (xAnd (m.val : Int) 85) = ((m.val % 2 + m.val / 4 % 2 + m.val / 16 % 2 + m.val / 64 % 2 : Nat) : Int) := by decide +kernel
/-! rims -/
def rM (w h : Int) (p : Nat → Int) (f : Nat) : Int := if p f = 0 then 0 else 4 - (aV w h p ((f : Int) % w + 1) ((f : Int) / w) + aV w h p ((f : Int) % w) ((f : Int) / w + 1) + aV w h p ((f : Int) % w - 1) ((f : Int) / w) + aV w h p ((f : Int) % w) ((f : Int) / w - 1))
theorem sx_rims {σ : xSt} {Post : Int → Prop} (hG : GOk (σ 7 1) (σ 7 2) (σ 8)) {N : Nat} (hN : (N : Int) = σ 7 1 * σ 7 2) (hp : Post (sI (rM (σ 7 1) (σ 7 2) (σ 8)) N)) : wp_X2_rims σ Post := by
  have hN1 := hG.N
  unfold wp_X2_rims
  intro k hk
  have key := lpU (P := fun x => 0 ≤ x → k (sI (rM (σ 7 1) (σ 7 2) (σ 8)) x.toNat) x) (N : Int) (fun x hx ih x0 => ?_) 0 (by omega) (by omega)
  · exact key
  · refine hk _ x (sx_fields ?_)
    rw [← hN]
    refine ⟨by omega, by omega, fun c => ?_, fun c => sx_holds hG (by omega) ?_⟩
    · have ex : x.toNat = N := by omega
      rw [ex]; exact hp
    · rw [hV_in x0 (by omega)]
      have ex : ((x.toNat : Nat) : Int) = x := by omega
      have st := ih (x + 1) (by omega) (by omega) (by omega)
      rw [sI_s _ x0] at st
      refine ⟨r01 (hG.2.2.2.2 _), fun d => ?_, fun d => sx_eight hG x0 (by omega) (fun m hm => sx_bc ?_)⟩
      · rw [rM, if_pos d, Int.add_zero] at st; exact st
      · have b0 := hm.2 0 (by omega)
        have b2 := hm.2 2 (by omega)
        have b4 := hm.2 4 (by omega)
        have b6 := hm.2 6 (by omega)
        rw [show xRt 0 = 1 from rfl, show xUp 0 = 0 from rfl, Int.add_zero] at b0
        rw [show xRt 2 = 0 from rfl, show xUp 2 = 1 from rfl, Int.add_zero] at b2
        rw [show xRt 4 = -1 from rfl, show xUp 4 = 0 from rfl, Int.add_zero] at b4
        rw [show xRt 6 = 0 from rfl, show xUp 6 = -1 from rfl, Int.add_zero] at b6
        have hb := bc_85 ⟨m, hm.1⟩
        simp only at hb
        rw [hb]
        rw [rM, if_neg d, ex, b0, b2, Int.sub_eq_add_neg (a := x % σ 7 1) (b := 1), b4, Int.sub_eq_add_neg (a := x / σ 7 1) (b := 1), b6] at st
        have e : (4 : Int) - ((m % 2 + m / 4 % 2 + m / 16 % 2 + m / 64 % 2 : Nat) : Int) = 4 - (((m / 2 ^ 0 % 2 : Nat) : Int) + ((m / 2 ^ 2 % 2 : Nat) : Int) + ((m / 2 ^ 4 % 2 : Nat) : Int) + ((m / 2 ^ 6 % 2 : Nat) : Int)) := by simp
        rw [e]; exact st
theorem sm_rims {σ : xSt} {Post : Int → Prop} (hG : GOk (σ 0 5) (σ 0 6) (σ 4)) {N : Nat} (hN : (N : Int) = σ 0 5 * σ 0 6) (hp : Post (sI (rM (σ 0 5) (σ 0 6) (σ 4)) N)) : wp_X10_rims σ Post := by
  have hN1 := hG.N
  obtain ⟨g1, g2, g3, g4, -⟩ := id hG
  unfold wp_X10_rims
  intro k hk
  have key := lpU (P := fun x => 0 ≤ x → k (sI (rM (σ 0 5) (σ 0 6) (σ 4)) x.toNat) x) (N : Int) (fun x hx ih x0 => ?_) 0 (by omega) (by omega)
  · exact key
  · refine hk _ x (sm_fields ?_)
    rw [← hN]
    refine ⟨by omega, by omega, fun c => ?_, fun c => ?_⟩
    · have ex : x.toNat = N := by omega
      rw [ex]; exact hp
    · have ex : ((x.toNat : Nat) : Int) = x := by omega
      have hF := fxy (w := σ 0 5) (h := σ 0 6) hG.1 x0 (by omega)
      have st := ih (x + 1) (by omega) (by omega) (by omega)
      rw [sI_s _ x0] at st
      refine ⟨by omega, by omega, by omega, by omega, by omega, by omega, ?_⟩
      intro k2 hk2
      rw [tmod_e x0, tdiv_e x0] at hk2
      by_cases d : σ 4 x.toNat = 0
      · rw [rM, if_pos d, Int.add_zero] at st
        exact hk2 _ 0 ⟨by omega, fun q => absurd q (by omega), fun _ => ⟨by omega, r01 (hG.2.2.2.2 _), fun _ => st, fun q => absurd d q⟩⟩
      · have one : ∀ (j : Int) (dx dy : Int), 0 ≤ j → j < 8 → xRt j.toNat = dx → xUp j.toNat = dy → ∀ v : Int, k2 (v + (1 - aV (σ 0 5) (σ 0 6) (σ 4) (x % σ 0 5 + dx) (x / σ 0 5 + dy))) (j + 2) → k2 v j := by
          intro j dx dy j0 j1 ex1 ey1 v hv
          refine hk2 v j ⟨by omega, fun q => absurd q (by omega), fun _ => ⟨by omega, r01 (hG.2.2.2.2 _), fun q => absurd q d, fun _ => sm_stepX j0 j1 (sm_stepY j0 j1 ?_)⟩⟩
          have q1 := xRt_bd j.toNat
          have q2 := xUp_bd j.toNat
          rw [ex1, ey1] at *
          refine sm_isOf hG (by omega) (by omega) ⟨r01 (aV_01 hG _ _), fun q => ?_, fun q => ?_⟩
          · rw [q] at hv; exact hv
          · rw [(aV_01 hG _ _).resolve_left q] at hv; exact hv
        refine one 0 1 0 (by omega) (by omega) rfl rfl _ (one 2 0 1 (by omega) (by omega) rfl rfl _ (one 4 (-1) 0 (by omega) (by omega) rfl rfl _ (one 6 0 (-1) (by omega) (by omega) rfl rfl _ ?_)))
        refine hk2 _ 8 ⟨by omega, fun _ => ?_, fun q => absurd q (by omega)⟩
        rw [rM, if_neg d, ex] at st
        rw [Int.add_zero, Int.add_zero]
        have e : ∀ s a b c d : Int, s + (4 - (a + b + c + d)) = s + (1 - a) + (1 - b) + (1 - c) + (1 - d) := by intros; omega
        rw [e] at st
        exact st
