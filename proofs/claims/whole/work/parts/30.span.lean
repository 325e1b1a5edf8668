/-! fractions told in least terms -/
theorem gI_step {g l : Int} (h0 : 0 ≤ g) (h1 : 0 < l) : gI l (g % l) = gI g l := by
  obtain ⟨G, rfl⟩ := Int.eq_ofNat_of_zero_le h0
  obtain ⟨L, rfl⟩ := Int.eq_ofNat_of_zero_le (Int.le_of_lt h1)
  unfold gI
  rw [← Int.natCast_emod, Int.natAbs_natCast, Int.natAbs_natCast, Int.natAbs_natCast]
  congr 1
  rw [Nat.gcd_comm L (G % L), ← Nat.gcd_rec, Nat.gcd_comm]
theorem gI_0 {g : Int} (h0 : 0 ≤ g) : gI g 0 = g := by
  unfold gI; simp; omega
theorem gI_abs (a b : Int) : gI (xAbs a) b = gI a b := by
  have e : (xAbs a).natAbs = a.natAbs := by unfold xAbs; split <;> omega
  unfold gI; rw [e]
theorem gI_pos (a : Int) {b : Int} (hb : 0 < b) : 0 < gI a b := by
  unfold gI
  have := Nat.gcd_pos_of_pos_right a.natAbs (show 0 < b.natAbs by omega)
  omega
theorem gI_le (a : Int) {b : Int} (hb : 0 < b) : gI a b ≤ b := by
  unfold gI
  have := Nat.gcd_le_right a.natAbs (show 0 < b.natAbs by omega)
  omega
theorem gI_da (a b : Int) : gI a b ∣ a := by
  unfold gI
  exact Int.ofNat_dvd_left.mpr (Nat.gcd_dvd_left _ _)
theorem gI_db (a b : Int) : gI a b ∣ b := by
  unfold gI
  exact Int.ofNat_dvd_left.mpr (Nat.gcd_dvd_right _ _)
theorem sx_gcd {σ : xSt} {Post : Int → Prop} {a b : Int} (h0 : 0 ≤ a) (h1 : a ≤ 61) (h2 : 0 ≤ b) (h3 : b ≤ 61) (h : Post (gI a b)) : wp_X5_commonDivisor a b σ Post := by
  unfold wp_X5_commonDivisor
  intro k hk
  have key := lpU (P := fun t => 0 ≤ t → ∀ g l : Int, 0 ≤ g → g ≤ 61 → 0 ≤ l → l + t ≤ 61 → gI g l = gI a b → k g l t) 61 (fun t ht ih t0 g l g0 g1 l0 l1 hg => ?_) 0 (by omega) (by omega) a b h0 h1 h2 (by omega) rfl
  · exact key
  · refine hk g l t ⟨by omega, fun c => absurd c (by omega), fun c => ⟨by omega, fun c2 => ?_, fun c2 => ⟨by omega, by omega, c2, ?_⟩⟩⟩
    · rw [c2, gI_0 g0] at hg
      rw [hg]; exact h
    · rw [tmod_e g0]
      have m1 := Int.emod_nonneg g c2
      have m2 := Int.emod_lt_of_pos g (show 0 < l by omega)
      by_cases ct : t = 61
      · omega
      · exact ih (t + 1) (by omega) (by omega) (by omega) l (g % l) l0 (by omega) m1 (by omega) (by rw [gI_step g0 (by omega)]; exact hg)
theorem sx_least {σ : xSt} {Post : Int → Prop} {a b u : Int} (h0 : -61 ≤ a) (h1 : a ≤ 61) (h2 : 1 ≤ b) (h3 : b ≤ 61) (hu : xR u) (g0 : u = 0 → Post (b / gI a b)) (g1 : u ≠ 0 → Post (a / gI a b)) : wp_X5_inLeastTerms a b u σ Post := by
  have p := gI_pos a (show 0 < b by omega)
  have q := gI_le a (show 0 < b by omega)
  unfold wp_X5_inLeastTerms
  refine ⟨by omega, sx_gcd (by unfold xAbs; split <;> omega) (by unfold xAbs; split <;> omega) (by omega) (by omega) ?_⟩
  rw [gI_abs]
  refine ⟨by omega, fun _ => ⟨hu, fun c => ⟨by omega, by omega, by omega, ?_⟩, fun c => ⟨by omega, by omega, by omega, ?_⟩⟩, fun c => absurd c (by omega)⟩
  · rw [Int.tdiv_eq_ediv_of_dvd (gI_db a b)]; exact g0 c
  · rw [Int.tdiv_eq_ediv_of_dvd (gI_da a b)]; exact g1 c
theorem sm_told {σ : xSt} {Post : Int → Prop} {a b u : Int} (h0 : -61 ≤ a) (h1 : a ≤ 61) (h2 : 1 ≤ b) (h3 : b ≤ 61) (hu : xR u) (g0 : u = 0 → Post (b / gI a b)) (g1 : u ≠ 0 → Post (a / gI a b)) : wp_X10_told a b u σ Post := by
  have p := gI_pos a (show 0 < b by omega)
  have q := gI_le a (show 0 < b by omega)
  unfold wp_X10_told
  intro k hk
  have go : k (xAbs a) := by
    refine hk (xAbs a) ?_
    intro k2 hk2
    have key := lpU (P := fun t => ∀ g l : Int, 0 ≤ g → g ≤ 61 → 0 ≤ l → l ≤ 61 → l = 61 - t → gI g l = gI a b → k2 g l) 61 (fun t ht ih g l e0 e1 l0 l1 el hg => ?_) (61 - b) (by omega) (xAbs a) b (by unfold xAbs; split <;> omega) (by unfold xAbs; split <;> omega) (by omega) (by omega) (by omega) (gI_abs a b)
    · exact key
    · refine hk2 g l ⟨by omega, fun c => ?_, fun c => ⟨by omega, by omega, c, ?_⟩⟩
      · rw [c, gI_0 e0] at hg
        rw [hg]
        refine ⟨hu, fun c2 => ⟨by omega, by omega, by omega, ?_⟩, fun c2 => ⟨by omega, by omega, by omega, ?_⟩⟩
        · rw [Int.tdiv_eq_ediv_of_dvd (gI_db a b)]; exact g0 c2
        · rw [Int.tdiv_eq_ediv_of_dvd (gI_da a b)]; exact g1 c2
      · rw [tmod_e e0]
        have m1 := Int.emod_nonneg g c
        have m2 := Int.emod_lt_of_pos g (show 0 < l by omega)
        exact ih (61 - g % l) (by omega) (by omega) l (g % l) l0 l1 m1 (by omega) (by omega) (by rw [gI_step e0 (by omega)]; exact hg)
  refine ⟨by omega, fun c => ?_, fun c => ?_⟩
  · have e : xAbs a = a := by unfold xAbs; rw [if_pos c]
    rw [e] at go; exact go
  · have e : xAbs a = -a := by unfold xAbs; rw [if_neg (by omega)]
    rw [e] at go; exact go
theorem op_span {σ τ : xSt} (hR : RR σ τ) {a b u v : Int} (ha : xR a) (hb : xR b) (hu : xR u) (hv : xR v) : wp_X9_span a b u v σ (fun r σ' => wp_X10_span a b u v τ (fun r' τ' => r = r' ∧ RR σ' τ')) := by
  obtain ⟨n1, n2, n3, -⟩ := id hR
  have hR2 := RR_th hR
  obtain ⟨hx, hm, e2⟩ := RR_X hR2
  have en : xU τ 0 0 0 0 1 = τ 0 1 := rfl
  unfold wp_X9_span
  refine sx_refusal ha hb (by omega) (by omega) ⟨rfv_R _ _ _, fun c => ?_, fun c => ?_⟩
  · have c' := rfv_0.mp c
    refine sx_measure hx (f0 := a.toNat) (m := (b - a).toNat) (by omega) (by omega) (by omega) (fun σ' q z o => ?_)
    have hR3 := RR_x6 hR2 q z
    obtain ⟨p1, p2, p3, p4, -⟩ := o
    have m60 : (b - a).toNat ≤ 60 := by omega
    have bl := SL_bd m60 p3.2.2
    have bh := SH_bd m60 p4.2.2
    refine sx_waysFit ?_
    rw [p2]
    refine br_n (fun w => ?_) (fun w => ?_)
    · -- the reference, whatever end is told
      have ref : ∀ r : Int, (u = 0 → r = if v = 0 then σ' 5 4 / gI (σ' 5 3) (σ' 5 4) else σ' 5 3 / gI (σ' 5 3) (σ' 5 4)) → (u ≠ 0 → r = if v = 0 then σ' 5 6 / gI (σ' 5 5) (σ' 5 6) else σ' 5 5 / gI (σ' 5 5) (σ' 5 6)) → wp_X10_span a b u v τ (fun r' τ' => r = r' ∧ RR σ' τ') := by
        intro r g0 g1 t e; subst e
        refine sm_noPiece ha hb (by rw [en]; exact n2) (by rw [en]; exact n3) ⟨rfv_R _ _ _, fun d => ?_, fun d => absurd (rfv_0.mpr (by rw [en]; omega)) d⟩
        refine sm_isSo hm.2.2 (f0 := a.toNat) (m := (b - a).toNat) (by omega) (by omega) (by omega) (br_n (fun d2 => ?_) (fun d2 => absurd (by rw [← e2]; exact w) d2))
        refine sm_spans (by omega) hm.2.2 (f0 := a.toNat) (m := (b - a).toNat) (by omega) (by omega) (fun s qs hl hh => ?_)
        have hR4 := RR_m hR3 (eqx_wk qs (by simp))
        rw [← e2] at hl hh
        have cl := SL_bd m60 hl.2.2
        have chh := SH_bd m60 hh.2.2
        have fl := fr_red p3.1 hl.1 (Mx_eq p3 hl)
        have fh := fr_red p4.1 hh.1 (Mn_eq p4 hh)
        refine ⟨hu, fun d3 => sm_told (by omega) (by omega) (by omega) (by omega) hv (fun d4 => ⟨?_, hR4⟩) (fun d4 => ⟨?_, hR4⟩), fun d3 => sm_told (by omega) (by omega) (by omega) (by omega) hv (fun d4 => ⟨?_, hR4⟩) (fun d4 => ⟨?_, hR4⟩)⟩
        · rw [g0 d3, if_pos d4, fl.2]
        · rw [g0 d3, if_neg d4, fl.1]
        · rw [g1 d3, if_pos d4, fh.2]
        · rw [g1 d3, if_neg d4, fh.1]
      refine ⟨hu, fun d => ?_, fun d => ?_⟩
      · refine sx_least (by omega) (by omega) (by omega) (by omega) hv (fun d2 => ?_) (fun d2 => ?_)
        · exact ref _ (fun _ => by rw [if_pos d2]) (fun q => absurd d q)
        · exact ref _ (fun _ => by rw [if_neg d2]) (fun q => absurd d q)
      · refine sx_least (by omega) (by omega) (by omega) (by omega) hv (fun d2 => ?_) (fun d2 => ?_)
        · exact ref _ (fun q => absurd q d) (fun _ => by rw [if_pos d2])
        · exact ref _ (fun q => absurd q d) (fun _ => by rw [if_neg d2])
    · intro t e; subst e
      refine sm_noPiece ha hb (by rw [en]; exact n2) (by rw [en]; exact n3) ⟨rfv_R _ _ _, fun d => ?_, fun d => absurd (rfv_0.mpr (by rw [en]; omega)) d⟩
      exact sm_isSo hm.2.2 (f0 := a.toNat) (m := (b - a).toNat) (by omega) (by omega) (by omega) (br_n (fun d2 => absurd (by rw [e2]; exact d2) w) (fun d2 => ⟨rfl, hR3⟩))
  · intro t e; subst e
    refine sm_noPiece ha hb (by rw [en]; exact n2) (by rw [en]; exact n3) ⟨rfv_R _ _ _, fun d => absurd ?_ c, fun d => ⟨?_, hR2⟩⟩
    · rw [n1]; exact d
    · rw [n1]; rfl
