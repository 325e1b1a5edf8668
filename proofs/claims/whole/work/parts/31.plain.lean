/-! the plain slope -/
def Tn (la lb ha hb a b : Int) : Prop := la * b < a * lb ∧ a * hb < ha * b
/-- the first fraction between the ends: least below, then least above -/
def Lx (T : Int → Int → Prop) (a b : Int) : Prop := 1 ≤ b ∧ 0 ≤ a ∧ a ≤ b ∧ T a b ∧ (∀ b', 1 ≤ b' → b' < b → ∀ a', 0 ≤ a' → a' ≤ b' → ¬ T a' b') ∧ ∀ a', 0 ≤ a' → a' < a → ¬ T a' b
theorem Lx_u {T : Int → Int → Prop} {a b a' b' : Int} (h : Lx T a b) (h' : Lx T a' b') : a = a' ∧ b = b' := by
  obtain ⟨x1, x2, x3, x4, x5, x6⟩ := h
  obtain ⟨y1, y2, y3, y4, y5, y6⟩ := h'
  have e : b = b' := by
    by_cases c1 : b < b'
    · exact absurd x4 (y5 b x1 c1 a x2 x3)
    · by_cases c2 : b' < b
      · exact absurd y4 (x5 b' y1 c2 a' y2 y3)
      · omega
  subst e
  refine ⟨?_, rfl⟩
  by_cases c1 : a < a'
  · exact absurd x4 (y6 a x2 c1)
  · by_cases c2 : a' < a
    · exact absurd y4 (x6 a' y2 c2)
    · omega
theorem Lx_c {T T' : Int → Int → Prop} (e : ∀ a b, T a b ↔ T' a b) {a b : Int} (h : Lx T a b) : Lx T' a b := by
  obtain ⟨x1, x2, x3, x4, x5, x6⟩ := h
  exact ⟨x1, x2, x3, (e a b).mp x4, fun b' h1 h2 a' h3 h4 q => x5 b' h1 h2 a' h3 h4 ((e a' b').mpr q), fun a' h1 h2 q => x6 a' h1 h2 ((e a' b).mpr q)⟩
theorem Tn_ex {la lb ha hb : Int} (h1 : -1 ≤ la) (h2 : la < lb) (h3 : 1 ≤ lb) (h4 : lb ≤ 60) (h5 : 1 ≤ ha) (h6 : 1 ≤ hb) (h7 : hb ≤ 60) (h : la * hb < ha * lb) : ∃ a b, 0 ≤ a ∧ a ≤ b ∧ 1 ≤ b ∧ b ≤ 120 ∧ Tn la lb ha hb a b := by
  by_cases c1 : la < 0
  · exact ⟨0, 1, by omega, by omega, by omega, by omega, by omega, by omega⟩
  · by_cases c2 : hb < ha
    · exact ⟨1, 1, by omega, by omega, by omega, by omega, by omega, by omega⟩
    · refine ⟨la + ha, lb + hb, by omega, by omega, by omega, by omega, ?_, ?_⟩
      · rw [Int.mul_add, Int.add_mul]; omega
      · rw [Int.mul_add, Int.add_mul]; omega
theorem sx_plain {σ : xSt} {Post : Int → Prop} {u : Int} (hu : xR u) (h1 : -1 ≤ σ 5 3) (h1' : σ 5 3 ≤ 60) (h2 : σ 5 3 < σ 5 4) (h3 : 1 ≤ σ 5 4) (h4 : σ 5 4 ≤ 60) (h5 : 1 ≤ σ 5 5) (h5' : σ 5 5 ≤ 61) (h6 : 1 ≤ σ 5 6) (h7 : σ 5 6 ≤ 60) (hs : σ 5 3 * σ 5 6 < σ 5 5 * σ 5 4)
    (hp : ∀ a b, Lx (Tn (σ 5 3) (σ 5 4) (σ 5 5) (σ 5 6)) a b → Post (if u = 0 then b else a)) : wp_X5_plainSlope u σ Post := by
  obtain ⟨a0, b0, g1, g2, g3, g4, g5⟩ := Tn_ex h1 h2 h3 h4 h5 h6 h7 hs
  unfold wp_X5_plainSlope
  intro k hk
  have key := lpU (P := fun b => 1 ≤ b → ∀ x : Int, 0 ≤ x → x ≤ b → (∀ b', 1 ≤ b' → b' < b → ∀ a', 0 ≤ a' → a' ≤ b' → ¬ Tn (σ 5 3) (σ 5 4) (σ 5 5) (σ 5 6) a' b') → (∀ a', 0 ≤ a' → a' < x → a' * σ 5 4 ≤ σ 5 3 * b) → k x b) 121 (fun b hb ih b1 x x0 xb hno hlo => ?_) 1 (by omega) (by omega) 0 (by omega) (by omega) (fun b' q1 q2 => absurd q2 (by omega)) (fun a' q1 q2 => absurd q2 (by omega))
  · exact key
  · refine hk x b ?_
    intro k2 hk2
    refine ⟨by omega, fun c => ?_, fun c => ?_⟩
    · exact absurd g5 (hno b0 g3 (by omega) a0 g1 g2)
    · have key2 := lpU (P := fun z => 0 ≤ z → (∀ a', 0 ≤ a' → a' < z → a' * σ 5 4 ≤ σ 5 3 * b) → k2 z) (b + 1) (fun z hz ih2 z0 hlo2 => ?_) x (by omega) x0 hlo
      · exact key2
      · have r1 := mb (x := z) (y := σ 5 4) (B := 122) (C := 61) (by omega) (by omega) (by omega) (by omega)
        have r2 := mb (x := σ 5 3) (y := b) (B := 61) (C := 122) (by omega) (by omega) (by omega) (by omega)
        have r3 := mb (x := z) (y := σ 5 6) (B := 122) (C := 61) (by omega) (by omega) (by omega) (by omega)
        have r4 := mb (x := σ 5 5) (y := b) (B := 61) (C := 122) (by omega) (by omega) (by omega) (by omega)
        refine hk2 z ?_
        intro k3 hk3
        -- on to the next below
        have next : (∀ a', 0 ≤ a' → a' ≤ b → ¬ Tn (σ 5 3) (σ 5 4) (σ 5 5) (σ 5 6) a' b) → k z (b + 1) := by
          intro hb2
          refine ih (b + 1) (by omega) (by omega) (by omega) z z0 hz (fun b' q1 q2 a' q3 q4 => ?_) (fun a' q1 q2 => ?_)
          · by_cases cb : b' = b
            · subst cb; exact hb2 a' q3 q4
            · exact hno b' q1 (by omega) a' q3 q4
          · have w := hlo2 a' q1 q2
            have w0 := hlo2 0 (by omega) (by omega)
            rw [Int.zero_mul] at w0
            have la0 : 0 ≤ σ 5 3 := by
              rcases Int.lt_or_le (σ 5 3) 0 with q | q
              · have : σ 5 3 * b < 0 := Int.mul_neg_of_neg_of_pos q (by omega)
                omega
              · exact q
            rw [Int.mul_add]; omega
        have goal3 : (b < z ∨ σ 5 3 * b < z * σ 5 4) → k3 := by
          intro hex
          refine hk3 ⟨by omega, by omega, fun d => next (fun a' q1 q2 q3 => ?_), fun d => ⟨by omega, by omega, fun d2 => next (fun a' q1 q2 q3 => ?_), fun d2 => ?_⟩⟩
          · have := hlo2 a' q1 (by omega)
            have := q3.1; omega
          · by_cases ca : a' < z
            · have := hlo2 a' q1 ca
              have := q3.1; omega
            · have w : z * σ 5 6 ≤ a' * σ 5 6 := Int.mul_le_mul_of_nonneg_right (by omega) (by omega)
              have := q3.2; omega
          · have hl : σ 5 3 * b < z * σ 5 4 := by
              rcases hex with q | q
              · omega
              · exact q
            have hp' := hp z b ⟨b1, z0, d, ⟨hl, d2⟩, hno, fun a' q1 q2 q3 => by have := hlo2 a' q1 q2; have := q3.1; omega⟩
            refine ⟨hu, fun d3 => ?_, fun d3 => ?_⟩
            · rw [if_pos d3] at hp'; exact hp'
            · rw [if_neg d3] at hp'; exact hp'
        refine ⟨by omega, by omega, fun d => goal3 (Or.inl d), fun d => ⟨by omega, by omega, fun d2 => goal3 (Or.inr d2), fun d2 => ?_⟩⟩
        refine ih2 (z + 1) (by omega) (by omega) (by omega) (fun a' q1 q2 => ?_)
        by_cases ca : a' = z
        · subst ca; exact d2
        · exact hlo2 a' q1 (by omega)
theorem SL_lt {y : Nat → Int} {f0 m : Nat} {p q : Int} (h : SL (As y f0) m p q) : p < q := by
  rcases h with ⟨rfl, rfl⟩ | ⟨i, j, h1, h2, rfl, rfl⟩
  · omega
  · have := As_bd y f0 (Nat.le_of_lt h1); omega
theorem op_plain {σ τ : xSt} (hR : RR σ τ) {a b u : Int} (ha : xR a) (hb : xR b) (hu : xR u) : wp_X9_plain a b u σ (fun r σ' => wp_X10_plain a b u τ (fun r' τ' => r = r' ∧ RR σ' τ')) := by
  obtain ⟨n1, n2, n3, -⟩ := id hR
  have hR2 := RR_th hR
  obtain ⟨hx, hm, e2⟩ := RR_X hR2
  have en : xU τ 0 0 0 0 1 = τ 0 1 := rfl
  unfold wp_X9_plain
  refine sx_refusal ha hb (by omega) (by omega) ⟨rfv_R _ _ _, fun c => ?_, fun c => ?_⟩
  · have c' := rfv_0.mp c
    refine sx_measure hx (f0 := a.toNat) (m := (b - a).toNat) (by omega) (by omega) (by omega) (fun σ' q z o => ?_)
    have hR3 := RR_x6 hR2 q z
    obtain ⟨p1, p2, p3, p4, -⟩ := id o
    have m60 : (b - a).toNat ≤ 60 := by omega
    have bl := SL_bd m60 p3.2.2
    have bh := SH_bd m60 p4.2.2
    have ll := SL_lt p3.2.2
    refine sx_straight o (by omega) (fun st => ⟨by omega, fun _ => ?_, fun w => absurd w (by omega)⟩) (fun st => ⟨by omega, fun w => absurd w (by omega), fun _ => ?_⟩)
    · refine sx_plain hu (by omega) (by omega) ll (by omega) (by omega) (by omega) (by omega) (by omega) (by omega) (st.2 _ _ _ _ p3 p4) (fun x w hL => ?_)
      intro t e; subst e
      refine sm_noPiece ha hb (by rw [en]; exact n2) (by rw [en]; exact n3) ⟨rfv_R _ _ _, fun d => ?_, fun d => absurd (rfv_0.mpr (by rw [en]; omega)) d⟩
      refine sm_straight hm (f0 := a.toNat) (m := (b - a).toNat) (by omega) (by omega) (by omega) (fun s qs hl hh st' => ⟨by omega, fun _ => ?_, fun w => absurd w (by omega)⟩) (fun s qs st' => absurd (by rw [← e2]; exact st) st')
      have hR4 := RR_m hR3 (eqx_wk qs (by simp))
      rw [← e2] at hl hh
      have cl := SL_bd m60 hl.2.2
      have chh := SH_bd m60 hh.2.2
      have eT : ∀ a b, Tn (σ' 5 3) (σ' 5 4) (σ' 5 5) (σ' 5 6) a b ↔ Tn (s 2 0) (s 2 1) (s 3 0) (s 3 1) a b := fun x y => ⟨fun h => ⟨(fr_lt1 p3.1 hl.1 (Mx_eq p3 hl)).mp h.1, (fr_gt1 p4.1 hh.1 (Mn_eq p4 hh)).mp h.2⟩, fun h => ⟨(fr_lt1 p3.1 hl.1 (Mx_eq p3 hl)).mpr h.1, (fr_gt1 p4.1 hh.1 (Mn_eq p4 hh)).mpr h.2⟩⟩
      have hL2 := Lx_c eT hL
      obtain ⟨a0, b0, g1, g2, g3, g4, g5⟩ := Tn_ex (by omega) (SL_lt hl.2.2) (by omega) (by omega) (by omega) (by omega) (by omega) (st.2 _ _ _ _ hl hh)
      intro k hk
      have key := lpU (P := fun y => 1 ≤ y → (∀ b', 1 ≤ b' → b' < y → ∀ a', 0 ≤ a' → a' ≤ b' → ¬ Tn (s 2 0) (s 2 1) (s 3 0) (s 3 1) a' b') → k y) 121 (fun y hy ih y1 hno => ?_) 1 (by omega) (by omega) (fun b' q1 q2 => absurd q2 (by omega))
      · exact key
      · refine hk y ⟨by omega, fun c2 => absurd c2 (by omega), fun c2 => ?_⟩
        by_cases cy : y = 121
        · exact absurd g5 (hno b0 g3 (by omega) a0 g1 g2)
        · intro k2 hk2
          have key2 := lpU (P := fun z => 0 ≤ z → (∀ a', 0 ≤ a' → a' < z → ¬ Tn (s 2 0) (s 2 1) (s 3 0) (s 3 1) a' y) → k2 z) (y + 1) (fun z hz ih2 z0 hlo => ?_) 0 (by omega) (by omega) (fun a' q1 q2 => absurd q2 (by omega))
          · exact key2
          · have r1 := mb (x := z) (y := s 2 1) (B := 122) (C := 61) (by omega) (by omega) (by omega) (by omega)
            have r2 := mb (x := s 2 0) (y := y) (B := 61) (C := 122) (by omega) (by omega) (by omega) (by omega)
            have r3 := mb (x := z) (y := s 3 1) (B := 122) (C := 61) (by omega) (by omega) (by omega) (by omega)
            have r4 := mb (x := s 3 0) (y := y) (B := 61) (C := 122) (by omega) (by omega) (by omega) (by omega)
            refine hk2 z ⟨by omega, by omega, fun d => ?_, fun d => ⟨by omega, by omega, by omega, by omega, fun d2 => ?_, fun d2 => ⟨by omega, by omega, by omega, by omega, fun d3 => ?_, fun d3 => ?_⟩⟩⟩
            · refine ih (y + 1) (by omega) (by omega) (by omega) (fun b' q1 q2 a' q3 q4 => ?_)
              by_cases cb : b' = y
              · subst cb; exact hlo a' q3 (by omega)
              · exact hno b' q1 (by omega) a' q3 q4
            · refine ih2 (z + 1) (by omega) (by omega) (by omega) (fun a' q1 q2 => ?_)
              by_cases ca : a' = z
              · subst ca; intro q; have := q.1; omega
              · exact hlo a' q1 (by omega)
            · refine ih2 (z + 1) (by omega) (by omega) (by omega) (fun a' q1 q2 => ?_)
              by_cases ca : a' = z
              · subst ca; intro q; have := q.2; omega
              · exact hlo a' q1 (by omega)
            · obtain ⟨u1, u2⟩ := Lx_u hL2 (show Lx (Tn (s 2 0) (s 2 1) (s 3 0) (s 3 1)) z y from ⟨y1, z0, d, ⟨d2, d3⟩, hno, hlo⟩)
              refine ⟨hu, fun d4 => ⟨?_, hR4⟩, fun d4 => ⟨?_, hR4⟩⟩
              · rw [if_pos d4, u2]
              · rw [if_neg d4, u1]
    · intro t e; subst e
      refine sm_noPiece ha hb (by rw [en]; exact n2) (by rw [en]; exact n3) ⟨rfv_R _ _ _, fun d => ?_, fun d => absurd (rfv_0.mpr (by rw [en]; omega)) d⟩
      exact sm_straight hm (f0 := a.toNat) (m := (b - a).toNat) (by omega) (by omega) (by omega) (fun s qs _ _ st' => absurd (by rw [e2]; exact st') st) (fun s qs _ => ⟨by omega, fun w => absurd w (by omega), fun _ => ⟨rfl, RR_m hR3 (eqx_wk qs (by simp))⟩⟩)
  · intro t e; subst e
    refine sm_noPiece ha hb (by rw [en]; exact n2) (by rw [en]; exact n3) ⟨rfv_R _ _ _, fun d => absurd ?_ c, fun d => ⟨?_, hR2⟩⟩
    · rw [n1]; exact d
    · rw [n1]; rfl
