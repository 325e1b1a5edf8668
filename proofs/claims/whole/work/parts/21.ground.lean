/-! the ground: the class -/
section GX
variable {σ : xSt} {Post : Int → Prop}
theorem sx_fields (h : Post (σ 7 1 * σ 7 2)) : wp_X2_fields σ Post := h
theorem sx_knows (hG : GOk (σ 7 1) (σ 7 2) (σ 8)) {f : Int} (hf : xR f) (h : Post (bI (0 ≤ f ∧ f < σ 7 1 * σ 7 2))) : wp_X2_knows f σ Post := by
  have hN := hG.N
  unfold wp_X2_knows
  refine ⟨hf, fun c => ?_, fun c => sx_fields ⟨hf, by omega, fun c2 => ?_, fun c2 => ?_⟩⟩
  · rw [bI_f (by omega)] at h; exact h
  · rw [bI_f (by omega)] at h; exact h
  · rw [bI_t (by omega)] at h; exact h
theorem sx_holds (hG : GOk (σ 7 1) (σ 7 2) (σ 8)) {f : Int} (hf : xR f) (h : Post (hV (σ 7 1) (σ 7 2) (σ 8) f)) : wp_X2_holds f σ Post := by
  have hN := hG.N
  unfold wp_X2_holds
  refine sx_knows hG hf (br_z (fun c => ?_) (fun c => ⟨by omega, ?_⟩))
  · rw [hV, if_neg c] at h; exact h
  · rw [hV, if_pos c] at h; exact b01 (hG.2.2.2.2 _) h
theorem sx_col (hG : GOk (σ 7 1) (σ 7 2) (σ 8)) {f : Int} (hf : xR f) (h0 : 0 ≤ f) (h : Post (f % σ 7 1)) : wp_X2_columnOf f σ Post := by
  obtain ⟨h1, h2, -⟩ := id hG
  unfold wp_X2_columnOf
  refine ⟨by omega, fun c => absurd c (by omega), fun c => ⟨hf, by omega, by omega, ?_⟩⟩
  rw [tmod_e h0]; exact h
theorem sx_line (hG : GOk (σ 7 1) (σ 7 2) (σ 8)) {f : Int} (hf : xR f) (h0 : 0 ≤ f) (h : Post (f / σ 7 1)) : wp_X2_lineOf f σ Post := by
  obtain ⟨h1, h2, -⟩ := id hG
  unfold wp_X2_lineOf
  refine ⟨by omega, fun c => absurd c (by omega), fun c => ⟨hf, by omega, by omega, ?_⟩⟩
  rw [tdiv_e h0]; exact h
theorem sx_fieldAt (hG : GOk (σ 7 1) (σ 7 2) (σ 8)) {x y : Int} (hx : xR x) (hy : xR y) (h : Post (if 0 ≤ x ∧ x < σ 7 1 ∧ 0 ≤ y ∧ y < σ 7 2 then y * σ 7 1 + x else -999)) : wp_X2_fieldAt x y σ Post := by
  obtain ⟨h1, h2, h3, h4, -⟩ := id hG
  unfold wp_X2_fieldAt
  refine ⟨hx, fun c => ?_, fun c => ⟨hx, by omega, fun c2 => ?_, fun c2 => ⟨hy, fun c3 => ?_, fun c3 => ⟨hy, by omega, fun c4 => ?_, fun c4 => ?_⟩⟩⟩⟩
  · rw [if_neg (by omega)] at h; exact h
  · rw [if_neg (by omega)] at h; exact h
  · rw [if_neg (by omega)] at h; exact h
  · rw [if_neg (by omega)] at h; exact h
  · rw [if_pos (by omega)] at h; exact h
theorem sx_holdsAt (hG : GOk (σ 7 1) (σ 7 2) (σ 8)) {x y : Int} (hx : xR x) (hy : xR y) (h : Post (aV (σ 7 1) (σ 7 2) (σ 8) x y)) : wp_X2_holdsAt x y σ Post := by
  have hN := hG.N
  unfold wp_X2_holdsAt
  refine sx_fieldAt hG hx hy ?_
  by_cases c : 0 ≤ x ∧ x < σ 7 1 ∧ 0 ≤ y ∧ y < σ 7 2
  · have hF := fN (w := σ 7 1) (h := σ 7 2) hG.1 c.1 c.2.1 c.2.2.1 c.2.2.2
    rw [if_pos c]
    refine sx_holds hG (by omega) ⟨hV_01 hG _, ?_⟩
    rw [hV, if_pos ⟨hF.1, hF.2.1⟩]
    rw [aV, if_pos c] at h
    exact h
  · rw [if_neg c]
    refine sx_holds hG (by omega) ⟨hV_01 hG _, ?_⟩
    rw [hV, if_neg (by omega)]
    rw [aV, if_neg c] at h
    exact h
theorem sx_onEdge (hG : GOk (σ 7 1) (σ 7 2) (σ 8)) {f : Int} (h0 : 0 ≤ f) (h1 : f < σ 7 1 * σ 7 2) (h : Post (bI (eD (σ 7 1) (σ 7 2) f))) : wp_X2_onEdge f σ Post := by
  have hN := hG.N
  have hF := fxy hG.1 h0 h1
  obtain ⟨g1, g2, g3, g4, -⟩ := id hG
  unfold wp_X2_onEdge
  refine sx_col hG (by omega) h0 (sx_line hG (by omega) h0 ?_)
  refine ⟨by omega, fun c => ?_, fun c => ⟨by omega, fun c2 => ?_, fun c2 => ⟨by omega, by omega, fun c3 => ?_, fun c3 => ⟨by omega, by omega, fun c4 => ?_, fun c4 => ?_⟩⟩⟩⟩
  · rw [bI_t (Or.inl c)] at h; exact h
  · rw [bI_t (Or.inr (Or.inl c2))] at h; exact h
  · rw [bI_t (Or.inr (Or.inr (Or.inl c3)))] at h; exact h
  · rw [bI_f (fun q => by rcases q with q | q | q | q <;> contradiction)] at h; exact h
  · rw [bI_t (Or.inr (Or.inr (Or.inr c4)))] at h; exact h
theorem sx_heapSize (hG : GOk (σ 7 1) (σ 7 2) (σ 8)) (h : Post (sI (σ 8) (σ 7 1 * σ 7 2).toNat)) : wp_X2_heapSize σ Post := by
  have hN := hG.N
  unfold wp_X2_heapSize
  intro k hk
  have key := lpU (P := fun i => 0 ≤ i → k (sI (σ 8) i.toNat) i) (σ 7 1 * σ 7 2) (fun i hi ih h0 => ?_) 0 (by omega) (by omega)
  · exact key
  · refine hk _ _ (sx_fields ⟨by omega, by omega, fun c => ?_, fun c => sx_holds hG (by omega) ?_⟩)
    · have e : i = σ 7 1 * σ 7 2 := by omega
      rw [e]; exact h
    · rw [hV_in h0 c]
      have st := ih (i + 1) (by omega) (by omega) (by omega)
      rw [sI_s _ h0] at st
      refine ⟨r01 (hG.2.2.2.2 _), fun c2 => ?_, fun c2 => ?_⟩
      · rw [c2, Int.add_zero] at st; exact st
      · have e := (hG.2.2.2.2 i.toNat).resolve_left c2
        rw [e] at st; exact st
theorem sx_heapOnEdge (hG : GOk (σ 7 1) (σ 7 2) (σ 8)) (h : Post (sI (fun f => bI (σ 8 f ≠ 0 ∧ eD (σ 7 1) (σ 7 2) f)) (σ 7 1 * σ 7 2).toNat)) : wp_X2_heapOnEdge σ Post := by
  have hN := hG.N
  unfold wp_X2_heapOnEdge
  intro k hk
  have key := lpU (P := fun i => 0 ≤ i → k (sI (fun f => bI (σ 8 f ≠ 0 ∧ eD (σ 7 1) (σ 7 2) f)) i.toNat) i) (σ 7 1 * σ 7 2) (fun i hi ih h0 => ?_) 0 (by omega) (by omega)
  · exact key
  · refine hk _ _ (sx_fields ⟨by omega, by omega, fun c => ?_, fun c => sx_holds hG (by omega) ?_⟩)
    · have e : i = σ 7 1 * σ 7 2 := by omega
      rw [e]; exact h
    · rw [hV_in h0 c]
      have st := ih (i + 1) (by omega) (by omega) (by omega)
      rw [sI_s _ h0] at st
      have ei : ((i.toNat : Nat) : Int) = i := by omega
      rw [ei] at st
      refine ⟨r01 (hG.2.2.2.2 _), fun c2 => ?_, fun c2 => sx_onEdge hG h0 c (br_z (fun c3 => ?_) (fun c3 => ?_))⟩
      · rw [bI_f (fun q => q.1 c2), Int.add_zero] at st; exact st
      · rw [bI_f (fun q => c3 q.2), Int.add_zero] at st; exact st
      · rw [bI_t ⟨c2, c3⟩] at st; exact st
end GX
/-! the ground: the reference -/
section GM
variable {σ : xSt} {Post : Int → Prop}
theorem sm_fields (h : Post (σ 0 5 * σ 0 6)) : wp_X10_fields σ Post := h
theorem sm_in {a b d : Int} (ha : xR a) (hb : xR b) (hd : xR d) (h : Post (bI (b ≤ a ∧ a ≤ d))) : wp_X10_in a b d σ Post := by
  unfold wp_X10_in
  refine ⟨by omega, by omega, fun c => ?_, fun c => ⟨by omega, by omega, fun c2 => ?_, fun c2 => ?_⟩⟩
  · rw [bI_f (by omega)] at h; exact h
  · rw [bI_f (by omega)] at h; exact h
  · rw [bI_t (by omega)] at h; exact h
theorem sm_size {a : Int} (ha : xR a) (h : Post (xAbs a)) : wp_X10_size a σ Post := by
  unfold wp_X10_size
  refine ⟨ha, fun c => ?_, fun c => ?_⟩
  · rw [xAbs, if_pos c] at h; exact h
  · rw [xAbs, if_neg (by omega)] at h; exact h
theorem sm_noField (hG : GOk (σ 0 5) (σ 0 6) (σ 4)) {f : Int} (hf : xR f) (h : Post (bI (¬ (0 ≤ f ∧ f < σ 0 5 * σ 0 6)))) : wp_X10_noField f σ Post := by
  have hN := hG.N
  unfold wp_X10_noField
  refine ⟨hf, sm_fields ⟨by omega, sm_in hf (by omega) (by omega) (br_n (fun c => ?_) (fun c => ?_))⟩⟩
  · rw [bI_f (by omega)] at h; exact h
  · rw [bI_t (by omega)] at h; exact h
theorem sm_isThere (hG : GOk (σ 0 5) (σ 0 6) (σ 4)) {x y : Int} (hx : xR x) (hy : xR y) (h : Post (bI (0 ≤ x ∧ x < σ 0 5 ∧ 0 ≤ y ∧ y < σ 0 6))) : wp_X10_isThere x y σ Post := by
  obtain ⟨h1, h2, h3, h4, -⟩ := id hG
  unfold wp_X10_isThere
  refine ⟨hx, by omega, sm_in hx (by omega) (by omega) (br_z (fun c => ?_) (fun c => ⟨hy, by omega, sm_in hy (by omega) (by omega) (br_z (fun c2 => ?_) (fun c2 => ?_))⟩))⟩
  · rw [bI_f (by omega)] at h; exact h
  · rw [bI_f (by omega)] at h; exact h
  · rw [bI_t (by omega)] at h; exact h
theorem sm_isOf (hG : GOk (σ 0 5) (σ 0 6) (σ 4)) {x y : Int} (hx : xR x) (hy : xR y) (h : Post (aV (σ 0 5) (σ 0 6) (σ 4) x y)) : wp_X10_isOf x y σ Post := by
  have hN := hG.N
  unfold wp_X10_isOf
  refine sm_isThere hG hx hy (br_z (fun c => ?_) (fun c => ?_))
  · rw [aV, if_neg c] at h; exact h
  · have hF := fN (w := σ 0 5) (h := σ 0 6) hG.1 c.1 c.2.1 c.2.2.1 c.2.2.2
    rw [aV, if_pos c] at h
    exact ⟨by omega, b01 (hG.2.2.2.2 _) h⟩
theorem sm_onEdge (hG : GOk (σ 0 5) (σ 0 6) (σ 4)) {f : Int} (h0 : 0 ≤ f) (h1 : f < σ 0 5 * σ 0 6) (h : Post (bI (eD (σ 0 5) (σ 0 6) f))) : wp_X10_onEdge f σ Post := by
  have hN := hG.N
  have hF := fxy hG.1 h0 h1
  obtain ⟨g1, g2, g3, g4, -⟩ := id hG
  unfold wp_X10_onEdge
  rw [tmod_e h0, tdiv_e h0]
  refine ⟨by omega, by omega, by omega, by omega, by omega, by omega, by omega, fun c => ?_, fun c => ⟨by omega, fun c2 => ?_, fun c2 => ⟨by omega, by omega, fun c3 => ?_, fun c3 => ⟨by omega, by omega, fun c4 => ?_, fun c4 => ?_⟩⟩⟩⟩
  · rw [bI_t (Or.inl c)] at h; exact h
  · rw [bI_t (Or.inr (Or.inl c2))] at h; exact h
  · rw [bI_t (Or.inr (Or.inr (Or.inl c3)))] at h; exact h
  · rw [bI_f (fun q => by rcases q with q | q | q | q <;> contradiction)] at h; exact h
  · rw [bI_t (Or.inr (Or.inr (Or.inr c4)))] at h; exact h
theorem sm_many (hG : GOk (σ 0 5) (σ 0 6) (σ 4)) (h : Post (sI (σ 4) (σ 0 5 * σ 0 6).toNat)) : wp_X10_many σ Post := by
  have hN := hG.N
  unfold wp_X10_many
  intro k hk
  have key := lpU (P := fun i => 0 ≤ i → k (sI (σ 4) i.toNat) i) (σ 0 5 * σ 0 6) (fun i hi ih h0 => ?_) 0 (by omega) (by omega)
  · exact key
  · refine hk _ _ (sm_fields ⟨by omega, by omega, fun c => ?_, fun c => ⟨by omega, ?_⟩⟩)
    · have e : i = σ 0 5 * σ 0 6 := by omega
      rw [e]; exact h
    · have st := ih (i + 1) (by omega) (by omega) (by omega)
      rw [sI_s _ h0] at st
      refine ⟨r01 (hG.2.2.2.2 _), fun c2 => ?_, fun c2 => ?_⟩
      · rw [c2] at st; exact st
      · have e := (hG.2.2.2.2 i.toNat).resolve_left c2
        rw [e] at st; exact st
end GM
