/-! balls that hold others -/
def wy2 (w : Int) (g f : Nat) : Int := sq2 ((g : Int) % w - (f : Int) % w) ((g : Int) / w - (f : Int) / w)
def Hd (w : Int) (D : Nat → Int) (g f : Nat) : Prop := 0 ≤ D g - wy2 w g f - D f ∧ 4 * wy2 w g f * D f ≤ (D g - wy2 w g f - D f) * (D g - wy2 w g f - D f)
theorem wy2_bd {w h : Int} (hw : 1 ≤ w) (hw2 : w ≤ 12) (hh : h ≤ 12) {g f : Nat} (hg : (g : Int) < w * h) (hf : (f : Int) < w * h) : 0 ≤ wy2 w g f ∧ wy2 w g f ≤ 288 := by
  have xf := fxy (w := w) (h := h) (f := (f : Int)) hw (by omega) hf
  have xg := fxy (w := w) (h := h) (f := (g : Int)) hw (by omega) hg
  have r1 := sq_bd (a := (g : Int) % w - (f : Int) % w) (B := 12) (by omega) (by omega)
  have r2 := sq_bd (a := (g : Int) / w - (f : Int) / w) (B := 12) (by omega) (by omega)
  unfold wy2 sq2; omega
theorem sx_ballHolds {σ : xSt} {Post : Int → Prop} (hG : GOk (σ 7 1) (σ 7 2) (σ 8)) {N : Nat} (hN : (N : Int) = σ 7 1 * σ 7 2) (hD : ∀ g : Nat, g < N → 0 ≤ σ 19 g ∧ σ 19 g ≤ 400) {g f : Nat} (hg : g < N) (hf : f < N) (h1 : Hd (σ 7 1) (σ 19) g f → Post 1) (h0 : ¬ Hd (σ 7 1) (σ 19) g f → Post 0) : wp_X0_ballHolds (g : Int) (f : Int) σ Post := by
  have hN1 := hG.N
  obtain ⟨w1, w2, w3, w4, -⟩ := id hG
  have bw := wy2_bd w1 w2 w4 (g := g) (f := f) (by omega) (by omega)
  have dg := hD g hg
  have df := hD f hf
  have eg : ((g : Int)).toNat = g := by omega
  have ef : ((f : Int)).toNat = f := by omega
  unfold wp_X0_ballHolds
  refine sx_col hG (by omega) (by omega) (sx_col hG (by omega) (by omega) (sx_line hG (by omega) (by omega) (sx_line hG (by omega) (by omega) ?_)))
  rw [eg, ef]
  intro z6 e6
  have e6' : z6 = wy2 (σ 7 1) g f := e6
  refine ⟨by omega, by omega, ?_⟩
  intro z7 e7
  rw [e6'] at e7 ⊢
  have b7 : -1000 ≤ z7 ∧ z7 ≤ 1000 := by omega
  have r1 := mb (x := z7) (y := z7) (B := 1000) (C := 1000) (by omega) (by omega) (by omega) (by omega)
  have r2 := mb (x := 4 * wy2 (σ 7 1) g f) (y := σ 19 f) (B := 1200) (C := 400) (by omega) (by omega) (by omega) (by omega)
  refine ⟨by omega, fun c => h0 (fun q => ?_), fun c => ⟨by omega, by omega, by omega, fun c2 => h0 (fun q => ?_), fun c2 => h1 ⟨by rw [← e7]; exact c, by rw [← e7]; exact c2⟩⟩⟩
  · have := q.1; rw [← e7] at this; omega
  · have := q.2; rw [← e7] at this; omega
theorem sx_isNeeded {σ : xSt} {Post : Int → Prop} (hG : GOk (σ 7 1) (σ 7 2) (σ 8)) {N : Nat} (hN : (N : Int) = σ 7 1 * σ 7 2) (hD : ∀ g : Nat, g < N → 0 ≤ σ 19 g ∧ σ 19 g ≤ 400) {f : Nat} (hf : f < N) (h1 : σ 8 f ≠ 0 → (∀ g, g < N → ¬ (σ 19 f < σ 19 g ∧ Hd (σ 7 1) (σ 19) g f)) → Post 1) (h0 : (σ 8 f = 0 ∨ ∃ g, g < N ∧ σ 19 f < σ 19 g ∧ Hd (σ 7 1) (σ 19) g f) → Post 0) : wp_X0_isNeeded (f : Int) σ Post := by
  have hN1 := hG.N
  have ef : ((f : Int)).toNat = f := by omega
  unfold wp_X0_isNeeded
  refine sx_holds hG (by omega) ?_
  rw [hV_in (by omega) (by omega), ef]
  refine ⟨r01 (hG.2.2.2.2 _), fun c => ?_, fun c => h0 (Or.inl c)⟩
  intro k hk
  have key := lpU (P := fun x => 0 ≤ x → (∀ g : Nat, (g : Int) < x → ¬ (σ 19 f < σ 19 g ∧ Hd (σ 7 1) (σ 19) g f)) → k x) (N : Int) (fun x hx ih x0 hno => ?_) 0 (by omega) (by omega) (fun g hg => absurd hg (by omega))
  · exact key
  · refine hk x (sx_fields ?_)
    rw [← hN]
    refine ⟨by omega, by omega, fun d => h1 c (fun g hg => hno g (by omega)), fun d => ⟨by omega, by omega, ?_⟩⟩
    have ex : ((x.toNat : Nat) : Int) = x := by omega
    have dx := hD x.toNat (by omega)
    have df := hD f hf
    have nx : ¬ (σ 19 f < σ 19 x.toNat ∧ Hd (σ 7 1) (σ 19) x.toNat f) → k (x + 1) := by
      intro hn
      refine ih (x + 1) (by omega) (by omega) (by omega) (fun g hg => ?_)
      by_cases cg : (g : Int) < x
      · exact hno g cg
      · have eg : g = x.toNat := by omega
        rw [eg]; exact hn
    refine ⟨by omega, by omega, fun d2 => nx (fun q => by have := q.1; omega), fun d2 => ?_⟩
    have hb := sx_ballHolds (σ := σ) (Post := fun r39 => xR r39 ∧ (r39 = 0 → k (x + 1)) ∧ (r39 ≠ 0 → Post 0)) hG hN hD (g := x.toNat) (f := f) (by omega) hf (fun q => ⟨by omega, fun w => absurd w (by omega), fun _ => h0 (Or.inr ⟨x.toNat, by omega, d2, q⟩)⟩) (fun q => ⟨by omega, fun _ => nx (fun w => q w.2), fun w => absurd rfl w⟩)
    rw [ex] at hb; exact hb
