/-! how far inside -/
def sq2 (a b : Int) : Int := a * a + b * b
/-- d is the depth of the field x, y of the heap -/
def Dp (w h : Int) (p : Nat → Int) (x y d : Int) : Prop := (∃ X Y : Int, -1 ≤ X ∧ X ≤ w ∧ -1 ≤ Y ∧ Y ≤ h ∧ aV w h p X Y = 0 ∧ d = sq2 (x - X) (y - Y)) ∧ ∀ X Y : Int, -1 ≤ X → X ≤ w → -1 ≤ Y → Y ≤ h → aV w h p X Y = 0 → d ≤ sq2 (x - X) (y - Y)
theorem Dp_u {w h : Int} {p : Nat → Int} {x y d d' : Int} (h1 : Dp w h p x y d) (h2 : Dp w h p x y d') : d = d' := by
  obtain ⟨⟨X, Y, a1, a2, a3, a4, a5, a6⟩, a7⟩ := h1
  obtain ⟨⟨X', Y', b1, b2, b3, b4, b5, b6⟩, b7⟩ := h2
  have := a7 X' Y' b1 b2 b3 b4 b5
  have := b7 X Y a1 a2 a3 a4 a5
  omega
theorem sq_nn (a : Int) : 0 ≤ a * a := by
  rcases Int.lt_or_le a 0 with c | c
  · exact Int.le_of_lt (Int.mul_pos_of_neg_of_neg c c)
  · exact Int.mul_nonneg c c
theorem sq_ge {a r : Int} (hr : 0 ≤ r) (h : r ≤ a ∨ a ≤ -r) : r * r ≤ a * a := by
  rcases h with h | h
  · exact Int.mul_le_mul h h hr (by omega)
  · have e : a * a = (-a) * (-a) := by rw [Int.neg_mul_neg]
    rw [e]; exact Int.mul_le_mul (by omega) (by omega) hr (by omega)
theorem sq_bd {a : Int} {B : Nat} (h1 : -(B : Int) ≤ a) (h2 : a ≤ B) : 0 ≤ a * a ∧ a * a ≤ ((B * B : Nat) : Int) := ⟨sq_nn a, (mb h1 h2 h1 h2).2⟩
theorem aV_out {w h : Int} {p : Nat → Int} {X Y : Int} (c : ¬ (0 ≤ X ∧ X < w ∧ 0 ≤ Y ∧ Y < h)) : aV w h p X Y = 0 := if_neg c
/-- the depth that both tell: of a field f below the number of fields -/
def Dv (w h : Int) (p : Nat → Int) (f : Nat) (d : Int) : Prop := (p f = 0 → d = 0) ∧ (p f ≠ 0 → Dp w h p ((f : Int) % w) ((f : Int) / w) d)
theorem Dv_u {w h : Int} {p : Nat → Int} {f : Nat} {d d' : Int} (h1 : Dv w h p f d) (h2 : Dv w h p f d') : d = d' := by
  by_cases c : p f = 0
  · rw [h1.1 c, h2.1 c]
  · exact Dp_u (h1.2 c) (h2.2 c)
theorem sm_depthOf {σ : xSt} {Post : Int → Prop} (hG : GOk (σ 0 5) (σ 0 6) (σ 4)) {f : Nat} (hf : (f : Int) < σ 0 5 * σ 0 6) (hp : ∀ d, 0 ≤ d → d ≤ 400 → Dv (σ 0 5) (σ 0 6) (σ 4) f d → Post d) : wp_X10_depthOf (f : Int) σ Post := by
  have hN := hG.N
  obtain ⟨w1, w2, w3, w4, -⟩ := id hG
  have xf := fxy (w := σ 0 5) (h := σ 0 6) (f := (f : Int)) w1 (by omega) hf
  have ef : ((f : Int)).toNat = f := by omega
  unfold wp_X10_depthOf
  rw [ef, tmod_e (by omega), tdiv_e (by omega)]
  refine ⟨by omega, ?_⟩
  intro k hk
  -- L is the least by now: m0, or one of those looked at
  have walk : ∀ m0 : Int, 0 ≤ m0 → m0 ≤ 1000000 → (∀ d, (d = m0 ∨ ∃ X Y : Int, -1 ≤ X ∧ X ≤ σ 0 5 ∧ -1 ≤ Y ∧ Y ≤ σ 0 6 ∧ aV (σ 0 5) (σ 0 6) (σ 4) X Y = 0 ∧ d = sq2 ((f : Int) % σ 0 5 - X) ((f : Int) / σ 0 5 - Y)) → d ≤ m0 → (∀ X Y : Int, -1 ≤ X → X ≤ σ 0 5 → -1 ≤ Y → Y ≤ σ 0 6 → aV (σ 0 5) (σ 0 6) (σ 4) X Y = 0 → d ≤ sq2 ((f : Int) % σ 0 5 - X) ((f : Int) / σ 0 5 - Y)) → Post d) → k m0 := by
    intro m0 m1 m2 hend
    refine hk m0 ?_
    intro kb hkb
    have bsq : ∀ X Y : Int, -1 ≤ X → X ≤ σ 0 5 → -1 ≤ Y → Y ≤ σ 0 6 → 0 ≤ sq2 ((f : Int) % σ 0 5 - X) ((f : Int) / σ 0 5 - Y) ∧ sq2 ((f : Int) % σ 0 5 - X) ((f : Int) / σ 0 5 - Y) ≤ 400 := by
      intro X Y q1 q2 q3 q4
      have r1 := sq_bd (a := (f : Int) % σ 0 5 - X) (B := 13) (by omega) (by omega)
      have r2 := sq_bd (a := (f : Int) / σ 0 5 - Y) (B := 13) (by omega) (by omega)
      unfold sq2; omega
    have key := lpU (P := fun y => -1 ≤ y → ∀ L : Int, 0 ≤ L → L ≤ m0 → (L = m0 ∨ ∃ X Y : Int, -1 ≤ X ∧ X ≤ σ 0 5 ∧ -1 ≤ Y ∧ Y ≤ σ 0 6 ∧ aV (σ 0 5) (σ 0 6) (σ 4) X Y = 0 ∧ L = sq2 ((f : Int) % σ 0 5 - X) ((f : Int) / σ 0 5 - Y)) → (∀ X Y : Int, -1 ≤ X → X ≤ σ 0 5 → -1 ≤ Y → Y < y → aV (σ 0 5) (σ 0 6) (σ 4) X Y = 0 → L ≤ sq2 ((f : Int) % σ 0 5 - X) ((f : Int) / σ 0 5 - Y)) → kb L y) (σ 0 6 + 1) (fun y hy ih y0 L L0 L1 hL hm => ?_) (-1) (by omega) (by omega) m0 m1 (Int.le_refl _) (Or.inl rfl) (fun X Y _ _ q1 q2 => absurd q2 (by omega))
    · exact key
    · refine hkb L y ⟨by omega, by omega, fun c => ?_, fun c => ?_⟩
      · exact hend L hL L1 (fun X Y q1 q2 q3 q4 q5 => hm X Y q1 q2 q3 (by omega) q5)
      · intro kc hkc
        have key2 := lpU (P := fun x => -1 ≤ x → ∀ L : Int, 0 ≤ L → L ≤ m0 → (L = m0 ∨ ∃ X Y : Int, -1 ≤ X ∧ X ≤ σ 0 5 ∧ -1 ≤ Y ∧ Y ≤ σ 0 6 ∧ aV (σ 0 5) (σ 0 6) (σ 4) X Y = 0 ∧ L = sq2 ((f : Int) % σ 0 5 - X) ((f : Int) / σ 0 5 - Y)) → (∀ X Y : Int, -1 ≤ X → X ≤ σ 0 5 → -1 ≤ Y → (Y < y ∨ (Y = y ∧ X < x)) → aV (σ 0 5) (σ 0 6) (σ 4) X Y = 0 → L ≤ sq2 ((f : Int) % σ 0 5 - X) ((f : Int) / σ 0 5 - Y)) → kc L x) (σ 0 5 + 1) (fun x hx ih2 x0 L L0 L1 hL hm => ?_) (-1) (by omega) (by omega) L L0 L1 hL (fun X Y q1 q2 q3 q4 q5 => hm X Y q1 q2 q3 (by omega) q5)
        · exact key2
        · refine hkc L x ⟨by omega, by omega, fun d => ?_, fun d => ⟨by omega, by omega, by omega, ?_⟩⟩
          · exact ih (y + 1) (by omega) (by omega) (by omega) L L0 L1 hL (fun X Y q1 q2 q3 q4 q5 => hm X Y q1 q2 q3 (by omega) q5)
          · intro z5 e5
            refine ⟨by omega, by omega, by omega, ?_⟩
            intro z6 e6 z7 e7
            have e7' : z7 = sq2 ((f : Int) % σ 0 5 - x) ((f : Int) / σ 0 5 - y) := by rw [e7, e5, e6]; rfl
            have bz := bsq x y x0 d y0 c
            rw [← e7'] at bz
            refine sm_isOf hG (by omega) (by omega) ?_
            have v01 := aV_01 hG x y
            refine ⟨r01 v01, fun d2 => ?_, fun d2 => ⟨by omega, by omega, fun d3 => ?_, fun d3 => ?_⟩⟩
            · refine ih2 (x + 1) (by omega) (by omega) (by omega) L L0 L1 hL (fun X Y q1 q2 q3 q4 q5 => ?_)
              by_cases cc : Y = y ∧ X = x
              · rw [cc.1, cc.2] at q5; exact absurd q5 d2
              · exact hm X Y q1 q2 q3 (by omega) q5
            · refine ih2 (x + 1) (by omega) (by omega) (by omega) L L0 L1 hL (fun X Y q1 q2 q3 q4 q5 => ?_)
              by_cases cc : Y = y ∧ X = x
              · rw [cc.1, cc.2, ← e7']; exact d3
              · exact hm X Y q1 q2 q3 (by omega) q5
            · refine ih2 (x + 1) (by omega) (by omega) (by omega) z7 bz.1 (by omega) (Or.inr ⟨x, y, x0, d, y0, c, d2, e7'⟩) (fun X Y q1 q2 q3 q4 q5 => ?_)
              by_cases cc : Y = y ∧ X = x
              · rw [cc.1, cc.2, ← e7']; exact Int.le_refl _
              · have := hm X Y q1 q2 q3 (by omega) q5; omega
  refine ⟨r01 (hG.2.2.2.2 _), fun c => walk 0 (by omega) (by omega) (fun d h1 h2 h3 => ?_), fun c => walk 1000000 (by omega) (by omega) (fun d h1 h2 h3 => ?_)⟩
  · have d0 : d = 0 := by
      rcases h1 with q | ⟨X, Y, q1, q2, q3, q4, q5, q6⟩
      · exact q
      · have r1 := sq_nn ((f : Int) % σ 0 5 - X)
        have r2 := sq_nn ((f : Int) / σ 0 5 - Y)
        unfold sq2 at q6; omega
    exact hp d (by omega) (by omega) ⟨fun _ => d0, fun q => absurd c q⟩
  · have h4 := h3 (-1) (-1) (by omega) (by omega) (by omega) (by omega) (aV_out (by omega))
    have r1 := sq_bd (a := (f : Int) % σ 0 5 - -1) (B := 13) (by omega) (by omega)
    have r2 := sq_bd (a := (f : Int) / σ 0 5 - -1) (B := 13) (by omega) (by omega)
    unfold sq2 at h4
    rcases h1 with q | ⟨X, Y, q1, q2, q3, q4, q5, q6⟩
    · omega
    · have r3 := sq_nn ((f : Int) % σ 0 5 - X)
      have r4 := sq_nn ((f : Int) / σ 0 5 - Y)
      refine hp d ?_ (by omega) ⟨fun w => absurd w c, fun _ => ⟨⟨X, Y, q1, q2, q3, q4, q5, q6⟩, h3⟩⟩
      unfold sq2 at q6; omega
