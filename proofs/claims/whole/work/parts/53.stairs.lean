/-! lines and columns in one piece -/
def rn (v : Int → Int) (i : Nat) : Int := bI (v (i : Int) ≠ 0 ∧ v ((i : Int) - 1) = 0)
theorem rn_01 (v : Int → Int) (i : Nat) : rn v i = 0 ∨ rn v i = 1 := bI_01 _
theorem rn_ext {v : Int → Int} {n m : Nat} (hnm : n ≤ m) (h : ∀ i : Nat, n ≤ i → v (i : Int) = 0) : sI (rn v) m = sI (rn v) n := by
  induction m with
  | zero => have e : n = 0 := by omega
            rw [e]
  | succ m ih =>
    by_cases c : n = m + 1
    · rw [c]
    · have z : rn v m = 0 := bI_f (fun q => q.1 (h m (by omega)))
      show sI (rn v) m + rn v m = _
      rw [z, ih (by omega)]; omega
theorem sx_runs {σ : xSt} {Post : Int → Prop} (hG : GOk (σ 7 1) (σ 7 2) (σ 8)) {a1 a2 a3 : Int} (h30 : 0 ≤ a3) (h31 : a3 < 8) {v : Int → Int} (hv : ∀ k : Int, 0 ≤ k → k < 12 → aV (σ 7 1) (σ 7 2) (σ 8) (a1 + k * xRt a3.toNat) (a2 + k * xUp a3.toNat) = v k ∧ xR (a1 + k * xRt a3.toNat) ∧ xR (a2 + k * xUp a3.toNat)) (hv1 : v (-1) = 0) (hp : Post (sI (rn v) 12)) : wp_X2_runsFrom a1 a2 a3 σ Post := by
  unfold wp_X2_runsFrom
  intro k hk
  have key := lpU (P := fun x => 0 ≤ x → k (sI (rn v) x.toNat) (v (x - 1)) x) 12 (fun x hx ih x0 => ?_) 0 (by omega) (by omega)
  · have e : v (0 - 1) = 0 := hv1
    rw [e] at key; exact key
  · have ex : ((x.toNat : Nat) : Int) = x := by omega
    have e1 : x + 1 - 1 = x := by omega
    refine hk _ _ x ⟨by omega, fun c => ?_, fun c => ⟨by omega, by omega, ?_⟩⟩
    · have e : x = 12 := by omega
      subst e; exact hp
    · obtain ⟨q1, q2, q3⟩ := hv x x0 c
      have vb : v x = 0 ∨ v x = 1 := by rw [← q1]; exact aV_01 hG _ _
      refine sx_holdsAt hG q2 q3 ?_
      rw [q1]
      have st := ih (x + 1) (by omega) (by omega) (by omega)
      rw [sI_s _ x0, e1] at st
      refine ⟨r01 vb, fun d => ?_, fun d => ⟨?_, fun d2 => ?_, fun d2 => ?_⟩⟩
      · have z : rn v x.toNat = 0 := bI_f (fun q => q.1 (by rw [ex]; exact d))
        rw [z, Int.add_zero] at st; exact st
      · by_cases c0 : x = 0
        · rw [c0]
          have e : v (0 - 1) = 0 := hv1
          rw [e]; omega
        · obtain ⟨w1, -, -⟩ := hv (x - 1) (by omega) (by omega)
          rw [← w1]; exact r01 (aV_01 hG _ _)
      · have z : rn v x.toNat = 0 := bI_f (fun q => d2 (by have := q.2; rw [ex] at this; exact this))
        rw [z, Int.add_zero] at st; exact st
      · have z : rn v x.toNat = 1 := bI_t ⟨by rw [ex]; exact d, by rw [ex]; exact d2⟩
        rw [z] at st; exact st
def cC (w h : Int) (p : Nat → Int) (x : Int) : Int := sI (rn (fun k => aV w h p x k)) h.toNat
def cL (w h : Int) (p : Nat → Int) (y : Int) : Int := sI (rn (fun k => aV w h p k y)) w.toNat
def Sts (w h : Int) (p : Nat → Int) : Prop := (∀ y : Int, 0 ≤ y → y < h → cL w h p y ≤ 1) ∧ (∀ x : Int, 0 ≤ x → x < w → cC w h p x ≤ 1)
theorem rn_bd (v : Int → Int) (n : Nat) : 0 ≤ sI (rn v) n ∧ sI (rn v) n ≤ n := sI_01 (rn_01 v) n
theorem sx_hasStairs {σ : xSt} {Post : Int → Prop} (hG : GOk (σ 7 1) (σ 7 2) (σ 8)) (hp : Post (cI (Sts (σ 7 1) (σ 7 2) (σ 8)))) : wp_X2_hasStairs σ Post := by
  obtain ⟨g1, g2, g3, g4, -⟩ := id hG
  unfold wp_X2_hasStairs
  intro k hk
  have key := lpU (P := fun x => 0 ≤ x → (∀ i : Int, 0 ≤ i → i < x → cC (σ 7 1) (σ 7 2) (σ 8) i ≤ 1) → k x) (σ 7 1) (fun x hx ih x0 hc => ?_) 0 (by omega) (by omega) (fun i h1 h2 => absurd h2 (by omega))
  · exact key
  · refine hk x ⟨by omega, by omega, fun c => ?_, fun c => ?_⟩
    · have ex : x = σ 7 1 := by omega
      rw [ex] at hc
      intro k2 hk2
      have key2 := lpU (P := fun y => 0 ≤ y → (∀ i : Int, 0 ≤ i → i < y → cL (σ 7 1) (σ 7 2) (σ 8) i ≤ 1) → k2 y) (σ 7 2) (fun y hy ih2 y0 hl => ?_) 0 (by omega) (by omega) (fun i h1 h2 => absurd h2 (by omega))
      · exact key2
      · refine hk2 y ⟨by omega, by omega, fun d => ?_, fun d => ?_⟩
        · have ey : y = σ 7 2 := by omega
          rw [ey] at hl
          rw [cI_t ⟨hl, hc⟩] at hp; exact hp
        · refine sx_runs hG (by omega) (by omega) (v := fun k => aV (σ 7 1) (σ 7 2) (σ 8) k y) (fun k k0 k1 => ?_) (by show aV _ _ _ (-1) y = 0; unfold aV; rw [if_neg (by omega)]) ?_
          · show aV _ _ _ (0 + k * 1) (y + k * 0) = _ ∧ xR (0 + k * 1) ∧ xR (y + k * 0)
            rw [Int.mul_one, Int.mul_zero, Int.add_zero, Int.zero_add]
            exact ⟨rfl, by omega, by omega⟩
          · have e : sI (rn (fun k => aV (σ 7 1) (σ 7 2) (σ 8) k y)) 12 = cL (σ 7 1) (σ 7 2) (σ 8) y := rn_ext (by omega) (fun i hi => by show aV _ _ _ (i : Int) y = 0; unfold aV; rw [if_neg (by omega)])
            rw [e]
            have b := rn_bd (fun k => aV (σ 7 1) (σ 7 2) (σ 8) k y) (σ 7 1).toNat
            have b' : 0 ≤ cL (σ 7 1) (σ 7 2) (σ 8) y ∧ cL (σ 7 1) (σ 7 2) (σ 8) y ≤ (σ 7 1).toNat := b
            refine ⟨by omega, fun q => ih2 (y + 1) (by omega) (by omega) (by omega) (fun i h1 h2 => ?_), fun q => ?_⟩
            · by_cases ci : i = y
              · rw [ci]; exact q
              · exact hl i h1 (by omega)
            · rw [cI_f (fun s => absurd (s.1 y y0 d) (by omega))] at hp; exact hp
    · refine sx_runs hG (by omega) (by omega) (v := fun k => aV (σ 7 1) (σ 7 2) (σ 8) x k) (fun k k0 k1 => ?_) (by show aV _ _ _ x (-1) = 0; unfold aV; rw [if_neg (by omega)]) ?_
      · show aV _ _ _ (x + k * 0) (0 + k * 1) = _ ∧ xR (x + k * 0) ∧ xR (0 + k * 1)
        rw [Int.mul_one, Int.mul_zero, Int.add_zero, Int.zero_add]
        exact ⟨rfl, by omega, by omega⟩
      · have e : sI (rn (fun k => aV (σ 7 1) (σ 7 2) (σ 8) x k)) 12 = cC (σ 7 1) (σ 7 2) (σ 8) x := rn_ext (by omega) (fun i hi => by show aV _ _ _ x (i : Int) = 0; unfold aV; rw [if_neg (by omega)])
        rw [e]
        have b := rn_bd (fun k => aV (σ 7 1) (σ 7 2) (σ 8) x k) (σ 7 2).toNat
        have b' : 0 ≤ cC (σ 7 1) (σ 7 2) (σ 8) x ∧ cC (σ 7 1) (σ 7 2) (σ 8) x ≤ (σ 7 2).toNat := b
        refine ⟨by omega, fun q => ih (x + 1) (by omega) (by omega) (by omega) (fun i h1 h2 => ?_), fun q => ?_⟩
        · by_cases ci : i = x
          · rw [ci]; exact q
          · exact hc i h1 (by omega)
        · rw [cI_f (fun s => absurd (s.2 x x0 c) (by omega))] at hp; exact hp
theorem sm_hasStairs {σ : xSt} {Post : Int → Prop} (hG : GOk (σ 0 5) (σ 0 6) (σ 4)) (hp : Post (cI (Sts (σ 0 5) (σ 0 6) (σ 4)))) : wp_X10_hasStairs σ Post := by
  obtain ⟨g1, g2, g3, g4, -⟩ := id hG
  unfold wp_X10_hasStairs
  intro k hk
  have line : ∀ (t : Int) (b : Int), (t = 0 ∨ t = 1) → (b = 0 ∨ b = 1) → ∀ (K M : Int) (V : Int → Int → Int), (t = 0 → K = σ 0 6 ∧ M = σ 0 5 ∧ V = fun i j => aV (σ 0 5) (σ 0 6) (σ 4) j i) → (t ≠ 0 → K = σ 0 5 ∧ M = σ 0 6 ∧ V = fun i j => aV (σ 0 5) (σ 0 6) (σ 4) i j) → (∀ b', (b' = 0 ∨ b' = 1) → (b' ≠ 0 ↔ (b ≠ 0 ∧ ∀ i : Int, 0 ≤ i → i < K → sI (rn (V i)) M.toNat ≤ 1)) → k b' (t + 1)) → k b t := by
    intro t b ht hb K M V t0 t1 nx
    have hK : 1 ≤ K ∧ K ≤ 12 ∧ 1 ≤ M ∧ M ≤ 12 := by
      by_cases c : t = 0
      · obtain ⟨a1, a2, -⟩ := t0 c; omega
      · obtain ⟨a1, a2, -⟩ := t1 c; omega
    have Vb : ∀ i j, V i j = 0 ∨ V i j = 1 := by
      intro i j
      by_cases c : t = 0
      · obtain ⟨-, -, e⟩ := t0 c; rw [e]; exact aV_01 hG _ _
      · obtain ⟨-, -, e⟩ := t1 c; rw [e]; exact aV_01 hG _ _
    refine hk b t ⟨by omega, fun q => absurd q (by omega), fun _ => ?_⟩
    intro k2 hk2
    have key := lpU (P := fun x => 0 ≤ x → ∀ b1, (b1 = 0 ∨ b1 = 1) → (b1 ≠ 0 ↔ (b ≠ 0 ∧ ∀ i : Int, 0 ≤ i → i < x → sI (rn (V i)) M.toNat ≤ 1)) → k2 b1 x) K (fun x hx ih x0 b1 hb1 hbi => ?_) 0 (by omega) (by omega) b hb ⟨fun q => ⟨q, fun i h1 h2 => absurd h2 (by omega)⟩, fun q => q.1⟩
    · exact key
    · refine hk2 b1 x ?_
      intro k3 hk3
      have body : k3 K := by
        refine hk3 K ⟨by omega, by omega, fun c => ?_, fun c => ?_⟩
        · have ex : x = K := by omega
          rw [ex] at hbi
          exact nx b1 hb1 hbi
        · intro k4 hk4
          have key4 := lpU (P := fun y => 0 ≤ y → k4 (sI (rn (V x)) y.toNat) y) M (fun y hy ih4 y0 => ?_) 0 (by omega) (by omega)
          · exact key4
          · refine hk4 _ y ?_
            intro k5 hk5
            have body5 : k5 M := by
              refine hk5 M ⟨by omega, by omega, fun d => ?_, fun d => ?_⟩
              · have ey : y = M := by omega
                rw [ey]
                have bd := rn_bd (V x) M.toNat
                have nz : ∀ b2 : Int, (b2 = 0 ∨ b2 = 1) → (b2 ≠ 0 ↔ (b1 ≠ 0 ∧ sI (rn (V x)) M.toNat ≤ 1)) → k2 b2 (x + 1) := by
                  intro b2 h2 h2i
                  refine ih (x + 1) (by omega) (by omega) (by omega) b2 h2 ?_
                  rw [h2i, hbi]
                  constructor
                  · rintro ⟨⟨w1, w2⟩, w3⟩
                    refine ⟨w1, fun i i1 i2 => ?_⟩
                    by_cases ci : i = x
                    · rw [ci]; exact w3
                    · exact w2 i i1 (by omega)
                  · rintro ⟨w1, w2⟩
                    exact ⟨⟨w1, fun i i1 i2 => w2 i i1 (by omega)⟩, w2 x x0 (by omega)⟩
                exact ⟨r01 hb1, fun q => nz 0 (Or.inl rfl) ⟨fun w => absurd rfl w, fun w => absurd q w.1⟩, fun q => ⟨by omega, fun q2 => nz 0 (Or.inl rfl) ⟨fun w => absurd rfl w, fun w => absurd w.2 (by omega)⟩, fun q2 => nz 1 (Or.inr rfl) ⟨fun _ => ⟨q, by omega⟩, fun _ => by omega⟩⟩⟩
              · have ey : ((y.toNat : Nat) : Int) = y := by omega
                have st := ih4 (y + 1) (by omega) (by omega) (by omega)
                rw [sI_s _ y0] at st
                intro k6 hk6
                have b6 : k6 (V x y) := by
                  refine hk6 _ ?_
                  intro k7 hk7
                  have b7 : k7 (V x (y - 1)) := by
                    refine hk7 _ ⟨r01 (Vb _ _), fun q => ?_, fun q => ⟨r01 (Vb _ _), fun q2 => ?_, fun q2 => ?_⟩⟩
                    · have z : rn (V x) y.toNat = 0 := bI_f (fun w => w.1 (by rw [ey]; exact q))
                      rw [z] at st; exact st
                    · have z : rn (V x) y.toNat = 0 := bI_f (fun w => q2 (by have := w.2; rw [ey] at this; exact this))
                      rw [z] at st; exact st
                    · have z : rn (V x) y.toNat = 1 := bI_t ⟨by rw [ey]; exact q, by rw [ey]; exact q2⟩
                      rw [z] at st; exact st
                  refine ⟨by omega, fun c2 => ?_, fun c2 => ?_⟩
                  · obtain ⟨a1, a2, e⟩ := t1 c2
                    refine sm_isOf hG (by omega) (by omega) ?_
                    rw [e] at b7; exact b7
                  · obtain ⟨a1, a2, e⟩ := t0 c2
                    refine sm_isOf hG (by omega) (by omega) ?_
                    rw [e] at b7; exact b7
                refine ⟨by omega, fun c2 => ?_, fun c2 => ?_⟩
                · obtain ⟨a1, a2, e⟩ := t1 c2
                  refine sm_isOf hG (by omega) (by omega) ?_
                  rw [e] at b6; exact b6
                · obtain ⟨a1, a2, e⟩ := t0 c2
                  refine sm_isOf hG (by omega) (by omega) ?_
                  rw [e] at b6; exact b6
            refine ⟨by omega, fun c2 => ?_, fun c2 => ?_⟩
            · obtain ⟨a1, a2, e⟩ := t1 c2
              rw [a2] at body5; exact body5
            · obtain ⟨a1, a2, e⟩ := t0 c2
              rw [a2] at body5; exact body5
      refine ⟨by omega, fun c2 => ?_, fun c2 => ?_⟩
      · obtain ⟨a1, a2, e⟩ := t1 c2
        rw [a1] at body; exact body
      · obtain ⟨a1, a2, e⟩ := t0 c2
        rw [a1] at body; exact body
  refine line 0 1 (Or.inl rfl) (Or.inr rfl) (σ 0 6) (σ 0 5) (fun i j => aV (σ 0 5) (σ 0 6) (σ 4) j i) (fun _ => ⟨rfl, rfl, rfl⟩) (fun q => absurd rfl q) (fun b1 hb1 h1 => ?_)
  refine line 1 b1 (Or.inr rfl) hb1 (σ 0 5) (σ 0 6) (fun i j => aV (σ 0 5) (σ 0 6) (σ 4) i j) (fun q => absurd q (by omega)) (fun _ => ⟨rfl, rfl, rfl⟩) (fun b2 hb2 h2 => ?_)
  have hS : b2 ≠ 0 ↔ Sts (σ 0 5) (σ 0 6) (σ 4) := by
    rw [h2, h1]
    exact ⟨fun q => ⟨q.1.2, q.2⟩, fun q => ⟨⟨by omega, q.1⟩, q.2⟩⟩
  refine hk b2 _ ⟨by omega, fun _ => ⟨hb2, ?_⟩, fun q => absurd q (by omega)⟩
  by_cases c : Sts (σ 0 5) (σ 0 6) (σ 4)
  · rw [cI_t c] at hp
    have e : b2 = 1 := hb2.resolve_left (hS.mpr c)
    rw [e]; exact hp
  · rw [cI_f c] at hp
    have e : b2 = 0 := by
      rcases hb2 with q | q
      · exact q
      · exact absurd (hS.mp (by omega)) c
    rw [e]; exact hp
