/-! the reference's groups, walked -/
theorem xAbs_bd {z B : Int} (h1 : -B ≤ z) (h2 : z ≤ B) : 0 ≤ xAbs z ∧ xAbs z ≤ B := by unfold xAbs; split <;> omega
theorem g0_at (a : Int) (m : Nat) : ∀ i : Nat, i < 9 → (g0 a m).getD i 0 = if i = 4 then -999 else if bt m i = a then (i : Int) else -999
  | 0, _ | 1, _ | 2, _ | 3, _ | 4, _ | 5, _ | 6, _ | 7, _ | 8, _ => by simp [g0]
  | n + 9, h => absurd h (by omega)
theorem sm_groups {σ : xSt} {Post : Int → xSt → Prop} {a : Int} (ha : a = 0 ∨ a = 1) {m : Nat} (h10 : ∀ i : Nat, i < 9 → i ≠ 4 → σ 10 i = bt m i) (hp : ∀ s', eqx [11] σ s' → Post (gC a m) s') : wp_X10_groups a σ Post := by
  unfold wp_X10_groups
  intro k hk
  have key := lpU (P := fun x => 0 ≤ x → ∀ s : xSt, eqx [11] σ s → (∀ i : Nat, (i : Int) < x → s 11 i = (g0 a m).getD i 0) → k x s) 9 (fun x hx ih x0 s qs hs => ?_) 0 (by omega) (by omega) σ (eqx_rf _ _) (fun i hi => absurd hi (by omega))
  · exact key
  · refine hk x s ⟨by omega, fun c => ?_, fun c => ?_⟩
    · have r0 : grel s (g0 a m) := by
        refine ⟨rfl, fun i hi => ?_⟩
        have e := hs i (by omega)
        have e2 := g0_at a m i hi
        refine ⟨e, ?_⟩
        rw [e, e2]
        split
        · omega
        · split <;> omega
      clear hs
      intro k2 hk2
      generalize hF : grl a 9 (g0 a m) = F
      have fin : ∀ u, eqx [11] σ u → grel u F → k2 9 u := by
        intro u qu ru
        refine hk2 9 u ⟨by omega, fun _ => ?_, fun q => absurd q (by omega)⟩
        intro k3 hk3
        have key3 := lpU (P := fun z => 0 ≤ z → k3 (sI (gct a F) z.toNat) z) 9 (fun z hz ihz z0 => ?_) 0 (by omega) (by omega)
        · exact key3
        · refine hk3 _ z ⟨by omega, fun d => ?_, fun d => ?_⟩
          · have ez : z = 9 := by omega
            subst ez
            have hp' := hp u qu
            rw [gC, hF] at hp'
            exact hp'
          · have st := ihz (z + 1) (by omega) (by omega) (by omega)
            rw [sI_s _ z0] at st
            have ez : ((z.toNat : Nat) : Int) = z := by omega
            have uz := ru.2 z.toNat (by omega)
            intro k4 hk4
            have one : ∀ (y : Int) (v : Int), 1 ≤ y → y < 9 → (v = 0 ∨ v = 1) → (∀ v' : Int, (v' = 0 ∨ v' = 1) → (v' ≠ 0 ↔ (v ≠ 0 ∨ F.getD y.toNat 0 = z)) → k4 v' (y + 2)) → k4 v y := by
              intro y v y1 y9 hv nx
              have uy := ru.2 y.toNat (by omega)
              refine hk4 v y ⟨by omega, fun q => absurd q (by omega), fun _ => ⟨r01 hv, fun q => nx 1 (Or.inr rfl) ⟨fun _ => Or.inl q, fun _ => by omega⟩, fun q => ⟨by omega, by omega, by omega, fun w => nx 0 (Or.inl rfl) ⟨fun e => absurd rfl e, fun e => e.elim (fun e1 => absurd q e1) (fun e1 => absurd (uy.1.trans e1) w)⟩, fun w => nx 1 (Or.inr rfl) ⟨fun _ => Or.inr (uy.1.symm.trans w), fun _ => by omega⟩⟩⟩⟩
            refine one 1 a (by omega) (by omega) ha (fun v1 b1 h1 => one 3 v1 (by omega) (by omega) b1 (fun v2 b2 h2 => one 5 v2 (by omega) (by omega) b2 (fun v3 b3 h3 => one 7 v3 (by omega) (by omega) b3 (fun v4 b4 h4 => ?_))))
            have all : v4 ≠ 0 ↔ (a ≠ 0 ∨ F.getD 1 0 = z ∨ F.getD 3 0 = z ∨ F.getD 5 0 = z ∨ F.getD 7 0 = z) := by
              rw [h4, h3, h2, h1]
              show (((( a ≠ 0 ∨ F.getD 1 0 = z) ∨ F.getD 3 0 = z) ∨ F.getD 5 0 = z) ∨ F.getD 7 0 = z) ↔ _
              simp only [or_assoc]
            refine hk4 v4 9 ⟨by omega, fun _ => ⟨by omega, by omega, by omega, fun q => ?_, fun q => ⟨r01 b4, fun w => ?_, fun w => ?_⟩⟩, fun q => absurd q (by omega)⟩
            · rw [gct, ez, if_neg (fun e => q (uz.1.trans e.1))] at st; exact st
            · rw [gct, ez, if_neg (fun e => all.mpr e.2 w)] at st; exact st
            · rw [gct, ez, if_pos ⟨uz.1.symm.trans q, all.mp w⟩] at st; exact st
      have key2 := lpU (P := fun r => 0 ≤ r → ∀ (u : xSt) (L : List Int), eqx [11] σ u → grel u L → grl a (9 - r).toNat L = F → k2 r u) 9 (fun r hr ihr r0' u L qu ru hL => ?_) 0 (by omega) (by omega) s (g0 a m) qs r0 (by rw [show ((9 : Int) - 0).toNat = 9 from by omega]; exact hF)
      · exact key2
      · by_cases c9 : 9 ≤ r
        · have er : r = 9 := by omega
          subst er
          rw [show ((9 : Int) - 9).toNat = 0 from by omega] at hL
          have hL' : L = F := hL
          rw [hL'] at ru
          exact fin u qu ru
        · refine hk2 r u ⟨by omega, fun q => absurd q c9, fun _ => ?_⟩
          have e9 : (9 - r).toNat = (9 - (r + 1)).toNat + 1 := by omega
          rw [e9, grl] at hL
          generalize hLr : gxl a 9 L = Lr at hL
          intro k3 hk3
          have key3 := lpU (P := fun x => 0 ≤ x → ∀ (v : xSt) (L : List Int), eqx [11] σ v → grel v L → gxl a (9 - x).toNat L = Lr → k3 x v) 9 (fun x hx ihx x0 v L qv rv hLx => ?_) 0 (by omega) (by omega) u L qu ru (by rw [show ((9 : Int) - 0).toNat = 9 from by omega]; exact hLr)
          · exact key3
          · refine hk3 x v ⟨by omega, fun d => ?_, fun d => ?_⟩
            · have ex : (9 - x).toNat = 0 := by omega
              rw [ex, gxl] at hLx
              rw [hLx] at rv
              exact ihr (r + 1) (by omega) (by omega) (by omega) v Lr qv rv hL
            · have e9 : (9 - x).toNat = (9 - (x + 1)).toNat + 1 := by omega
              have e8 : 8 - (9 - (x + 1)).toNat = x.toNat := by omega
              rw [e9, gxl, e8] at hLx
              generalize hLy : gyl a x.toNat 9 L = Ly at hLx
              intro k4 hk4
              have key4 := lpU (P := fun y => 0 ≤ y → ∀ (t : xSt) (L : List Int), eqx [11] σ t → grel t L → gyl a x.toNat (9 - y).toNat L = Ly → k4 y t) 9 (fun y hy ihy y0 t L qt rt hLl => ?_) 0 (by omega) (by omega) v L qv rv (by rw [show ((9 : Int) - 0).toNat = 9 from by omega]; exact hLy)
              · exact key4
              · refine hk4 y t ?_
                rw [tmod_e x0, tmod_e y0, tdiv_e x0, tdiv_e y0]
                refine ⟨by omega, fun d2 => ?_, fun d2 => ?_⟩
                · have ey : (9 - y).toNat = 0 := by omega
                  rw [ey, gyl] at hLl
                  rw [hLl] at rt
                  exact ihx (x + 1) (by omega) (by omega) (by omega) t Ly qt rt hLx
                · have e9 : (9 - y).toNat = (9 - (y + 1)).toNat + 1 := by omega
                  have e8 : 8 - (9 - (y + 1)).toNat = y.toNat := by omega
                  rw [e9, gyl, e8] at hLl
                  have tx := rt.2 x.toNat (by omega)
                  have ty := rt.2 y.toNat (by omega)
                  have nx0 : ¬ (adb a x.toNat y.toNat = true ∧ t 11 x.toNat ≠ -999 ∧ t 11 y.toNat ≠ -999 ∧ t 11 y.toNat < t 11 x.toNat) → k4 (y + 1) (xU t 11 x.toNat (t 11 x.toNat)) := by
                    intro q
                    exact ihy (y + 1) (by omega) (by omega) (by omega) _ _ (eqx_tr qt (eqx_up t _ (by simp))) (grel_1 rt (by omega) (by omega) q) hLl
                  have nx1 : adb a x.toNat y.toNat = true → t 11 x.toNat ≠ -999 → t 11 y.toNat ≠ -999 → t 11 y.toNat < t 11 x.toNat → k4 (y + 1) (xU t 11 x.toNat (t 11 y.toNat)) := by
                    intro q1 q2 q3 q4
                    exact ihy (y + 1) (by omega) (by omega) (by omega) _ _ (eqx_tr qt (eqx_up t _ (by simp))) (grel_2 rt (by omega) (by omega) q1 q2 q3 q4) hLl
                  have had : adb a x.toNat y.toNat = true ↔ ((a = 0 → xAbs (x % 3 - y % 3) + xAbs (x / 3 - y / 3) = 1) ∧ (a ≠ 0 → xAbs (x % 3 - y % 3) < 2 ∧ xAbs (x / 3 - y / 3) < 2)) := by
                    have ex : ((x.toNat : Nat) : Int) = x := by omega
                    have ey : ((y.toNat : Nat) : Int) = y := by omega
                    rcases ha with q | q
                    · rw [q]
                      have := ad_0 x.toNat (by omega) y.toNat (by omega)
                      unfold ada at this
                      rw [ex, ey] at this; exact this
                    · rw [q]
                      have := ad_1 x.toNat (by omega) y.toNat (by omega)
                      unfold ada at this
                      rw [ex, ey] at this; exact this
                  have b1 := xAbs_bd (z := x % 3 - y % 3) (B := 2) (by omega) (by omega)
                  have b2 := xAbs_bd (z := x / 3 - y / 3) (B := 2) (by omega) (by omega)
                  refine ⟨by omega, by omega, by omega, by omega, by omega, by omega, sm_size (by omega) ⟨by omega, by omega, by omega, by omega, by omega, by omega, sm_size (by omega) ?_⟩⟩
                  generalize xAbs (x % 3 - y % 3) = A1 at *
                  generalize xAbs (x / 3 - y / 3) = A2 at *
                  intro k5 hk5
                  have go : ∀ v : Int, (v = 0 ∨ v = 1) → (v ≠ 0 ↔ adb a x.toNat y.toNat = true) → k5 v := by
                    intro v hv hva
                    refine hk5 v ⟨by omega, ?_⟩
                    intro k6 hk6
                    have go2 : ∀ w : Int, (w = 0 ∨ w = 1) → (w ≠ 0 → t 11 x.toNat ≠ -999 ∧ t 11 y.toNat ≠ -999 ∧ adb a x.toNat y.toNat = true) → (w = 0 → ¬ (adb a x.toNat y.toNat = true ∧ t 11 x.toNat ≠ -999 ∧ t 11 y.toNat ≠ -999 ∧ t 11 y.toNat < t 11 x.toNat)) → k6 w := by
                      intro w hw w1 w0
                      refine hk6 w ⟨r01 hw, fun q => ⟨by omega, by omega, fun t' e => ?_⟩, fun q => ⟨by omega, by omega, by omega, by omega, fun q2 => ⟨by omega, by omega, fun t' e => ?_⟩, fun q2 => ⟨by omega, by omega, fun t' e => ?_⟩⟩⟩
                      · subst e; exact nx0 (w0 q)
                      · subst e; exact nx0 (fun e => absurd e.2.2.2 (by omega))
                      · subst e; exact nx1 (w1 q).2.2 (w1 q).1 (w1 q).2.1 q2
                    exact ⟨by omega, fun q => go2 0 (Or.inl rfl) (fun e => absurd rfl e) (fun _ e => e.2.1 q), fun q => ⟨by omega, by omega, fun q2 => go2 0 (Or.inl rfl) (fun e => absurd rfl e) (fun _ e => e.2.2.1 q2), fun q2 => ⟨r01 hv, fun q3 => go2 0 (Or.inl rfl) (fun e => absurd rfl e) (fun _ e => hva.mpr e.1 q3), fun q3 => go2 1 (Or.inr rfl) (fun _ => ⟨q, q2, hva.mp q3⟩) (fun e => absurd e (by omega))⟩⟩⟩
                  refine ⟨r01 ha, fun q => ⟨by omega, fun w => go 0 (Or.inl rfl) ⟨fun e => absurd rfl e, fun e => absurd ((had.mp e).1 q) w⟩, fun w => go 1 (Or.inr rfl) ⟨fun _ => had.mpr ⟨fun _ => w, fun e => absurd q e⟩, fun _ => by omega⟩⟩, fun q => ⟨by omega, fun w => go 0 (Or.inl rfl) ⟨fun e => absurd rfl e, fun e => absurd ((had.mp e).2 q).1 (by omega)⟩, fun w => ⟨by omega, fun w2 => go 0 (Or.inl rfl) ⟨fun e => absurd rfl e, fun e => absurd ((had.mp e).2 q).2 (by omega)⟩, fun w2 => go 1 (Or.inr rfl) ⟨fun _ => had.mpr ⟨fun e => absurd e q, fun _ => ⟨w, w2⟩⟩, fun _ => by omega⟩⟩⟩⟩
    · have nx : ∀ v : Int, v = (g0 a m).getD x.toNat 0 → k (x + 1) (xU s 11 x.toNat v) := by
        intro v hv
        refine ih (x + 1) (by omega) (by omega) (by omega) _ (eqx_tr qs (eqx_up s _ (by simp))) (fun i hi => ?_)
        rw [xU_i]
        by_cases ci : i = x.toNat
        · rw [if_pos ci, ci]; exact hv
        · rw [if_neg ci]; exact hs i (by omega)
      have s10 : s 10 = σ 10 := qs 10 (by decide)
      have ga := g0_at a m x.toNat (by omega)
      have ex : ((x.toNat : Nat) : Int) = x := by omega
      rw [ex] at ga
      refine ⟨by omega, fun d => ⟨by omega, fun t e => ?_⟩, fun d => ⟨by omega, ?_⟩⟩
      · subst e
        exact nx _ (by rw [ga, if_pos (by omega)])
      · rw [s10, h10 x.toNat (by omega) (by omega)]
        refine ⟨r01 (bt_01 _ _), r01 ha, fun q => ⟨by omega, fun t e => ?_⟩, fun q => ⟨by omega, fun t e => ?_⟩⟩
        · subst e
          exact nx _ (by rw [ga, if_neg (by omega), if_neg q])
        · subst e
          exact nx _ (by rw [ga, if_neg (by omega), if_pos q])
theorem grl_e {a : Int} {L : List Int} (h : gxl a 9 L = L) (n : Nat) : grl a n L = L := by
  induction n with
  | zero => rfl
  | succ n ih => rw [grl, h]; exact ih
def grq (a : Int) : Nat → List Int → List Int
  | 0, L => L
  | n + 1, L => if gxl a 9 L = L then L else grq a n (gxl a 9 L)
theorem grq_e (a : Int) (n : Nat) (L : List Int) : grl a n L = grq a n L := by
  induction n generalizing L with
  | zero => rfl
  | succ n ih =>
    rw [grq]
    split
    · next h => exact grl_e h _
    · exact ih _
