/-! the reference's corners are the class's -/
theorem bo_app {Z tl : List (Int × Int)} (h : tl ≠ []) : bo (Z ++ tl) = bo tl := by
  induction Z with
  | nil => rfl
  | cons t Z ih =>
    have e : ∃ u r, Z ++ tl = u :: r := by
      cases Z with
      | nil => cases tl with
        | nil => exact absurd rfl h
        | cons u r => exact ⟨u, r, rfl⟩
      | cons u r => exact ⟨u, r ++ tl, rfl⟩
    obtain ⟨u, r, e⟩ := e
    show bo (t :: (Z ++ tl)) = bo tl
    rw [e] at ih ⊢
    exact ih
theorem bo_mem {L : List (Int × Int)} (h : L ≠ []) : bo L ∈ L := by
  induction L with
  | nil => exact absurd rfl h
  | cons t L ih =>
    cases L with
    | nil => simp [bo]
    | cons v L => exact List.mem_cons_of_mem _ (ih (by simp))
theorem LC_tl {w h : Int} {p : Nat → Int} (x : Nat) {c f : Int} {r : List (Int × Int)} (e : LC w h p x = (c, f) :: r) : ∀ q ∈ r, q.1 < c := by
  induction x with
  | zero => exact absurd e (by simp [LC])
  | succ x ih =>
    rw [LC] at e
    by_cases d : fI w h p x < h
    · rw [if_pos d, psh] at e
      injection e with e1 e2
      injection e1 with e3 e4
      intro q hq
      rw [← e2] at hq
      rw [← e3]
      exact LC_lt x q (pops_mem hq)
    · rw [if_neg d] at e
      exact ih e
theorem RLc_h {w h : Int} {p : Nat → Int} (hG : GOk w h p) (x : Nat) : (RLc w h p x).length ≤ (LC w h p x).length + 1 := by
  rcases LC_g hG x with ⟨i1, i2, -⟩ | ⟨c, d, r, i1, i2, i3, i4, i5, i6, -⟩
  · rw [i1, i2]; simp
  · rw [i6]; split
    · omega
    · simp
theorem DU_len {w h : Int} {p : Nat → Int} (j : Nat) : (DU w h p j).length ≤ j := by
  induction j with
  | zero => exact Nat.le_refl _
  | succ j ih =>
    rw [DU]; split
    · have l := psh_len 0 (w - 1 - (j : Int), lA w h p (w - 1 - j)) (DU w h p j)
      omega
    · omega
theorem EX_len {w h : Int} {p : Nat → Int} (j : Nat) : (EX w h p j).length ≤ 1 := by
  induction j with
  | zero => exact Nat.zero_le _
  | succ j ih =>
    rw [EX]; split
    · split <;> simp
    · exact ih
/-- the two ends of the chains -/
theorem bo_M {w h : Int} {p : Nat → Int} (hG : GOk w h p) (hC : LC w h p w.toNat ≠ []) : ∃ (c : Int) (r : List (Int × Int)), En w h p c ∧ DU w h p w.toNat = (c, lA w h p c) :: r ∧ EX w h p w.toNat = (if fI w h p c = lA w h p c then [] else [(c, fI w h p c)]) ∧ bo (LC w h p w.toNat) = (c, fI w h p c) ∧ bo (DU w h p w.toNat ++ (RLc w h p w.toNat).tail) = (c, fI w h p c) ∧ (∀ i : Int, 0 ≤ i → i < c → ¬ En w h p i) ∧ 0 ≤ c := by
  have ew : ((w.toNat : Nat) : Int) = w := by have := hG.1; omega
  obtain ⟨cl, d0, r0, l1, l2, l3, l4, l5, l6, l7, l8, l9, l10⟩ := (LC_g hG w.toNat).resolve_left (fun q => hC q.1)
  rw [ew] at l2 l4
  have dg := (DU_g hG w.toNat).resolve_left (fun q => q.2.2 cl (by omega) l2 l3)
  rw [ew] at dg
  obtain ⟨c, d, r, k1, k2, k3, k4, k5, k6, k7, k8, k9, k10, k11⟩ := dg
  have e0 : d0 = c := by
    by_cases q : d0 < c
    · exact absurd l8 (k4 d0 (by omega) q)
    · by_cases q2 : c < d0
      · exact absurd k3 (l9 c (by omega) q2)
      · omega
  have ed : d = cl := by
    by_cases q : cl < d
    · exact absurd k8 (l4 d q k7)
    · by_cases q2 : d < cl
      · exact absurd l3 (k9 cl q2 l2)
      · omega
  refine ⟨c, r, k3, k5, k6, by rw [l10, e0], ?_, by rw [← e0]; exact l9, by omega⟩
  rw [l6]
  by_cases e : fI w h p cl = lA w h p cl
  · rw [if_pos e]
    rw [l5]
    show bo (DU w h p w.toNat ++ r0) = _
    cases r0 with
    | nil =>
      rw [List.append_nil, k10, ed, ← e]
      rw [l5] at l10
      rw [← e0]; exact l10
    | cons u r1 =>
      rw [bo_app (by simp)]
      rw [l5] at l10
      rw [← e0]; exact l10
  · rw [if_neg e]
    show bo (DU w h p w.toNat ++ LC w h p w.toNat) = _
    rw [bo_app hC, l10, e0]
theorem HU_e {w h : Int} {p : Nat → Int} (hG : GOk w h p) (hC : LC w h p w.toNat ≠ []) : HU w h p = (if 1 < (EX w h p w.toNat ++ (DU w h p w.toNat ++ (RLc w h p w.toNat).tail)).length then (EX w h p w.toNat ++ (DU w h p w.toNat ++ (RLc w h p w.toNat).tail)).tail else EX w h p w.toNat ++ (DU w h p w.toNat ++ (RLc w h p w.toNat).tail)) := by
  have ew : ((w.toNat : Nat) : Int) = w := by have := hG.1; omega
  obtain ⟨c, r, b1, b2, b3, b4, b5, -⟩ := bo_M hG hC
  unfold HU
  rcases UC_e hG hC w.toNat (by omega) with ⟨q, -⟩ | ⟨-, q | ⟨t, r', q1, q2, q3, q4⟩⟩
  · rw [q] at b2; exact absurd b2 (by simp)
  · rw [q]
    rw [b2] at b5 ⊢
    generalize (RLc w h p w.toNat).tail = tl at b5 ⊢
    have b5' : bo ((c, lA w h p c) :: (r ++ tl)) = (c, fI w h p c) := b5
    show fin ((c, lA w h p c) :: (r ++ tl)) = (if 1 < (EX w h p w.toNat ++ ((c, lA w h p c) :: (r ++ tl))).length then (EX w h p w.toNat ++ ((c, lA w h p c) :: (r ++ tl))).tail else EX w h p w.toNat ++ ((c, lA w h p c) :: (r ++ tl)))
    generalize r ++ tl = z at b5' ⊢
    cases z with
    | nil =>
      have e : lA w h p c = fI w h p c := by
        have : ((c, lA w h p c) : Int × Int) = (c, fI w h p c) := b5'
        injection this
      rw [b3, if_pos e.symm]
      rfl
    | cons u z =>
      have b6 : bo (u :: z) = (c, fI w h p c) := b5'
      rw [fin, b6, b3]
      by_cases e : fI w h p c = lA w h p c
      · rw [if_pos (by rw [e]), if_pos e, if_pos (by simp)]
        rfl
      · rw [if_neg (fun q => e (by injection q with _ q; exact q.symm)), if_neg e, if_pos (by simp)]
        rfl
  · rw [q4]
    rw [q1] at b2
    injection b2 with t1 t2
    rw [q2] at b4
    have e : lA w h p c = fI w h p c := by
      obtain ⟨cl, d0, r0, l1, l2, l3, l4, l5, l6, l7, l8, l9, l10⟩ := (LC_g hG w.toNat).resolve_left (fun q => hC q.1)
      rw [q2, t1] at l5
      injection l5 with l5 _
      injection l5 with m1 m2
      rw [m2, m1]
    have er : r' = [] := by
      cases r' with
      | nil => rfl
      | cons u z =>
        have m := bo_mem (L := u :: z) (by simp)
        have lt := LC_tl w.toNat (by rw [q2, t1]) _ m
        have b6 : bo (u :: z) = (c, fI w h p c) := b4
        rw [b6] at lt
        exact absurd (show c < c from lt) (by omega)
    rw [er, q1, q3, er, b3, if_pos e.symm, t1, fin]
    have bb : bo [(c, lA w h p c)] = (c, lA w h p c) := rfl
    rw [bb, if_pos rfl]
    rfl
theorem sm_corners {σ : xSt} {Post : Int → xSt → Prop} (hG : GOk (σ 0 5) (σ 0 6) (σ 4)) (hp : ∀ s', eqx [9] σ s' → mR (σ 0 5) (σ 0 6) (s' 9) (HU (σ 0 5) (σ 0 6) (σ 4)) → Post ((HU (σ 0 5) (σ 0 6) (σ 4)).length : Int) s') : wp_X10_corners σ Post := by
  obtain ⟨g1, g2, g3, g4, -⟩ := id hG
  generalize eW : σ 0 5 = w at *
  generalize eH : σ 0 6 = h at *
  generalize eP : σ 4 = p at *
  have ew : ((w.toNat : Nat) : Int) = w := by omega
  have eh : ((h.toNat : Nat) : Int) = h := by omega
  have st0 : ∀ s : xSt, eqx [9] σ s → s 0 5 = w ∧ s 0 6 = h ∧ GOk (s 0 5) (s 0 6) (s 4) ∧ s 4 = p := by
    intro s qs
    have s0 : s 0 = σ 0 := qs 0 (by decide)
    have s4 : s 4 = σ 4 := qs 4 (by decide)
    rw [s0, s4, eW, eH, eP]
    exact ⟨rfl, rfl, hG, rfl⟩
  unfold wp_X10_corners
  intro k hk
  have key := lpU (P := fun x => 0 ≤ x → ∀ s : xSt, eqx [9] σ s → mR w h (s 9) (RLc w h p x.toNat) → k ((RLc w h p x.toNat).length : Int) x s) w (fun x hx ih x0 s qs hs => ?_) 0 (by omega) (by omega) σ (eqx_rf _ _) trivial
  · exact key
  · obtain ⟨s05, s06, gs, s4⟩ := st0 s qs
    have ok := LC_ok hG x.toNat (by omega)
    have okR := RLc_h hG (w := w) (h := h) (p := p) x.toNat
    refine hk _ x s ?_
    rw [s05]
    refine ⟨by omega, by omega, fun c => ?_, fun c => ?_⟩
    · -- back from the right
      have ex : x.toNat = w.toNat := by omega
      rw [ex] at hs ok okR ⊢
      generalize eR : RLc w h p w.toNat = R at hs okR ⊢
      intro k2 hk2
      have key2 := lpD (P := fun z => z < w → ∀ (u : xSt) (Q : List (Int × Int)) (fl : Int), eqx [9] σ u → mR w h (u 9) Q → ((DU w h p (w - 1 - z).toNat = [] ∧ Q = R ∧ fl = 0) ∨ (DU w h p (w - 1 - z).toNat ≠ [] ∧ Q = EX w h p (w - 1 - z).toNat ++ (DU w h p (w - 1 - z).toNat ++ R.tail) ∧ fl = 1)) → k2 (Q.length : Int) fl z u) (-1) (fun z hz ih2 z0 u Q fl qu hu hQ => ?_) (w - 1) (by omega) (by omega) s R 0 qs hs (by rw [show (w - 1 - (w - 1)).toNat = 0 from by omega]; exact Or.inl ⟨rfl, rfl, rfl⟩)
      · exact key2
      · have dl := DU_len (w := w) (h := h) (p := p) (w - 1 - z).toNat
        have xl := EX_len (w := w) (h := h) (p := p) (w - 1 - z).toNat
        have rt : R.tail.length = R.length - 1 := List.length_tail
        have Ql : Q.length ≤ 40 := by
          rcases hQ with ⟨-, q, -⟩ | ⟨-, q, -⟩
          · rw [q]; omega
          · rw [q, List.length_append, List.length_append]; omega
        refine hk2 _ fl z u ⟨by omega, fun d => ?_, fun d => ?_⟩
        · -- the end
          have ez : (w - 1 - z).toNat = w.toNat := by omega
          rw [ez] at hQ
          by_cases hC : LC w h p w.toNat = []
          · have r0 : R = [] := by
              rcases LC_g hG w.toNat with ⟨-, i2, -⟩ | ⟨_, _, _, _, _, _, _, i5, _⟩
              · rw [← eR]; exact i2
              · rw [hC] at i5; exact absurd i5 (by simp)
            have hH : HU w h p = [] := by
              unfold HU
              rw [hC]
              have : ∀ j : Nat, (j : Int) ≤ w → UC w h p (([] : List (Int × Int)).length - 1) [] j = [] := by
                intro j
                induction j with
                | zero => exact fun _ => rfl
                | succ j ihj =>
                  intro hj
                  rw [UC, if_neg, ihj (by omega)]
                  rcases LC_g hG w.toNat with ⟨-, -, i3⟩ | ⟨_, _, _, _, _, _, _, i5, _⟩
                  · exact i3 _ (by omega) (by omega)
                  · rw [hC] at i5; exact absurd i5 (by simp)
              rw [this w.toNat (by omega)]; rfl
            have q0 : Q = [] := by
              rcases hQ with ⟨-, q, -⟩ | ⟨q, -, -⟩
              · rw [q]; exact r0
              · exfalso
                rcases DU_g hG w.toNat with ⟨i1, -⟩ | ⟨c', _, _, i1, i2, i3, _⟩
                · exact q i1
                · rcases LC_g hG w.toNat with ⟨-, -, j3⟩ | ⟨_, _, _, _, _, _, _, i5, _⟩
                  · exact j3 c' (by omega) (by omega) i3
                  · rw [hC] at i5; exact absurd i5 (by simp)
            have hp' := hp u qu (by rw [hH]; trivial)
            rw [hH] at hp'
            rw [q0]
            exact ⟨by simp <;> omega, fun _ => hp', fun q => absurd q (by simp <;> omega)⟩
          · have hE := HU_e hG hC
            rw [eR] at hE
            obtain ⟨c', r', b1, b2, -⟩ := bo_M hG hC
            have hQ' : Q = EX w h p w.toNat ++ (DU w h p w.toNat ++ R.tail) := by
              rcases hQ with ⟨q, -, -⟩ | ⟨-, q, -⟩
              · rw [q] at b2; exact absurd b2 (by simp)
              · exact q
            rw [← hQ'] at hE
            refine ⟨by omega, fun q => ?_, fun q => ?_⟩
            · rw [if_neg (by omega)] at hE
              have hp' := hp u qu (by rw [hE]; exact hu)
              rw [hE] at hp'; exact hp'
            · rw [if_pos (by omega)] at hE
              cases Q with
              | nil => exact absurd q (by simp)
              | cons t Q =>
                have hp' := hp u qu (by rw [hE]; exact hu.2.2)
                rw [hE] at hp'
                have el : ((t :: Q).length : Int) - 1 = (Q.length : Int) := by simp
                rw [el]; exact hp'
        · -- a column from its top down
          have ez : (w - 1 - (z + -1)).toNat = (w - 1 - z).toNat + 1 := by omega
          have ez2 : w - 1 - (((w - 1 - z).toNat : Nat) : Int) = z := by omega
          generalize hj : (w - 1 - z).toNat = j at *
          have sp := fI_sp hG z
          obtain ⟨u05, u06, gu, u4⟩ := st0 u qu
          intro k3 hk3
          rw [u06]
          have key3 := lpD (P := fun y => y < h → ∀ (v : xSt) (Z : List (Int × Int)) (fz : Int), eqx [9] σ v → mR w h (v 9) Z → (((∀ i : Int, y < i → i < h → co w h p z i = 0) ∧ Z = Q ∧ fz = fl) ∨ (y < lA w h p z ∧ ∃ q : Int, y < q ∧ q ≤ lA w h p z ∧ co w h p z q ≠ 0 ∧ (∀ i : Int, y < i → i < q → co w h p z i = 0) ∧ fz = 1 ∧ Z = (if q = lA w h p z then psh 0 (z, lA w h p z) (DU w h p j) ++ R.tail else (z, q) :: (psh 0 (z, lA w h p z) (DU w h p j) ++ R.tail)))) → k3 (Z.length : Int) fz y v) (-1) (fun y hy ih3 y0 v Z fz qv hv hZ => ?_) (h - 1) (by omega) (by omega) u Q fl qu hu (Or.inl ⟨fun i h1 h2 => absurd h2 (by omega), rfl, rfl⟩)
          · exact key3
          · obtain ⟨v05, v06, gv, v4⟩ := st0 v qv
            have tll := psh_len 0 (z, lA w h p z) (DU w h p j)
            have Zl : Z.length ≤ 60 := by
              rcases hZ with ⟨-, q, -⟩ | ⟨-, q, -, -, -, -, -, e⟩
              · rw [q]; omega
              · rw [e]; split
                · rw [List.length_append]; omega
                · rw [List.length_cons, List.length_append]; omega
            refine hk3 _ fz y v ⟨by omega, fun e => ?_, fun e => ?_⟩
            · refine ih2 (z + -1) (by omega) (by omega) (by omega) v Z fz qv hv ?_
              rw [ez, DU, EX, ez2]
              rcases hZ with ⟨a1, a2, a3⟩ | ⟨a1, q, a2, a3, a4, a5, a6, a7⟩
              · have en : lA w h p z = -1 := la_n (fun i i1 i2 => a1 i (by omega) (by omega))
                rw [if_neg (by omega), if_neg (by omega), a2, a3]
                exact hQ
              · have ef : fI w h p z = q := fi_u (by omega) (by omega) a4 (fun i i1 i2 => a5 i (by omega) i2)
                rw [if_pos (by omega), if_pos (by omega)]
                refine Or.inr ⟨by simp [psh], ?_, a6⟩
                rw [a7, ef]
                by_cases eq : q = lA w h p z
                · rw [if_pos eq, if_pos eq]; rfl
                · rw [if_neg eq, if_neg eq]; rfl
            · refine sm_isOf gv (by omega) (by omega) ?_
              rw [v05, v06, v4]
              refine ⟨r01 (aV_01 hG _ _), fun d0 => ?_, fun d1 => ?_⟩
              · refine ih3 (y + -1) (by omega) (by omega) (by omega) v Z fz qv hv ?_
                rcases hZ with ⟨a1, a2, a3⟩ | ⟨a1, q, a2, a3, a4, a5, a6, a7⟩
                · refine Or.inl ⟨fun i i1 i2 => ?_, a2, a3⟩
                  by_cases ci : i = y
                  · rw [ci]; exact d0
                  · exact a1 i (by omega) i2
                · refine Or.inr ⟨by omega, q, by omega, a3, a4, fun i i1 i2 => ?_, a6, a7⟩
                  by_cases ci : i = y
                  · rw [ci]; exact d0
                  · exact a5 i (by omega) i2
              · rcases hZ with ⟨a1, a2, a3⟩ | ⟨a1, q, a2, a3, a4, a5, a6, a7⟩
                · -- the column's top
                  have el : lA w h p z = y := la_u e (by omega) d1 (fun i i1 i2 => a1 i i1 (by omega))
                  have en : En w h p z := by unfold En; omega
                  have hC : LC w h p w.toNat ≠ [] := by
                    intro q
                    rcases LC_g hG w.toNat with ⟨-, -, i3⟩ | ⟨_, _, _, _, _, _, _, i5, _⟩
                    · exact i3 z d (by omega) en
                    · rw [q] at i5; exact absurd i5 (by simp)
                  obtain ⟨cl, d0, r0, l1, l2, l3, l4, l5, l6, -⟩ := (LC_g hG w.toNat).resolve_left (fun q => hC q.1)
                  rw [ew] at l2 l4
                  rw [eR] at l6
                  have hRt : R = (cl, lA w h p cl) :: R.tail := by
                    rw [l6]
                    by_cases e1 : fI w h p cl = lA w h p cl
                    · rw [if_pos e1, l5, e1]; rfl
                    · rw [if_neg e1]; rfl
                  rw [a2, a3]
                  rcases hQ with ⟨b1, b2, b3⟩ | ⟨b1, b2, b3⟩
                  · rw [b3]
                    refine ⟨by omega, fun _ => ?_, fun q => absurd rfl q⟩
                    have ec : cl = z := by
                      have dg := (DU_g hG j).resolve_right (fun ⟨_, _, _, _, _, _, _, q, _⟩ => by rw [b1] at q; exact absurd q (by simp))
                      by_cases q : cl < z
                      · exact absurd en (l4 _ q (by omega))
                      · by_cases q2 : z < cl
                        · exact absurd l3 (dg.2.2 cl (by omega) l2)
                        · omega
                    refine ih3 (y + -1) (by omega) (by omega) (by omega) v Q 1 qv (by rw [← a2]; exact hv) (Or.inr ⟨by omega, y, by omega, by omega, d1, fun i i1 i2 => absurd i2 (by omega), rfl, ?_⟩)
                    rw [if_pos el.symm, b1, b2]
                    rw [hRt, ec]; rfl
                  · rw [b3]
                    refine ⟨by omega, fun q => absurd q (by omega), fun _ => ?_⟩
                    refine sm_lay gv (b := R.tail.length) (p := (z, y)) (L := Q) (by omega) (by omega) (by rw [v05, v06]; exact ⟨d, z0, e, y0⟩) (by rw [v05, v06, ← a2]; exact hv) (by rw [v05]) rfl (by rw [hRt]; simp) (fun v' q' h' => ?_)
                    rw [v05, v06] at h'
                    refine ih3 (y + -1) (by omega) (by omega) (by omega) v' (psh R.tail.length (z, y) Q) 1 (eqx_tr qv q') h' (Or.inr ⟨by omega, y, by omega, by omega, d1, fun i i1 i2 => absurd i2 (by omega), rfl, ?_⟩)
                    rw [if_pos el.symm, b2, psh, up_p hG j R.tail (show z < w - (j : Int) by omega) b1, el]
                    rfl
                · rw [a6]
                  have en : En w h p z := by unfold En; omega
                  have hC : LC w h p w.toNat ≠ [] := by
                    intro q
                    rcases LC_g hG w.toNat with ⟨-, -, i3⟩ | ⟨_, _, _, _, _, _, _, i5, _⟩
                    · exact i3 z d (by omega) en
                    · rw [q] at i5; exact absurd i5 (by simp)
                  obtain ⟨cl, d0, r0, l1, l2, l3, l4, l5, l6, -⟩ := (LC_g hG w.toNat).resolve_left (fun q => hC q.1)
                  rw [eR] at l6
                  have hRt : R = (cl, lA w h p cl) :: R.tail := by
                    rw [l6]
                    by_cases e1 : fI w h p cl = lA w h p cl
                    · rw [if_pos e1, l5, e1]; rfl
                    · rw [if_neg e1]; rfl
                  refine ⟨by omega, fun q => absurd q (by omega), fun _ => ?_⟩
                  refine sm_lay gv (b := R.tail.length) (p := (z, y)) (L := Z) (by omega) (by omega) (by rw [v05, v06]; exact ⟨d, z0, e, y0⟩) (by rw [v05, v06]; exact hv) (by rw [v05]) rfl (by rw [hRt]; simp) (fun v' q' h' => ?_)
                  rw [v05, v06] at h'
                  have hps : psh R.tail.length (z, y) Z = (z, y) :: (psh 0 (z, lA w h p z) (DU w h p j) ++ R.tail) := by
                    have k1 := up_k (w := w) (h := h) (p := p) j R.tail (t := lA w h p z) (y := y) (by omega)
                    have k2 := up_k2 (w := w) (h := h) (p := p) j R.tail (t := lA w h p z) (l := q) (y := y) (by omega)
                    rw [ez2] at k1 k2
                    rw [a7, psh]
                    by_cases eq : q = lA w h p z
                    · rw [if_pos eq, k1]
                    · rw [if_neg eq, k2]
                  refine ih3 (y + -1) (by omega) (by omega) (by omega) v' (psh R.tail.length (z, y) Z) 1 (eqx_tr qv q') h' (Or.inr ⟨by omega, y, by omega, by omega, d1, fun i i1 i2 => absurd i2 (by omega), rfl, ?_⟩)
                  rw [if_neg (by omega), hps]
    · -- a column from its foot up
      have ex : (x + 1).toNat = x.toNat + 1 := by omega
      have ex2 : ((x.toNat : Nat) : Int) = x := by omega
      intro k2 hk2
      have key2 := lpU (P := fun y => 0 ≤ y → ∀ (v : xSt) (Z : List (Int × Int)), eqx [9] σ v → mR w h (v 9) Z → Z = (if fi (co w h p x) y.toNat < y then (if fi (co w h p x) y.toNat = la (co w h p x) y.toNat then psh 0 (x, fi (co w h p x) y.toNat) (LC w h p x.toNat) else (x, la (co w h p x) y.toNat) :: psh 0 (x, fi (co w h p x) y.toNat) (LC w h p x.toNat)) else RLc w h p x.toNat) → k2 (Z.length : Int) y v) h (fun y hy ih2 y0 v Z qv hv hZ => ?_) 0 (by omega) (by omega) s (RLc w h p x.toNat) qs hs (by rw [if_neg]; exact fun q => absurd (show (0 : Int) < 0 from q) (by omega))
      · exact key2
      · obtain ⟨v05, v06, gv, v4⟩ := st0 v qv
        have ey : ((y.toNat : Nat) : Int) = y := by omega
        have ey1 : (y + 1).toNat = y.toNat + 1 := by omega
        obtain ⟨f1, f2, f3, f4⟩ := fi_sp (co w h p x) y.toNat
        obtain ⟨l1, l2, l3, l4⟩ := la_sp (co w h p x) y.toNat
        have fln := fl_ne (v := co w h p x) (n := y.toNat)
        rw [ey] at f2 f4 l2 fln
        have pl1 := psh_len 0 (x, fi (co w h p x) y.toNat) (LC w h p x.toNat)
        have Zl : Z.length ≤ 40 := by
          rw [hZ]; split
          · split
            · omega
            · rw [List.length_cons]; omega
          · omega
        refine hk2 _ y v ?_
        rw [v06]
        refine ⟨by omega, by omega, fun d => ?_, fun d => ?_⟩
        · have eyh : y.toNat = h.toNat := by omega
          have eyh2 : y = h := by omega
          have e : Z = RLc w h p (x.toNat + 1) := by
            rw [hZ, RLc, LC, ex2]
            unfold fI lA
            rw [← eyh]
            by_cases c1 : fi (co w h p x) y.toNat < y
            · have c2 : fi (co w h p x) y.toNat < h := by omega
              rw [if_pos c1, if_pos c2, if_pos c2]
            · have c2 : ¬ fi (co w h p x) y.toNat < h := by omega
              rw [if_neg c1, if_neg c2]
          have st := ih (x + 1) (by omega) (by omega) (by omega) v qv
          rw [ex, ← e] at st
          exact st hv
        · refine sm_isOf gv (by omega) (by omega) ?_
          rw [v05, v06, v4]
          refine ⟨r01 (aV_01 hG _ _), fun d0 => ?_, fun d1 => ?_⟩
          · refine ih2 (y + 1) (by omega) (by omega) (by omega) v Z qv hv ?_
            have d0' : co w h p x y = 0 := d0
            rw [hZ, ey1, fi, la, ey, if_neg (c := co w h p x y ≠ 0) (fun q => q d0'), if_neg (c := co w h p x y ≠ 0) (fun q => q d0')]
            by_cases c1 : fi (co w h p x) y.toNat < y
            · rw [if_pos c1, if_pos c1, if_pos (show fi (co w h p x) y.toNat < y + 1 by omega)]
            · rw [if_neg c1, if_neg c1, if_neg (show ¬ y + 1 < y + 1 by omega)]
          · have d1' : co w h p x y ≠ 0 := d1
            refine sm_lay gv (b := 0) (p := (x, y)) (L := Z) (by omega) (by omega) (by rw [v05, v06]; exact ⟨x0, c, y0, d⟩) (by rw [v05, v06]; exact hv) (by rw [v05]) rfl rfl (fun v' q' h' => ?_)
            rw [v05, v06] at h'
            refine ih2 (y + 1) (by omega) (by omega) (by omega) v' (psh 0 (x, y) Z) (eqx_tr qv q') h' ?_
            rw [ey1, fi, la, ey, if_pos d1', if_pos d1', hZ]
            by_cases c1 : fi (co w h p x) y.toNat < y
            · rw [if_pos c1, if_pos c1, if_pos (show fi (co w h p x) y.toNat < y + 1 by omega), if_neg (show ¬ fi (co w h p x) y.toNat = y by omega)]
              have k1 := low_k (w := w) (h := h) (p := p) x.toNat (f := fi (co w h p x) y.toNat) (y := y) c1
              have k2 := low_k2 (w := w) (h := h) (p := p) x.toNat (f := fi (co w h p x) y.toNat) (l := la (co w h p x) y.toNat) (y := y) c1
              rw [ex2] at k1 k2
              by_cases e1 : fi (co w h p x) y.toNat = la (co w h p x) y.toNat
              · rw [if_pos e1, psh, k1]
              · rw [if_neg e1, psh, k2]
            · rw [if_neg c1, if_neg c1, if_pos (show y < y + 1 by omega), if_pos rfl]
              show psh 0 (x, y) (RLc w h p x.toNat) = psh 0 (x, y) (LC w h p x.toNat)
              rw [psh, psh, RLc_p hG x.toNat (by show ((x.toNat : Nat) : Int) ≤ x; omega)]
