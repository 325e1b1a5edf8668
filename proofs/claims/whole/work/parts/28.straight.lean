/-! straight pieces -/
def Str (y : Nat → Int) (f0 m : Nat) : Prop := wF (mK y f0 m) ∧ ∀ a b c d : Int, Mx (SL (As y f0) m) a b → Mn (SH (As y f0) m) c d → a * d < c * b
theorem Str_iff {y : Nat → Int} {f0 m : Nat} {a b c d : Int} (h1 : Mx (SL (As y f0) m) a b) (h2 : Mn (SH (As y f0) m) c d) : (wF (mK y f0 m) ∧ a * d < c * b) ↔ Str y f0 m := by
  constructor
  · rintro ⟨w, h⟩
    refine ⟨w, fun a' b' c' d' h1' h2' => ?_⟩
    exact (fr_lt h1.1 h1'.1 h2.1 h2'.1 (Mx_eq h1 h1') (Mn_eq h2 h2')).mp h
  · rintro ⟨w, h⟩
    exact ⟨w, h a b c d h1 h2⟩
theorem Str_1 {y : Nat → Int} (hy : ∀ i, 0 ≤ y i ∧ y i < 8) (f0 : Nat) : Str y f0 1 := by
  have hA := As_bd y f0 (i := 0) (j := 1) (by omega)
  constructor
  · rcases IsI_1 hy f0 with ⟨-, -, h⟩ | ⟨-, h, -⟩ | ⟨h, -⟩
    · rw [h]
      obtain ⟨v, hv, ev⟩ := wy_n (hy f0)
      rw [ev]; exact (wf_1 v hv).2.2
    · omega
    · omega
  · intro a b c d h1 h2
    have e1 : b = 1 ∧ a ≤ 0 := by
      rcases h1.2.2 with ⟨q1, q2⟩ | ⟨i, j, q1, q2, q3, q4⟩
      · omega
      · have ei : i = 0 := by omega
        have ej : j = 1 := by omega
        subst ei ej; omega
    have e2 : d = 1 ∧ 1 ≤ c := by
      rcases h2.2.2 with ⟨q1, q2⟩ | ⟨i, j, q1, q2, q3, q4⟩
      · omega
      · have ei : i = 0 := by omega
        have ej : j = 1 := by omega
        subst ei ej; omega
    rw [e1.1, e2.1]; omega
/-- e is where the longest straight piece from f0 ends, of n steps -/
def Far (y : Nat → Int) (f0 n : Nat) (e : Int) : Prop := (f0 : Int) ≤ e ∧ e ≤ n ∧ (∀ m : Nat, 1 ≤ m → ((f0 + m : Nat) : Int) ≤ e → Str y f0 m) ∧ (e < n → ¬ Str y f0 (e + 1 - f0).toNat)
theorem Far_u {y : Nat → Int} {f0 n : Nat} {e e' : Int} (h : Far y f0 n e) (h' : Far y f0 n e') : e = e' := by
  have key : ∀ {e e' : Int}, Far y f0 n e → Far y f0 n e' → ¬ e < e' := by
    intro e e' h h' c
    obtain ⟨a1, a2, a3, a4⟩ := h
    obtain ⟨b1, b2, b3, b4⟩ := h'
    exact a4 (by omega) (b3 (e + 1 - f0).toNat (by omega) (by omega))
  have k1 := key h h'
  have k2 := key h' h
  omega
theorem Far_lt {y : Nat → Int} (hy : ∀ i, 0 ≤ y i ∧ y i < 8) {f0 n : Nat} {e : Int} (h : Far y f0 n e) (hn : f0 < n) : (f0 : Int) < e := by
  obtain ⟨a1, a2, a3, a4⟩ := h
  rcases Int.lt_or_eq_of_le a1 with q | q
  · exact q
  · exfalso
    refine a4 (by omega) ?_
    have e1 : (e + 1 - f0).toNat = 1 := by omega
    rw [e1]; exact Str_1 hy f0
/-! the class's measures -/
theorem sx_straight {σ : xSt} {Post : Int → Prop} {y : Nat → Int} {f0 m : Nat} (hP : POk σ y f0 m) (hm : m ≤ 60) (h1 : Str y f0 m → Post 1) (h0 : ¬ Str y f0 m → Post 0) : wp_X5_isStraight σ Post := by
  obtain ⟨p1, p2, p3, p4, -⟩ := hP
  have bl := SL_bd hm p3.2.2
  have bh := SH_bd hm p4.2.2
  have r1 := mb (x := σ 5 3) (y := σ 5 6) (B := 61) (C := 61) (by omega) (by omega) (by omega) (by omega)
  have r2 := mb (x := σ 5 5) (y := σ 5 4) (B := 61) (C := 61) (by omega) (by omega) (by omega) (by omega)
  have hi := Str_iff p3 p4
  unfold wp_X5_isStraight
  refine ⟨by omega, by omega, fun c => h0 (fun q => ?_), fun c => sx_waysFit (br_z (fun c2 => h0 (fun q => ?_)) (fun c2 => h1 (hi.mp ⟨p2 ▸ c2, c⟩)))⟩
  · have := (hi.mpr q).2; omega
  · exact c2 (p2 ▸ (hi.mpr q).1)
/-- what the row is while a piece of it is measured -/
def RowX (σ : xSt) (n : Nat) : Prop := σ 1 3 = n ∧ n ≤ 60 ∧ (∀ i : Nat, 0 ≤ σ 2 i ∧ σ 2 i < 8) ∧ σ 6 0 = 0
theorem RowX_c {σ σ' : xSt} {n : Nat} (h : RowX σ n) (q : eqx [5, 6] σ σ') (h6 : σ' 6 0 = σ 6 0) : RowX σ' n := by
  obtain ⟨h1, h2, h3, h4⟩ := h
  refine ⟨by rw [q 1 (by decide)]; exact h1, h2, fun i => by rw [q 2 (by decide)]; exact h3 i, by rw [h6]; exact h4⟩
theorem sx_measure {σ : xSt} {PostV : xSt → Prop} {n f0 m : Nat} (hR : RowX σ n) (hm : f0 + m ≤ n) {a b : Int} (ea : a = (f0 : Int)) (eb : b = ((f0 + m : Nat) : Int)) (hp : ∀ σ', eqx [5, 6] σ σ' → σ' 6 0 = σ 6 0 → POk σ' (σ 2) f0 m → PostV σ') : wp_X5_measure a b σ PostV := by
  obtain ⟨r1, r2, r3, r4⟩ := id hR
  unfold wp_X5_measure
  refine sx_begin (y := σ 2) (f0 := f0) r4 (fun s0 q0 z0 o0 => ?_)
  intro k hk
  have key := lpU (P := fun x => a ≤ x → ∀ s : xSt, eqx [5, 6] σ s → s 6 0 = σ 6 0 → POk s (σ 2) f0 (x - a).toNat → k x s) b (fun x hx ih x0 s qs zs os => ?_) a (by omega) (by omega) s0 q0 z0 (by rw [show (a - a).toNat = 0 by omega]; exact o0)
  · exact key
  · have s1 : s 1 = σ 1 := qs 1 (by decide)
    have s2 : s 2 = σ 2 := qs 2 (by decide)
    refine hk x s ⟨by omega, by omega, fun c => ?_, fun c => ?_⟩
    · have e : (x - a).toNat = m := by omega
      rw [e] at os
      exact hp s qs zs os
    · have ex : x.toNat = f0 + (x - a).toNat := by omega
      refine sx_wayOf (by omega) (by rw [s1]; omega) (by rw [s1]; omega) ?_
      rw [s2, ex]
      refine sx_grow os (by omega) rfl (r3 _).1 (r3 _).2 (fun s' q' z' o' => ?_)
      have e : (x + 1 - a).toNat = (x - a).toNat + 1 := by omega
      exact ih (x + 1) (by omega) (by omega) (by omega) s' (eqx_tr qs q') (z'.trans zs) (by rw [e]; exact o')
theorem sx_farthest {σ : xSt} {Post : Int → xSt → Prop} {n f0 : Nat} (hR : RowX σ n) (hf : f0 ≤ n) {a : Int} (ea : a = (f0 : Int)) (hp : ∀ e σ', eqx [5, 6] σ σ' → σ' 6 0 = σ 6 0 → Far (σ 2) f0 n e → Post e σ') : wp_X5_farthest a σ Post := by
  obtain ⟨r1, r2, r3, r4⟩ := id hR
  unfold wp_X5_farthest
  refine sx_begin (y := σ 2) (f0 := f0) r4 (fun s0 q0 z0 o0 => ?_)
  intro k hk
  have key := lpU (P := fun x => a ≤ x → ∀ s : xSt, eqx [5, 6] σ s → s 6 0 = σ 6 0 → POk s (σ 2) f0 (x - a).toNat → (∀ m : Nat, 1 ≤ m → ((f0 + m : Nat) : Int) ≤ x → Str (σ 2) f0 m) → k x s) (n : Int) (fun x hx ih x0 s qs zs os hs => ?_) a (by omega) (by omega) s0 q0 z0 (by rw [show (a - a).toNat = 0 by omega]; exact o0) (fun m h1 h2 => absurd h2 (by omega))
  · exact key
  · have s1 : s 1 = σ 1 := qs 1 (by decide)
    have s2 : s 2 = σ 2 := qs 2 (by decide)
    have s13 : s 1 3 = n := by rw [s1]; exact r1
    refine hk x s (sx_steps ⟨by omega, by omega, fun c => ?_, fun c => ?_⟩)
    · exact hp x s qs zs ⟨by omega, by omega, hs, fun q => absurd q (by omega)⟩
    · have ex : x.toNat = f0 + (x - a).toNat := by omega
      refine sx_wayOf (by omega) (by omega) (by omega) ?_
      rw [s2, ex]
      refine sx_grow os (by omega) rfl (r3 _).1 (r3 _).2 (fun s' q' z' o' => ?_)
      have e : (x + 1 - a).toNat = (x - a).toNat + 1 := by omega
      have e2 : (x + 1 - f0).toNat = (x - a).toNat + 1 := by omega
      refine sx_straight o' (by omega) (fun st => ⟨by omega, fun _ => ?_, fun q => absurd q (by omega)⟩) (fun st => ⟨by omega, fun q => absurd q (by omega), fun _ => ?_⟩)
      · refine ih (x + 1) (by omega) (by omega) (by omega) s' (eqx_tr qs q') (z'.trans zs) (by rw [e]; exact o') (fun m h1 h2 => ?_)
        by_cases cm : ((f0 + m : Nat) : Int) ≤ x
        · exact hs m h1 cm
        · have em : m = (x - a).toNat + 1 := by omega
          rw [em]; exact st
      · exact hp x s' (eqx_tr qs q') (z'.trans zs) ⟨by omega, by omega, hs, fun _ => by rw [e2]; exact st⟩
/-! the reference's -/
def RowM (τ : xSt) (n : Nat) : Prop := τ 0 1 = n ∧ n ≤ 60 ∧ ∀ i : Nat, 0 ≤ τ 1 i ∧ τ 1 i < 8
theorem RowM_c {τ τ' : xSt} {n : Nat} (h : RowM τ n) (q : eqx [2, 3] τ τ') : RowM τ' n := by
  obtain ⟨h1, h2, h3⟩ := h
  exact ⟨by rw [q 0 (by decide)]; exact h1, h2, fun i => by rw [q 1 (by decide)]; exact h3 i⟩
theorem sm_straight {τ : xSt} {Post : Int → xSt → Prop} {n f0 m : Nat} (hR : RowM τ n) (hm : f0 + m ≤ n) {a b : Int} (ea : a = (f0 : Int)) (eb : b = ((f0 + m : Nat) : Int)) (h1 : ∀ s, eqx [2, 3] τ s → Mx (SL (As (τ 1) f0) m) (s 2 0) (s 2 1) → Mn (SH (As (τ 1) f0) m) (s 3 0) (s 3 1) → Str (τ 1) f0 m → Post 1 s) (h0 : ∀ s, eqx [2, 3] τ s → ¬ Str (τ 1) f0 m → Post 0 s) : wp_X10_isStraight a b τ Post := by
  obtain ⟨r1, r2, r3⟩ := id hR
  unfold wp_X10_isStraight
  refine sm_isSo r3 (by omega) ea eb (br_z (fun c => h0 τ (eqx_rf _ _) (fun q => c q.1)) (fun c => ?_))
  refine sm_spans (by omega) r3 ea eb (fun s qs hl hh => br_z (fun c2 => h0 s qs (fun q => c2 ((Str_iff hl hh).mpr q).2)) (fun c2 => h1 s qs hl hh ((Str_iff hl hh).mp ⟨c, c2⟩)))
theorem sm_endOf {τ : xSt} {Post : Int → xSt → Prop} {n f0 : Nat} (hR : RowM τ n) (hf : f0 ≤ n) {a : Int} (ea : a = (f0 : Int)) (hp : ∀ e τ', eqx [2, 3] τ τ' → Far (τ 1) f0 n e → Post e τ') : wp_X10_endOf a τ Post := by
  obtain ⟨r1, r2, r3⟩ := id hR
  unfold wp_X10_endOf
  intro k hk
  have key := lpU (P := fun x => a ≤ x → ∀ s : xSt, eqx [2, 3] τ s → (∀ m : Nat, 1 ≤ m → ((f0 + m : Nat) : Int) ≤ x → Str (τ 1) f0 m) → k x s) (n : Int) (fun x hx ih x0 s qs hs => ?_) a (by omega) (by omega) τ (eqx_rf _ _) (fun m h1 h2 => absurd h2 (by omega))
  · exact key
  · have s0 : s 0 = τ 0 := qs 0 (by decide)
    have s1 : s 1 = τ 1 := qs 1 (by decide)
    have s01 : s 0 1 = n := by rw [s0]; exact r1
    refine hk x s ⟨by omega, by omega, fun c => ?_, fun c => ?_⟩
    · exact hp x s qs ⟨by omega, by omega, hs, fun q => absurd q (by omega)⟩
    · have e2 : (x + 1 - f0).toNat = (x + 1 - a).toNat := by omega
      refine sm_straight (RowM_c hR qs) (m := (x + 1 - a).toNat) (by omega) ea (by omega) (fun s' q' _ _ st => ⟨by omega, fun q => absurd q (by omega), fun _ => ?_⟩) (fun s' q' st => ⟨by omega, fun _ => ?_, fun q => absurd q (by omega)⟩)
      · rw [s1] at st
        refine ih (x + 1) (by omega) (by omega) (by omega) s' (eqx_tr qs q') (fun m h1 h2 => ?_)
        by_cases cm : ((f0 + m : Nat) : Int) ≤ x
        · exact hs m h1 cm
        · have em : m = (x + 1 - a).toNat := by omega
          rw [em]; exact st
      · rw [s1] at st
        exact hp x s' (eqx_tr qs q') ⟨by omega, by omega, hs, fun _ => by rw [e2]; exact st⟩
