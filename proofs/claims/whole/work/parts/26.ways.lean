/-! ways of two that follow one another -/
abbrev wB (M : Int) (w : Nat) : Prop := xAnd M (xXor (xOr (xShl 1 (w : Int)) (xShl 1 (Int.tmod ((w : Int) + 1) 8))) (-1)) = 0
abbrev wF (M : Int) : Prop := ∃ w : Nat, w < 8 ∧ wB M w
theorem wf_or : ∀ M : Nat, M < 256 → ∀ v : Nat, v < 8 → wF (xOr (M : Int) (xShl 1 (v : Int))) → wF (M : Int) := by decide +kernel
theorem wf_bd : ∀ M : Nat, M < 256 → ∀ v : Nat, v < 8 → 0 ≤ xOr (M : Int) (xShl 1 (v : Int)) ∧ xOr (M : Int) (xShl 1 (v : Int)) < 256 := by decide +kernel
theorem wf_1 : ∀ a : Nat, a < 8 → xOr 0 (xShl 1 (a : Int)) = xShl 1 (a : Int) ∧ xOr (xShl 1 (a : Int)) (xShl 1 (a : Int)) = xShl 1 (a : Int) ∧ wF (xShl 1 (a : Int)) := by decide +kernel
theorem wf_2 : ∀ a : Nat, a < 8 → ∀ b : Nat, b < 8 → xOr (xOr (xShl 1 (a : Int)) (xShl 1 (b : Int))) (xShl 1 (a : Int)) = xOr (xShl 1 (a : Int)) (xShl 1 (b : Int)) ∧ xOr (xOr (xShl 1 (a : Int)) (xShl 1 (b : Int))) (xShl 1 (b : Int)) = xOr (xShl 1 (a : Int)) (xShl 1 (b : Int)) ∧ (a ≠ b → (wF (xOr (xShl 1 (a : Int)) (xShl 1 (b : Int))) ↔ (Int.tmod ((b : Int) - a + 8) 8 = 1 ∨ Int.tmod ((b : Int) - a + 8) 8 = 7))) := by decide +kernel
theorem wf_3 : ∀ a : Nat, a < 8 → ∀ b : Nat, b < 8 → ∀ d : Nat, d < 8 → ((a = b ∨ a = d ∨ b = d) ∨ ¬ wF (xOr (xOr (xShl 1 (a : Int)) (xShl 1 (b : Int))) (xShl 1 (d : Int)))) := by decide +kernel
theorem wf_0 : wF 0 := by decide +kernel
theorem wy_n {v : Int} (h : 0 ≤ v ∧ v < 8) : ∃ n : Nat, n < 8 ∧ v = (n : Int) := ⟨v.toNat, by omega, by omega⟩
theorem mK_bd {y : Nat → Int} (hy : ∀ i, 0 ≤ y i ∧ y i < 8) (f0 m : Nat) : 0 ≤ mK y f0 m ∧ mK y f0 m < 256 := by
  induction m with
  | zero => show 0 ≤ (0 : Int) ∧ (0 : Int) < 256; omega
  | succ m ih =>
    obtain ⟨v, hv, ev⟩ := wy_n (hy (f0 + m))
    have e : mK y f0 m = ((mK y f0 m).toNat : Int) := by omega
    have h := wf_bd (mK y f0 m).toNat (by omega) v hv
    rw [← e, ← ev] at h
    exact h
theorem sx_waysFit {σ : xSt} {Post : Int → Prop} (h : Post (bI (wF (σ 5 2)))) : wp_X5_waysFit σ Post := by
  unfold wp_X5_waysFit
  intro k hk
  have key := lpU (P := fun i => 0 ≤ i → (∀ w : Nat, (w : Int) < i → ¬ wB (σ 5 2) w) → k i) 8 (fun i hi ih i0 hno => ?_) 0 (by omega) (by omega) (fun w hw => absurd hw (by omega))
  · exact key
  · refine hk i ⟨by omega, fun c => ?_, fun c => ⟨by omega, by omega, by omega, ?_⟩⟩
    · rw [bI_f (fun ⟨w, hw, hb⟩ => hno w (by omega) hb)] at h; exact h
    · intro z ez
      have en : ((i.toNat : Nat) : Int) = i := by omega
      have eb : xAnd (σ 5 2) (xXor z (-1)) = 0 ↔ wB (σ 5 2) i.toNat := by rw [ez]; unfold wB; rw [en]
      refine ⟨xR_of _, fun c2 => ?_, fun c2 => ?_⟩
      · refine ih (i + 1) (by omega) (by omega) (by omega) (fun w hw => ?_)
        by_cases cw : (w : Int) < i
        · exact hno w cw
        · have ew : w = i.toNat := by omega
          rw [ew]; exact fun q => c2 (eb.mpr q)
      · rw [bI_t ⟨i.toNat, by omega, eb.mp c2⟩] at h; exact h
/-- how far the reference has looked: j ways, the first of them and another -/
def IsI (y : Nat → Int) (f0 j : Nat) (o i : Int) : Prop :=
  (i = 1 ∧ o = -999 ∧ mK y f0 j = xShl 1 (y f0)) ∨ (i = 1 ∧ (0 ≤ o ∧ o < 8) ∧ o ≠ y f0 ∧ mK y f0 j = xOr (xShl 1 (y f0)) (xShl 1 o)) ∨ (i = 0 ∧ (0 ≤ o ∧ o < 8) ∧ ¬ wF (mK y f0 j))
theorem IsI_1 {y : Nat → Int} (hy : ∀ i, 0 ≤ y i ∧ y i < 8) (f0 : Nat) : IsI y f0 1 (-999) 1 := by
  refine Or.inl ⟨rfl, rfl, ?_⟩
  obtain ⟨v, hv, ev⟩ := wy_n (hy f0)
  show xOr 0 (xShl 1 (y (f0 + 0))) = _
  rw [Nat.add_zero, ev]; exact (wf_1 v hv).1
theorem IsI_eq {y : Nat → Int} (hy : ∀ i, 0 ≤ y i ∧ y i < 8) {f0 j : Nat} {o i : Int} (h : IsI y f0 j o i) (e : y (f0 + j) = y f0) : IsI y f0 (j + 1) o i := by
  obtain ⟨v, hv, ev⟩ := wy_n (hy f0)
  have hm : mK y f0 (j + 1) = xOr (mK y f0 j) (xShl 1 (y f0)) := by rw [← e]; rfl
  rcases h with ⟨h1, h2, h3⟩ | ⟨h1, h2, h3, h4⟩ | ⟨h1, h2, h3⟩
  · refine Or.inl ⟨h1, h2, ?_⟩
    rw [hm, h3, ev]; exact (wf_1 v hv).2.1
  · refine Or.inr (Or.inl ⟨h1, h2, h3, ?_⟩)
    obtain ⟨u, hu, eu⟩ := wy_n h2
    rw [hm, h4, ev, eu]; exact (wf_2 v hv u hu).1
  · refine Or.inr (Or.inr ⟨h1, h2, fun q => h3 ?_⟩)
    have hb := mK_bd hy f0 j
    have en : mK y f0 j = ((mK y f0 j).toNat : Int) := by omega
    rw [hm, en, ev] at q
    rw [en]; exact wf_or _ (by omega) v hv q
theorem IsI_ne {y : Nat → Int} (hy : ∀ i, 0 ≤ y i ∧ y i < 8) {f0 j : Nat} {o i : Int} (h : IsI y f0 j o i) (e : y (f0 + j) ≠ y f0) : IsI y f0 (j + 1) (y (f0 + j)) (if i = 0 then 0 else if o = -999 then 1 else if o = y (f0 + j) then 1 else 0) := by
  obtain ⟨v, hv, ev⟩ := wy_n (hy f0)
  obtain ⟨d, hd, ed⟩ := wy_n (hy (f0 + j))
  have hm : mK y f0 (j + 1) = xOr (mK y f0 j) (xShl 1 (y (f0 + j))) := rfl
  rcases h with ⟨h1, h2, h3⟩ | ⟨h1, h2, h3, h4⟩ | ⟨h1, h2, h3⟩
  · rw [if_neg (by omega), if_pos h2]
    exact Or.inr (Or.inl ⟨rfl, hy _, e, by rw [hm, h3]⟩)
  · rw [if_neg (by omega), if_neg (by omega)]
    obtain ⟨u, hu, eu⟩ := wy_n h2
    by_cases c : o = y (f0 + j)
    · rw [if_pos c]
      refine Or.inr (Or.inl ⟨rfl, hy _, e, ?_⟩)
      rw [hm, h4, ← c, ev, eu]; exact (wf_2 v hv u hu).2.1
    · rw [if_neg c]
      refine Or.inr (Or.inr ⟨rfl, hy _, ?_⟩)
      rw [hm, h4, ev, eu, ed]
      exact (wf_3 v hv u hu d hd).resolve_left (by omega)
  · rw [if_pos h1]
    refine Or.inr (Or.inr ⟨rfl, hy _, fun q => h3 ?_⟩)
    have hb := mK_bd hy f0 j
    have en : mK y f0 j = ((mK y f0 j).toNat : Int) := by omega
    rw [hm, en, ed] at q
    rw [en]; exact wf_or _ (by omega) d hd q
theorem sm_isSo {σ : xSt} {Post : Int → Prop} (hy : ∀ i : Nat, 0 ≤ σ 1 i ∧ σ 1 i < 8) {f0 m : Nat} (hm : f0 + m ≤ 60) {a b : Int} (ea : a = (f0 : Int)) (eb : b = ((f0 + m : Nat) : Int)) (h : Post (bI (wF (mK (σ 1) f0 m)))) : wp_X10_isSo a b σ Post := by
  unfold wp_X10_isSo
  intro k hk
  have fin : ∀ o i x : Int, b ≤ x → xR x → (1 ≤ m → IsI (σ 1) f0 m o i) → (m = 0 → o = -999 ∧ i = 1) → k o i x := by
    intro o i x hx rx hI h0
    have ro : -999 ≤ o ∧ o ≤ 8 ∧ 0 ≤ i ∧ i ≤ 1 := by
      by_cases c : m = 0
      · have := h0 c; omega
      · rcases hI (by omega) with ⟨h1, h2, h3⟩ | ⟨h1, h2, h3, h4⟩ | ⟨h1, h2, h3⟩ <;> omega
    refine hk o i x ⟨rx, by omega, fun _ => ?_, fun c => absurd c (by omega)⟩
    intro k2 hk2
    have done : ∀ z : Int, xR z → (i = 0 → ¬ wF (mK (σ 1) f0 m)) → (i ≠ 0 → (wF (mK (σ 1) f0 m) ↔ (z = 1 ∨ z = 7))) → k2 z := by
      intro z rz q0 q1
      refine hk2 z ⟨by omega, fun c => ?_, fun c => ⟨rz, fun c2 => ?_, fun c2 => ⟨rz, fun c3 => ?_, fun c3 => ?_⟩⟩⟩
      · rw [bI_f (q0 c)] at h; exact h
      · rw [bI_t ((q1 c).mpr (Or.inl c2))] at h; exact h
      · rw [bI_f (fun w => by rcases (q1 c).mp w with w | w <;> contradiction)] at h; exact h
      · rw [bI_t ((q1 c).mpr (Or.inr c3))] at h; exact h
    refine ⟨by omega, fun c => ?_, fun c => ?_⟩
    · have m1 : 1 ≤ m := by
        rcases Nat.eq_zero_or_pos m with q | q
        · exact absurd (h0 q).1 c
        · exact q
      have hy0 := hy f0
      have et : a.toNat = f0 := by omega
      rw [et]
      have tm : xR (Int.tmod (o - σ 1 f0 + 8) 8) := by
        rcases hI m1 with ⟨h1, h2, h3⟩ | ⟨h1, h2, h3, h4⟩ | ⟨h1, h2, h3⟩
        · exact absurd h2 c
        · have : 0 ≤ o - σ 1 f0 + 8 := by omega
          rw [tmod_e this]; omega
        · have : 0 ≤ o - σ 1 f0 + 8 := by omega
          rw [tmod_e this]; omega
      refine ⟨by omega, by omega, by omega, by omega, done _ tm (fun c2 => ?_) (fun c2 => ?_)⟩
      · rcases hI m1 with ⟨h1, h2, h3⟩ | ⟨h1, h2, h3, h4⟩ | ⟨h1, h2, h3⟩
        · omega
        · omega
        · exact h3
      · rcases hI m1 with ⟨h1, h2, h3⟩ | ⟨h1, h2, h3, h4⟩ | ⟨h1, h2, h3⟩
        · exact absurd h2 c
        · obtain ⟨v, hv, ev⟩ := wy_n hy0
          obtain ⟨u, hu, eu⟩ := wy_n h2
          rw [h4, ev, eu]
          exact (wf_2 v hv u hu).2.2 (by omega)
        · exact absurd h1 c2
    · refine done 1 (by omega) (fun c2 => ?_) (fun c2 => ⟨fun _ => Or.inl rfl, fun _ => ?_⟩)
      · by_cases q : m = 0
        · have := h0 q; omega
        · rcases hI (by omega) with ⟨h1, h2, h3⟩ | ⟨h1, h2, h3, h4⟩ | ⟨h1, h2, h3⟩
          · omega
          · omega
          · exact h3
      · by_cases q : m = 0
        · rw [q]; exact wf_0
        · rcases hI (by omega) with ⟨h1, h2, h3⟩ | ⟨h1, h2, h3, h4⟩ | ⟨h1, h2, h3⟩
          · obtain ⟨v, hv, ev⟩ := wy_n (hy f0)
            rw [h3, ev]; exact (wf_1 v hv).2.2
          · omega
          · omega
  by_cases m0 : m = 0
  · exact fin _ _ _ (by omega) (by omega) (fun q => absurd q (by omega)) (fun _ => ⟨rfl, rfl⟩)
  · have key := lpU (P := fun x => a + 1 ≤ x → ∀ o i : Int, IsI (σ 1) f0 (x - a).toNat o i → k o i x) b (fun x hx ih x0 o i hI => ?_) (a + 1) (by omega) (by omega) (-999) 1 (by rw [show (a + 1 - a).toNat = 1 by omega]; exact IsI_1 hy f0)
    · exact key
    · by_cases c : b ≤ x
      · have e : (x - a).toNat = m := by omega
        rw [e] at hI
        exact fin o i x c (by omega) (fun _ => hI) (fun q => absurd q m0)
      · have e1 : x.toNat = f0 + (x - a).toNat := by omega
        have e2 : a.toNat = f0 := by omega
        have e3 : (x + 1 - a).toNat = (x - a).toNat + 1 := by omega
        have hx1 := hy (f0 + (x - a).toNat)
        have hf := hy f0
        have ro : -999 ≤ o ∧ o ≤ 8 ∧ 0 ≤ i ∧ i ≤ 1 := by
          rcases hI with ⟨h1, h2, h3⟩ | ⟨h1, h2, h3, h4⟩ | ⟨h1, h2, h3⟩ <;> omega
        refine hk o i x ⟨by omega, by omega, fun q => absurd q c, fun _ => ⟨by omega, by omega, ?_⟩⟩
        rw [e1, e2]
        refine ⟨by omega, by omega, fun c2 => ?_, fun c2 => ?_⟩
        · exact ih (x + 1) (by omega) (by omega) (by omega) o i (by rw [e3]; exact IsI_eq hy hI c2)
        · intro k2 hk2
          have nx := IsI_ne hy hI c2
          have go : ∀ z : Int, z = (if i = 0 then 0 else if o = -999 then 1 else if o = σ 1 (f0 + (x - a).toNat) then 1 else 0) → k2 z := by
            intro z ez
            refine hk2 z ⟨by omega, ?_⟩
            refine ih (x + 1) (by omega) (by omega) (by omega) _ _ ?_
            rw [e3, ez]; exact nx
          refine ⟨by omega, fun c3 => go 0 (by rw [if_pos c3]), fun c3 => ⟨by omega, fun c4 => go 1 (by rw [if_neg c3, if_pos c4]), fun c4 => ⟨by omega, by omega, by omega, fun c5 => go 0 (by rw [if_neg c3, if_neg c4, if_neg c5]), fun c5 => go 1 (by rw [if_neg c3, if_neg c4, if_pos c5])⟩⟩⟩
