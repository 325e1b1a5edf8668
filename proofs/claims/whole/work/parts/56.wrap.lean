/-! the class wraps a heap -/
def fi (v : Int → Int) : Nat → Int
  | 0 => 0
  | n + 1 => if fi v n < n then fi v n else if v n ≠ 0 then (n : Int) else (n : Int) + 1
theorem fi_sp (v : Int → Int) (n : Nat) : 0 ≤ fi v n ∧ fi v n ≤ n ∧ (∀ i : Int, 0 ≤ i → i < fi v n → v i = 0) ∧ (fi v n < n → v (fi v n) ≠ 0) := by
  induction n with
  | zero => exact ⟨Int.le_refl _, Int.le_refl _, fun i h1 h2 => absurd (show i < 0 from h2) (by omega), fun h => absurd (show (0 : Int) < 0 from h) (by omega)⟩
  | succ n ih =>
    obtain ⟨h1, h2, h3, h4⟩ := ih
    rw [fi]
    by_cases c : fi v n < n
    · rw [if_pos c]
      exact ⟨h1, by omega, h3, fun _ => h4 c⟩
    · rw [if_neg c]
      have e : fi v n = n := by omega
      by_cases d : v n ≠ 0
      · rw [if_pos d]
        exact ⟨by omega, by omega, fun i i1 i2 => h3 i i1 (by omega), fun _ => d⟩
      · rw [if_neg d]
        refine ⟨by omega, by omega, fun i i1 i2 => ?_, fun q => absurd q (by omega)⟩
        by_cases ci : i = n
        · rw [ci]; exact Classical.not_not.mp d
        · exact h3 i i1 (by omega)
theorem fi_u {v : Int → Int} {n : Nat} {a : Int} (a0 : 0 ≤ a) (a1 : a < n) (ha : v a ≠ 0) (hl : ∀ i : Int, 0 ≤ i → i < a → v i = 0) : fi v n = a := by
  obtain ⟨h1, h2, h3, h4⟩ := fi_sp v n
  by_cases c : fi v n < a
  · exact absurd (hl _ h1 c) (h4 (by omega))
  · by_cases d : a < fi v n
    · exact absurd (h3 a a0 d) ha
    · omega
theorem fi_n {v : Int → Int} {n : Nat} (hl : ∀ i : Int, 0 ≤ i → i < n → v i = 0) : fi v n = n := by
  obtain ⟨h1, h2, h3, h4⟩ := fi_sp v n
  by_cases c : fi v n < n
  · exact absurd (hl _ h1 c) (h4 c)
  · omega
def la (v : Int → Int) : Nat → Int
  | 0 => -1
  | n + 1 => if v n ≠ 0 then (n : Int) else la v n
theorem la_sp (v : Int → Int) (n : Nat) : -1 ≤ la v n ∧ la v n < n ∧ (∀ i : Int, la v n < i → i < n → v i = 0) ∧ (0 ≤ la v n → v (la v n) ≠ 0) := by
  induction n with
  | zero => exact ⟨Int.le_refl _, by show (-1 : Int) < 0; omega, fun i h1 h2 => absurd (show (-1 : Int) < i from h1) (by omega), fun h => absurd (show (0 : Int) ≤ -1 from h) (by omega)⟩
  | succ n ih =>
    obtain ⟨h1, h2, h3, h4⟩ := ih
    rw [la]
    by_cases d : v n ≠ 0
    · rw [if_pos d]
      exact ⟨by omega, by omega, fun i i1 i2 => absurd i1 (by omega), fun _ => d⟩
    · rw [if_neg d]
      refine ⟨h1, by omega, fun i i1 i2 => ?_, h4⟩
      by_cases ci : i = n
      · rw [ci]; exact Classical.not_not.mp d
      · exact h3 i i1 (by omega)
theorem la_u {v : Int → Int} {n : Nat} {a : Int} (a0 : 0 ≤ a) (a1 : a < n) (ha : v a ≠ 0) (hl : ∀ i : Int, a < i → i < n → v i = 0) : la v n = a := by
  obtain ⟨h1, h2, h3, h4⟩ := la_sp v n
  by_cases c : la v n < a
  · exact absurd (h3 a c a1) ha
  · by_cases d : a < la v n
    · exact absurd (hl _ d h2) (h4 (by omega))
    · omega
theorem la_n {v : Int → Int} {n : Nat} (hl : ∀ i : Int, 0 ≤ i → i < n → v i = 0) : la v n = -1 := by
  obtain ⟨h1, h2, h3, h4⟩ := la_sp v n
  by_cases c : 0 ≤ la v n
  · exact absurd (hl _ c h2) (h4 c)
  · omega
theorem fl_ne {v : Int → Int} {n : Nat} : (fi v n < n ↔ 0 ≤ la v n) ∧ (fi v n < n → fi v n ≤ la v n) := by
  obtain ⟨h1, h2, h3, h4⟩ := fi_sp v n
  obtain ⟨g1, g2, g3, g4⟩ := la_sp v n
  have a : fi v n < n → fi v n ≤ la v n := by
    intro c
    by_cases d : la v n < fi v n
    · exact absurd (g3 _ d c) (h4 c)
    · omega
  refine ⟨⟨fun c => by have := a c; omega, fun c => ?_⟩, a⟩
  by_cases d : fi v n < n
  · exact d
  · exact absurd (h3 _ c (by omega)) (g4 c)
def co (w h : Int) (p : Nat → Int) (x : Int) : Int → Int := fun y => aV w h p x y
def fI (w h : Int) (p : Nat → Int) (x : Int) : Int := fi (co w h p x) h.toNat
def lA (w h : Int) (p : Nat → Int) (x : Int) : Int := la (co w h p x) h.toNat
def LC (w h : Int) (p : Nat → Int) : Nat → List (Int × Int)
  | 0 => []
  | x + 1 => if fI w h p x < h then psh 0 ((x : Int), fI w h p x) (LC w h p x) else LC w h p x
def UC (w h : Int) (p : Nat → Int) (b : Nat) (C : List (Int × Int)) : Nat → List (Int × Int)
  | 0 => C
  | j + 1 => if 0 ≤ lA w h p (w - 1 - j) then psh b (w - 1 - (j : Int), lA w h p (w - 1 - j)) (UC w h p b C j) else UC w h p b C j
def bo : List (Int × Int) → Int × Int
  | [] => (0, 0)
  | [p] => p
  | _ :: q :: r => bo (q :: r)
def fin (U : List (Int × Int)) : List (Int × Int) :=
  match U with
  | [] => []
  | [t] => [t]
  | t :: u :: r => if t = bo (u :: r) then u :: r else t :: u :: r
def HU (w h : Int) (p : Nat → Int) : List (Int × Int) := fin (UC w h p ((LC w h p w.toNat).length - 1) (LC w h p w.toNat) w.toNat)
def gB (w h : Int) (L : List (Int × Int)) : Prop := ∀ q ∈ L, 0 ≤ q.1 ∧ q.1 < w ∧ 0 ≤ q.2 ∧ q.2 < h
theorem gB_p {w h : Int} {p : Nat → Int} (hG : GOk w h p) {L : List (Int × Int)} (hL : gB w h L) : pB L := by
  obtain ⟨g1, g2, g3, g4, -⟩ := hG
  intro q hq
  have := hL q hq
  omega
theorem psh_B {w h : Int} {b : Nat} {p : Int × Int} {L : List (Int × Int)} (hL : gB w h L) (hp : 0 ≤ p.1 ∧ p.1 < w ∧ 0 ≤ p.2 ∧ p.2 < h) : gB w h (psh b p L) := by
  intro q hq
  rcases List.mem_cons.mp hq with e | e
  · rw [e]; exact hp
  · exact hL q (pops_mem e)
theorem psh_len (b : Nat) (p : Int × Int) (L : List (Int × Int)) : (psh b p L).length ≤ L.length + 1 := by
  have := pops_len b p L
  simp only [psh, List.length_cons]; omega
theorem fI_sp {w h : Int} {p : Nat → Int} (hG : GOk w h p) (x : Int) : 0 ≤ fI w h p x ∧ fI w h p x ≤ h ∧ (fI w h p x < h ↔ 0 ≤ lA w h p x) ∧ (fI w h p x < h → fI w h p x ≤ lA w h p x) ∧ -1 ≤ lA w h p x ∧ lA w h p x < h := by
  obtain ⟨g1, g2, g3, g4, -⟩ := hG
  obtain ⟨h1, h2, h3, h4⟩ := fi_sp (co w h p x) h.toNat
  obtain ⟨k1, k2, k3, k4⟩ := la_sp (co w h p x) h.toNat
  have e : ((h.toNat : Nat) : Int) = h := by omega
  have f := fl_ne (v := co w h p x) (n := h.toNat)
  rw [e] at h2 k2 f
  exact ⟨h1, h2, f.1, f.2, k1, k2⟩
theorem LC_ok {w h : Int} {p : Nat → Int} (hG : GOk w h p) (x : Nat) (hx : (x : Int) ≤ w) : gB w h (LC w h p x) ∧ (LC w h p x).length ≤ x := by
  induction x with
  | zero => exact ⟨fun q hq => absurd hq (by simp [LC]), Nat.le_refl _⟩
  | succ x ih =>
    have i := ih (by omega)
    rw [LC]
    by_cases c : fI w h p x < h
    · rw [if_pos c]
      have s := fI_sp hG (x : Int)
      have l := psh_len 0 ((x : Int), fI w h p x) (LC w h p x)
      exact ⟨psh_B i.1 ⟨by show (0 : Int) ≤ x; omega, by show (x : Int) < w; omega, s.1, c⟩, by omega⟩
    · rw [if_neg c]
      exact ⟨i.1, by omega⟩
theorem UC_ok {w h : Int} {p : Nat → Int} (hG : GOk w h p) {b : Nat} {C : List (Int × Int)} (hC : gB w h C) (j : Nat) (hj : (j : Int) ≤ w) : gB w h (UC w h p b C j) ∧ (UC w h p b C j).length ≤ C.length + j := by
  induction j with
  | zero => exact ⟨hC, Nat.le_refl _⟩
  | succ j ih =>
    have i := ih (by omega)
    rw [UC]
    by_cases c : 0 ≤ lA w h p (w - 1 - j)
    · rw [if_pos c]
      have s := fI_sp hG (w - 1 - (j : Int))
      have l := psh_len b (w - 1 - (j : Int), lA w h p (w - 1 - j)) (UC w h p b C j)
      exact ⟨psh_B i.1 ⟨by show (0 : Int) ≤ w - 1 - j; omega, by show w - 1 - (j : Int) < w; omega, c, s.2.2.2.2.2⟩, by omega⟩
    · rw [if_neg c]
      exact ⟨i.1, by omega⟩
theorem sx_addLowest {σ : xSt} {Post : xSt → Prop} (hG : GOk (σ 7 1) (σ 7 2) (σ 8)) {x : Int} (x0 : 0 ≤ x) (x1 : x < σ 7 1) {L : List (Int × Int)} (hL : L.length ≤ 23) (hB : gB (σ 7 1) (σ 7 2) L) (hc : cR σ L) (hp : ∀ s', eqx [15, 16, 17] σ s' → cR s' (if fI (σ 7 1) (σ 7 2) (σ 8) x < σ 7 2 then psh 0 (x, fI (σ 7 1) (σ 7 2) (σ 8) x) L else L) → Post s') : wp_X3_addLowest x σ Post := by
  obtain ⟨g1, g2, g3, g4, -⟩ := id hG
  have eh : (((σ 7 2).toNat : Nat) : Int) = σ 7 2 := by omega
  unfold wp_X3_addLowest
  intro k hk
  have key := lpU (P := fun y => 0 ≤ y → (∀ i : Int, 0 ≤ i → i < y → co (σ 7 1) (σ 7 2) (σ 8) x i = 0) → k y) (σ 7 2) (fun y hy ih y0 hn => ?_) 0 (by omega) (by omega) (fun i h1 h2 => absurd h2 (by omega))
  · exact key
  · refine hk y ?_
    show xR y ∧ xR (σ 7 2) ∧ _ ∧ _
    refine ⟨by omega, by omega, fun c => ?_, fun c => sx_holdsAt hG (by omega) (by omega) ⟨r01 (aV_01 hG _ _), fun d => ?_, fun d => ?_⟩⟩
    · have e : fI (σ 7 1) (σ 7 2) (σ 8) x = σ 7 2 := by
        unfold fI
        rw [fi_n (fun i i1 i2 => hn i i1 (by omega)), eh]
      refine hp σ (eqx_rf _ _) ?_
      rw [if_neg (by omega)]; exact hc
    · refine ih (y + 1) (by omega) (by omega) (by omega) (fun i i1 i2 => ?_)
      by_cases ci : i = y
      · rw [ci]; exact d
      · exact hn i i1 (by omega)
    · have e : fI (σ 7 1) (σ 7 2) (σ 8) x = y := by
        unfold fI
        exact fi_u y0 (by omega) d hn
      have pr := sx_add (σ := σ) (Post := Post) (b := 0) (p := (x, y)) hL (by omega) (gB_p hG hB) ⟨x0, by show x ≤ 11; omega, y0, by show y ≤ 11; omega⟩ hc (fun s' q' h' => hp s' q' (by rw [e, if_pos c]; exact h'))
      exact pr
theorem sx_addHighest {σ : xSt} {Post : xSt → Prop} (hG : GOk (σ 7 1) (σ 7 2) (σ 8)) {x : Int} (x0 : 0 ≤ x) (x1 : x < σ 7 1) {b : Nat} (hb : b ≤ 100) {L : List (Int × Int)} (hL : L.length ≤ 23) (hB : gB (σ 7 1) (σ 7 2) L) (hc : cR σ L) (hp : ∀ s', eqx [15, 16, 17] σ s' → cR s' (if 0 ≤ lA (σ 7 1) (σ 7 2) (σ 8) x then psh b (x, lA (σ 7 1) (σ 7 2) (σ 8) x) L else L) → Post s') : wp_X3_addHighest x (b : Int) σ Post := by
  obtain ⟨g1, g2, g3, g4, -⟩ := id hG
  have eh : (((σ 7 2).toNat : Nat) : Int) = σ 7 2 := by omega
  show ∀ k8 : Int → Prop, _ → k8 (σ 7 2 - 1)
  intro k hk
  have key := lpD (P := fun y => y < σ 7 2 → (∀ i : Int, y < i → i < σ 7 2 → co (σ 7 1) (σ 7 2) (σ 8) x i = 0) → k y) (-1) (fun y hy ih y0 hn => ?_) (σ 7 2 - 1) (by omega) (by omega) (fun i h1 h2 => absurd h2 (by omega))
  · exact key
  · refine hk y ⟨by omega, fun c => ?_, fun c => sx_holdsAt hG (by omega) (by omega) ⟨r01 (aV_01 hG _ _), fun d => ?_, fun d => ?_⟩⟩
    · have e : lA (σ 7 1) (σ 7 2) (σ 8) x = -1 := by
        unfold lA
        exact la_n (fun i i1 i2 => hn i (by omega) (by omega))
      refine hp σ (eqx_rf _ _) ?_
      rw [if_neg (by omega)]; exact hc
    · refine ih (y + -1) (by omega) (by omega) (by omega) (fun i i1 i2 => ?_)
      by_cases ci : i = y
      · rw [ci]; exact d
      · exact hn i (by omega) i2
    · have e : lA (σ 7 1) (σ 7 2) (σ 8) x = y := by
        unfold lA
        exact la_u c (by omega) d (fun i i1 i2 => hn i i1 (by omega))
      have pr := sx_add (σ := σ) (Post := Post) (b := b) (p := (x, y)) hL hb (gB_p hG hB) ⟨x0, by show x ≤ 11; omega, c, by show y ≤ 11; omega⟩ hc (fun s' q' h' => hp s' q' (by rw [e, if_pos c]; exact h'))
      exact pr
theorem sR_bo {X Y : Nat → Int} {L : List (Int × Int)} (h : sR X Y L) (hL : L ≠ []) : X 0 = (bo L).1 ∧ Y 0 = (bo L).2 := by
  induction L with
  | nil => exact absurd rfl hL
  | cons t L ih =>
    cases L with
    | nil => exact ⟨h.1, h.2.1⟩
    | cons u r => exact ih h.2.2 (by simp)
theorem sx_wrap {σ : xSt} {Post : xSt → Prop} (hG : GOk (σ 7 1) (σ 7 2) (σ 8)) (hp : ∀ s', eqx [15, 16, 17] σ s' → cR s' (HU (σ 7 1) (σ 7 2) (σ 8)) → Post s') : wp_X3_wrap σ Post := by
  obtain ⟨g1, g2, g3, g4, -⟩ := id hG
  unfold wp_X3_wrap
  intro t e k hk
  have key := lpU (P := fun x => 0 ≤ x → ∀ s : xSt, eqx [15, 16, 17] σ s → cR s (LC (σ 7 1) (σ 7 2) (σ 8) x.toNat) → k x s) (σ 7 1) (fun x hx ih x0 s qs hs => ?_) 0 (by omega) (by omega) t (by rw [e]; exact eqx_up σ _ (by simp)) ⟨by rw [e, xU_s]; rfl, trivial⟩
  · exact key
  · have s7 : s 7 = σ 7 := qs 7 (by decide)
    have s8 : s 8 = σ 8 := qs 8 (by decide)
    have gs : GOk (s 7 1) (s 7 2) (s 8) := by rw [s7, s8]; exact hG
    have ok := LC_ok hG x.toNat (by omega)
    refine hk x s ?_
    show xR x ∧ xR (s 7 1) ∧ _ ∧ _
    rw [s7]
    refine ⟨by omega, by omega, fun c => ?_, fun c => ?_⟩
    · have ex : x.toNat = (σ 7 1).toNat := by omega
      rw [ex] at hs ok
      generalize hC : LC (σ 7 1) (σ 7 2) (σ 8) (σ 7 1).toNat = C at hs ok
      have hlen := hs.1
      refine ⟨by omega, by omega, ?_⟩
      have em : xMax (s 15 2 - 1) 0 = ((C.length - 1 : Nat) : Int) := by rw [hlen]; unfold xMax; split <;> omega
      show ∀ k45 : Int → xSt → Prop, _ → k45 (s 7 1 - 1) s
      rw [em, s7]
      intro k2 hk2
      have key2 := lpD (P := fun z => z < σ 7 1 → ∀ u : xSt, eqx [15, 16, 17] σ u → cR u (UC (σ 7 1) (σ 7 2) (σ 8) (C.length - 1) C (σ 7 1 - 1 - z).toNat) → k2 z u) (-1) (fun z hz ih2 z0 u qu hu => ?_) (σ 7 1 - 1) (by omega) (by omega) s qs (by rw [show (σ 7 1 - 1 - (σ 7 1 - 1)).toNat = 0 from by omega]; exact hs)
      · exact key2
      · have u7 : u 7 = σ 7 := qu 7 (by decide)
        have u8 : u 8 = σ 8 := qu 8 (by decide)
        have gu : GOk (u 7 1) (u 7 2) (u 8) := by rw [u7, u8]; exact hG
        have ok2 := UC_ok hG (b := C.length - 1) ok.1 (σ 7 1 - 1 - z).toNat (by omega)
        refine hk2 z u ⟨by omega, fun d => ?_, fun d => ?_⟩
        · have ez : (σ 7 1 - 1 - z).toNat = (σ 7 1).toNat := by omega
          rw [ez] at hu ok2
          have hp' : ∀ s', eqx [15, 16, 17] σ s' → cR s' (fin (UC (σ 7 1) (σ 7 2) (σ 8) (C.length - 1) C (σ 7 1).toNat)) → Post s' := by
            intro s' q' h'
            refine hp s' q' ?_
            unfold HU
            rw [hC]; exact h'
          generalize UC (σ 7 1) (σ 7 2) (σ 8) (C.length - 1) C (σ 7 1).toNat = U at hu ok2 hp'
          have ul := hu.1
          cases U with
          | nil => exact ⟨by omega, fun _ => hp' u qu hu, fun q => absurd q (by rw [ul]; simp)⟩
          | cons a U =>
            cases U with
            | nil => exact ⟨by omega, fun _ => hp' u qu hu, fun q => absurd q (by rw [ul]; simp)⟩
            | cons b r =>
              have ul' : u 15 2 = (r.length : Int) + 2 := by rw [ul]; simp <;> omega
              obtain ⟨-, x1, x2, x3⟩ := id hu
              have bb := sR_bo x3 (by simp)
              have ba := ok2.1 a (by simp)
              have bm : bo (b :: r) ∈ (a :: b :: r) := by
                have : ∀ L : List (Int × Int), L ≠ [] → bo L ∈ L := by
                  intro L
                  induction L with
                  | nil => exact fun q => absurd rfl q
                  | cons t L ih =>
                    intro _
                    cases L with
                    | nil => simp [bo]
                    | cons v L => exact List.mem_cons_of_mem _ (ih (by simp))
                exact List.mem_cons_of_mem _ (this _ (by simp))
              have bbo := ok2.1 _ bm
              simp only [List.length_cons] at ok2
              have e1 : (u 15 2 - 1).toNat = (b :: r).length := by rw [ul']; simp <;> omega
              rw [e1, x1, x2, bb.1, bb.2]
              have no : ¬ a = bo (b :: r) → Post u := by
                intro q
                refine hp' u qu ?_
                rw [fin, if_neg q]; exact hu
              refine ⟨by omega, fun q => absurd q (by omega), fun _ => ⟨by omega, by omega, by omega, fun q => no (fun w => q (by rw [w])), fun q => ⟨by omega, by omega, by omega, fun q2 => no (fun w => q2 (by rw [w])), fun q2 => ?_⟩⟩⟩
              intro s' e'; subst e'
              refine hp' _ (eqx_tr qu (eqx_up u _ (by simp))) ?_
              rw [fin, if_pos (Prod.ext q q2)]
              exact ⟨by rw [xU_s, ul']; simp <;> omega, x3⟩
        · have ez : (σ 7 1 - 1 - (z + -1)).toNat = (σ 7 1 - 1 - z).toNat + 1 := by omega
          have ez2 : σ 7 1 - 1 - (((σ 7 1 - 1 - z).toNat : Nat) : Int) = z := by omega
          refine sx_addHighest gu d (by rw [u7]; exact z0) (by omega) (by omega) (by rw [u7]; exact ok2.1) hu (fun s' q' h' => ?_)
          refine ih2 (z + -1) (by omega) (by omega) (by omega) s' (eqx_tr qu q') ?_
          rw [ez, UC, ez2]
          rw [u7, u8] at h'
          exact h'
    · have ex : (x + 1).toNat = x.toNat + 1 := by omega
      have ex2 : ((x.toNat : Nat) : Int) = x := by omega
      refine sx_addLowest gs x0 (by rw [s7]; exact c) (by omega) (by rw [s7]; exact ok.1) hs (fun s' q' h' => ?_)
      refine ih (x + 1) (by omega) (by omega) (by omega) s' (eqx_tr qs q') ?_
      rw [ex, LC, ex2]
      rw [s7, s8] at h'
      exact h'
