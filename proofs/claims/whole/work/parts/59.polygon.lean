/-! what the corners are like -/
theorem fin_bo {U : List (Int × Int)} : bo (fin U) = bo U := by
  cases U with
  | nil => rfl
  | cons t U =>
    cases U with
    | nil => rfl
    | cons u r =>
      rw [fin]; split <;> rfl
theorem fin_mem {U : List (Int × Int)} {q : Int × Int} : (q ∈ fin U → q ∈ U) ∧ (q ∈ U → q ∈ fin U) ∧ (fin U).length ≤ U.length := by
  cases U with
  | nil => exact ⟨id, id, Nat.le_refl _⟩
  | cons t U =>
    cases U with
    | nil => exact ⟨id, id, Nat.le_refl _⟩
    | cons u r =>
      rw [fin]
      by_cases c : t = bo (u :: r)
      · rw [if_pos c]
        refine ⟨fun h => List.mem_cons_of_mem _ h, fun h => ?_, by simp⟩
        rcases List.mem_cons.mp h with e | e
        · rw [e, c]; exact bo_mem (by simp)
        · exact e
      · rw [if_neg c]
        exact ⟨id, id, Nat.le_refl _⟩
theorem pops_top {b : Nat} {p u v : Int × Int} {L r : List (Int × Int)} (h : pops b p L = u :: v :: r) : ¬ (b ≤ r.length ∧ sd v u p ≤ 0) := by
  induction L with
  | nil => exact absurd h (by simp [pops])
  | cons t L ih =>
    cases L with
    | nil => exact absurd h (by simp [pops])
    | cons s z =>
      rw [pops] at h
      by_cases c : b ≤ z.length ∧ sd s t p ≤ 0
      · rw [if_pos c] at h; exact ih h
      · rw [if_neg c] at h
        injection h with h1 h2
        injection h2 with h2 h3
        rw [← h1, ← h2, ← h3]; exact c
theorem LC_cv {w h : Int} {p : Nat → Int} (x : Nat) {t u v : Int × Int} {r : List (Int × Int)} (e : LC w h p x = t :: u :: v :: r) : 0 < sd v u t := by
  induction x with
  | zero => exact absurd e (by simp [LC])
  | succ x ih =>
    rw [LC] at e
    by_cases d : fI w h p x < h
    · rw [if_pos d, psh] at e
      injection e with e1 e2
      have q := pops_top e2
      rw [e1] at q
      by_cases c : 0 < sd v u t
      · exact c
      · exact absurd ⟨Nat.zero_le _, by omega⟩ q
    · rw [if_neg d] at e
      exact ih e
theorem DU_cv {w h : Int} {p : Nat → Int} (j : Nat) {t u v : Int × Int} {r : List (Int × Int)} (e : DU w h p j = t :: u :: v :: r) : 0 < sd v u t := by
  induction j with
  | zero => exact absurd e (by simp [DU])
  | succ j ih =>
    rw [DU] at e
    by_cases d : 0 ≤ lA w h p (w - 1 - j)
    · rw [if_pos d, psh] at e
      injection e with e1 e2
      have q := pops_top e2
      rw [e1] at q
      by_cases c : 0 < sd v u t
      · exact c
      · exact absurd ⟨Nat.zero_le _, by omega⟩ q
    · rw [if_neg d] at e
      exact ih e
theorem DU_tl {w h : Int} {p : Nat → Int} (j : Nat) {c f : Int} {r : List (Int × Int)} (e : DU w h p j = (c, f) :: r) : ∀ q ∈ r, c < q.1 := by
  induction j with
  | zero => exact absurd e (by simp [DU])
  | succ j ih =>
    rw [DU] at e
    by_cases d : 0 ≤ lA w h p (w - 1 - j)
    · rw [if_pos d, psh] at e
      injection e with e1 e2
      injection e1 with e3 e4
      intro q hq
      rw [← e2] at hq
      rw [← e3]
      exact DU_gt j q (pops_mem hq)
    · rw [if_neg d] at e
      exact ih e
theorem LC_En {w h : Int} {p : Nat → Int} (hG : GOk w h p) (x : Nat) : ∀ q ∈ LC w h p x, En w h p q.1 := by
  induction x with
  | zero => intro q hq; exact absurd hq (by simp [LC])
  | succ x ih =>
    intro q hq
    rw [LC] at hq
    by_cases c : fI w h p x < h
    · rw [if_pos c] at hq
      rcases List.mem_cons.mp hq with e | e
      · rw [e]; exact (fI_sp hG (x : Int)).2.2.1.mp c
      · exact ih q (pops_mem e)
    · rw [if_neg c] at hq
      exact ih q hq
theorem UC_En {w h : Int} {p : Nat → Int} (hG : GOk w h p) {b : Nat} {C : List (Int × Int)} (hC : ∀ q ∈ C, En w h p q.1) (j : Nat) : ∀ q ∈ UC w h p b C j, En w h p q.1 := by
  induction j with
  | zero => exact hC
  | succ j ih =>
    intro q hq
    rw [UC] at hq
    by_cases c : 0 ≤ lA w h p (w - 1 - j)
    · rw [if_pos c] at hq
      rcases List.mem_cons.mp hq with e | e
      · rw [e]; exact c
      · exact ih q (pops_mem e)
    · rw [if_neg c] at hq
      exact ih q hq
theorem UC_nil {w h : Int} {p : Nat → Int} (hG : GOk w h p) (hC : LC w h p w.toNat = []) : HU w h p = [] := by
  have ew : ((w.toNat : Nat) : Int) = w := by have := hG.1; omega
  unfold HU
  rw [hC]
  have : ∀ j : Nat, (j : Int) ≤ w → UC w h p (([] : List (Int × Int)).length - 1) [] j = [] := by
    intro j
    induction j with
    | zero => exact fun _ => rfl
    | succ j ihj =>
      intro hj
      rw [UC, if_neg, ihj (by omega)]
      rcases LC_g hG w.toNat with ⟨-, -, i3⟩ | ⟨_, _, _, _, _, _, _, i5, _⟩
      · exact i3 _ (by omega) (by omega)
      · rw [hC] at i5; exact absurd i5 (by simp)
  rw [this w.toNat (by omega)]; rfl
/-- bounds, and the foot lies leftmost -/
theorem HU_ok {w h : Int} {p : Nat → Int} (hG : GOk w h p) : gB w h (HU w h p) ∧ (HU w h p).length ≤ 24 ∧ ∀ q ∈ HU w h p, (bo (HU w h p)).1 ≤ q.1 := by
  have g2 := hG.2.1
  have ew : ((w.toNat : Nat) : Int) = w := by have := hG.1; omega
  by_cases hC : LC w h p w.toNat = []
  · rw [UC_nil hG hC]
    exact ⟨fun q hq => absurd hq (by simp), by simp, fun q hq => absurd hq (by simp)⟩
  · have ok := LC_ok hG w.toNat (by omega)
    have ok2 := UC_ok hG (b := (LC w h p w.toNat).length - 1) ok.1 w.toNat (by omega)
    obtain ⟨c, r, b1, b2, b3, b4, b5, b6, b7⟩ := bo_M hG hC
    have eb : bo (HU w h p) = (c, fI w h p c) := by
      unfold HU
      rw [fin_bo]
      rcases UC_e hG hC w.toNat (by omega) with ⟨q, -⟩ | ⟨-, q | ⟨t, r', q1, q2, q3, q4⟩⟩
      · rw [q] at b2; exact absurd b2 (by simp)
      · rw [q]; exact b5
      · rw [q4, ← b4, q2]; rfl
    have hb : gB w h (HU w h p) := fun q hq => ok2.1 q (fin_mem.1 hq)
    refine ⟨hb, ?_, fun q hq => ?_⟩
    · have := (fin_mem (U := UC w h p ((LC w h p w.toNat).length - 1) (LC w h p w.toNat) w.toNat) (q := (0, 0))).2.2
      unfold HU; omega
    · rw [eb]
      show c ≤ q.1
      have en := UC_En hG (b := (LC w h p w.toNat).length - 1) (LC_En hG w.toNat) w.toNat q (fin_mem.1 hq)
      have := hb q hq
      by_cases cc : q.1 < c
      · exact absurd en (b6 q.1 (by omega) cc)
      · omega
/-- three or more are not in one line -/
theorem HU_3 {w h : Int} {p : Nat → Int} (hG : GOk w h p) (h3 : 3 ≤ (HU w h p).length) : ∃ a ∈ HU w h p, ∃ b ∈ HU w h p, ∃ c ∈ HU w h p, sd a b c ≠ 0 := by
  have ew : ((w.toNat : Nat) : Int) = w := by have := hG.1; omega
  have hC : LC w h p w.toNat ≠ [] := fun q => by rw [UC_nil hG q] at h3; exact absurd h3 (by simp)
  obtain ⟨c, r, b1, b2, b3, b4, b5, b6, b7⟩ := bo_M hG hC
  obtain ⟨cl, d0, r0, l1, l2, l3, l4, l5, l6, l7, l8, l9, l10⟩ := (LC_g hG w.toNat).resolve_left (fun q => hC q.1)
  rw [ew] at l2 l4
  have dg := (DU_g hG w.toNat).resolve_left (fun q => q.2.2 cl (by omega) l2 l3)
  rw [ew] at dg
  obtain ⟨c', d, r', k1, k2, k3, k4, k5, k6, k7, k8, k9, k10, k11⟩ := dg
  have ed : d = cl := by
    by_cases q : cl < d
    · exact absurd k8 (l4 d q k7)
    · by_cases q2 : d < cl
      · exact absurd l3 (k9 cl q2 l2)
      · omega
  rw [ed] at k10
  -- both chains lie in it
  have hE := HU_e hG hC
  have sub : ∀ q ∈ DU w h p w.toNat ++ (RLc w h p w.toNat).tail, q ∈ HU w h p := by
    intro q hq
    rw [hE]
    by_cases e : fI w h p c = lA w h p c
    · rw [b3, if_pos e, List.nil_append]
      rw [b2] at hq b5 ⊢
      split
      · next hl =>
        rcases List.mem_cons.mp hq with m | m
        · have b5' : bo ((c, lA w h p c) :: (r ++ (RLc w h p w.toNat).tail)) = (c, fI w h p c) := b5
          have hl' : 1 < ((c, lA w h p c) :: (r ++ (RLc w h p w.toNat).tail)).length := hl
          show q ∈ r ++ (RLc w h p w.toNat).tail
          generalize r ++ (RLc w h p w.toNat).tail = z at b5' hl'
          cases z with
          | nil => exact absurd hl' (by simp)
          | cons u z =>
            have b6 : bo (u :: z) = (c, fI w h p c) := b5'
            rw [m, ← e, ← b6]
            exact bo_mem (by simp)
        · exact m
      · exact hq
    · rw [b3, if_neg e, if_pos (by rw [b2]; simp)]
      exact hq
  have subD : ∀ q ∈ DU w h p w.toNat, q ∈ HU w h p := fun q hq => sub q (List.mem_append.mpr (Or.inl hq))
  have hDb : (cl, lA w h p cl) ∈ DU w h p w.toNat := by
    rw [← k10]; exact bo_mem (by rw [k5]; simp)
  have subC : ∀ q ∈ LC w h p w.toNat, q ∈ HU w h p := by
    intro q hq
    by_cases e : fI w h p cl = lA w h p cl
    · rw [l5] at hq
      rcases List.mem_cons.mp hq with m | m
      · rw [m, e]; exact subD _ hDb
      · exact sub q (List.mem_append.mpr (Or.inr (by rw [l6, if_pos e, l5]; exact m)))
    · exact sub q (List.mem_append.mpr (Or.inr (by rw [l6, if_neg e]; exact hq)))
  have ebC : bo (LC w h p w.toNat) = (c, fI w h p c) := b4
  have hCb : (c, fI w h p c) ∈ LC w h p w.toNat := by rw [← ebC]; exact bo_mem hC
  by_cases d3 : 3 ≤ (DU w h p w.toNat).length
  · cases eD : DU w h p w.toNat with
    | nil => rw [eD] at d3; exact absurd d3 (by simp)
    | cons t L =>
      cases L with
      | nil => rw [eD] at d3; exact absurd d3 (by simp)
      | cons u L =>
        cases L with
        | nil => rw [eD] at d3; exact absurd d3 (by simp)
        | cons v L =>
          have cv := DU_cv w.toNat eD
          rw [eD] at subD
          exact ⟨v, subD v (by simp), u, subD u (by simp), t, subD t (by simp), by omega⟩
  · by_cases c3 : 3 ≤ (LC w h p w.toNat).length
    · cases eD : LC w h p w.toNat with
      | nil => rw [eD] at c3; exact absurd c3 (by simp)
      | cons t L =>
        cases L with
        | nil => rw [eD] at c3; exact absurd c3 (by simp)
        | cons u L =>
          cases L with
          | nil => rw [eD] at c3; exact absurd c3 (by simp)
          | cons v L =>
            have cv := LC_cv w.toNat eD
            rw [eD] at subC
            exact ⟨v, subC v (by simp), u, subC u (by simp), t, subC t (by simp), by omega⟩
    · -- at most four points, two columns
      by_cases ex : c = cl
      · -- one column: two points at most
        exfalso
        have er0 : r0 = [] := by
          cases r0 with
          | nil => rfl
          | cons u z =>
            have m := bo_mem (L := u :: z) (by simp)
            have lt := LC_tl w.toNat l5 _ m
            have b9 : bo (u :: z) = (c, fI w h p c) := by rw [l5] at ebC; exact ebC
            rw [b9] at lt
            exact absurd (show c < cl from lt) (by omega)
        have er : r = [] := by
          cases r with
          | nil => rfl
          | cons u z =>
            have m := bo_mem (L := u :: z) (by simp)
            have lt := DU_tl w.toNat b2 _ m
            have b9 : bo (u :: z) = (cl, lA w h p cl) := by rw [b2] at k10; exact k10
            rw [b9] at lt
            exact absurd (show c < cl from lt) (by omega)
        have el := EX_len (w := w) (h := h) (p := p) w.toNat
        have ql : (EX w h p w.toNat ++ (DU w h p w.toNat ++ (RLc w h p w.toNat).tail)).length ≤ 3 := by
          rw [List.length_append, List.length_append, b2, er, l6]
          split
          · rw [l5, er0]; simp <;> omega
          · rw [List.tail_cons, l5, er0]; simp <;> omega
        rw [hE] at h3
        split at h3
        · rw [List.length_tail] at h3; omega
        · next q => omega
      · have clt : c < cl := by
          by_cases q : cl < c
          · exact absurd l3 (b6 cl l1 q)
          · omega
        by_cases e1 : fI w h p cl = lA w h p cl
        · by_cases e2 : fI w h p c = lA w h p c
          · -- the ends are single: only two corners
            exfalso
            have ql : (EX w h p w.toNat ++ (DU w h p w.toNat ++ (RLc w h p w.toNat).tail)).length ≤ 3 := by
              rw [List.length_append, List.length_append, b3, if_pos e2, l6, if_pos e1, List.length_tail]
              simp only [List.length_nil]
              omega
            rw [hE] at h3
            split at h3
            · rw [List.length_tail] at h3; omega
            · next q => omega
          · have s := fI_sp hG c
            have lt : fI w h p c < lA w h p c := by have := s.2.2.2.1 (s.2.2.1.mpr b1); omega
            refine ⟨(c, fI w h p c), subC _ hCb, (c, lA w h p c), subD _ (by rw [b2]; simp), (cl, lA w h p cl), subD _ hDb, ?_⟩
            rw [sd_v]
            have := mul_pn (show 0 < lA w h p c - fI w h p c by omega) (show c - cl < 0 by omega)
            show (lA w h p c - fI w h p c) * (c - cl) ≠ 0
            omega
        · have s := fI_sp hG cl
          have lt : fI w h p cl < lA w h p cl := by have := s.2.2.2.1 (s.2.2.1.mpr l3); omega
          refine ⟨(c, fI w h p c), subC _ hCb, (cl, fI w h p cl), subC _ (by rw [l5]; simp), (cl, lA w h p cl), subD _ hDb, ?_⟩
          rw [sd_w]
          have := mul_pp (show 0 < cl - c by omega) (show 0 < lA w h p cl - fI w h p cl by omega)
          show (cl - c) * (lA w h p cl - fI w h p cl) ≠ 0
          omega
/-! a point that all sides have to their left -/
def crs (q a b : Int × Int) : Int := (a.1 - q.1) * (b.2 - q.2) - (a.2 - q.2) * (b.1 - q.1)
theorem sd_crs (a b q : Int × Int) : sd a b q = crs q a b := by
  unfold sd crs
  grind
theorem sd_3 (q a b c : Int × Int) : sd a b c = crs q a b + crs q b c + crs q c a := by
  unfold sd crs
  grind
theorem crs_s (q a b : Int × Int) : crs q b a = -crs q a b := by
  unfold crs
  grind
def lf (al be : Int) (q a : Int × Int) : Int := al * (a.1 - q.1) + be * (a.2 - q.2)
theorem lf_id (al be : Int) (q a b c : Int × Int) : lf al be q b * crs q a c = lf al be q a * crs q b c + lf al be q c * crs q a b := by
  unfold lf crs
  grind
theorem hp_tr {al be : Int} {q a b c : Int × Int} (ha : lf al be q a < 0) (hb : lf al be q b < 0) (hc : lf al be q c < 0) (h1 : 0 ≤ crs q a b) (h2 : 0 ≤ crs q b c) : 0 ≤ crs q a c := by
  by_cases d : 0 ≤ crs q a c
  · exact d
  · have id := lf_id al be q a b c
    have p1 := mul_nn hb (show crs q a c < 0 by omega)
    have p2 : lf al be q a * crs q b c ≤ 0 := Int.mul_nonpos_of_nonpos_of_nonneg (by omega) h2
    have p3 : lf al be q c * crs q a b ≤ 0 := Int.mul_nonpos_of_nonpos_of_nonneg (by omega) h1
    omega
theorem flat {al be : Int} {q : Int × Int} {n : Nat} {P : Nat → Int × Int} (hl : ∀ i, i < n → lf al be q (P i) < 0) (hs : ∀ i, i < n → 0 ≤ sd (P i) (P (if i + 1 < n then i + 1 else 0)) q) {i j k : Nat} (hi : i < n) (hj : j < n) (hk : k < n) : sd (P i) (P j) (P k) = 0 := by
  have up : ∀ m, m < n → 0 ≤ crs q (P 0) (P m) := by
    intro m
    induction m with
    | zero => intro _; have := crs_s q (P 0) (P 0); omega
    | succ m ih =>
      intro hm
      have s := hs m (by omega)
      rw [if_pos hm, sd_crs] at s
      exact hp_tr (hl 0 (by omega)) (hl m (by omega)) (hl (m + 1) hm) (ih (by omega)) s
  have dn : ∀ z m, m < n → n - 1 - m ≤ z → 0 ≤ crs q (P m) (P 0) := by
    intro z
    induction z with
    | zero =>
      intro m hm hz
      have s := hs m hm
      rw [if_neg (by omega), sd_crs] at s
      exact s
    | succ z ih =>
      intro m hm hz
      by_cases c : m + 1 < n
      · have s := hs m hm
        rw [if_pos c, sd_crs] at s
        exact hp_tr (hl m hm) (hl (m + 1) c) (hl 0 (by omega)) s (ih (m + 1) c (by omega))
      · have s := hs m hm
        rw [if_neg c, sd_crs] at s
        exact s
  have z0 : ∀ m, m < n → crs q (P 0) (P m) = 0 := by
    intro m hm
    have a := up m hm
    have b := dn _ m hm (Nat.le_refl _)
    have := crs_s q (P 0) (P m)
    omega
  have zz : ∀ a b, a < n → b < n → crs q (P a) (P b) = 0 := by
    intro a b ha hb
    have id := lf_id al be q (P a) (P 0) (P b)
    have e1 := z0 b hb
    have e2 : crs q (P a) (P 0) = 0 := by
      have := crs_s q (P 0) (P a)
      have := z0 a ha
      omega
    rw [e1, e2, Int.mul_zero, Int.mul_zero, Int.add_zero] at id
    rcases Int.mul_eq_zero.mp id with q1 | q1
    · have := hl 0 (by omega); omega
    · exact q1
  rw [sd_3 q, zz i j hi hj, zz j k hj hk, zz k i hk hi]
  rfl
