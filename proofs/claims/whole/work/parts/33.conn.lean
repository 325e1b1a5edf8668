/-! how fields hang together -/
def Cn (S : Nat → Prop) (A : Nat → Nat → Prop) (f g : Nat) : Prop := ∀ P : Nat → Prop, P f → (∀ a b, P a → S b → A a b → P b) → P g
theorem Cn_rf (S : Nat → Prop) (A : Nat → Nat → Prop) (f : Nat) : Cn S A f f := fun _ h _ => h
theorem Cn_tr {S : Nat → Prop} {A : Nat → Nat → Prop} {f g h : Nat} (h1 : Cn S A f g) (h2 : Cn S A g h) : Cn S A f h := fun P p st => h2 P (h1 P p st) st
theorem Cn_1 {S : Nat → Prop} {A : Nat → Nat → Prop} {f g : Nat} (hg : S g) (h : A f g) : Cn S A f g := fun P p st => st f g p hg h
/-- labels: none beyond the set; of the set the least field that hangs together with it -/
def Lab (N : Nat) (S : Nat → Prop) (A : Nat → Nat → Prop) (L : Nat → Int) : Prop :=
  (∀ f, f < N → ¬ S f → L f = -999) ∧ (∀ f, S f → ∃ g : Nat, S g ∧ L f = (g : Int) ∧ g ≤ f ∧ Cn S A f g) ∧ (∀ f g, S f → S g → A f g → L f = L g)
theorem Lab_c {N : Nat} {S : Nat → Prop} {A : Nat → Nat → Prop} {L : Nat → Int} (h : Lab N S A L) {f g : Nat} (hf : S f) (hc : Cn S A f g) : S g ∧ L g = L f := by
  refine hc (fun x => S x ∧ L x = L f) ⟨hf, rfl⟩ (fun a b ha hb hab => ⟨hb, ?_⟩)
  rw [← h.2.2 a b ha.1 hb hab]; exact ha.2
theorem Lab_u {N : Nat} {S : Nat → Prop} {A : Nat → Nat → Prop} {L L' : Nat → Int} (h : Lab N S A L) (h' : Lab N S A L') {f : Nat} (hf : f < N) : L f = L' f := by
  by_cases c : S f
  · have key : ∀ {L L' : Nat → Int}, Lab N S A L → Lab N S A L' → L' f ≤ L f := by
      intro L L' h h'
      obtain ⟨g, g1, g2, g3, g4⟩ := h.2.1 f c
      have e := (Lab_c h' c g4).2
      obtain ⟨g', k1, k2, k3, k4⟩ := h'.2.1 g g1
      omega
    have := key h h'
    have := key h' h
    omega
  · rw [h.1 f hf c, h'.1 f hf c]
/-- beside (a = 0) or about -/
def adj (w a : Int) (f g : Nat) : Prop := (a ≠ 0 ∧ f ≠ g ∧ xAbs ((f : Int) % w - (g : Int) % w) < 2 ∧ xAbs ((f : Int) / w - (g : Int) / w) < 2) ∨ (a = 0 ∧ xAbs ((f : Int) % w - (g : Int) % w) + xAbs ((f : Int) / w - (g : Int) / w) = 1)
theorem xAbs_n (x y : Int) : xAbs (x - y) = xAbs (y - x) := by unfold xAbs; split <;> split <;> omega
theorem adj_s {w a : Int} {f g : Nat} (h : adj w a f g) : adj w a g f := by
  unfold adj at h ⊢
  rw [xAbs_n ((g : Int) % w), xAbs_n ((g : Int) / w)]
  rcases h with ⟨h1, h2, h3⟩ | h
  · exact Or.inl ⟨h1, fun e => h2 e.symm, h3⟩
  · exact Or.inr h
theorem xw_8 : ∀ v : Nat, v < 8 → (xRt v ≠ 0 ∨ xUp v ≠ 0) ∧ (v % 2 = 0 → xAbs (xRt v) + xAbs (xUp v) = 1) ∧ xAbs (xRt v) < 2 ∧ xAbs (xUp v) < 2 := by decide +kernel
/-- the fields about one are those to which the ways lead -/
theorem adj_w {w a : Int} (hw : 1 ≤ w) {f g : Nat} : adj w a f g ↔ ∃ v : Nat, v < 8 ∧ (a = 0 → v % 2 = 0) ∧ (g : Int) % w = (f : Int) % w + xRt v ∧ (g : Int) / w = (f : Int) / w + xUp v := by
  have ef := Int.mul_ediv_add_emod (f : Int) w
  have eg := Int.mul_ediv_add_emod (g : Int) w
  constructor
  · intro h
    have hb : -1 ≤ (g : Int) % w - (f : Int) % w ∧ (g : Int) % w - (f : Int) % w ≤ 1 ∧ -1 ≤ (g : Int) / w - (f : Int) / w ∧ (g : Int) / w - (f : Int) / w ≤ 1 := by
      rcases h with ⟨h1, h2, h3, h4⟩ | ⟨h1, h3⟩
      · unfold xAbs at h3 h4
        split at h3 <;> split at h4 <;> omega
      · unfold xAbs at h3
        split at h3 <;> split at h3 <;> omega
    have hn : (g : Int) % w - (f : Int) % w ≠ 0 ∨ (g : Int) / w - (f : Int) / w ≠ 0 := by
      rcases h with ⟨h1, h2, h3, h4⟩ | ⟨h1, h3⟩
      · by_cases c1 : (g : Int) % w - (f : Int) % w = 0
        · by_cases c2 : (g : Int) / w - (f : Int) / w = 0
          · exfalso
            have e1 : (g : Int) % w = (f : Int) % w := by omega
            have e2 : (g : Int) / w = (f : Int) / w := by omega
            rw [e1, e2] at eg
            omega
          · exact Or.inr c2
        · exact Or.inl c1
      · unfold xAbs at h3
        split at h3 <;> split at h3 <;> omega
    obtain ⟨w0, w8, wx, wy, -⟩ := wv_ok hb.1 hb.2.1 hb.2.2.1 hb.2.2.2 hn
    refine ⟨(wv ((g : Int) % w - (f : Int) % w) ((g : Int) / w - (f : Int) / w)).toNat, by omega, fun ha => ?_, by rw [wx]; omega, by rw [wy]; omega⟩
    have h3 : xAbs ((g : Int) % w - (f : Int) % w) + xAbs ((g : Int) / w - (f : Int) / w) = 1 := by
      rcases h with ⟨h1, -⟩ | ⟨-, h3⟩
      · exact absurd ha h1
      · rw [xAbs_n ((g : Int) % w), xAbs_n ((g : Int) / w)]; exact h3
    have hb' := hb
    generalize (g : Int) % w - (f : Int) % w = dx at hb' h3 ⊢
    generalize (g : Int) / w - (f : Int) / w = dy at hb' h3 ⊢
    have cx : dx = -1 ∨ dx = 0 ∨ dx = 1 := by omega
    have cy : dy = -1 ∨ dy = 0 ∨ dy = 1 := by omega
    rcases cx with rfl | rfl | rfl <;> rcases cy with rfl | rfl | rfl <;> first | decide | exact absurd h3 (by decide)
  · rintro ⟨v, hv, he, hx, hy⟩
    have h8 := xw_8 v hv
    have e1 : xAbs ((f : Int) % w - (g : Int) % w) = xAbs (xRt v) := by
      rw [xAbs_n]
      have : (g : Int) % w - (f : Int) % w = xRt v := by omega
      rw [this]
    have e2 : xAbs ((f : Int) / w - (g : Int) / w) = xAbs (xUp v) := by
      rw [xAbs_n]
      have : (g : Int) / w - (f : Int) / w = xUp v := by omega
      rw [this]
    unfold adj
    rw [e1, e2]
    by_cases ca : a = 0
    · exact Or.inr ⟨ca, h8.2.1 (he ca)⟩
    · refine Or.inl ⟨ca, fun e => ?_, h8.2.2.1, h8.2.2.2⟩
      subst e
      rcases h8.1 with q | q <;> omega
/-! the class's labels -/
/-- scanned below f -/
def SI (N : Nat) (S : Nat → Prop) (A : Nat → Nat → Prop) (f : Nat) (L : Nat → Int) : Prop :=
  (∀ g, g < N → ¬ S g → L g = -999) ∧ (∀ g, S g → g < f → L g ≠ -999) ∧ (∀ g, g < N → L g ≠ -999 → S g ∧ ∃ r : Nat, S r ∧ L g = (r : Int) ∧ r ≤ g ∧ r < f ∧ Cn S A g r) ∧ (∀ g h, S g → S h → A g h → L g ≠ -999 → L h = L g)
theorem SI_lab {N : Nat} {S : Nat → Prop} {A : Nat → Nat → Prop} {L : Nat → Int} (hS : ∀ g, S g → g < N) (h : SI N S A N L) : Lab N S A L := by
  obtain ⟨h1, h2, h3, h4⟩ := h
  refine ⟨h1, fun f hf => ?_, fun f g hf hg hfg => (h4 f g hf hg hfg (h2 f hf (hS f hf))).symm⟩
  obtain ⟨-, r, r1, r2, r3, r4, r5⟩ := h3 f (hS f hf) (h2 f hf (hS f hf))
  exact ⟨r, r1, r2, r3, r5⟩
/-- while the fields of a part, from f, are gathered: wt wait, Lc are the labels by now -/
def BI (N : Nat) (S : Nat → Prop) (A : Nat → Nat → Prop) (f : Nat) (L Lc Q : Nat → Int) (wt : Nat) : Prop :=
  (∀ g, g < N → Lc g = L g ∨ (L g = -999 ∧ S g ∧ Lc g = (f : Int))) ∧ (∀ j, j < wt → ∃ g : Nat, Q j = (g : Int) ∧ S g ∧ Lc g = (f : Int) ∧ L g = -999) ∧ (∀ g, g < N → Lc g = (f : Int) → ∃ j, j < wt ∧ Q j = (g : Int)) ∧ (∀ g, g < N → Lc g = (f : Int) → Cn S A g f) ∧ (wt : Int) = sI (fun g => bI (Lc g = (f : Int))) N ∧ Lc f = (f : Int) ∧ 1 ≤ wt
theorem sI_up {g : Nat → Int} {N k : Nat} (hk : k < N) (v : Int) : sI (fun i => if i = k then v else g i) N = sI g N + v - g k := by
  induction N with
  | zero => omega
  | succ n ih =>
    by_cases c : k = n
    · subst c
      have e : sI (fun i => if i = k then v else g i) k = sI g k := sI_c (fun i hi => if_neg (by omega))
      show sI _ k + (if k = k then v else g k) = sI g k + g k + v - g k
      rw [e, if_pos rfl]; omega
    · have := ih (by omega)
      show sI _ n + (if n = k then v else g n) = sI g n + g n + v - g k
      rw [this, if_neg (fun e => c e.symm)]; omega
theorem sI_lt {p : Nat → Prop} [DecidablePred p] {N k : Nat} (hk : k < N) (h : ¬ p k) : sI (fun i => bI (p i)) N < N := by
  have h1 := sI_up (g := fun i => bI (p i)) hk 1
  have h2 := (sI_bd (g := fun i => if i = k then 1 else bI (p i)) (n := N) (a := 0) (b := 1) (fun i _ => by
    show 0 ≤ (if i = k then (1 : Int) else bI (p i)) ∧ (if i = k then (1 : Int) else bI (p i)) ≤ 1
    split
    · omega
    · rcases bI_01 (p i) with q | q <;> omega)).2
  have h3 : bI (p k) = 0 := bI_f h
  simp only [h3] at h1
  omega
theorem BI_0 {N : Nat} {S : Nat → Prop} {A : Nat → Nat → Prop} {f : Nat} {L : Nat → Int} (hf : S f) (hN : f < N) (hL : L f = -999) (hs : SI N S A f L) {Lc Q : Nat → Int} (eL : ∀ g, Lc g = if g = f then (f : Int) else L g) (eQ : Q 0 = (f : Int)) : BI N S A f L Lc Q 1 := by
  have no : ∀ g, g < N → g ≠ f → L g ≠ (f : Int) := by
    intro g hg hne e
    obtain ⟨-, r, r1, r2, r3, r4, -⟩ := hs.2.2.1 g hg (by rw [e]; omega)
    omega
  have ff : Lc f = (f : Int) := by rw [eL, if_pos rfl]
  have only : ∀ g, g < N → Lc g = (f : Int) → g = f := by
    intro g hg e
    by_cases c : g = f
    · exact c
    · rw [eL, if_neg c] at e; exact absurd e (no g hg c)
  refine ⟨fun g hg => ?_, fun j hj => ?_, fun g hg e => ⟨0, by omega, ?_⟩, fun g hg e => ?_, ?_, ff, by omega⟩
  · by_cases c : g = f
    · subst c; exact Or.inr ⟨hL, hf, ff⟩
    · exact Or.inl (by rw [eL, if_neg c])
  · have ej : j = 0 := by omega
    subst ej; exact ⟨f, eQ, hf, ff, hL⟩
  · rw [only g hg e]; exact eQ
  · rw [only g hg e]; exact Cn_rf _ _ _
  · have e1 : sI (fun g => bI (Lc g = (f : Int))) N = sI (fun i => if i = f then 1 else (fun _ => (0 : Int)) i) N := by
      refine sI_c (fun i hi => ?_)
      by_cases c : i = f
      · subst c; rw [if_pos rfl, bI_t ff]
      · rw [if_neg c, bI_f (fun e => c (only i hi e))]
    have e2 : sI (fun _ => (0 : Int)) N = 0 := by
      have := sI_bd (g := fun _ => (0 : Int)) (n := N) (a := 0) (b := 0) (fun _ _ => by omega)
      omega
    rw [e1, sI_up hN, e2]; rfl
/-- one more field is found -/
theorem BI_add {N : Nat} {S : Nat → Prop} {A : Nat → Nat → Prop} (hA : ∀ a b, A a b → A b a) {f : Nat} {L Lc Q : Nat → Int} {wt : Nat} (h : BI N S A f L Lc Q wt) (hf : S f) {g k : Nat} (hg : Lc g = (f : Int)) (gN : g < N) (gS : S g) (hk : S k) (kN : k < N) (hgk : A g k) (fr : Lc k = -999) {Lc' Q' : Nat → Int} (eL : ∀ i, Lc' i = if i = k then (f : Int) else Lc i) (eQ : ∀ i, Q' i = if i = wt then (k : Int) else Q i) : BI N S A f L Lc' Q' (wt + 1) := by
  obtain ⟨b1, b2, b3, b4, b5, b6, b7⟩ := h
  have kk : Lc' k = (f : Int) := by rw [eL, if_pos rfl]
  have mono : ∀ i, Lc i = (f : Int) → Lc' i = (f : Int) := by
    intro i hi; rw [eL]; split
    · rfl
    · exact hi
  refine ⟨fun i hi => ?_, fun j hj => ?_, fun i hi e => ?_, fun i hi e => ?_, ?_, mono f b6, by omega⟩
  · by_cases c : i = k
    · subst c
      refine Or.inr ⟨?_, hk, kk⟩
      rcases b1 i hi with q | q
      · rw [← q]; exact fr
      · exact q.1
    · rw [eL, if_neg c]; exact b1 i hi
  · by_cases c : j = wt
    · subst c
      refine ⟨k, by rw [eQ, if_pos rfl], hk, kk, ?_⟩
      rcases b1 k kN with q | q
      · rw [← q]; exact fr
      · exact q.1
    · obtain ⟨i, i1, i2, i3, i4⟩ := b2 j (by omega)
      exact ⟨i, by rw [eQ, if_neg c]; exact i1, i2, mono i i3, i4⟩
  · by_cases c : i = k
    · subst c; exact ⟨wt, by omega, by rw [eQ, if_pos rfl]⟩
    · rw [eL, if_neg c] at e
      obtain ⟨j, j1, j2⟩ := b3 i hi e
      exact ⟨j, by omega, by rw [eQ, if_neg (by omega)]; exact j2⟩
  · by_cases c : i = k
    · subst c; exact Cn_tr (Cn_1 gS (hA _ _ hgk)) (b4 g gN hg)
    · rw [eL, if_neg c] at e; exact b4 i hi e
  · have e1 : sI (fun i => bI (Lc' i = (f : Int))) N = sI (fun i => if i = k then 1 else (fun j => bI (Lc j = (f : Int))) i) N := by
      refine sI_c (fun i hi => ?_)
      by_cases c : i = k
      · subst c; rw [if_pos rfl, bI_t kk]
      · rw [if_neg c]; exact bI_c (by rw [eL, if_neg c])
    rw [e1, sI_up kN]
    have e2 : bI (Lc k = (f : Int)) = 0 := bI_f (by rw [fr]; omega)
    show ((wt + 1 : Nat) : Int) = sI (fun j => bI (Lc j = (f : Int))) N + 1 - bI (Lc k = (f : Int))
    rw [e2, ← b5]; omega
/-- all is gathered -/
theorem BI_end {N : Nat} {S : Nat → Prop} {A : Nat → Nat → Prop} (hS : ∀ g, S g → g < N) {f : Nat} {L Lc Q : Nat → Int} {wt : Nat} (hs : SI N S A f L) (h : BI N S A f L Lc Q wt) (hf : S f) (hL : L f = -999) (cl : ∀ j, j < wt → ∀ g : Nat, Q j = (g : Int) → ∀ k, S k → A g k → Lc k = (f : Int)) : SI N S A (f + 1) Lc ∧ sI (fun g => bI (Lc g = (g : Int))) N = sI (fun g => bI (L g = (g : Int))) N + 1 := by
  obtain ⟨s1, s2, s3, s4⟩ := hs
  obtain ⟨b1, b2, b3, b4, b5, b6, b7⟩ := h
  refine ⟨⟨fun g hg hn => ?_, fun g hg hlt => ?_, fun g hg hne => ?_, fun g k hg hk hgk hne => ?_⟩, ?_⟩
  · rcases b1 g hg with q | q
    · rw [q]; exact s1 g hg hn
    · exact absurd q.2.1 hn
  · by_cases c : g = f
    · subst c; rw [b6]; omega
    · rcases b1 g (hS g hg) with q | q
      · rw [q]; exact s2 g hg (by omega)
      · rw [q.2.2]; omega
  · rcases b1 g hg with q | q
    · rw [q] at hne
      obtain ⟨t, r, r1, r2, r3, r4, r5⟩ := s3 g hg hne
      exact ⟨t, r, r1, q.trans r2, r3, by omega, r5⟩
    · refine ⟨q.2.1, f, hf, q.2.2, ?_, by omega, b4 g hg q.2.2⟩
      rcases Nat.lt_or_ge g f with c | c
      · exact absurd q.1 (s2 g q.2.1 c)
      · exact c
  · have hgN := hS g hg
    have hkN := hS k hk
    by_cases c : Lc g = (f : Int)
    · obtain ⟨j, j1, j2⟩ := b3 g hgN c
      rw [c]; exact cl j j1 g j2 k hk hgk
    · have q : Lc g = L g := by
        rcases b1 g hgN with q | q
        · exact q
        · exact absurd q.2.2 c
      have hne' : L g ≠ -999 := by rw [← q]; exact hne
      have e := s4 g k hg hk hgk hne'
      rcases b1 k hkN with q' | q'
      · rw [q', e, q]
      · rw [q'.1] at e; exact absurd e.symm hne'
  · have fN := hS f hf
    have e1 : sI (fun g => bI (Lc g = (g : Int))) N = sI (fun i => if i = f then 1 else (fun g => bI (L g = (g : Int))) i) N := by
      refine sI_c (fun i hi => ?_)
      by_cases c : i = f
      · subst c; rw [if_pos rfl, bI_t b6]
      · rw [if_neg c]
        refine bI_c ?_
        rcases b1 i hi with q | q
        · rw [q]
        · rw [q.2.2, q.1]
          constructor <;> intro e <;> omega
    rw [e1, sI_up fN]
    have e2 : bI (L f = (f : Int)) = 0 := bI_f (by rw [hL]; omega)
    show sI (fun g => bI (L g = (g : Int))) N + 1 - bI (L f = (f : Int)) = _
    rw [e2]; omega
