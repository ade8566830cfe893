/-! the best of ways -/
abbrev Wy := Nat → Nat
def btr (a b c d : Int) : Prop := c < a ∨ (a = c ∧ d < b)
def leR (R : Nat) (w w' : Wy) : Prop := (∀ i, i < R → w i = w' i) ∨ ∃ k, k < R ∧ (∀ i, i < k → w i = w' i) ∧ w k < w' k
theorem leR_anti {R : Nat} {w w' : Wy} (h : leR R w w') (h2 : leR R w' w) : ∀ i, i < R → w i = w' i := by
  rcases h with h | ⟨k, k1, k2, k3⟩
  · exact h
  · rcases h2 with h2 | ⟨l, l1, l2, l3⟩
    · exact fun i hi => (h2 i hi).symm
    · by_cases c : k < l
      · have := l2 k c; omega
      · by_cases c2 : l < k
        · have := k2 l c2; omega
        · have e : k = l := by omega
          subst e; omega
/-- what a search has found among W -/
def SP (R : Nat) (W : Wy → Prop) (g p : Wy → Int) (bg bp : Int) (b : Wy) (bg' bp' : Int) (b' : Wy) : Prop :=
  ((∀ w, W w → ¬ btr (g w) (p w) bg bp) ∧ bg' = bg ∧ bp' = bp ∧ ∀ i, i < R → b' i = b i) ∨
  ∃ w, W w ∧ btr (g w) (p w) bg bp ∧ bg' = g w ∧ bp' = p w ∧ (∀ i, i < R → b' i = w i) ∧ ∀ w', W w' → btr (g w) (p w) (g w') (p w') ∨ (g w' = g w ∧ p w' = p w ∧ leR R w w')
theorem SP_seq {R : Nat} {W1 W2 W : Wy → Prop} {g p : Wy → Int} {bg bp bg1 bp1 bg2 bp2 : Int} {b b1 b2 : Wy} (h1 : SP R W1 g p bg bp b bg1 bp1 b1) (h2 : SP R W2 g p bg1 bp1 b1 bg2 bp2 b2) (ho : ∀ w w', W1 w → W2 w' → leR R w w') (hW : ∀ w, W w ↔ (W1 w ∨ W2 w)) : SP R W g p bg bp b bg2 bp2 b2 := by
  rcases h1 with ⟨a1, a2, a3, a4⟩ | ⟨w, a1, a2, a3, a4, a5, a6⟩
  · rcases h2 with ⟨c1, c2, c3, c4⟩ | ⟨w2, c1, c2, c3, c4, c5, c6⟩
    · refine Or.inl ⟨fun w hw => ?_, by omega, by omega, fun i hi => (c4 i hi).trans (a4 i hi)⟩
      rcases (hW w).mp hw with z | z
      · exact a1 w z
      · have := c1 w z
        unfold btr at *
        omega
    · refine Or.inr ⟨w2, (hW w2).mpr (Or.inr c1), ?_, c3, c4, c5, fun w' hw' => ?_⟩
      · unfold btr at *; omega
      · rcases (hW w').mp hw' with z | z
        · have := a1 w' z
          refine Or.inl ?_
          unfold btr at *
          omega
        · exact c6 w' z
  · rcases h2 with ⟨c1, c2, c3, c4⟩ | ⟨w2, c1, c2, c3, c4, c5, c6⟩
    · refine Or.inr ⟨w, (hW w).mpr (Or.inl a1), a2, by omega, by omega, fun i hi => (c4 i hi).trans (a5 i hi), fun w' hw' => ?_⟩
      rcases (hW w').mp hw' with z | z
      · exact a6 w' z
      · have := c1 w' z
        unfold btr at *
        by_cases q : g w' = g w ∧ p w' = p w
        · exact Or.inr ⟨q.1, q.2, ho w w' a1 z⟩
        · exact Or.inl (by omega)
    · refine Or.inr ⟨w2, (hW w2).mpr (Or.inr c1), ?_, c3, c4, c5, fun w' hw' => ?_⟩
      · unfold btr at *; omega
      · rcases (hW w').mp hw' with z | z
        · refine Or.inl ?_
          rcases a6 w' z with q | q
          · unfold btr at *; omega
          · unfold btr at *; omega
        · exact c6 w' z
theorem SP_nil {R : Nat} {W : Wy → Prop} {g p : Wy → Int} {bg bp : Int} {b : Wy} (h : ∀ w, W w → ¬ btr (g w) (p w) bg bp) : SP R W g p bg bp b bg bp b := Or.inl ⟨h, rfl, rfl, fun _ _ => rfl⟩
theorem SP_congr {R : Nat} {W W' : Wy → Prop} {g p g' p' : Wy → Int} {bg bp bg1 bp1 : Int} {b b1 : Wy} (h : SP R W g p bg bp b bg1 bp1 b1) (hW : ∀ w, W' w ↔ W w) (hg : ∀ w, W w → g' w = g w ∧ p' w = p w) : SP R W' g' p' bg bp b bg1 bp1 b1 := by
  rcases h with ⟨a1, a2⟩ | ⟨w, a1, a2, a3, a4, a5, a6⟩
  · refine Or.inl ⟨fun w hw => ?_, a2⟩
    have hw := (hW w).mp hw
    rw [(hg w hw).1, (hg w hw).2]
    exact a1 w hw
  · refine Or.inr ⟨w, (hW w).mpr a1, by rw [(hg w a1).1, (hg w a1).2]; exact a2, by rw [(hg w a1).1]; exact a3, by rw [(hg w a1).2]; exact a4, a5, fun w' hw' => ?_⟩
    have hw' := (hW w').mp hw'
    rw [(hg w a1).1, (hg w a1).2, (hg w' hw').1, (hg w' hw').2]
    exact a6 w' hw'
theorem sumI_shift (f : Nat → Int) (n : Nat) : sumI f (n + 1) = f 0 + sumI (fun i => f (i + 1)) n := by
  induction n with
  | zero => show (0 : Int) + f 0 = f 0 + 0; omega
  | succ n ih =>
    show sumI f (n + 1) + f (n + 1) = f 0 + (sumI (fun i => f (i + 1)) n + f (n + 1))
    rw [ih]; omega
/-- given, and points, of the k rows from a on; T stands for none -/
def gk (T : Nat) (w : Wy) (a k : Nat) : Nat := cnt (fun i => w (a + i) < T) k
def pk' (T : Nat) (P : Nat → Nat → Int) (w : Wy) (a k : Nat) : Int := sumI (fun i => if w (a + i) < T then P (a + i) (w (a + i)) else 0) k
def ck' (w : Wy) (c a k : Nat) : Nat := cnt (fun i => w (a + i) = c) k
theorem gk_s (T : Nat) (w : Wy) (a k : Nat) : gk T w a (k + 1) = (if w a < T then 1 else 0) + gk T w (a + 1) k := by
  unfold gk
  rw [cnt_shift]
  congr 1
  exact cnt_congr fun i _ => by rw [show a + (i + 1) = a + 1 + i by omega]
theorem pk_s (T : Nat) (P : Nat → Nat → Int) (w : Wy) (a k : Nat) : pk' T P w a (k + 1) = (if w a < T then P a (w a) else 0) + pk' T P w (a + 1) k := by
  unfold pk'
  rw [sumI_shift]
  congr 1
  exact sumI_congr fun i _ => by rw [show a + (i + 1) = a + 1 + i by omega]
theorem ck_s (w : Wy) (c a k : Nat) : ck' w c a (k + 1) = (if w a = c then 1 else 0) + ck' w c (a + 1) k := by
  unfold ck'
  rw [cnt_shift]
  congr 1
  exact cnt_congr fun i _ => by rw [show a + (i + 1) = a + 1 + i by omega]
theorem gk_le (T : Nat) (w : Wy) (a k : Nat) : gk T w a k ≤ k := cnt_le _ _
/-- ways that go on from 'way' at row a, with k rows to come, and rooms M -/
def cpl (T : Nat) (al : Nat → Nat → Prop) (M : Nat → Nat) (way : Wy) (a k : Nat) (w : Wy) : Prop :=
  (∀ i, i < a → w i = way i) ∧ (∀ i, a ≤ i → i < a + k → w i ≤ T ∧ (w i < T → al i (w i))) ∧ ∀ c, c < T → ck' w c a k ≤ M c
theorem ptk_le {T : Nat} {P : Nat → Nat → Int} {w : Wy} {m : Int} : ∀ k a, (∀ i, a ≤ i → i < a + k → w i < T → P i (w i) ≤ m) → gk T w a k = k → pk' T P w a k ≤ k * m := by
  intro k
  induction k with
  | zero => intro a _ _; show (0 : Int) ≤ ((0 : Nat) : Int) * m; rw [show ((0 : Nat) : Int) = 0 from rfl, Int.zero_mul]; exact Int.le_refl _
  | succ k ih =>
    intro a h1 h2
    rw [gk_s] at h2
    rw [pk_s]
    have hl := gk_le T w (a + 1) k
    by_cases c : w a < T
    · rw [if_pos c] at h2
      rw [if_pos c]
      have := ih (a + 1) (fun i z1 z2 z3 => h1 i (by omega) (by omega) z3) (by omega)
      have := h1 a (Nat.le_refl _) (by omega) c
      have e : ((k + 1 : Nat) : Int) * m = k * m + m := by rw [Int.natCast_add, Int.add_mul]; show _ + 1 * m = _; rw [Int.one_mul]
      omega
    · rw [if_neg c] at h2; omega
/-- ways by what stands in row a -/
theorem cpl_s {T : Nat} {al : Nat → Nat → Prop} {M : Nat → Nat} {way : Wy} {a k c : Nat} (hc : c < T) (w : Wy) : (cpl T al M way a (k + 1) w ∧ w a = c) ↔ (al a c ∧ 0 < M c ∧ cpl T al (fun x => if x = c then M c - 1 else M x) (fun i => if i = a then c else way i) (a + 1) k w) := by
  constructor
  · rintro ⟨⟨h1, h2, h3⟩, h4⟩
    have h5 := h3 c hc
    rw [ck_s, if_pos h4] at h5
    refine ⟨?_, by omega, fun i hi => ?_, fun i z1 z2 => h2 i (by omega) (by omega), fun x hx => ?_⟩
    · have := (h2 a (Nat.le_refl _) (by omega)).2 (by omega)
      rw [h4] at this; exact this
    · show w i = if i = a then c else way i
      by_cases e : i = a
      · rw [if_pos e, e]; exact h4
      · rw [if_neg e]; exact h1 i (by omega)
    · have h6 := h3 x hx
      rw [ck_s] at h6
      show _ ≤ if x = c then M c - 1 else M x
      by_cases e : x = c
      · rw [e] at h6 ⊢
        rw [if_pos rfl]
        omega
      · rw [if_neg e]
        omega
  · rintro ⟨h0, h1, h2, h3, h4⟩
    have h2 : ∀ i, i < a + 1 → w i = if i = a then c else way i := h2
    have h4 : ∀ x, x < T → ck' w x (a + 1) k ≤ if x = c then M c - 1 else M x := h4
    have hw : w a = c := by have := h2 a (by omega); rw [if_pos rfl] at this; exact this
    refine ⟨⟨fun i hi => ?_, fun i z1 z2 => ?_, fun x hx => ?_⟩, hw⟩
    · have := h2 i (by omega); rw [if_neg (by omega)] at this; exact this
    · by_cases e : i = a
      · rw [e, hw]; exact ⟨by omega, fun _ => h0⟩
      · exact h3 i (by omega) (by omega)
    · have h5 := h4 x hx
      rw [ck_s, hw]
      by_cases e : x = c
      · rw [e] at h5 ⊢
        rw [if_pos rfl] at h5 ⊢
        omega
      · rw [if_neg e] at h5
        rw [if_neg (fun z => e z.symm)]
        omega
theorem cpl_n {T : Nat} {al : Nat → Nat → Prop} {M : Nat → Nat} {way : Wy} {a k : Nat} (w : Wy) : (cpl T al M way a (k + 1) w ∧ w a = T) ↔ cpl T al M (fun i => if i = a then T else way i) (a + 1) k w := by
  constructor
  · rintro ⟨⟨h1, h2, h3⟩, h4⟩
    refine ⟨fun i hi => ?_, fun i z1 z2 => h2 i (by omega) (by omega), fun x hx => ?_⟩
    · show w i = if i = a then T else way i
      by_cases e : i = a
      · rw [if_pos e, e]; exact h4
      · rw [if_neg e]; exact h1 i (by omega)
    · have h6 := h3 x hx
      rw [ck_s] at h6
      omega
  · rintro ⟨h2, h3, h4⟩
    have h2 : ∀ i, i < a + 1 → w i = if i = a then T else way i := h2
    have hw : w a = T := by have := h2 a (by omega); rw [if_pos rfl] at this; exact this
    refine ⟨⟨fun i hi => ?_, fun i z1 z2 => ?_, fun x hx => ?_⟩, hw⟩
    · have := h2 i (by omega); rw [if_neg (by omega)] at this; exact this
    · by_cases e : i = a
      · rw [e, hw]; exact ⟨Nat.le_refl _, fun z => absurd z (Nat.lt_irrefl _)⟩
      · exact h3 i (by omega) (by omega)
    · have h5 := h4 x hx
      rw [ck_s, hw, if_neg (by omega)]
      omega
