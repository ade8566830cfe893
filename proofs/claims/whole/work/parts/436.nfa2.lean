/-! nets of states, parts of patterns -/
abbrev Gr := (Nat → Int) × (Nat → Int) × (Nat → Int)
abbrev Pr := (Nat → Int) × (Nat → Int) × (Nat → Int) × (Nat → Int)
abbrev Tk := Int → Nat → Prop
def stp (g : Gr) (n : Nat) (tk : Tk) (bd : Nat → Prop) (lo hi : Nat) (a b : Nd) : Prop :=
  a.2 ≤ n ∧ (lo ≤ a.1 ∧ a.1 < hi) ∧ (lo ≤ b.1 ∧ b.1 < hi) ∧
  ((g.2.1 a.1 = b.1 ∧ ((b.2 = a.2 ∧ (g.1 a.1 = 0 ∨ (g.1 a.1 = 94 ∧ bd a.2))) ∨ (b.2 = a.2 + 1 ∧ tk (g.1 a.1) a.2))) ∨ (b.2 = a.2 ∧ g.2.2 a.1 = b.1))
def tkok (n : Nat) (tk : Tk) : Prop := ∀ i, ¬ tk 0 i ∧ ¬ tk 94 i ∧ ∀ k, tk k i → i < n
abbrev pA (p : Pr) (k : Nat) : Nat := (p.2.2.1 k).toNat
abbrev pB (p : Pr) (k : Nat) : Nat := (p.2.2.2 k).toNat
def eqn (p : Pr) (n : Nat) (tk : Tk) (bd : Nat → Prop) (E : Nat → Nat → Nat → Prop) (k i j : Nat) : Prop :=
  (p.1 k = 0 → (E k i j ↔ (j = i + 1 ∧ tk (p.2.1 k) i))) ∧
  (p.1 k = 1 → (E k i j ↔ (i ≤ n ∧ j = i ∧ bd i))) ∧
  (p.1 k = 2 → (E k i j ↔ ∃ m, E (pA p k) i m ∧ E (pB p k) m j)) ∧
  (p.1 k = 3 → (E k i j ↔ (E (pA p k) i j ∨ E (pB p k) i j))) ∧
  (p.1 k = 4 → (E k i j ↔ ((i ≤ n ∧ j = i) ∨ ∃ m, i < m ∧ E (pA p k) i m ∧ (j = m ∨ E k m j)))) ∧
  (p.1 k = 5 → (E k i j ↔ ((j = i ∧ E (pA p k) i i) ∨ ∃ m, i < m ∧ E (pA p k) i m ∧ (j = m ∨ E k m j)))) ∧
  (p.1 k = 6 → (E k i j ↔ (E (pA p k) i j ∨ (i ≤ n ∧ j = i))))
def eqs (p : Pr) (cnt n : Nat) (tk : Tk) (bd : Nat → Prop) (E : Nat → Nat → Nat → Prop) : Prop := ∀ k, k < cnt → ∀ i j, eqn p n tk bd E k i j
def wfp (p : Pr) (cnt : Nat) : Prop := ∀ k, k < cnt → (0 ≤ p.1 k ∧ p.1 k ≤ 6) ∧ (2 ≤ p.1 k → 0 ≤ p.2.2.1 k ∧ pA p k < k) ∧ ((p.1 k = 2 ∨ p.1 k = 3) → 0 ≤ p.2.2.2 k ∧ pB p k < k)
def agp (p p' : Pr) (cnt : Nat) : Prop := ∀ k, k < cnt → p.1 k = p'.1 k ∧ p.2.1 k = p'.2.1 k ∧ p.2.2.1 k = p'.2.2.1 k ∧ p.2.2.2 k = p'.2.2.2 k
theorem eqs_less {p p' : Pr} {cnt cnt' n : Nat} {tk : Tk} {bd : Nat → Prop} {E : Nat → Nat → Nat → Prop} (ha : agp p p' cnt) (hc : cnt ≤ cnt') (h : eqs p' cnt' n tk bd E) : eqs p cnt n tk bd E := by
  intro k hk i j
  have w := h k (by omega) i j
  obtain ⟨a1, a2, a3, a4⟩ := ha k hk
  unfold eqn pA pB at w ⊢
  rw [a1, a2, a3, a4]
  exact w
theorem eqs_le {p : Pr} {cnt n : Nat} {tk : Tk} {bd : Nat → Prop} {E : Nat → Nat → Nat → Prop} (hw : wfp p cnt) (ht : tkok n tk) (he : eqs p cnt n tk bd E) : ∀ k, k < cnt → ∀ i j, E k i j → i ≤ n ∧ i ≤ j ∧ j ≤ n := by
  intro k
  induction k using Nat.strongRecOn with
  | _ k ih =>
    intro hk i j
    obtain ⟨w0, w1, w2⟩ := hw k hk
    have hd : ∀ d i, n - i = d → ∀ j, E k i j → i ≤ n ∧ i ≤ j ∧ j ≤ n := by
      intro d
      induction d using Nat.strongRecOn with
      | _ d ih2 =>
        intro i hdi j h
        have e := he k hk i j
        have c : p.1 k = 0 ∨ p.1 k = 1 ∨ p.1 k = 2 ∨ p.1 k = 3 ∨ p.1 k = 4 ∨ p.1 k = 5 ∨ p.1 k = 6 := by omega
        rcases c with c | c | c | c | c | c | c
        · have := (e.1 c).mp h
          have := (ht i).2.2 _ this.2
          omega
        · have := (e.2.1 c).mp h
          omega
        · obtain ⟨m, z1, z2⟩ := (e.2.2.1 c).mp h
          have y1 := ih (pA p k) (w1 (by omega)).2 (by have := (w1 (by omega)).2; omega) _ _ z1
          have y2 := ih (pB p k) (w2 (Or.inl c)).2 (by have := (w2 (Or.inl c)).2; omega) _ _ z2
          omega
        · rcases (e.2.2.2.1 c).mp h with z | z
          · exact ih (pA p k) (w1 (by omega)).2 (by have := (w1 (by omega)).2; omega) _ _ z
          · exact ih (pB p k) (w2 (Or.inr c)).2 (by have := (w2 (Or.inr c)).2; omega) _ _ z
        · rcases (e.2.2.2.2.1 c).mp h with z | ⟨m, z1, z2, z3⟩
          · omega
          · have y1 := ih (pA p k) (w1 (by omega)).2 (by have := (w1 (by omega)).2; omega) _ _ z2
            rcases z3 with z3 | z3
            · omega
            · have := ih2 (n - m) (by omega) m rfl j z3
              omega
        · rcases (e.2.2.2.2.2.1 c).mp h with ⟨z1, z2⟩ | ⟨m, z1, z2, z3⟩
          · have y1 := ih (pA p k) (w1 (by omega)).2 (by have := (w1 (by omega)).2; omega) _ _ z2
            omega
          · have y1 := ih (pA p k) (w1 (by omega)).2 (by have := (w1 (by omega)).2; omega) _ _ z2
            rcases z3 with z3 | z3
            · omega
            · have := ih2 (n - m) (by omega) m rfl j z3
              omega
        · rcases (e.2.2.2.2.2.2 c).mp h with z | z
          · exact ih (pA p k) (w1 (by omega)).2 (by have := (w1 (by omega)).2; omega) _ _ z
          · omega
    exact hd _ i rfl j
def vl (E : Nat → Nat → Nat → Prop) (o : Option Nat) (i j : Nat) : Prop := match o with
  | none => i = j
  | some k => E k i j
def sem (g : Gr) (s e t : Nat) (o : Option Nat) (p : Pr) (cnt : Nat) : Prop := ∀ (n : Nat) (tk : Tk) (bd : Nat → Prop) (E : Nat → Nat → Nat → Prop), tkok n tk → eqs p cnt n tk bd E → ∀ i j, rch (stp g n tk bd s e) (s, i) (t, j) ↔ vl E o i j
def ins (v : Int) (lo hi : Nat) : Prop := (lo : Int) ≤ v ∧ v < hi
def agr (g g' : Gr) (s e : Nat) : Prop := ∀ x, s ≤ x → x < e → g.1 x = g'.1 x ∧ (g.2.1 x = g'.2.1 x ∨ (¬ ins (g.2.1 x) s e ∧ ¬ ins (g'.2.1 x) s e)) ∧ (g.2.2 x = g'.2.2 x ∨ (¬ ins (g.2.2 x) s e ∧ ¬ ins (g'.2.2 x) s e))
theorem stp_congr {g g' : Gr} {s e n : Nat} {tk : Tk} {bd : Nat → Prop} (h : agr g g' s e) (a b : Nd) : stp g n tk bd s e a b ↔ stp g' n tk bd s e a b := by
  have key : ∀ g g' : Gr, agr g g' s e → stp g n tk bd s e a b → stp g' n tk bd s e a b := by
    intro g g' h hs
    obtain ⟨h1, h2, h3, h4⟩ := hs
    obtain ⟨a1, a2, a3⟩ := h a.1 h2.1 h2.2
    have hb : ∀ v : Int, v = (b.1 : Int) → ins v s e := fun v hv => ⟨by omega, by omega⟩
    refine ⟨h1, h2, h3, ?_⟩
    rcases h4 with ⟨q1, q2⟩ | ⟨q1, q2⟩
    · rcases a2 with a2 | a2
      · exact Or.inl ⟨by rw [← a2]; exact q1, by rw [← a1]; exact q2⟩
      · exact absurd (hb _ q1) a2.1
    · rcases a3 with a3 | a3
      · exact Or.inr ⟨q1, by rw [← a3]; exact q2⟩
      · exact absurd (hb _ q2) a3.1
  refine ⟨key g g' h, key g' g fun x h1 h2 => ?_⟩
  obtain ⟨a1, a2, a3⟩ := h x h1 h2
  exact ⟨a1.symm, a2.elim (fun z => Or.inl z.symm) (fun z => Or.inr ⟨z.2, z.1⟩), a3.elim (fun z => Or.inl z.symm) (fun z => Or.inr ⟨z.2, z.1⟩)⟩
theorem sem.to {g g' : Gr} {s e t : Nat} {o : Option Nat} {p p' : Pr} {cnt cnt' : Nat} (h : sem g s e t o p cnt) (ha : agr g g' s e) (hp : agp p p' cnt) (hc : cnt ≤ cnt') : sem g' s e t o p' cnt' := by
  intro n tk bd E ht he i j
  rw [← h n tk bd E ht (eqs_less hp hc he) i j]
  exact (rch_congr (stp_congr ha)).symm
theorem agp_rf (p : Pr) (cnt : Nat) : agp p p cnt := fun _ _ => ⟨rfl, rfl, rfl, rfl⟩
theorem agr_rf (g : Gr) (s e : Nat) : agr g g s e := fun _ _ _ => ⟨rfl, Or.inl rfl, Or.inl rfl⟩
/-- a row of a pattern: from s on, to t, whose next is N; s's other is O -/
def row (g : Gr) (s e t : Nat) (N O : Int) : Prop := s ≤ t ∧ t < e ∧ g.1 s = 0 ∧ g.1 t = 0 ∧ g.2.1 t = N ∧ g.2.2 s = O ∧ ¬ ins N s e ∧ ¬ ins O s e ∧
  (∀ x, s ≤ x → x < e → x ≠ t → g.2.1 x = -1 ∨ ((s : Int) < g.2.1 x ∧ g.2.1 x < e)) ∧ (∀ x, s < x → x < e → g.2.2 x = -1 ∨ ((s : Int) < g.2.2 x ∧ g.2.2 x < e))
/-- the same states, but for the two that lead out -/
def sam (g g' : Gr) (s e : Nat) : Prop := ∀ x, s ≤ x → x < e → g.1 x = g'.1 x ∧ g.2.1 x = g'.2.1 x ∧ g.2.2 x = g'.2.2 x
theorem sam.agr {g g' : Gr} {s e : Nat} (h : sam g g' s e) : agr g g' s e := fun x h1 h2 => ⟨(h x h1 h2).1, Or.inl (h x h1 h2).2.1, Or.inl (h x h1 h2).2.2⟩
theorem row.to {g g' : Gr} {s e t : Nat} {N O : Int} (h : row g s e t N O) (ha : sam g g' s e) : row g' s e t N O := by
  obtain ⟨h1, h2, h3, h4, h5, h6, h7, h8, h9, h10⟩ := h
  have a1 := ha s (Nat.le_refl _) (by omega)
  have a2 := ha t h1 h2
  refine ⟨h1, h2, a1.1 ▸ h3, a2.1 ▸ h4, a2.2.1 ▸ h5, a1.2.2 ▸ h6, h7, h8, fun x z1 z2 z3 => ?_, fun x z1 z2 => ?_⟩
  · rw [← (ha x z1 z2).2.1]; exact h9 x z1 z2 z3
  · rw [← (ha x (by omega) z2).2.2]; exact h10 x z1 z2
/-- a row whose ways out are set anew -/
theorem row.re {g g' : Gr} {s e t : Nat} {N O N' O' : Int} (h : row g s e t N O) (hN : ¬ ins N' s e) (hO : ¬ ins O' s e) (h1 : ∀ x, s ≤ x → x < e → g'.1 x = g.1 x) (h2 : ∀ x, s ≤ x → x < e → g'.2.1 x = if x = t then N' else g.2.1 x) (h3 : ∀ x, s ≤ x → x < e → g'.2.2 x = if x = s then O' else g.2.2 x) : row g' s e t N' O' ∧ agr g g' s e := by
  obtain ⟨q1, q2, q3, q4, q5, q6, q7, q8, q9, q10⟩ := h
  refine ⟨⟨q1, q2, by rw [h1 s (Nat.le_refl _) (by omega)]; exact q3, by rw [h1 t q1 q2]; exact q4, by rw [h2 t q1 q2, if_pos rfl], by rw [h3 s (Nat.le_refl _) (by omega), if_pos rfl], hN, hO, fun x z1 z2 z3 => ?_, fun x z1 z2 => ?_⟩, fun x z1 z2 => ⟨(h1 x z1 z2).symm, ?_, ?_⟩⟩
  · rw [h2 x z1 z2, if_neg z3]; exact q9 x z1 z2 z3
  · rw [h3 x (by omega) z2, if_neg (by omega)]; exact q10 x z1 z2
  · by_cases c : x = t
    · rw [h2 x z1 z2, if_pos c, c, q5]; exact Or.inr ⟨q7, hN⟩
    · rw [h2 x z1 z2, if_neg c]; exact Or.inl rfl
  · by_cases c : x = s
    · rw [h3 x z1 z2, if_pos c, c, q6]; exact Or.inr ⟨q8, hO⟩
    · rw [h3 x z1 z2, if_neg c]; exact Or.inl rfl
/-- an item: from h on, to x -/
def itm (g : Gr) (h e x : Nat) : Prop := h < x ∧ x < e ∧ g.1 x = 0 ∧ g.2.1 x = -1 ∧ (∀ y, h ≤ y → y < e → g.2.1 y = -1 ∨ ((h : Int) < g.2.1 y ∧ g.2.1 y < e)) ∧ (∀ y, h ≤ y → y < e → g.2.2 y = -1 ∨ ((h : Int) ≤ g.2.2 y ∧ g.2.2 y < e))
/-- nothing leads from its end, or to its start, as yet -/
def fre (g : Gr) (h e x : Nat) : Prop := g.2.2 h = -1 ∧ g.2.2 x = -1 ∧ ∀ y, h ≤ y → y < e → g.2.2 y ≠ h
