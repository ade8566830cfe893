/-! roads of a relation -/
def pth {α : Type} (R : α → α → Prop) : Nat → α → α → Prop
  | 0, a, b => a = b
  | k + 1, a, b => ∃ c, R a c ∧ pth R k c b
def rch {α : Type} (R : α → α → Prop) (a b : α) : Prop := ∃ k, pth R k a b
theorem rch_rf {α : Type} {R : α → α → Prop} (a : α) : rch R a a := ⟨0, rfl⟩
theorem rch_hd {α : Type} {R : α → α → Prop} {a c b : α} (h : R a c) (h2 : rch R c b) : rch R a b := by
  obtain ⟨k, h2⟩ := h2
  exact ⟨k + 1, c, h, h2⟩
theorem rch_1 {α : Type} {R : α → α → Prop} {a b : α} (h : R a b) : rch R a b := rch_hd h (rch_rf b)
theorem rch_ind {α : Type} {R : α → α → Prop} {b : α} {P : α → Prop} (hb : P b) (st : ∀ a c, R a c → rch R c b → P c → P a) {a : α} (h : rch R a b) : P a := by
  obtain ⟨k, h⟩ := h
  induction k generalizing a with
  | zero => rw [show a = b from h]; exact hb
  | succ k ih =>
    obtain ⟨c, h1, h2⟩ := h
    exact st a c h1 ⟨k, h2⟩ (ih h2)
theorem rch_tr {α : Type} {R : α → α → Prop} {a b c : α} (h : rch R a b) (h2 : rch R b c) : rch R a c := rch_ind (P := fun x => rch R x c) h2 (fun _ _ h3 _ h4 => rch_hd h3 h4) h
theorem rch_mono {α : Type} {R R' : α → α → Prop} (hR : ∀ a b, R a b → R' a b) {a b : α} (h : rch R a b) : rch R' a b := rch_ind (P := fun x => rch R' x b) (rch_rf b) (fun _ _ h3 _ h4 => rch_hd (hR _ _ h3) h4) h
theorem rch_congr {α : Type} {R R' : α → α → Prop} (hR : ∀ a b, R a b ↔ R' a b) {a b : α} : rch R a b ↔ rch R' a b := ⟨rch_mono fun a b => (hR a b).mp, rch_mono fun a b => (hR a b).mpr⟩
theorem rch_cs {α : Type} {R : α → α → Prop} {a b : α} (h : rch R a b) : a = b ∨ ∃ c, R a c ∧ rch R c b := by
  obtain ⟨k, h⟩ := h
  cases k with
  | zero => exact Or.inl h
  | succ k => obtain ⟨c, h1, h2⟩ := h; exact Or.inr ⟨c, h1, k, h2⟩
/-- nodes: state and place -/
abbrev Nd := Nat × Nat
/-- two regions, one way from the first into the second -/
theorem rch_seq {R R1 R2 : Nd → Nd → Prop} {A B pc : Nat → Prop} {t b0 : Nat} (hR : ∀ a b, R a b ↔ (R1 a b ∨ R2 a b ∨ (a.1 = t ∧ b.1 = b0 ∧ b.2 = a.2 ∧ pc a.2))) (h1 : ∀ a b, R1 a b → A a.1 ∧ A b.1) (h2 : ∀ a b, R2 a b → B a.1 ∧ B b.1) (ht : A t) (hb : B b0) (hd : ∀ x, A x → B x → False) {a u : Nd} (ha : A a.1) (hu : B u.1) : rch R a u ↔ ∃ m, rch R1 a (t, m) ∧ pc m ∧ rch R2 (b0, m) u := by
  constructor
  · intro h
    have key : (A a.1 → ∃ m, rch R1 a (t, m) ∧ pc m ∧ rch R2 (b0, m) u) ∧ (B a.1 → rch R2 a u) := by
      refine rch_ind (R := R) (b := u) (P := fun x => (A x.1 → ∃ m, rch R1 x (t, m) ∧ pc m ∧ rch R2 (b0, m) u) ∧ (B x.1 → rch R2 x u)) ⟨fun z => (hd _ z hu).elim, fun _ => rch_rf u⟩ (fun x c hs _ ih => ?_) h
      rcases (hR x c).mp hs with q | q | ⟨q1, q2, q3, q4⟩
      · have w := h1 x c q
        refine ⟨fun _ => ?_, fun z => (hd _ w.1 z).elim⟩
        obtain ⟨m, z1, z2⟩ := ih.1 w.2
        exact ⟨m, rch_hd q z1, z2⟩
      · have w := h2 x c q
        exact ⟨fun z => (hd _ z w.1).elim, fun _ => rch_hd q (ih.2 w.2)⟩
      · refine ⟨fun _ => ⟨x.2, ?_, q4, ?_⟩, fun z => (hd x.1 (by rw [q1]; exact ht) z).elim⟩
        · rw [show x = (t, x.2) from Prod.ext q1 rfl]; exact rch_rf _
        · have := ih.2 (by rw [q2]; exact hb)
          rw [show (b0, x.2) = c from Prod.ext q2.symm q3.symm]
          exact this
    exact key.1 ha
  · rintro ⟨m, z1, z0, z2⟩
    refine rch_tr (rch_mono (fun a b h => (hR a b).mpr (Or.inl h)) z1) (rch_hd ((hR (t, m) (b0, m)).mpr (Or.inr (Or.inr ⟨rfl, rfl, rfl, z0⟩))) (rch_mono (fun a b h => (hR a b).mpr (Or.inr (Or.inl h))) z2))
/-- a piece that may be left out, or come again -/
theorem rch_rep {R R' : Nd → Nd → Prop} {a0 b0 : Nat} {sk lp : Nat → Prop} (hab : a0 ≠ b0) (hR : ∀ a b, R' a b ↔ (R a b ∨ (sk a.2 ∧ a.1 = a0 ∧ b.1 = b0 ∧ b.2 = a.2) ∨ (lp a.2 ∧ a.1 = b0 ∧ b.1 = a0 ∧ b.2 = a.2))) (hin : ∀ a b, R a b → b.1 ≠ a0) (hout : ∀ a b, R a b → a.1 ≠ b0) {D E : Nat → Nat → Prop} (hD : ∀ i j, rch R (a0, i) (b0, j) ↔ D i j)
    (c1 : ∀ i m j, D i m → (m = j ∨ (lp m ∧ E m j)) → E i j) (c2 : ∀ i j, sk i → (i = j ∨ (lp i ∧ E i j)) → E i j) (c3 : ∀ i j, E i j → (sk i ∧ i = j) ∨ D i j ∨ ∃ m, i < m ∧ lp m ∧ D i m ∧ E m j) (hm : ∀ i j, E i j → i ≤ j) (i j : Nat) : rch R' (a0, i) (b0, j) ↔ E i j := by
  constructor
  · intro h
    have stay : ∀ m j, rch R (b0, m) (b0, j) → m = j := fun m j z => by
      rcases rch_cs z with q | ⟨c, q, _⟩
      · exact (Prod.mk.inj q).2
      · exact absurd rfl (hout _ _ q)
    have key := rch_ind (R := R') (b := (b0, j)) (P := fun x => (∃ m, rch R x (b0, m) ∧ (m = j ∨ (lp m ∧ E m j))) ∨ (sk x.2 ∧ x.1 = a0 ∧ (x.2 = j ∨ (lp x.2 ∧ E x.2 j)))) (Or.inl ⟨j, rch_rf _, Or.inl rfl⟩) (fun x c hs _ ih => ?_) h
    · rcases key with ⟨m, q1, q2⟩ | ⟨q1, _, q3⟩
      · exact c1 i m j ((hD i m).mp q1) q2
      · exact c2 i j q1 q3
    · rcases (hR x c).mp hs with q | ⟨q0, q1, q2, q3⟩ | ⟨q0, q1, q2, q3⟩
      · rcases ih with ⟨m, z1, z2⟩ | ⟨_, z2, _⟩
        · exact Or.inl ⟨m, rch_hd q z1, z2⟩
        · exact absurd z2 (hin _ _ q)
      · rcases ih with ⟨m, z1, z2⟩ | ⟨_, z2, _⟩
        · rw [show c = (b0, x.2) from Prod.ext q2 q3] at z1
          have := stay _ _ z1
          rw [← this] at z2
          exact Or.inr ⟨q0, q1, z2⟩
        · exact absurd (z2.symm.trans q2) hab
      · have ex : x = (b0, x.2) := Prod.ext q1 rfl
        refine Or.inl ⟨x.2, by rw [← ex]; exact rch_rf _, ?_⟩
        have ec : c = (a0, x.2) := Prod.ext q2 q3
        rcases ih with ⟨m, z1, z2⟩ | ⟨z1, _, z3⟩
        · rw [ec] at z1
          exact Or.inr ⟨q0, c1 _ _ _ ((hD _ _).mp z1) z2⟩
        · rw [q3] at z1 z3
          exact Or.inr ⟨q0, c2 _ _ z1 z3⟩
  · have up : ∀ a b, rch R a b → rch R' a b := fun a b => rch_mono fun a b h => (hR a b).mpr (Or.inl h)
    have go : ∀ k i, j - i = k → E i j → rch R' (a0, i) (b0, j) := by
      intro k
      induction k using Nat.strongRecOn with
      | _ k ih =>
        intro i hk h
        rcases c3 i j h with ⟨q1, q2⟩ | q | ⟨m, q1, q0, q2, q3⟩
        · exact rch_1 ((hR _ _).mpr (Or.inr (Or.inl ⟨q1, rfl, rfl, q2.symm⟩)))
        · exact up _ _ ((hD i j).mpr q)
        · refine rch_tr (up _ _ ((hD i m).mpr q2)) (rch_hd (c := (a0, m)) ((hR _ _).mpr (Or.inr (Or.inr ⟨q0, rfl, rfl, rfl⟩))) ?_)
          have := hm m j q3
          exact ih (j - m) (by omega) m rfl q3
    exact go _ i rfl
/-- one of rows: each row's start leads to the next one's, each row's end to ge -/
theorem rch_alt {R : Nd → Nd → Prop} {Q : Nat → Nd → Nd → Prop} {A : Nat → Nat → Prop} {ge m : Nat} {rs t : Nat → Nat} {pc : Nat → Prop} (hm : 0 < m) (hR : ∀ a b, R a b ↔ ((∃ r, r < m ∧ Q r a b) ∨ (b.2 = a.2 ∧ pc a.2 ∧ ((∃ r, r < m ∧ a.1 = t r ∧ b.1 = ge) ∨ ∃ r, r + 1 < m ∧ a.1 = rs r ∧ b.1 = rs (r + 1)))))
    (hQ : ∀ r a b, r < m → Q r a b → A r a.1 ∧ A r b.1 ∧ b.1 ≠ rs r) (hrs : ∀ r, r < m → A r (rs r)) (ht : ∀ r, r < m → A r (t r)) (hA : ∀ r r' x, r < m → r' < m → A r x → A r' x → r = r') (hg : ∀ r, r < m → ¬ A r ge) (i j : Nat) (hpc : ∀ r, r < m → rch (Q r) (rs r, i) (t r, j) → pc i ∧ pc j) :
    rch R (rs 0, i) (ge, j) ↔ ∃ r, r < m ∧ rch (Q r) (rs r, i) (t r, j) := by
  constructor
  · intro h
    have key := rch_ind (R := R) (b := (ge, j)) (P := fun x => (x.1 = ge → x.2 = j) ∧ ∀ r, r < m → A r x.1 → rch (Q r) x (t r, j) ∨ (x.1 = rs r ∧ ∃ r', r' < m ∧ rch (Q r') (rs r', x.2) (t r', j))) ⟨fun _ => rfl, fun r hr z => absurd z (hg r hr)⟩ (fun x c hs _ ih => ?_) h
    · rcases key.2 0 hm (hrs 0 hm) with z | ⟨_, z⟩
      · exact ⟨0, hm, z⟩
      · exact z
    · obtain ⟨i2, i3⟩ := ih
      rcases (hR x c).mp hs with ⟨r, hr, q⟩ | ⟨q0, _, ⟨r, hr, q1, q2⟩ | ⟨r, hr, q1, q2⟩⟩
      · have w := hQ r x c hr q
        refine ⟨fun z => absurd (by rw [← z]; exact w.1) (hg r hr), fun r' hr' z => ?_⟩
        have er := hA r r' x.1 hr hr' w.1 z
        subst er
        rcases i3 r hr w.2.1 with z | ⟨z, _⟩
        · exact Or.inl (rch_hd q z)
        · exact absurd z w.2.2
      · have hx : A r x.1 := by rw [q1]; exact ht r hr
        refine ⟨fun z => absurd (by rw [← z]; exact hx) (hg r hr), fun r' hr' z => ?_⟩
        have er := hA r r' x.1 hr hr' hx z
        subst er
        have := i2 q2
        rw [q0] at this
        refine Or.inl ?_
        rw [show x = (t r, j) from Prod.ext q1 this]
        exact rch_rf _
      · have hx : A r x.1 := by rw [q1]; exact hrs r (by omega)
        refine ⟨fun z => absurd (by rw [← z]; exact hx) (hg r (by omega)), fun r' hr' z => ?_⟩
        have er := hA r r' x.1 (by omega) hr' hx z
        subst er
        have ec : c = (rs (r + 1), x.2) := Prod.ext q2 q0
        refine Or.inr ⟨q1, ?_⟩
        rcases i3 (r + 1) hr (by rw [q2]; exact hrs _ hr) with z | ⟨_, r', hr', z⟩
        · exact ⟨r + 1, hr, by rw [← ec]; exact z⟩
        · rw [q0] at z; exact ⟨r', hr', z⟩
  · rintro ⟨r, hr, z⟩
    obtain ⟨p1, p2⟩ := hpc r hr z
    have s1 : rch R (rs r, i) (ge, j) := rch_tr (rch_mono (fun a b h => (hR a b).mpr (Or.inl ⟨r, hr, h⟩)) z) (rch_1 ((hR _ _).mpr (Or.inr ⟨rfl, p2, Or.inl ⟨r, hr, rfl, rfl⟩⟩)))
    have s2 : ∀ k, k ≤ r → rch R (rs (r - k), i) (ge, j) := by
      intro k
      induction k with
      | zero => intro _; exact s1
      | succ k ih =>
        intro hk
        refine rch_hd (c := (rs (r - k), i)) ((hR _ _).mpr (Or.inr ⟨rfl, p1, Or.inr ⟨r - (k + 1), by omega, rfl, ?_⟩⟩)) (ih (by omega))
        show rs (r - k) = rs (r - (k + 1) + 1)
        rw [show r - (k + 1) + 1 = r - k by omega]
    have s3 := s2 r (Nat.le_refl _)
    rw [show r - r = 0 by omega] at s3
    exact s3
