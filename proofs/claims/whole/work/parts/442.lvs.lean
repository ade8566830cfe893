/-! levels of brackets -/
abbrev Lv := (Nat × Nat) × Nat × (Nat → Nat) × (Nat → Nat) × (Nat → Nat) × Bool
abbrev lgs (l : Lv) : Nat := l.1.1
abbrev lge (l : Lv) : Nat := l.1.2
abbrev lm (l : Lv) : Nat := l.2.1
abbrev lrs (l : Lv) : Nat → Nat := l.2.2.1
abbrev ltl (l : Lv) : Nat → Nat := l.2.2.2.1
abbrev lpk (l : Lv) : Nat → Nat := l.2.2.2.2.1
abbrev lfu (l : Lv) : Bool := l.2.2.2.2.2
def cop (l : Lv) : Option Nat := if lfu l = true then some (lpk l (lm l)) else none
def lvl (g : Gr) (p : Pr) (cnt : Nat) (l : Lv) (hi : Nat) (N : Int) : Prop :=
  lgs l ≤ lge l ∧ lrs l 0 = lge l + 1 ∧ (∀ r, r < lm l → row g (lrs l r) (lrs l (r + 1)) (ltl l r) (lge l) (lrs l (r + 1)) ∧ sem g (lrs l r) (lrs l (r + 1)) (ltl l r) (some (lpk l r)) p cnt ∧ lpk l r < cnt) ∧
  row g (lrs l (lm l)) hi (ltl l (lm l)) N (-1) ∧ sem g (lrs l (lm l)) hi (ltl l (lm l)) (cop l) p cnt ∧ (lfu l = true → lpk l (lm l) < cnt) ∧ g.2.1 (lge l) = -1 ∧ g.2.2 (lge l) = -1 ∧ (lfu l = false → ltl l (lm l) = lrs l (lm l))
def grp (g : Gr) (l : Lv) : Prop := lge l = lgs l + 1 ∧ g.1 (lgs l) = 0 ∧ g.2.1 (lgs l) = (lrs l 0 : Int) ∧ g.2.2 (lgs l) = -1 ∧ g.1 (lge l) = 0
def tpl (g : Gr) (l : Lv) : Prop := lge l = lgs l ∧ g.1 (lge l) = 1
def lvs (g : Gr) (p : Pr) (cnt : Nat) : List Lv → Nat → Int → Prop
  | [], _, _ => True
  | l :: rest, hi, N => lvl g p cnt l hi N ∧ ((rest.length = 0 → tpl g l) ∧ (0 < rest.length → grp g l)) ∧ lvs g p cnt rest (lgs l) (lgs l)
def sd : List Lv → Nat
  | [] => 0
  | l :: rest => sd rest + lm l + (if lfu l = true then 1 else 0)
def smr : List Lv → Nat
  | [] => 0
  | l :: rest => smr rest + lm l
def stk (S : Nat → Int) : List Lv → Prop
  | [] => True
  | l :: rest => (∀ r, r < lm l → S (sd rest + r) = lpk l r) ∧ (lfu l = true → S (sd rest + lm l) = lpk l (lm l)) ∧ stk S rest
def itr (I R : Nat → Int) : List Lv → Prop
  | [] => True
  | l :: rest => (I rest.length = if lfu l = true then 1 else 0) ∧ R rest.length = lm l ∧ itr I R rest
def gar (a b c : Nat → Int) : List Lv → Prop
  | [] => True
  | l :: rest => (0 < rest.length → a rest.length = lgs l) ∧ b rest.length = lge l ∧ c rest.length = lrs l (lm l) ∧ gar a b c rest
theorem sam.sub {g g' : Gr} {s e s' e' : Nat} (h : sam g g' s e) (h1 : s ≤ s') (h2 : e' ≤ e) : sam g g' s' e' := fun x z1 z2 => h x (by omega) (by omega)
theorem lvl_lt {g : Gr} {p : Pr} {cnt : Nat} {l : Lv} {hi : Nat} {N : Int} (h : lvl g p cnt l hi N) : lge l < lrs l (lm l) ∧ lrs l (lm l) < hi ∧ ∀ r, r < lm l → lrs l (r + 1) ≤ lrs l (lm l) := by
  obtain ⟨h1, h2, h3, h4, -⟩ := h
  have lt1 : ∀ r, r < lm l → lrs l r < lrs l (r + 1) := fun r hr => by have := (h3 r hr).1; have a1 := this.1; have a2 := this.2.1; omega
  have mon := rs_mon lt1
  have := mon (lm l) (Nat.le_refl _) 0 (by omega)
  have a1 := h4.1
  have a2 := h4.2.1
  exact ⟨by omega, by omega, fun r hr => mon (lm l) (Nat.le_refl _) (r + 1) (by omega)⟩
/-- what lies below stays -/
theorem lvl.to {g g' : Gr} {p p' : Pr} {cnt cnt' : Nat} {l : Lv} {hi : Nat} {N : Int} (h : lvl g p cnt l hi N) (ha : sam g g' 0 hi) (hp : agp p p' cnt) (hc : cnt ≤ cnt') : lvl g' p' cnt' l hi N := by
  obtain ⟨w1, w2, w3⟩ := lvl_lt h
  obtain ⟨h1, h2, h3, h4, h5, h6, h7, h8, h9⟩ := h
  have ag := ha (lge l) (by omega) (by omega)
  refine ⟨h1, h2, fun r hr => ?_, h4.to (ha.sub (by omega) (Nat.le_refl _)), h5.to (ha.sub (by omega) (Nat.le_refl _)).agr hp hc, fun z => Nat.lt_of_lt_of_le (h6 z) hc, ag.2.1 ▸ h7, ag.2.2 ▸ h8, h9⟩
  have := w3 r hr
  obtain ⟨z1, z2, z3⟩ := h3 r hr
  exact ⟨z1.to (ha.sub (by omega) (by omega)), z2.to (ha.sub (by omega) (by omega)).agr hp hc, Nat.lt_of_lt_of_le z3 hc⟩
theorem lvs.to {g g' : Gr} {p p' : Pr} {cnt cnt' : Nat} (hp : agp p p' cnt) (hc : cnt ≤ cnt') : ∀ {ls : List Lv} {hi : Nat} {N : Int}, lvs g p cnt ls hi N → sam g g' 0 hi → lvs g' p' cnt' ls hi N := by
  intro ls
  induction ls with
  | nil => intro hi N _ _; trivial
  | cons l rest ih =>
    intro hi N h ha
    obtain ⟨h1, ⟨h2, h3⟩, h4⟩ := h
    obtain ⟨w1, w2, w3⟩ := lvl_lt h1
    have w0 := h1.1
    have a1 := ha (lgs l) (by omega) (by omega)
    have a2 := ha (lge l) (by omega) (by omega)
    refine ⟨h1.to ha hp hc, ⟨fun z => ⟨(h2 z).1, a2.1 ▸ (h2 z).2⟩, fun z => ?_⟩, ih h4 (ha.sub (Nat.le_refl _) (by omega))⟩
    obtain ⟨z1, z2, z3, z4, z5⟩ := h3 z
    exact ⟨z1, a1.1 ▸ z2, a1.2.1 ▸ z3, a1.2.2 ▸ z4, a2.1 ▸ z5⟩
theorem stk.to {S S' : Nat → Int} : ∀ {ls : List Lv}, stk S ls → (∀ k, k < sd ls → S' k = S k) → stk S' ls := by
  intro ls
  induction ls with
  | nil => intro _ _; trivial
  | cons l rest ih =>
    intro h hs
    have e : sd (l :: rest) = sd rest + lm l + (if lfu l = true then 1 else 0) := rfl
    refine ⟨fun r hr => ?_, fun z => ?_, ih h.2.2 fun k hk => hs k (by omega)⟩
    · rw [hs _ (by omega)]; exact h.1 r hr
    · rw [if_pos z] at e
      rw [hs _ (by omega)]; exact h.2.1 z
theorem itr.to {I R I' R' : Nat → Int} : ∀ {ls : List Lv}, itr I R ls → (∀ k, k < ls.length → I' k = I k ∧ R' k = R k) → itr I' R' ls := by
  intro ls
  induction ls with
  | nil => intro _ _; trivial
  | cons l rest ih =>
    intro h hs
    have w := hs rest.length (by simp)
    exact ⟨by rw [w.1]; exact h.1, by rw [w.2]; exact h.2.1, ih h.2.2 fun k hk => hs k (by simp; omega)⟩
theorem gar.to {a b c a' b' c' : Nat → Int} : ∀ {ls : List Lv}, gar a b c ls → (∀ k, k < ls.length → a' k = a k ∧ b' k = b k ∧ c' k = c k) → gar a' b' c' ls := by
  intro ls
  induction ls with
  | nil => intro _ _; trivial
  | cons l rest ih =>
    intro h hs
    have w := hs rest.length (by simp)
    exact ⟨fun z => by rw [w.1]; exact h.1 z, by rw [w.2.1]; exact h.2.1, by rw [w.2.2]; exact h.2.2.1, ih h.2.2.2 fun k hk => hs k (by simp; omega)⟩
def upN (f : Nat → Nat) (a v : Nat) : Nat → Nat := fun x => if x = a then v else f x
theorem upN_t (f : Nat → Nat) (a v : Nat) : upN f a v a = v := if_pos rfl
theorem upN_f (f : Nat → Nat) {a x : Nat} (v : Nat) (h : x ≠ a) : upN f a v x = f x := if_neg h
/-- the current row goes on to x, with part q -/
def lset (l : Lv) (x q : Nat) : Lv := (l.1, lm l, lrs l, upN (ltl l) (lm l) x, upN (lpk l) (lm l) q, true)
theorem cop_set (l : Lv) (x q : Nat) : cop (lset l x q) = some q := by
  show (if true = true then some (upN (lpk l) (lm l) q (lm l)) else none) = some q
  rw [if_pos rfl, upN_t]
/-- an item comes to the current row -/
theorem lvl_item {g : Gr} {p p' : Pr} {cnt cnt' : Nat} {l : Lv} {h e x k q : Nat} (hl : lvl g p cnt l h (-1)) (hi : itm g h e x) (hk : sem g h e x (some k) p cnt) (hkc : k < cnt) (hw : wfp p cnt) (hp : agp p p' cnt) (hc : cnt ≤ cnt') (hq : (lfu l = false ∧ q = k) ∨ (lfu l = true ∧ q = cnt ∧ cnt < cnt' ∧ p'.1 q = 2 ∧ pA p' q = lpk l (lm l) ∧ pB p' q = k)) : lvl (g.1, up g.2.1 (ltl l (lm l)) h, g.2.2) p' cnt' (lset l x q) e (-1) := by
  obtain ⟨w1, w2, w3⟩ := lvl_lt hl
  obtain ⟨h1, h2, h3, h4, h5, h6, h7, h8, h9⟩ := id hl
  obtain ⟨r, s⟩ := row_item (o := cop l) h4 h5 hi hk hkc (fun k0 z => by
    unfold cop at z
    by_cases c : lfu l = true
    · rw [if_pos c] at z
      have := h6 c
      have := Option.some.inj z
      omega
    · rw [if_neg c] at z; cases z) hw
  have ss := s p' cnt' q hp hc (by
    rcases hq with z | ⟨z1, z2⟩
    · exact Or.inl ⟨by unfold cop; rw [if_neg (by rw [z.1]; decide)], z.2⟩
    · exact Or.inr ⟨lpk l (lm l), by unfold cop; rw [if_pos z1], z2⟩)
  have rt1 := h4.1
  have sm : ∀ s' e', e' ≤ lrs l (lm l) → sam g (g.1, up g.2.1 (ltl l (lm l)) h, g.2.2) s' e' := fun s' e' he y z1 z2 => ⟨rfl, by
    show g.2.1 y = up g.2.1 (ltl l (lm l)) h y
    rw [up_f _ _ (by omega)], rfl⟩
  have ag := sm 0 (lge l + 1) (by omega) (lge l) (by omega) (by omega)
  refine ⟨h1, h2, fun r' hr => ?_, ?_, ?_, fun _ => ?_, ag.2.1 ▸ h7, ag.2.2 ▸ h8, fun z => by cases z⟩
  · have hr : r' < lm l := hr
    have := w3 r' hr
    obtain ⟨z1, z2, z3⟩ := h3 r' hr
    have e1 : ltl (lset l x q) r' = ltl l r' := upN_f _ _ (by omega)
    have e2 : lpk (lset l x q) r' = lpk l r' := upN_f _ _ (by omega)
    rw [e1, e2]
    exact ⟨z1.to (sm _ _ (by omega)), z2.to (sm _ _ (by omega)).agr hp hc, Nat.lt_of_lt_of_le z3 hc⟩
  · have e1 : ltl (lset l x q) (lm (lset l x q)) = x := upN_t _ _ _
    rw [e1]; exact r
  · have e1 : ltl (lset l x q) (lm (lset l x q)) = x := upN_t _ _ _
    rw [e1, cop_set]; exact ss
  · have e2 : lpk (lset l x q) (lm (lset l x q)) = q := upN_t _ _ _
    rw [e2]
    rcases hq with z | z <;> omega
