def up (f : Nat → Int) (a : Nat) (v : Int) : Nat → Int := fun x => if x = a then v else f x
theorem up_t (f : Nat → Int) (a : Nat) (v : Int) : up f a v a = v := if_pos rfl
theorem up_f (f : Nat → Int) {a x : Nat} (v : Int) (h : x ≠ a) : up f a v x = f x := if_neg h
/-- an item behind a row -/
theorem row_item {g : Gr} {s h e x T k cnt : Nat} {o : Option Nat} {p : Pr} (hr : row g s h T (-1) (-1)) (hs : sem g s h T o p cnt) (hi : itm g h e x) (hk : sem g h e x (some k) p cnt) (hkc : k < cnt) (hoc : ∀ k0, o = some k0 → k0 < cnt) (hw : wfp p cnt) :
    row (g.1, up g.2.1 T h, g.2.2) s e x (-1) (-1) ∧ ∀ (p' : Pr) (cnt' q : Nat), agp p p' cnt → cnt ≤ cnt' → ((o = none ∧ q = k) ∨ (∃ k0, o = some k0 ∧ q = cnt ∧ cnt < cnt' ∧ p'.1 q = 2 ∧ pA p' q = k0 ∧ pB p' q = k)) → sem (g.1, up g.2.1 T h, g.2.2) s e x (some q) p' cnt' := by
  obtain ⟨r1, r2, r3, r4, r5, r6, r7, r8, r9, r10⟩ := id hr
  obtain ⟨i1, i2, i3, i4, i5, i6⟩ := id hi
  refine ⟨⟨by omega, i2, r3, i3, ?_, r6, fun z => by have := z.1; omega, fun z => by have := z.1; omega, fun y z1 z2 z3 => ?_, fun y z1 z2 => ?_⟩, fun p' cnt' q hp hc hq => ?_⟩
  · show up g.2.1 T h x = -1
    rw [up_f _ _ (by omega)]; exact i4
  · show up g.2.1 T h y = -1 ∨ _ < up g.2.1 T h y ∧ up g.2.1 T h y < _
    by_cases c : y = T
    · rw [c, up_t]; omega
    · rw [up_f _ _ c]
      by_cases c2 : y < h
      · have := r9 y z1 c2 c; omega
      · have := i5 y (by omega) z2; omega
  · show g.2.2 y = -1 ∨ _ < g.2.2 y ∧ g.2.2 y < _
    by_cases c2 : y < h
    · have := r10 y z1 c2; omega
    · have := i6 y (by omega) z2; omega
  · intro n tk bd E ht he i j
    have he0 := eqs_less hp hc he
    have hle := eqs_le hw ht he0
    have a1 : agr g (g.1, up g.2.1 T h, g.2.2) s h := fun y z1 z2 => ⟨rfl, by
      by_cases c : y = T
      · refine Or.inr ⟨by rw [c, r5]; intro z; have := z.1; omega, ?_⟩
        show ¬ ins (up g.2.1 T h y) s h
        rw [c, up_t]; intro z; have := z.2; omega
      · refine Or.inl ?_
        show _ = up g.2.1 T h y
        rw [up_f _ _ c], Or.inl rfl⟩
    have a2 : agr g (g.1, up g.2.1 T h, g.2.2) h e := fun y z1 z2 => ⟨rfl, Or.inl (by show _ = up g.2.1 T h y; rw [up_f _ _ (by omega)]), Or.inl rfl⟩
    have s1 := fun i m => hs.to a1 (agp_rf p cnt) (Nat.le_refl _) n tk bd E ht he0 i m
    have s2 := fun m j => hk.to a2 (agp_rf p cnt) (Nat.le_refl _) n tk bd E ht he0 m j
    have key := rch_seq (R := stp (g.1, up g.2.1 T h, g.2.2) n tk bd s e) (R1 := stp (g.1, up g.2.1 T h, g.2.2) n tk bd s h) (R2 := stp (g.1, up g.2.1 T h, g.2.2) n tk bd h e) (A := fun y => s ≤ y ∧ y < h) (B := fun y => h ≤ y ∧ y < e) (pc := fun m => m ≤ n) (t := T) (b0 := h) (fun a b => ?_) (fun a b z => ⟨z.2.1, z.2.2.1⟩) (fun a b z => ⟨z.2.1, z.2.2.1⟩) ⟨r1, r2⟩ ⟨Nat.le_refl _, by omega⟩ (fun y z1 z2 => by omega) (a := (s, i)) (u := (x, j)) ⟨Nat.le_refl _, by show s < h; omega⟩ ⟨by show h ≤ x; omega, i2⟩
    · rw [key]
      constructor
      · rintro ⟨m, z1, z2, z3⟩
        have z1 := (s1 i m).mp z1
        have z3 := (s2 m j).mp z3
        rcases hq with ⟨c1, c2⟩ | ⟨k0, c1, c2, c3, c4, c5, c6⟩
        · rw [c1] at z1
          have z1 : i = m := z1
          rw [c2, z1]; exact z3
        · rw [c1] at z1
          have e2 := (he q (by omega) i j).2.2.1 c4
          rw [c5, c6] at e2
          exact e2.mpr ⟨m, z1, z3⟩
      · intro z
        rcases hq with ⟨c1, c2⟩ | ⟨k0, c1, c2, c3, c4, c5, c6⟩
        · rw [c2] at z
          have zl := hle k hkc i j z
          exact ⟨i, (s1 i i).mpr (by rw [c1]; rfl), zl.1, (s2 i j).mpr z⟩
        · have e2 := (he q (by omega) i j).2.2.1 c4
          rw [c5, c6] at e2
          obtain ⟨m, z1, z2⟩ := e2.mp z
          have zl := hle k hkc m j z2
          exact ⟨m, (s1 i m).mpr (by rw [c1]; exact z1), zl.1, (s2 m j).mpr z2⟩
    · constructor
      · rintro ⟨z1, z2, z3, z4⟩
        by_cases c : a.1 < h
        · rcases z4 with ⟨y1, y2⟩ | ⟨y1, y2⟩
          · have y1 : up g.2.1 T h a.1 = (b.1 : Int) := y1
            by_cases c2 : a.1 = T
            · rw [c2, up_t] at y1
              refine Or.inr (Or.inr ⟨c2, by omega, ?_, z1⟩)
              have k0 : g.1 a.1 = 0 := by rw [c2]; exact r4
              rcases y2 with ⟨y2, _⟩ | ⟨_, y2⟩
              · exact y2
              · have y2 : tk (g.1 a.1) a.2 := y2
                rw [k0] at y2
                exact absurd y2 (ht a.2).1
            · have y3 := y1
              rw [up_f _ _ c2] at y3
              have := r9 a.1 z2.1 c c2
              exact Or.inl ⟨z1, ⟨z2.1, c⟩, ⟨by omega, by omega⟩, Or.inl ⟨y1, y2⟩⟩
          · have y2 : g.2.2 a.1 = (b.1 : Int) := y2
            by_cases c2 : a.1 = s
            · rw [c2, r6] at y2; omega
            · have := r10 a.1 (by omega) c
              exact Or.inl ⟨z1, ⟨z2.1, c⟩, ⟨by omega, by omega⟩, Or.inr ⟨y1, y2⟩⟩
        · refine Or.inr (Or.inl ⟨z1, ⟨by omega, z2.2⟩, ⟨?_, z3.2⟩, z4⟩)
          rcases z4 with ⟨y1, y2⟩ | ⟨y1, y2⟩
          · have y1 : up g.2.1 T h a.1 = (b.1 : Int) := y1
            rw [up_f _ _ (by omega)] at y1
            have := i5 a.1 (by omega) z2.2
            omega
          · have y2 : g.2.2 a.1 = (b.1 : Int) := y2
            have := i6 a.1 (by omega) z2.2
            omega
      · rintro (⟨z1, z2, z3, z4⟩ | ⟨z1, z2, z3, z4⟩ | ⟨z1, z2, z3, z4⟩)
        · exact ⟨z1, ⟨z2.1, by omega⟩, ⟨z3.1, by omega⟩, z4⟩
        · exact ⟨z1, ⟨by omega, z2.2⟩, ⟨by omega, z3.2⟩, z4⟩
        · refine ⟨z4, ⟨by omega, by omega⟩, ⟨by omega, by omega⟩, Or.inl ⟨?_, Or.inl ⟨z3, Or.inl ?_⟩⟩⟩
          · show up g.2.1 T h a.1 = (b.1 : Int)
            rw [z1, up_t, z2]
          · show g.1 a.1 = 0
            rw [z1]; exact r4
/-- * + ? -/
theorem item_rep {g g' : Gr} {h e x f cnt : Nat} {p p' : Pr} {c : Int} (hi : itm g h e x) (hf : fre g h e x) (hs : sem g h e x (some f) p cnt) (hfc : f < cnt) (hp : agp p p' cnt) (hw : wfp p' (cnt + 1)) (hc : c = 4 ∨ c = 5 ∨ c = 6) (pk : p'.1 cnt = c) (pa : pA p' cnt = f)
    (g1 : ∀ y, h ≤ y → y < e → g'.1 y = g.1 y) (g2 : ∀ y, h ≤ y → y < e → g'.2.1 y = g.2.1 y) (g3 : ∀ y, h ≤ y → y < e → g'.2.2 y = if y = h then (if c = 5 then -1 else (x : Int)) else if y = x then (if c = 6 then -1 else (h : Int)) else g.2.2 y) :
    itm g' h e x ∧ sem g' h e x (some cnt) p' (cnt + 1) := by
  obtain ⟨i1, i2, i3, i4, i5, i6⟩ := id hi
  obtain ⟨f1, f2, f3⟩ := id hf
  have gh := g3 h (Nat.le_refl _) (by omega)
  rw [if_pos rfl] at gh
  have gx := g3 x (by omega) i2
  rw [if_neg (by omega), if_pos rfl] at gx
  have go : ∀ y, h ≤ y → y < e → y ≠ h → y ≠ x → g'.2.2 y = g.2.2 y := fun y z1 z2 z3 z4 => by rw [g3 y z1 z2, if_neg z3, if_neg z4]
  refine ⟨⟨i1, i2, by rw [g1 x (by omega) i2]; exact i3, by rw [g2 x (by omega) i2]; exact i4, fun y z1 z2 => by rw [g2 y z1 z2]; exact i5 y z1 z2, fun y z1 z2 => ?_⟩, ?_⟩
  · by_cases c1 : y = h
    · rw [c1, gh]
      by_cases c5 : c = 5
      · rw [if_pos c5]; exact Or.inl rfl
      · rw [if_neg c5]; omega
    · by_cases c2 : y = x
      · rw [c2, gx]
        by_cases c6 : c = 6
        · rw [if_pos c6]; exact Or.inl rfl
        · rw [if_neg c6]; omega
      · rw [go y z1 z2 c1 c2]; exact i6 y z1 z2
  · intro n tk bd E ht he i j
    have he0 := eqs_less hp (Nat.le_succ cnt) he
    have hle := eqs_le hw ht he
    have eq := fun i j => he cnt (Nat.lt_succ_self _) i j
    refine rch_rep (R := stp g n tk bd h e) (a0 := h) (b0 := x) (sk := fun i => c ≠ 5 ∧ i ≤ n) (lp := fun i => c ≠ 6 ∧ i ≤ n) (by omega) (fun a b => ?_) (fun a b z => ?_) (fun a b z => ?_) (D := E f) (fun i j => hs n tk bd E ht he0 i j) (fun i m j q1 q2 => ?_) (fun i j q1 q2 => ?_) (fun i j q => ?_) (fun i j q => (hle cnt (Nat.lt_succ_self _) i j q).2.1) i j
    · constructor
      · rintro ⟨z1, z2, z3, z4⟩
        rcases z4 with ⟨y1, y2⟩ | ⟨y1, y2⟩
        · rw [g2 _ z2.1 z2.2] at y1
          rw [g1 _ z2.1 z2.2] at y2
          exact Or.inl ⟨z1, z2, z3, Or.inl ⟨y1, y2⟩⟩
        · by_cases c1 : a.1 = h
          · rw [c1, gh] at y2
            by_cases c5 : c = 5
            · rw [if_pos c5] at y2; omega
            · rw [if_neg c5] at y2
              exact Or.inr (Or.inl ⟨⟨c5, z1⟩, c1, by omega, y1⟩)
          · by_cases c2 : a.1 = x
            · rw [c2, gx] at y2
              by_cases c6 : c = 6
              · rw [if_pos c6] at y2; omega
              · rw [if_neg c6] at y2
                exact Or.inr (Or.inr ⟨⟨c6, z1⟩, c2, by omega, y1⟩)
            · rw [go _ z2.1 z2.2 c1 c2] at y2
              exact Or.inl ⟨z1, z2, z3, Or.inr ⟨y1, y2⟩⟩
      · rintro (⟨z1, z2, z3, z4⟩ | ⟨⟨z0, z1⟩, z2, z3, z4⟩ | ⟨⟨z0, z1⟩, z2, z3, z4⟩)
        · refine ⟨z1, z2, z3, ?_⟩
          rcases z4 with ⟨y1, y2⟩ | ⟨y1, y2⟩
          · rw [← g2 _ z2.1 z2.2] at y1
            rw [← g1 _ z2.1 z2.2] at y2
            exact Or.inl ⟨y1, y2⟩
          · by_cases c1 : a.1 = h
            · rw [c1, f1] at y2; omega
            · by_cases c2 : a.1 = x
              · rw [c2, f2] at y2; omega
              · exact Or.inr ⟨y1, by rw [go _ z2.1 z2.2 c1 c2]; exact y2⟩
        · refine ⟨z1, ⟨by omega, by omega⟩, ⟨by omega, by omega⟩, Or.inr ⟨z4, ?_⟩⟩
          rw [z2, gh, if_neg z0, z3]
        · refine ⟨z1, ⟨by omega, by omega⟩, ⟨by omega, by omega⟩, Or.inr ⟨z4, ?_⟩⟩
          rw [z2, gx, if_neg z0, z3]
    · obtain ⟨z1, z2, z3, z4⟩ := z
      rcases z4 with ⟨y1, y2⟩ | ⟨y1, y2⟩
      · have := i5 a.1 z2.1 z2.2; omega
      · have := f3 a.1 z2.1 z2.2; omega
    · obtain ⟨z1, z2, z3, z4⟩ := z
      intro ce
      rcases z4 with ⟨y1, y2⟩ | ⟨y1, y2⟩
      · rw [ce, i4] at y1; omega
      · rw [ce, f2] at y2; omega
    · have w := eqs_le (p := p') hw ht he f (by omega) i m q1
      rcases hc with c4 | c5 | c6
      · have e4 := (eq i j).2.2.2.2.1 (by rw [pk]; exact c4)
        rw [pa] at e4
        by_cases cm : i < m
        · exact e4.mpr (Or.inr ⟨m, cm, q1, q2.elim (fun z => Or.inl z.symm) (fun z => Or.inr z.2)⟩)
        · have em : i = m := by omega
          subst em
          rcases q2 with z | z
          · exact e4.mpr (Or.inl ⟨w.1, z.symm⟩)
          · exact z.2
      · have e5 := (eq i j).2.2.2.2.2.1 (by rw [pk]; exact c5)
        rw [pa] at e5
        by_cases cm : i < m
        · exact e5.mpr (Or.inr ⟨m, cm, q1, q2.elim (fun z => Or.inl z.symm) (fun z => Or.inr z.2)⟩)
        · have em : i = m := by omega
          subst em
          rcases q2 with z | z
          · exact e5.mpr (Or.inl ⟨z.symm, q1⟩)
          · exact z.2
      · have e6 := (eq i j).2.2.2.2.2.2 (by rw [pk]; exact c6)
        rw [pa] at e6
        rcases q2 with z | z
        · exact e6.mpr (Or.inl (z ▸ q1))
        · exact absurd c6 z.1.1
    · rcases hc with c4 | c5 | c6
      · have e4 := (eq i j).2.2.2.2.1 (by rw [pk]; exact c4)
        rcases q2 with z | z
        · exact e4.mpr (Or.inl ⟨q1.2, z.symm⟩)
        · exact z.2
      · exact absurd c5 q1.1
      · have e6 := (eq i j).2.2.2.2.2.2 (by rw [pk]; exact c6)
        rcases q2 with z | z
        · exact e6.mpr (Or.inr ⟨q1.2, z.symm⟩)
        · exact absurd c6 z.1.1
    · rcases hc with c4 | c5 | c6
      · have e4 := (eq i j).2.2.2.2.1 (by rw [pk]; exact c4)
        rw [pa] at e4
        rcases e4.mp q with z | ⟨m, z1, z2, z3⟩
        · exact Or.inl ⟨⟨by omega, z.1⟩, z.2.symm⟩
        · rcases z3 with z3 | z3
          · rw [z3]; exact Or.inr (Or.inl z2)
          · have := (eqs_le hw ht he f (by omega) i m z2).2.2
            exact Or.inr (Or.inr ⟨m, z1, ⟨by omega, this⟩, z2, z3⟩)
      · have e5 := (eq i j).2.2.2.2.2.1 (by rw [pk]; exact c5)
        rw [pa] at e5
        rcases e5.mp q with z | ⟨m, z1, z2, z3⟩
        · rw [z.1]; exact Or.inr (Or.inl z.2)
        · rcases z3 with z3 | z3
          · rw [z3]; exact Or.inr (Or.inl z2)
          · have := (eqs_le hw ht he f (by omega) i m z2).2.2
            exact Or.inr (Or.inr ⟨m, z1, ⟨by omega, this⟩, z2, z3⟩)
      · have e6 := (eq i j).2.2.2.2.2.2 (by rw [pk]; exact c6)
        rw [pa] at e6
        rcases e6.mp q with z | z
        · exact Or.inr (Or.inl z)
        · exact Or.inl ⟨⟨by omega, z.1⟩, z.2.symm⟩
/-- an atom -/
theorem item_atom {g : Gr} {h cnt : Nat} {p : Pr} {c : Int} (k0 : g.1 h = c) (n0 : g.2.1 h = ((h + 1 : Nat) : Int)) (o0 : g.2.2 h = -1) (k1 : g.1 (h + 1) = 0) (n1 : g.2.1 (h + 1) = -1) (o1 : g.2.2 (h + 1) = -1) (hc : c ≠ 0) (hk : (c = 94 ∧ p.1 cnt = 1) ∨ (c ≠ 94 ∧ p.1 cnt = 0 ∧ p.2.1 cnt = c)) :
    itm g h (h + 2) (h + 1) ∧ fre g h (h + 2) (h + 1) ∧ sem g h (h + 2) (h + 1) (some cnt) p (cnt + 1) := by
  have two : ∀ y, h ≤ y → y < h + 2 → y = h ∨ y = h + 1 := fun y z1 z2 => by omega
  refine ⟨⟨by omega, by omega, k1, n1, fun y z1 z2 => ?_, fun y z1 z2 => ?_⟩, ⟨o0, o1, fun y z1 z2 => ?_⟩, ?_⟩
  · rcases two y z1 z2 with q | q
    · rw [q, n0]; omega
    · rw [q, n1]; exact Or.inl rfl
  · rcases two y z1 z2 with q | q
    · rw [q, o0]; exact Or.inl rfl
    · rw [q, o1]; exact Or.inl rfl
  · rcases two y z1 z2 with q | q
    · rw [q, o0]; omega
    · rw [q, o1]; omega
  · intro n tk bd E ht he i j
    have stay : ∀ m, rch (stp g n tk bd h (h + 2)) (h + 1, m) (h + 1, j) → m = j := fun m z => by
      rcases rch_cs z with q | ⟨d, q, _⟩
      · exact (Prod.mk.inj q).2
      · obtain ⟨_, _, _, q4⟩ := q
        rcases q4 with ⟨y1, _⟩ | ⟨_, y2⟩
        · have y1 : g.2.1 (h + 1) = (d.1 : Int) := y1
          rw [n1] at y1; omega
        · have y2 : g.2.2 (h + 1) = (d.1 : Int) := y2
          rw [o1] at y2; omega
    have eq := he cnt (Nat.lt_succ_self _) i j
    constructor
    · intro z
      rcases rch_cs z with q | ⟨d, q, z2⟩
      · have := (Prod.mk.inj q).1; omega
      · obtain ⟨q1, q2, q3, q4⟩ := q
        rcases q4 with ⟨y1, y2⟩ | ⟨_, y2⟩
        · have y1 : g.2.1 h = (d.1 : Int) := y1
          rw [n0] at y1
          have ed : d = (h + 1, d.2) := Prod.ext (by omega) rfl
          rw [ed] at z2
          have ej := stay _ z2
          rcases y2 with ⟨y2, y3⟩ | ⟨y2, y3⟩
          · have y2 : d.2 = i := y2
            have y3 : g.1 h = 0 ∨ (g.1 h = 94 ∧ bd i) := y3
            rw [k0] at y3
            rcases y3 with y3 | y3
            · exact absurd y3 hc
            · rcases hk with hk | hk
              · exact (eq.2.1 hk.2).mpr ⟨q1, by omega, y3.2⟩
              · exact absurd y3.1 hk.1
          · have y2 : d.2 = i + 1 := y2
            have y3 : tk (g.1 h) i := y3
            rw [k0] at y3
            rcases hk with hk | hk
            · rw [hk.1] at y3
              exact absurd y3 (ht i).2.1
            · refine (eq.1 hk.2.1).mpr ⟨by omega, ?_⟩
              rw [hk.2.2]; exact y3
        · have y2 : g.2.2 h = (d.1 : Int) := y2
          rw [o0] at y2; omega
    · intro z
      have z : E cnt i j := z
      rcases hk with hk | hk
      · have z := (eq.2.1 hk.2).mp z
        refine rch_1 ⟨z.1, ⟨Nat.le_refl _, by show h < h + 2; omega⟩, ⟨by show h ≤ h + 1; omega, by show h + 1 < h + 2; omega⟩, Or.inl ⟨n0, Or.inl ⟨z.2.1, Or.inr ⟨?_, z.2.2⟩⟩⟩⟩
        show g.1 h = 94
        rw [k0]; exact hk.1
      · have z := (eq.1 hk.2.1).mp z
        have zn := (ht i).2.2 _ z.2
        refine rch_1 ⟨by show i ≤ n; omega, ⟨Nat.le_refl _, by show h < h + 2; omega⟩, ⟨by show h ≤ h + 1; omega, by show h + 1 < h + 2; omega⟩, Or.inl ⟨n0, Or.inr ⟨z.1, ?_⟩⟩⟩
        show tk (g.1 h) i
        rw [k0, ← hk.2.2]; exact z.2
