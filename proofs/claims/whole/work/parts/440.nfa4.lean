/-- closed rows: a pattern -/
abbrev eo (m hi : Nat) (rs : Nat → Nat) (r : Nat) : Nat := if r < m then rs (r + 1) else hi
def alts (g : Gr) (m hi ge : Nat) (rs t pk : Nat → Nat) (p : Pr) (cnt : Nat) : Prop := rs 0 = ge + 1 ∧ (∀ r, r < m → row g (rs r) (rs (r + 1)) (t r) ge (rs (r + 1)) ∧ sem g (rs r) (rs (r + 1)) (t r) (some (pk r)) p cnt ∧ pk r < cnt) ∧ row g (rs m) hi (t m) ge (-1) ∧ sem g (rs m) hi (t m) (some (pk m)) p cnt ∧ pk m < cnt ∧ g.2.1 ge = -1 ∧ g.2.2 ge = -1
theorem rs_mon {m : Nat} {rs : Nat → Nat} (h : ∀ r, r < m → rs r < rs (r + 1)) : ∀ r', r' ≤ m → ∀ r, r ≤ r' → rs r ≤ rs r' := by
  intro r'
  induction r' with
  | zero => intro _ r hr; rw [show r = 0 by omega]; exact Nat.le_refl _
  | succ r' ih =>
    intro h1 r hr
    by_cases c : r = r' + 1
    · rw [c]; exact Nat.le_refl _
    · have := ih (by omega) r (by omega)
      have := h r' (by omega)
      omega
theorem eo_find {m hi : Nat} {rs : Nat → Nat} {x : Nat} (h0 : rs 0 ≤ x) (h1 : x < hi) : ∃ r, r ≤ m ∧ rs r ≤ x ∧ x < eo m hi rs r := by
  have key : ∀ k, k ≤ m → x < eo m hi rs k → ∃ r, r ≤ m ∧ rs r ≤ x ∧ x < eo m hi rs r := by
    intro k
    induction k with
    | zero => intro hk hx; exact ⟨0, by omega, h0, hx⟩
    | succ k ih =>
      intro hk hx
      by_cases c : rs (k + 1) ≤ x
      · exact ⟨k + 1, hk, c, hx⟩
      · exact ih (by omega) (by unfold eo; rw [if_pos (by omega)]; omega)
  exact key m (Nat.le_refl _) (by unfold eo; rw [if_neg (by omega)]; exact h1)
theorem alt_sem {g : Gr} {m hi ge : Nat} {rs t pk : Nat → Nat} {p : Pr} {cnt n : Nat} {tk : Tk} {bd : Nat → Prop} {E : Nat → Nat → Nat → Prop} (h : alts g m hi ge rs t pk p cnt) (hw : wfp p cnt) (ht : tkok n tk) (he : eqs p cnt n tk bd E) (i j : Nat) : rch (stp g n tk bd ge hi) (rs 0, i) (ge, j) ↔ ∃ r, r ≤ m ∧ E (pk r) i j := by
  obtain ⟨h0, h1, h2, h3, h4, h5, h6⟩ := id h
  have hle := eqs_le hw ht he
  have R : ∀ r, r ≤ m → row g (rs r) (eo m hi rs r) (t r) ge (if r < m then (rs (r + 1) : Int) else -1) ∧ sem g (rs r) (eo m hi rs r) (t r) (some (pk r)) p cnt ∧ pk r < cnt := fun r hr => by
    by_cases c : r < m
    · unfold eo; rw [if_pos c, if_pos c]; exact h1 r c
    · unfold eo; rw [if_neg c, if_neg c, show r = m by omega]; exact ⟨h2, h3, h4⟩
  have lt1 : ∀ r, r < m → rs r < rs (r + 1) := fun r hr => by have := (h1 r hr).1; have a1 := this.1; have a2 := this.2.1; omega
  have mon := rs_mon lt1
  have hmh : rs m < hi := by have a1 := h2.1; have a2 := h2.2.1; omega
  have eoR : ∀ r r', r < r' → r' ≤ m → eo m hi rs r ≤ rs r' := fun r r' z1 z2 => by
    unfold eo; rw [if_pos (by omega)]; exact mon r' z2 (r + 1) (by omega)
  have eoh : ∀ r, r ≤ m → eo m hi rs r ≤ hi := fun r hr => by
    by_cases c : r < m
    · have := eoR r m c (Nat.le_refl _); omega
    · unfold eo; rw [if_neg c]; exact Nat.le_refl _
  have key := rch_alt (R := stp g n tk bd ge hi) (Q := fun r => stp g n tk bd (rs r) (eo m hi rs r)) (A := fun r x => rs r ≤ x ∧ x < eo m hi rs r) (ge := ge) (m := m + 1) (rs := rs) (t := t) (pc := fun i => i ≤ n) (by omega) (fun a b => ?_) (fun r a b hr z => ?_) (fun r hr => ?_) (fun r hr => ?_) (fun r r' x hr hr' z1 z2 => ?_) (fun r hr z => ?_) i j (fun r hr z => ?_)
  · rw [key]
    constructor
    · rintro ⟨r, hr, z⟩
      exact ⟨r, by omega, ((R r (by omega)).2.1 n tk bd E ht he i j).mp z⟩
    · rintro ⟨r, hr, z⟩
      exact ⟨r, by omega, ((R r hr).2.1 n tk bd E ht he i j).mpr z⟩
  · constructor
    · rintro ⟨z1, z2, z3, z4⟩
      by_cases c : a.1 = ge
      · rcases z4 with ⟨y1, _⟩ | ⟨_, y2⟩
        · rw [c, h5] at y1; omega
        · rw [c, h6] at y2; omega
      · obtain ⟨r, hr, q1, q2⟩ := eo_find (m := m) (hi := hi) (rs := rs) (x := a.1) (by omega) z2.2
        obtain ⟨⟨r1, r2, r3, r4, r5, r6, r7, r8, r9, r10⟩, _⟩ := R r hr
        rcases z4 with ⟨y1, y2⟩ | ⟨y1, y2⟩
        · by_cases c2 : a.1 = t r
          · rw [c2, r5] at y1
            have k0 : g.1 a.1 = 0 := by rw [c2]; exact r4
            refine Or.inr ⟨?_, z1, Or.inl ⟨r, by omega, c2, by omega⟩⟩
            rcases y2 with ⟨y2, _⟩ | ⟨_, y2⟩
            · exact y2
            · rw [k0] at y2
              exact absurd y2 (ht a.2).1
          · have := r9 a.1 q1 q2 c2
            exact Or.inl ⟨r, by omega, z1, ⟨q1, q2⟩, ⟨by omega, by omega⟩, Or.inl ⟨y1, y2⟩⟩
        · by_cases c2 : a.1 = rs r
          · rw [c2, r6] at y2
            by_cases c3 : r < m
            · rw [if_pos c3] at y2
              exact Or.inr ⟨y1, z1, Or.inr ⟨r, by omega, c2, by omega⟩⟩
            · rw [if_neg c3] at y2; omega
          · have := r10 a.1 (by omega) q2
            exact Or.inl ⟨r, by omega, z1, ⟨q1, q2⟩, ⟨by omega, by omega⟩, Or.inr ⟨y1, y2⟩⟩
    · rintro (⟨r, hr, z1, z2, z3, z4⟩ | ⟨z1, z2, ⟨r, hr, z3, z4⟩ | ⟨r, hr, z3, z4⟩⟩)
      · have b1 := mon r (by omega) 0 (by omega)
        have b2 := eoh r (by omega)
        exact ⟨z1, ⟨by omega, by omega⟩, ⟨by omega, by omega⟩, z4⟩
      · obtain ⟨⟨r1, r2, r3, r4, r5, r6, r7, r8, r9, r10⟩, _⟩ := R r (by omega)
        have b1 := mon r (by omega) 0 (by omega)
        have b2 := eoh r (by omega)
        refine ⟨z2, ⟨by omega, by omega⟩, ⟨by omega, by omega⟩, Or.inl ⟨?_, Or.inl ⟨z1, Or.inl ?_⟩⟩⟩
        · rw [z3, r5, z4]
        · rw [z3]; exact r4
      · obtain ⟨⟨r1, r2, r3, r4, r5, r6, r7, r8, r9, r10⟩, _⟩ := R r (by omega)
        have b1 := mon r (by omega) 0 (by omega)
        have b2 := eoh r (by omega)
        have b3 := mon (r + 1) (by omega) 0 (by omega)
        have b4 := mon m (Nat.le_refl _) (r + 1) (by omega)
        refine ⟨z2, ⟨by omega, by omega⟩, ⟨by omega, by omega⟩, Or.inr ⟨z1, ?_⟩⟩
        rw [z3, r6, if_pos (by omega), z4]
  · obtain ⟨z1, z2, z3, z4⟩ := z
    obtain ⟨⟨r1, r2, r3, r4, r5, r6, r7, r8, r9, r10⟩, _⟩ := R r (by omega)
    refine ⟨z2, z3, fun c => ?_⟩
    rcases z4 with ⟨y1, _⟩ | ⟨_, y2⟩
    · by_cases c2 : a.1 = t r
      · rw [c2, r5] at y1
        exact r7 ⟨by omega, by omega⟩
      · have := r9 a.1 z2.1 z2.2 c2; omega
    · by_cases c2 : a.1 = rs r
      · rw [c2, r6] at y2
        exact r8 (by rw [y2]; exact ⟨by omega, by omega⟩)
      · have := r10 a.1 (by omega) z2.2; omega
  · obtain ⟨⟨r1, r2, r3, r4, r5, r6, r7, r8, r9, r10⟩, _⟩ := R r (by omega)
    exact ⟨Nat.le_refl _, by omega⟩
  · obtain ⟨⟨r1, r2, r3, r4, r5, r6, r7, r8, r9, r10⟩, _⟩ := R r (by omega)
    exact ⟨r1, r2⟩
  · by_cases c : r = r'
    · exact c
    · by_cases c2 : r < r'
      · have := eoR r r' c2 (by omega); omega
      · have := eoR r' r (by omega) (by omega); omega
  · have b1 := mon r (by omega) 0 (by omega); omega
  · have z := ((R r (by omega)).2.1 n tk bd E ht he i j).mp z
    have := hle (pk r) (R r (by omega)).2.2 i j z
    exact ⟨this.1, this.2.2⟩
def altq (p : Pr) (cnt q lo m : Nat) (pk : Nat → Nat) : Prop := ∀ (n : Nat) (tk : Tk) (bd : Nat → Prop) (E : Nat → Nat → Nat → Prop), tkok n tk → eqs p cnt n tk bd E → ∀ i j, E q i j ↔ ∃ r, lo ≤ r ∧ r ≤ m ∧ E (pk r) i j
theorem altq_0 (p : Pr) (cnt m : Nat) (pk : Nat → Nat) : altq p cnt (pk m) m m pk := by
  intro n tk bd E ht he i j
  constructor
  · exact fun z => ⟨m, Nat.le_refl _, Nat.le_refl _, z⟩
  · rintro ⟨r, z1, z2, z3⟩
    rw [show m = r by omega]; exact z3
theorem altq_s {p p' : Pr} {cnt q lo m : Nat} {pk : Nat → Nat} (h : altq p cnt q (lo + 1) m pk) (hp : agp p p' cnt) (k : p'.1 cnt = 3) (a : pA p' cnt = pk lo) (b : pB p' cnt = q) (hl : lo ≤ m) : altq p' (cnt + 1) cnt lo m pk := by
  intro n tk bd E ht he i j
  have w := h n tk bd E ht (eqs_less hp (Nat.le_succ _) he) i j
  have e := (he cnt (Nat.lt_succ_self _) i j).2.2.2.1 k
  rw [a, b, w] at e
  rw [e]
  constructor
  · rintro (z | ⟨r, z1, z2, z3⟩)
    · exact ⟨lo, Nat.le_refl _, hl, z⟩
    · exact ⟨r, by omega, z2, z3⟩
  · rintro ⟨r, z1, z2, z3⟩
    by_cases c : r = lo
    · rw [c] at z3; exact Or.inl z3
    · exact Or.inr ⟨r, by omega, z2, z3⟩
/-- a group -/
theorem item_group {g : Gr} {gs m hi q : Nat} {rs t pk : Nat → Nat} {p : Pr} {cnt : Nat} (h : alts g m hi (gs + 1) rs t pk p cnt) (hw : wfp p cnt) (hq : altq p cnt q 0 m pk) (k0 : g.1 gs = 0) (n0 : g.2.1 gs = (rs 0 : Int)) (o0 : g.2.2 gs = -1) (k1 : g.1 (gs + 1) = 0) : itm g gs hi (gs + 1) ∧ fre g gs hi (gs + 1) ∧ sem g gs hi (gs + 1) (some q) p cnt := by
  obtain ⟨h0, h1, h2, h3, h4, h5, h6⟩ := id h
  have R : ∀ r, r ≤ m → row g (rs r) (eo m hi rs r) (t r) ((gs + 1 : Nat) : Int) (if r < m then (rs (r + 1) : Int) else -1) := fun r hr => by
    by_cases c : r < m
    · unfold eo; rw [if_pos c, if_pos c]; exact (h1 r c).1
    · unfold eo; rw [if_neg c, if_neg c, show r = m by omega]; exact h2
  have lt1 : ∀ r, r < m → rs r < rs (r + 1) := fun r hr => by have := (h1 r hr).1; have a1 := this.1; have a2 := this.2.1; omega
  have mon := rs_mon lt1
  have hmh : rs m < hi := by have a1 := h2.1; have a2 := h2.2.1; omega
  have hm0 := mon m (Nat.le_refl _) 0 (by omega)
  have eoh : ∀ r, r ≤ m → eo m hi rs r ≤ hi := fun r hr => by
    by_cases c : r < m
    · unfold eo; rw [if_pos c]; have := mon m (Nat.le_refl _) (r + 1) (by omega); omega
    · unfold eo; rw [if_neg c]; exact Nat.le_refl _
  have nxt : ∀ y, gs ≤ y → y < hi → g.2.1 y = -1 ∨ ((gs : Int) < g.2.1 y ∧ g.2.1 y < hi) := fun y z1 z2 => by
    by_cases c0 : y = gs
    · rw [c0, n0]; omega
    · by_cases c1 : y = gs + 1
      · rw [c1, h5]; exact Or.inl rfl
      · obtain ⟨r, hr, q1, q2⟩ := eo_find (m := m) (hi := hi) (rs := rs) (x := y) (by omega) z2
        obtain ⟨r1, r2, r3, r4, r5, r6, r7, r8, r9, r10⟩ := R r hr
        have := mon r hr 0 (by omega)
        have := eoh r hr
        by_cases c2 : y = t r
        · rw [c2, r5]; omega
        · have := r9 y q1 q2 c2; omega
  have oth : ∀ y, gs ≤ y → y < hi → g.2.2 y = -1 ∨ ((gs : Int) < g.2.2 y ∧ g.2.2 y < hi) := fun y z1 z2 => by
    by_cases c0 : y = gs
    · rw [c0, o0]; exact Or.inl rfl
    · by_cases c1 : y = gs + 1
      · rw [c1, h6]; exact Or.inl rfl
      · obtain ⟨r, hr, q1, q2⟩ := eo_find (m := m) (hi := hi) (rs := rs) (x := y) (by omega) z2
        obtain ⟨r1, r2, r3, r4, r5, r6, r7, r8, r9, r10⟩ := R r hr
        have := mon r hr 0 (by omega)
        have := eoh r hr
        by_cases c2 : y = rs r
        · rw [c2, r6]
          by_cases c3 : r < m
          · rw [if_pos c3]
            have := mon m (Nat.le_refl _) (r + 1) (by omega)
            have := mon (r + 1) (by omega) 0 (by omega)
            omega
          · rw [if_neg c3]; exact Or.inl rfl
        · have := r10 y (by omega) q2; omega
  refine ⟨⟨by omega, by omega, k1, h5, nxt, fun y z1 z2 => by have := oth y z1 z2; omega⟩, ⟨o0, h6, fun y z1 z2 => by have := oth y z1 z2; omega⟩, ?_⟩
  intro n tk bd E ht he i j
  have hle := eqs_le hw ht he
  have as := alt_sem h hw ht he
  have qq := hq n tk bd E ht he
  have key := rch_seq (R := stp g n tk bd gs hi) (R1 := fun _ _ => False) (R2 := stp g n tk bd (gs + 1) hi) (A := fun y => y = gs) (B := fun y => gs + 1 ≤ y ∧ y < hi) (pc := fun m => m ≤ n) (t := gs) (b0 := rs 0) (fun a b => ?_) (fun a b z => z.elim) (fun a b z => ⟨z.2.1, z.2.2.1⟩) rfl ⟨by omega, by omega⟩ (fun y z1 z2 => by omega) (a := (gs, i)) (u := (gs + 1, j)) rfl ⟨Nat.le_refl _, by show gs + 1 < hi; omega⟩
  · rw [key]
    constructor
    · rintro ⟨m', z1, z2, z3⟩
      have em : i = m' := by
        rcases rch_cs z1 with w | ⟨_, w, _⟩
        · exact (Prod.mk.inj w).2
        · exact w.elim
      subst em
      obtain ⟨r, hr, z⟩ := (as i j).mp z3
      exact (qq i j).mpr ⟨r, by omega, hr, z⟩
    · intro z
      obtain ⟨r, _, hr, z⟩ := (qq i j).mp z
      have hc : pk r < cnt := by
        by_cases c : r < m
        · exact (h1 r c).2.2
        · rw [show r = m by omega]; exact h4
      exact ⟨i, rch_rf _, (hle _ hc i j z).1, (as i j).mpr ⟨r, hr, z⟩⟩
  · constructor
    · rintro ⟨z1, z2, z3, z4⟩
      by_cases c : a.1 = gs
      · rcases z4 with ⟨y1, y2⟩ | ⟨_, y2⟩
        · rw [c, n0] at y1
          refine Or.inr (Or.inr ⟨c, by omega, ?_, z1⟩)
          rcases y2 with ⟨y2, _⟩ | ⟨_, y2⟩
          · exact y2
          · rw [c, k0] at y2
            exact absurd y2 (ht a.2).1
        · rw [c, o0] at y2; omega
      · refine Or.inr (Or.inl ⟨z1, ⟨by omega, z2.2⟩, ⟨?_, z3.2⟩, z4⟩)
        rcases z4 with ⟨y1, _⟩ | ⟨_, y2⟩
        · have := nxt a.1 z2.1 z2.2; omega
        · have := oth a.1 z2.1 z2.2; omega
    · rintro (z | ⟨z1, z2, z3, z4⟩ | ⟨z1, z2, z3, z4⟩)
      · exact z.elim
      · exact ⟨z1, ⟨by omega, z2.2⟩, ⟨by omega, z3.2⟩, z4⟩
      · refine ⟨z4, ⟨by omega, by omega⟩, ⟨by omega, by omega⟩, Or.inl ⟨?_, Or.inl ⟨z3, Or.inl ?_⟩⟩⟩
        · rw [z1, n0, z2]
        · rw [z1]; exact k0
