/-! rules' nets in the whole net -/
def clo (g : Gr) (lo hi : Nat) : Prop := ∀ x, lo ≤ x → x < hi → (g.2.1 x = -1 ∨ ((lo : Int) ≤ g.2.1 x ∧ g.2.1 x < hi)) ∧ (g.2.2 x = -1 ∨ ((lo : Int) ≤ g.2.2 x ∧ g.2.2 x < hi))
theorem alts_clo {g : Gr} {m hi ge : Nat} {rs t pk : Nat → Nat} {p : Pr} {cnt : Nat} (h : alts g m hi ge rs t pk p cnt) : clo g ge hi := by
  obtain ⟨h0, h1, h2, h3, h4, h5, h6⟩ := id h
  have R : ∀ r, r ≤ m → row g (rs r) (eo m hi rs r) (t r) (ge : Int) (if r < m then (rs (r + 1) : Int) else -1) := fun r hr => by
    by_cases c : r < m
    · unfold eo; rw [if_pos c, if_pos c]; exact (h1 r c).1
    · unfold eo; rw [if_neg c, if_neg c, show r = m by omega]; exact h2
  have lt1 : ∀ r, r < m → rs r < rs (r + 1) := fun r hr => by have := (h1 r hr).1; have a1 := this.1; have a2 := this.2.1; omega
  have mon := rs_mon lt1
  have hmh : rs m < hi := by have a1 := h2.1; have a2 := h2.2.1; omega
  have hm0 := mon m (Nat.le_refl _) 0 (by omega)
  have eoh : ∀ r, r ≤ m → eo m hi rs r ≤ hi := fun r hr => by
    by_cases c : r < m
    · unfold eo; rw [if_pos c]; have := mon m (Nat.le_refl _) (r + 1) (by omega); omega
    · unfold eo; rw [if_neg c]; exact Nat.le_refl _
  intro x z1 z2
  by_cases c1 : x = ge
  · rw [c1, h5, h6]; exact ⟨Or.inl rfl, Or.inl rfl⟩
  · obtain ⟨r, hr, q1, q2⟩ := eo_find (m := m) (hi := hi) (rs := rs) (x := x) (by omega) z2
    obtain ⟨r1, r2, r3, r4, r5, r6, r7, r8, r9, r10⟩ := R r hr
    have b1 := mon r hr 0 (by omega)
    have b2 := eoh r hr
    constructor
    · by_cases c2 : x = t r
      · rw [c2, r5]; omega
      · have := r9 x q1 q2 c2; omega
    · by_cases c2 : x = rs r
      · rw [c2, r6]
        by_cases c3 : r < m
        · rw [if_pos c3]
          have := mon m (Nat.le_refl _) (r + 1) (by omega)
          have := mon (r + 1) (by omega) 0 (by omega)
          omega
        · rw [if_neg c3]; exact Or.inl rfl
      · have := r10 x (by omega) q2; omega
/-- the rules as the search needs them -/
def RGS (g : Gr) (P : Pr) (cnt S r : Nat) (gl rt : Nat → Nat) : Prop := gl 0 = 0 ∧ gl r = S ∧ wfp P cnt ∧ ∀ i, i < r → RULE g P cnt (gl i) (gl (i + 1)) (rt i)
theorem gl_mon {g : Gr} {P : Pr} {cnt S r : Nat} {gl rt : Nat → Nat} (h : RGS g P cnt S r gl rt) : ∀ j, j ≤ r → ∀ i, i ≤ j → gl i ≤ gl j := by
  intro j
  induction j with
  | zero => intro _ i hi; rw [show i = 0 by omega]; exact Nat.le_refl _
  | succ j ih =>
    intro hj i hi
    by_cases c : i = j + 1
    · rw [c]; exact Nat.le_refl _
    · have := ih (by omega) i (by omega)
      have := (h.2.2.2 j (by omega)).1
      omega
theorem gl_find {g : Gr} {P : Pr} {cnt S r : Nat} {gl rt : Nat → Nat} (h : RGS g P cnt S r gl rt) {x : Nat} (hx : x < S) : ∃ i, i < r ∧ gl i ≤ x ∧ x < gl (i + 1) := by
  have key : ∀ k, k ≤ r → x < gl k → ∃ i, i < r ∧ gl i ≤ x ∧ x < gl (i + 1) := by
    intro k
    induction k with
    | zero => intro _ z; rw [h.1] at z; exact absurd z (Nat.not_lt_zero x)
    | succ k ih =>
      intro hk z
      by_cases c : gl k ≤ x
      · exact ⟨k, by omega, c, z⟩
      · exact ih (by omega) (by omega)
  exact key r (Nat.le_refl _) (by rw [h.2.1]; exact hx)
theorem rgs_nw {g : Gr} {P : Pr} {cnt S r : Nat} {gl rt : Nat → Nat} (h : RGS g P cnt S r gl rt) : NW g S := by
  intro x hx
  obtain ⟨i, i1, i2, i3⟩ := gl_find h hx
  obtain ⟨u1, u2, u3, u4, m, rs, t, pk, u5, u6⟩ := h.2.2.2 i i1
  have hc := alts_clo u5 x i2 i3
  have m1 := gl_mon h r (Nat.le_refl _) (i + 1) (by omega)
  rw [h.2.1] at m1
  have k : 0 ≤ g.1 x ∧ g.1 x < 256 := by
    by_cases c : x = gl i
    · rw [c, u3]; decide
    · exact (u4 x (by omega) i3).2
  exact ⟨k.1, k.2, by omega, by omega, by omega, by omega⟩
theorem rule_cnd {g : Gr} {P : Pr} {cnt S r n : Nat} {gl rt tx : Nat → Nat} (h : RGS g P cnt S r gl rt) {E : Nat → Nat → Nat → Prop} (he : eqs P cnt n (tkA n tx) (bdA n tx) E) {k : Nat} (hk : k < r) (i j : Nat) : CND g n S tx (gl k + 1) i j ↔ E (rt k) i j := by
  obtain ⟨u1, u2, u3, u4, m, rs, t, pk, u5, u6⟩ := h.2.2.2 k hk
  have hc := alts_clo u5
  have m1 := gl_mon h r (Nat.le_refl _) (k + 1) (by omega)
  rw [h.2.1] at m1
  have hw := h.2.2.1
  have ht := tkok_A n tx
  have as := alt_sem u5 hw ht he i j
  have q := u6 n _ _ E ht he i j
  have e0 : rs 0 = gl k + 1 := u5.1
  rw [e0] at as
  have up : ∀ a b, stp g n (tkA n tx) (bdA n tx) (gl k) (gl (k + 1)) a b → stp g n (tkA n tx) (bdA n tx) 0 S a b := fun a b ⟨z1, z2, z3, z4⟩ => ⟨z1, ⟨Nat.zero_le _, by omega⟩, ⟨Nat.zero_le _, by omega⟩, z4⟩
  have fin : CND g n S tx (gl k + 1) i j ↔ rch (stp g n (tkA n tx) (bdA n tx) (gl k) (gl (k + 1))) (gl k + 1, i) (gl k, j) := by
    constructor
    · rintro ⟨t', t1, t2, t3⟩
      have key := rch_ind (R := stp g n (tkA n tx) (bdA n tx) 0 S) (b := (t', j)) (P := fun a => gl k ≤ a.1 ∧ a.1 < gl (k + 1) → (gl k ≤ t' ∧ t' < gl (k + 1)) ∧ rch (stp g n (tkA n tx) (bdA n tx) (gl k) (gl (k + 1))) a (t', j)) (fun z => ⟨z, rch_rf _⟩) (fun a c hs _ ih ha => by
        obtain ⟨s1, s2, s3, s4⟩ := hs
        have cc := hc a.1 ha.1 ha.2
        have hb : gl k ≤ c.1 ∧ c.1 < gl (k + 1) := by
          rcases s4 with ⟨y1, _⟩ | ⟨_, y2⟩
          · have := cc.1; omega
          · have := cc.2; omega
        have := ih hb
        exact ⟨this.1, rch_hd ⟨s1, ha, hb, s4⟩ this.2⟩) t3
      obtain ⟨k1, k2⟩ := key ⟨Nat.le_succ _, u1⟩
      have et : t' = gl k := by
        by_cases c : t' = gl k
        · exact c
        · exact absurd t2 (u4 t' (by omega) k1.2).1
      rw [et] at k2
      exact k2
    · intro z
      exact ⟨gl k, by omega, u3, rch_mono up z⟩
  rw [fin, as, q]
  exact ⟨fun ⟨r, z1, z2⟩ => ⟨r, Nat.zero_le _, z1, z2⟩, fun ⟨r, _, z1, z2⟩ => ⟨r, z1, z2⟩⟩
/-- finds, on either side: count, rule, place, length, line -/
abbrev Fnd := Nat → Nat × Nat × Nat × Nat
def FA (G : Grp) (c k a m : Nat) (fd : Fnd) : Prop := G.1 c k = iI m ∧ ∀ j, j < m → G.1 a j = iI (fd j).1 ∧ G.1 (a + 1) j = iI (fd j).2.1 ∧ G.1 (a + 2) j = iI (fd j).2.2.1 ∧ G.1 (a + 3) j = iI (fd j).2.2.2
def FO (m r i : Nat) (fd : Fnd) : Prop := m ≤ i ∧ (∀ j, j < m → (fd j).1 < r ∧ 1 ≤ (fd j).2.2.1 ∧ (fd j).2.1 + (fd j).2.2.1 ≤ i ∧ (fd j).2.2.2 ≤ i) ∧ ∀ j, j + 1 < m → (fd j).2.1 + (fd j).2.2.1 ≤ (fd (j + 1)).2.1
def upF (fd : Fnd) (m : Nat) (x : Nat × Nat × Nat × Nat) : Fnd := fun j => if j = m then x else fd j
theorem FO.to {m r i i' : Nat} {fd : Fnd} (h : FO m r i fd) (hi : i ≤ i') : FO m r i' fd := ⟨Nat.le_trans h.1 hi, fun j hj => by have := h.2.1 j hj; omega, h.2.2⟩
theorem FO.add {m r i k w l : Nat} {fd : Fnd} (h : FO m r i fd) (hk : k < r) (hw : i < w) (hl : l ≤ w) : FO (m + 1) r w (upF fd m (k, i, w - i, l)) := by
  refine ⟨by have := h.1; omega, fun j hj => ?_, fun j hj => ?_⟩
  · unfold upF
    by_cases e : j = m
    · rw [if_pos e]
      exact ⟨hk, by show 1 ≤ w - i; omega, by show i + (w - i) ≤ w; omega, hl⟩
    · rw [if_neg e]
      have := h.2.1 j (by omega); omega
  · unfold upF
    rw [if_neg (show ¬ j = m by omega)]
    by_cases e : j + 1 = m
    · rw [if_pos e]
      exact (h.2.1 j (by omega)).2.2.1
    · rw [if_neg e]
      exact h.2.2 j (by omega)
