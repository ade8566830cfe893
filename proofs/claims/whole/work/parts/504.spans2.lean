section PR
variable {F n : Nat} {G G29 : Grp} {tx : Nat → Nat} {cnt : Nat}
theorem Eo_to {G' : Grp} {k i k' i' j : Nat} (h : SK G G' k i) (hn : n ≤ 160) (hne : ¬ (k' = k ∧ i' = i)) : Eo n G' k' i' j ↔ Eo n G k' i' j := by
  unfold Eo
  constructor
  · rintro ⟨a, b⟩; exact ⟨a, (h.2.2 k' i' j (by omega) hne).mp b⟩
  · rintro ⟨a, b⟩; exact ⟨a, (h.2.2 k' i' j (by omega) hne).mpr b⟩
/-- an equation hangs on rows below, and of the same part behind -/
theorem eqn_to {G' : Grp} {P : Pr} {tk : Tk} {bd : Nat → Prop} {k i k' i' j : Nat} (h : SK G G' k i) (hn : n ≤ 160) (hw : wfp P cnt) (hk' : k' < cnt) (hlt : k' < k ∨ (k' = k ∧ i < i')) (he : eqn P n tk bd (Eo n G) k' i' j) : eqn P n tk bd (Eo n G') k' i' j := by
  obtain ⟨w0, w1, w2⟩ := hw k' hk'
  have t := fun a b c (hne : ¬ (a = k ∧ b = i)) => Eo_to (n := n) (k' := a) (i' := b) (j := c) h hn hne
  have self : ∀ c, Eo n G' k' i' c ↔ Eo n G k' i' c := fun c => t _ _ _ (by omega)
  refine ⟨fun z => by rw [self]; exact he.1 z, fun z => by rw [self]; exact he.2.1 z, fun z => ?_, fun z => ?_, fun z => ?_, fun z => ?_, fun z => ?_⟩
  · have a := (w1 (by omega)).2
    have b := (w2 (Or.inl z)).2
    rw [self, he.2.2.1 z]
    constructor
    · rintro ⟨m, m1, m2⟩; exact ⟨m, (t _ _ _ (by omega)).mpr m1, (t _ _ _ (by omega)).mpr m2⟩
    · rintro ⟨m, m1, m2⟩; exact ⟨m, (t _ _ _ (by omega)).mp m1, (t _ _ _ (by omega)).mp m2⟩
  · have a := (w1 (by omega)).2
    have b := (w2 (Or.inr z)).2
    rw [self, he.2.2.2.1 z, t _ _ _ (by omega), t _ _ _ (by omega)]
  · have a := (w1 (by omega)).2
    rw [self, he.2.2.2.2.1 z]
    constructor
    · rintro (m | ⟨m, m0, m1, m2⟩)
      · exact Or.inl m
      · exact Or.inr ⟨m, m0, (t _ _ _ (by omega)).mpr m1, m2.elim Or.inl (fun y => Or.inr ((t _ _ _ (by omega)).mpr y))⟩
    · rintro (m | ⟨m, m0, m1, m2⟩)
      · exact Or.inl m
      · exact Or.inr ⟨m, m0, (t _ _ _ (by omega)).mp m1, m2.elim Or.inl (fun y => Or.inr ((t _ _ _ (by omega)).mp y))⟩
  · have a := (w1 (by omega)).2
    rw [self, he.2.2.2.2.2.1 z]
    constructor
    · rintro (⟨m, m3⟩ | ⟨m, m0, m1, m2⟩)
      · exact Or.inl ⟨m, (t _ _ _ (by omega)).mpr m3⟩
      · exact Or.inr ⟨m, m0, (t _ _ _ (by omega)).mpr m1, m2.elim Or.inl (fun y => Or.inr ((t _ _ _ (by omega)).mpr y))⟩
    · rintro (⟨m, m3⟩ | ⟨m, m0, m1, m2⟩)
      · exact Or.inl ⟨m, (t _ _ _ (by omega)).mp m3⟩
      · exact Or.inr ⟨m, m0, (t _ _ _ (by omega)).mp m1, m2.elim Or.inl (fun y => Or.inr ((t _ _ _ (by omega)).mp y))⟩
  · have a := (w1 (by omega)).2
    rw [self, he.2.2.2.2.2.2 z, t _ _ _ (by omega)]
theorem eqn_of {P : Pr} {tk : Tk} {bd : Nat → Prop} {E : Nat → Nat → Nat → Prop} {k i j : Nat} {c : Int} (hk : P.1 k = c) (h0 : c = 0 → (E k i j ↔ (j = i + 1 ∧ tk (P.2.1 k) i))) (h1 : c = 1 → (E k i j ↔ (i ≤ n ∧ j = i ∧ bd i))) (h2 : c = 2 → (E k i j ↔ ∃ m, E (pA P k) i m ∧ E (pB P k) m j)) (h3 : c = 3 → (E k i j ↔ (E (pA P k) i j ∨ E (pB P k) i j))) (h4 : c = 4 → (E k i j ↔ ((i ≤ n ∧ j = i) ∨ ∃ m, i < m ∧ E (pA P k) i m ∧ (j = m ∨ E k m j)))) (h5 : c = 5 → (E k i j ↔ ((j = i ∧ E (pA P k) i i) ∨ ∃ m, i < m ∧ E (pA P k) i m ∧ (j = m ∨ E k m j)))) (h6 : c = 6 → (E k i j ↔ (E (pA P k) i j ∨ (i ≤ n ∧ j = i)))) : eqn P n tk bd E k i j :=
  ⟨fun z => h0 (hk.symm.trans z), fun z => h1 (hk.symm.trans z), fun z => h2 (hk.symm.trans z), fun z => h3 (hk.symm.trans z), fun z => h4 (hk.symm.trans z), fun z => h5 (hk.symm.trans z), fun z => h6 (hk.symm.trans z)⟩
/-- rows of a part one behind another -/
theorem then_loop {k i A B : Nat} (hk : k < 420) (hi : i ≤ n) (ht : TXM G n tx) (hA : A < k) (hB : B < k) (h109 : G29.1 109 k = iI A) (h110 : G29.1 110 k = iI B) (h0 : ∀ j, ¬ SE G k i j) (hF : 200000 ≤ F) : ∃ G', f_X12_spans_l145 F F G29 G (iI k) (iI i) (iI ((rw' k i : Nat) : Int)) (iI i) = some G' ∧ SK G G' k i ∧ ∀ j, SE G' k i j ↔ ∃ m, i ≤ m ∧ m ≤ n ∧ SE G A i m ∧ SE G B m j := by
  obtain ⟨t1, t2, t3⟩ := id ht
  have key : ∀ d m, m + d = n + 1 → i ≤ m → ∀ fu, d < fu → ∀ G1 : Grp, SK G G1 k i → (∀ j, SE G1 k i j ↔ ∃ x, i ≤ x ∧ x < m ∧ SE G A i x ∧ SE G B x j) → ∃ G', f_X12_spans_l145 F fu G29 G1 (iI k) (iI i) (iI ((rw' k i : Nat) : Int)) (iI (m : Int)) = some G' ∧ SK G G' k i ∧ ∀ j, SE G' k i j ↔ ∃ x, i ≤ x ∧ x ≤ n ∧ SE G A i x ∧ SE G B x j := by
    intro d
    induction d with
    | zero =>
      intro m hm him fu hfu G1 s1 s2
      obtain ⟨fu, rfl⟩ : ∃ f, fu = f + 1 := ⟨fu - 1, by omega⟩
      refine ⟨G1, ?_, s1, fun j => (s2 j).trans ⟨fun ⟨x, a, b, c⟩ => ⟨x, a, by omega, c⟩, fun ⟨x, a, b, c⟩ => ⟨x, a, by omega, c⟩⟩⟩
      show f_X12_spans_l145b F (f_X12_spans_l145 F fu) G29 G1 _ _ _ _ = _
      have e : (n : Int) < m := by omega
      have t2' : G1.1 91 46 = iI n := by rw [s1.1]; exact t2
      simp (disch := omega) only [reduceIte, Nat.reduceEqDiff, Nat.reduceAdd, Nat.reduceSub, Nat.reduceMul, Nat.reduceLT, Int.reduceNeg, Int.reduceAdd, Int.reduceSub, Int.reduceMul, Int.reduceLT, Int.reduceLE, Int.reduceEq, Int.reduceToNat, reduceCtorEq, and_self, and_true, true_and, false_and, and_false, or_false, false_or, or_true, true_or, true_implies, false_implies, implies_true, not_true_eq_false, not_false_eq_true, Int.toNat_natCast, Int.cast_ofNat_Int, eq_self, ne_eq, ite_true, ite_false, if_true, if_false, Int.add_sub_cancel, Int.sub_add_cancel, Int.add_zero, Int.zero_add, cast_s, iI_in, iI_lit, iI_le, iI_lt, iI_eq, iI_cl, iI_add, iI_sub, iI_mul, iI_neg, iI_nI, ok_s, ok_ck, ok_bn, ok_ob, ck_iI, bn_eq, ob_s, om_n, om_s, cb_bI, gI_g, gI_2, gJ_1, gJ_g, gJ_2, gR_1, gR_2, gR_g, within_v, in_v, bI_i0, bI_i1, iI_bI0, iI_bI1, bI_T, bI_F, f_X12_spans_l145b, t2', e]
    | succ d ih =>
      intro m hm him fu hfu G1 s1 s2
      obtain ⟨fu, rfl⟩ : ∃ f, fu = f + 1 := ⟨fu - 1, by omega⟩
      have e : ¬ (n : Int) < m := by omega
      have t2' : G1.1 91 46 = iI n := by rw [s1.1]; exact t2
      have p1 := place_v (F := F) (k := A) (i := i) (by omega) (by omega)
      have p2 := place_v (F := F) (k := B) (i := m) (by omega) (by omega)
      have ie := @isEnd_s F G1 A i m (by omega) (by omega) (by omega) (clD _)
      have sA : SE G1 A i m ↔ SE G A i m := s1.2.2 A i m (by omega) (by omega)
      have fin : ∀ G2 : Grp, SK G G2 k i → (∀ j, SE G2 k i j ↔ ∃ x, i ≤ x ∧ x < m + 1 ∧ SE G A i x ∧ SE G B x j) → ∃ G', f_X12_spans_l145 F fu G29 G2 (iI k) (iI i) (iI ((rw' k i : Nat) : Int)) (iI ((m : Int) + 1)) = some G' ∧ SK G G' k i ∧ ∀ j, SE G' k i j ↔ ∃ x, i ≤ x ∧ x ≤ n ∧ SE G A i x ∧ SE G B x j := fun G2 a b => ih (m + 1) (by omega) (by omega) fu (by omega) G2 a b
      show ∃ G', f_X12_spans_l145b F (f_X12_spans_l145 F fu) G29 G1 _ _ _ _ = some G' ∧ _
      by_cases c : SE G A i m
      · rw [@bI_t _ (clD _) (sA.mpr c)] at ie
        obtain ⟨G2, a1, a2, a3, a4⟩ := adds_s (F := F) (G := G1) (k := k) (i := i) (k2 := B) (i2 := m) hk (by omega) (by omega) (by omega) (Or.inl (by omega)) hF
        obtain ⟨G', r1, r2⟩ := fin G2 (s1.tr ⟨a2, a3, fun k' i' j' hi' hne => by
          rw [a4 k' i' j' hi']
          constructor
          · rintro (z | ⟨z1, z2, _⟩)
            · exact z
            · exact absurd ⟨z1, z2⟩ hne
          · exact Or.inl⟩) (fun j => by
          rw [a4 k i j (by omega), s2 j, s1.2.2 B m j (by omega) (by omega)]
          constructor
          · rintro (⟨x, x1, x2, x3⟩ | ⟨_, _, z⟩)
            · exact ⟨x, x1, by omega, x3⟩
            · exact ⟨m, him, by omega, c, z⟩
          · rintro ⟨x, x1, x2, x3, x4⟩
            by_cases q : x = m
            · rw [q] at x4; exact Or.inr ⟨rfl, rfl, x4⟩
            · exact Or.inl ⟨x, x1, by omega, x3, x4⟩)
        refine ⟨G', ?_, r2⟩
        simp (disch := omega) only [reduceIte, Nat.reduceEqDiff, Nat.reduceAdd, Nat.reduceSub, Nat.reduceMul, Nat.reduceLT, Int.reduceNeg, Int.reduceAdd, Int.reduceSub, Int.reduceMul, Int.reduceLT, Int.reduceLE, Int.reduceEq, Int.reduceToNat, reduceCtorEq, and_self, and_true, true_and, false_and, and_false, or_false, false_or, or_true, true_or, true_implies, false_implies, implies_true, not_true_eq_false, not_false_eq_true, Int.toNat_natCast, Int.cast_ofNat_Int, eq_self, ne_eq, ite_true, ite_false, if_true, if_false, Int.add_sub_cancel, Int.sub_add_cancel, Int.add_zero, Int.zero_add, cast_s, iI_in, iI_lit, iI_le, iI_lt, iI_eq, iI_cl, iI_add, iI_sub, iI_mul, iI_neg, iI_nI, ok_s, ok_ck, ok_bn, ok_ob, ck_iI, bn_eq, ob_s, om_n, om_s, cb_bI, gI_g, gI_2, gJ_1, gJ_g, gJ_2, gR_1, gR_2, gR_g, within_v, in_v, bI_i0, bI_i1, iI_bI0, iI_bI1, bI_T, bI_F, f_X12_spans_l145b, t2', e, h109, h110, p1, p2, ie, a1]
        exact r1
      · rw [@bI_f _ (clD _) (fun z => c (sA.mp z))] at ie
        obtain ⟨G', r1, r2⟩ := fin G1 s1 (fun j => by
          rw [s2 j]
          constructor
          · rintro ⟨x, x1, x2, x3⟩; exact ⟨x, x1, by omega, x3⟩
          · rintro ⟨x, x1, x2, x3, x4⟩
            by_cases q : x = m
            · rw [q] at x3; exact absurd x3 c
            · exact ⟨x, x1, by omega, x3, x4⟩)
        refine ⟨G', ?_, r2⟩
        simp (disch := omega) only [reduceIte, Nat.reduceEqDiff, Nat.reduceAdd, Nat.reduceSub, Nat.reduceMul, Nat.reduceLT, Int.reduceNeg, Int.reduceAdd, Int.reduceSub, Int.reduceMul, Int.reduceLT, Int.reduceLE, Int.reduceEq, Int.reduceToNat, reduceCtorEq, and_self, and_true, true_and, false_and, and_false, or_false, false_or, or_true, true_or, true_implies, false_implies, implies_true, not_true_eq_false, not_false_eq_true, Int.toNat_natCast, Int.cast_ofNat_Int, eq_self, ne_eq, ite_true, ite_false, if_true, if_false, Int.add_sub_cancel, Int.sub_add_cancel, Int.add_zero, Int.zero_add, cast_s, iI_in, iI_lit, iI_le, iI_lt, iI_eq, iI_cl, iI_add, iI_sub, iI_mul, iI_neg, iI_nI, ok_s, ok_ck, ok_bn, ok_ob, ck_iI, bn_eq, ob_s, om_n, om_s, cb_bI, gI_g, gI_2, gJ_1, gJ_g, gJ_2, gR_1, gR_2, gR_g, within_v, in_v, bI_i0, bI_i1, iI_bI0, iI_bI1, bI_T, bI_F, f_X12_spans_l145b, t2', e, h109, h110, p1, p2, ie]
        exact r1
  exact key (n + 1 - i) i (by omega) (Nat.le_refl _) F (by omega) G (SK.rf _ _ _) (fun j => ⟨fun z => absurd z (h0 j), fun ⟨x, a, b, _⟩ => by omega⟩)
/-- rows of what comes again -/
theorem goes_loop {k i A : Nat} (hk : k < 420) (hi : i ≤ n) (ht : TXM G n tx) (hA : A < k) (hF : 200000 ≤ F) : ∃ G', f_X12_goesOn_l49 F F G29 G (iI k) (iI ((rw' k i : Nat) : Int)) (iI ((rw' A i : Nat) : Int)) (iI ((i : Int) + 1)) = some G' ∧ SK G G' k i ∧ ∀ j, SE G' k i j ↔ SE G k i j ∨ ∃ m, i < m ∧ m ≤ n ∧ SE G A i m ∧ (j = m ∨ SE G k m j) := by
  obtain ⟨t1, t2, t3⟩ := id ht
  have key : ∀ d m, m + d = n + 1 → i < m → ∀ fu, d < fu → ∀ G1 : Grp, SK G G1 k i → (∀ j, SE G1 k i j ↔ SE G k i j ∨ ∃ x, i < x ∧ x < m ∧ SE G A i x ∧ (j = x ∨ SE G k x j)) → ∃ G', f_X12_goesOn_l49 F fu G29 G1 (iI k) (iI ((rw' k i : Nat) : Int)) (iI ((rw' A i : Nat) : Int)) (iI (m : Int)) = some G' ∧ SK G G' k i ∧ ∀ j, SE G' k i j ↔ SE G k i j ∨ ∃ x, i < x ∧ x ≤ n ∧ SE G A i x ∧ (j = x ∨ SE G k x j) := by
    intro d
    induction d with
    | zero =>
      intro m hm him fu hfu G1 s1 s2
      obtain ⟨fu, rfl⟩ : ∃ f, fu = f + 1 := ⟨fu - 1, by omega⟩
      refine ⟨G1, ?_, s1, fun j => (s2 j).trans ⟨fun z => z.elim Or.inl (fun ⟨x, a, b, c⟩ => Or.inr ⟨x, a, by omega, c⟩), fun z => z.elim Or.inl (fun ⟨x, a, b, c⟩ => Or.inr ⟨x, a, by omega, c⟩)⟩⟩
      show f_X12_goesOn_l49b F (f_X12_goesOn_l49 F fu) G29 G1 _ _ _ _ = _
      have e : (n : Int) < m := by omega
      have t2' : G1.1 91 46 = iI n := by rw [s1.1]; exact t2
      simp (disch := omega) only [reduceIte, Nat.reduceEqDiff, Nat.reduceAdd, Nat.reduceSub, Nat.reduceMul, Nat.reduceLT, Int.reduceNeg, Int.reduceAdd, Int.reduceSub, Int.reduceMul, Int.reduceLT, Int.reduceLE, Int.reduceEq, Int.reduceToNat, reduceCtorEq, and_self, and_true, true_and, false_and, and_false, or_false, false_or, or_true, true_or, true_implies, false_implies, implies_true, not_true_eq_false, not_false_eq_true, Int.toNat_natCast, Int.cast_ofNat_Int, eq_self, ne_eq, ite_true, ite_false, if_true, if_false, Int.add_sub_cancel, Int.sub_add_cancel, Int.add_zero, Int.zero_add, cast_s, iI_in, iI_lit, iI_le, iI_lt, iI_eq, iI_cl, iI_add, iI_sub, iI_mul, iI_neg, iI_nI, ok_s, ok_ck, ok_bn, ok_ob, ck_iI, bn_eq, ob_s, om_n, om_s, cb_bI, gI_g, gI_2, gJ_1, gJ_g, gJ_2, gR_1, gR_2, gR_g, within_v, in_v, bI_i0, bI_i1, iI_bI0, iI_bI1, bI_T, bI_F, f_X12_goesOn_l49b, t2', e]
    | succ d ih =>
      intro m hm him fu hfu G1 s1 s2
      obtain ⟨fu, rfl⟩ : ∃ f, fu = f + 1 := ⟨fu - 1, by omega⟩
      have e : ¬ (n : Int) < m := by omega
      have t2' : G1.1 91 46 = iI n := by rw [s1.1]; exact t2
      have p2 := place_v (F := F) (k := k) (i := m) (by omega) (by omega)
      have ie := @isEnd_s F G1 A i m (by omega) (by omega) (by omega) (clD _)
      have sA : SE G1 A i m ↔ SE G A i m := s1.2.2 A i m (by omega) (by omega)
      have fin : ∀ G2 : Grp, SK G G2 k i → (∀ j, SE G2 k i j ↔ SE G k i j ∨ ∃ x, i < x ∧ x < m + 1 ∧ SE G A i x ∧ (j = x ∨ SE G k x j)) → ∃ G', f_X12_goesOn_l49 F fu G29 G2 (iI k) (iI ((rw' k i : Nat) : Int)) (iI ((rw' A i : Nat) : Int)) (iI ((m : Int) + 1)) = some G' ∧ SK G G' k i ∧ ∀ j, SE G' k i j ↔ SE G k i j ∨ ∃ x, i < x ∧ x ≤ n ∧ SE G A i x ∧ (j = x ∨ SE G k x j) := fun G2 a b => ih (m + 1) (by omega) (by omega) fu (by omega) G2 a b
      show ∃ G', f_X12_goesOn_l49b F (f_X12_goesOn_l49 F fu) G29 G1 _ _ _ _ = some G' ∧ _
      by_cases c : SE G A i m
      · rw [@bI_t _ (clD _) (sA.mpr c)] at ie
        obtain ⟨G2, b1, b2, b3, b4⟩ := puts_s (F := F) (G := G1) (k := k) (i := i) (j := m) hk (by omega) (by omega)
        obtain ⟨G3, a1, a2, a3, a4⟩ := adds_s (F := F) (G := G2) (k := k) (i := i) (k2 := k) (i2 := m) hk (by omega) (by omega) (by omega) (Or.inr (by omega)) hF
        obtain ⟨G', r1, r2⟩ := fin G3 (s1.tr ⟨a2.trans b2, a3.trans b3, fun k' i' j' hi' hne => by
          rw [a4 k' i' j' hi', b4 k' i' j' hi']
          constructor
          · rintro ((z | ⟨z1, z2, _⟩) | ⟨z1, z2, _⟩)
            · exact z
            · exact absurd ⟨z1, z2⟩ hne
            · exact absurd ⟨z1, z2⟩ hne
          · exact fun z => Or.inl (Or.inl z)⟩) (fun j => by
          rw [a4 k i j (by omega), b4 k i j (by omega), s2 j, b4 k m j (by omega), s1.2.2 k m j (by omega) (by omega)]
          constructor
          · rintro (((z | ⟨x, x1, x2, x3⟩) | ⟨_, _, z⟩) | ⟨_, _, (z | ⟨_, z, _⟩)⟩)
            · exact Or.inl z
            · exact Or.inr ⟨x, x1, by omega, x3⟩
            · exact Or.inr ⟨m, him, by omega, c, Or.inl z⟩
            · exact Or.inr ⟨m, him, by omega, c, Or.inr z⟩
            · omega
          · rintro (z | ⟨x, x1, x2, x3, x4⟩)
            · exact Or.inl (Or.inl (Or.inl z))
            · by_cases q : x = m
              · rw [q] at x4
                rcases x4 with x4 | x4
                · exact Or.inl (Or.inr ⟨rfl, rfl, x4⟩)
                · exact Or.inr ⟨rfl, rfl, Or.inl x4⟩
              · exact Or.inl (Or.inl (Or.inr ⟨x, x1, by omega, x3, x4⟩)))
        refine ⟨G', ?_, r2⟩
        simp (disch := omega) only [reduceIte, Nat.reduceEqDiff, Nat.reduceAdd, Nat.reduceSub, Nat.reduceMul, Nat.reduceLT, Int.reduceNeg, Int.reduceAdd, Int.reduceSub, Int.reduceMul, Int.reduceLT, Int.reduceLE, Int.reduceEq, Int.reduceToNat, reduceCtorEq, and_self, and_true, true_and, false_and, and_false, or_false, false_or, or_true, true_or, true_implies, false_implies, implies_true, not_true_eq_false, not_false_eq_true, Int.toNat_natCast, Int.cast_ofNat_Int, eq_self, ne_eq, ite_true, ite_false, if_true, if_false, Int.add_sub_cancel, Int.sub_add_cancel, Int.add_zero, Int.zero_add, cast_s, iI_in, iI_lit, iI_le, iI_lt, iI_eq, iI_cl, iI_add, iI_sub, iI_mul, iI_neg, iI_nI, ok_s, ok_ck, ok_bn, ok_ob, ck_iI, bn_eq, ob_s, om_n, om_s, cb_bI, gI_g, gI_2, gJ_1, gJ_g, gJ_2, gR_1, gR_2, gR_g, within_v, in_v, bI_i0, bI_i1, iI_bI0, iI_bI1, bI_T, bI_F, f_X12_goesOn_l49b, t2', e, p2, ie, b1, a1]
        exact r1
      · rw [@bI_f _ (clD _) (fun z => c (sA.mp z))] at ie
        obtain ⟨G', r1, r2⟩ := fin G1 s1 (fun j => by
          rw [s2 j]
          constructor
          · rintro (z | ⟨x, x1, x2, x3⟩)
            · exact Or.inl z
            · exact Or.inr ⟨x, x1, by omega, x3⟩
          · rintro (z | ⟨x, x1, x2, x3, x4⟩)
            · exact Or.inl z
            · by_cases q : x = m
              · rw [q] at x3; exact absurd x3 c
              · exact Or.inr ⟨x, x1, by omega, x3, x4⟩)
        refine ⟨G', ?_, r2⟩
        simp (disch := omega) only [reduceIte, Nat.reduceEqDiff, Nat.reduceAdd, Nat.reduceSub, Nat.reduceMul, Nat.reduceLT, Int.reduceNeg, Int.reduceAdd, Int.reduceSub, Int.reduceMul, Int.reduceLT, Int.reduceLE, Int.reduceEq, Int.reduceToNat, reduceCtorEq, and_self, and_true, true_and, false_and, and_false, or_false, false_or, or_true, true_or, true_implies, false_implies, implies_true, not_true_eq_false, not_false_eq_true, Int.toNat_natCast, Int.cast_ofNat_Int, eq_self, ne_eq, ite_true, ite_false, if_true, if_false, Int.add_sub_cancel, Int.sub_add_cancel, Int.add_zero, Int.zero_add, cast_s, iI_in, iI_lit, iI_le, iI_lt, iI_eq, iI_cl, iI_add, iI_sub, iI_mul, iI_neg, iI_nI, ok_s, ok_ck, ok_bn, ok_ob, ck_iI, bn_eq, ob_s, om_n, om_s, cb_bI, gI_g, gI_2, gJ_1, gJ_g, gJ_2, gR_1, gR_2, gR_g, within_v, in_v, bI_i0, bI_i1, iI_bI0, iI_bI1, bI_T, bI_F, f_X12_goesOn_l49b, t2', e, p2, ie]
        exact r1
  exact key (n - i) (i + 1) (by omega) (by omega) F (by omega) G (SK.rf _ _ _) (fun j => ⟨Or.inl, fun z => z.elim id (fun ⟨x, a, b, _⟩ => by omega)⟩)
end PR
