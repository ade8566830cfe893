/-- what stays outside one object of rules -/
def FRO (v : Nat) (G G' : Grp) : Prop := G'.2 = G.2 ∧ ∀ x k, (x < v ∨ v + 9 < x) → G'.1 x k = G.1 x k
section PR
variable {F v n p : Nat} {G3 G27 G4 G28 G29 : Grp} {b : Nat → Nat}
theorem RUS.le {r S cnt p' : Nat} {gl rt : Nat → Nat} {dc : Nat → Int} (h : RUS G4 G28 v n p r S cnt gl rt dc) (h1 : p ≤ p') (h2 : p' ≤ n) (z : Int32) : RUS G4 (gI G28 91 21 z) v n p' r S cnt gl rt dc := by
  obtain ⟨R1, R2, R3, R4, ⟨R5, R6, R7⟩, R8, R9, R10, R11, R12, R13, R14⟩ := h
  refine ⟨R1, R2, R3, R4, ⟨?_, ?_, ?_⟩, R8, R9, R10, fun i hi => ?_, by omega, by omega, h2⟩
  · rw [gI_g, if_neg (by omega)]; exact R5
  · rw [gI_g, if_neg (by omega)]; exact R6
  · rw [gI_g, if_neg (by omega)]; exact R7
  · obtain ⟨z1, z2, z3, z4, z5⟩ := R11 i hi
    exact ⟨z1, z2, z3, by rw [gI_g, if_neg (by omega)]; exact z4, by rw [gI_g, if_neg (by omega)]; exact z5⟩
theorem l53_0 {fu : Nat} (x : Int32) : f_X12_rules_l53 F (fu + 1) G27 G28 G29 (iI 0) x = f_X12_rules_b104 F G27 G28 G29 (iI 0) := by
  show f_X12_rules_l53b F (f_X12_rules_l53 F fu) G27 G28 G29 _ _ = _
  simp (disch := omega) only [reduceIte, Nat.reduceEqDiff, Nat.reduceAdd, Nat.reduceSub, Nat.reduceMul, Nat.reduceLT, Int.reduceNeg, Int.reduceAdd, Int.reduceSub, Int.reduceMul, Int.reduceLT, Int.reduceLE, Int.reduceEq, Int.reduceToNat, reduceCtorEq, and_self, and_true, true_and, false_and, and_false, or_false, false_or, or_true, true_or, true_implies, false_implies, implies_true, not_true_eq_false, not_false_eq_true, Int.toNat_natCast, Int.cast_ofNat_Int, eq_self, ne_eq, ite_true, ite_false, if_true, if_false, Int.add_sub_cancel, Int.sub_add_cancel, Int.add_zero, Int.zero_add, cast_s, iI_in, iI_lit, iI_le, iI_lt, iI_eq, iI_cl, iI_add, iI_sub, iI_mul, iI_neg, iI_nI, ok_s, ok_ck, ok_bn, ok_ob, ck_iI, bn_eq, ob_s, om_n, om_s, cb_bI, gI_g, gI_2, gJ_1, gJ_g, gJ_2, gR_1, gR_2, gR_g, within_v, in_v, bI_i0, bI_i1, iI_bI0, iI_bI1, bI_T, bI_F, f_X12_rules_l53b]
theorem l53_1 {fu : Nat} : f_X12_rules_l53 F (fu + 1) G27 G28 G29 (iI 1) (iI 0) = f_X12_rules_b104 F G27 G28 G29 (iI 1) := by
  show f_X12_rules_l53b F (f_X12_rules_l53 F fu) G27 G28 G29 _ _ = _
  simp (disch := omega) only [reduceIte, Nat.reduceEqDiff, Nat.reduceAdd, Nat.reduceSub, Nat.reduceMul, Nat.reduceLT, Int.reduceNeg, Int.reduceAdd, Int.reduceSub, Int.reduceMul, Int.reduceLT, Int.reduceLE, Int.reduceEq, Int.reduceToNat, reduceCtorEq, and_self, and_true, true_and, false_and, and_false, or_false, false_or, or_true, true_or, true_implies, false_implies, implies_true, not_true_eq_false, not_false_eq_true, Int.toNat_natCast, Int.cast_ofNat_Int, eq_self, ne_eq, ite_true, ite_false, if_true, if_false, Int.add_sub_cancel, Int.sub_add_cancel, Int.add_zero, Int.zero_add, cast_s, iI_in, iI_lit, iI_le, iI_lt, iI_eq, iI_cl, iI_add, iI_sub, iI_mul, iI_neg, iI_nI, ok_s, ok_ck, ok_bn, ok_ob, ck_iI, bn_eq, ob_s, om_n, om_s, cb_bI, gI_g, gI_2, gJ_1, gJ_g, gJ_2, gR_1, gR_2, gR_g, within_v, in_v, bI_i0, bI_i1, iI_bI0, iI_bI1, bI_T, bI_F, f_X12_rules_l53b]
theorem rul_loop (ht : TPE G3 G27 n b) (hF : 200000 ≤ F) : ∀ k r, r + k = 13 → ∀ fu fu', k + 1 < fu → k + 1 < fu' → ∀ (p : Nat) (G4 G28 : Grp) (S cnt : Nat) (gl rt : Nat → Nat) (dc : Nat → Int), RUS G4 G28 v n p r S cnt gl rt dc → r ≤ 12 → G4.1 v 10 = iI p → G28.1 91 21 = iI p → p ≤ n → G4.1 v 11 = iI 0 →
    (∃ G4' G28' flt, f_X7_parse_l51 F fu G3 G4 v (iI 1) (iI (r : Int)) = some (iI flt, G4') ∧ f_X12_rules_l53 F fu' G27 G28 G29 (iI 1) (iI 1) = f_X12_rules_b104 F G27 G28' G29 (iI 0) ∧ G28'.1 91 23 = iI flt ∧ (1000 ≤ flt ∧ flt < 10000) ∧ FRO v G4 G4') ∨
    (∃ G4' G28' r' S' cnt' gl' rt' dc', f_X7_parse_l51 F fu G3 G4 v (iI 1) (iI (r : Int)) = some (iI 0, G4') ∧ f_X12_rules_l53 F fu' G27 G28 G29 (iI 1) (iI 1) = f_X12_rules_b104 F G27 G28' G29 (iI 1) ∧ RUS G4' G28' v n n r' S' cnt' gl' rt' dc' ∧ r' ≤ 12 ∧ FRO v G4 G4') := by
  intro k
  induction k with
  | zero => intro r hr _ _ _ _ _ _ _ _ _ _ _ _ _ h12 _ _ _ _; omega
  | succ k ih =>
    intro r hr fu fu' hfu hfu' p G4 G28 S cnt gl rt dc H h12 h10 m21 hp h11
    obtain ⟨fu, rfl⟩ : ∃ f, fu = f + 1 + 1 := ⟨fu - 2, by omega⟩
    obtain ⟨fu', rfl⟩ : ∃ f, fu' = f + 1 + 1 := ⟨fu' - 2, by omega⟩
    have T1 := ht.1
    rcases rule_turn (F := F) ht hF H h12 h10 m21 hp with ⟨G4', G28', flt, a1, a2, a3, a4, a5, a6, a7⟩ | ⟨hr12, G4', G28', p', S', cnt', q, d, a1, a2, a3, a4, a5, a6, a7, a8, a9, a10⟩
    · refine Or.inl ⟨G4', G28', flt, ?_, ?_, a4, a5, a6, a7⟩
      · rw [a1 (fu + 1) r h12]
        show f_X7_parse_l51b F (f_X7_parse_l51 F fu) G3 G4' v _ _ = _
        simp (disch := omega) only [reduceIte, Nat.reduceEqDiff, Nat.reduceAdd, Nat.reduceSub, Nat.reduceMul, Nat.reduceLT, Int.reduceNeg, Int.reduceAdd, Int.reduceSub, Int.reduceMul, Int.reduceLT, Int.reduceLE, Int.reduceEq, Int.reduceToNat, reduceCtorEq, and_self, and_true, true_and, false_and, and_false, or_false, false_or, or_true, true_or, true_implies, false_implies, implies_true, not_true_eq_false, not_false_eq_true, Int.toNat_natCast, Int.cast_ofNat_Int, eq_self, ne_eq, ite_true, ite_false, if_true, if_false, Int.add_sub_cancel, Int.sub_add_cancel, Int.add_zero, Int.zero_add, cast_s, iI_in, iI_lit, iI_le, iI_lt, iI_eq, iI_cl, iI_add, iI_sub, iI_mul, iI_neg, iI_nI, ok_s, ok_ck, ok_bn, ok_ob, ck_iI, bn_eq, ob_s, om_n, om_s, cb_bI, gI_g, gI_2, gJ_1, gJ_g, gJ_2, gR_1, gR_2, gR_g, within_v, in_v, bI_i0, bI_i1, iI_bI0, iI_bI1, bI_T, bI_F, f_X7_parse_l51b, f_X7_parse_b88, a3]
      · show f_X12_rules_l53b F (f_X12_rules_l53 F (fu' + 1)) G27 G28 G29 _ _ = _
        have l0 := l53_0 (F := F) (G27 := G27) (G28 := G28') (G29 := G29) (fu := fu') (iI 0)
        simp (disch := omega) only [reduceIte, Nat.reduceEqDiff, Nat.reduceAdd, Nat.reduceSub, Nat.reduceMul, Nat.reduceLT, Int.reduceNeg, Int.reduceAdd, Int.reduceSub, Int.reduceMul, Int.reduceLT, Int.reduceLE, Int.reduceEq, Int.reduceToNat, reduceCtorEq, and_self, and_true, true_and, false_and, and_false, or_false, false_or, or_true, true_or, true_implies, false_implies, implies_true, not_true_eq_false, not_false_eq_true, Int.toNat_natCast, Int.cast_ofNat_Int, eq_self, ne_eq, ite_true, ite_false, if_true, if_false, Int.add_sub_cancel, Int.sub_add_cancel, Int.add_zero, Int.zero_add, cast_s, iI_in, iI_lit, iI_le, iI_lt, iI_eq, iI_cl, iI_add, iI_sub, iI_mul, iI_neg, iI_nI, ok_s, ok_ck, ok_bn, ok_ob, ck_iI, bn_eq, ob_s, om_n, om_s, cb_bI, gI_g, gI_2, gJ_1, gJ_g, gJ_2, gR_1, gR_2, gR_g, within_v, in_v, bI_i0, bI_i1, iI_bI0, iI_bI1, bI_T, bI_F, f_X12_rules_l53b, f_X12_rules_b85, f_X12_rules_b86, a2, l0]
    · have b22 : G28'.1 91 22 = iI n := a7.2.2.2.2.1.1
      have p240 : p' ≤ 200 := by omega
      by_cases c : p' < n
      · have e1 : ¬ (n : Int) ≤ p' := by omega
        rw [if_pos c] at a5
        have nx := ih (r + 1) (by omega) (fu + 1) (fu' + 1) (by omega) (by omega) (p' + 1) G4' (gI G28' 91 21 (iI ((p' : Int) + 1))) S' cnt' _ _ _ (a7.le (by omega) (by omega) _) (by omega) a5 (by rw [gI_g, if_pos ⟨rfl, rfl⟩]; rfl) (by omega) (by rw [a8]; exact h11)
        have ec : f_X7_parse_l51 F (fu + 1 + 1) G3 G4 v (iI 1) (iI (r : Int)) = f_X7_parse_l51 F (fu + 1) G3 G4' v (iI 1) (iI ((r + 1 : Nat) : Int)) := by
          rw [a1 (fu + 1) r h12, if_pos c]; rfl
        have em : f_X12_rules_l53 F (fu' + 1 + 1) G27 G28 G29 (iI 1) (iI 1) = f_X12_rules_l53 F (fu' + 1) G27 (gI G28' 91 21 (iI ((p' : Int) + 1))) G29 (iI 1) (iI 1) := by
          show f_X12_rules_l53b F (f_X12_rules_l53 F (fu' + 1)) G27 G28 G29 _ _ = _
          simp (disch := omega) only [reduceIte, Nat.reduceEqDiff, Nat.reduceAdd, Nat.reduceSub, Nat.reduceMul, Nat.reduceLT, Int.reduceNeg, Int.reduceAdd, Int.reduceSub, Int.reduceMul, Int.reduceLT, Int.reduceLE, Int.reduceEq, Int.reduceToNat, reduceCtorEq, and_self, and_true, true_and, false_and, and_false, or_false, false_or, or_true, true_or, true_implies, false_implies, implies_true, not_true_eq_false, not_false_eq_true, Int.toNat_natCast, Int.cast_ofNat_Int, eq_self, ne_eq, ite_true, ite_false, if_true, if_false, Int.add_sub_cancel, Int.sub_add_cancel, Int.add_zero, Int.zero_add, cast_s, iI_in, iI_lit, iI_le, iI_lt, iI_eq, iI_cl, iI_add, iI_sub, iI_mul, iI_neg, iI_nI, ok_s, ok_ck, ok_bn, ok_ob, ck_iI, bn_eq, ob_s, om_n, om_s, cb_bI, gI_g, gI_2, gJ_1, gJ_g, gJ_2, gR_1, gR_2, gR_g, within_v, in_v, bI_i0, bI_i1, iI_bI0, iI_bI1, bI_T, bI_F, f_X12_rules_l53b, f_X12_rules_b85, f_X12_rules_b86, a2, a6, b22, e1]
        rw [ec, em]
        rcases nx with ⟨A, B, fl, x1, x2, x3, x4, x5⟩ | ⟨A, B, r', S2, c2, g2, t2, d2, x1, x2, x3, x4, x5⟩
        · exact Or.inl ⟨A, B, fl, x1, x2, x3, x4, x5.1.trans a9, fun x k hx => (x5.2 x k hx).trans (a10 x k hx)⟩
        · exact Or.inr ⟨A, B, r', S2, c2, g2, t2, d2, x1, x2, x3, x4, x5.1.trans a9, fun x k hx => (x5.2 x k hx).trans (a10 x k hx)⟩
      · have e1 : (n : Int) ≤ p' := by omega
        have ep : p' = n := by omega
        subst ep
        refine Or.inr ⟨G4', G28', r + 1, S', cnt', _, _, _, ?_, ?_, a7, by omega, a9, a10⟩
        · rw [a1 (fu + 1) r h12, if_neg c]
          show f_X7_parse_l51b F (f_X7_parse_l51 F fu) G3 G4' v _ _ = _
          simp (disch := omega) only [reduceIte, Nat.reduceEqDiff, Nat.reduceAdd, Nat.reduceSub, Nat.reduceMul, Nat.reduceLT, Int.reduceNeg, Int.reduceAdd, Int.reduceSub, Int.reduceMul, Int.reduceLT, Int.reduceLE, Int.reduceEq, Int.reduceToNat, reduceCtorEq, and_self, and_true, true_and, false_and, and_false, or_false, false_or, or_true, true_or, true_implies, false_implies, implies_true, not_true_eq_false, not_false_eq_true, Int.toNat_natCast, Int.cast_ofNat_Int, eq_self, ne_eq, ite_true, ite_false, if_true, if_false, Int.add_sub_cancel, Int.sub_add_cancel, Int.add_zero, Int.zero_add, cast_s, iI_in, iI_lit, iI_le, iI_lt, iI_eq, iI_cl, iI_add, iI_sub, iI_mul, iI_neg, iI_nI, ok_s, ok_ck, ok_bn, ok_ob, ck_iI, bn_eq, ob_s, om_n, om_s, cb_bI, gI_g, gI_2, gJ_1, gJ_g, gJ_2, gR_1, gR_2, gR_g, within_v, in_v, bI_i0, bI_i1, iI_bI0, iI_bI1, bI_T, bI_F, f_X7_parse_l51b, f_X7_parse_b88, a8, h11]
        · show f_X12_rules_l53b F (f_X12_rules_l53 F (fu' + 1)) G27 G28 G29 _ _ = _
          have l1 := l53_1 (F := F) (G27 := G27) (G28 := G28') (G29 := G29) (fu := fu')
          simp (disch := omega) only [reduceIte, Nat.reduceEqDiff, Nat.reduceAdd, Nat.reduceSub, Nat.reduceMul, Nat.reduceLT, Int.reduceNeg, Int.reduceAdd, Int.reduceSub, Int.reduceMul, Int.reduceLT, Int.reduceLE, Int.reduceEq, Int.reduceToNat, reduceCtorEq, and_self, and_true, true_and, false_and, and_false, or_false, false_or, or_true, true_or, true_implies, false_implies, implies_true, not_true_eq_false, not_false_eq_true, Int.toNat_natCast, Int.cast_ofNat_Int, eq_self, ne_eq, ite_true, ite_false, if_true, if_false, Int.add_sub_cancel, Int.sub_add_cancel, Int.add_zero, Int.zero_add, cast_s, iI_in, iI_lit, iI_le, iI_lt, iI_eq, iI_cl, iI_add, iI_sub, iI_mul, iI_neg, iI_nI, ok_s, ok_ck, ok_bn, ok_ob, ck_iI, bn_eq, ob_s, om_n, om_s, cb_bI, gI_g, gI_2, gJ_1, gJ_g, gJ_2, gR_1, gR_2, gR_g, within_v, in_v, bI_i0, bI_i1, iI_bI0, iI_bI1, bI_T, bI_F, f_X12_rules_l53b, f_X12_rules_b85, f_X12_rules_b86, a2, a6, b22, e1, l1]
/-- rows of the reference are copied -/
def cpR (G : Grp) (c i : Nat) (f : Nat → Int32) : Grp := (fun a k => if a = c ∧ k < i then f k else G.1 a k, G.2)
theorem cpR_0 {G : Grp} {c : Nat} {f : Nat → Int32} : cpR G c 0 f = G := by
  refine Prod.ext ?_ rfl
  funext a k
  show (if a = c ∧ k < 0 then f k else G.1 a k) = G.1 a k
  rw [if_neg fun z => absurd z.2 (Nat.not_lt_zero k)]
theorem cpR_s {G : Grp} {c i : Nat} {f : Nat → Int32} : gI (cpR G c i f) c i (f i) = cpR G c (i + 1) f := by
  refine Prod.ext ?_ rfl
  funext a k
  show (if a = c ∧ k = i then f i else if a = c ∧ k < i then f k else G.1 a k) = if a = c ∧ k < i + 1 then f k else G.1 a k
  by_cases e : a = c ∧ k = i
  · rw [if_pos e, if_pos ⟨e.1, by omega⟩, e.2]
  · rw [if_neg e]
    by_cases e2 : a = c ∧ k < i
    · rw [if_pos e2, if_pos ⟨e2.1, by omega⟩]
    · rw [if_neg e2, if_neg fun z => e2 ⟨z.1, by by_cases q : k = i; exact absurd ⟨z.1, q⟩ e; omega⟩]
theorem cpR_g (G : Grp) (c i : Nat) (f : Nat → Int32) (a k : Nat) : (cpR G c i f).1 a k = if a = c ∧ k < i then f k else G.1 a k := rfl
theorem cpR_c {G : Grp} {c d i k : Nat} {f : Nat → Int32} {x : Int32} (h : c ≠ d) : gI (cpR G c i f) d k x = cpR (gI G d k x) c i f := by
  refine Prod.ext ?_ rfl
  funext a j
  show (if a = d ∧ j = k then x else if a = c ∧ j < i then f j else G.1 a j) = if a = c ∧ j < i then f j else if a = d ∧ j = k then x else G.1 a j
  by_cases e : a = d ∧ j = k
  · rw [if_pos e, if_neg (fun z => h (z.1.symm.trans e.1)), if_pos e]
  · rw [if_neg e, if_neg e]
def cp4 (G G28 : Grp) (i : Nat) : Grp := cpR (cpR (cpR (cpR G 107 i (G28.1 111)) 108 i (G28.1 112)) 109 i (G28.1 113)) 110 i (G28.1 114)
theorem copy1 {cnt : Nat} (h : G29.1 91 37 = iI cnt) (hc : cnt ≤ 420) (hF : 200000 ≤ F) : f_X12_rules_l137 F F G27 G28 G29 (iI 0) = f_X12_rules_l211 F F G27 G28 (cp4 G29 G28 cnt) (iI 0) := by
  have key := up_ind (n := cnt) (Q := fun fu i => f_X12_rules_l137 F fu G27 G28 (cp4 G29 G28 i) (iI i) = f_X12_rules_l211 F F G27 G28 (cp4 G29 G28 cnt) (iI 0)) ?_ ?_
  · have k0 := key 0 F (by omega) (by omega)
    unfold cp4 at k0 ⊢
    rw [cpR_0, cpR_0, cpR_0, cpR_0] at k0
    exact k0
  · intro fu
    show f_X12_rules_l137b F (f_X12_rules_l137 F fu) G27 G28 _ _ = _
    have h' : (cp4 G29 G28 cnt).1 91 37 = iI cnt := h
    have e4 : (cnt : Int) ≤ cnt := by omega
    simp (disch := omega) only [reduceIte, Nat.reduceEqDiff, Nat.reduceAdd, Nat.reduceSub, Nat.reduceMul, Nat.reduceLT, Int.reduceNeg, Int.reduceAdd, Int.reduceSub, Int.reduceMul, Int.reduceLT, Int.reduceLE, Int.reduceEq, Int.reduceToNat, reduceCtorEq, and_self, and_true, true_and, false_and, and_false, or_false, false_or, or_true, true_or, true_implies, false_implies, implies_true, not_true_eq_false, not_false_eq_true, Int.toNat_natCast, Int.cast_ofNat_Int, eq_self, ne_eq, ite_true, ite_false, if_true, if_false, Int.add_sub_cancel, Int.sub_add_cancel, Int.add_zero, Int.zero_add, cast_s, iI_in, iI_lit, iI_le, iI_lt, iI_eq, iI_cl, iI_add, iI_sub, iI_mul, iI_neg, iI_nI, ok_s, ok_ck, ok_bn, ok_ob, ck_iI, bn_eq, ob_s, om_n, om_s, cb_bI, gI_g, gI_2, gJ_1, gJ_g, gJ_2, gR_1, gR_2, gR_g, within_v, in_v, bI_i0, bI_i1, iI_bI0, iI_bI1, bI_T, bI_F, f_X12_rules_l137b, h', e4]
  · intro i fu hi ih
    show f_X12_rules_l137b F (f_X12_rules_l137 F fu) G27 G28 _ _ = _
    have h' : (cp4 G29 G28 i).1 91 37 = iI cnt := h
    have e4 : ¬ (cnt : Int) ≤ i := by omega
    have es : gI (gI (gI (gI (cp4 G29 G28 i) 107 i (G28.1 111 i)) 108 i (G28.1 112 i)) 109 i (G28.1 113 i)) 110 i (G28.1 114 i) = cp4 G29 G28 (i + 1) := by
      unfold cp4
      rw [cpR_c (by omega), cpR_c (by omega), cpR_c (by omega), cpR_s, cpR_c (by omega), cpR_c (by omega), cpR_s, cpR_c (by omega), cpR_s, cpR_s]
    simp (disch := omega) only [reduceIte, Nat.reduceEqDiff, Nat.reduceAdd, Nat.reduceSub, Nat.reduceMul, Nat.reduceLT, Int.reduceNeg, Int.reduceAdd, Int.reduceSub, Int.reduceMul, Int.reduceLT, Int.reduceLE, Int.reduceEq, Int.reduceToNat, reduceCtorEq, and_self, and_true, true_and, false_and, and_false, or_false, false_or, or_true, true_or, true_implies, false_implies, implies_true, not_true_eq_false, not_false_eq_true, Int.toNat_natCast, Int.cast_ofNat_Int, eq_self, ne_eq, ite_true, ite_false, if_true, if_false, Int.add_sub_cancel, Int.sub_add_cancel, Int.add_zero, Int.zero_add, cast_s] at ih
    simp (disch := omega) only [reduceIte, Nat.reduceEqDiff, Nat.reduceAdd, Nat.reduceSub, Nat.reduceMul, Nat.reduceLT, Int.reduceNeg, Int.reduceAdd, Int.reduceSub, Int.reduceMul, Int.reduceLT, Int.reduceLE, Int.reduceEq, Int.reduceToNat, reduceCtorEq, and_self, and_true, true_and, false_and, and_false, or_false, false_or, or_true, true_or, true_implies, false_implies, implies_true, not_true_eq_false, not_false_eq_true, Int.toNat_natCast, Int.cast_ofNat_Int, eq_self, ne_eq, ite_true, ite_false, if_true, if_false, Int.add_sub_cancel, Int.sub_add_cancel, Int.add_zero, Int.zero_add, cast_s, iI_in, iI_lit, iI_le, iI_lt, iI_eq, iI_cl, iI_add, iI_sub, iI_mul, iI_neg, iI_nI, ok_s, ok_ck, ok_bn, ok_ob, ck_iI, bn_eq, ob_s, om_n, om_s, cb_bI, gI_g, gI_2, gJ_1, gJ_g, gJ_2, gR_1, gR_2, gR_g, within_v, in_v, bI_i0, bI_i1, iI_bI0, iI_bI1, bI_T, bI_F, f_X12_rules_l137b, h', e4, es]
    exact ih
def cp2 (G G28 : Grp) (i : Nat) : Grp := cpR (cpR G 115 i (G28.1 117)) 116 i (G28.1 118)
theorem copy2 {r : Nat} (h : G29.1 91 38 = iI r) (hc : r ≤ 12) (hF : 200000 ≤ F) : f_X12_rules_l211 F F G27 G28 G29 (iI 0) = some (iI 0, G27, G28, cp2 G29 G28 r) := by
  have key := up_ind (n := r) (Q := fun fu i => f_X12_rules_l211 F fu G27 G28 (cp2 G29 G28 i) (iI i) = some (iI 0, G27, G28, cp2 G29 G28 r)) ?_ ?_
  · have k0 := key 0 F (by omega) (by omega)
    unfold cp2 at k0 ⊢
    rw [cpR_0, cpR_0] at k0
    exact k0
  · intro fu
    show f_X12_rules_l211b F (f_X12_rules_l211 F fu) G27 G28 _ _ = _
    have h' : (cp2 G29 G28 r).1 91 38 = iI r := h
    have e4 : (r : Int) ≤ r := by omega
    simp (disch := omega) only [reduceIte, Nat.reduceEqDiff, Nat.reduceAdd, Nat.reduceSub, Nat.reduceMul, Nat.reduceLT, Int.reduceNeg, Int.reduceAdd, Int.reduceSub, Int.reduceMul, Int.reduceLT, Int.reduceLE, Int.reduceEq, Int.reduceToNat, reduceCtorEq, and_self, and_true, true_and, false_and, and_false, or_false, false_or, or_true, true_or, true_implies, false_implies, implies_true, not_true_eq_false, not_false_eq_true, Int.toNat_natCast, Int.cast_ofNat_Int, eq_self, ne_eq, ite_true, ite_false, if_true, if_false, Int.add_sub_cancel, Int.sub_add_cancel, Int.add_zero, Int.zero_add, cast_s, iI_in, iI_lit, iI_le, iI_lt, iI_eq, iI_cl, iI_add, iI_sub, iI_mul, iI_neg, iI_nI, ok_s, ok_ck, ok_bn, ok_ob, ck_iI, bn_eq, ob_s, om_n, om_s, cb_bI, gI_g, gI_2, gJ_1, gJ_g, gJ_2, gR_1, gR_2, gR_g, within_v, in_v, bI_i0, bI_i1, iI_bI0, iI_bI1, bI_T, bI_F, f_X12_rules_l211b, h', e4]
  · intro i fu hi ih
    show f_X12_rules_l211b F (f_X12_rules_l211 F fu) G27 G28 _ _ = _
    have h' : (cp2 G29 G28 i).1 91 38 = iI r := h
    have e4 : ¬ (r : Int) ≤ i := by omega
    have es : gI (gI (cp2 G29 G28 i) 115 i (G28.1 117 i)) 116 i (G28.1 118 i) = cp2 G29 G28 (i + 1) := by
      unfold cp2
      rw [cpR_c (by omega), cpR_s, cpR_s]
    simp (disch := omega) only [reduceIte, Nat.reduceEqDiff, Nat.reduceAdd, Nat.reduceSub, Nat.reduceMul, Nat.reduceLT, Int.reduceNeg, Int.reduceAdd, Int.reduceSub, Int.reduceMul, Int.reduceLT, Int.reduceLE, Int.reduceEq, Int.reduceToNat, reduceCtorEq, and_self, and_true, true_and, false_and, and_false, or_false, false_or, or_true, true_or, true_implies, false_implies, implies_true, not_true_eq_false, not_false_eq_true, Int.toNat_natCast, Int.cast_ofNat_Int, eq_self, ne_eq, ite_true, ite_false, if_true, if_false, Int.add_sub_cancel, Int.sub_add_cancel, Int.add_zero, Int.zero_add, cast_s] at ih
    simp (disch := omega) only [reduceIte, Nat.reduceEqDiff, Nat.reduceAdd, Nat.reduceSub, Nat.reduceMul, Nat.reduceLT, Int.reduceNeg, Int.reduceAdd, Int.reduceSub, Int.reduceMul, Int.reduceLT, Int.reduceLE, Int.reduceEq, Int.reduceToNat, reduceCtorEq, and_self, and_true, true_and, false_and, and_false, or_false, false_or, or_true, true_or, true_implies, false_implies, implies_true, not_true_eq_false, not_false_eq_true, Int.toNat_natCast, Int.cast_ofNat_Int, eq_self, ne_eq, ite_true, ite_false, if_true, if_false, Int.add_sub_cancel, Int.sub_add_cancel, Int.add_zero, Int.zero_add, cast_s, iI_in, iI_lit, iI_le, iI_lt, iI_eq, iI_cl, iI_add, iI_sub, iI_mul, iI_neg, iI_nI, ok_s, ok_ck, ok_bn, ok_ob, ck_iI, bn_eq, ob_s, om_n, om_s, cb_bI, gI_g, gI_2, gJ_1, gJ_g, gJ_2, gR_1, gR_2, gR_g, within_v, in_v, bI_i0, bI_i1, iI_bI0, iI_bI1, bI_T, bI_F, f_X12_rules_l211b, h', e4, es]
    exact ih
end PR
