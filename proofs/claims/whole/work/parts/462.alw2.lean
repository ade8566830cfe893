theorem va1 {v a b : Nat} (h : a ≠ b) : (v + a = v + b) = False := eq_false (by omega)
theorem va2 {v b : Nat} (h : b ≠ 0) : (v = v + b) = False := eq_false (by omega)
theorem va3 {v b : Nat} (h : b ≠ 0) : (v + b = v) = False := eq_false (by omega)
/-- the rows of a search, its rooms and points -/
def AL (G : Grp) (v R : Nat) (Mx : Int) (RM : Nat → Nat) (P : Nat → Nat → Int) : Prop :=
  G.1 v 2 = iI R ∧ G.1 v 5 = iI Mx ∧ (∀ c, c < 6 → G.1 (v + 1) c = iI (RM c)) ∧ ∀ i c, i < 6 → c < 6 → G.1 (v + 3) (6 * i + c) = iI (P i c)
def BS (G : Grp) (v R : Nat) (bg bp : Int) (b : Wy) : Prop := G.1 v 6 = iI bg ∧ G.1 v 7 = iI bp ∧ ∀ i, i < R → G.1 (v + 2) i = iI (b i)
def OT (v : Nat) (G G' : Grp) : Prop := G'.2 = G.2 ∧ ∀ x k, (x < v ∨ v + 4 < x) → G'.1 x k = G.1 x k
theorem OT.tr {v : Nat} {G G1 G2 : Grp} (h : OT v G G1) (h2 : OT v G1 G2) : OT v G G2 := ⟨h2.1.trans h.1, fun x k hx => (h2.2 x k hx).trans (h.2 x k hx)⟩
theorem OT.set {v : Nat} (G : Grp) {a : Nat} (k : Nat) (x : Int32) (h1 : v ≤ a) (h2 : a ≤ v + 4) : OT v G (gI G a k x) := ⟨rfl, fun y j hy => by
  show (if y = a ∧ j = k then x else G.1 y j) = G.1 y j
  rw [if_neg (by omega)]⟩
theorem mulb {k : Nat} {m : Int} (h1 : k ≤ 6) (h2 : 0 ≤ m) (h3 : m ≤ 10) : 0 ≤ (k : Int) * m ∧ (k : Int) * m ≤ 60 := by
  have := int_mm (a := (k : Int)) (b := m) (c := 10) (by omega) h2 h3
  omega
section PR
variable {F v R : Nat} {Mx : Int} {P : Nat → Nat → Int}
theorem keep_c {G : Grp} {gv sm : Int} {way : Wy} (hR : R ≤ 6) (h2 : G.1 v 2 = iI R) (hw : ∀ i, i < R → G.1 (v + 4) i = iI (way i)) : ∃ G', f_X0_keepWay F G v (iI gv) (iI sm) = some G' ∧ BS G' v R gv sm way ∧ OT v G G' ∧ (∀ k, k ≠ 6 → k ≠ 7 → G'.1 v k = G.1 v k) ∧ (∀ x k, (x = v + 1 ∨ x = v + 3 ∨ x = v + 4) → G'.1 x k = G.1 x k) := by
  refine ⟨gC (gI (gI G v 6 (iI gv)) v 7 (iI sm)) (v + 2) (va_cpy ((gI (gI G v 6 (iI gv)) v 7 (iI sm)).1 (v + 4)) ((gI (gI G v 6 (iI gv)) v 7 (iI sm)).1 (v + 2)) 0 0 R), ?_, ⟨?_, ?_, fun i hi => ?_⟩, ⟨rfl, fun x k hx => ?_⟩, fun k k1 k2 => ?_, fun x k hx => ?_⟩
  · have e1 : (gI (gI G v 6 (iI gv)) v 7 (iI sm)).1 v 2 = iI R := by
      simp (disch := omega) only [reduceIte, Nat.reduceEqDiff, Nat.reduceAdd, Nat.reduceSub, Nat.reduceMul, Nat.reduceLT, Int.reduceNeg, Int.reduceAdd, Int.reduceSub, Int.reduceMul, Int.reduceLT, Int.reduceLE, Int.reduceEq, Int.reduceToNat, reduceCtorEq, and_self, and_true, true_and, false_and, and_false, or_false, false_or, or_true, true_or, true_implies, false_implies, implies_true, not_true_eq_false, not_false_eq_true, Int.toNat_natCast, Int.cast_ofNat_Int, eq_self, ne_eq, ite_true, ite_false, if_true, if_false, Int.add_sub_cancel, Int.sub_add_cancel, Int.add_zero, Int.zero_add, cast_s, iI_in, iI_lit, iI_le, iI_lt, iI_eq, iI_cl, iI_add, iI_sub, iI_mul, iI_neg, iI_nI, ok_s, ok_ck, ok_bn, ok_ob, ck_iI, bn_eq, ob_s, om_n, om_s, cb_bI, gI_g, gI_2, gJ_1, gJ_g, gJ_2, gR_1, gR_2, gR_g, within_v, in_v, bI_i0, bI_i1, iI_bI0, iI_bI1, bI_T, bI_F, h2]
    have e2 : ((0 : Int32).toNatClampNeg) = 0 := by decide
    have e3 : (iI (R : Int)).toNatClampNeg = R := by rw [iI_cl (by omega) (by omega)]; omega
    unfold f_X0_keepWay
    simp only [bn_eq, e1, e3, e2]
    unfold cy
    rw [if_neg]
    rw [e2, e3, iI_lit, iI_lt (by omega) (by omega) (by omega) (by omega), iI_lt (by omega) (by omega) (by omega) (by omega)]
    omega
  · show (if v = v + 2 then _ else _) = _
    rw [if_neg (by omega)]
    simp (disch := omega) only [reduceIte, Nat.reduceEqDiff, Nat.reduceAdd, Nat.reduceSub, Nat.reduceMul, Nat.reduceLT, Int.reduceNeg, Int.reduceAdd, Int.reduceSub, Int.reduceMul, Int.reduceLT, Int.reduceLE, Int.reduceEq, Int.reduceToNat, reduceCtorEq, and_self, and_true, true_and, false_and, and_false, or_false, false_or, or_true, true_or, true_implies, false_implies, implies_true, not_true_eq_false, not_false_eq_true, Int.toNat_natCast, Int.cast_ofNat_Int, eq_self, ne_eq, ite_true, ite_false, if_true, if_false, Int.add_sub_cancel, Int.sub_add_cancel, Int.add_zero, Int.zero_add, cast_s, iI_in, iI_lit, iI_le, iI_lt, iI_eq, iI_cl, iI_add, iI_sub, iI_mul, iI_neg, iI_nI, ok_s, ok_ck, ok_bn, ok_ob, ck_iI, bn_eq, ob_s, om_n, om_s, cb_bI, gI_g, gI_2, gJ_1, gJ_g, gJ_2, gR_1, gR_2, gR_g, within_v, in_v, bI_i0, bI_i1, iI_bI0, iI_bI1, bI_T, bI_F]
  · show (if v = v + 2 then _ else _) = _
    rw [if_neg (by omega)]
    simp (disch := omega) only [reduceIte, Nat.reduceEqDiff, Nat.reduceAdd, Nat.reduceSub, Nat.reduceMul, Nat.reduceLT, Int.reduceNeg, Int.reduceAdd, Int.reduceSub, Int.reduceMul, Int.reduceLT, Int.reduceLE, Int.reduceEq, Int.reduceToNat, reduceCtorEq, and_self, and_true, true_and, false_and, and_false, or_false, false_or, or_true, true_or, true_implies, false_implies, implies_true, not_true_eq_false, not_false_eq_true, Int.toNat_natCast, Int.cast_ofNat_Int, eq_self, ne_eq, ite_true, ite_false, if_true, if_false, Int.add_sub_cancel, Int.sub_add_cancel, Int.add_zero, Int.zero_add, cast_s, iI_in, iI_lit, iI_le, iI_lt, iI_eq, iI_cl, iI_add, iI_sub, iI_mul, iI_neg, iI_nI, ok_s, ok_ck, ok_bn, ok_ob, ck_iI, bn_eq, ob_s, om_n, om_s, cb_bI, gI_g, gI_2, gJ_1, gJ_g, gJ_2, gR_1, gR_2, gR_g, within_v, in_v, bI_i0, bI_i1, iI_bI0, iI_bI1, bI_T, bI_F]
  · show (if v + 2 = v + 2 then va_cpy _ _ 0 0 R i else _) = _
    rw [if_pos rfl]
    show (if 0 ≤ i ∧ i < 0 + R then (gI (gI G v 6 (iI gv)) v 7 (iI sm)).1 (v + 4) (0 + (i - 0)) else _) = _
    rw [if_pos (by omega), show 0 + (i - 0) = i by omega]
    simp (disch := omega) only [reduceIte, Nat.reduceEqDiff, Nat.reduceAdd, Nat.reduceSub, Nat.reduceMul, Nat.reduceLT, Int.reduceNeg, Int.reduceAdd, Int.reduceSub, Int.reduceMul, Int.reduceLT, Int.reduceLE, Int.reduceEq, Int.reduceToNat, reduceCtorEq, and_self, and_true, true_and, false_and, and_false, or_false, false_or, or_true, true_or, true_implies, false_implies, implies_true, not_true_eq_false, not_false_eq_true, Int.toNat_natCast, Int.cast_ofNat_Int, eq_self, ne_eq, ite_true, ite_false, if_true, if_false, Int.add_sub_cancel, Int.sub_add_cancel, Int.add_zero, Int.zero_add, cast_s, iI_in, iI_lit, iI_le, iI_lt, iI_eq, iI_cl, iI_add, iI_sub, iI_mul, iI_neg, iI_nI, ok_s, ok_ck, ok_bn, ok_ob, ck_iI, bn_eq, ob_s, om_n, om_s, cb_bI, gI_g, gI_2, gJ_1, gJ_g, gJ_2, gR_1, gR_2, gR_g, within_v, in_v, bI_i0, bI_i1, iI_bI0, iI_bI1, bI_T, bI_F, va3]
    exact hw i hi
  · show (if x = v + 2 then _ else _) = _
    rw [if_neg (by omega)]
    have : ¬ x = v := by omega
    simp (disch := omega) only [reduceIte, Nat.reduceEqDiff, Nat.reduceAdd, Nat.reduceSub, Nat.reduceMul, Nat.reduceLT, Int.reduceNeg, Int.reduceAdd, Int.reduceSub, Int.reduceMul, Int.reduceLT, Int.reduceLE, Int.reduceEq, Int.reduceToNat, reduceCtorEq, and_self, and_true, true_and, false_and, and_false, or_false, false_or, or_true, true_or, true_implies, false_implies, implies_true, not_true_eq_false, not_false_eq_true, Int.toNat_natCast, Int.cast_ofNat_Int, eq_self, ne_eq, ite_true, ite_false, if_true, if_false, Int.add_sub_cancel, Int.sub_add_cancel, Int.add_zero, Int.zero_add, cast_s, iI_in, iI_lit, iI_le, iI_lt, iI_eq, iI_cl, iI_add, iI_sub, iI_mul, iI_neg, iI_nI, ok_s, ok_ck, ok_bn, ok_ob, ck_iI, bn_eq, ob_s, om_n, om_s, cb_bI, gI_g, gI_2, gJ_1, gJ_g, gJ_2, gR_1, gR_2, gR_g, within_v, in_v, bI_i0, bI_i1, iI_bI0, iI_bI1, bI_T, bI_F, this]
  · show (if v = v + 2 then _ else _) = _
    rw [if_neg (by omega)]
    simp (disch := omega) only [reduceIte, Nat.reduceEqDiff, Nat.reduceAdd, Nat.reduceSub, Nat.reduceMul, Nat.reduceLT, Int.reduceNeg, Int.reduceAdd, Int.reduceSub, Int.reduceMul, Int.reduceLT, Int.reduceLE, Int.reduceEq, Int.reduceToNat, reduceCtorEq, and_self, and_true, true_and, false_and, and_false, or_false, false_or, or_true, true_or, true_implies, false_implies, implies_true, not_true_eq_false, not_false_eq_true, Int.toNat_natCast, Int.cast_ofNat_Int, eq_self, ne_eq, ite_true, ite_false, if_true, if_false, Int.add_sub_cancel, Int.sub_add_cancel, Int.add_zero, Int.zero_add, cast_s, iI_in, iI_lit, iI_le, iI_lt, iI_eq, iI_cl, iI_add, iI_sub, iI_mul, iI_neg, iI_nI, ok_s, ok_ck, ok_bn, ok_ob, ck_iI, bn_eq, ob_s, om_n, om_s, cb_bI, gI_g, gI_2, gJ_1, gJ_g, gJ_2, gR_1, gR_2, gR_g, within_v, in_v, bI_i0, bI_i1, iI_bI0, iI_bI1, bI_T, bI_F, k1, k2]
  · show (if x = v + 2 then _ else _) = _
    rw [if_neg (by omega)]
    have : ¬ x = v := by omega
    simp (disch := omega) only [reduceIte, Nat.reduceEqDiff, Nat.reduceAdd, Nat.reduceSub, Nat.reduceMul, Nat.reduceLT, Int.reduceNeg, Int.reduceAdd, Int.reduceSub, Int.reduceMul, Int.reduceLT, Int.reduceLE, Int.reduceEq, Int.reduceToNat, reduceCtorEq, and_self, and_true, true_and, false_and, and_false, or_false, false_or, or_true, true_or, true_implies, false_implies, implies_true, not_true_eq_false, not_false_eq_true, Int.toNat_natCast, Int.cast_ofNat_Int, eq_self, ne_eq, ite_true, ite_false, if_true, if_false, Int.add_sub_cancel, Int.sub_add_cancel, Int.add_zero, Int.zero_add, cast_s, iI_in, iI_lit, iI_le, iI_lt, iI_eq, iI_cl, iI_add, iI_sub, iI_mul, iI_neg, iI_nI, ok_s, ok_ck, ok_bn, ok_ob, ck_iI, bn_eq, ob_s, om_n, om_s, cb_bI, gI_g, gI_2, gJ_1, gJ_g, gJ_2, gR_1, gR_2, gR_g, within_v, in_v, bI_i0, bI_i1, iI_bI0, iI_bI1, bI_T, bI_F, this]
abbrev alP (P : Nat → Nat → Int) (i c : Nat) : Prop := ¬ P i c = -1
/-- what a search leaves -/
def DFS (v R : Nat) (Mx : Int) (P : Nat → Nat → Int) (W : Wy → Prop) (g p : Wy → Int) (way : Wy) (a : Nat) (RM : Nat → Nat) (bg bp : Int) (b : Wy) (G G' : Grp) : Prop :=
  ∃ bg' bp' b', AL G' v R Mx RM P ∧ (∀ i, i < a → G'.1 (v + 4) i = iI (way i)) ∧ BS G' v R bg' bp' b' ∧ (-1 ≤ bg' ∧ bg' ≤ 6 ∧ -1 ≤ bp' ∧ bp' ≤ 60) ∧ SP R W g p bg bp b bg' bp' b' ∧ OT v G G'
theorem AL.way {G : Grp} {RM : Nat → Nat} (h : AL G v R Mx RM P) (k : Nat) (x : Int32) : AL (gI G (v + 4) k x) v R Mx RM P := by
  obtain ⟨h1, h2, h3, h4⟩ := h
  refine ⟨?_, ?_, fun c hc => ?_, fun i c hi hc => ?_⟩
  · simp (disch := omega) only [reduceIte, Nat.reduceEqDiff, Nat.reduceAdd, Nat.reduceSub, Nat.reduceMul, Nat.reduceLT, Int.reduceNeg, Int.reduceAdd, Int.reduceSub, Int.reduceMul, Int.reduceLT, Int.reduceLE, Int.reduceEq, Int.reduceToNat, reduceCtorEq, and_self, and_true, true_and, false_and, and_false, or_false, false_or, or_true, true_or, true_implies, false_implies, implies_true, not_true_eq_false, not_false_eq_true, Int.toNat_natCast, Int.cast_ofNat_Int, eq_self, ne_eq, ite_true, ite_false, if_true, if_false, Int.add_sub_cancel, Int.sub_add_cancel, Int.add_zero, Int.zero_add, cast_s, iI_in, iI_lit, iI_le, iI_lt, iI_eq, iI_cl, iI_add, iI_sub, iI_mul, iI_neg, iI_nI, ok_s, ok_ck, ok_bn, ok_ob, ck_iI, bn_eq, ob_s, om_n, om_s, cb_bI, gI_g, gI_2, gJ_1, gJ_g, gJ_2, gR_1, gR_2, gR_g, within_v, in_v, bI_i0, bI_i1, iI_bI0, iI_bI1, bI_T, bI_F, va2, h1]
  · simp (disch := omega) only [reduceIte, Nat.reduceEqDiff, Nat.reduceAdd, Nat.reduceSub, Nat.reduceMul, Nat.reduceLT, Int.reduceNeg, Int.reduceAdd, Int.reduceSub, Int.reduceMul, Int.reduceLT, Int.reduceLE, Int.reduceEq, Int.reduceToNat, reduceCtorEq, and_self, and_true, true_and, false_and, and_false, or_false, false_or, or_true, true_or, true_implies, false_implies, implies_true, not_true_eq_false, not_false_eq_true, Int.toNat_natCast, Int.cast_ofNat_Int, eq_self, ne_eq, ite_true, ite_false, if_true, if_false, Int.add_sub_cancel, Int.sub_add_cancel, Int.add_zero, Int.zero_add, cast_s, iI_in, iI_lit, iI_le, iI_lt, iI_eq, iI_cl, iI_add, iI_sub, iI_mul, iI_neg, iI_nI, ok_s, ok_ck, ok_bn, ok_ob, ck_iI, bn_eq, ob_s, om_n, om_s, cb_bI, gI_g, gI_2, gJ_1, gJ_g, gJ_2, gR_1, gR_2, gR_g, within_v, in_v, bI_i0, bI_i1, iI_bI0, iI_bI1, bI_T, bI_F, va2, h2]
  · simp (disch := omega) only [reduceIte, Nat.reduceEqDiff, Nat.reduceAdd, Nat.reduceSub, Nat.reduceMul, Nat.reduceLT, Int.reduceNeg, Int.reduceAdd, Int.reduceSub, Int.reduceMul, Int.reduceLT, Int.reduceLE, Int.reduceEq, Int.reduceToNat, reduceCtorEq, and_self, and_true, true_and, false_and, and_false, or_false, false_or, or_true, true_or, true_implies, false_implies, implies_true, not_true_eq_false, not_false_eq_true, Int.toNat_natCast, Int.cast_ofNat_Int, eq_self, ne_eq, ite_true, ite_false, if_true, if_false, Int.add_sub_cancel, Int.sub_add_cancel, Int.add_zero, Int.zero_add, cast_s, iI_in, iI_lit, iI_le, iI_lt, iI_eq, iI_cl, iI_add, iI_sub, iI_mul, iI_neg, iI_nI, ok_s, ok_ck, ok_bn, ok_ob, ck_iI, bn_eq, ob_s, om_n, om_s, cb_bI, gI_g, gI_2, gJ_1, gJ_g, gJ_2, gR_1, gR_2, gR_g, within_v, in_v, bI_i0, bI_i1, iI_bI0, iI_bI1, bI_T, bI_F, va1, h3 c hc]
  · simp (disch := omega) only [reduceIte, Nat.reduceEqDiff, Nat.reduceAdd, Nat.reduceSub, Nat.reduceMul, Nat.reduceLT, Int.reduceNeg, Int.reduceAdd, Int.reduceSub, Int.reduceMul, Int.reduceLT, Int.reduceLE, Int.reduceEq, Int.reduceToNat, reduceCtorEq, and_self, and_true, true_and, false_and, and_false, or_false, false_or, or_true, true_or, true_implies, false_implies, implies_true, not_true_eq_false, not_false_eq_true, Int.toNat_natCast, Int.cast_ofNat_Int, eq_self, ne_eq, ite_true, ite_false, if_true, if_false, Int.add_sub_cancel, Int.sub_add_cancel, Int.add_zero, Int.zero_add, cast_s, iI_in, iI_lit, iI_le, iI_lt, iI_eq, iI_cl, iI_add, iI_sub, iI_mul, iI_neg, iI_nI, ok_s, ok_ck, ok_bn, ok_ob, ck_iI, bn_eq, ob_s, om_n, om_s, cb_bI, gI_g, gI_2, gJ_1, gJ_g, gJ_2, gR_1, gR_2, gR_g, within_v, in_v, bI_i0, bI_i1, iI_bI0, iI_bI1, bI_T, bI_F, va1, h4 i c hi hc]
theorem AL.room {G : Grp} {RM : Nat → Nat} (h : AL G v R Mx RM P) {c : Nat} (x : Nat) : AL (gI G (v + 1) c (iI x)) v R Mx (fun y => if y = c then x else RM y) P := by
  obtain ⟨h1, h2, h3, h4⟩ := h
  refine ⟨?_, ?_, fun y hy => ?_, fun i d hi hd => ?_⟩
  · simp (disch := omega) only [reduceIte, Nat.reduceEqDiff, Nat.reduceAdd, Nat.reduceSub, Nat.reduceMul, Nat.reduceLT, Int.reduceNeg, Int.reduceAdd, Int.reduceSub, Int.reduceMul, Int.reduceLT, Int.reduceLE, Int.reduceEq, Int.reduceToNat, reduceCtorEq, and_self, and_true, true_and, false_and, and_false, or_false, false_or, or_true, true_or, true_implies, false_implies, implies_true, not_true_eq_false, not_false_eq_true, Int.toNat_natCast, Int.cast_ofNat_Int, eq_self, ne_eq, ite_true, ite_false, if_true, if_false, Int.add_sub_cancel, Int.sub_add_cancel, Int.add_zero, Int.zero_add, cast_s, iI_in, iI_lit, iI_le, iI_lt, iI_eq, iI_cl, iI_add, iI_sub, iI_mul, iI_neg, iI_nI, ok_s, ok_ck, ok_bn, ok_ob, ck_iI, bn_eq, ob_s, om_n, om_s, cb_bI, gI_g, gI_2, gJ_1, gJ_g, gJ_2, gR_1, gR_2, gR_g, within_v, in_v, bI_i0, bI_i1, iI_bI0, iI_bI1, bI_T, bI_F, va2, h1]
  · simp (disch := omega) only [reduceIte, Nat.reduceEqDiff, Nat.reduceAdd, Nat.reduceSub, Nat.reduceMul, Nat.reduceLT, Int.reduceNeg, Int.reduceAdd, Int.reduceSub, Int.reduceMul, Int.reduceLT, Int.reduceLE, Int.reduceEq, Int.reduceToNat, reduceCtorEq, and_self, and_true, true_and, false_and, and_false, or_false, false_or, or_true, true_or, true_implies, false_implies, implies_true, not_true_eq_false, not_false_eq_true, Int.toNat_natCast, Int.cast_ofNat_Int, eq_self, ne_eq, ite_true, ite_false, if_true, if_false, Int.add_sub_cancel, Int.sub_add_cancel, Int.add_zero, Int.zero_add, cast_s, iI_in, iI_lit, iI_le, iI_lt, iI_eq, iI_cl, iI_add, iI_sub, iI_mul, iI_neg, iI_nI, ok_s, ok_ck, ok_bn, ok_ob, ck_iI, bn_eq, ob_s, om_n, om_s, cb_bI, gI_g, gI_2, gJ_1, gJ_g, gJ_2, gR_1, gR_2, gR_g, within_v, in_v, bI_i0, bI_i1, iI_bI0, iI_bI1, bI_T, bI_F, va2, h2]
  · by_cases e : y = c
    · simp (disch := omega) only [reduceIte, Nat.reduceEqDiff, Nat.reduceAdd, Nat.reduceSub, Nat.reduceMul, Nat.reduceLT, Int.reduceNeg, Int.reduceAdd, Int.reduceSub, Int.reduceMul, Int.reduceLT, Int.reduceLE, Int.reduceEq, Int.reduceToNat, reduceCtorEq, and_self, and_true, true_and, false_and, and_false, or_false, false_or, or_true, true_or, true_implies, false_implies, implies_true, not_true_eq_false, not_false_eq_true, Int.toNat_natCast, Int.cast_ofNat_Int, eq_self, ne_eq, ite_true, ite_false, if_true, if_false, Int.add_sub_cancel, Int.sub_add_cancel, Int.add_zero, Int.zero_add, cast_s, iI_in, iI_lit, iI_le, iI_lt, iI_eq, iI_cl, iI_add, iI_sub, iI_mul, iI_neg, iI_nI, ok_s, ok_ck, ok_bn, ok_ob, ck_iI, bn_eq, ob_s, om_n, om_s, cb_bI, gI_g, gI_2, gJ_1, gJ_g, gJ_2, gR_1, gR_2, gR_g, within_v, in_v, bI_i0, bI_i1, iI_bI0, iI_bI1, bI_T, bI_F, e]
    · simp (disch := omega) only [reduceIte, Nat.reduceEqDiff, Nat.reduceAdd, Nat.reduceSub, Nat.reduceMul, Nat.reduceLT, Int.reduceNeg, Int.reduceAdd, Int.reduceSub, Int.reduceMul, Int.reduceLT, Int.reduceLE, Int.reduceEq, Int.reduceToNat, reduceCtorEq, and_self, and_true, true_and, false_and, and_false, or_false, false_or, or_true, true_or, true_implies, false_implies, implies_true, not_true_eq_false, not_false_eq_true, Int.toNat_natCast, Int.cast_ofNat_Int, eq_self, ne_eq, ite_true, ite_false, if_true, if_false, Int.add_sub_cancel, Int.sub_add_cancel, Int.add_zero, Int.zero_add, cast_s, iI_in, iI_lit, iI_le, iI_lt, iI_eq, iI_cl, iI_add, iI_sub, iI_mul, iI_neg, iI_nI, ok_s, ok_ck, ok_bn, ok_ob, ck_iI, bn_eq, ob_s, om_n, om_s, cb_bI, gI_g, gI_2, gJ_1, gJ_g, gJ_2, gR_1, gR_2, gR_g, within_v, in_v, bI_i0, bI_i1, iI_bI0, iI_bI1, bI_T, bI_F, e, h3 y hy]
  · simp (disch := omega) only [reduceIte, Nat.reduceEqDiff, Nat.reduceAdd, Nat.reduceSub, Nat.reduceMul, Nat.reduceLT, Int.reduceNeg, Int.reduceAdd, Int.reduceSub, Int.reduceMul, Int.reduceLT, Int.reduceLE, Int.reduceEq, Int.reduceToNat, reduceCtorEq, and_self, and_true, true_and, false_and, and_false, or_false, false_or, or_true, true_or, true_implies, false_implies, implies_true, not_true_eq_false, not_false_eq_true, Int.toNat_natCast, Int.cast_ofNat_Int, eq_self, ne_eq, ite_true, ite_false, if_true, if_false, Int.add_sub_cancel, Int.sub_add_cancel, Int.add_zero, Int.zero_add, cast_s, iI_in, iI_lit, iI_le, iI_lt, iI_eq, iI_cl, iI_add, iI_sub, iI_mul, iI_neg, iI_nI, ok_s, ok_ck, ok_bn, ok_ob, ck_iI, bn_eq, ob_s, om_n, om_s, cb_bI, gI_g, gI_2, gJ_1, gJ_g, gJ_2, gR_1, gR_2, gR_g, within_v, in_v, bI_i0, bI_i1, iI_bI0, iI_bI1, bI_T, bI_F, va1, h4 i d hi hd]
theorem BS.set {G : Grp} {bg bp : Int} {b : Wy} (h : BS G v R bg bp b) {a : Nat} (k : Nat) (x : Int32) (ha : a = 1 ∨ a = 4) : BS (gI G (v + a) k x) v R bg bp b := by
  obtain ⟨h1, h2, h3⟩ := h
  have n1 : ¬ a = 0 := by omega
  have n2 : ¬ 2 = a := by omega
  refine ⟨?_, ?_, fun i hi => ?_⟩
  · simp (disch := omega) only [reduceIte, Nat.reduceEqDiff, Nat.reduceAdd, Nat.reduceSub, Nat.reduceMul, Nat.reduceLT, Int.reduceNeg, Int.reduceAdd, Int.reduceSub, Int.reduceMul, Int.reduceLT, Int.reduceLE, Int.reduceEq, Int.reduceToNat, reduceCtorEq, and_self, and_true, true_and, false_and, and_false, or_false, false_or, or_true, true_or, true_implies, false_implies, implies_true, not_true_eq_false, not_false_eq_true, Int.toNat_natCast, Int.cast_ofNat_Int, eq_self, ne_eq, ite_true, ite_false, if_true, if_false, Int.add_sub_cancel, Int.sub_add_cancel, Int.add_zero, Int.zero_add, cast_s, iI_in, iI_lit, iI_le, iI_lt, iI_eq, iI_cl, iI_add, iI_sub, iI_mul, iI_neg, iI_nI, ok_s, ok_ck, ok_bn, ok_ob, ck_iI, bn_eq, ob_s, om_n, om_s, cb_bI, gI_g, gI_2, gJ_1, gJ_g, gJ_2, gR_1, gR_2, gR_g, within_v, in_v, bI_i0, bI_i1, iI_bI0, iI_bI1, bI_T, bI_F, va2, h1]
  · simp (disch := omega) only [reduceIte, Nat.reduceEqDiff, Nat.reduceAdd, Nat.reduceSub, Nat.reduceMul, Nat.reduceLT, Int.reduceNeg, Int.reduceAdd, Int.reduceSub, Int.reduceMul, Int.reduceLT, Int.reduceLE, Int.reduceEq, Int.reduceToNat, reduceCtorEq, and_self, and_true, true_and, false_and, and_false, or_false, false_or, or_true, true_or, true_implies, false_implies, implies_true, not_true_eq_false, not_false_eq_true, Int.toNat_natCast, Int.cast_ofNat_Int, eq_self, ne_eq, ite_true, ite_false, if_true, if_false, Int.add_sub_cancel, Int.sub_add_cancel, Int.add_zero, Int.zero_add, cast_s, iI_in, iI_lit, iI_le, iI_lt, iI_eq, iI_cl, iI_add, iI_sub, iI_mul, iI_neg, iI_nI, ok_s, ok_ck, ok_bn, ok_ob, ck_iI, bn_eq, ob_s, om_n, om_s, cb_bI, gI_g, gI_2, gJ_1, gJ_g, gJ_2, gR_1, gR_2, gR_g, within_v, in_v, bI_i0, bI_i1, iI_bI0, iI_bI1, bI_T, bI_F, va2, h2]
  · simp (disch := omega) only [reduceIte, Nat.reduceEqDiff, Nat.reduceAdd, Nat.reduceSub, Nat.reduceMul, Nat.reduceLT, Int.reduceNeg, Int.reduceAdd, Int.reduceSub, Int.reduceMul, Int.reduceLT, Int.reduceLE, Int.reduceEq, Int.reduceToNat, reduceCtorEq, and_self, and_true, true_and, false_and, and_false, or_false, false_or, or_true, true_or, true_implies, false_implies, implies_true, not_true_eq_false, not_false_eq_true, Int.toNat_natCast, Int.cast_ofNat_Int, eq_self, ne_eq, ite_true, ite_false, if_true, if_false, Int.add_sub_cancel, Int.sub_add_cancel, Int.add_zero, Int.zero_add, cast_s, iI_in, iI_lit, iI_le, iI_lt, iI_eq, iI_cl, iI_add, iI_sub, iI_mul, iI_neg, iI_nI, ok_s, ok_ck, ok_bn, ok_ob, ck_iI, bn_eq, ob_s, om_n, om_s, cb_bI, gI_g, gI_2, gJ_1, gJ_g, gJ_2, gR_1, gR_2, gR_g, within_v, in_v, bI_i0, bI_i1, iI_bI0, iI_bI1, bI_T, bI_F, va1, h3 i hi]
theorem AL.eq {G : Grp} {RM RM' : Nat → Nat} (h : AL G v R Mx RM P) (e : ∀ c, c < 6 → RM' c = RM c) : AL G v R Mx RM' P := ⟨h.1, h.2.1, fun c hc => by rw [e c hc]; exact h.2.2.1 c hc, h.2.2.2⟩
theorem dfs (hR : R ≤ 6) (hM : 0 ≤ Mx ∧ Mx ≤ 10) (hP : ∀ i c, i < 6 → c < 6 → -1 ≤ P i c ∧ P i c ≤ Mx) (hF : 200000 ≤ F) : ∀ k d a, a + k = R → k < d → ∀ (G : Grp) (way : Wy) (RM : Nat → Nat) (gv sm bg bp : Int) (b : Wy), AL G v R Mx RM P → (∀ c, c < 6 → RM c ≤ 6) → (∀ i, i < a → G.1 (v + 4) i = iI (way i)) → BS G v R bg bp b → (0 ≤ gv ∧ gv ≤ a ∧ 0 ≤ sm ∧ sm ≤ 10 * a) → (-1 ≤ bg ∧ bg ≤ 6 ∧ -1 ≤ bp ∧ bp ≤ 60) →
    ∃ G', f_X0_tryRows F d G v (iI a) (iI gv) (iI sm) = some G' ∧ DFS v R Mx P (cpl 6 (alP P) RM way a k) (fun w => gv + (gk 6 w a k : Int)) (fun w => sm + pk' 6 P w a k) way a RM bg bp b G G' := by
  intro k
  induction k with
  | zero =>
    intro d a ha hd G way RM gv sm bg bp b hA hRM hw hB hg hb
    obtain ⟨d, rfl⟩ : ∃ d', d = d' + 1 := ⟨d - 1, by omega⟩
    obtain ⟨A1, A2, A3, A4⟩ := id hA
    obtain ⟨B1, B2, B3⟩ := id hB
    show ∃ G', f_X0_tryRows_r F (f_X0_tryRows F d) G v (iI a) (iI gv) (iI sm) = some G' ∧ _
    have hk : (R : Int) - (a : Int) = 0 := by omega
    have one : ∀ w, cpl 6 (alP P) RM way a 0 w → gv + (gk 6 w a 0 : Int) = gv ∧ sm + pk' 6 P w a 0 = sm := fun w _ => ⟨Int.add_zero gv, Int.add_zero sm⟩
    by_cases c1 : btr gv sm bg bp
    · obtain ⟨G', k1, k2, k3, k4, k5⟩ := keep_c (F := F) (G := G) (gv := gv) (sm := sm) (way := way) hR A1 (fun i hi => hw i (by omega))
      refine ⟨G', ?_, gv, sm, way, ⟨by rw [k4 2 (by omega) (by omega)]; exact A1, by rw [k4 5 (by omega) (by omega)]; exact A2, fun c hc => by rw [k5 _ _ (by omega)]; exact A3 c hc, fun i c hi hc => by rw [k5 _ _ (by omega)]; exact A4 i c hi hc⟩, fun i hi => by rw [k5 _ _ (by omega)]; exact hw i hi, k2, by omega, Or.inr ⟨way, ⟨fun _ _ => rfl, fun i z1 z2 => absurd z2 (by omega), fun c _ => Nat.zero_le _⟩, ?_, ?_, ?_, fun _ _ => rfl, fun w' hw' => Or.inr ⟨rfl, rfl, Or.inl fun i hi => (hw'.1 i (by omega)).symm⟩⟩, k3⟩
      · have n1 : ¬ gv < bg := by unfold btr at c1; omega
        by_cases c2 : gv = bg
        · have n2 : bp < sm := by unfold btr at c1; omega
          simp (disch := omega) only [reduceIte, Nat.reduceEqDiff, Nat.reduceAdd, Nat.reduceSub, Nat.reduceMul, Nat.reduceLT, Int.reduceNeg, Int.reduceAdd, Int.reduceSub, Int.reduceMul, Int.reduceLT, Int.reduceLE, Int.reduceEq, Int.reduceToNat, reduceCtorEq, and_self, and_true, true_and, false_and, and_false, or_false, false_or, or_true, true_or, true_implies, false_implies, implies_true, not_true_eq_false, not_false_eq_true, Int.toNat_natCast, Int.cast_ofNat_Int, eq_self, ne_eq, ite_true, ite_false, if_true, if_false, Int.add_sub_cancel, Int.sub_add_cancel, Int.add_zero, Int.zero_add, cast_s, iI_in, iI_lit, iI_le, iI_lt, iI_eq, iI_cl, iI_add, iI_sub, iI_mul, iI_neg, iI_nI, ok_s, ok_ck, ok_bn, ok_ob, ck_iI, bn_eq, ob_s, om_n, om_s, cb_bI, gI_g, gI_2, gJ_1, gJ_g, gJ_2, gR_1, gR_2, gR_g, within_v, in_v, bI_i0, bI_i1, iI_bI0, iI_bI1, bI_T, bI_F, f_X0_tryRows_r, f_X0_tryRows_b49, A1, A2, B1, B2, hk, Int.zero_mul, n1, k1, eq_true c2, n2]
        · simp (disch := omega) only [reduceIte, Nat.reduceEqDiff, Nat.reduceAdd, Nat.reduceSub, Nat.reduceMul, Nat.reduceLT, Int.reduceNeg, Int.reduceAdd, Int.reduceSub, Int.reduceMul, Int.reduceLT, Int.reduceLE, Int.reduceEq, Int.reduceToNat, reduceCtorEq, and_self, and_true, true_and, false_and, and_false, or_false, false_or, or_true, true_or, true_implies, false_implies, implies_true, not_true_eq_false, not_false_eq_true, Int.toNat_natCast, Int.cast_ofNat_Int, eq_self, ne_eq, ite_true, ite_false, if_true, if_false, Int.add_sub_cancel, Int.sub_add_cancel, Int.add_zero, Int.zero_add, cast_s, iI_in, iI_lit, iI_le, iI_lt, iI_eq, iI_cl, iI_add, iI_sub, iI_mul, iI_neg, iI_nI, ok_s, ok_ck, ok_bn, ok_ob, ck_iI, bn_eq, ob_s, om_n, om_s, cb_bI, gI_g, gI_2, gJ_1, gJ_g, gJ_2, gR_1, gR_2, gR_g, within_v, in_v, bI_i0, bI_i1, iI_bI0, iI_bI1, bI_T, bI_F, f_X0_tryRows_r, f_X0_tryRows_b49, A1, A2, B1, B2, hk, Int.zero_mul, n1, k1, c2]
      · show btr (gv + 0) (sm + 0) bg bp
        rw [Int.add_zero, Int.add_zero]; exact c1
      · exact (Int.add_zero gv).symm
      · exact (Int.add_zero sm).symm
    · refine ⟨G, ?_, bg, bp, b, hA, hw, hB, hb, SP_nil (fun w hw => ?_), rfl, fun _ _ _ => rfl⟩
      · skip
        by_cases c2 : gv < bg
        · simp (disch := omega) only [reduceIte, Nat.reduceEqDiff, Nat.reduceAdd, Nat.reduceSub, Nat.reduceMul, Nat.reduceLT, Int.reduceNeg, Int.reduceAdd, Int.reduceSub, Int.reduceMul, Int.reduceLT, Int.reduceLE, Int.reduceEq, Int.reduceToNat, reduceCtorEq, and_self, and_true, true_and, false_and, and_false, or_false, false_or, or_true, true_or, true_implies, false_implies, implies_true, not_true_eq_false, not_false_eq_true, Int.toNat_natCast, Int.cast_ofNat_Int, eq_self, ne_eq, ite_true, ite_false, if_true, if_false, Int.add_sub_cancel, Int.sub_add_cancel, Int.add_zero, Int.zero_add, cast_s, iI_in, iI_lit, iI_le, iI_lt, iI_eq, iI_cl, iI_add, iI_sub, iI_mul, iI_neg, iI_nI, ok_s, ok_ck, ok_bn, ok_ob, ck_iI, bn_eq, ob_s, om_n, om_s, cb_bI, gI_g, gI_2, gJ_1, gJ_g, gJ_2, gR_1, gR_2, gR_g, within_v, in_v, bI_i0, bI_i1, iI_bI0, iI_bI1, bI_T, bI_F, f_X0_tryRows_r, f_X0_tryRows_b49, A1, A2, B1, B2, hk, Int.zero_mul, c2]
        · have c3 : gv = bg := by unfold btr at c1; omega
          have n2 : ¬ bp < sm := by unfold btr at c1; omega
          simp (disch := omega) only [reduceIte, Nat.reduceEqDiff, Nat.reduceAdd, Nat.reduceSub, Nat.reduceMul, Nat.reduceLT, Int.reduceNeg, Int.reduceAdd, Int.reduceSub, Int.reduceMul, Int.reduceLT, Int.reduceLE, Int.reduceEq, Int.reduceToNat, reduceCtorEq, and_self, and_true, true_and, false_and, and_false, or_false, false_or, or_true, true_or, true_implies, false_implies, implies_true, not_true_eq_false, not_false_eq_true, Int.toNat_natCast, Int.cast_ofNat_Int, eq_self, ne_eq, ite_true, ite_false, if_true, if_false, Int.add_sub_cancel, Int.sub_add_cancel, Int.add_zero, Int.zero_add, cast_s, iI_in, iI_lit, iI_le, iI_lt, iI_eq, iI_cl, iI_add, iI_sub, iI_mul, iI_neg, iI_nI, ok_s, ok_ck, ok_bn, ok_ob, ck_iI, bn_eq, ob_s, om_n, om_s, cb_bI, gI_g, gI_2, gJ_1, gJ_g, gJ_2, gR_1, gR_2, gR_g, within_v, in_v, bI_i0, bI_i1, iI_bI0, iI_bI1, bI_T, bI_F, f_X0_tryRows_r, f_X0_tryRows_b49, A1, A2, B1, B2, hk, Int.zero_mul, c2, eq_true c3, n2]
      · show ¬ btr (gv + 0) (sm + 0) bg bp
        rw [Int.add_zero, Int.add_zero]; exact c1
  | succ k ih =>
    intro d a ha hd G way RM gv sm bg bp b hA hRM hw hB hg hb
    obtain ⟨d, rfl⟩ : ∃ d', d = d' + 1 := ⟨d - 1, by omega⟩
    -- the loop over what may stand in row a
    have loop : ∀ (m c : Nat), c + m = 6 → ∀ fu, m < fu → ∀ (G : Grp) (bg bp : Int) (b : Wy), AL G v R Mx RM P → (∀ i, i < a → G.1 (v + 4) i = iI (way i)) → BS G v R bg bp b → (-1 ≤ bg ∧ bg ≤ 6 ∧ -1 ≤ bp ∧ bp ≤ 60) → ∃ G', f_X0_tryRows_l64 F (f_X0_tryRows F d) fu G v (iI a) (iI gv) (iI sm) (iI c) = some G' ∧ DFS v R Mx P (fun w => cpl 6 (alP P) RM way a (k + 1) w ∧ c ≤ w a) (fun w => gv + (gk 6 w a (k + 1) : Int)) (fun w => sm + pk' 6 P w a (k + 1)) way a RM bg bp b G G' := by
      intro m
      induction m with
      | zero =>
        intro c hc fu hfu G bg bp b hA hw hB hb
        obtain ⟨fu, rfl⟩ : ∃ f, fu = f + 1 := ⟨fu - 1, by omega⟩
        have hc6 : c = 6 := by omega
        subst hc6
        obtain ⟨G', g1, bg', bp', b', g2, g3, g4, g5, g6, g7⟩ := ih d (a + 1) (by omega) (by omega) (gI G (v + 4) a (iI 6)) (fun i => if i = a then 6 else way i) RM gv sm bg bp b (hA.way a (iI 6)) hRM (fun i hi => by
          show (if v + 4 = v + 4 ∧ i = a then iI 6 else G.1 (v + 4) i) = _
          by_cases e : i = a
          · rw [if_pos ⟨rfl, e⟩, if_pos e]; rfl
          · rw [if_neg (fun z => e z.2), if_neg e]; exact hw i (by omega)) (hB.set a (iI 6) (Or.inr rfl)) (by omega) hb
        simp (disch := omega) only [reduceIte, Nat.reduceEqDiff, Nat.reduceAdd, Nat.reduceSub, Nat.reduceMul, Nat.reduceLT, Int.reduceNeg, Int.reduceAdd, Int.reduceSub, Int.reduceMul, Int.reduceLT, Int.reduceLE, Int.reduceEq, Int.reduceToNat, reduceCtorEq, and_self, and_true, true_and, false_and, and_false, or_false, false_or, or_true, true_or, true_implies, false_implies, implies_true, not_true_eq_false, not_false_eq_true, Int.toNat_natCast, Int.cast_ofNat_Int, eq_self, ne_eq, ite_true, ite_false, if_true, if_false, Int.add_sub_cancel, Int.sub_add_cancel, Int.add_zero, Int.zero_add, cast_s] at g1
        refine ⟨G', ?_, bg', bp', b', g2, fun i hi => by
          have : G'.1 (v + 4) i = iI ((if i = a then 6 else way i : Nat) : Int) := g3 i (by omega)
          rw [this, if_neg (by omega)], g4, g5, SP_congr g6 (fun w => ?_) (fun w hw => ?_), (OT.set G a (iI 6) (by omega) (by omega)).tr g7⟩
        · show f_X0_tryRows_l64b F (f_X0_tryRows F d) (f_X0_tryRows_l64 F (f_X0_tryRows F d) fu) G v _ _ _ _ = _
          have e6 : (6 : Int) ≤ ((6 : Nat) : Int) := by omega
          simp (disch := omega) only [reduceIte, Nat.reduceEqDiff, Nat.reduceAdd, Nat.reduceSub, Nat.reduceMul, Nat.reduceLT, Int.reduceNeg, Int.reduceAdd, Int.reduceSub, Int.reduceMul, Int.reduceLT, Int.reduceLE, Int.reduceEq, Int.reduceToNat, reduceCtorEq, and_self, and_true, true_and, false_and, and_false, or_false, false_or, or_true, true_or, true_implies, false_implies, implies_true, not_true_eq_false, not_false_eq_true, Int.toNat_natCast, Int.cast_ofNat_Int, eq_self, ne_eq, ite_true, ite_false, if_true, if_false, Int.add_sub_cancel, Int.sub_add_cancel, Int.add_zero, Int.zero_add, cast_s, iI_in, iI_lit, iI_le, iI_lt, iI_eq, iI_cl, iI_add, iI_sub, iI_mul, iI_neg, iI_nI, ok_s, ok_ck, ok_bn, ok_ob, ck_iI, bn_eq, ob_s, om_n, om_s, cb_bI, gI_g, gI_2, gJ_1, gJ_g, gJ_2, gR_1, gR_2, gR_g, within_v, in_v, bI_i0, bI_i1, iI_bI0, iI_bI1, bI_T, bI_F, f_X0_tryRows_l64b, e6, g1]
        · rw [← cpl_n]
          constructor
          · rintro ⟨z1, z2⟩
            have := (z1.2.1 a (Nat.le_refl _) (by omega)).1
            exact ⟨z1, by omega⟩
          · rintro ⟨z1, z2⟩
            exact ⟨z1, by omega⟩
        · have z := ((cpl_n w).mpr hw).2
          rw [gk_s, pk_s, z, if_neg (by omega), if_neg (by omega)]
          exact ⟨by omega, by omega⟩
      | succ m ihm =>
        intro c hc fu hfu G bg bp b hA hw hB hb
        obtain ⟨fu, rfl⟩ : ∃ f, fu = f + 1 := ⟨fu - 1, by omega⟩
        obtain ⟨A1, A2, A3, A4⟩ := id hA
        have hPc := hP a c (by omega) (by omega)
        have e4 : ¬ (6 : Int) ≤ c := by omega
        have tn : (6 * (a : Int) + (c : Int)).toNat = 6 * a + c := by omega
        have hRc := hRM c (by omega)
        have skip : (∀ w, ¬ (cpl 6 (alP P) RM way a (k + 1) w ∧ w a = c)) → ∃ G', f_X0_tryRows_l64 F (f_X0_tryRows F d) fu G v (iI a) (iI gv) (iI sm) (iI ((c : Int) + 1)) = some G' ∧ DFS v R Mx P (fun w => cpl 6 (alP P) RM way a (k + 1) w ∧ c ≤ w a) (fun w => gv + (gk 6 w a (k + 1) : Int)) (fun w => sm + pk' 6 P w a (k + 1)) way a RM bg bp b G G' := by
          intro hno
          obtain ⟨G', g1, bg', bp', b', g2, g3, g4, g5, g6, g7⟩ := ihm (c + 1) (by omega) fu (by omega) G bg bp b hA hw hB hb
          refine ⟨G', g1, bg', bp', b', g2, g3, g4, g5, SP_congr g6 (fun w => ?_) (fun w _ => ⟨rfl, rfl⟩), g7⟩
          constructor
          · rintro ⟨z1, z2⟩
            refine ⟨z1, ?_⟩
            by_cases e : w a = c
            · exact absurd ⟨z1, e⟩ (hno w)
            · omega
          · rintro ⟨z1, z2⟩
            exact ⟨z1, by omega⟩
        show ∃ G', f_X0_tryRows_l64b F (f_X0_tryRows F d) (f_X0_tryRows_l64 F (f_X0_tryRows F d) fu) G v _ _ _ _ = some G' ∧ _
        by_cases c1 : P a c = -1
        · obtain ⟨G', g1, g2⟩ := skip fun w z => ((cpl_s (by omega) w).mp z).1 c1
          refine ⟨G', ?_, g2⟩
          simp (disch := omega) only [reduceIte, Nat.reduceEqDiff, Nat.reduceAdd, Nat.reduceSub, Nat.reduceMul, Nat.reduceLT, Int.reduceNeg, Int.reduceAdd, Int.reduceSub, Int.reduceMul, Int.reduceLT, Int.reduceLE, Int.reduceEq, Int.reduceToNat, reduceCtorEq, and_self, and_true, true_and, false_and, and_false, or_false, false_or, or_true, true_or, true_implies, false_implies, implies_true, not_true_eq_false, not_false_eq_true, Int.toNat_natCast, Int.cast_ofNat_Int, eq_self, ne_eq, ite_true, ite_false, if_true, if_false, Int.add_sub_cancel, Int.sub_add_cancel, Int.add_zero, Int.zero_add, cast_s, iI_in, iI_lit, iI_le, iI_lt, iI_eq, iI_cl, iI_add, iI_sub, iI_mul, iI_neg, iI_nI, ok_s, ok_ck, ok_bn, ok_ob, ck_iI, bn_eq, ob_s, om_n, om_s, cb_bI, gI_g, gI_2, gJ_1, gJ_g, gJ_2, gR_1, gR_2, gR_g, within_v, in_v, bI_i0, bI_i1, iI_bI0, iI_bI1, bI_T, bI_F, f_X0_tryRows_l64b, e4, tn, A4 a c (by omega) (by omega), c1]
          exact g1
        · by_cases c2 : RM c = 0
          · obtain ⟨G', g1, g2⟩ := skip fun w z => by have := ((cpl_s (by omega) w).mp z).2.1; omega
            refine ⟨G', ?_, g2⟩
            have c2' : ((RM c : Nat) : Int) ≤ 0 := by omega
            simp (disch := omega) only [reduceIte, Nat.reduceEqDiff, Nat.reduceAdd, Nat.reduceSub, Nat.reduceMul, Nat.reduceLT, Int.reduceNeg, Int.reduceAdd, Int.reduceSub, Int.reduceMul, Int.reduceLT, Int.reduceLE, Int.reduceEq, Int.reduceToNat, reduceCtorEq, and_self, and_true, true_and, false_and, and_false, or_false, false_or, or_true, true_or, true_implies, false_implies, implies_true, not_true_eq_false, not_false_eq_true, Int.toNat_natCast, Int.cast_ofNat_Int, eq_self, ne_eq, ite_true, ite_false, if_true, if_false, Int.add_sub_cancel, Int.sub_add_cancel, Int.add_zero, Int.zero_add, cast_s, iI_in, iI_lit, iI_le, iI_lt, iI_eq, iI_cl, iI_add, iI_sub, iI_mul, iI_neg, iI_nI, ok_s, ok_ck, ok_bn, ok_ob, ck_iI, bn_eq, ob_s, om_n, om_s, cb_bI, gI_g, gI_2, gJ_1, gJ_g, gJ_2, gR_1, gR_2, gR_g, within_v, in_v, bI_i0, bI_i1, iI_bI0, iI_bI1, bI_T, bI_F, f_X0_tryRows_l64b, e4, tn, A4 a c (by omega) (by omega), A3 c (by omega), c1, c2']
            exact g1
          · have c2' : ¬ ((RM c : Nat) : Int) ≤ 0 := by omega
            have er : iI ((RM c : Nat) : Int) - iI 1 = iI ((RM c - 1 : Nat) : Int) := by rw [iI_sub]; congr 1; omega
            have er2 : iI (((RM c : Nat) : Int) - 1) = iI ((RM c - 1 : Nat) : Int) := by congr 1; omega
            -- with c in row a
            obtain ⟨G1, g1, bg1, bp1, b1, g2, g3, g4, g5, g6, g7⟩ := ih d (a + 1) (by omega) (by omega) (gI (gI G (v + 1) c (iI ((RM c - 1 : Nat) : Int))) (v + 4) a (iI c)) (fun i => if i = a then c else way i) (fun x => if x = c then RM c - 1 else RM x) (gv + 1) (sm + P a c) bg bp b ((hA.room (RM c - 1)).way a (iI c)) (fun x hx => by
              show (if x = c then RM c - 1 else RM x) ≤ 6
              by_cases e : x = c
              · rw [if_pos e]; omega
              · rw [if_neg e]; exact hRM x hx) (fun i hi => by
              show (if v + 4 = v + 4 ∧ i = a then iI c else if v + 4 = v + 1 ∧ i = c then _ else G.1 (v + 4) i) = _
              by_cases e : i = a
              · rw [if_pos ⟨rfl, e⟩, if_pos e]
              · rw [if_neg (fun z => e z.2), if_neg (by omega), if_neg e]; exact hw i (by omega)) ((hB.set c _ (Or.inl rfl)).set a _ (Or.inr rfl)) (by omega) hb
            simp (disch := omega) only [reduceIte, Nat.reduceEqDiff, Nat.reduceAdd, Nat.reduceSub, Nat.reduceMul, Nat.reduceLT, Int.reduceNeg, Int.reduceAdd, Int.reduceSub, Int.reduceMul, Int.reduceLT, Int.reduceLE, Int.reduceEq, Int.reduceToNat, reduceCtorEq, and_self, and_true, true_and, false_and, and_false, or_false, false_or, or_true, true_or, true_implies, false_implies, implies_true, not_true_eq_false, not_false_eq_true, Int.toNat_natCast, Int.cast_ofNat_Int, eq_self, ne_eq, ite_true, ite_false, if_true, if_false, Int.add_sub_cancel, Int.sub_add_cancel, Int.add_zero, Int.zero_add, cast_s] at g1
            -- then the rest
            have hA1 : AL (gI G1 (v + 1) c (iI ((RM c : Nat) : Int))) v R Mx RM P := (g2.room (RM c)).eq fun x hx => by
              show RM x = if x = c then RM c else if x = c then RM c - 1 else RM x
              by_cases e : x = c
              · rw [if_pos e, e]
              · rw [if_neg e, if_neg e]
            have e1 : G1.1 (v + 1) c = iI ((RM c - 1 : Nat) : Int) := by
              have : G1.1 (v + 1) c = iI ((if c = c then RM c - 1 else RM c : Nat) : Int) := g2.2.2.1 c (by omega)
              rw [this, if_pos rfl]
            have e2 : iI ((RM c - 1 : Nat) : Int) + iI 1 = iI ((RM c : Nat) : Int) := by rw [iI_add]; congr 1; omega
            have e3 : iI (((RM c - 1 : Nat) : Int) + 1) = iI ((RM c : Nat) : Int) := by congr 1; omega
            obtain ⟨G2, k1, bg2, bp2, b2, k2, k3, k4, k5, k6, k7⟩ := ihm (c + 1) (by omega) fu (by omega) (gI G1 (v + 1) c (iI ((RM c : Nat) : Int))) bg1 bp1 b1 hA1 (fun i hi => by
              show (if v + 4 = v + 1 ∧ i = c then _ else G1.1 (v + 4) i) = _
              have : G1.1 (v + 4) i = iI ((if i = a then c else way i : Nat) : Int) := g3 i (by omega)
              rw [if_neg (by omega), this, if_neg (by omega)]) (g4.set c _ (Or.inl rfl)) g5
            simp (disch := omega) only [reduceIte, Nat.reduceEqDiff, Nat.reduceAdd, Nat.reduceSub, Nat.reduceMul, Nat.reduceLT, Int.reduceNeg, Int.reduceAdd, Int.reduceSub, Int.reduceMul, Int.reduceLT, Int.reduceLE, Int.reduceEq, Int.reduceToNat, reduceCtorEq, and_self, and_true, true_and, false_and, and_false, or_false, false_or, or_true, true_or, true_implies, false_implies, implies_true, not_true_eq_false, not_false_eq_true, Int.toNat_natCast, Int.cast_ofNat_Int, eq_self, ne_eq, ite_true, ite_false, if_true, if_false, Int.add_sub_cancel, Int.sub_add_cancel, Int.add_zero, Int.zero_add, cast_s] at k1
            refine ⟨G2, ?_, bg2, bp2, b2, k2, k3, k4, k5, SP_seq (W1 := fun w => cpl 6 (alP P) RM way a (k + 1) w ∧ w a = c) (SP_congr g6 (fun w => ?_) (fun w hw => ?_)) k6 (fun w w' z1 z2 => ?_) (fun w => ?_), (((OT.set G c _ (by omega) (by omega)).tr (OT.set _ a _ (by omega) (by omega))).tr g7).tr ((OT.set G1 c _ (by omega) (by omega)).tr k7)⟩
            · skip
              simp (disch := omega) only [reduceIte, Nat.reduceEqDiff, Nat.reduceAdd, Nat.reduceSub, Nat.reduceMul, Nat.reduceLT, Int.reduceNeg, Int.reduceAdd, Int.reduceSub, Int.reduceMul, Int.reduceLT, Int.reduceLE, Int.reduceEq, Int.reduceToNat, reduceCtorEq, and_self, and_true, true_and, false_and, and_false, or_false, false_or, or_true, true_or, true_implies, false_implies, implies_true, not_true_eq_false, not_false_eq_true, Int.toNat_natCast, Int.cast_ofNat_Int, eq_self, ne_eq, ite_true, ite_false, if_true, if_false, Int.add_sub_cancel, Int.sub_add_cancel, Int.add_zero, Int.zero_add, cast_s, iI_in, iI_lit, iI_le, iI_lt, iI_eq, iI_cl, iI_add, iI_sub, iI_mul, iI_neg, iI_nI, ok_s, ok_ck, ok_bn, ok_ob, ck_iI, bn_eq, ob_s, om_n, om_s, cb_bI, gI_g, gI_2, gJ_1, gJ_g, gJ_2, gR_1, gR_2, gR_g, within_v, in_v, bI_i0, bI_i1, iI_bI0, iI_bI1, bI_T, bI_F, f_X0_tryRows_l64b, e4, tn, A4 a c (by omega) (by omega), A3 c (by omega), c1, c2', er2, g1, e1, e3]
              exact k1
            · rw [cpl_s (by omega) w]
              exact ⟨fun z => z.2.2, fun z => ⟨c1, by omega, z⟩⟩
            · have z := ((cpl_s (al := alP P) (by omega : c < 6) w).mpr ⟨c1, by omega, hw⟩).2
              rw [gk_s, pk_s, z, if_pos (by omega), if_pos (by omega)]
              exact ⟨by omega, by omega⟩
            · refine Or.inr ⟨a, by omega, fun i hi => ?_, by omega⟩
              rw [z1.1.1 i hi, z2.1.1 i hi]
            · constructor
              · rintro ⟨z1, z2⟩
                by_cases e : w a = c
                · exact Or.inl ⟨z1, e⟩
                · exact Or.inr ⟨z1, by omega⟩
              · rintro (⟨z1, z2⟩ | ⟨z1, z2⟩)
                · exact ⟨z1, by omega⟩
                · exact ⟨z1, by omega⟩
    obtain ⟨A1, A2, A3, A4⟩ := id hA
    obtain ⟨B1, B2, B3⟩ := id hB
    show ∃ G', f_X0_tryRows_r F (f_X0_tryRows F d) G v (iI a) (iI gv) (iI sm) = some G' ∧ _
    have hk : (R : Int) - (a : Int) = ((k + 1 : Nat) : Int) := by omega
    have hkM := mulb (k := k + 1) (by omega) hM.1 hM.2
    have prune : ((k + 1 : Nat) : Int) + gv < bg ∨ (((k + 1 : Nat) : Int) + gv = bg ∧ sm + ((k + 1 : Nat) : Int) * Mx ≤ bp) → ∀ w, cpl 6 (alP P) RM way a (k + 1) w → ¬ btr (gv + (gk 6 w a (k + 1) : Int)) (sm + pk' 6 P w a (k + 1)) bg bp := by
      intro hpr w hw' hbt
      have l1 := gk_le 6 w a (k + 1)
      unfold btr at hbt
      rcases hpr with q | ⟨q1, q2⟩
      · omega
      · have l2 : gk 6 w a (k + 1) = k + 1 := by omega
        have l3 := ptk_le (P := P) (m := Mx) (k + 1) a (fun i z1 z2 z3 => (hP i (w i) (by omega) z3).2) l2
        omega
    by_cases c1 : gv + ((k + 1 : Nat) : Int) < bg
    · refine ⟨G, ?_, bg, bp, b, hA, hw, hB, hb, SP_nil (prune (Or.inl (by omega))), rfl, fun _ _ _ => rfl⟩
      generalize ((k + 1 : Nat) : Int) = K at *
      simp (disch := omega) only [reduceIte, Nat.reduceEqDiff, Nat.reduceAdd, Nat.reduceSub, Nat.reduceMul, Nat.reduceLT, Int.reduceNeg, Int.reduceAdd, Int.reduceSub, Int.reduceMul, Int.reduceLT, Int.reduceLE, Int.reduceEq, Int.reduceToNat, reduceCtorEq, and_self, and_true, true_and, false_and, and_false, or_false, false_or, or_true, true_or, true_implies, false_implies, implies_true, not_true_eq_false, not_false_eq_true, Int.toNat_natCast, Int.cast_ofNat_Int, eq_self, ne_eq, ite_true, ite_false, if_true, if_false, Int.add_sub_cancel, Int.sub_add_cancel, Int.add_zero, Int.zero_add, cast_s, iI_in, iI_lit, iI_le, iI_lt, iI_eq, iI_cl, iI_add, iI_sub, iI_mul, iI_neg, iI_nI, ok_s, ok_ck, ok_bn, ok_ob, ck_iI, bn_eq, ob_s, om_n, om_s, cb_bI, gI_g, gI_2, gJ_1, gJ_g, gJ_2, gR_1, gR_2, gR_g, within_v, in_v, bI_i0, bI_i1, iI_bI0, iI_bI1, bI_T, bI_F, f_X0_tryRows_r, A1, A2, B1, B2, hk, c1]
    · by_cases c2 : gv + ((k + 1 : Nat) : Int) = bg ∧ ¬ bp < sm + ((k + 1 : Nat) : Int) * Mx
      · refine ⟨G, ?_, bg, bp, b, hA, hw, hB, hb, SP_nil (prune (Or.inr ⟨by omega, by omega⟩)), rfl, fun _ _ _ => rfl⟩
        generalize hK : ((k + 1 : Nat) : Int) = K at *
        obtain ⟨c2, c3⟩ := c2
        simp (disch := omega) only [reduceIte, Nat.reduceEqDiff, Nat.reduceAdd, Nat.reduceSub, Nat.reduceMul, Nat.reduceLT, Int.reduceNeg, Int.reduceAdd, Int.reduceSub, Int.reduceMul, Int.reduceLT, Int.reduceLE, Int.reduceEq, Int.reduceToNat, reduceCtorEq, and_self, and_true, true_and, false_and, and_false, or_false, false_or, or_true, true_or, true_implies, false_implies, implies_true, not_true_eq_false, not_false_eq_true, Int.toNat_natCast, Int.cast_ofNat_Int, eq_self, ne_eq, ite_true, ite_false, if_true, if_false, Int.add_sub_cancel, Int.sub_add_cancel, Int.add_zero, Int.zero_add, cast_s, iI_in, iI_lit, iI_le, iI_lt, iI_eq, iI_cl, iI_add, iI_sub, iI_mul, iI_neg, iI_nI, ok_s, ok_ck, ok_bn, ok_ob, ck_iI, bn_eq, ob_s, om_n, om_s, cb_bI, gI_g, gI_2, gJ_1, gJ_g, gJ_2, gR_1, gR_2, gR_g, within_v, in_v, bI_i0, bI_i1, iI_bI0, iI_bI1, bI_T, bI_F, f_X0_tryRows_r, A1, A2, B1, B2, hk, c1, eq_true c2, c3]
      · obtain ⟨G', g1, bg', bp', b', g2, g3, g4, g5, g6, g7⟩ := loop 6 0 rfl F (by omega) G bg bp b hA hw hB hb
        refine ⟨G', ?_, bg', bp', b', g2, g3, g4, g5, SP_congr g6 (fun w => ⟨fun z => ⟨z, Nat.zero_le _⟩, fun z => z.1⟩) (fun w _ => ⟨rfl, rfl⟩), g7⟩
        have g1 : f_X0_tryRows_l64 F (f_X0_tryRows F d) F G v (iI a) (iI gv) (iI sm) (iI 0) = some G' := g1
        have hK0 : 0 < ((k + 1 : Nat) : Int) := by omega
        have hK6 : ((k + 1 : Nat) : Int) ≤ 6 := by omega
        generalize hK : ((k + 1 : Nat) : Int) = K at *
        by_cases c3 : gv + K = bg
        · have c4 : bp < sm + K * Mx := by
            by_cases q : bp < sm + K * Mx
            · exact q
            · exact absurd ⟨c3, q⟩ c2
          simp (disch := omega) only [reduceIte, Nat.reduceEqDiff, Nat.reduceAdd, Nat.reduceSub, Nat.reduceMul, Nat.reduceLT, Int.reduceNeg, Int.reduceAdd, Int.reduceSub, Int.reduceMul, Int.reduceLT, Int.reduceLE, Int.reduceEq, Int.reduceToNat, reduceCtorEq, and_self, and_true, true_and, false_and, and_false, or_false, false_or, or_true, true_or, true_implies, false_implies, implies_true, not_true_eq_false, not_false_eq_true, Int.toNat_natCast, Int.cast_ofNat_Int, eq_self, ne_eq, ite_true, ite_false, if_true, if_false, Int.add_sub_cancel, Int.sub_add_cancel, Int.add_zero, Int.zero_add, cast_s, iI_in, iI_lit, iI_le, iI_lt, iI_eq, iI_cl, iI_add, iI_sub, iI_mul, iI_neg, iI_nI, ok_s, ok_ck, ok_bn, ok_ob, ck_iI, bn_eq, ob_s, om_n, om_s, cb_bI, gI_g, gI_2, gJ_1, gJ_g, gJ_2, gR_1, gR_2, gR_g, within_v, in_v, bI_i0, bI_i1, iI_bI0, iI_bI1, bI_T, bI_F, f_X0_tryRows_r, f_X0_tryRows_b49, A1, A2, B1, B2, hk, c1, hK0, g1, eq_true c3, c4]
        · simp (disch := omega) only [reduceIte, Nat.reduceEqDiff, Nat.reduceAdd, Nat.reduceSub, Nat.reduceMul, Nat.reduceLT, Int.reduceNeg, Int.reduceAdd, Int.reduceSub, Int.reduceMul, Int.reduceLT, Int.reduceLE, Int.reduceEq, Int.reduceToNat, reduceCtorEq, and_self, and_true, true_and, false_and, and_false, or_false, false_or, or_true, true_or, true_implies, false_implies, implies_true, not_true_eq_false, not_false_eq_true, Int.toNat_natCast, Int.cast_ofNat_Int, eq_self, ne_eq, ite_true, ite_false, if_true, if_false, Int.add_sub_cancel, Int.sub_add_cancel, Int.add_zero, Int.zero_add, cast_s, iI_in, iI_lit, iI_le, iI_lt, iI_eq, iI_cl, iI_add, iI_sub, iI_mul, iI_neg, iI_nI, ok_s, ok_ck, ok_bn, ok_ob, ck_iI, bn_eq, ob_s, om_n, om_s, cb_bI, gI_g, gI_2, gJ_1, gJ_g, gJ_2, gR_1, gR_2, gR_g, within_v, in_v, bI_i0, bI_i1, iI_bI0, iI_bI1, bI_T, bI_F, f_X0_tryRows_r, f_X0_tryRows_b49, A1, A2, B1, B2, hk, c1, hK0, g1, c3]
end PR
