theorem int_mm {a b c : Int} (h : 0 ≤ a) (h2 : 0 ≤ b) (h3 : b ≤ c) : 0 ≤ a * b ∧ a * b ≤ a * c := ⟨Int.mul_nonneg h h2, Int.mul_le_mul_of_nonneg_left h3 h⟩
section PR
variable {F : Nat} {G1 G2 G6 G7 G8 G9 G18 G23 G24 G25 G26 G39 G41 : Grp} {vn gn cn d n pn tn : Nat} {tp : Nat → Nat} {P T : Nat → Nat → Int} {f : Nat → Int}
theorem gift_fin (hc : RCoin G18 G39 vn cn) (hf : RFolk G6 G24 vn gn cn) (h23 : G23.1 91 0 = iI d) {b : Int} {c v : Nat} {X5 X6 B X : Int} (hcn : c < cn) (u5 : v < vn) (u6 : G24.1 95 c = iI v) (c3 : 1 ≤ b ∧ b ≤ 1000000) (hX : 0 ≤ X5 ∧ 0 ≤ X6 ∧ X5 + X6 ≤ b) (hB : 0 ≤ B ∧ B ≤ 1000000) (hX1 : 0 ≤ X) (hX2 : X ≤ b - X5 - X6) (hX3 : B + X ≤ 1000000) (hN : ∀ G : Grp, G.1 = G39.1 → f_X12_hadNow F G23 G (iI c) = some (iI B)) : ok (f_X12_gift_b110 F G23 G24 G25 G26 G39 (iI b) (iI c) (iI X5) (iI X6) (iI (b - X5 - X6)) (iI X)) (fun r => iI X = r.1 ∧ RCoin (gI (gI (gJ (gJ (gJ (gJ G18 70 1 (G18.2.1 70 1 + jI b)) 70 0 (G18.2.1 70 0 + jI X5)) 71 v (G18.2.1 71 v + jI (X6 + (b - X5 - X6) - X))) 72 c (G18.2.1 72 c + jI X)) 73 c (iI (B + X))) 74 c (iI d / iI 360)) r.2 vn cn) := by
  obtain ⟨g1, g2, g3, g4, g5, g6, g7⟩ := id hc
  obtain ⟨v1, v2, v3, -⟩ := id hf
  have q1 := hN (gJ (gJ (gJ G39 91 86 (G39.2.1 91 86 + jI X5)) 157 v (G39.2.1 157 v + jI X6 + jI (b - X5 - X6) - jI X)) 91 87 (G39.2.1 91 87 + jI b)) rfl
  simp (disch := omega) only [reduceIte, Nat.reduceEqDiff, Nat.reduceAdd, Nat.reduceSub, Nat.reduceMul, Nat.reduceLT, Int.reduceNeg, Int.reduceAdd, Int.reduceSub, Int.reduceMul, Int.reduceLT, Int.reduceLE, Int.reduceEq, Int.reduceToNat, reduceCtorEq, and_self, and_true, true_and, false_and, and_false, or_false, false_or, or_true, true_or, true_implies, false_implies, implies_true, not_true_eq_false, not_false_eq_true, Int.toNat_natCast, Int.cast_ofNat_Int, eq_self, ne_eq, ite_true, ite_false, if_true, if_false, Int.add_sub_cancel, Int.sub_add_cancel, Int.add_zero, Int.zero_add, cast_s, iI_in, iI_lit, iI_le, iI_lt, iI_eq, iI_cl, iI_add, iI_sub, iI_mul, iI_neg, iI_nI, ok_s, ok_ck, ok_bn, ok_ob, ck_iI, bn_eq, ob_s, om_n, om_s, cb_bI, gI_g, gI_2, gJ_1, gJ_g, gJ_2, gR_1, gR_2, gR_g, within_v, in_v, bI_i0, bI_i1, iI_bI0, iI_bI1, bI_T, bI_F, f_X12_gift_b110, u6, h23, iI_jI, q1]
  refine ⟨?_, ?_, ?_, fun k hk => ?_, fun k hk hk2 => ?_, fun k hk => ?_, fun k hk hk2 => ?_⟩
  · skip
    simp (disch := omega) only [reduceIte, Nat.reduceEqDiff, Nat.reduceAdd, Nat.reduceSub, Nat.reduceMul, Nat.reduceLT, Int.reduceNeg, Int.reduceAdd, Int.reduceSub, Int.reduceMul, Int.reduceLT, Int.reduceLE, Int.reduceEq, Int.reduceToNat, reduceCtorEq, and_self, and_true, true_and, false_and, and_false, or_false, false_or, or_true, true_or, true_implies, false_implies, implies_true, not_true_eq_false, not_false_eq_true, Int.toNat_natCast, Int.cast_ofNat_Int, eq_self, ne_eq, ite_true, ite_false, if_true, if_false, Int.add_sub_cancel, Int.sub_add_cancel, Int.add_zero, Int.zero_add, cast_s, iI_in, iI_lit, iI_le, iI_lt, iI_eq, iI_cl, iI_add, iI_sub, iI_mul, iI_neg, iI_nI, ok_s, ok_ck, ok_bn, ok_ob, ck_iI, bn_eq, ob_s, om_n, om_s, cb_bI, gI_g, gI_2, gJ_1, gJ_g, gJ_2, gR_1, gR_2, gR_g, within_v, in_v, bI_i0, bI_i1, iI_bI0, iI_bI1, bI_T, bI_F, g1]
  · skip
    simp (disch := omega) only [reduceIte, Nat.reduceEqDiff, Nat.reduceAdd, Nat.reduceSub, Nat.reduceMul, Nat.reduceLT, Int.reduceNeg, Int.reduceAdd, Int.reduceSub, Int.reduceMul, Int.reduceLT, Int.reduceLE, Int.reduceEq, Int.reduceToNat, reduceCtorEq, and_self, and_true, true_and, false_and, and_false, or_false, false_or, or_true, true_or, true_implies, false_implies, implies_true, not_true_eq_false, not_false_eq_true, Int.toNat_natCast, Int.cast_ofNat_Int, eq_self, ne_eq, ite_true, ite_false, if_true, if_false, Int.add_sub_cancel, Int.sub_add_cancel, Int.add_zero, Int.zero_add, cast_s, iI_in, iI_lit, iI_le, iI_lt, iI_eq, iI_cl, iI_add, iI_sub, iI_mul, iI_neg, iI_nI, ok_s, ok_ck, ok_bn, ok_ob, ck_iI, bn_eq, ob_s, om_n, om_s, cb_bI, gI_g, gI_2, gJ_1, gJ_g, gJ_2, gR_1, gR_2, gR_g, within_v, in_v, bI_i0, bI_i1, iI_bI0, iI_bI1, bI_T, bI_F, g2]
  · skip
    simp (disch := omega) only [reduceIte, Nat.reduceEqDiff, Nat.reduceAdd, Nat.reduceSub, Nat.reduceMul, Nat.reduceLT, Int.reduceNeg, Int.reduceAdd, Int.reduceSub, Int.reduceMul, Int.reduceLT, Int.reduceLE, Int.reduceEq, Int.reduceToNat, reduceCtorEq, and_self, and_true, true_and, false_and, and_false, or_false, false_or, or_true, true_or, true_implies, false_implies, implies_true, not_true_eq_false, not_false_eq_true, Int.toNat_natCast, Int.cast_ofNat_Int, eq_self, ne_eq, ite_true, ite_false, if_true, if_false, Int.add_sub_cancel, Int.sub_add_cancel, Int.add_zero, Int.zero_add, cast_s, iI_in, iI_lit, iI_le, iI_lt, iI_eq, iI_cl, iI_add, iI_sub, iI_mul, iI_neg, iI_nI, ok_s, ok_ck, ok_bn, ok_ob, ck_iI, bn_eq, ob_s, om_n, om_s, cb_bI, gI_g, gI_2, gJ_1, gJ_g, gJ_2, gR_1, gR_2, gR_g, within_v, in_v, bI_i0, bI_i1, iI_bI0, iI_bI1, bI_T, bI_F, g3]
  · skip
    by_cases e : k = v
    · simp (disch := omega) only [reduceIte, Nat.reduceEqDiff, Nat.reduceAdd, Nat.reduceSub, Nat.reduceMul, Nat.reduceLT, Int.reduceNeg, Int.reduceAdd, Int.reduceSub, Int.reduceMul, Int.reduceLT, Int.reduceLE, Int.reduceEq, Int.reduceToNat, reduceCtorEq, and_self, and_true, true_and, false_and, and_false, or_false, false_or, or_true, true_or, true_implies, false_implies, implies_true, not_true_eq_false, not_false_eq_true, Int.toNat_natCast, Int.cast_ofNat_Int, eq_self, ne_eq, ite_true, ite_false, if_true, if_false, Int.add_sub_cancel, Int.sub_add_cancel, Int.add_zero, Int.zero_add, cast_s, iI_in, iI_lit, iI_le, iI_lt, iI_eq, iI_cl, iI_add, iI_sub, iI_mul, iI_neg, iI_nI, ok_s, ok_ck, ok_bn, ok_ob, ck_iI, bn_eq, ob_s, om_n, om_s, cb_bI, gI_g, gI_2, gJ_1, gJ_g, gJ_2, gR_1, gR_2, gR_g, within_v, in_v, bI_i0, bI_i1, iI_bI0, iI_bI1, bI_T, bI_F, g4 k hk, e, g4 v (by omega)]
      have jj : jI (X6 + (b - X5 - X6) - X) = jI X6 + jI (b - X5 - X6) - jI X := by rw [jI_add, jI_sub]
      rw [jj]
      simp only [Int64.sub_eq_add_neg, Int64.add_assoc]
    · simp (disch := omega) only [reduceIte, Nat.reduceEqDiff, Nat.reduceAdd, Nat.reduceSub, Nat.reduceMul, Nat.reduceLT, Int.reduceNeg, Int.reduceAdd, Int.reduceSub, Int.reduceMul, Int.reduceLT, Int.reduceLE, Int.reduceEq, Int.reduceToNat, reduceCtorEq, and_self, and_true, true_and, false_and, and_false, or_false, false_or, or_true, true_or, true_implies, false_implies, implies_true, not_true_eq_false, not_false_eq_true, Int.toNat_natCast, Int.cast_ofNat_Int, eq_self, ne_eq, ite_true, ite_false, if_true, if_false, Int.add_sub_cancel, Int.sub_add_cancel, Int.add_zero, Int.zero_add, cast_s, iI_in, iI_lit, iI_le, iI_lt, iI_eq, iI_cl, iI_add, iI_sub, iI_mul, iI_neg, iI_nI, ok_s, ok_ck, ok_bn, ok_ob, ck_iI, bn_eq, ob_s, om_n, om_s, cb_bI, gI_g, gI_2, gJ_1, gJ_g, gJ_2, gR_1, gR_2, gR_g, within_v, in_v, bI_i0, bI_i1, iI_bI0, iI_bI1, bI_T, bI_F, g4 k hk, e]
  · have e : ¬ k = v := by omega
    simp (disch := omega) only [reduceIte, Nat.reduceEqDiff, Nat.reduceAdd, Nat.reduceSub, Nat.reduceMul, Nat.reduceLT, Int.reduceNeg, Int.reduceAdd, Int.reduceSub, Int.reduceMul, Int.reduceLT, Int.reduceLE, Int.reduceEq, Int.reduceToNat, reduceCtorEq, and_self, and_true, true_and, false_and, and_false, or_false, false_or, or_true, true_or, true_implies, false_implies, implies_true, not_true_eq_false, not_false_eq_true, Int.toNat_natCast, Int.cast_ofNat_Int, eq_self, ne_eq, ite_true, ite_false, if_true, if_false, Int.add_sub_cancel, Int.sub_add_cancel, Int.add_zero, Int.zero_add, cast_s, iI_in, iI_lit, iI_le, iI_lt, iI_eq, iI_cl, iI_add, iI_sub, iI_mul, iI_neg, iI_nI, ok_s, ok_ck, ok_bn, ok_ob, ck_iI, bn_eq, ob_s, om_n, om_s, cb_bI, gI_g, gI_2, gJ_1, gJ_g, gJ_2, gR_1, gR_2, gR_g, within_v, in_v, bI_i0, bI_i1, iI_bI0, iI_bI1, bI_T, bI_F, e]
    exact g5 k hk hk2
  · have w := g6 k hk
    by_cases e : k = c
    · simp (disch := omega) only [reduceIte, Nat.reduceEqDiff, Nat.reduceAdd, Nat.reduceSub, Nat.reduceMul, Nat.reduceLT, Int.reduceNeg, Int.reduceAdd, Int.reduceSub, Int.reduceMul, Int.reduceLT, Int.reduceLE, Int.reduceEq, Int.reduceToNat, reduceCtorEq, and_self, and_true, true_and, false_and, and_false, or_false, false_or, or_true, true_or, true_implies, false_implies, implies_true, not_true_eq_false, not_false_eq_true, Int.toNat_natCast, Int.cast_ofNat_Int, eq_self, ne_eq, ite_true, ite_false, if_true, if_false, Int.add_sub_cancel, Int.sub_add_cancel, Int.add_zero, Int.zero_add, cast_s, iI_in, iI_lit, iI_le, iI_lt, iI_eq, iI_cl, iI_add, iI_sub, iI_mul, iI_neg, iI_nI, ok_s, ok_ck, ok_bn, ok_ob, ck_iI, bn_eq, ob_s, om_n, om_s, cb_bI, gI_g, gI_2, gJ_1, gJ_g, gJ_2, gR_1, gR_2, gR_g, within_v, in_v, bI_i0, bI_i1, iI_bI0, iI_bI1, bI_T, bI_F, w.1, w.2.1, w.2.2.1, e]
      exact ⟨by rw [(g6 c (by omega)).1], B + X, by omega, by omega, rfl⟩
    · simp (disch := omega) only [reduceIte, Nat.reduceEqDiff, Nat.reduceAdd, Nat.reduceSub, Nat.reduceMul, Nat.reduceLT, Int.reduceNeg, Int.reduceAdd, Int.reduceSub, Int.reduceMul, Int.reduceLT, Int.reduceLE, Int.reduceEq, Int.reduceToNat, reduceCtorEq, and_self, and_true, true_and, false_and, and_false, or_false, false_or, or_true, true_or, true_implies, false_implies, implies_true, not_true_eq_false, not_false_eq_true, Int.toNat_natCast, Int.cast_ofNat_Int, eq_self, ne_eq, ite_true, ite_false, if_true, if_false, Int.add_sub_cancel, Int.sub_add_cancel, Int.add_zero, Int.zero_add, cast_s, iI_in, iI_lit, iI_le, iI_lt, iI_eq, iI_cl, iI_add, iI_sub, iI_mul, iI_neg, iI_nI, ok_s, ok_ck, ok_bn, ok_ob, ck_iI, bn_eq, ob_s, om_n, om_s, cb_bI, gI_g, gI_2, gJ_1, gJ_g, gJ_2, gR_1, gR_2, gR_g, within_v, in_v, bI_i0, bI_i1, iI_bI0, iI_bI1, bI_T, bI_F, w.1, w.2.1, w.2.2.1, e]
      exact w.2.2.2
  · have e : ¬ k = c := by omega
    simp (disch := omega) only [reduceIte, Nat.reduceEqDiff, Nat.reduceAdd, Nat.reduceSub, Nat.reduceMul, Nat.reduceLT, Int.reduceNeg, Int.reduceAdd, Int.reduceSub, Int.reduceMul, Int.reduceLT, Int.reduceLE, Int.reduceEq, Int.reduceToNat, reduceCtorEq, and_self, and_true, true_and, false_and, and_false, or_false, false_or, or_true, true_or, true_implies, false_implies, implies_true, not_true_eq_false, not_false_eq_true, Int.toNat_natCast, Int.cast_ofNat_Int, eq_self, ne_eq, ite_true, ite_false, if_true, if_false, Int.add_sub_cancel, Int.sub_add_cancel, Int.add_zero, Int.zero_add, cast_s, iI_in, iI_lit, iI_le, iI_lt, iI_eq, iI_cl, iI_add, iI_sub, iI_mul, iI_neg, iI_nI, ok_s, ok_ck, ok_bn, ok_ob, ck_iI, bn_eq, ob_s, om_n, om_s, cb_bI, gI_g, gI_2, gJ_1, gJ_g, gJ_2, gR_1, gR_2, gR_g, within_v, in_v, bI_i0, bI_i1, iI_bI0, iI_bI1, bI_T, bI_F, e]
    exact g7 k hk hk2
theorem give_c (hc : RCoin G18 G39 vn cn) (hn : RNum G2 G26 f) {c v : Nat} {b M5 M6 X5 X6 B : Int} (hcn : c < 16) (hv : v < 6) (c3 : 1 ≤ b ∧ b ≤ 1000000) (hM5 : b * f 5 = M5) (hM6 : b * f 6 = M6) (e5 : iI M5 / iI 100 = iI X5) (e6 : iI M6 / iI 100 = iI X6) (hX : 0 ≤ X5 ∧ 0 ≤ X6 ∧ X5 + X6 ≤ b) (hB : 0 ≤ B ∧ B ≤ 1000000) (y : Int32) (i1 : f_X1_inYear F G18 (iI c) y = some (iI B)) {Y X : Int} (hY : (if 0 < f 7 - B then f 7 - B else 0) = Y) (hX2 : (if Y < b - X5 - X6 then Y else b - X5 - X6) = X) (hX3 : 0 ≤ X ∧ X ≤ 1000000) : f_X1_give F G2 G18 (iI c) (iI v) (iI b) y = some (iI X, (gI (gI (gJ (gJ (gJ (gJ G18 70 1 (G18.2.1 70 1 + jI b)) 70 0 (G18.2.1 70 0 + jI X5)) 71 v (G18.2.1 71 v + jI (X6 + (b - X5 - X6) - X))) 72 c (G18.2.1 72 c + jI X)) 73 c (iI (B + X))) 74 c y)) := by
  have n5 := hn.1 5 (by omega)
  have n6 := hn.1 6 (by omega)
  have n7 := hn.1 7 (by omega)
  have y7 : nHi 7 = 1000000 := by unfold nHi; simp
  have z7 : nLo 7 = 0 := rfl
  have j1 : (if iI 0 < iI (f 7 - B) then iI (f 7 - B) else iI 0) = iI Y := by
    by_cases k : 0 < f 7 - B
    · skip
      simp (disch := omega) only [reduceIte, Nat.reduceEqDiff, Nat.reduceAdd, Nat.reduceSub, Nat.reduceMul, Nat.reduceLT, Int.reduceNeg, Int.reduceAdd, Int.reduceSub, Int.reduceMul, Int.reduceLT, Int.reduceLE, Int.reduceEq, Int.reduceToNat, reduceCtorEq, and_self, and_true, true_and, false_and, and_false, or_false, false_or, or_true, true_or, true_implies, false_implies, implies_true, not_true_eq_false, not_false_eq_true, Int.toNat_natCast, Int.cast_ofNat_Int, eq_self, ne_eq, ite_true, ite_false, if_true, if_false, Int.add_sub_cancel, Int.sub_add_cancel, Int.add_zero, Int.zero_add, cast_s, iI_in, iI_lit, iI_le, iI_lt, iI_eq, iI_cl, iI_add, iI_sub, iI_mul, iI_neg, iI_nI, ok_s, ok_ck, ok_bn, ok_ob, ck_iI, bn_eq, ob_s, om_n, om_s, cb_bI, gI_g, gI_2, gJ_1, gJ_g, gJ_2, gR_1, gR_2, gR_g, within_v, in_v, bI_i0, bI_i1, iI_bI0, iI_bI1, bI_T, bI_F, k]
      rw [← hY, if_pos k]
    · skip
      simp (disch := omega) only [reduceIte, Nat.reduceEqDiff, Nat.reduceAdd, Nat.reduceSub, Nat.reduceMul, Nat.reduceLT, Int.reduceNeg, Int.reduceAdd, Int.reduceSub, Int.reduceMul, Int.reduceLT, Int.reduceLE, Int.reduceEq, Int.reduceToNat, reduceCtorEq, and_self, and_true, true_and, false_and, and_false, or_false, false_or, or_true, true_or, true_implies, false_implies, implies_true, not_true_eq_false, not_false_eq_true, Int.toNat_natCast, Int.cast_ofNat_Int, eq_self, ne_eq, ite_true, ite_false, if_true, if_false, Int.add_sub_cancel, Int.sub_add_cancel, Int.add_zero, Int.zero_add, cast_s, iI_in, iI_lit, iI_le, iI_lt, iI_eq, iI_cl, iI_add, iI_sub, iI_mul, iI_neg, iI_nI, ok_s, ok_ck, ok_bn, ok_ob, ck_iI, bn_eq, ob_s, om_n, om_s, cb_bI, gI_g, gI_2, gJ_1, gJ_g, gJ_2, gR_1, gR_2, gR_g, within_v, in_v, bI_i0, bI_i1, iI_bI0, iI_bI1, bI_T, bI_F, k]
      rw [← hY, if_neg k]
  have hY2 : 0 ≤ Y ∧ Y ≤ 1000000 := by
    by_cases k : 0 < f 7 - B
    · rw [if_pos k] at hY; omega
    · rw [if_neg k] at hY; omega
  have j2 : (if iI Y < iI (b - X5 - X6) then iI Y else iI (b - X5 - X6)) = iI X := by
    by_cases k : Y < b - X5 - X6
    · skip
      simp (disch := omega) only [reduceIte, Nat.reduceEqDiff, Nat.reduceAdd, Nat.reduceSub, Nat.reduceMul, Nat.reduceLT, Int.reduceNeg, Int.reduceAdd, Int.reduceSub, Int.reduceMul, Int.reduceLT, Int.reduceLE, Int.reduceEq, Int.reduceToNat, reduceCtorEq, and_self, and_true, true_and, false_and, and_false, or_false, false_or, or_true, true_or, true_implies, false_implies, implies_true, not_true_eq_false, not_false_eq_true, Int.toNat_natCast, Int.cast_ofNat_Int, eq_self, ne_eq, ite_true, ite_false, if_true, if_false, Int.add_sub_cancel, Int.sub_add_cancel, Int.add_zero, Int.zero_add, cast_s, iI_in, iI_lit, iI_le, iI_lt, iI_eq, iI_cl, iI_add, iI_sub, iI_mul, iI_neg, iI_nI, ok_s, ok_ck, ok_bn, ok_ob, ck_iI, bn_eq, ob_s, om_n, om_s, cb_bI, gI_g, gI_2, gJ_1, gJ_g, gJ_2, gR_1, gR_2, gR_g, within_v, in_v, bI_i0, bI_i1, iI_bI0, iI_bI1, bI_T, bI_F, k]
      rw [← hX2, if_pos k]
    · skip
      simp (disch := omega) only [reduceIte, Nat.reduceEqDiff, Nat.reduceAdd, Nat.reduceSub, Nat.reduceMul, Nat.reduceLT, Int.reduceNeg, Int.reduceAdd, Int.reduceSub, Int.reduceMul, Int.reduceLT, Int.reduceLE, Int.reduceEq, Int.reduceToNat, reduceCtorEq, and_self, and_true, true_and, false_and, and_false, or_false, false_or, or_true, true_or, true_implies, false_implies, implies_true, not_true_eq_false, not_false_eq_true, Int.toNat_natCast, Int.cast_ofNat_Int, eq_self, ne_eq, ite_true, ite_false, if_true, if_false, Int.add_sub_cancel, Int.sub_add_cancel, Int.add_zero, Int.zero_add, cast_s, iI_in, iI_lit, iI_le, iI_lt, iI_eq, iI_cl, iI_add, iI_sub, iI_mul, iI_neg, iI_nI, ok_s, ok_ck, ok_bn, ok_ob, ck_iI, bn_eq, ob_s, om_n, om_s, cb_bI, gI_g, gI_2, gJ_1, gJ_g, gJ_2, gR_1, gR_2, gR_g, within_v, in_v, bI_i0, bI_i1, iI_bI0, iI_bI1, bI_T, bI_F, k]
      rw [← hX2, if_neg k]
  unfold f_X1_give
  simp only [bn_eq]
  rw [i1]
  simp only [ob_s, iI_lit, iI_cl (show -2147483648 ≤ (5 : Int) by omega) (show (5 : Int) < 2147483648 by omega), iI_cl (show -2147483648 ≤ (6 : Int) by omega) (show (6 : Int) < 2147483648 by omega), iI_cl (show -2147483648 ≤ (7 : Int) by omega) (show (7 : Int) < 2147483648 by omega), Int.reduceToNat, n5.1, n6.1, n7.1, iI_mul, iI_sub, hM5, hM6, e5, e6, j1, j2]
  simp (disch := omega) only [reduceIte, Nat.reduceEqDiff, Nat.reduceAdd, Nat.reduceSub, Nat.reduceMul, Nat.reduceLT, Int.reduceNeg, Int.reduceAdd, Int.reduceSub, Int.reduceMul, Int.reduceLT, Int.reduceLE, Int.reduceEq, Int.reduceToNat, reduceCtorEq, and_self, and_true, true_and, false_and, and_false, or_false, false_or, or_true, true_or, true_implies, false_implies, implies_true, not_true_eq_false, not_false_eq_true, Int.toNat_natCast, Int.cast_ofNat_Int, eq_self, ne_eq, ite_true, ite_false, if_true, if_false, Int.add_sub_cancel, Int.sub_add_cancel, Int.add_zero, Int.zero_add, cast_s, iI_in, iI_lit, iI_le, iI_lt, iI_eq, iI_cl, iI_add, iI_sub, iI_mul, iI_neg, iI_nI, ok_s, ok_ck, ok_bn, ok_ob, ck_iI, bn_eq, ob_s, om_n, om_s, cb_bI, gI_g, gI_2, gJ_1, gJ_g, gJ_2, gR_1, gR_2, gR_g, within_v, in_v, bI_i0, bI_i1, iI_bI0, iI_bI1, bI_T, bI_F, iI_jI]
theorem call_gift (hf : RFolk G6 G24 vn gn cn) (h : RPair G7 G9 G25 gn cn d n pn tp P) (hn : RNum G2 G26 f) (hc : RCoin G18 G39 vn cn) (hd : d < 3600) (h1 : G1.1 0 0 = iI d) (h23 : G23.1 91 0 = iI d) (a b : Int32) : ok (f_X11_gift F G1 G2 G6 G7 G9 G18 a b) (fun q => ok (f_X12_gift F G23 G24 G25 G26 G39 a b) fun r => q.1 = r.1 ∧ RCoin q.2 r.2 vn cn) := by
  obtain ⟨a, rfl, a1, a2⟩ := iI_ex a
  obtain ⟨b, rfl, b1, b2⟩ := iI_ex b
  obtain ⟨g1, g2, g3, g4, g5, g6, g7⟩ := id hc
  have hpn := h.1
  by_cases c1 : 0 ≤ a ∧ a ≤ pn - 1
  case neg =>
    simp (disch := omega) only [reduceIte, Nat.reduceEqDiff, Nat.reduceAdd, Nat.reduceSub, Nat.reduceMul, Nat.reduceLT, Int.reduceNeg, Int.reduceAdd, Int.reduceSub, Int.reduceMul, Int.reduceLT, Int.reduceLE, Int.reduceEq, Int.reduceToNat, reduceCtorEq, and_self, and_true, true_and, false_and, and_false, or_false, false_or, or_true, true_or, true_implies, false_implies, implies_true, not_true_eq_false, not_false_eq_true, Int.toNat_natCast, Int.cast_ofNat_Int, eq_self, ne_eq, ite_true, ite_false, if_true, if_false, Int.add_sub_cancel, Int.sub_add_cancel, Int.add_zero, Int.zero_add, cast_s, iI_in, iI_lit, iI_le, iI_lt, iI_eq, iI_cl, iI_add, iI_sub, iI_mul, iI_neg, iI_nI, ok_s, ok_ck, ok_bn, ok_ob, ck_iI, bn_eq, ob_s, om_n, om_s, cb_bI, gI_g, gI_2, gJ_1, gJ_g, gJ_2, gR_1, gR_2, gR_g, within_v, in_v, bI_i0, bI_i1, iI_bI0, iI_bI1, bI_T, bI_F, f_X11_gift, f_X12_gift, h1, h23, openPairAt_c h hd a1 a2, isPair_m h a1 a2, c1]
    exact hc
  have w := isOpen_m (F := F) h hd (i := a.toNat) (by omega)
  rw [show ((a.toNat : Nat) : Int) = a by omega] at w
  by_cases c2 : P a.toNat 4 = -1
  case neg =>
    simp (disch := omega) only [reduceIte, Nat.reduceEqDiff, Nat.reduceAdd, Nat.reduceSub, Nat.reduceMul, Nat.reduceLT, Int.reduceNeg, Int.reduceAdd, Int.reduceSub, Int.reduceMul, Int.reduceLT, Int.reduceLE, Int.reduceEq, Int.reduceToNat, reduceCtorEq, and_self, and_true, true_and, false_and, and_false, or_false, false_or, or_true, true_or, true_implies, false_implies, implies_true, not_true_eq_false, not_false_eq_true, Int.toNat_natCast, Int.cast_ofNat_Int, eq_self, ne_eq, ite_true, ite_false, if_true, if_false, Int.add_sub_cancel, Int.sub_add_cancel, Int.add_zero, Int.zero_add, cast_s, iI_in, iI_lit, iI_le, iI_lt, iI_eq, iI_cl, iI_add, iI_sub, iI_mul, iI_neg, iI_nI, ok_s, ok_ck, ok_bn, ok_ob, ck_iI, bn_eq, ob_s, om_n, om_s, cb_bI, gI_g, gI_2, gJ_1, gJ_g, gJ_2, gR_1, gR_2, gR_g, within_v, in_v, bI_i0, bI_i1, iI_bI0, iI_bI1, bI_T, bI_F, f_X11_gift, f_X12_gift, h1, h23, openPairAt_c h hd a1 a2, isPair_m h a1 a2, c1, w, c2]
    exact hc
  by_cases c3 : 1 ≤ b ∧ b ≤ 1000000
  case neg =>
    simp (disch := omega) only [reduceIte, Nat.reduceEqDiff, Nat.reduceAdd, Nat.reduceSub, Nat.reduceMul, Nat.reduceLT, Int.reduceNeg, Int.reduceAdd, Int.reduceSub, Int.reduceMul, Int.reduceLT, Int.reduceLE, Int.reduceEq, Int.reduceToNat, reduceCtorEq, and_self, and_true, true_and, false_and, and_false, or_false, false_or, or_true, true_or, true_implies, false_implies, implies_true, not_true_eq_false, not_false_eq_true, Int.toNat_natCast, Int.cast_ofNat_Int, eq_self, ne_eq, ite_true, ite_false, if_true, if_false, Int.add_sub_cancel, Int.sub_add_cancel, Int.add_zero, Int.zero_add, cast_s, iI_in, iI_lit, iI_le, iI_lt, iI_eq, iI_cl, iI_add, iI_sub, iI_mul, iI_neg, iI_nI, ok_s, ok_ck, ok_bn, ok_ob, ck_iI, bn_eq, ob_s, om_n, om_s, cb_bI, gI_g, gI_2, gJ_1, gJ_g, gJ_2, gR_1, gR_2, gR_g, within_v, in_v, bI_i0, bI_i1, iI_bI0, iI_bI1, bI_T, bI_F, f_X11_gift, f_X12_gift, h1, h23, openPairAt_c h hd a1 a2, isPair_m h a1 a2, c1, w, c2, c3]
    exact hc
  -- the child, its village
  have w1 := h.2.2.2.1 a.toNat (by omega)
  have w2 := h.2.2.2.2.1 a.toNat (by omega)
  have w3 := w1.2.2.1 2 (by omega)
  have w4 := w1.2.2.2.2.1
  obtain ⟨c, hcc⟩ : ∃ c : Nat, P a.toNat 2 = (c : Int) := ⟨(P a.toNat 2).toNat, by omega⟩
  rw [hcc] at w3 w4
  have hcn : c < cn := by omega
  obtain ⟨v1, v2, v3, v4, v5, v6, v7, v8, v9, va, vb, vc⟩ := id hf
  obtain ⟨u1, u2, u3, u4, ⟨v, u5, u6⟩, u7, u8⟩ := vc c hcn
  rw [u6] at u1
  -- the numbers
  have n5 := hn.1 5 (by omega)
  have n6 := hn.1 6 (by omega)
  have n7 := hn.1 7 (by omega)
  have n8 := hn.2
  have y5 : nHi 5 = 100 := rfl
  have y6 : nHi 6 = 100 := rfl
  have y7 : nHi 7 = 1000000 := by unfold nHi; simp
  have z5 : nLo 5 = 0 := rfl
  have z6 : nLo 6 = 0 := rfl
  have z7 : nLo 7 = 0 := rfl
  have m5 := int_mm (a := b) (b := f 5) (c := 100) (by omega) (by omega) (by omega)
  have m6 := int_mm (a := b) (b := f 6) (c := 100) (by omega) (by omega) (by omega)
  have m7 := int_mm (a := b) (b := f 5 + f 6) (c := 100) (by omega) (by omega) (by omega)
  rw [Int.mul_add] at m7
  generalize hM5 : b * f 5 = M5 at m5 m7
  generalize hM6 : b * f 6 = M6 at m6 m7
  have e5 : iI M5 / iI 100 = iI (M5 / 100) := iI_div (by omega) (by omega) (by omega) (by omega)
  have e6 : iI M6 / iI 100 = iI (M6 / 100) := iI_div (by omega) (by omega) (by omega) (by omega)
  generalize hX5 : M5 / 100 = X5 at e5
  generalize hX6 : M6 / 100 = X6 at e6
  have hX : 0 ≤ X5 ∧ 0 ≤ X6 ∧ X5 + X6 ≤ b := by omega
  -- what the child had this year
  have w5 := g6 c (by omega)
  obtain ⟨z, z1, z2, z3⟩ := w5.2.2.2
  have i1 := inYear_c (F := F) hc (c := c) (by omega) (iI d / iI 360)
  obtain ⟨B, hB1, hB2, hB3⟩ : ∃ B : Int, 0 ≤ B ∧ B ≤ 1000000 ∧ (if G39.1 160 c = iI d / iI 360 then G39.1 159 c else iI 0) = iI B := by
    by_cases e : G39.1 160 c = iI d / iI 360
    · exact ⟨z, z1, z2, by rw [if_pos e, z3]⟩
    · exact ⟨0, by omega, by omega, by rw [if_neg e]⟩
  rw [hB3] at i1
  have i3 : ∀ G18' : Grp, G18'.1 = G18.1 → f_X1_inYear F G18' (iI c) (iI d / iI 360) = some (iI B) := by
    intro G' e
    rw [← i1]
    unfold f_X1_inYear
    rw [e]
  have i2 : ∀ G39' : Grp, G39'.1 = G39.1 → f_X12_hadNow F G23 G39' (iI c) = some (iI B) := by
    intro G' e
    have := hadNow_m (F := F) hc h23 (c := c) (by omega)
    rw [hB3] at this
    rw [← this]
    unfold f_X12_hadNow
    rw [e]
  have i4 := i2 G39 rfl
  -- what it has of it
  have fin := fun (X : Int) => gift_fin (F := F) (G25 := G25) (G26 := G26) hc hf h23 (b := b) (c := c) (v := v) (X5 := X5) (X6 := X6) (B := B) (X := X) (by omega) u5 u6 c3 hX ⟨hB1, hB2⟩
  obtain ⟨Y, hY⟩ : ∃ Y : Int, (if 0 < f 7 - B then f 7 - B else 0) = Y := ⟨_, rfl⟩
  obtain ⟨X, hXX⟩ : ∃ X : Int, (if Y < b - X5 - X6 then Y else b - X5 - X6) = X := ⟨_, rfl⟩
  have hY2 : 0 ≤ Y ∧ Y ≤ 1000000 ∧ (Y = 0 ∨ Y = f 7 - B) ∧ f 7 - B ≤ Y := by
    by_cases k : 0 < f 7 - B
    · rw [if_pos k] at hY; omega
    · rw [if_neg k] at hY; omega
  have hX2 : 0 ≤ X ∧ X ≤ 1000000 ∧ B + X ≤ 1000000 ∧ X ≤ b - X5 - X6 := by
    by_cases k : Y < b - X5 - X6
    · rw [if_pos k] at hXX; omega
    · rw [if_neg k] at hXX; omega
  have gv := give_c (F := F) hc hn (c := c) (v := v) (by omega) (by omega) c3 hM5 hM6 e5 e6 hX ⟨hB1, hB2⟩ (iI d / iI 360) i1 hY hXX ⟨hX2.1, hX2.2.1⟩
  have md : f_X12_gift F G23 G24 G25 G26 G39 (iI a) (iI b) = f_X12_gift_b110 F G23 G24 G25 G26 G39 (iI b) (iI c) (iI X5) (iI X6) (iI (b - X5 - X6)) (iI X) := by
    unfold f_X12_gift
    simp only [bn_eq]
    simp (disch := omega) only [reduceIte, Nat.reduceEqDiff, Nat.reduceAdd, Nat.reduceSub, Nat.reduceMul, Nat.reduceLT, Int.reduceNeg, Int.reduceAdd, Int.reduceSub, Int.reduceMul, Int.reduceLT, Int.reduceLE, Int.reduceEq, Int.reduceToNat, reduceCtorEq, and_self, and_true, true_and, false_and, and_false, or_false, false_or, or_true, true_or, true_implies, false_implies, implies_true, not_true_eq_false, not_false_eq_true, Int.toNat_natCast, Int.cast_ofNat_Int, eq_self, ne_eq, ite_true, ite_false, if_true, if_false, Int.add_sub_cancel, Int.sub_add_cancel, Int.add_zero, Int.zero_add, cast_s, iI_in, iI_lit, iI_le, iI_lt, iI_eq, iI_cl, iI_add, iI_sub, iI_mul, iI_neg, iI_nI, ok_s, ok_ck, ok_bn, ok_ob, ck_iI, bn_eq, ob_s, om_n, om_s, cb_bI, gI_g, gI_2, gJ_1, gJ_g, gJ_2, gR_1, gR_2, gR_g, within_v, in_v, bI_i0, bI_i1, iI_bI0, iI_bI1, bI_T, bI_F, h1, h23, isPair_m h a1 a2, c1, c2, c3, w, w4, n5.2.1, n6.2.1, n7.2.1, hM5, hM6, e5, e6, i4]
    by_cases k3 : 0 ≤ f 7 - B
    · by_cases k4 : f 7 - B ≤ b - X5 - X6
      · rw [if_pos k3, if_pos k4]
        rw [show f 7 - B = X by
          by_cases k : Y < b - X5 - X6
          · rw [if_pos k] at hXX; omega
          · rw [if_neg k] at hXX; omega]
      · rw [if_pos k3, if_neg k4]
        rw [show X = b - X5 - X6 by
          by_cases k : Y < b - X5 - X6
          · rw [if_pos k] at hXX; omega
          · rw [if_neg k] at hXX; omega]
    · rw [if_neg k3]
      rw [show X = 0 by
          by_cases k : Y < b - X5 - X6
          · rw [if_pos k] at hXX; omega
          · rw [if_neg k] at hXX; omega]
  rw [md]
  simp (disch := omega) only [reduceIte, Nat.reduceEqDiff, Nat.reduceAdd, Nat.reduceSub, Nat.reduceMul, Nat.reduceLT, Int.reduceNeg, Int.reduceAdd, Int.reduceSub, Int.reduceMul, Int.reduceLT, Int.reduceLE, Int.reduceEq, Int.reduceToNat, reduceCtorEq, and_self, and_true, true_and, false_and, and_false, or_false, false_or, or_true, true_or, true_implies, false_implies, implies_true, not_true_eq_false, not_false_eq_true, Int.toNat_natCast, Int.cast_ofNat_Int, eq_self, ne_eq, ite_true, ite_false, if_true, if_false, Int.add_sub_cancel, Int.sub_add_cancel, Int.add_zero, Int.zero_add, cast_s, iI_in, iI_lit, iI_le, iI_lt, iI_eq, iI_cl, iI_add, iI_sub, iI_mul, iI_neg, iI_nI, ok_s, ok_ck, ok_bn, ok_ob, ck_iI, bn_eq, ob_s, om_n, om_s, cb_bI, gI_g, gI_2, gJ_1, gJ_g, gJ_2, gR_1, gR_2, gR_g, within_v, in_v, bI_i0, bI_i1, iI_bI0, iI_bI1, bI_T, bI_F, f_X11_gift, h1, openPairAt_c h hd a1 a2, c1, c2, c3, w3, u1, gv]
  exact fin X (by omega) (by omega) (by omega) i2
end PR
