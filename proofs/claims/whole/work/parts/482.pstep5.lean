section PR
variable {F v n p t0 : Nat} {G3 G27 G4 G28 : Grp} {b : Nat → Nat}
theorem turnA_m {cnt rz s o : Nat} (h : MI G28 n p cnt rz s) (ht : TPE G3 G27 n b) (hp : p < n) (ha : isAt (b p)) {s2 : Int} (hs2 : s2 = if (b p : Int) = 94 then 1 else 0) {Ga G1 Gr G' : Grp} (e1 : f_X12_part F (gI G28 91 21 (iI ((p : Int) + 1))) (iI s2) (iI (b p)) (iI (-1)) (iI (-1)) = some (iI cnt, Ga)) (e2 : f_X12_pushes F Ga (iI cnt) = some G1) (e3 : f_X12_repeats F G27 G1 = some Gr) (e4 : f_X12_comes F Gr (iI o) = some G') (fu : Nat) : f_X12_readsPattern_l21 F (fu + 1) G27 G28 (iI o) = f_X12_readsPattern_l21 F fu G27 G' (iI o) := by
  have sg := sign_m' (F := F) h ht hp
  have hb := ht.2.2.2 p
  have ai := atom_is_m (F := F) (c := (b p : Int)) (by omega) (by omega)
  have h21 := h.2.1
  show f_X12_readsPattern_l21b F (f_X12_readsPattern_l21 F fu) G27 G28 _ = _
  by_cases c : (b p : Int) = 94
  · rw [if_pos c] at hs2
    subst hs2
    rw [c] at sg ai ha e1
    simp (disch := omega) only [reduceIte, Nat.reduceEqDiff, Nat.reduceAdd, Nat.reduceSub, Nat.reduceMul, Nat.reduceLT, Int.reduceNeg, Int.reduceAdd, Int.reduceSub, Int.reduceMul, Int.reduceLT, Int.reduceLE, Int.reduceEq, Int.reduceToNat, reduceCtorEq, and_self, and_true, true_and, false_and, and_false, or_false, false_or, or_true, true_or, true_implies, false_implies, implies_true, not_true_eq_false, not_false_eq_true, Int.toNat_natCast, Int.cast_ofNat_Int, eq_self, ne_eq, ite_true, ite_false, if_true, if_false, Int.add_sub_cancel, Int.sub_add_cancel, Int.add_zero, Int.zero_add, cast_s, iI_in, iI_lit, iI_le, iI_lt, iI_eq, iI_cl, iI_add, iI_sub, iI_mul, iI_neg, iI_nI, ok_s, ok_ck, ok_bn, ok_ob, ck_iI, bn_eq, ob_s, om_n, om_s, cb_bI, gI_g, gI_2, gJ_1, gJ_g, gJ_2, gR_1, gR_2, gR_g, within_v, in_v, bI_i0, bI_i1, iI_bI0, iI_bI1, bI_T, bI_F, f_X12_readsPattern_l21b, f_X12_readsPattern_b56, sg, ai, ha, h21, e1, e2, e3, e4]
  · rw [if_neg c] at hs2
    subst hs2
    simp (disch := omega) only [reduceIte, Nat.reduceEqDiff, Nat.reduceAdd, Nat.reduceSub, Nat.reduceMul, Nat.reduceLT, Int.reduceNeg, Int.reduceAdd, Int.reduceSub, Int.reduceMul, Int.reduceLT, Int.reduceLE, Int.reduceEq, Int.reduceToNat, reduceCtorEq, and_self, and_true, true_and, false_and, and_false, or_false, false_or, or_true, true_or, true_implies, false_implies, implies_true, not_true_eq_false, not_false_eq_true, Int.toNat_natCast, Int.cast_ofNat_Int, eq_self, ne_eq, ite_true, ite_false, if_true, if_false, Int.add_sub_cancel, Int.sub_add_cancel, Int.add_zero, Int.zero_add, cast_s, iI_in, iI_lit, iI_le, iI_lt, iI_eq, iI_cl, iI_add, iI_sub, iI_mul, iI_neg, iI_nI, ok_s, ok_ck, ok_bn, ok_ob, ck_iI, bn_eq, ob_s, om_n, om_s, cb_bI, gI_g, gI_2, gJ_1, gJ_g, gJ_2, gR_1, gR_2, gR_g, within_v, in_v, bI_i0, bI_i1, iI_bI0, iI_bI1, bI_T, bI_F, f_X12_readsPattern_l21b, f_X12_readsPattern_b56, sg, ai, ha, h21, c, e1, e2, e3, e4]
theorem turnB_m {l0 : Lv} {rest : List Lv} {cnt rz s : Nat} (h : MI G28 n p cnt rz s) (ht : TPE G3 G27 n b) (hp : p < n) (hc : b p = 41) (ho : rest.length < 6) (hi : ar G28 120 (rest.length + 1) = 1) {Gc Gr G' : Grp} (e1 : f_X12_closesRows F G28 (iI ((rest.length + 1 : Nat) : Int)) = some Gc) (e2 : Gc.1 91 21 = iI p) (e3 : f_X12_repeats F G27 (gI Gc 91 21 (iI ((p : Int) + 1))) = some Gr) (e4 : f_X12_comes F Gr (iI (rest.length : Int)) = some G') (fu : Nat) : f_X12_readsPattern_l21 F (fu + 1) G27 G28 (iI ((rest.length + 1 : Nat) : Int)) = f_X12_readsPattern_l21 F fu G27 G' (iI (rest.length : Int)) := by
  have sg := sign_m' (F := F) h ht hp
  have hc' : (b p : Int) = 41 := by omega
  rw [hc'] at sg
  have ai := atom_is_m (F := F) (c := 41) (by omega) (by omega)
  have na : ¬ isAt 41 := by unfold isAt isWd; omega
  have hi := iI_of hi
  have n0 : ¬ (rest.length : Int) + 1 ≤ 0 := by omega
  have t1 : ((rest.length : Int) + 1).toNat = rest.length + 1 := by omega
  simp (disch := omega) only [reduceIte, Nat.reduceEqDiff, Nat.reduceAdd, Nat.reduceSub, Nat.reduceMul, Nat.reduceLT, Int.reduceNeg, Int.reduceAdd, Int.reduceSub, Int.reduceMul, Int.reduceLT, Int.reduceLE, Int.reduceEq, Int.reduceToNat, reduceCtorEq, and_self, and_true, true_and, false_and, and_false, or_false, false_or, or_true, true_or, true_implies, false_implies, implies_true, not_true_eq_false, not_false_eq_true, Int.toNat_natCast, Int.cast_ofNat_Int, eq_self, ne_eq, ite_true, ite_false, if_true, if_false, Int.add_sub_cancel, Int.sub_add_cancel, Int.add_zero, Int.zero_add, cast_s] at e1
  show f_X12_readsPattern_l21b F (f_X12_readsPattern_l21 F fu) G27 G28 _ = _
  simp (disch := omega) only [reduceIte, Nat.reduceEqDiff, Nat.reduceAdd, Nat.reduceSub, Nat.reduceMul, Nat.reduceLT, Int.reduceNeg, Int.reduceAdd, Int.reduceSub, Int.reduceMul, Int.reduceLT, Int.reduceLE, Int.reduceEq, Int.reduceToNat, reduceCtorEq, and_self, and_true, true_and, false_and, and_false, or_false, false_or, or_true, true_or, true_implies, false_implies, implies_true, not_true_eq_false, not_false_eq_true, Int.toNat_natCast, Int.cast_ofNat_Int, eq_self, ne_eq, ite_true, ite_false, if_true, if_false, Int.add_sub_cancel, Int.sub_add_cancel, Int.add_zero, Int.zero_add, cast_s, iI_in, iI_lit, iI_le, iI_lt, iI_eq, iI_cl, iI_add, iI_sub, iI_mul, iI_neg, iI_nI, ok_s, ok_ck, ok_bn, ok_ob, ck_iI, bn_eq, ob_s, om_n, om_s, cb_bI, gI_g, gI_2, gJ_1, gJ_g, gJ_2, gR_1, gR_2, gR_g, within_v, in_v, bI_i0, bI_i1, iI_bI0, iI_bI1, bI_T, bI_F, f_X12_readsPattern_l21b, sg, ai, na, n0, t1, hi, e1, e2, e3, e4]
theorem turnD_m {cnt rz s o : Nat} (h : MI G28 n p cnt rz s) (ht : TPE G3 G27 n b) (hp : p < n) (hc : b p = 40) (ho : o < 6) (fu : Nat) : f_X12_readsPattern_l21 F (fu + 1) G27 G28 (iI (o : Int)) = f_X12_readsPattern_l21 F fu G27 (gI (gI (gI G28 120 (o + 1) (iI 0)) 121 (o + 1) (iI 0)) 91 21 (iI ((p : Int) + 1))) (iI ((o + 1 : Nat) : Int)) := by
  have sg := sign_m' (F := F) h ht hp
  have hc' : (b p : Int) = 40 := by omega
  rw [hc'] at sg
  have ai := atom_is_m (F := F) (c := 40) (by omega) (by omega)
  have na : ¬ isAt 40 := by unfold isAt isWd; omega
  have n6 : ¬ (o : Int) = 6 := by omega
  have t1 : ((o : Int) + 1).toNat = o + 1 := by omega
  have h21 := h.2.1
  show f_X12_readsPattern_l21b F (f_X12_readsPattern_l21 F fu) G27 G28 _ = _
  simp (disch := omega) only [reduceIte, Nat.reduceEqDiff, Nat.reduceAdd, Nat.reduceSub, Nat.reduceMul, Nat.reduceLT, Int.reduceNeg, Int.reduceAdd, Int.reduceSub, Int.reduceMul, Int.reduceLT, Int.reduceLE, Int.reduceEq, Int.reduceToNat, reduceCtorEq, and_self, and_true, true_and, false_and, and_false, or_false, false_or, or_true, true_or, true_implies, false_implies, implies_true, not_true_eq_false, not_false_eq_true, Int.toNat_natCast, Int.cast_ofNat_Int, eq_self, ne_eq, ite_true, ite_false, if_true, if_false, Int.add_sub_cancel, Int.sub_add_cancel, Int.add_zero, Int.zero_add, cast_s, iI_in, iI_lit, iI_le, iI_lt, iI_eq, iI_cl, iI_add, iI_sub, iI_mul, iI_neg, iI_nI, ok_s, ok_ck, ok_bn, ok_ob, ck_iI, bn_eq, ob_s, om_n, om_s, cb_bI, gI_g, gI_2, gJ_1, gJ_g, gJ_2, gR_1, gR_2, gR_g, within_v, in_v, bI_i0, bI_i1, iI_bI0, iI_bI1, bI_T, bI_F, f_X12_readsPattern_l21b, sg, ai, na, n6, t1, h21]
theorem turnD_bad {cnt rz s o : Nat} (h : MI G28 n p cnt rz s) (ht : TPE G3 G27 n b) (hp : p < n) (hc : b p = 40) (ho : o = 6) (fu : Nat) : f_X12_readsPattern_l21 F (fu + 1) G27 G28 (iI (o : Int)) = some (iI 0, gI G28 91 23 (iI (3000 + p))) := by
  have sg := sign_m' (F := F) h ht hp
  have hc' : (b p : Int) = 40 := by omega
  rw [hc'] at sg
  have ai := atom_is_m (F := F) (c := 40) (by omega) (by omega)
  have na : ¬ isAt 40 := by unfold isAt isWd; omega
  have wv := wrong_m (F := F) h 3
  rw [show (1000 : Int) * 3 + p = 3000 + p by omega] at wv
  subst ho
  show f_X12_readsPattern_l21b F (f_X12_readsPattern_l21 F fu) G27 G28 _ = _
  simp (disch := omega) only [reduceIte, Nat.reduceEqDiff, Nat.reduceAdd, Nat.reduceSub, Nat.reduceMul, Nat.reduceLT, Int.reduceNeg, Int.reduceAdd, Int.reduceSub, Int.reduceMul, Int.reduceLT, Int.reduceLE, Int.reduceEq, Int.reduceToNat, reduceCtorEq, and_self, and_true, true_and, false_and, and_false, or_false, false_or, or_true, true_or, true_implies, false_implies, implies_true, not_true_eq_false, not_false_eq_true, Int.toNat_natCast, Int.cast_ofNat_Int, eq_self, ne_eq, ite_true, ite_false, if_true, if_false, Int.add_sub_cancel, Int.sub_add_cancel, Int.add_zero, Int.zero_add, cast_s, iI_in, iI_lit, iI_le, iI_lt, iI_eq, iI_cl, iI_add, iI_sub, iI_mul, iI_neg, iI_nI, ok_s, ok_ck, ok_bn, ok_ob, ck_iI, bn_eq, ob_s, om_n, om_s, cb_bI, gI_g, gI_2, gJ_1, gJ_g, gJ_2, gR_1, gR_2, gR_g, within_v, in_v, bI_i0, bI_i1, iI_bI0, iI_bI1, bI_T, bI_F, f_X12_readsPattern_l21b, sg, ai, na, wv, cb0]
theorem turnE_m {cnt rz s o m : Nat} (h : MI G28 n p cnt rz s) (ht : TPE G3 G27 n b) (hp : p < n) (hc : b p = 124) (ho : o < 7) (hi : ar G28 120 o = 1) (hm : ar G28 121 o = m) (fu : Nat) : f_X12_readsPattern_l21 F (fu + 1) G27 G28 (iI (o : Int)) = f_X12_readsPattern_l21 F fu G27 (gI (gI (gI G28 121 o (iI ((m : Int) + 1))) 120 o (iI 0)) 91 21 (iI ((p : Int) + 1))) (iI (o : Int)) := by
  have sg := sign_m' (F := F) h ht hp
  have hc' : (b p : Int) = 124 := by omega
  rw [hc'] at sg
  have ai := atom_is_m (F := F) (c := 124) (by omega) (by omega)
  have na : ¬ isAt 124 := by unfold isAt isWd; omega
  have hi := iI_of hi
  have hm := iI_of hm
  have h21 := h.2.1
  show f_X12_readsPattern_l21b F (f_X12_readsPattern_l21 F fu) G27 G28 _ = _
  simp (disch := omega) only [reduceIte, Nat.reduceEqDiff, Nat.reduceAdd, Nat.reduceSub, Nat.reduceMul, Nat.reduceLT, Int.reduceNeg, Int.reduceAdd, Int.reduceSub, Int.reduceMul, Int.reduceLT, Int.reduceLE, Int.reduceEq, Int.reduceToNat, reduceCtorEq, and_self, and_true, true_and, false_and, and_false, or_false, false_or, or_true, true_or, true_implies, false_implies, implies_true, not_true_eq_false, not_false_eq_true, Int.toNat_natCast, Int.cast_ofNat_Int, eq_self, ne_eq, ite_true, ite_false, if_true, if_false, Int.add_sub_cancel, Int.sub_add_cancel, Int.add_zero, Int.zero_add, cast_s, iI_in, iI_lit, iI_le, iI_lt, iI_eq, iI_cl, iI_add, iI_sub, iI_mul, iI_neg, iI_nI, ok_s, ok_ck, ok_bn, ok_ob, ck_iI, bn_eq, ob_s, om_n, om_s, cb_bI, gI_g, gI_2, gJ_1, gJ_g, gJ_2, gR_1, gR_2, gR_g, within_v, in_v, bI_i0, bI_i1, iI_bI0, iI_bI1, bI_T, bI_F, f_X12_readsPattern_l21b, sg, ai, na, hi, hm, h21]
/-- | or ) where nothing stands -/
theorem turnE_bad {cnt rz s o : Nat} (h : MI G28 n p cnt rz s) (ht : TPE G3 G27 n b) (hp : p < n) (hc : b p = 124 ∨ (b p = 41 ∧ 0 < o)) (ho : o < 7) (hi : ar G28 120 o = 0) (fu : Nat) : f_X12_readsPattern_l21 F (fu + 1) G27 G28 (iI (o : Int)) = some (iI 0, gI G28 91 23 (iI (1000 + p))) := by
  have sg := sign_m' (F := F) h ht hp
  have hi := iI_of hi
  have wv := wrong_m (F := F) h 1
  rw [show (1000 : Int) * 1 + p = 1000 + p by omega] at wv
  rcases hc with hc | ⟨hc, h0⟩
  · have hc' : (b p : Int) = 124 := by omega
    rw [hc'] at sg
    have ai := atom_is_m (F := F) (c := 124) (by omega) (by omega)
    have na : ¬ isAt 124 := by unfold isAt isWd; omega
    show f_X12_readsPattern_l21b F (f_X12_readsPattern_l21 F fu) G27 G28 _ = _
    simp (disch := omega) only [reduceIte, Nat.reduceEqDiff, Nat.reduceAdd, Nat.reduceSub, Nat.reduceMul, Nat.reduceLT, Int.reduceNeg, Int.reduceAdd, Int.reduceSub, Int.reduceMul, Int.reduceLT, Int.reduceLE, Int.reduceEq, Int.reduceToNat, reduceCtorEq, and_self, and_true, true_and, false_and, and_false, or_false, false_or, or_true, true_or, true_implies, false_implies, implies_true, not_true_eq_false, not_false_eq_true, Int.toNat_natCast, Int.cast_ofNat_Int, eq_self, ne_eq, ite_true, ite_false, if_true, if_false, Int.add_sub_cancel, Int.sub_add_cancel, Int.add_zero, Int.zero_add, cast_s, iI_in, iI_lit, iI_le, iI_lt, iI_eq, iI_cl, iI_add, iI_sub, iI_mul, iI_neg, iI_nI, ok_s, ok_ck, ok_bn, ok_ob, ck_iI, bn_eq, ob_s, om_n, om_s, cb_bI, gI_g, gI_2, gJ_1, gJ_g, gJ_2, gR_1, gR_2, gR_g, within_v, in_v, bI_i0, bI_i1, iI_bI0, iI_bI1, bI_T, bI_F, f_X12_readsPattern_l21b, sg, ai, na, hi, wv, cb0]
  · have hc' : (b p : Int) = 41 := by omega
    rw [hc'] at sg
    have ai := atom_is_m (F := F) (c := 41) (by omega) (by omega)
    have na : ¬ isAt 41 := by unfold isAt isWd; omega
    have h0' : ¬ (o : Int) ≤ 0 := by omega
    show f_X12_readsPattern_l21b F (f_X12_readsPattern_l21 F fu) G27 G28 _ = _
    simp (disch := omega) only [reduceIte, Nat.reduceEqDiff, Nat.reduceAdd, Nat.reduceSub, Nat.reduceMul, Nat.reduceLT, Int.reduceNeg, Int.reduceAdd, Int.reduceSub, Int.reduceMul, Int.reduceLT, Int.reduceLE, Int.reduceEq, Int.reduceToNat, reduceCtorEq, and_self, and_true, true_and, false_and, and_false, or_false, false_or, or_true, true_or, true_implies, false_implies, implies_true, not_true_eq_false, not_false_eq_true, Int.toNat_natCast, Int.cast_ofNat_Int, eq_self, ne_eq, ite_true, ite_false, if_true, if_false, Int.add_sub_cancel, Int.sub_add_cancel, Int.add_zero, Int.zero_add, cast_s, iI_in, iI_lit, iI_le, iI_lt, iI_eq, iI_cl, iI_add, iI_sub, iI_mul, iI_neg, iI_nI, ok_s, ok_ck, ok_bn, ok_ob, ck_iI, bn_eq, ob_s, om_n, om_s, cb_bI, gI_g, gI_2, gJ_1, gJ_g, gJ_2, gR_1, gR_2, gR_g, within_v, in_v, bI_i0, bI_i1, iI_bI0, iI_bI1, bI_T, bI_F, f_X12_readsPattern_l21b, sg, ai, na, hi, h0', wv, cb0]
/-- all else -/
theorem turnF_m {o : Nat} {c : Nat} (sg : f_X12_sign F G27 G28 = some (iI (c : Int))) (hc : c < 256) (na : ¬ isAt c) (ho : o < 7) (h40 : c ≠ 40) (h124 : c ≠ 124) (h41 : c ≠ 41 ∨ o = 0) (fu : Nat) : f_X12_readsPattern_l21 F (fu + 1) G27 G28 (iI (o : Int)) = f_X12_readsPattern_b237 F G27 G28 (iI (o : Int)) (iI (c : Int)) := by
  have ai := atom_is_m (F := F) (c := (c : Int)) (by omega) (by omega)
  have n1 : ¬ (c : Int) = 40 := by omega
  have n2 : ¬ (c : Int) = 124 := by omega
  show f_X12_readsPattern_l21b F (f_X12_readsPattern_l21 F fu) G27 G28 _ = _
  by_cases q : (c : Int) = 41
  · have e : (o : Int) ≤ 0 := by omega
    simp (disch := omega) only [reduceIte, Nat.reduceEqDiff, Nat.reduceAdd, Nat.reduceSub, Nat.reduceMul, Nat.reduceLT, Int.reduceNeg, Int.reduceAdd, Int.reduceSub, Int.reduceMul, Int.reduceLT, Int.reduceLE, Int.reduceEq, Int.reduceToNat, reduceCtorEq, and_self, and_true, true_and, false_and, and_false, or_false, false_or, or_true, true_or, true_implies, false_implies, implies_true, not_true_eq_false, not_false_eq_true, Int.toNat_natCast, Int.cast_ofNat_Int, eq_self, ne_eq, ite_true, ite_false, if_true, if_false, Int.add_sub_cancel, Int.sub_add_cancel, Int.add_zero, Int.zero_add, cast_s, iI_in, iI_lit, iI_le, iI_lt, iI_eq, iI_cl, iI_add, iI_sub, iI_mul, iI_neg, iI_nI, ok_s, ok_ck, ok_bn, ok_ob, ck_iI, bn_eq, ob_s, om_n, om_s, cb_bI, gI_g, gI_2, gJ_1, gJ_g, gJ_2, gR_1, gR_2, gR_g, within_v, in_v, bI_i0, bI_i1, iI_bI0, iI_bI1, bI_T, bI_F, f_X12_readsPattern_l21b, sg, ai, na, n1, n2, eq_true q, e]
  · skip
    simp (disch := omega) only [reduceIte, Nat.reduceEqDiff, Nat.reduceAdd, Nat.reduceSub, Nat.reduceMul, Nat.reduceLT, Int.reduceNeg, Int.reduceAdd, Int.reduceSub, Int.reduceMul, Int.reduceLT, Int.reduceLE, Int.reduceEq, Int.reduceToNat, reduceCtorEq, and_self, and_true, true_and, false_and, and_false, or_false, false_or, or_true, true_or, true_implies, false_implies, implies_true, not_true_eq_false, not_false_eq_true, Int.toNat_natCast, Int.cast_ofNat_Int, eq_self, ne_eq, ite_true, ite_false, if_true, if_false, Int.add_sub_cancel, Int.sub_add_cancel, Int.add_zero, Int.zero_add, cast_s, iI_in, iI_lit, iI_le, iI_lt, iI_eq, iI_cl, iI_add, iI_sub, iI_mul, iI_neg, iI_nI, ok_s, ok_ck, ok_bn, ok_ob, ck_iI, bn_eq, ob_s, om_n, om_s, cb_bI, gI_g, gI_2, gJ_1, gJ_g, gJ_2, gR_1, gR_2, gR_g, within_v, in_v, bI_i0, bI_i1, iI_bI0, iI_bI1, bI_T, bI_F, f_X12_readsPattern_l21b, sg, ai, na, n1, n2, q]
/-- what both have read of a pattern -/
def RES (v n t0 rz c0 : Nat) (b : Nat → Nat) (G4 G28 : Grp) (A B : Option (Int32 × Grp)) : Prop :=
  (∃ G4' G28' flt, A = some (iI 0, G4') ∧ B = some (iI 0, G28') ∧ G4'.1 v 11 = iI flt ∧ G28'.1 91 23 = iI flt ∧ (1000 ≤ flt ∧ flt < 10000) ∧ G4'.2 = G4.2 ∧ ∀ x k, (x < v ∨ v + 9 < x) → G4'.1 x k = G4.1 x k) ∨
  (∃ G4' G28' p' S' cnt' q, A = some (if p' < n then iI 1 else iI 0, G4') ∧ B = some (iI 1, G28') ∧ p' ≤ n ∧ (p' < n → b p' = 59) ∧ G4'.1 v 10 = iI (if p' < n then (p' : Int) + 1 else p') ∧ POK G4' G28' v n p' t0 S' cnt' rz q ∧ c0 ≤ cnt' ∧ FRC v t0 G4 G4' ∧ FRM c0 G28 G28')
theorem RES.back {rz c0 : Nat} {G4' G28' : Grp} {A B : Option (Int32 × Grp)} (h : RES v n t0 rz c0 b G4' G28' A B) (h1 : FRC v t0 G4 G4') (h2 : FRM c0 G28 G28') : RES v n t0 rz c0 b G4 G28 A B := by
  rcases h with ⟨A1, A2, fl, a1, a2, a3, a4, a5, a6, a7⟩ | ⟨A1, A2, p', S', cnt', q, a1, a2, a3, a4, a5, a6, a7, a8, a9⟩
  · exact Or.inl ⟨A1, A2, fl, a1, a2, a3, a4, a5, a6.trans h1.1.1, fun x k hx => (a7 x k hx).trans (h1.1.2.1 x k hx)⟩
  · exact Or.inr ⟨A1, A2, p', S', cnt', q, a1, a2, a3, a4, a5, a6, a7, h1.tr a8, h2.tr a9⟩
theorem RES.bad {rz c0 p : Nat} {k : Int} (hk : k = 1000 ∨ k = 3000) (hp : p ≤ 200) {A B : Option (Int32 × Grp)} (e1 : A = some (iI 0, gI G4 v 11 (iI (k + p)))) (e2 : B = some (iI 0, gI G28 91 23 (iI (k + p)))) : RES v n t0 rz c0 b G4 G28 A B := by
  refine Or.inl ⟨_, _, k + p, e1, e2, ?_, ?_, by omega, rfl, fun x j hx => by rw [gI_g, if_neg (by omega)]⟩
  · rw [gI_g, if_pos ⟨rfl, rfl⟩]
  · rw [gI_g, if_pos ⟨rfl, rfl⟩]
theorem pat_loop (ht : TPE G3 G27 n b) (hF : 200000 ≤ F) {rz c0 : Nat} : ∀ k p, n - p = k → ∀ fu fu', k < fu → k < fu' → ∀ (G4 G28 : Grp) (l : Lv) (rest : List Lv) (S cnt : Nat) (it rp : Int), PS G4 G28 v n p t0 l rest S cnt rz it rp → (lfu l = true → rp = 1 ∨ (rp = 0 ∧ (n ≤ p ∨ ¬ isRp (b p)))) → c0 ≤ cnt → RES v n t0 rz c0 b G4 G28 (f_X7_parsePattern_l4 F fu G3 G4 v) (f_X12_readsPattern_l21 F fu' G27 G28 (iI (rest.length : Int))) := by
  intro k
  induction k using Nat.strongRecOn with
  | _ k ih =>
  intro p hk fu fu' hfu hfu' G4 G28 l rest S cnt it rp H RC hc0
  obtain ⟨T1, T2, T3, T4⟩ := id ht
  obtain ⟨P1, P2, P3, P4, P5, P6, P7, P8, ⟨Q1, Q2, Q3, Q4, Q5, Q6⟩, P9, P10, P11⟩ := id H
  obtain ⟨fu', rfl⟩ : ∃ f, fu' = f + 1 := ⟨fu' - 1, by omega⟩
  by_cases hp : p < n
  case neg =>
    -- the end of the text
    obtain ⟨fu, rfl⟩ : ∃ f, fu = f + 1 := ⟨fu - 1, by omega⟩
    have sg := sign_m0 (F := F) (G27 := G27) P2 (by omega) (by omega) (by omega)
    have sg : f_X12_sign F G27 G28 = some (iI ((0 : Nat) : Int)) := sg
    have tm := turnF_m (o := rest.length) sg (by omega) (by unfold isAt isWd; omega) (by omega) (by omega) (by omega) (Or.inl (by omega)) fu'
    rw [tm, b237_v H T1 (by omega)]
    have pn : p = n := by omega
    have e1 : (n : Int) ≤ p := by omega
    obtain ⟨h1, h2, h3, h4, h5, h6, h7, h8⟩ := id P1
    have rv := refuse_v (F := F) P1 1
    rw [show (1000 : Int) * 1 + p = 1000 + p by omega] at rv
    have b107 : f_X7_parsePattern_b107 F G3 G4 v = some (iI 0, gI G4 v 11 (iI (1000 + p))) := by
      simp (disch := omega) only [reduceIte, Nat.reduceEqDiff, Nat.reduceAdd, Nat.reduceSub, Nat.reduceMul, Nat.reduceLT, Int.reduceNeg, Int.reduceAdd, Int.reduceSub, Int.reduceMul, Int.reduceLT, Int.reduceLE, Int.reduceEq, Int.reduceToNat, reduceCtorEq, and_self, and_true, true_and, false_and, and_false, or_false, false_or, or_true, true_or, true_implies, false_implies, implies_true, not_true_eq_false, not_false_eq_true, Int.toNat_natCast, Int.cast_ofNat_Int, eq_self, ne_eq, ite_true, ite_false, if_true, if_false, Int.add_sub_cancel, Int.sub_add_cancel, Int.add_zero, Int.zero_add, cast_s, iI_in, iI_lit, iI_le, iI_lt, iI_eq, iI_cl, iI_add, iI_sub, iI_mul, iI_neg, iI_nI, ok_s, ok_ck, ok_bn, ok_ob, ck_iI, bn_eq, ob_s, om_n, om_s, cb_bI, gI_g, gI_2, gJ_1, gJ_g, gJ_2, gR_1, gR_2, gR_g, within_v, in_v, bI_i0, bI_i1, iI_bI0, iI_bI1, bI_T, bI_F, f_X7_parsePattern_b107, rv, cb0]
    show RES v n t0 rz c0 b G4 G28 (f_X7_parsePattern_l4b F (f_X7_parsePattern_l4 F fu) G3 G4 v) _
    by_cases r0 : rest.length = 0
    · have r0' : ¬ (0 : Int) < (rest.length : Int) := by omega
      cases hf : lfu l with
      | false =>
        rw [if_neg (fun z => by cases z.2.1)]
        have ei := P9.mpr hf
        refine RES.bad (Or.inl rfl) (by omega) ?_ rfl
        simp (disch := omega) only [reduceIte, Nat.reduceEqDiff, Nat.reduceAdd, Nat.reduceSub, Nat.reduceMul, Nat.reduceLT, Int.reduceNeg, Int.reduceAdd, Int.reduceSub, Int.reduceMul, Int.reduceLT, Int.reduceLE, Int.reduceEq, Int.reduceToNat, reduceCtorEq, and_self, and_true, true_and, false_and, and_false, or_false, false_or, or_true, true_or, true_implies, false_implies, implies_true, not_true_eq_false, not_false_eq_true, Int.toNat_natCast, Int.cast_ofNat_Int, eq_self, ne_eq, ite_true, ite_false, if_true, if_false, Int.add_sub_cancel, Int.sub_add_cancel, Int.add_zero, Int.zero_add, cast_s, iI_in, iI_lit, iI_le, iI_lt, iI_eq, iI_cl, iI_add, iI_sub, iI_mul, iI_neg, iI_nI, ok_s, ok_ck, ok_bn, ok_ob, ck_iI, bn_eq, ob_s, om_n, om_s, cb_bI, gI_g, gI_2, gJ_1, gJ_g, gJ_2, gR_1, gR_2, gR_g, within_v, in_v, bI_i0, bI_i1, iI_bI0, iI_bI1, bI_T, bI_F, f_X7_parsePattern_l4b, h2, h3, h4, h6, e1, r0', ei, b107]
      | true =>
        rw [if_pos ⟨r0, rfl, Or.inl (by omega)⟩]
        have en : rest = [] := List.eq_nil_of_length_eq_zero r0
        subst en
        obtain ⟨Gc, q, cnt', f1, f2, f3, f4, f5, f6, f7⟩ := finish (F := F) H T1 hf hc0 hF
        have f2' := iI_of f2
        have ni : ¬ it = -1 := fun z => by have := P9.mp z; rw [hf] at this; cases this
        refine Or.inr ⟨_, Gc, p, S, cnt', q, ?_, ?_, by omega, fun z => absurd z hp, ?_, f4, f5, f6, f7⟩
        · rw [if_neg hp]
          have hl0 : ((([] : List Lv).length : Nat) : Int) = 0 := rfl
          rw [hl0] at h4
          simp (disch := omega) only [reduceIte, Nat.reduceEqDiff, Nat.reduceAdd, Nat.reduceSub, Nat.reduceMul, Nat.reduceLT, Int.reduceNeg, Int.reduceAdd, Int.reduceSub, Int.reduceMul, Int.reduceLT, Int.reduceLE, Int.reduceEq, Int.reduceToNat, reduceCtorEq, and_self, and_true, true_and, false_and, and_false, or_false, false_or, or_true, true_or, true_implies, false_implies, implies_true, not_true_eq_false, not_false_eq_true, Int.toNat_natCast, Int.cast_ofNat_Int, eq_self, ne_eq, ite_true, ite_false, if_true, if_false, Int.add_sub_cancel, Int.sub_add_cancel, Int.add_zero, Int.zero_add, cast_s, iI_in, iI_lit, iI_le, iI_lt, iI_eq, iI_cl, iI_add, iI_sub, iI_mul, iI_neg, iI_nI, ok_s, ok_ck, ok_bn, ok_ob, ck_iI, bn_eq, ob_s, om_n, om_s, cb_bI, gI_g, gI_2, gJ_1, gJ_g, gJ_2, gR_1, gR_2, gR_g, within_v, in_v, bI_i0, bI_i1, iI_bI0, iI_bI1, bI_T, bI_F, f_X7_parsePattern_l4b, h2, h3, h4, h5, h6, e1, ni, f2']
        · skip
          simp (disch := omega) only [reduceIte, Nat.reduceEqDiff, Nat.reduceAdd, Nat.reduceSub, Nat.reduceMul, Nat.reduceLT, Int.reduceNeg, Int.reduceAdd, Int.reduceSub, Int.reduceMul, Int.reduceLT, Int.reduceLE, Int.reduceEq, Int.reduceToNat, reduceCtorEq, and_self, and_true, true_and, false_and, and_false, or_false, false_or, or_true, true_or, true_implies, false_implies, implies_true, not_true_eq_false, not_false_eq_true, Int.toNat_natCast, Int.cast_ofNat_Int, eq_self, ne_eq, ite_true, ite_false, if_true, if_false, Int.add_sub_cancel, Int.sub_add_cancel, Int.add_zero, Int.zero_add, cast_s, iI_in, iI_lit, iI_le, iI_lt, iI_eq, iI_cl, iI_add, iI_sub, iI_mul, iI_neg, iI_nI, ok_s, ok_ck, ok_bn, ok_ob, ck_iI, bn_eq, ob_s, om_n, om_s, cb_bI, gI_g, gI_2, gJ_1, gJ_g, gJ_2, gR_1, gR_2, gR_g, within_v, in_v, bI_i0, bI_i1, iI_bI0, iI_bI1, bI_T, bI_F, f_X12_readsPattern_b273, f1]
        · rw [if_neg hp, gI_g, if_neg (by omega)]; exact h3
    · rw [if_neg (fun z => r0 z.1)]
      have r0' : (0 : Int) < (rest.length : Int) := by omega
      refine RES.bad (Or.inl rfl) (by omega) ?_ rfl
      simp (disch := omega) only [reduceIte, Nat.reduceEqDiff, Nat.reduceAdd, Nat.reduceSub, Nat.reduceMul, Nat.reduceLT, Int.reduceNeg, Int.reduceAdd, Int.reduceSub, Int.reduceMul, Int.reduceLT, Int.reduceLE, Int.reduceEq, Int.reduceToNat, reduceCtorEq, and_self, and_true, true_and, false_and, and_false, or_false, false_or, or_true, true_or, true_implies, false_implies, implies_true, not_true_eq_false, not_false_eq_true, Int.toNat_natCast, Int.cast_ofNat_Int, eq_self, ne_eq, ite_true, ite_false, if_true, if_false, Int.add_sub_cancel, Int.sub_add_cancel, Int.add_zero, Int.zero_add, cast_s, iI_in, iI_lit, iI_le, iI_lt, iI_eq, iI_cl, iI_add, iI_sub, iI_mul, iI_neg, iI_nI, ok_s, ok_ck, ok_bn, ok_ob, ck_iI, bn_eq, ob_s, om_n, om_s, cb_bI, gI_g, gI_2, gJ_1, gJ_g, gJ_2, gR_1, gR_2, gR_g, within_v, in_v, bI_i0, bI_i1, iI_bI0, iI_bI1, bI_T, bI_F, f_X7_parsePattern_l4b, h2, h3, h4, h6, e1, r0', b107]
  case pos =>
  have hb := T4 p
  have sg := sign_m' (F := F) P2 ht hp
  by_cases ha : isAt (b p)
  · -- an atom
    obtain ⟨s2, hs2⟩ : ∃ s2 : Int, s2 = if (b p : Int) = 94 then 1 else 0 := ⟨_, rfl⟩
    obtain ⟨A1, Ga, B1, t1, t2, t3, t4, t5, t6⟩ := atom_step (F := F) H ht hp ha hc0 hs2
    obtain ⟨A2, Gr, B2, d, rp', q, cnt', u1, u2, u3, u4, u5, u6, u7, u8, u9⟩ := pend_step (F := F) t4 ht (c0 := c0) (by omega)
    rw [turnA_m P2 ht hp ha hs2 t2 t3 u2 u3 fu']
    obtain ⟨fu, rfl⟩ : ∃ f, fu = f + d + 1 := ⟨fu - d - 1, by omega⟩
    rw [t1 (fu + d), u1 fu]
    have hple := u4.2.2.2.2.2.2.2.2.1.2.1
    exact (ih (n - (p + 1 + d)) (by omega) (p + 1 + d) rfl fu fu' (by omega) (by omega) A2 B2 _ rest (S + 2) cnt' _ rp' u4 (fun _ => u5) u7).back (t5.tr u8) (t6.tr u9)
  · have fl := fun (k : Int) (hk : k = 1000 ∨ k = 3000) (e1 : ∀ fu, f_X7_parsePattern_l4 F (fu + 1) G3 G4 v = some (iI 0, gI G4 v 11 (iI (k + p)))) (e2 : f_X12_readsPattern_l21 F (fu' + 1) G27 G28 (iI (rest.length : Int)) = some (iI 0, gI G28 91 23 (iI (k + p)))) => (RES.bad (n := n) (t0 := t0) (rz := rz) (c0 := c0) (b := b) hk (by omega) (by
      obtain ⟨fu, rfl⟩ : ∃ f, fu = f + 1 := ⟨fu - 1, by omega⟩
      exact e1 fu) e2 : RES v n t0 rz c0 b G4 G28 (f_X7_parsePattern_l4 F fu G3 G4 v) (f_X12_readsPattern_l21 F (fu' + 1) G27 G28 (iI (rest.length : Int))))
    have hitem := P6.1
    by_cases c40 : b p = 40
    · by_cases hd : rest.length = 6
      · refine fl 3000 (Or.inr rfl) (fun fu => ?_) (turnD_bad P2 ht hp c40 hd fu')
        refine turn_bad P1 ht (by omega) ⟨P10, P11⟩ hp (by omega) ?_ fu
        rw [show ((b p : Nat) : Int) = 40 by omega]
        exact bad_open P1 hd
      · obtain ⟨A1, t1, t2, t3, t4⟩ := open_step (F := F) (c0 := c0) H ht hp c40 (by omega)
        rw [turnD_m P2 ht hp c40 (by omega) fu']
        obtain ⟨fu, rfl⟩ : ∃ f, fu = f + 1 := ⟨fu - 1, by omega⟩
        rw [t1 fu]
        exact (ih (n - (p + 1)) (by omega) (p + 1) rfl fu fu' (by omega) (by omega) A1 _ (newLv S) (l :: rest) (S + 3) cnt _ rp t2 (fun z => by cases z) hc0).back t3 t4
    · by_cases c124 : b p = 124
      · cases hf : lfu l with
        | true =>
          obtain ⟨A1, t1, t2, t3, t4⟩ := row_step (F := F) (c0 := c0) H ht hp c124 hf
          rw [hf, if_pos rfl] at hitem
          rw [turnE_m P2 ht hp c124 (by omega) hitem P6.2.1 fu']
          obtain ⟨fu, rfl⟩ : ∃ f, fu = f + 1 := ⟨fu - 1, by omega⟩
          rw [t1 fu]
          exact (ih (n - (p + 1)) (by omega) (p + 1) rfl fu fu' (by omega) (by omega) A1 _ (nextLv l S) rest (S + 1) cnt _ rp t2 (fun z => by cases z) hc0).back t3 t4
        | false =>
          rw [hf, if_neg (by decide)] at hitem
          refine fl 1000 (Or.inl rfl) (fun fu => ?_) (turnE_bad P2 ht hp (Or.inl c124) (by omega) hitem fu')
          exact turn_bad P1 ht (by omega) ⟨P10, P11⟩ hp (by omega) (bad_sign P1 (by omega) ⟨P10, P11⟩ hb ha c40 (Or.inl (P9.mpr hf))) fu
      · by_cases c41 : b p = 41 ∧ 0 < rest.length
        · cases hf : lfu l with
          | true =>
            cases rest with
            | nil => exact absurd c41.2 (Nat.not_lt_zero _)
            | cons l2 rest =>
              have hln : (l2 :: rest).length = rest.length + 1 := rfl
              rw [hln] at Q1
              obtain ⟨A1, Gc, q, cnt1, t1, t2, t3, t4, t5, t6, t7⟩ := close_step (F := F) H ht hp c41.1 hf hc0 hF
              obtain ⟨A2, Gr, B2, d, rp', q', cnt', u1, u2, u3, u4, u5, u6, u7, u8, u9⟩ := pend_step (F := F) t4 ht (c0 := c0) t5
              rw [hf, if_pos rfl] at hitem
              have tb := turnB_m (l0 := l) P2 ht hp c41.1 (by omega) hitem t2 t3 u2 u3 fu'
              rw [hln, tb]
              obtain ⟨fu, rfl⟩ : ∃ f, fu = f + d + 1 := ⟨fu - d - 1, by omega⟩
              rw [t1 (fu + d), u1 fu]
              have hple := u4.2.2.2.2.2.2.2.2.1.2.1
              exact (ih (n - (p + 1 + d)) (by omega) (p + 1 + d) rfl fu fu' (by omega) (by omega) A2 B2 _ rest S cnt' _ rp' u4 (fun _ => u5) u7).back (t6.tr u8) (t7.tr u9)
          | false =>
            rw [hf, if_neg (by decide)] at hitem
            refine fl 1000 (Or.inl rfl) (fun fu => ?_) (turnE_bad P2 ht hp (Or.inr c41) (by omega) hitem fu')
            exact turn_bad P1 ht (by omega) ⟨P10, P11⟩ hp (by omega) (bad_sign P1 (by omega) ⟨P10, P11⟩ hb ha c40 (Or.inl (P9.mpr hf))) fu
        · have tm := turnF_m (o := rest.length) sg hb ha (by omega) c40 c124 (by omega) fu'
          have bv := b237_v (F := F) (G27 := G27) H T1 (c := b p) hb
          by_cases good : rest.length = 0 ∧ lfu l = true ∧ (n ≤ p ∨ b p = 59)
          · rw [if_pos good] at bv
            rw [tm, bv]
            obtain ⟨r0, hf, g3⟩ := good
            have c59 : b p = 59 := by omega
            have en : rest = [] := List.eq_nil_of_length_eq_zero r0
            subst en
            obtain ⟨Gc, q, cnt', f1, f2, f3, f4, f5, f6, f7⟩ := finish (F := F) H T1 hf hc0 hF
            have f2' := iI_of f2
            have ni : ¬ it = -1 := fun z => by have := P9.mp z; rw [hf] at this; cases this
            obtain ⟨h1, h2, h3, h4, h5, h6, h7, h8⟩ := id P1
            have sc := sign_c (F := F) P1 ht hp
            have c59' : (b p : Int) = 59 := by omega
            rw [c59'] at sc
            have e1 : ¬ (n : Int) ≤ p := by omega
            obtain ⟨fu, rfl⟩ : ∃ f, fu = f + 1 := ⟨fu - 1, by omega⟩
            have ci10 : (gI G4 (v + 2) (ltl l (lm l)) (iI t0)).1 v 10 = iI p := by rw [gI_g, if_neg (by omega)]; exact h3
            obtain ⟨p1, p2, p3, p4, p5, p6, p7, p8, p9, p10, p11⟩ := f4
            refine Or.inr ⟨gI (gI G4 (v + 2) (ltl l (lm l)) (iI t0)) v 10 (iI ((p : Int) + 1)), Gc, p, S, cnt', q, ?_, ?_, by omega, fun _ => c59, ?_, ⟨?_, ?_, p3, p4, p5, p6, p7, ?_, ?_, p10, ?_⟩, f5, f6.tr (step_FRC _ _), f7⟩
            · rw [if_pos hp]
              show f_X7_parsePattern_l4b F (f_X7_parsePattern_l4 F fu) G3 G4 v = _
              have hl0 : ((([] : List Lv).length : Nat) : Int) = 0 := rfl
              rw [hl0] at h4
              simp (disch := omega) only [reduceIte, Nat.reduceEqDiff, Nat.reduceAdd, Nat.reduceSub, Nat.reduceMul, Nat.reduceLT, Int.reduceNeg, Int.reduceAdd, Int.reduceSub, Int.reduceMul, Int.reduceLT, Int.reduceLE, Int.reduceEq, Int.reduceToNat, reduceCtorEq, and_self, and_true, true_and, false_and, and_false, or_false, false_or, or_true, true_or, true_implies, false_implies, implies_true, not_true_eq_false, not_false_eq_true, Int.toNat_natCast, Int.cast_ofNat_Int, eq_self, ne_eq, ite_true, ite_false, if_true, if_false, Int.add_sub_cancel, Int.sub_add_cancel, Int.add_zero, Int.zero_add, cast_s, iI_in, iI_lit, iI_le, iI_lt, iI_eq, iI_cl, iI_add, iI_sub, iI_mul, iI_neg, iI_nI, ok_s, ok_ck, ok_bn, ok_ob, ck_iI, bn_eq, ob_s, om_n, om_s, cb_bI, gI_g, gI_2, gJ_1, gJ_g, gJ_2, gR_1, gR_2, gR_g, within_v, in_v, bI_i0, bI_i1, iI_bI0, iI_bI1, bI_T, bI_F, f_X7_parsePattern_l4b, h2, h3, h4, h5, h6, e1, sc, ni, f2', va2]
            · skip
              simp (disch := omega) only [reduceIte, Nat.reduceEqDiff, Nat.reduceAdd, Nat.reduceSub, Nat.reduceMul, Nat.reduceLT, Int.reduceNeg, Int.reduceAdd, Int.reduceSub, Int.reduceMul, Int.reduceLT, Int.reduceLE, Int.reduceEq, Int.reduceToNat, reduceCtorEq, and_self, and_true, true_and, false_and, and_false, or_false, false_or, or_true, true_or, true_implies, false_implies, implies_true, not_true_eq_false, not_false_eq_true, Int.toNat_natCast, Int.cast_ofNat_Int, eq_self, ne_eq, ite_true, ite_false, if_true, if_false, Int.add_sub_cancel, Int.sub_add_cancel, Int.add_zero, Int.zero_add, cast_s, iI_in, iI_lit, iI_le, iI_lt, iI_eq, iI_cl, iI_add, iI_sub, iI_mul, iI_neg, iI_nI, ok_s, ok_ck, ok_bn, ok_ob, ck_iI, bn_eq, ob_s, om_n, om_s, cb_bI, gI_g, gI_2, gJ_1, gJ_g, gJ_2, gR_1, gR_2, gR_g, within_v, in_v, bI_i0, bI_i1, iI_bI0, iI_bI1, bI_T, bI_F, f_X12_readsPattern_b273, f1]
            · rw [if_pos hp, gI_g, if_pos ⟨rfl, rfl⟩]
            · rw [gI_g, if_neg (by omega)]; exact p1
            · rw [gI_g, if_neg (by omega)]; exact p2
            · rw [step_gph]; exact p8
            · rw [step_gph]; exact p9
            · rw [step_gph]; exact p11
          · rw [if_neg good] at bv
            refine fl 1000 (Or.inl rfl) (fun fu => ?_) (tm.trans bv)
            have hx : it = -1 ∨ lfu l = true := by
              cases hf : lfu l with
              | false => exact Or.inl (P9.mpr hf)
              | true => exact Or.inr rfl
            refine turn_bad P1 ht (by omega) ⟨P10, P11⟩ hp (fun z => ?_) (bad_sign P1 (by omega) ⟨P10, P11⟩ hb ha c40 ?_) fu
            · rcases hx with q | q
              · exact z.2.2 q
              · exact good ⟨z.2.1, q, Or.inr z.1⟩
            · rcases hx with q | q
              · exact Or.inl q
              · refine Or.inr ⟨c124, by omega, ?_⟩
                rcases RC q with z | ⟨_, z⟩
                · exact Or.inr z
                · exact Or.inl (z.resolve_left (by omega))
end PR
