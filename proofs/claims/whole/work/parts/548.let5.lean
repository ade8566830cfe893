/-! the call letter -/
section PR
variable {F : Nat} {G0 G1 G2 G3 G4 G5 G6 G7 G8 G9 G10 G11 G12 G13 G14 G15 G23 G24 G25 G26 G27 G32 G33 G34 G35 G36 G41 : Grp} {gn cn d n pn ln tn sn z : Nat} {tp tl Ln b : Nat → Nat} {P L T : Nat → Nat → Int} {X : Nat → Nat → Nat} {f : Nat → Int}
/-- LETTERS of both, and their pairs -/
def RLet (G3 G7 G9 G10 G13 G14 G15 G25 G32 G33 G34 : Grp) (gn cn d n pn ln sn : Nat) (tp tl Ln : Nat → Nat) (P L : Nat → Nat → Int) (X : Nat → Nat → Nat) : Prop :=
  RPair G7 G9 G25 gn cn d n pn tp P ∧ LC G10 G13 n ln tp tl L ∧ LM G32 ln L ∧ LB pn d ln L ∧ MKS G14 G33 ln tl ∧ LGS G15 G34 n ln tl ∧ TXS G3 G32 ln tl Ln L X ∧ RSil pn d ln P L ∧ WT sn ln L ∧ 174 ≤ n
theorem add_c {p : Nat} {G13' : Grp} {t : Nat} (h1 : G10.1 44 1 = iI ln) (hl : ln < 200) (h2 : G13'.2.2 n 0 = some t) : f_X6_add F G9 G10 G13' n = some (iI ln, gI G9 t 6 (G9.1 t 6 + 1), gI (gR G10 45 ln (some n)) 44 1 (iI ((ln : Int) + 1))) := by
  have e : (ln : Int) < 200 := by omega
  simp (disch := omega) only [reduceIte, Nat.reduceEqDiff, Nat.reduceAdd, Nat.reduceSub, Nat.reduceMul, Nat.reduceLT, Int.reduceNeg, Int.reduceAdd, Int.reduceSub, Int.reduceMul, Int.reduceLT, Int.reduceLE, Int.reduceEq, Int.reduceToNat, reduceCtorEq, and_self, and_true, true_and, false_and, and_false, or_false, false_or, or_true, true_or, true_implies, false_implies, implies_true, not_true_eq_false, not_false_eq_true, Int.toNat_natCast, Int.cast_ofNat_Int, eq_self, ne_eq, ite_true, ite_false, if_true, if_false, Int.add_sub_cancel, Int.sub_add_cancel, Int.add_zero, Int.zero_add, cast_s, iI_in, iI_lit, iI_le, iI_lt, iI_eq, iI_cl, iI_add, iI_sub, iI_mul, iI_neg, iI_nI, ok_s, ok_ck, ok_bn, ok_ob, ck_iI, bn_eq, ob_s, om_n, om_s, cb_bI, gI_g, gI_2, gJ_1, gJ_g, gJ_2, gR_1, gR_2, gR_g, within_v, in_v, bI_i0, bI_i1, iI_bI0, iI_bI1, bI_T, bI_F, f_X6_add, h1, e, h2]
theorem let_fail_c {a y m c0 c1 c2 c3 : Int} (hp : RPair G7 G9 G25 gn cn d n pn tp P) (ht : RTape G1 G3 G27 z b) (hd : d < 3600) (h0 : G10.1 44 1 = iI ln) (hl : ln ≤ 200) (hF : 200000 ≤ F)
    (ba : -2147483648 ≤ a ∧ a < 2147483648) (hy' : -2147483648 ≤ y ∧ y < 2147483648) (bm : -2147483648 ≤ m ∧ m < 2147483648) (b0 : -2147483648 ≤ c0 ∧ c0 < 2147483648) (b1 : -2147483648 ≤ c1 ∧ c1 < 2147483648) (b2 : -2147483648 ≤ c2 ∧ c2 < 2147483648) (b3 : -2147483648 ≤ c3 ∧ c3 < 2147483648)
    (hno : ¬ (((0 ≤ a ∧ a ≤ (pn : Int) - 1) ∧ P a.toNat 4 = -1) ∧ (0 ≤ y ∧ y ≤ 1) ∧ ln < 200 ∧ (0 ≤ c0 ∧ c0 ≤ 99) ∧ (0 ≤ c1 ∧ c1 ≤ 99) ∧ (0 ≤ c2 ∧ c2 ≤ 99) ∧ (0 ≤ c3 ∧ c3 ≤ 99) ∧ (1 ≤ m ∧ m ≤ 160 ∧ m ≤ z ∧ ∀ i : Nat, (i : Int) < m → isSg (b i : Int)))) :
    f_X11_letter F n G0 G1 G3 G7 G9 G10 G13 G14 (iI a) (iI y) (iI c0) (iI c1) (iI c2) (iI c3) (iI m) = some (iI (-1), n, G0, G1, G3, G9, G10, G13, G14) := by
  have oc := openPairAt_c (F := F) hp hd ba.1 ba.2
  obtain ⟨x1, -⟩ := both_text (F := F) ht hF bm.1 bm.2
  have k0 := isMark_c (F := F) b0.1 b0.2
  have k1 := isMark_c (F := F) b1.1 b1.2
  have k2 := isMark_c (F := F) b2.1 b2.2
  have k3 := isMark_c (F := F) b3.1 b3.2
  by_cases ca : (0 ≤ a ∧ a ≤ (pn : Int) - 1) ∧ P a.toNat 4 = -1
  · rw [if_pos ca] at oc
    by_cases cy : 0 ≤ y ∧ y ≤ 1
    · by_cases cl : ln < 200
      · have cl' : (ln : Int) < 200 := by omega
        by_cases d0 : 0 ≤ c0 ∧ c0 ≤ 99
        · rw [bI_t d0] at k0
          by_cases d1 : 0 ≤ c1 ∧ c1 ≤ 99
          · rw [bI_t d1] at k1
            by_cases d2 : 0 ≤ c2 ∧ c2 ≤ 99
            · rw [bI_t d2] at k2
              by_cases d3 : 0 ≤ c3 ∧ c3 ≤ 99
              · rw [bI_t d3] at k3
                rw [@bI_f _ (clD _) fun w => hno ⟨ca, cy, cl, d0, d1, d2, d3, w⟩] at x1
                simp (disch := omega) only [reduceIte, Nat.reduceEqDiff, Nat.reduceAdd, Nat.reduceSub, Nat.reduceMul, Nat.reduceLT, Int.reduceNeg, Int.reduceAdd, Int.reduceSub, Int.reduceMul, Int.reduceLT, Int.reduceLE, Int.reduceEq, Int.reduceToNat, reduceCtorEq, and_self, and_true, true_and, false_and, and_false, or_false, false_or, or_true, true_or, true_implies, false_implies, implies_true, not_true_eq_false, not_false_eq_true, Int.toNat_natCast, Int.cast_ofNat_Int, eq_self, ne_eq, ite_true, ite_false, if_true, if_false, Int.add_sub_cancel, Int.sub_add_cancel, Int.add_zero, Int.zero_add, cast_s, iI_in, iI_lit, iI_le, iI_lt, iI_eq, iI_cl, iI_add, iI_sub, iI_mul, iI_neg, iI_nI, ok_s, ok_ck, ok_bn, ok_ob, ck_iI, bn_eq, ob_s, om_n, om_s, cb_bI, gI_g, gI_2, gJ_1, gJ_g, gJ_2, gR_1, gR_2, gR_g, within_v, in_v, bI_i0, bI_i1, iI_bI0, iI_bI1, bI_T, bI_F, f_X11_letter, oc, cy, h0, cl', k0, k1, k2, k3, x1]
              · rw [bI_f d3] at k3
                simp (disch := omega) only [reduceIte, Nat.reduceEqDiff, Nat.reduceAdd, Nat.reduceSub, Nat.reduceMul, Nat.reduceLT, Int.reduceNeg, Int.reduceAdd, Int.reduceSub, Int.reduceMul, Int.reduceLT, Int.reduceLE, Int.reduceEq, Int.reduceToNat, reduceCtorEq, and_self, and_true, true_and, false_and, and_false, or_false, false_or, or_true, true_or, true_implies, false_implies, implies_true, not_true_eq_false, not_false_eq_true, Int.toNat_natCast, Int.cast_ofNat_Int, eq_self, ne_eq, ite_true, ite_false, if_true, if_false, Int.add_sub_cancel, Int.sub_add_cancel, Int.add_zero, Int.zero_add, cast_s, iI_in, iI_lit, iI_le, iI_lt, iI_eq, iI_cl, iI_add, iI_sub, iI_mul, iI_neg, iI_nI, ok_s, ok_ck, ok_bn, ok_ob, ck_iI, bn_eq, ob_s, om_n, om_s, cb_bI, gI_g, gI_2, gJ_1, gJ_g, gJ_2, gR_1, gR_2, gR_g, within_v, in_v, bI_i0, bI_i1, iI_bI0, iI_bI1, bI_T, bI_F, f_X11_letter, oc, cy, h0, cl', k0, k1, k2, k3]
            · rw [bI_f d2] at k2
              simp (disch := omega) only [reduceIte, Nat.reduceEqDiff, Nat.reduceAdd, Nat.reduceSub, Nat.reduceMul, Nat.reduceLT, Int.reduceNeg, Int.reduceAdd, Int.reduceSub, Int.reduceMul, Int.reduceLT, Int.reduceLE, Int.reduceEq, Int.reduceToNat, reduceCtorEq, and_self, and_true, true_and, false_and, and_false, or_false, false_or, or_true, true_or, true_implies, false_implies, implies_true, not_true_eq_false, not_false_eq_true, Int.toNat_natCast, Int.cast_ofNat_Int, eq_self, ne_eq, ite_true, ite_false, if_true, if_false, Int.add_sub_cancel, Int.sub_add_cancel, Int.add_zero, Int.zero_add, cast_s, iI_in, iI_lit, iI_le, iI_lt, iI_eq, iI_cl, iI_add, iI_sub, iI_mul, iI_neg, iI_nI, ok_s, ok_ck, ok_bn, ok_ob, ck_iI, bn_eq, ob_s, om_n, om_s, cb_bI, gI_g, gI_2, gJ_1, gJ_g, gJ_2, gR_1, gR_2, gR_g, within_v, in_v, bI_i0, bI_i1, iI_bI0, iI_bI1, bI_T, bI_F, f_X11_letter, oc, cy, h0, cl', k0, k1, k2]
          · rw [bI_f d1] at k1
            simp (disch := omega) only [reduceIte, Nat.reduceEqDiff, Nat.reduceAdd, Nat.reduceSub, Nat.reduceMul, Nat.reduceLT, Int.reduceNeg, Int.reduceAdd, Int.reduceSub, Int.reduceMul, Int.reduceLT, Int.reduceLE, Int.reduceEq, Int.reduceToNat, reduceCtorEq, and_self, and_true, true_and, false_and, and_false, or_false, false_or, or_true, true_or, true_implies, false_implies, implies_true, not_true_eq_false, not_false_eq_true, Int.toNat_natCast, Int.cast_ofNat_Int, eq_self, ne_eq, ite_true, ite_false, if_true, if_false, Int.add_sub_cancel, Int.sub_add_cancel, Int.add_zero, Int.zero_add, cast_s, iI_in, iI_lit, iI_le, iI_lt, iI_eq, iI_cl, iI_add, iI_sub, iI_mul, iI_neg, iI_nI, ok_s, ok_ck, ok_bn, ok_ob, ck_iI, bn_eq, ob_s, om_n, om_s, cb_bI, gI_g, gI_2, gJ_1, gJ_g, gJ_2, gR_1, gR_2, gR_g, within_v, in_v, bI_i0, bI_i1, iI_bI0, iI_bI1, bI_T, bI_F, f_X11_letter, oc, cy, h0, cl', k0, k1]
        · rw [bI_f d0] at k0
          simp (disch := omega) only [reduceIte, Nat.reduceEqDiff, Nat.reduceAdd, Nat.reduceSub, Nat.reduceMul, Nat.reduceLT, Int.reduceNeg, Int.reduceAdd, Int.reduceSub, Int.reduceMul, Int.reduceLT, Int.reduceLE, Int.reduceEq, Int.reduceToNat, reduceCtorEq, and_self, and_true, true_and, false_and, and_false, or_false, false_or, or_true, true_or, true_implies, false_implies, implies_true, not_true_eq_false, not_false_eq_true, Int.toNat_natCast, Int.cast_ofNat_Int, eq_self, ne_eq, ite_true, ite_false, if_true, if_false, Int.add_sub_cancel, Int.sub_add_cancel, Int.add_zero, Int.zero_add, cast_s, iI_in, iI_lit, iI_le, iI_lt, iI_eq, iI_cl, iI_add, iI_sub, iI_mul, iI_neg, iI_nI, ok_s, ok_ck, ok_bn, ok_ob, ck_iI, bn_eq, ob_s, om_n, om_s, cb_bI, gI_g, gI_2, gJ_1, gJ_g, gJ_2, gR_1, gR_2, gR_g, within_v, in_v, bI_i0, bI_i1, iI_bI0, iI_bI1, bI_T, bI_F, f_X11_letter, oc, cy, h0, cl', k0]
      · have cl' : ¬ (ln : Int) < 200 := by omega
        simp (disch := omega) only [reduceIte, Nat.reduceEqDiff, Nat.reduceAdd, Nat.reduceSub, Nat.reduceMul, Nat.reduceLT, Int.reduceNeg, Int.reduceAdd, Int.reduceSub, Int.reduceMul, Int.reduceLT, Int.reduceLE, Int.reduceEq, Int.reduceToNat, reduceCtorEq, and_self, and_true, true_and, false_and, and_false, or_false, false_or, or_true, true_or, true_implies, false_implies, implies_true, not_true_eq_false, not_false_eq_true, Int.toNat_natCast, Int.cast_ofNat_Int, eq_self, ne_eq, ite_true, ite_false, if_true, if_false, Int.add_sub_cancel, Int.sub_add_cancel, Int.add_zero, Int.zero_add, cast_s, iI_in, iI_lit, iI_le, iI_lt, iI_eq, iI_cl, iI_add, iI_sub, iI_mul, iI_neg, iI_nI, ok_s, ok_ck, ok_bn, ok_ob, ck_iI, bn_eq, ob_s, om_n, om_s, cb_bI, gI_g, gI_2, gJ_1, gJ_g, gJ_2, gR_1, gR_2, gR_g, within_v, in_v, bI_i0, bI_i1, iI_bI0, iI_bI1, bI_T, bI_F, f_X11_letter, oc, cy, h0, cl']
    · have kw : f_X11_within F (iI y) 0 1 = some 0 := by
        rw [within_v, bI_f]
        intro z
        have z : iI 0 ≤ iI y ∧ iI y ≤ iI 1 := z
        rw [iI_le (by omega) (by omega) (by omega) (by omega), iI_le (by omega) (by omega) (by omega) (by omega)] at z
        exact cy z
      unfold f_X11_letter
      rw [oc, ob_s, om_s, kw, ob_s, if_p rfl]
      rfl
  · rw [if_neg ca] at oc
    unfold f_X11_letter
    rw [oc, ob_s, om_n]
    rfl
theorem let_fail_m {a y m c0 c1 c2 c3 : Int} (hp : RPair G7 G9 G25 gn cn d n pn tp P) (ht : RTape G1 G3 G27 z b) (hd : d < 3600) (h0 : G32.1 91 57 = iI ln) (hl : ln ≤ 200) (hF : 200000 ≤ F)
    (ba : -2147483648 ≤ a ∧ a < 2147483648) (hy' : -2147483648 ≤ y ∧ y < 2147483648) (bm : -2147483648 ≤ m ∧ m < 2147483648) (b0 : -2147483648 ≤ c0 ∧ c0 < 2147483648) (b1 : -2147483648 ≤ c1 ∧ c1 < 2147483648) (b2 : -2147483648 ≤ c2 ∧ c2 < 2147483648) (b3 : -2147483648 ≤ c3 ∧ c3 < 2147483648)
    (hno : ¬ (((0 ≤ a ∧ a ≤ (pn : Int) - 1) ∧ P a.toNat 4 = -1) ∧ (0 ≤ y ∧ y ≤ 1) ∧ ln < 200 ∧ (0 ≤ c0 ∧ c0 ≤ 99) ∧ (0 ≤ c1 ∧ c1 ≤ 99) ∧ (0 ≤ c2 ∧ c2 ≤ 99) ∧ (0 ≤ c3 ∧ c3 ≤ 99) ∧ (1 ≤ m ∧ m ≤ 160 ∧ m ≤ z ∧ ∀ i : Nat, (i : Int) < m → isSg (b i : Int)))) :
    f_X12_letter F G23 G25 G27 G32 G33 (iI a) (iI y) (iI c0) (iI c1) (iI c2) (iI c3) (iI m) = some (iI (-1), G27, G32, G33) := by
  have im := isPair_m (F := F) hp ba.1 ba.2
  obtain ⟨-, x1⟩ := both_text (F := F) ht hF bm.1 bm.2
  have k0 := isMark_m (F := F) b0.1 b0.2
  have k1 := isMark_m (F := F) b1.1 b1.2
  have k2 := isMark_m (F := F) b2.1 b2.2
  have k3 := isMark_m (F := F) b3.1 b3.2
  by_cases ca : 0 ≤ a ∧ a ≤ (pn : Int) - 1
  · rw [bI_t ca] at im
    have om := isOpen_m (F := F) hp hd (i := a.toNat) (by omega)
    rw [show ((a.toNat : Nat) : Int) = a by omega] at om
    by_cases co : P a.toNat 4 = -1
    · rw [bI_t co] at om
      by_cases cy : 0 ≤ y ∧ y ≤ 1
      · by_cases d0 : 0 ≤ c0 ∧ c0 ≤ 99
        · rw [bI_t d0] at k0
          by_cases d1 : 0 ≤ c1 ∧ c1 ≤ 99
          · rw [bI_t d1] at k1
            by_cases d2 : 0 ≤ c2 ∧ c2 ≤ 99
            · rw [bI_t d2] at k2
              by_cases d3 : 0 ≤ c3 ∧ c3 ≤ 99
              · rw [bI_t d3] at k3
                by_cases cx : 1 ≤ m ∧ m ≤ 160 ∧ m ≤ z ∧ ∀ i : Nat, (i : Int) < m → isSg (b i : Int)
                · rw [@bI_t _ (clD _) cx] at x1
                  have cl : (ln : Int) = 200 := by
                    by_cases cl : ln < 200
                    · exact absurd ⟨⟨ca, co⟩, cy, cl, d0, d1, d2, d3, cx⟩ hno
                    · omega
                  simp (disch := omega) only [reduceIte, Nat.reduceEqDiff, Nat.reduceAdd, Nat.reduceSub, Nat.reduceMul, Nat.reduceLT, Int.reduceNeg, Int.reduceAdd, Int.reduceSub, Int.reduceMul, Int.reduceLT, Int.reduceLE, Int.reduceEq, Int.reduceToNat, reduceCtorEq, and_self, and_true, true_and, false_and, and_false, or_false, false_or, or_true, true_or, true_implies, false_implies, implies_true, not_true_eq_false, not_false_eq_true, Int.toNat_natCast, Int.cast_ofNat_Int, eq_self, ne_eq, ite_true, ite_false, if_true, if_false, Int.add_sub_cancel, Int.sub_add_cancel, Int.add_zero, Int.zero_add, cast_s, iI_in, iI_lit, iI_le, iI_lt, iI_eq, iI_cl, iI_add, iI_sub, iI_mul, iI_neg, iI_nI, ok_s, ok_ck, ok_bn, ok_ob, ck_iI, bn_eq, ob_s, om_n, om_s, cb_bI, gI_g, gI_2, gJ_1, gJ_g, gJ_2, gR_1, gR_2, gR_g, within_v, in_v, bI_i0, bI_i1, iI_bI0, iI_bI1, bI_T, bI_F, f_X12_letter, im, om, cy, k0, k1, k2, k3, x1, h0, eq_true cl]
                · rw [@bI_f _ (clD _) cx] at x1
                  simp (disch := omega) only [reduceIte, Nat.reduceEqDiff, Nat.reduceAdd, Nat.reduceSub, Nat.reduceMul, Nat.reduceLT, Int.reduceNeg, Int.reduceAdd, Int.reduceSub, Int.reduceMul, Int.reduceLT, Int.reduceLE, Int.reduceEq, Int.reduceToNat, reduceCtorEq, and_self, and_true, true_and, false_and, and_false, or_false, false_or, or_true, true_or, true_implies, false_implies, implies_true, not_true_eq_false, not_false_eq_true, Int.toNat_natCast, Int.cast_ofNat_Int, eq_self, ne_eq, ite_true, ite_false, if_true, if_false, Int.add_sub_cancel, Int.sub_add_cancel, Int.add_zero, Int.zero_add, cast_s, iI_in, iI_lit, iI_le, iI_lt, iI_eq, iI_cl, iI_add, iI_sub, iI_mul, iI_neg, iI_nI, ok_s, ok_ck, ok_bn, ok_ob, ck_iI, bn_eq, ob_s, om_n, om_s, cb_bI, gI_g, gI_2, gJ_1, gJ_g, gJ_2, gR_1, gR_2, gR_g, within_v, in_v, bI_i0, bI_i1, iI_bI0, iI_bI1, bI_T, bI_F, f_X12_letter, im, om, cy, k0, k1, k2, k3, x1]
              · rw [bI_f d3] at k3
                simp (disch := omega) only [reduceIte, Nat.reduceEqDiff, Nat.reduceAdd, Nat.reduceSub, Nat.reduceMul, Nat.reduceLT, Int.reduceNeg, Int.reduceAdd, Int.reduceSub, Int.reduceMul, Int.reduceLT, Int.reduceLE, Int.reduceEq, Int.reduceToNat, reduceCtorEq, and_self, and_true, true_and, false_and, and_false, or_false, false_or, or_true, true_or, true_implies, false_implies, implies_true, not_true_eq_false, not_false_eq_true, Int.toNat_natCast, Int.cast_ofNat_Int, eq_self, ne_eq, ite_true, ite_false, if_true, if_false, Int.add_sub_cancel, Int.sub_add_cancel, Int.add_zero, Int.zero_add, cast_s, iI_in, iI_lit, iI_le, iI_lt, iI_eq, iI_cl, iI_add, iI_sub, iI_mul, iI_neg, iI_nI, ok_s, ok_ck, ok_bn, ok_ob, ck_iI, bn_eq, ob_s, om_n, om_s, cb_bI, gI_g, gI_2, gJ_1, gJ_g, gJ_2, gR_1, gR_2, gR_g, within_v, in_v, bI_i0, bI_i1, iI_bI0, iI_bI1, bI_T, bI_F, f_X12_letter, im, om, cy, k0, k1, k2, k3]
            · rw [bI_f d2] at k2
              simp (disch := omega) only [reduceIte, Nat.reduceEqDiff, Nat.reduceAdd, Nat.reduceSub, Nat.reduceMul, Nat.reduceLT, Int.reduceNeg, Int.reduceAdd, Int.reduceSub, Int.reduceMul, Int.reduceLT, Int.reduceLE, Int.reduceEq, Int.reduceToNat, reduceCtorEq, and_self, and_true, true_and, false_and, and_false, or_false, false_or, or_true, true_or, true_implies, false_implies, implies_true, not_true_eq_false, not_false_eq_true, Int.toNat_natCast, Int.cast_ofNat_Int, eq_self, ne_eq, ite_true, ite_false, if_true, if_false, Int.add_sub_cancel, Int.sub_add_cancel, Int.add_zero, Int.zero_add, cast_s, iI_in, iI_lit, iI_le, iI_lt, iI_eq, iI_cl, iI_add, iI_sub, iI_mul, iI_neg, iI_nI, ok_s, ok_ck, ok_bn, ok_ob, ck_iI, bn_eq, ob_s, om_n, om_s, cb_bI, gI_g, gI_2, gJ_1, gJ_g, gJ_2, gR_1, gR_2, gR_g, within_v, in_v, bI_i0, bI_i1, iI_bI0, iI_bI1, bI_T, bI_F, f_X12_letter, im, om, cy, k0, k1, k2]
          · rw [bI_f d1] at k1
            simp (disch := omega) only [reduceIte, Nat.reduceEqDiff, Nat.reduceAdd, Nat.reduceSub, Nat.reduceMul, Nat.reduceLT, Int.reduceNeg, Int.reduceAdd, Int.reduceSub, Int.reduceMul, Int.reduceLT, Int.reduceLE, Int.reduceEq, Int.reduceToNat, reduceCtorEq, and_self, and_true, true_and, false_and, and_false, or_false, false_or, or_true, true_or, true_implies, false_implies, implies_true, not_true_eq_false, not_false_eq_true, Int.toNat_natCast, Int.cast_ofNat_Int, eq_self, ne_eq, ite_true, ite_false, if_true, if_false, Int.add_sub_cancel, Int.sub_add_cancel, Int.add_zero, Int.zero_add, cast_s, iI_in, iI_lit, iI_le, iI_lt, iI_eq, iI_cl, iI_add, iI_sub, iI_mul, iI_neg, iI_nI, ok_s, ok_ck, ok_bn, ok_ob, ck_iI, bn_eq, ob_s, om_n, om_s, cb_bI, gI_g, gI_2, gJ_1, gJ_g, gJ_2, gR_1, gR_2, gR_g, within_v, in_v, bI_i0, bI_i1, iI_bI0, iI_bI1, bI_T, bI_F, f_X12_letter, im, om, cy, k0, k1]
        · rw [bI_f d0] at k0
          simp (disch := omega) only [reduceIte, Nat.reduceEqDiff, Nat.reduceAdd, Nat.reduceSub, Nat.reduceMul, Nat.reduceLT, Int.reduceNeg, Int.reduceAdd, Int.reduceSub, Int.reduceMul, Int.reduceLT, Int.reduceLE, Int.reduceEq, Int.reduceToNat, reduceCtorEq, and_self, and_true, true_and, false_and, and_false, or_false, false_or, or_true, true_or, true_implies, false_implies, implies_true, not_true_eq_false, not_false_eq_true, Int.toNat_natCast, Int.cast_ofNat_Int, eq_self, ne_eq, ite_true, ite_false, if_true, if_false, Int.add_sub_cancel, Int.sub_add_cancel, Int.add_zero, Int.zero_add, cast_s, iI_in, iI_lit, iI_le, iI_lt, iI_eq, iI_cl, iI_add, iI_sub, iI_mul, iI_neg, iI_nI, ok_s, ok_ck, ok_bn, ok_ob, ck_iI, bn_eq, ob_s, om_n, om_s, cb_bI, gI_g, gI_2, gJ_1, gJ_g, gJ_2, gR_1, gR_2, gR_g, within_v, in_v, bI_i0, bI_i1, iI_bI0, iI_bI1, bI_T, bI_F, f_X12_letter, im, om, cy, k0]
      · skip
        simp (disch := omega) only [reduceIte, Nat.reduceEqDiff, Nat.reduceAdd, Nat.reduceSub, Nat.reduceMul, Nat.reduceLT, Int.reduceNeg, Int.reduceAdd, Int.reduceSub, Int.reduceMul, Int.reduceLT, Int.reduceLE, Int.reduceEq, Int.reduceToNat, reduceCtorEq, and_self, and_true, true_and, false_and, and_false, or_false, false_or, or_true, true_or, true_implies, false_implies, implies_true, not_true_eq_false, not_false_eq_true, Int.toNat_natCast, Int.cast_ofNat_Int, eq_self, ne_eq, ite_true, ite_false, if_true, if_false, Int.add_sub_cancel, Int.sub_add_cancel, Int.add_zero, Int.zero_add, cast_s, iI_in, iI_lit, iI_le, iI_lt, iI_eq, iI_cl, iI_add, iI_sub, iI_mul, iI_neg, iI_nI, ok_s, ok_ck, ok_bn, ok_ob, ck_iI, bn_eq, ob_s, om_n, om_s, cb_bI, gI_g, gI_2, gJ_1, gJ_g, gJ_2, gR_1, gR_2, gR_g, within_v, in_v, bI_i0, bI_i1, iI_bI0, iI_bI1, bI_T, bI_F, f_X12_letter, im, om, cy]
    · rw [bI_f co] at om
      unfold f_X12_letter
      rw [im, ob_s, if_n (by decide), om, ob_s, if_p rfl]
      rfl
  · rw [bI_f ca] at im
    unfold f_X12_letter
    rw [im, ob_s, if_p rfl]
    rfl
theorem let_ok_c {p y m : Nat} {x0 x1 x2 x3 : Nat} (hp : RPair G7 G9 G25 gn cn d n pn tp P) (ht : RTape G1 G3 G27 z b) (hd : d < 3600) (h1 : G1.1 0 0 = iI d) (h0 : G10.1 44 1 = iI ln) (hl : ln < 200) (hn : 174 ≤ n) (hF : 200000 ≤ F) (cp : p < pn) (co : P p 4 = -1) (cy : y ≤ 1) (d0 : x0 ≤ 99) (d1 : x1 ≤ 99) (d2 : x2 ≤ 99) (d3 : x3 ≤ 99) (cx : 1 ≤ (m : Int) ∧ (m : Int) ≤ 160 ∧ (m : Int) ≤ z ∧ ∀ i : Nat, (i : Int) < m → isSg (b i : Int)) :
    ∃ G0', f_X11_letter F n G0 G1 G3 G7 G9 G10 G13 G14 (iI p) (iI y) (iI x0) (iI x1) (iI x2) (iI x3) (iI m) = some (iI ln, n + 4, G0', gI G1 0 2 (iI 0), c3 G3 n m, gI G9 (tp p) 6 (G9.1 (tp p) 6 + 1), gI (gR G10 45 ln (some n)) 44 1 (iI ((ln : Int) + 1)), c13 G13 n (tp p) y d m, mk4 G14 (n + 1) 0 (iI x0) (iI x1) (iI x2) (iI x3)) := by
  have hpn := hp.1
  have oc := openPairAt_c (F := F) hp hd (a := (p : Int)) (by omega) (by omega)
  rw [if_pos ⟨by omega, co⟩] at oc
  simp only [Int.toNat_natCast] at oc
  obtain ⟨tx1, -⟩ := both_text (F := F) ht hF (a := (m : Int)) (by omega) (by omega)
  rw [@bI_t _ (clD _) cx] at tx1
  have k0 := isMark_c (F := F) (a := (x0 : Int)) (by omega) (by omega)
  have k1 := isMark_c (F := F) (a := (x1 : Int)) (by omega) (by omega)
  have k2 := isMark_c (F := F) (a := (x2 : Int)) (by omega) (by omega)
  have k3 := isMark_c (F := F) (a := (x3 : Int)) (by omega) (by omega)
  rw [bI_t (by omega)] at k0 k1 k2 k3
  obtain ⟨t1, t2, t3, t4, t5, t6⟩ := id ht
  obtain ⟨G0', i1⟩ := init_c (F := F) (G0 := G0) (G3 := G3) (G13 := G13) (n := n) (d := d) (b := b) (t := tp p) (m := m) (y := (y : Int)) hn t4 (by omega) (fun i hi => ⟨(t5 i (by omega)).1, t6 i⟩)
  have a1 := add_c (F := F) (G9 := G9) (G13' := c13 G13 n (tp p) y d m) (p := p) h0 hl (t := tp p) (by
    show (if n = n ∧ 0 = 0 then some (tp p) else G13.2.2 n 0) = _
    rw [if_pos ⟨rfl, rfl⟩])
  have cl' : (ln : Int) < 200 := by omega
  have cy' : (0 : Int) ≤ y ∧ (y : Int) ≤ 1 := by omega
  have z0 : ((0 : Int32).toNatClampNeg) = 0 := by decide
  have z1 : ((1 : Int32).toNatClampNeg) = 1 := by decide
  have z2 : ((2 : Int32).toNatClampNeg) = 2 := by decide
  have z3 : ((3 : Int32).toNatClampNeg) = 3 := by decide
  refine ⟨G0', ?_⟩
  unfold f_X11_letter
  simp only [bn_eq, z0, z1, z2, z3]
  simp (disch := omega) only [reduceIte, Nat.reduceEqDiff, Nat.reduceAdd, Nat.reduceSub, Nat.reduceMul, Nat.reduceLT, Int.reduceNeg, Int.reduceAdd, Int.reduceSub, Int.reduceMul, Int.reduceLT, Int.reduceLE, Int.reduceEq, Int.reduceToNat, reduceCtorEq, and_self, and_true, true_and, false_and, and_false, or_false, false_or, or_true, true_or, true_implies, false_implies, implies_true, not_true_eq_false, not_false_eq_true, Int.toNat_natCast, Int.cast_ofNat_Int, eq_self, ne_eq, ite_true, ite_false, if_true, if_false, Int.add_sub_cancel, Int.sub_add_cancel, Int.add_zero, Int.zero_add, cast_s, iI_in, iI_lit, iI_le, iI_lt, iI_eq, iI_cl, iI_add, iI_sub, iI_mul, iI_neg, iI_nI, ok_s, ok_ck, ok_bn, ok_ob, ck_iI, bn_eq, ob_s, om_n, om_s, cb_bI, gI_g, gI_2, gJ_1, gJ_g, gJ_2, gR_1, gR_2, gR_g, within_v, in_v, bI_i0, bI_i1, iI_bI0, iI_bI1, bI_T, bI_F, oc, h0, cl', cy', k0, k1, k2, k3, tx1, h1, i1, a1]
  rfl
theorem let_ok_m {p y m : Nat} {x0 x1 x2 x3 : Nat} (hp : RPair G7 G9 G25 gn cn d n pn tp P) (ht : RTape G1 G3 G27 z b) (hd : d < 3600) (h23 : G23.1 91 0 = iI d) (h0 : G32.1 91 57 = iI ln) (hl : ln < 200) (hF : 200000 ≤ F) (cp : p < pn) (co : P p 4 = -1) (cy : y ≤ 1) (d0 : x0 ≤ 99) (d1 : x1 ≤ 99) (d2 : x2 ≤ 99) (d3 : x3 ≤ 99) (cx : 1 ≤ (m : Int) ∧ (m : Int) ≤ 160 ∧ (m : Int) ≤ z ∧ ∀ i : Nat, (i : Int) < m → isSg (b i : Int)) :
    ∃ G32', f_X12_letter F G23 G25 G27 G32 G33 (iI p) (iI y) (iI x0) (iI x1) (iI x2) (iI x3) (iI m) = some (iI ln, gI G27 91 20 (iI 0), gI G32' 91 57 (iI ((ln : Int) + 1)), mk4 G33 141 (4 * ln) (iI x0) (iI x1) (iI x2) (iI x3)) ∧ (∀ j, j < m → G32'.1 143 (160 * ln + j) = iI (b j)) ∧ (∀ a k, ¬ (a = 143 ∧ 160 * ln ≤ k) → G32'.1 a k = (m32 G32 ln p y d m).1 a k) ∧ ∀ k, k < 160 * ln → G32'.1 143 k = G32.1 143 k := by
  have hpn := hp.1
  have im := isPair_m (F := F) hp (c := (p : Int)) (by omega) (by omega)
  rw [bI_t (by omega)] at im
  have om := isOpen_m (F := F) hp hd cp
  rw [bI_t co] at om
  obtain ⟨-, tx1⟩ := both_text (F := F) ht hF (a := (m : Int)) (by omega) (by omega)
  rw [@bI_t _ (clD _) cx] at tx1
  have k0 := isMark_m (F := F) (a := (x0 : Int)) (by omega) (by omega)
  have k1 := isMark_m (F := F) (a := (x1 : Int)) (by omega) (by omega)
  have k2 := isMark_m (F := F) (a := (x2 : Int)) (by omega) (by omega)
  have k3 := isMark_m (F := F) (a := (x3 : Int)) (by omega) (by omega)
  rw [bI_t (by omega)] at k0 k1 k2 k3
  obtain ⟨t1, t2, t3, t4, t5, t6⟩ := id ht
  have h57 : (m32 G32 ln p y d m).1 91 57 = iI ln := by
    rw [m32_at]
    by_cases c : 57 = ln
    · rw [if_pos c]
      exact h0
    · rw [if_neg c]
      exact h0
  obtain ⟨G32', r1, r2, r3, r4⟩ := cpt_m (F := F) (G23 := G23) (G25 := G25) (G27 := G27) (G33 := mk4 G33 141 (4 * ln) (iI x0) (iI x1) (iI x2) (iI x3)) (b := b) (m := m) hl (by omega) (fun i hi => by
    have s := cx.2.2.2 i (by omega)
    have ub : b i < 128 := by unfold isSg isWd at s; omega
    rw [(t5 i (by omega)).2, sg8_lo ub]
    exact ⟨rfl, ub⟩) hF (G32 := m32 G32 ln p y d m) h57
  have cl' : ¬ (ln : Int) = 200 := by omega
  have cy' : (0 : Int) ≤ y ∧ (y : Int) ≤ 1 := by omega
  have e0 : (4 * (ln : Int)).toNat = 4 * ln := by omega
  have e1 : (4 * (ln : Int) + 1).toNat = 4 * ln + 1 := by omega
  have e2 : (4 * (ln : Int) + 2).toNat = 4 * ln + 2 := by omega
  have e3 : (4 * (ln : Int) + 3).toNat = 4 * ln + 3 := by omega
  refine ⟨G32', ?_, r2, r3, fun k hk => ?_⟩
  · unfold m32 mk4 at r1
    unfold f_X12_letter mk4
    simp (disch := omega) only [reduceIte, Nat.reduceEqDiff, Nat.reduceAdd, Nat.reduceSub, Nat.reduceMul, Nat.reduceLT, Int.reduceNeg, Int.reduceAdd, Int.reduceSub, Int.reduceMul, Int.reduceLT, Int.reduceLE, Int.reduceEq, Int.reduceToNat, reduceCtorEq, and_self, and_true, true_and, false_and, and_false, or_false, false_or, or_true, true_or, true_implies, false_implies, implies_true, not_true_eq_false, not_false_eq_true, Int.toNat_natCast, Int.cast_ofNat_Int, eq_self, ne_eq, ite_true, ite_false, if_true, if_false, Int.add_sub_cancel, Int.sub_add_cancel, Int.add_zero, Int.zero_add, cast_s, iI_in, iI_lit, iI_le, iI_lt, iI_eq, iI_cl, iI_add, iI_sub, iI_mul, iI_neg, iI_nI, ok_s, ok_ck, ok_bn, ok_ob, ck_iI, bn_eq, ob_s, om_n, om_s, cb_bI, gI_g, gI_2, gJ_1, gJ_g, gJ_2, gR_1, gR_2, gR_g, within_v, in_v, bI_i0, bI_i1, iI_bI0, iI_bI1, bI_T, bI_F, im, om, k0, k1, k2, k3, tx1, h0, cl', cy', h23, e0, e1, e2, e3]
    exact r1
  · rw [r4 k hk, m32_at]
    by_cases c : k = ln
    · rw [if_pos c]; rfl
    · rw [if_neg c]
theorem call_letter (h : RLet G3 G7 G9 G10 G13 G14 G15 G25 G32 G33 G34 gn cn d n pn ln sn tp tl Ln P L X) (ht : RTape G1 G3 G27 z b) (hd : d < 3600) (h1 : G1.1 0 0 = iI d) (h23 : G23.1 91 0 = iI d) (hF : 200000 ≤ F) (a y x0 x1 x2 x3 m : Int32) : ok (f_X11_letter F n G0 G1 G3 G7 G9 G10 G13 G14 a y x0 x1 x2 x3 m) (fun q => ok (f_X12_letter F G23 G25 G27 G32 G33 a y x0 x1 x2 x3 m) fun w => q.1 = w.1 ∧ n ≤ q.2.1 ∧ (∃ ln' tl' Ln' P' L' X', RLet q.2.2.2.2.1 G7 q.2.2.2.2.2.1 q.2.2.2.2.2.2.1 q.2.2.2.2.2.2.2.1 q.2.2.2.2.2.2.2.2 G15 G25 w.2.2.1 w.2.2.2 G34 gn cn d q.2.1 pn ln' sn tp tl' Ln' P' L' X') ∧ (∃ z' b', RTape q.2.2.2.1 q.2.2.2.2.1 w.2.1 z' b') ∧ q.2.2.2.1.2 = G1.2 ∧ (∀ a k, ¬ (a = 0 ∧ k = 2) → q.2.2.2.1.1 a k = G1.1 a k)) := by
  obtain ⟨hp, hc, hm, hb, hk, hg, hx, hs, hw, hn⟩ := id h
  obtain ⟨a, rfl, a1, a2⟩ := iI_ex a
  obtain ⟨y, rfl, y1, y2⟩ := iI_ex y
  obtain ⟨x0, rfl, xx01, xx02⟩ := iI_ex x0
  obtain ⟨x1, rfl, xx11, xx12⟩ := iI_ex x1
  obtain ⟨x2, rfl, xx21, xx22⟩ := iI_ex x2
  obtain ⟨x3, rfl, xx31, xx32⟩ := iI_ex x3
  obtain ⟨m, rfl, m1, m2⟩ := iI_ex m
  have hl := hb.1
  by_cases c : (((0 ≤ a ∧ a ≤ (pn : Int) - 1) ∧ P a.toNat 4 = -1) ∧ (0 ≤ y ∧ y ≤ 1) ∧ ln < 200 ∧ (0 ≤ x0 ∧ x0 ≤ 99) ∧ (0 ≤ x1 ∧ x1 ≤ 99) ∧ (0 ≤ x2 ∧ x2 ≤ 99) ∧ (0 ≤ x3 ∧ x3 ≤ 99) ∧ (1 ≤ m ∧ m ≤ 160 ∧ m ≤ z ∧ ∀ i : Nat, (i : Int) < m → isSg (b i : Int)))
  · obtain ⟨⟨ca, co⟩, cy, cl, d0, d1, d2, d3, cx⟩ := c
    obtain ⟨p, rfl⟩ : ∃ k : Nat, a = (k : Int) := ⟨a.toNat, by omega⟩
    obtain ⟨y, rfl⟩ : ∃ k : Nat, y = (k : Int) := ⟨y.toNat, by omega⟩
    obtain ⟨x0, rfl⟩ : ∃ k : Nat, x0 = (k : Int) := ⟨x0.toNat, by omega⟩
    obtain ⟨x1, rfl⟩ : ∃ k : Nat, x1 = (k : Int) := ⟨x1.toNat, by omega⟩
    obtain ⟨x2, rfl⟩ : ∃ k : Nat, x2 = (k : Int) := ⟨x2.toNat, by omega⟩
    obtain ⟨x3, rfl⟩ : ∃ k : Nat, x3 = (k : Int) := ⟨x3.toNat, by omega⟩
    obtain ⟨m, rfl⟩ : ∃ k : Nat, m = (k : Int) := ⟨m.toNat, by omega⟩
    simp only [Int.toNat_natCast] at co
    obtain ⟨G0', ec⟩ := let_ok_c (F := F) (G0 := G0) (G13 := G13) (G14 := G14) (p := p) (y := y) (m := m) (x0 := x0) (x1 := x1) (x2 := x2) (x3 := x3) hp ht hd h1 hc.1 cl hn hF (by omega) co (by omega) (by omega) (by omega) (by omega) (by omega) cx
    obtain ⟨G32', em, t1, t2, t3⟩ := let_ok_m (F := F) (G33 := G33) (p := p) (y := y) (m := m) (x0 := x0) (x1 := x1) (x2 := x2) (x3 := x3) hp ht hd h23 hm.1 cl hF (by omega) co (by omega) (by omega) (by omega) (by omega) (by omega) cx
    rw [ec, em]
    obtain ⟨u1, u2, u3, u4, u5, u6⟩ := id ht
    have hpp : p < pn := by omega
    have e6 := (hp.2.2.2.1 p hpp).2.2.1 6 (by omega)
    have r1 : RPair G7 (gI G9 (tp p) 6 (G9.1 (tp p) 6 + 1)) G25 gn cn d (n + 4) pn tp (stP P p 6 (P p 6 + 1)) := by
      rw [e6, show (1 : Int32) = iI 1 from rfl, iI_add]
      exact (hp.cls hpp (Or.inl rfl)).mono (Nat.le_refl _) (by omega)
    refine ⟨rfl, (by omega : n ≤ n + 4), ⟨ln + 1, nwT tl ln n, nwT Ln ln m, stP P p 6 (P p 6 + 1), adL L ln p y d m, adX X ln b, r1, hc.new hn cl, hm.new cl t2, hb.new hpp (by omega) (by omega) cl, hk.new hc _ _ _ _, hg.new, hx.new hc (by omega) (fun i hi => ⟨(u5 i (by omega)).1, cx.2.2.2 i (by omega)⟩) t1 t3 (fun i hi => (hb.2 i hi).2.2.1.2), hs.new hpp, hw.new, (by omega : 174 ≤ n + 4)⟩, ⟨0, b, by omega, ?_, ?_, ?_, fun i hi => absurd hi (Nat.not_lt_zero i), u6⟩, rfl, fun x k hxk => ?_⟩
    · show (gI G1 0 2 (iI 0)).1 0 2 = _
      rw [gI_g, if_pos ⟨rfl, rfl⟩]; rfl
    · show (gI G27 91 20 (iI 0)).1 91 20 = _
      rw [gI_g, if_pos ⟨rfl, rfl⟩]; rfl
    · show (if 1 = n + 3 ∧ 0 = 0 then some m else G3.2.2 1 0) = _
      rw [if_neg (by omega)]; exact u4
    · show (gI G1 0 2 (iI 0)).1 x k = _
      rw [gI_g, if_neg hxk]
  · rw [let_fail_c (F := F) hp ht hd hc.1 hl hF ⟨a1, a2⟩ ⟨y1, y2⟩ ⟨m1, m2⟩ ⟨xx01, xx02⟩ ⟨xx11, xx12⟩ ⟨xx21, xx22⟩ ⟨xx31, xx32⟩ c, let_fail_m (F := F) hp ht hd hm.1 hl hF ⟨a1, a2⟩ ⟨y1, y2⟩ ⟨m1, m2⟩ ⟨xx01, xx02⟩ ⟨xx11, xx12⟩ ⟨xx21, xx22⟩ ⟨xx31, xx32⟩ c]
    exact ⟨rfl, Nat.le_refl _, ⟨ln, tl, Ln, P, L, X, h⟩, ⟨z, b, ht⟩, rfl, fun _ _ _ => rfl⟩
end PR
