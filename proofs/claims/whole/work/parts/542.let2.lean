/-! calls that only ask: lag, unlike, amiss, silent, of -/
def RHand (G12 G36 : Grp) : Prop := (∀ k, k < 32 → G12.1 49 k = G36.1 147 k) ∧ ∀ k, k < 128 → G12.1 50 k = G36.1 148 k
/-- the hand of letter i -/
def hw (P L : Nat → Nat → Int) (i : Nat) : Nat := if L i 1 = 0 then (P (L i 0).toNat 1).toNat else 16 + (P (L i 0).toNat 2).toNat
/-- when a letter of the giver's came last -/
def lcs (L : Nat → Nat → Int) (p : Nat) (fr : Int) : Nat → Int
  | 0 => fr
  | n + 1 => if L n 0 = p ∧ L n 1 = 0 ∧ L n 8 = 6 ∧ lcs L p fr n < L n 9 then L n 9 else lcs L p fr n
theorem lcs_s (L : Nat → Nat → Int) (p : Nat) (fr : Int) (n : Nat) : lcs L p fr (n + 1) = if L n 0 = p ∧ L n 1 = 0 ∧ L n 8 = 6 ∧ lcs L p fr n < L n 9 then L n 9 else lcs L p fr n := rfl
def RSil (pn d ln : Nat) (P L : Nat → Nat → Int) : Prop := ∀ p, p < pn → P p 6 = (cnt (fun i => L i 0 = p) ln : Int) ∧ (-1 ≤ P p 8 ∧ P p 8 ≤ d) ∧ lcs L p (P p 3) ln = if P p 8 = -1 then P p 3 else P p 8
theorem add_0 (s : Int32) : s + iI 0 = s := by
  show s + 0 = s
  exact Int32.add_zero s
theorem ob_idt {α : Type} (x : Option α) : ob x (fun q => some q) = x := by cases x <;> rfl
section PR
variable {F : Nat} {G1 G2 G3 G4 G5 G6 G7 G8 G9 G10 G11 G12 G13 G14 G15 G23 G24 G25 G26 G32 G33 G34 G35 G36 G41 : Grp} {gn cn d n pn ln tn : Nat} {tp tl Ln : Nat → Nat} {P L T : Nat → Nat → Int} {X : Nat → Nat → Nat} {f : Nat → Int}
theorem call_lag (hc : LC G10 G13 n ln tp tl L) (hm : LM G32 ln L) (hb : LB pn d ln L) (hg : LGS G15 G34 n ln tl) (hF : 200000 ≤ F) (a : Int32) : ok (f_X11_lag F G10 G15 a) (fun q => ok (f_X12_lag F G32 G34 a) fun w => q = w) := by
  obtain ⟨a, rfl, a1, a2⟩ := iI_ex a
  by_cases c : 0 ≤ a ∧ a ≤ 5
  · obtain ⟨k, rfl⟩ : ∃ k : Nat, a = (k : Int) := ⟨a.toNat, by omega⟩
    have h0 := hc.1
    have m0 := hm.1
    have hl := hb.1
    have key := up_ind (n := ln) (Q := fun fu i => ∀ s : Int32, ∃ x, f_X6_lagIn_l4 F fu G10 G15 (iI k) s (iI i) = some x ∧ f_X12_lag_l15 F fu G32 G34 (iI k) s (iI i) = some x) ?_ ?_
    · obtain ⟨x, x1, x2⟩ := key 0 F (by omega) (by omega) (iI 0)
      have x1 : f_X6_lagIn_l4 F F G10 G15 (iI k) (iI 0) (iI 0) = some x := x1
      have x2 : f_X12_lag_l15 F F G32 G34 (iI k) (iI 0) (iI 0) = some x := x2
      simp (disch := omega) only [reduceIte, Nat.reduceEqDiff, Nat.reduceAdd, Nat.reduceSub, Nat.reduceMul, Nat.reduceLT, Int.reduceNeg, Int.reduceAdd, Int.reduceSub, Int.reduceMul, Int.reduceLT, Int.reduceLE, Int.reduceEq, Int.reduceToNat, reduceCtorEq, and_self, and_true, true_and, false_and, and_false, or_false, false_or, or_true, true_or, true_implies, false_implies, implies_true, not_true_eq_false, not_false_eq_true, Int.toNat_natCast, Int.cast_ofNat_Int, eq_self, ne_eq, ite_true, ite_false, if_true, if_false, Int.add_sub_cancel, Int.sub_add_cancel, Int.add_zero, Int.zero_add, cast_s, iI_in, iI_lit, iI_le, iI_lt, iI_eq, iI_cl, iI_add, iI_sub, iI_mul, iI_neg, iI_nI, ok_s, ok_ck, ok_bn, ok_ob, ck_iI, bn_eq, ob_s, om_n, om_s, cb_bI, gI_g, gI_2, gJ_1, gJ_g, gJ_2, gR_1, gR_2, gR_g, within_v, in_v, bI_i0, bI_i1, iI_bI0, iI_bI1, bI_T, bI_F, f_X11_lag, f_X12_lag, f_X6_lagIn, c, x1, x2]
    · intro fu s
      have e : (ln : Int) ≤ ln := Int.le_refl _
      refine ⟨s, ?_, ?_⟩
      · show f_X6_lagIn_l4b F (f_X6_lagIn_l4 F fu) G10 G15 _ _ _ = _
        simp (disch := omega) only [reduceIte, Nat.reduceEqDiff, Nat.reduceAdd, Nat.reduceSub, Nat.reduceMul, Nat.reduceLT, Int.reduceNeg, Int.reduceAdd, Int.reduceSub, Int.reduceMul, Int.reduceLT, Int.reduceLE, Int.reduceEq, Int.reduceToNat, reduceCtorEq, and_self, and_true, true_and, false_and, and_false, or_false, false_or, or_true, true_or, true_implies, false_implies, implies_true, not_true_eq_false, not_false_eq_true, Int.toNat_natCast, Int.cast_ofNat_Int, eq_self, ne_eq, ite_true, ite_false, if_true, if_false, Int.add_sub_cancel, Int.sub_add_cancel, Int.add_zero, Int.zero_add, cast_s, iI_in, iI_lit, iI_le, iI_lt, iI_eq, iI_cl, iI_add, iI_sub, iI_mul, iI_neg, iI_nI, ok_s, ok_ck, ok_bn, ok_ob, ck_iI, bn_eq, ob_s, om_n, om_s, cb_bI, gI_g, gI_2, gJ_1, gJ_g, gJ_2, gR_1, gR_2, gR_g, within_v, in_v, bI_i0, bI_i1, iI_bI0, iI_bI1, bI_T, bI_F, f_X6_lagIn_l4b, h0, e]
      · show f_X12_lag_l15b F (f_X12_lag_l15 F fu) G32 G34 _ _ _ = _
        simp (disch := omega) only [reduceIte, Nat.reduceEqDiff, Nat.reduceAdd, Nat.reduceSub, Nat.reduceMul, Nat.reduceLT, Int.reduceNeg, Int.reduceAdd, Int.reduceSub, Int.reduceMul, Int.reduceLT, Int.reduceLE, Int.reduceEq, Int.reduceToNat, reduceCtorEq, and_self, and_true, true_and, false_and, and_false, or_false, false_or, or_true, true_or, true_implies, false_implies, implies_true, not_true_eq_false, not_false_eq_true, Int.toNat_natCast, Int.cast_ofNat_Int, eq_self, ne_eq, ite_true, ite_false, if_true, if_false, Int.add_sub_cancel, Int.sub_add_cancel, Int.add_zero, Int.zero_add, cast_s, iI_in, iI_lit, iI_le, iI_lt, iI_eq, iI_cl, iI_add, iI_sub, iI_mul, iI_neg, iI_nI, ok_s, ok_ck, ok_bn, ok_ob, ck_iI, bn_eq, ob_s, om_n, om_s, cb_bI, gI_g, gI_2, gJ_1, gJ_g, gJ_2, gR_1, gR_2, gR_g, within_v, in_v, bI_i0, bI_i1, iI_bI0, iI_bI1, bI_T, bI_F, f_X12_lag_l15b, m0, e]
    · intro i fu hi ih s
      have e : ¬ (ln : Int) ≤ i := by omega
      have q0 := (hc.at hi).1
      have gl := hg.1 i hi k (by omega)
      have e1 : (6 * (i : Int) + (k : Int)).toNat = 6 * i + k := by omega
      obtain ⟨x, x1, x2⟩ := ih (s + G34.1 142 (6 * i + k))
      refine ⟨x, ?_, ?_⟩
      · show f_X6_lagIn_l4b F (f_X6_lagIn_l4 F fu) G10 G15 _ _ _ = _
        simp (disch := omega) only [reduceIte, Nat.reduceEqDiff, Nat.reduceAdd, Nat.reduceSub, Nat.reduceMul, Nat.reduceLT, Int.reduceNeg, Int.reduceAdd, Int.reduceSub, Int.reduceMul, Int.reduceLT, Int.reduceLE, Int.reduceEq, Int.reduceToNat, reduceCtorEq, and_self, and_true, true_and, false_and, and_false, or_false, false_or, or_true, true_or, true_implies, false_implies, implies_true, not_true_eq_false, not_false_eq_true, Int.toNat_natCast, Int.cast_ofNat_Int, eq_self, ne_eq, ite_true, ite_false, if_true, if_false, Int.add_sub_cancel, Int.sub_add_cancel, Int.add_zero, Int.zero_add, cast_s, iI_in, iI_lit, iI_le, iI_lt, iI_eq, iI_cl, iI_add, iI_sub, iI_mul, iI_neg, iI_nI, ok_s, ok_ck, ok_bn, ok_ob, ck_iI, bn_eq, ob_s, om_n, om_s, cb_bI, gI_g, gI_2, gJ_1, gJ_g, gJ_2, gR_1, gR_2, gR_g, within_v, in_v, bI_i0, bI_i1, iI_bI0, iI_bI1, bI_T, bI_F, f_X6_lagIn_l4b, h0, e, q0, gl]
        exact x1
      · show f_X12_lag_l15b F (f_X12_lag_l15 F fu) G32 G34 _ _ _ = _
        simp (disch := omega) only [reduceIte, Nat.reduceEqDiff, Nat.reduceAdd, Nat.reduceSub, Nat.reduceMul, Nat.reduceLT, Int.reduceNeg, Int.reduceAdd, Int.reduceSub, Int.reduceMul, Int.reduceLT, Int.reduceLE, Int.reduceEq, Int.reduceToNat, reduceCtorEq, and_self, and_true, true_and, false_and, and_false, or_false, false_or, or_true, true_or, true_implies, false_implies, implies_true, not_true_eq_false, not_false_eq_true, Int.toNat_natCast, Int.cast_ofNat_Int, eq_self, ne_eq, ite_true, ite_false, if_true, if_false, Int.add_sub_cancel, Int.sub_add_cancel, Int.add_zero, Int.zero_add, cast_s, iI_in, iI_lit, iI_le, iI_lt, iI_eq, iI_cl, iI_add, iI_sub, iI_mul, iI_neg, iI_nI, ok_s, ok_ck, ok_bn, ok_ob, ck_iI, bn_eq, ob_s, om_n, om_s, cb_bI, gI_g, gI_2, gJ_1, gJ_g, gJ_2, gR_1, gR_2, gR_g, within_v, in_v, bI_i0, bI_i1, iI_bI0, iI_bI1, bI_T, bI_F, f_X12_lag_l15b, m0, e, e1]
        exact x2
  · skip
    simp (disch := omega) only [reduceIte, Nat.reduceEqDiff, Nat.reduceAdd, Nat.reduceSub, Nat.reduceMul, Nat.reduceLT, Int.reduceNeg, Int.reduceAdd, Int.reduceSub, Int.reduceMul, Int.reduceLT, Int.reduceLE, Int.reduceEq, Int.reduceToNat, reduceCtorEq, and_self, and_true, true_and, false_and, and_false, or_false, false_or, or_true, true_or, true_implies, false_implies, implies_true, not_true_eq_false, not_false_eq_true, Int.toNat_natCast, Int.cast_ofNat_Int, eq_self, ne_eq, ite_true, ite_false, if_true, if_false, Int.add_sub_cancel, Int.sub_add_cancel, Int.add_zero, Int.zero_add, cast_s, iI_in, iI_lit, iI_le, iI_lt, iI_eq, iI_cl, iI_add, iI_sub, iI_mul, iI_neg, iI_nI, ok_s, ok_ck, ok_bn, ok_ob, ck_iI, bn_eq, ob_s, om_n, om_s, cb_bI, gI_g, gI_2, gJ_1, gJ_g, gJ_2, gR_1, gR_2, gR_g, within_v, in_v, bI_i0, bI_i1, iI_bI0, iI_bI1, bI_T, bI_F, f_X11_lag, f_X12_lag, c]
theorem hw_b (hb : LB pn d ln L) (hp : RPair G7 G9 G25 gn cn d n pn tp P) {i : Nat} (hi : i < ln) : hw P L i < 32 ∧ (L i 1 = 0 → (hw P L i : Int) = P (L i 0).toNat 1) ∧ (¬ L i 1 = 0 → (hw P L i : Int) = 16 + P (L i 0).toNat 2) := by
  obtain ⟨p1, p2, p3, p4, p5, p6⟩ := hb.2 i hi
  have pb := hp.2.2.2.2.1 (L i 0).toNat (by omega)
  obtain ⟨-, -, -, -, -, -, -, -, g1, g2⟩ := id hp
  unfold hw
  by_cases c : L i 1 = 0
  · rw [if_pos c]
    refine ⟨by omega, fun _ => by omega, fun z => absurd c z⟩
  · rw [if_neg c]
    refine ⟨by omega, fun z => absurd z c, fun _ => by omega⟩
theorem hand_c (hc : LC G10 G13 n ln tp tl L) (hb : LB pn d ln L) (hp : RPair G7 G9 G25 gn cn d n pn tp P) {i : Nat} (hi : i < ln) : f_X6_handOf F G9 G13 (tl i) = some (iI (hw P L i)) := by
  obtain ⟨p1, p2, p3, p4, p5, p6⟩ := hb.2 i hi
  obtain ⟨q0, q0', q1, q2, q6, q7, q8, q9, q10, q11⟩ := hc.at hi
  have pr := (hp.2.2.2.1 (L i 0).toNat (by omega)).2.2.1
  have pb := hp.2.2.2.2.1 (L i 0).toNat (by omega)
  obtain ⟨w1, w2, w3⟩ := hw_b hb hp hi
  have r1 := pr 1 (by omega)
  have r2 := pr 2 (by omega)
  by_cases c : L i 1 = 0
  · have w := w2 c
    simp (disch := omega) only [reduceIte, Nat.reduceEqDiff, Nat.reduceAdd, Nat.reduceSub, Nat.reduceMul, Nat.reduceLT, Int.reduceNeg, Int.reduceAdd, Int.reduceSub, Int.reduceMul, Int.reduceLT, Int.reduceLE, Int.reduceEq, Int.reduceToNat, reduceCtorEq, and_self, and_true, true_and, false_and, and_false, or_false, false_or, or_true, true_or, true_implies, false_implies, implies_true, not_true_eq_false, not_false_eq_true, Int.toNat_natCast, Int.cast_ofNat_Int, eq_self, ne_eq, ite_true, ite_false, if_true, if_false, Int.add_sub_cancel, Int.sub_add_cancel, Int.add_zero, Int.zero_add, cast_s, iI_in, iI_lit, iI_le, iI_lt, iI_eq, iI_cl, iI_add, iI_sub, iI_mul, iI_neg, iI_nI, ok_s, ok_ck, ok_bn, ok_ob, ck_iI, bn_eq, ob_s, om_n, om_s, cb_bI, gI_g, gI_2, gJ_1, gJ_g, gJ_2, gR_1, gR_2, gR_g, within_v, in_v, bI_i0, bI_i1, iI_bI0, iI_bI1, bI_T, bI_F, f_X6_handOf, q1, q0', r1, c]
    rw [w]
  · have w := w3 c
    simp (disch := omega) only [reduceIte, Nat.reduceEqDiff, Nat.reduceAdd, Nat.reduceSub, Nat.reduceMul, Nat.reduceLT, Int.reduceNeg, Int.reduceAdd, Int.reduceSub, Int.reduceMul, Int.reduceLT, Int.reduceLE, Int.reduceEq, Int.reduceToNat, reduceCtorEq, and_self, and_true, true_and, false_and, and_false, or_false, false_or, or_true, true_or, true_implies, false_implies, implies_true, not_true_eq_false, not_false_eq_true, Int.toNat_natCast, Int.cast_ofNat_Int, eq_self, ne_eq, ite_true, ite_false, if_true, if_false, Int.add_sub_cancel, Int.sub_add_cancel, Int.add_zero, Int.zero_add, cast_s, iI_in, iI_lit, iI_le, iI_lt, iI_eq, iI_cl, iI_add, iI_sub, iI_mul, iI_neg, iI_nI, ok_s, ok_ck, ok_bn, ok_ob, ck_iI, bn_eq, ob_s, om_n, om_s, cb_bI, gI_g, gI_2, gJ_1, gJ_g, gJ_2, gR_1, gR_2, gR_g, within_v, in_v, bI_i0, bI_i1, iI_bI0, iI_bI1, bI_T, bI_F, f_X6_handOf, q1, q0', r2, c]
    rw [w]
theorem hand_m (hm : LM G32 ln L) (hb : LB pn d ln L) (hp : RPair G7 G9 G25 gn cn d n pn tp P) {i : Nat} (hi : i < ln) : f_X12_writerOf F G25 G32 (iI i) = some (iI (hw P L i)) := by
  have hl := hb.1
  have hpn := hp.1
  obtain ⟨p1, p2, p3, p4, p5, p6⟩ := hb.2 i hi
  obtain ⟨m0, m1, m2, m6, m7, m8, m9, m10, m11⟩ := hm.at hi
  have pr := (hp.2.2.2.1 (L i 0).toNat (by omega)).2.2.2
  obtain ⟨w1, w2, w3⟩ := hw_b hb hp hi
  have r1 := pr.1
  have r2 := pr.2.1
  by_cases c : L i 1 = 0
  · have w := w2 c
    simp (disch := omega) only [reduceIte, Nat.reduceEqDiff, Nat.reduceAdd, Nat.reduceSub, Nat.reduceMul, Nat.reduceLT, Int.reduceNeg, Int.reduceAdd, Int.reduceSub, Int.reduceMul, Int.reduceLT, Int.reduceLE, Int.reduceEq, Int.reduceToNat, reduceCtorEq, and_self, and_true, true_and, false_and, and_false, or_false, false_or, or_true, true_or, true_implies, false_implies, implies_true, not_true_eq_false, not_false_eq_true, Int.toNat_natCast, Int.cast_ofNat_Int, eq_self, ne_eq, ite_true, ite_false, if_true, if_false, Int.add_sub_cancel, Int.sub_add_cancel, Int.add_zero, Int.zero_add, cast_s, iI_in, iI_lit, iI_le, iI_lt, iI_eq, iI_cl, iI_add, iI_sub, iI_mul, iI_neg, iI_nI, ok_s, ok_ck, ok_bn, ok_ob, ck_iI, bn_eq, ob_s, om_n, om_s, cb_bI, gI_g, gI_2, gJ_1, gJ_g, gJ_2, gR_1, gR_2, gR_g, within_v, in_v, bI_i0, bI_i1, iI_bI0, iI_bI1, bI_T, bI_F, f_X12_writerOf, m1, m0, r1, c]
    rw [w]
  · have w := w3 c
    simp (disch := omega) only [reduceIte, Nat.reduceEqDiff, Nat.reduceAdd, Nat.reduceSub, Nat.reduceMul, Nat.reduceLT, Int.reduceNeg, Int.reduceAdd, Int.reduceSub, Int.reduceMul, Int.reduceLT, Int.reduceLE, Int.reduceEq, Int.reduceToNat, reduceCtorEq, and_self, and_true, true_and, false_and, and_false, or_false, false_or, or_true, true_or, true_implies, false_implies, implies_true, not_true_eq_false, not_false_eq_true, Int.toNat_natCast, Int.cast_ofNat_Int, eq_self, ne_eq, ite_true, ite_false, if_true, if_false, Int.add_sub_cancel, Int.sub_add_cancel, Int.add_zero, Int.zero_add, cast_s, iI_in, iI_lit, iI_le, iI_lt, iI_eq, iI_cl, iI_add, iI_sub, iI_mul, iI_neg, iI_nI, ok_s, ok_ck, ok_bn, ok_ob, ck_iI, bn_eq, ob_s, om_n, om_s, cb_bI, gI_g, gI_2, gJ_1, gJ_g, gJ_2, gR_1, gR_2, gR_g, within_v, in_v, bI_i0, bI_i1, iI_bI0, iI_bI1, bI_T, bI_F, f_X12_writerOf, m1, m0, r2, c]
    rw [w]
theorem unl_both (hc : LC G10 G13 n ln tp tl L) (hm : LM G32 ln L) (hb : LB pn d ln L) (hp : RPair G7 G9 G25 gn cn d n pn tp P) (hk : MKS G14 G33 ln tl) (hh : RHand G12 G36) (hn : RNum G2 G26 f) (hF : 200000 ≤ F) {i : Nat} (hi : i < ln) : ∃ x : Int32, f_X6_isUnlike F G2 G9 G12 G13 G14 (tl i) = some x ∧ f_X12_isUnlike F G25 G26 G32 G33 G36 (iI i) = some x ∧ (x = 0 ∨ x = 1) := by
  have hl := hb.1
  obtain ⟨w1, -, -⟩ := hw_b hb hp hi
  have hc' := hand_c (F := F) hc hb hp hi
  have hm' := hand_m (F := F) hm hb hp hi
  generalize hw P L i = h at w1 hc' hm'
  have h49 := hh.1 h w1
  have n4 := hn.1 4 (by omega)
  obtain ⟨N, hN⟩ : ∃ N : Int32, G36.1 147 h = N := ⟨_, rfl⟩
  rw [hN] at h49
  have key := up_ind (n := 4) (Q := fun fu k => ∀ s : Int32, ∃ x, f_X6_isUnlike_l18 F fu G2 G9 G12 G13 G14 (tl i) (iI h) N s (iI k) = some x ∧ (¬ N < iI 3 → f_X12_isUnlike_l26 F fu G25 G26 G32 G33 G36 (iI i) (iI h) N s (iI k) = some x) ∧ (N < iI 3 → x = 0) ∧ (x = 0 ∨ x = 1)) ?_ ?_
  · obtain ⟨x, x1, x2, x3, x4⟩ := key 0 F (by omega) (by omega) (iI 0)
    have x1 : f_X6_isUnlike_l18 F F G2 G9 G12 G13 G14 (tl i) (iI h) N (iI 0) (iI 0) = some x := x1
    refine ⟨x, ?_, ?_, x4⟩
    · skip
      simp (disch := omega) only [reduceIte, Nat.reduceEqDiff, Nat.reduceAdd, Nat.reduceSub, Nat.reduceMul, Nat.reduceLT, Int.reduceNeg, Int.reduceAdd, Int.reduceSub, Int.reduceMul, Int.reduceLT, Int.reduceLE, Int.reduceEq, Int.reduceToNat, reduceCtorEq, and_self, and_true, true_and, false_and, and_false, or_false, false_or, or_true, true_or, true_implies, false_implies, implies_true, not_true_eq_false, not_false_eq_true, Int.toNat_natCast, Int.cast_ofNat_Int, eq_self, ne_eq, ite_true, ite_false, if_true, if_false, Int.add_sub_cancel, Int.sub_add_cancel, Int.add_zero, Int.zero_add, cast_s, iI_in, iI_lit, iI_le, iI_lt, iI_eq, iI_cl, iI_add, iI_sub, iI_mul, iI_neg, iI_nI, ok_s, ok_ck, ok_bn, ok_ob, ck_iI, bn_eq, ob_s, om_n, om_s, cb_bI, gI_g, gI_2, gJ_1, gJ_g, gJ_2, gR_1, gR_2, gR_g, within_v, in_v, bI_i0, bI_i1, iI_bI0, iI_bI1, bI_T, bI_F, f_X6_isUnlike, hc', h49]
      exact x1
    · by_cases c : N < iI 3
      · have e : ¬ iI 3 ≤ N := Int32.not_le.mpr c
        simp (disch := omega) only [reduceIte, Nat.reduceEqDiff, Nat.reduceAdd, Nat.reduceSub, Nat.reduceMul, Nat.reduceLT, Int.reduceNeg, Int.reduceAdd, Int.reduceSub, Int.reduceMul, Int.reduceLT, Int.reduceLE, Int.reduceEq, Int.reduceToNat, reduceCtorEq, and_self, and_true, true_and, false_and, and_false, or_false, false_or, or_true, true_or, true_implies, false_implies, implies_true, not_true_eq_false, not_false_eq_true, Int.toNat_natCast, Int.cast_ofNat_Int, eq_self, ne_eq, ite_true, ite_false, if_true, if_false, Int.add_sub_cancel, Int.sub_add_cancel, Int.add_zero, Int.zero_add, cast_s, iI_in, iI_lit, iI_le, iI_lt, iI_eq, iI_cl, iI_add, iI_sub, iI_mul, iI_neg, iI_nI, ok_s, ok_ck, ok_bn, ok_ob, ck_iI, bn_eq, ob_s, om_n, om_s, cb_bI, gI_g, gI_2, gJ_1, gJ_g, gJ_2, gR_1, gR_2, gR_g, within_v, in_v, bI_i0, bI_i1, iI_bI0, iI_bI1, bI_T, bI_F, f_X12_isUnlike, hm', hN, e]
        rw [x3 c]
        rfl
      · have e : iI 3 ≤ N := Int32.not_lt.mp c
        simp (disch := omega) only [reduceIte, Nat.reduceEqDiff, Nat.reduceAdd, Nat.reduceSub, Nat.reduceMul, Nat.reduceLT, Int.reduceNeg, Int.reduceAdd, Int.reduceSub, Int.reduceMul, Int.reduceLT, Int.reduceLE, Int.reduceEq, Int.reduceToNat, reduceCtorEq, and_self, and_true, true_and, false_and, and_false, or_false, false_or, or_true, true_or, true_implies, false_implies, implies_true, not_true_eq_false, not_false_eq_true, Int.toNat_natCast, Int.cast_ofNat_Int, eq_self, ne_eq, ite_true, ite_false, if_true, if_false, Int.add_sub_cancel, Int.sub_add_cancel, Int.add_zero, Int.zero_add, cast_s, iI_in, iI_lit, iI_le, iI_lt, iI_eq, iI_cl, iI_add, iI_sub, iI_mul, iI_neg, iI_nI, ok_s, ok_ck, ok_bn, ok_ob, ck_iI, bn_eq, ob_s, om_n, om_s, cb_bI, gI_g, gI_2, gJ_1, gJ_g, gJ_2, gR_1, gR_2, gR_g, within_v, in_v, bI_i0, bI_i1, iI_bI0, iI_bI1, bI_T, bI_F, f_X12_isUnlike, hm', hN, e]
        exact x2 c
  · intro fu s
    by_cases c : N < iI 3
    · refine ⟨0, ?_, fun z => absurd c z, fun _ => rfl, Or.inl rfl⟩
      show f_X6_isUnlike_l18b F (f_X6_isUnlike_l18 F fu) G2 G9 G12 G13 G14 _ _ _ _ _ = _
      simp (disch := omega) only [reduceIte, Nat.reduceEqDiff, Nat.reduceAdd, Nat.reduceSub, Nat.reduceMul, Nat.reduceLT, Int.reduceNeg, Int.reduceAdd, Int.reduceSub, Int.reduceMul, Int.reduceLT, Int.reduceLE, Int.reduceEq, Int.reduceToNat, reduceCtorEq, and_self, and_true, true_and, false_and, and_false, or_false, false_or, or_true, true_or, true_implies, false_implies, implies_true, not_true_eq_false, not_false_eq_true, Int.toNat_natCast, Int.cast_ofNat_Int, eq_self, ne_eq, ite_true, ite_false, if_true, if_false, Int.add_sub_cancel, Int.sub_add_cancel, Int.add_zero, Int.zero_add, cast_s, iI_in, iI_lit, iI_le, iI_lt, iI_eq, iI_cl, iI_add, iI_sub, iI_mul, iI_neg, iI_nI, ok_s, ok_ck, ok_bn, ok_ob, ck_iI, bn_eq, ob_s, om_n, om_s, cb_bI, gI_g, gI_2, gJ_1, gJ_g, gJ_2, gR_1, gR_2, gR_g, within_v, in_v, bI_i0, bI_i1, iI_bI0, iI_bI1, bI_T, bI_F, f_X6_isUnlike_l18b, c]
    · by_cases c2 : s ≤ N * iI (f 4)
      · refine ⟨0, ?_, fun _ => ?_, fun _ => rfl, Or.inl rfl⟩
        · show f_X6_isUnlike_l18b F (f_X6_isUnlike_l18 F fu) G2 G9 G12 G13 G14 _ _ _ _ _ = _
          simp (disch := omega) only [reduceIte, Nat.reduceEqDiff, Nat.reduceAdd, Nat.reduceSub, Nat.reduceMul, Nat.reduceLT, Int.reduceNeg, Int.reduceAdd, Int.reduceSub, Int.reduceMul, Int.reduceLT, Int.reduceLE, Int.reduceEq, Int.reduceToNat, reduceCtorEq, and_self, and_true, true_and, false_and, and_false, or_false, false_or, or_true, true_or, true_implies, false_implies, implies_true, not_true_eq_false, not_false_eq_true, Int.toNat_natCast, Int.cast_ofNat_Int, eq_self, ne_eq, ite_true, ite_false, if_true, if_false, Int.add_sub_cancel, Int.sub_add_cancel, Int.add_zero, Int.zero_add, cast_s, iI_in, iI_lit, iI_le, iI_lt, iI_eq, iI_cl, iI_add, iI_sub, iI_mul, iI_neg, iI_nI, ok_s, ok_ck, ok_bn, ok_ob, ck_iI, bn_eq, ob_s, om_n, om_s, cb_bI, gI_g, gI_2, gJ_1, gJ_g, gJ_2, gR_1, gR_2, gR_g, within_v, in_v, bI_i0, bI_i1, iI_bI0, iI_bI1, bI_T, bI_F, f_X6_isUnlike_l18b, c, n4.1, c2]
        · show f_X12_isUnlike_l26b F (f_X12_isUnlike_l26 F fu) G25 G26 G32 G33 G36 _ _ _ _ _ = _
          simp (disch := omega) only [reduceIte, Nat.reduceEqDiff, Nat.reduceAdd, Nat.reduceSub, Nat.reduceMul, Nat.reduceLT, Int.reduceNeg, Int.reduceAdd, Int.reduceSub, Int.reduceMul, Int.reduceLT, Int.reduceLE, Int.reduceEq, Int.reduceToNat, reduceCtorEq, and_self, and_true, true_and, false_and, and_false, or_false, false_or, or_true, true_or, true_implies, false_implies, implies_true, not_true_eq_false, not_false_eq_true, Int.toNat_natCast, Int.cast_ofNat_Int, eq_self, ne_eq, ite_true, ite_false, if_true, if_false, Int.add_sub_cancel, Int.sub_add_cancel, Int.add_zero, Int.zero_add, cast_s, iI_in, iI_lit, iI_le, iI_lt, iI_eq, iI_cl, iI_add, iI_sub, iI_mul, iI_neg, iI_nI, ok_s, ok_ck, ok_bn, ok_ob, ck_iI, bn_eq, ob_s, om_n, om_s, cb_bI, gI_g, gI_2, gJ_1, gJ_g, gJ_2, gR_1, gR_2, gR_g, within_v, in_v, bI_i0, bI_i1, iI_bI0, iI_bI1, bI_T, bI_F, f_X12_isUnlike_l26b, n4.2.1, c2]
      · refine ⟨1, ?_, fun _ => ?_, fun z => absurd z c, Or.inr rfl⟩
        · show f_X6_isUnlike_l18b F (f_X6_isUnlike_l18 F fu) G2 G9 G12 G13 G14 _ _ _ _ _ = _
          simp (disch := omega) only [reduceIte, Nat.reduceEqDiff, Nat.reduceAdd, Nat.reduceSub, Nat.reduceMul, Nat.reduceLT, Int.reduceNeg, Int.reduceAdd, Int.reduceSub, Int.reduceMul, Int.reduceLT, Int.reduceLE, Int.reduceEq, Int.reduceToNat, reduceCtorEq, and_self, and_true, true_and, false_and, and_false, or_false, false_or, or_true, true_or, true_implies, false_implies, implies_true, not_true_eq_false, not_false_eq_true, Int.toNat_natCast, Int.cast_ofNat_Int, eq_self, ne_eq, ite_true, ite_false, if_true, if_false, Int.add_sub_cancel, Int.sub_add_cancel, Int.add_zero, Int.zero_add, cast_s, iI_in, iI_lit, iI_le, iI_lt, iI_eq, iI_cl, iI_add, iI_sub, iI_mul, iI_neg, iI_nI, ok_s, ok_ck, ok_bn, ok_ob, ck_iI, bn_eq, ob_s, om_n, om_s, cb_bI, gI_g, gI_2, gJ_1, gJ_g, gJ_2, gR_1, gR_2, gR_g, within_v, in_v, bI_i0, bI_i1, iI_bI0, iI_bI1, bI_T, bI_F, f_X6_isUnlike_l18b, c, n4.1, c2]
        · show f_X12_isUnlike_l26b F (f_X12_isUnlike_l26 F fu) G25 G26 G32 G33 G36 _ _ _ _ _ = _
          simp (disch := omega) only [reduceIte, Nat.reduceEqDiff, Nat.reduceAdd, Nat.reduceSub, Nat.reduceMul, Nat.reduceLT, Int.reduceNeg, Int.reduceAdd, Int.reduceSub, Int.reduceMul, Int.reduceLT, Int.reduceLE, Int.reduceEq, Int.reduceToNat, reduceCtorEq, and_self, and_true, true_and, false_and, and_false, or_false, false_or, or_true, true_or, true_implies, false_implies, implies_true, not_true_eq_false, not_false_eq_true, Int.toNat_natCast, Int.cast_ofNat_Int, eq_self, ne_eq, ite_true, ite_false, if_true, if_false, Int.add_sub_cancel, Int.sub_add_cancel, Int.add_zero, Int.zero_add, cast_s, iI_in, iI_lit, iI_le, iI_lt, iI_eq, iI_cl, iI_add, iI_sub, iI_mul, iI_neg, iI_nI, ok_s, ok_ck, ok_bn, ok_ob, ck_iI, bn_eq, ob_s, om_n, om_s, cb_bI, gI_g, gI_2, gJ_1, gJ_g, gJ_2, gR_1, gR_2, gR_g, within_v, in_v, bI_i0, bI_i1, iI_bI0, iI_bI1, bI_T, bI_F, f_X12_isUnlike_l26b, n4.2.1, c2]
  · intro k fu hk4 ih s
    have e : ¬ (4 : Int) ≤ k := by omega
    have mk := hk i hi k hk4
    have e1 : ((h : Int) * 4 + (k : Int)).toNat = 4 * h + k := by omega
    have e2 : (4 * (h : Int) + (k : Int)).toNat = 4 * h + k := by omega
    have e3 : (4 * (i : Int) + (k : Int)).toNat = 4 * i + k := by omega
    have h50 := hh.2 (4 * h + k) (by omega)
    obtain ⟨V, hV⟩ : ∃ V : Int32, N * G33.1 141 (4 * i + k) - G36.1 148 (4 * h + k) = V := ⟨_, rfl⟩
    have z0 : iI 0 - V = -V := Int32.zero_sub V
    by_cases c : iI 0 ≤ V
    · obtain ⟨x, x1, x2, x3⟩ := ih (s + V)
      refine ⟨x, ?_, fun z => ?_, x3⟩
      · show f_X6_isUnlike_l18b F (f_X6_isUnlike_l18 F fu) G2 G9 G12 G13 G14 _ _ _ _ _ = _
        simp (disch := omega) only [reduceIte, Nat.reduceEqDiff, Nat.reduceAdd, Nat.reduceSub, Nat.reduceMul, Nat.reduceLT, Int.reduceNeg, Int.reduceAdd, Int.reduceSub, Int.reduceMul, Int.reduceLT, Int.reduceLE, Int.reduceEq, Int.reduceToNat, reduceCtorEq, and_self, and_true, true_and, false_and, and_false, or_false, false_or, or_true, true_or, true_implies, false_implies, implies_true, not_true_eq_false, not_false_eq_true, Int.toNat_natCast, Int.cast_ofNat_Int, eq_self, ne_eq, ite_true, ite_false, if_true, if_false, Int.add_sub_cancel, Int.sub_add_cancel, Int.add_zero, Int.zero_add, cast_s, iI_in, iI_lit, iI_le, iI_lt, iI_eq, iI_cl, iI_add, iI_sub, iI_mul, iI_neg, iI_nI, ok_s, ok_ck, ok_bn, ok_ob, ck_iI, bn_eq, ob_s, om_n, om_s, cb_bI, gI_g, gI_2, gJ_1, gJ_g, gJ_2, gR_1, gR_2, gR_g, within_v, in_v, bI_i0, bI_i1, iI_bI0, iI_bI1, bI_T, bI_F, f_X6_isUnlike_l18b, e, e1, mk, h50, hV, c]
        exact x1
      · show f_X12_isUnlike_l26b F (f_X12_isUnlike_l26 F fu) G25 G26 G32 G33 G36 _ _ _ _ _ = _
        simp (disch := omega) only [reduceIte, Nat.reduceEqDiff, Nat.reduceAdd, Nat.reduceSub, Nat.reduceMul, Nat.reduceLT, Int.reduceNeg, Int.reduceAdd, Int.reduceSub, Int.reduceMul, Int.reduceLT, Int.reduceLE, Int.reduceEq, Int.reduceToNat, reduceCtorEq, and_self, and_true, true_and, false_and, and_false, or_false, false_or, or_true, true_or, true_implies, false_implies, implies_true, not_true_eq_false, not_false_eq_true, Int.toNat_natCast, Int.cast_ofNat_Int, eq_self, ne_eq, ite_true, ite_false, if_true, if_false, Int.add_sub_cancel, Int.sub_add_cancel, Int.add_zero, Int.zero_add, cast_s, iI_in, iI_lit, iI_le, iI_lt, iI_eq, iI_cl, iI_add, iI_sub, iI_mul, iI_neg, iI_nI, ok_s, ok_ck, ok_bn, ok_ob, ck_iI, bn_eq, ob_s, om_n, om_s, cb_bI, gI_g, gI_2, gJ_1, gJ_g, gJ_2, gR_1, gR_2, gR_g, within_v, in_v, bI_i0, bI_i1, iI_bI0, iI_bI1, bI_T, bI_F, f_X12_isUnlike_l26b, e, e2, e3, hV, c]
        exact x2 z
    · obtain ⟨x, x1, x2, x3⟩ := ih (s + -V)
      refine ⟨x, ?_, fun z => ?_, x3⟩
      · show f_X6_isUnlike_l18b F (f_X6_isUnlike_l18 F fu) G2 G9 G12 G13 G14 _ _ _ _ _ = _
        simp (disch := omega) only [reduceIte, Nat.reduceEqDiff, Nat.reduceAdd, Nat.reduceSub, Nat.reduceMul, Nat.reduceLT, Int.reduceNeg, Int.reduceAdd, Int.reduceSub, Int.reduceMul, Int.reduceLT, Int.reduceLE, Int.reduceEq, Int.reduceToNat, reduceCtorEq, and_self, and_true, true_and, false_and, and_false, or_false, false_or, or_true, true_or, true_implies, false_implies, implies_true, not_true_eq_false, not_false_eq_true, Int.toNat_natCast, Int.cast_ofNat_Int, eq_self, ne_eq, ite_true, ite_false, if_true, if_false, Int.add_sub_cancel, Int.sub_add_cancel, Int.add_zero, Int.zero_add, cast_s, iI_in, iI_lit, iI_le, iI_lt, iI_eq, iI_cl, iI_add, iI_sub, iI_mul, iI_neg, iI_nI, ok_s, ok_ck, ok_bn, ok_ob, ck_iI, bn_eq, ob_s, om_n, om_s, cb_bI, gI_g, gI_2, gJ_1, gJ_g, gJ_2, gR_1, gR_2, gR_g, within_v, in_v, bI_i0, bI_i1, iI_bI0, iI_bI1, bI_T, bI_F, f_X6_isUnlike_l18b, e, e1, mk, h50, hV, c, z0]
        exact x1
      · show f_X12_isUnlike_l26b F (f_X12_isUnlike_l26 F fu) G25 G26 G32 G33 G36 _ _ _ _ _ = _
        simp (disch := omega) only [reduceIte, Nat.reduceEqDiff, Nat.reduceAdd, Nat.reduceSub, Nat.reduceMul, Nat.reduceLT, Int.reduceNeg, Int.reduceAdd, Int.reduceSub, Int.reduceMul, Int.reduceLT, Int.reduceLE, Int.reduceEq, Int.reduceToNat, reduceCtorEq, and_self, and_true, true_and, false_and, and_false, or_false, false_or, or_true, true_or, true_implies, false_implies, implies_true, not_true_eq_false, not_false_eq_true, Int.toNat_natCast, Int.cast_ofNat_Int, eq_self, ne_eq, ite_true, ite_false, if_true, if_false, Int.add_sub_cancel, Int.sub_add_cancel, Int.add_zero, Int.zero_add, cast_s, iI_in, iI_lit, iI_le, iI_lt, iI_eq, iI_cl, iI_add, iI_sub, iI_mul, iI_neg, iI_nI, ok_s, ok_ck, ok_bn, ok_ob, ck_iI, bn_eq, ob_s, om_n, om_s, cb_bI, gI_g, gI_2, gJ_1, gJ_g, gJ_2, gR_1, gR_2, gR_g, within_v, in_v, bI_i0, bI_i1, iI_bI0, iI_bI1, bI_T, bI_F, f_X12_isUnlike_l26b, e, e2, e3, hV, c]
        exact x2 z
theorem call_unlike (hc : LC G10 G13 n ln tp tl L) (hm : LM G32 ln L) (hb : LB pn d ln L) (hp : RPair G7 G9 G25 gn cn d n pn tp P) (hk : MKS G14 G33 ln tl) (hh : RHand G12 G36) (hn : RNum G2 G26 f) (hF : 200000 ≤ F) (a : Int32) : ok (f_X11_unlike F G2 G9 G10 G12 G13 G14 a) (fun q => ok (f_X12_unlike F G25 G26 G32 G33 G36 a) fun w => q = w) := by
  obtain ⟨a, rfl, a1, a2⟩ := iI_ex a
  have la := letterAt_c (F := F) hc hb.1 a1 a2
  have tm := there_m (F := F) hm hb.1 a1 a2
  by_cases c : 0 ≤ a ∧ a ≤ (ln : Int) - 1
  · obtain ⟨i, rfl⟩ : ∃ i : Nat, a = (i : Int) := ⟨a.toNat, by omega⟩
    obtain ⟨x, x1, x2, x3⟩ := unl_both (F := F) hc hm hb hp hk hh hn hF (i := i) (by omega)
    rw [if_pos c] at la
    rw [bI_t c] at tm
    rcases x3 with rfl | rfl
    · skip
      unfold f_X11_unlike f_X12_unlike
      rw [la, tm]
      simp only [ob_s, om_s, Int.toNat_natCast, x1, x2]
      rfl
    · unfold f_X11_unlike f_X12_unlike
      rw [la, tm]
      simp only [ob_s, om_s, Int.toNat_natCast, x1, x2]
      rfl
  · rw [if_neg c] at la
    rw [bI_f c] at tm
    unfold f_X11_unlike f_X12_unlike
    rw [la, tm]
    rfl
theorem call_amiss (hc : LC G10 G13 n ln tp tl L) (hm : LM G32 ln L) (hb : LB pn d ln L) (hp : RPair G7 G9 G25 gn cn d n pn tp P) (ht : RTell G8 G41 cn d tn T) (hd : d < 3600) (hF : 200000 ≤ F) (a : Int32) : ok (f_X11_amiss F G8 G9 G10 G13 a) (fun q => ok (f_X12_amiss F G25 G32 G41 a) fun w => q = w) := by
  obtain ⟨a, rfl, a1, a2⟩ := iI_ex a
  by_cases c : 0 ≤ a ∧ a ≤ 3599
  · have h0 := hc.1
    have m0 := hm.1
    have hl := hb.1
    have hpn := hp.1
    have key := up_ind (n := ln) (Q := fun fu i => ∀ s : Int32, ∃ x, f_X6_cameAmiss_l4 F fu G8 G9 G10 G13 (iI a) s (iI i) = some x ∧ f_X12_amiss_l13 F fu G25 G32 G41 (iI a) s (iI i) = some x) ?_ ?_
    · obtain ⟨x, x1, x2⟩ := key 0 F (by omega) (by omega) (iI 0)
      have x1 : f_X6_cameAmiss_l4 F F G8 G9 G10 G13 (iI a) (iI 0) (iI 0) = some x := x1
      have x2 : f_X12_amiss_l13 F F G25 G32 G41 (iI a) (iI 0) (iI 0) = some x := x2
      simp (disch := omega) only [reduceIte, Nat.reduceEqDiff, Nat.reduceAdd, Nat.reduceSub, Nat.reduceMul, Nat.reduceLT, Int.reduceNeg, Int.reduceAdd, Int.reduceSub, Int.reduceMul, Int.reduceLT, Int.reduceLE, Int.reduceEq, Int.reduceToNat, reduceCtorEq, and_self, and_true, true_and, false_and, and_false, or_false, false_or, or_true, true_or, true_implies, false_implies, implies_true, not_true_eq_false, not_false_eq_true, Int.toNat_natCast, Int.cast_ofNat_Int, eq_self, ne_eq, ite_true, ite_false, if_true, if_false, Int.add_sub_cancel, Int.sub_add_cancel, Int.add_zero, Int.zero_add, cast_s, iI_in, iI_lit, iI_le, iI_lt, iI_eq, iI_cl, iI_add, iI_sub, iI_mul, iI_neg, iI_nI, ok_s, ok_ck, ok_bn, ok_ob, ck_iI, bn_eq, ob_s, om_n, om_s, cb_bI, gI_g, gI_2, gJ_1, gJ_g, gJ_2, gR_1, gR_2, gR_g, within_v, in_v, bI_i0, bI_i1, iI_bI0, iI_bI1, bI_T, bI_F, f_X11_amiss, f_X12_amiss, f_X6_cameAmiss, isDay_m a1 a2, c, x1, x2]
    · intro fu s
      have e : (ln : Int) ≤ ln := Int.le_refl _
      refine ⟨s, ?_, ?_⟩
      · show f_X6_cameAmiss_l4b F (f_X6_cameAmiss_l4 F fu) G8 G9 G10 G13 _ _ _ = _
        simp (disch := omega) only [reduceIte, Nat.reduceEqDiff, Nat.reduceAdd, Nat.reduceSub, Nat.reduceMul, Nat.reduceLT, Int.reduceNeg, Int.reduceAdd, Int.reduceSub, Int.reduceMul, Int.reduceLT, Int.reduceLE, Int.reduceEq, Int.reduceToNat, reduceCtorEq, and_self, and_true, true_and, false_and, and_false, or_false, false_or, or_true, true_or, true_implies, false_implies, implies_true, not_true_eq_false, not_false_eq_true, Int.toNat_natCast, Int.cast_ofNat_Int, eq_self, ne_eq, ite_true, ite_false, if_true, if_false, Int.add_sub_cancel, Int.sub_add_cancel, Int.add_zero, Int.zero_add, cast_s, iI_in, iI_lit, iI_le, iI_lt, iI_eq, iI_cl, iI_add, iI_sub, iI_mul, iI_neg, iI_nI, ok_s, ok_ck, ok_bn, ok_ob, ck_iI, bn_eq, ob_s, om_n, om_s, cb_bI, gI_g, gI_2, gJ_1, gJ_g, gJ_2, gR_1, gR_2, gR_g, within_v, in_v, bI_i0, bI_i1, iI_bI0, iI_bI1, bI_T, bI_F, f_X6_cameAmiss_l4b, h0, e]
      · show f_X12_amiss_l13b F (f_X12_amiss_l13 F fu) G25 G32 G41 _ _ _ = _
        simp (disch := omega) only [reduceIte, Nat.reduceEqDiff, Nat.reduceAdd, Nat.reduceSub, Nat.reduceMul, Nat.reduceLT, Int.reduceNeg, Int.reduceAdd, Int.reduceSub, Int.reduceMul, Int.reduceLT, Int.reduceLE, Int.reduceEq, Int.reduceToNat, reduceCtorEq, and_self, and_true, true_and, false_and, and_false, or_false, false_or, or_true, true_or, true_implies, false_implies, implies_true, not_true_eq_false, not_false_eq_true, Int.toNat_natCast, Int.cast_ofNat_Int, eq_self, ne_eq, ite_true, ite_false, if_true, if_false, Int.add_sub_cancel, Int.sub_add_cancel, Int.add_zero, Int.zero_add, cast_s, iI_in, iI_lit, iI_le, iI_lt, iI_eq, iI_cl, iI_add, iI_sub, iI_mul, iI_neg, iI_nI, ok_s, ok_ck, ok_bn, ok_ob, ck_iI, bn_eq, ob_s, om_n, om_s, cb_bI, gI_g, gI_2, gJ_1, gJ_g, gJ_2, gR_1, gR_2, gR_g, within_v, in_v, bI_i0, bI_i1, iI_bI0, iI_bI1, bI_T, bI_F, f_X12_amiss_l13b, m0, e]
    · intro i fu hi ih s
      have e : ¬ (ln : Int) ≤ i := by omega
      obtain ⟨p1, p2, p3, p4, p5, p6⟩ := hb.2 i hi
      obtain ⟨q0, q0', q1, q2, q6, q7, q8, q9, q10, q11⟩ := hc.at hi
      obtain ⟨m0', m1, m2, m6, m7, m8, m9, m10, m11⟩ := hm.at hi
      have pr := hp.2.2.2.1 (L i 0).toNat (by omega)
      have pb := (hp.2.2.2.2.1 (L i 0).toNat (by omega)).2.2.1
      have r2 := pr.2.2.1 2 (by omega)
      have r2' := pr.2.2.2.2.1
      have hcn := ht.2.2.2.2.2
      have lr := lft_r ht (P (L i 0).toNat 2) a tn (Nat.le_refl _)
      have lc := leftAs_c (F := F) ht hd (by omega) (c := P (L i 0).toNat 2) (k := a) (by omega) (by omega) a1 a2
      have lm := leftOn_m (F := F) ht hd (by omega) (c := P (L i 0).toNat 2) (k := a) (by omega) (by omega) a1 a2
      generalize hP : (L i 0).toNat = pi at *
      generalize P pi 2 = cc at *
      generalize lft T cc a tn = y at *
      obtain ⟨u, u1, u2⟩ := ih s
      obtain ⟨x, x1, x2⟩ := ih (s + iI 1)
      by_cases k1 : L i 8 = 6
      · by_cases k2 : y = -1
        · refine ⟨u, ?_, ?_⟩
          · show f_X6_cameAmiss_l4b F (f_X6_cameAmiss_l4 F fu) G8 G9 G10 G13 _ _ _ = _
            simp (disch := omega) only [reduceIte, Nat.reduceEqDiff, Nat.reduceAdd, Nat.reduceSub, Nat.reduceMul, Nat.reduceLT, Int.reduceNeg, Int.reduceAdd, Int.reduceSub, Int.reduceMul, Int.reduceLT, Int.reduceLE, Int.reduceEq, Int.reduceToNat, reduceCtorEq, and_self, and_true, true_and, false_and, and_false, or_false, false_or, or_true, true_or, true_implies, false_implies, implies_true, not_true_eq_false, not_false_eq_true, Int.toNat_natCast, Int.cast_ofNat_Int, eq_self, ne_eq, ite_true, ite_false, if_true, if_false, Int.add_sub_cancel, Int.sub_add_cancel, Int.add_zero, Int.zero_add, cast_s, iI_in, iI_lit, iI_le, iI_lt, iI_eq, iI_cl, iI_add, iI_sub, iI_mul, iI_neg, iI_nI, ok_s, ok_ck, ok_bn, ok_ob, ck_iI, bn_eq, ob_s, om_n, om_s, cb_bI, gI_g, gI_2, gJ_1, gJ_g, gJ_2, gR_1, gR_2, gR_g, within_v, in_v, bI_i0, bI_i1, iI_bI0, iI_bI1, bI_T, bI_F, f_X6_cameAmiss_l4b, h0, e, q0, q0', r2, lc, q8, k1, eq_true k2]
            exact u1
          · show f_X12_amiss_l13b F (f_X12_amiss_l13 F fu) G25 G32 G41 _ _ _ = _
            simp (disch := omega) only [reduceIte, Nat.reduceEqDiff, Nat.reduceAdd, Nat.reduceSub, Nat.reduceMul, Nat.reduceLT, Int.reduceNeg, Int.reduceAdd, Int.reduceSub, Int.reduceMul, Int.reduceLT, Int.reduceLE, Int.reduceEq, Int.reduceToNat, reduceCtorEq, and_self, and_true, true_and, false_and, and_false, or_false, false_or, or_true, true_or, true_implies, false_implies, implies_true, not_true_eq_false, not_false_eq_true, Int.toNat_natCast, Int.cast_ofNat_Int, eq_self, ne_eq, ite_true, ite_false, if_true, if_false, Int.add_sub_cancel, Int.sub_add_cancel, Int.add_zero, Int.zero_add, cast_s, iI_in, iI_lit, iI_le, iI_lt, iI_eq, iI_cl, iI_add, iI_sub, iI_mul, iI_neg, iI_nI, ok_s, ok_ck, ok_bn, ok_ob, ck_iI, bn_eq, ob_s, om_n, om_s, cb_bI, gI_g, gI_2, gJ_1, gJ_g, gJ_2, gR_1, gR_2, gR_g, within_v, in_v, bI_i0, bI_i1, iI_bI0, iI_bI1, bI_T, bI_F, f_X12_amiss_l13b, m0, e, m0', hP, r2', lm, m8, k1, eq_true k2, add_0]
            exact u2
        · by_cases k3 : L i 9 < y
          · refine ⟨u, ?_, ?_⟩
            · show f_X6_cameAmiss_l4b F (f_X6_cameAmiss_l4 F fu) G8 G9 G10 G13 _ _ _ = _
              simp (disch := omega) only [reduceIte, Nat.reduceEqDiff, Nat.reduceAdd, Nat.reduceSub, Nat.reduceMul, Nat.reduceLT, Int.reduceNeg, Int.reduceAdd, Int.reduceSub, Int.reduceMul, Int.reduceLT, Int.reduceLE, Int.reduceEq, Int.reduceToNat, reduceCtorEq, and_self, and_true, true_and, false_and, and_false, or_false, false_or, or_true, true_or, true_implies, false_implies, implies_true, not_true_eq_false, not_false_eq_true, Int.toNat_natCast, Int.cast_ofNat_Int, eq_self, ne_eq, ite_true, ite_false, if_true, if_false, Int.add_sub_cancel, Int.sub_add_cancel, Int.add_zero, Int.zero_add, cast_s, iI_in, iI_lit, iI_le, iI_lt, iI_eq, iI_cl, iI_add, iI_sub, iI_mul, iI_neg, iI_nI, ok_s, ok_ck, ok_bn, ok_ob, ck_iI, bn_eq, ob_s, om_n, om_s, cb_bI, gI_g, gI_2, gJ_1, gJ_g, gJ_2, gR_1, gR_2, gR_g, within_v, in_v, bI_i0, bI_i1, iI_bI0, iI_bI1, bI_T, bI_F, f_X6_cameAmiss_l4b, h0, e, q0, q0', r2, lc, q8, k1, k2, q9, k3]
              exact u1
            · show f_X12_amiss_l13b F (f_X12_amiss_l13 F fu) G25 G32 G41 _ _ _ = _
              simp (disch := omega) only [reduceIte, Nat.reduceEqDiff, Nat.reduceAdd, Nat.reduceSub, Nat.reduceMul, Nat.reduceLT, Int.reduceNeg, Int.reduceAdd, Int.reduceSub, Int.reduceMul, Int.reduceLT, Int.reduceLE, Int.reduceEq, Int.reduceToNat, reduceCtorEq, and_self, and_true, true_and, false_and, and_false, or_false, false_or, or_true, true_or, true_implies, false_implies, implies_true, not_true_eq_false, not_false_eq_true, Int.toNat_natCast, Int.cast_ofNat_Int, eq_self, ne_eq, ite_true, ite_false, if_true, if_false, Int.add_sub_cancel, Int.sub_add_cancel, Int.add_zero, Int.zero_add, cast_s, iI_in, iI_lit, iI_le, iI_lt, iI_eq, iI_cl, iI_add, iI_sub, iI_mul, iI_neg, iI_nI, ok_s, ok_ck, ok_bn, ok_ob, ck_iI, bn_eq, ob_s, om_n, om_s, cb_bI, gI_g, gI_2, gJ_1, gJ_g, gJ_2, gR_1, gR_2, gR_g, within_v, in_v, bI_i0, bI_i1, iI_bI0, iI_bI1, bI_T, bI_F, f_X12_amiss_l13b, m0, e, m0', hP, r2', lm, m8, k1, k2, m9, k3, add_0]
              exact u2
          · refine ⟨x, ?_, ?_⟩
            · show f_X6_cameAmiss_l4b F (f_X6_cameAmiss_l4 F fu) G8 G9 G10 G13 _ _ _ = _
              simp (disch := omega) only [reduceIte, Nat.reduceEqDiff, Nat.reduceAdd, Nat.reduceSub, Nat.reduceMul, Nat.reduceLT, Int.reduceNeg, Int.reduceAdd, Int.reduceSub, Int.reduceMul, Int.reduceLT, Int.reduceLE, Int.reduceEq, Int.reduceToNat, reduceCtorEq, and_self, and_true, true_and, false_and, and_false, or_false, false_or, or_true, true_or, true_implies, false_implies, implies_true, not_true_eq_false, not_false_eq_true, Int.toNat_natCast, Int.cast_ofNat_Int, eq_self, ne_eq, ite_true, ite_false, if_true, if_false, Int.add_sub_cancel, Int.sub_add_cancel, Int.add_zero, Int.zero_add, cast_s, iI_in, iI_lit, iI_le, iI_lt, iI_eq, iI_cl, iI_add, iI_sub, iI_mul, iI_neg, iI_nI, ok_s, ok_ck, ok_bn, ok_ob, ck_iI, bn_eq, ob_s, om_n, om_s, cb_bI, gI_g, gI_2, gJ_1, gJ_g, gJ_2, gR_1, gR_2, gR_g, within_v, in_v, bI_i0, bI_i1, iI_bI0, iI_bI1, bI_T, bI_F, f_X6_cameAmiss_l4b, h0, e, q0, q0', r2, lc, q8, k1, k2, q9, k3]
              exact x1
            · show f_X12_amiss_l13b F (f_X12_amiss_l13 F fu) G25 G32 G41 _ _ _ = _
              simp (disch := omega) only [reduceIte, Nat.reduceEqDiff, Nat.reduceAdd, Nat.reduceSub, Nat.reduceMul, Nat.reduceLT, Int.reduceNeg, Int.reduceAdd, Int.reduceSub, Int.reduceMul, Int.reduceLT, Int.reduceLE, Int.reduceEq, Int.reduceToNat, reduceCtorEq, and_self, and_true, true_and, false_and, and_false, or_false, false_or, or_true, true_or, true_implies, false_implies, implies_true, not_true_eq_false, not_false_eq_true, Int.toNat_natCast, Int.cast_ofNat_Int, eq_self, ne_eq, ite_true, ite_false, if_true, if_false, Int.add_sub_cancel, Int.sub_add_cancel, Int.add_zero, Int.zero_add, cast_s, iI_in, iI_lit, iI_le, iI_lt, iI_eq, iI_cl, iI_add, iI_sub, iI_mul, iI_neg, iI_nI, ok_s, ok_ck, ok_bn, ok_ob, ck_iI, bn_eq, ob_s, om_n, om_s, cb_bI, gI_g, gI_2, gJ_1, gJ_g, gJ_2, gR_1, gR_2, gR_g, within_v, in_v, bI_i0, bI_i1, iI_bI0, iI_bI1, bI_T, bI_F, f_X12_amiss_l13b, m0, e, m0', hP, r2', lm, m8, k1, k2, m9, k3]
              exact x2
      · refine ⟨u, ?_, ?_⟩
        · show f_X6_cameAmiss_l4b F (f_X6_cameAmiss_l4 F fu) G8 G9 G10 G13 _ _ _ = _
          simp (disch := omega) only [reduceIte, Nat.reduceEqDiff, Nat.reduceAdd, Nat.reduceSub, Nat.reduceMul, Nat.reduceLT, Int.reduceNeg, Int.reduceAdd, Int.reduceSub, Int.reduceMul, Int.reduceLT, Int.reduceLE, Int.reduceEq, Int.reduceToNat, reduceCtorEq, and_self, and_true, true_and, false_and, and_false, or_false, false_or, or_true, true_or, true_implies, false_implies, implies_true, not_true_eq_false, not_false_eq_true, Int.toNat_natCast, Int.cast_ofNat_Int, eq_self, ne_eq, ite_true, ite_false, if_true, if_false, Int.add_sub_cancel, Int.sub_add_cancel, Int.add_zero, Int.zero_add, cast_s, iI_in, iI_lit, iI_le, iI_lt, iI_eq, iI_cl, iI_add, iI_sub, iI_mul, iI_neg, iI_nI, ok_s, ok_ck, ok_bn, ok_ob, ck_iI, bn_eq, ob_s, om_n, om_s, cb_bI, gI_g, gI_2, gJ_1, gJ_g, gJ_2, gR_1, gR_2, gR_g, within_v, in_v, bI_i0, bI_i1, iI_bI0, iI_bI1, bI_T, bI_F, f_X6_cameAmiss_l4b, h0, e, q0, q0', r2, lc, q8, k1]
          exact u1
        · show f_X12_amiss_l13b F (f_X12_amiss_l13 F fu) G25 G32 G41 _ _ _ = _
          simp (disch := omega) only [reduceIte, Nat.reduceEqDiff, Nat.reduceAdd, Nat.reduceSub, Nat.reduceMul, Nat.reduceLT, Int.reduceNeg, Int.reduceAdd, Int.reduceSub, Int.reduceMul, Int.reduceLT, Int.reduceLE, Int.reduceEq, Int.reduceToNat, reduceCtorEq, and_self, and_true, true_and, false_and, and_false, or_false, false_or, or_true, true_or, true_implies, false_implies, implies_true, not_true_eq_false, not_false_eq_true, Int.toNat_natCast, Int.cast_ofNat_Int, eq_self, ne_eq, ite_true, ite_false, if_true, if_false, Int.add_sub_cancel, Int.sub_add_cancel, Int.add_zero, Int.zero_add, cast_s, iI_in, iI_lit, iI_le, iI_lt, iI_eq, iI_cl, iI_add, iI_sub, iI_mul, iI_neg, iI_nI, ok_s, ok_ck, ok_bn, ok_ob, ck_iI, bn_eq, ob_s, om_n, om_s, cb_bI, gI_g, gI_2, gJ_1, gJ_g, gJ_2, gR_1, gR_2, gR_g, within_v, in_v, bI_i0, bI_i1, iI_bI0, iI_bI1, bI_T, bI_F, f_X12_amiss_l13b, m0, e, m0', hP, r2', lm, m8, k1, add_0]
          exact u2
  · skip
    simp (disch := omega) only [reduceIte, Nat.reduceEqDiff, Nat.reduceAdd, Nat.reduceSub, Nat.reduceMul, Nat.reduceLT, Int.reduceNeg, Int.reduceAdd, Int.reduceSub, Int.reduceMul, Int.reduceLT, Int.reduceLE, Int.reduceEq, Int.reduceToNat, reduceCtorEq, and_self, and_true, true_and, false_and, and_false, or_false, false_or, or_true, true_or, true_implies, false_implies, implies_true, not_true_eq_false, not_false_eq_true, Int.toNat_natCast, Int.cast_ofNat_Int, eq_self, ne_eq, ite_true, ite_false, if_true, if_false, Int.add_sub_cancel, Int.sub_add_cancel, Int.add_zero, Int.zero_add, cast_s, iI_in, iI_lit, iI_le, iI_lt, iI_eq, iI_cl, iI_add, iI_sub, iI_mul, iI_neg, iI_nI, ok_s, ok_ck, ok_bn, ok_ob, ck_iI, bn_eq, ob_s, om_n, om_s, cb_bI, gI_g, gI_2, gJ_1, gJ_g, gJ_2, gR_1, gR_2, gR_g, within_v, in_v, bI_i0, bI_i1, iI_bI0, iI_bI1, bI_T, bI_F, f_X11_amiss, f_X12_amiss, isDay_m a1 a2, c]
theorem lcs_b {p : Nat} {fr : Int} {B : Int} : ∀ k, fr ≤ B → (∀ i, i < k → L i 9 ≤ B) → fr ≤ lcs L p fr k ∧ lcs L p fr k ≤ B := by
  intro k
  induction k with
  | zero => intro h _; exact ⟨Int.le_refl _, h⟩
  | succ k ih =>
    intro h h2
    have := ih h fun i hi => h2 i (by omega)
    have := h2 k (by omega)
    rw [lcs_s]
    split
    · omega
    · omega
theorem call_silent (hm : LM G32 ln L) (hb : LB pn d ln L) (hp : RPair G7 G9 G25 gn cn d n pn tp P) (hs : RSil pn d ln P L) (hd : d < 3600) (h1 : G1.1 0 0 = iI d) (h23 : G23.1 91 0 = iI d) (hF : 200000 ≤ F) (a : Int32) : ok (f_X11_silent F G1 G7 G9 a) (fun q => ok (f_X12_silent F G23 G25 G32 a) fun w => q = w) := by
  obtain ⟨a, rfl, a1, a2⟩ := iI_ex a
  have hpn := hp.1
  have oc := openPairAt_c (F := F) hp hd a1 a2
  have im := isPair_m (F := F) hp a1 a2
  by_cases c : 0 ≤ a ∧ a ≤ (pn : Int) - 1
  · obtain ⟨p, rfl⟩ : ∃ p : Nat, a = (p : Int) := ⟨a.toNat, by omega⟩
    have hpp : p < pn := by omega
    have om := isOpen_m (F := F) hp hd hpp
    have pr := hp.2.2.2.1 p hpp
    have pb := hp.2.2.2.2.1 p hpp
    have r8 := pr.2.2.1 8 (by omega)
    have r3 := pr.2.2.1 3 (by omega)
    have r3' := pr.2.2.2.2.2.1
    obtain ⟨s1, s2, s3⟩ := hs p hpp
    have m0 := hm.1
    have hl := hb.1
    simp only [Int.toNat_natCast] at oc
    by_cases c2 : P p 4 = -1
    · rw [if_pos ⟨c, c2⟩] at oc
      rw [bI_t c] at im
      rw [bI_t c2] at om
      have bnd : ∀ k, k ≤ ln → P p 3 ≤ lcs L p (P p 3) k ∧ lcs L p (P p 3) k ≤ d := fun k hk => lcs_b (B := d) k (by omega) fun i hi => by have := (hb.2 i (by omega)).2.2.2.2.1; omega
      have key := up_ind (n := ln) (Q := fun fu i => f_X12_silent_l27 F fu G23 G25 G32 (iI p) (iI (lcs L p (P p 3) i)) (iI i) = some (iI d / iI 30 - iI (lcs L p (P p 3) ln) / iI 30)) ?_ ?_
      · have x2 : f_X12_silent_l27 F F G23 G25 G32 (iI p) (iI (P p 3)) (iI 0) = _ := key 0 F (by omega) (by omega)
        have mm : f_X12_silent F G23 G25 G32 (iI p) = some (iI d / iI 30 - iI (lcs L p (P p 3) ln) / iI 30) := by
          unfold f_X12_silent
          rw [im, ob_s, if_neg (by decide), om, ob_s, if_neg (by decide)]
          simp (disch := omega) only [reduceIte, Nat.reduceEqDiff, Nat.reduceAdd, Nat.reduceSub, Nat.reduceMul, Nat.reduceLT, Int.reduceNeg, Int.reduceAdd, Int.reduceSub, Int.reduceMul, Int.reduceLT, Int.reduceLE, Int.reduceEq, Int.reduceToNat, reduceCtorEq, and_self, and_true, true_and, false_and, and_false, or_false, false_or, or_true, true_or, true_implies, false_implies, implies_true, not_true_eq_false, not_false_eq_true, Int.toNat_natCast, Int.cast_ofNat_Int, eq_self, ne_eq, ite_true, ite_false, if_true, if_false, Int.add_sub_cancel, Int.sub_add_cancel, Int.add_zero, Int.zero_add, cast_s, iI_in, iI_lit, iI_le, iI_lt, iI_eq, iI_cl, iI_add, iI_sub, iI_mul, iI_neg, iI_nI, ok_s, ok_ck, ok_bn, ok_ob, ck_iI, bn_eq, ob_s, om_n, om_s, cb_bI, gI_g, gI_2, gJ_1, gJ_g, gJ_2, gR_1, gR_2, gR_g, within_v, in_v, bI_i0, bI_i1, iI_bI0, iI_bI1, bI_T, bI_F, r3', x2]
        rw [mm]
        unfold f_X11_silent
        rw [oc, ob_s, om_s]
        by_cases c8 : P p 8 = -1
        · rw [if_pos c8] at s3
          rw [s3]
          simp (disch := omega) only [reduceIte, Nat.reduceEqDiff, Nat.reduceAdd, Nat.reduceSub, Nat.reduceMul, Nat.reduceLT, Int.reduceNeg, Int.reduceAdd, Int.reduceSub, Int.reduceMul, Int.reduceLT, Int.reduceLE, Int.reduceEq, Int.reduceToNat, reduceCtorEq, and_self, and_true, true_and, false_and, and_false, or_false, false_or, or_true, true_or, true_implies, false_implies, implies_true, not_true_eq_false, not_false_eq_true, Int.toNat_natCast, Int.cast_ofNat_Int, eq_self, ne_eq, ite_true, ite_false, if_true, if_false, Int.add_sub_cancel, Int.sub_add_cancel, Int.add_zero, Int.zero_add, cast_s, iI_in, iI_lit, iI_le, iI_lt, iI_eq, iI_cl, iI_add, iI_sub, iI_mul, iI_neg, iI_nI, ok_s, ok_ck, ok_bn, ok_ob, ck_iI, bn_eq, ob_s, om_n, om_s, cb_bI, gI_g, gI_2, gJ_1, gJ_g, gJ_2, gR_1, gR_2, gR_g, within_v, in_v, bI_i0, bI_i1, iI_bI0, iI_bI1, bI_T, bI_F, f_X11_silent_b34, r8, eq_true c8, r3, h1]
        · rw [if_neg c8] at s3
          rw [s3]
          simp (disch := omega) only [reduceIte, Nat.reduceEqDiff, Nat.reduceAdd, Nat.reduceSub, Nat.reduceMul, Nat.reduceLT, Int.reduceNeg, Int.reduceAdd, Int.reduceSub, Int.reduceMul, Int.reduceLT, Int.reduceLE, Int.reduceEq, Int.reduceToNat, reduceCtorEq, and_self, and_true, true_and, false_and, and_false, or_false, false_or, or_true, true_or, true_implies, false_implies, implies_true, not_true_eq_false, not_false_eq_true, Int.toNat_natCast, Int.cast_ofNat_Int, eq_self, ne_eq, ite_true, ite_false, if_true, if_false, Int.add_sub_cancel, Int.sub_add_cancel, Int.add_zero, Int.zero_add, cast_s, iI_in, iI_lit, iI_le, iI_lt, iI_eq, iI_cl, iI_add, iI_sub, iI_mul, iI_neg, iI_nI, ok_s, ok_ck, ok_bn, ok_ob, ck_iI, bn_eq, ob_s, om_n, om_s, cb_bI, gI_g, gI_2, gJ_1, gJ_g, gJ_2, gR_1, gR_2, gR_g, within_v, in_v, bI_i0, bI_i1, iI_bI0, iI_bI1, bI_T, bI_F, f_X11_silent_b34, r8, c8, h1]
      · intro fu
        have e : (ln : Int) ≤ ln := Int.le_refl _
        show f_X12_silent_l27b F (f_X12_silent_l27 F fu) G23 G25 G32 _ _ _ = _
        simp (disch := omega) only [reduceIte, Nat.reduceEqDiff, Nat.reduceAdd, Nat.reduceSub, Nat.reduceMul, Nat.reduceLT, Int.reduceNeg, Int.reduceAdd, Int.reduceSub, Int.reduceMul, Int.reduceLT, Int.reduceLE, Int.reduceEq, Int.reduceToNat, reduceCtorEq, and_self, and_true, true_and, false_and, and_false, or_false, false_or, or_true, true_or, true_implies, false_implies, implies_true, not_true_eq_false, not_false_eq_true, Int.toNat_natCast, Int.cast_ofNat_Int, eq_self, ne_eq, ite_true, ite_false, if_true, if_false, Int.add_sub_cancel, Int.sub_add_cancel, Int.add_zero, Int.zero_add, cast_s, iI_in, iI_lit, iI_le, iI_lt, iI_eq, iI_cl, iI_add, iI_sub, iI_mul, iI_neg, iI_nI, ok_s, ok_ck, ok_bn, ok_ob, ck_iI, bn_eq, ob_s, om_n, om_s, cb_bI, gI_g, gI_2, gJ_1, gJ_g, gJ_2, gR_1, gR_2, gR_g, within_v, in_v, bI_i0, bI_i1, iI_bI0, iI_bI1, bI_T, bI_F, f_X12_silent_l27b, m0, e, h23]
      · intro i fu hi ih
        have e : ¬ (ln : Int) ≤ i := by omega
        obtain ⟨p1, p2, p3, p4, p5, p6⟩ := hb.2 i hi
        obtain ⟨m0', m1, m2, m6, m7, m8, m9, m10, m11⟩ := hm.at hi
        have b := bnd i (by omega)
        rw [lcs_s] at ih
        show f_X12_silent_l27b F (f_X12_silent_l27 F fu) G23 G25 G32 _ _ _ = _
        by_cases k1 : L i 0 = p
        · by_cases k2 : L i 1 = 0
          · by_cases k3 : L i 8 = 6
            · by_cases k4 : lcs L p (P p 3) i < L i 9
              · rw [if_pos ⟨k1, k2, k3, k4⟩] at ih
                have k5 : ¬ L i 9 ≤ lcs L p (P p 3) i := by omega
                simp (disch := omega) only [reduceIte, Nat.reduceEqDiff, Nat.reduceAdd, Nat.reduceSub, Nat.reduceMul, Nat.reduceLT, Int.reduceNeg, Int.reduceAdd, Int.reduceSub, Int.reduceMul, Int.reduceLT, Int.reduceLE, Int.reduceEq, Int.reduceToNat, reduceCtorEq, and_self, and_true, true_and, false_and, and_false, or_false, false_or, or_true, true_or, true_implies, false_implies, implies_true, not_true_eq_false, not_false_eq_true, Int.toNat_natCast, Int.cast_ofNat_Int, eq_self, ne_eq, ite_true, ite_false, if_true, if_false, Int.add_sub_cancel, Int.sub_add_cancel, Int.add_zero, Int.zero_add, cast_s, iI_in, iI_lit, iI_le, iI_lt, iI_eq, iI_cl, iI_add, iI_sub, iI_mul, iI_neg, iI_nI, ok_s, ok_ck, ok_bn, ok_ob, ck_iI, bn_eq, ob_s, om_n, om_s, cb_bI, gI_g, gI_2, gJ_1, gJ_g, gJ_2, gR_1, gR_2, gR_g, within_v, in_v, bI_i0, bI_i1, iI_bI0, iI_bI1, bI_T, bI_F, f_X12_silent_l27b, m0, e, m0', m1, m8, m9, eq_true k1, k2, k3, k5]
                exact ih
              · rw [if_neg fun z => k4 z.2.2.2] at ih
                have k5 : L i 9 ≤ lcs L p (P p 3) i := by omega
                simp (disch := omega) only [reduceIte, Nat.reduceEqDiff, Nat.reduceAdd, Nat.reduceSub, Nat.reduceMul, Nat.reduceLT, Int.reduceNeg, Int.reduceAdd, Int.reduceSub, Int.reduceMul, Int.reduceLT, Int.reduceLE, Int.reduceEq, Int.reduceToNat, reduceCtorEq, and_self, and_true, true_and, false_and, and_false, or_false, false_or, or_true, true_or, true_implies, false_implies, implies_true, not_true_eq_false, not_false_eq_true, Int.toNat_natCast, Int.cast_ofNat_Int, eq_self, ne_eq, ite_true, ite_false, if_true, if_false, Int.add_sub_cancel, Int.sub_add_cancel, Int.add_zero, Int.zero_add, cast_s, iI_in, iI_lit, iI_le, iI_lt, iI_eq, iI_cl, iI_add, iI_sub, iI_mul, iI_neg, iI_nI, ok_s, ok_ck, ok_bn, ok_ob, ck_iI, bn_eq, ob_s, om_n, om_s, cb_bI, gI_g, gI_2, gJ_1, gJ_g, gJ_2, gR_1, gR_2, gR_g, within_v, in_v, bI_i0, bI_i1, iI_bI0, iI_bI1, bI_T, bI_F, f_X12_silent_l27b, m0, e, m0', m1, m8, m9, eq_true k1, k2, k3, k5]
                exact ih
            · rw [if_neg fun z => k3 z.2.2.1] at ih
              simp (disch := omega) only [reduceIte, Nat.reduceEqDiff, Nat.reduceAdd, Nat.reduceSub, Nat.reduceMul, Nat.reduceLT, Int.reduceNeg, Int.reduceAdd, Int.reduceSub, Int.reduceMul, Int.reduceLT, Int.reduceLE, Int.reduceEq, Int.reduceToNat, reduceCtorEq, and_self, and_true, true_and, false_and, and_false, or_false, false_or, or_true, true_or, true_implies, false_implies, implies_true, not_true_eq_false, not_false_eq_true, Int.toNat_natCast, Int.cast_ofNat_Int, eq_self, ne_eq, ite_true, ite_false, if_true, if_false, Int.add_sub_cancel, Int.sub_add_cancel, Int.add_zero, Int.zero_add, cast_s, iI_in, iI_lit, iI_le, iI_lt, iI_eq, iI_cl, iI_add, iI_sub, iI_mul, iI_neg, iI_nI, ok_s, ok_ck, ok_bn, ok_ob, ck_iI, bn_eq, ob_s, om_n, om_s, cb_bI, gI_g, gI_2, gJ_1, gJ_g, gJ_2, gR_1, gR_2, gR_g, within_v, in_v, bI_i0, bI_i1, iI_bI0, iI_bI1, bI_T, bI_F, f_X12_silent_l27b, m0, e, m0', m1, m8, m9, eq_true k1, k2, k3]
              exact ih
          · rw [if_neg fun z => k2 z.2.1] at ih
            simp (disch := omega) only [reduceIte, Nat.reduceEqDiff, Nat.reduceAdd, Nat.reduceSub, Nat.reduceMul, Nat.reduceLT, Int.reduceNeg, Int.reduceAdd, Int.reduceSub, Int.reduceMul, Int.reduceLT, Int.reduceLE, Int.reduceEq, Int.reduceToNat, reduceCtorEq, and_self, and_true, true_and, false_and, and_false, or_false, false_or, or_true, true_or, true_implies, false_implies, implies_true, not_true_eq_false, not_false_eq_true, Int.toNat_natCast, Int.cast_ofNat_Int, eq_self, ne_eq, ite_true, ite_false, if_true, if_false, Int.add_sub_cancel, Int.sub_add_cancel, Int.add_zero, Int.zero_add, cast_s, iI_in, iI_lit, iI_le, iI_lt, iI_eq, iI_cl, iI_add, iI_sub, iI_mul, iI_neg, iI_nI, ok_s, ok_ck, ok_bn, ok_ob, ck_iI, bn_eq, ob_s, om_n, om_s, cb_bI, gI_g, gI_2, gJ_1, gJ_g, gJ_2, gR_1, gR_2, gR_g, within_v, in_v, bI_i0, bI_i1, iI_bI0, iI_bI1, bI_T, bI_F, f_X12_silent_l27b, m0, e, m0', m1, m8, m9, eq_true k1, k2]
            exact ih
        · rw [if_neg fun z => k1 z.1] at ih
          simp (disch := omega) only [reduceIte, Nat.reduceEqDiff, Nat.reduceAdd, Nat.reduceSub, Nat.reduceMul, Nat.reduceLT, Int.reduceNeg, Int.reduceAdd, Int.reduceSub, Int.reduceMul, Int.reduceLT, Int.reduceLE, Int.reduceEq, Int.reduceToNat, reduceCtorEq, and_self, and_true, true_and, false_and, and_false, or_false, false_or, or_true, true_or, true_implies, false_implies, implies_true, not_true_eq_false, not_false_eq_true, Int.toNat_natCast, Int.cast_ofNat_Int, eq_self, ne_eq, ite_true, ite_false, if_true, if_false, Int.add_sub_cancel, Int.sub_add_cancel, Int.add_zero, Int.zero_add, cast_s, iI_in, iI_lit, iI_le, iI_lt, iI_eq, iI_cl, iI_add, iI_sub, iI_mul, iI_neg, iI_nI, ok_s, ok_ck, ok_bn, ok_ob, ck_iI, bn_eq, ob_s, om_n, om_s, cb_bI, gI_g, gI_2, gJ_1, gJ_g, gJ_2, gR_1, gR_2, gR_g, within_v, in_v, bI_i0, bI_i1, iI_bI0, iI_bI1, bI_T, bI_F, f_X12_silent_l27b, m0, e, m0', m1, m8, m9, k1]
          exact ih
    · rw [if_neg fun z => c2 z.2] at oc
      rw [bI_t c] at im
      rw [bI_f c2] at om
      unfold f_X11_silent f_X12_silent
      rw [oc, im, ob_s, ob_s, if_neg (by decide), om]
      rfl
  · rw [if_neg fun z => c z.1] at oc
    rw [bI_f c] at im
    unfold f_X11_silent f_X12_silent
    rw [oc, im]
    rfl
theorem lets_m (hm : LM G32 ln L) (hb : LB pn d ln L) (hpn : pn ≤ 40) {p : Nat} (hp : p < pn) (hF : 200000 ≤ F) : f_X12_lettersOf F G32 (iI p) = some (iI (cnt (fun i => L i 0 = p) ln)) := by
  have m0 := hm.1
  have hl := hb.1
  have key := up_ind (n := ln) (Q := fun fu i => f_X12_lettersOf_l4 F fu G32 (iI p) (iI (cnt (fun i => L i 0 = p) i)) (iI i) = some (iI (cnt (fun i => L i 0 = p) ln))) ?_ ?_
  · exact key 0 F (by omega) (by omega)
  · intro fu
    have e : (ln : Int) ≤ ln := Int.le_refl _
    show f_X12_lettersOf_l4b F (f_X12_lettersOf_l4 F fu) G32 _ _ _ = _
    simp (disch := omega) only [reduceIte, Nat.reduceEqDiff, Nat.reduceAdd, Nat.reduceSub, Nat.reduceMul, Nat.reduceLT, Int.reduceNeg, Int.reduceAdd, Int.reduceSub, Int.reduceMul, Int.reduceLT, Int.reduceLE, Int.reduceEq, Int.reduceToNat, reduceCtorEq, and_self, and_true, true_and, false_and, and_false, or_false, false_or, or_true, true_or, true_implies, false_implies, implies_true, not_true_eq_false, not_false_eq_true, Int.toNat_natCast, Int.cast_ofNat_Int, eq_self, ne_eq, ite_true, ite_false, if_true, if_false, Int.add_sub_cancel, Int.sub_add_cancel, Int.add_zero, Int.zero_add, cast_s, iI_in, iI_lit, iI_le, iI_lt, iI_eq, iI_cl, iI_add, iI_sub, iI_mul, iI_neg, iI_nI, ok_s, ok_ck, ok_bn, ok_ob, ck_iI, bn_eq, ob_s, om_n, om_s, cb_bI, gI_g, gI_2, gJ_1, gJ_g, gJ_2, gR_1, gR_2, gR_g, within_v, in_v, bI_i0, bI_i1, iI_bI0, iI_bI1, bI_T, bI_F, f_X12_lettersOf_l4b, m0, e]
  · intro i fu hi ih
    have e : ¬ (ln : Int) ≤ i := by omega
    obtain ⟨p1, p2, p3, p4, p5, p6⟩ := hb.2 i hi
    obtain ⟨m0', m1, m2, m6, m7, m8, m9, m10, m11⟩ := hm.at hi
    have := cnt_le (fun i => L i 0 = p) i
    show f_X12_lettersOf_l4b F (f_X12_lettersOf_l4 F fu) G32 _ _ _ = _
    by_cases k1 : L i 0 = p
    · rw [cnt_t (p := fun i => L i 0 = p) k1] at ih
      simp (disch := omega) only [reduceIte, Nat.reduceEqDiff, Nat.reduceAdd, Nat.reduceSub, Nat.reduceMul, Nat.reduceLT, Int.reduceNeg, Int.reduceAdd, Int.reduceSub, Int.reduceMul, Int.reduceLT, Int.reduceLE, Int.reduceEq, Int.reduceToNat, reduceCtorEq, and_self, and_true, true_and, false_and, and_false, or_false, false_or, or_true, true_or, true_implies, false_implies, implies_true, not_true_eq_false, not_false_eq_true, Int.toNat_natCast, Int.cast_ofNat_Int, eq_self, ne_eq, ite_true, ite_false, if_true, if_false, Int.add_sub_cancel, Int.sub_add_cancel, Int.add_zero, Int.zero_add, cast_s] at ih
      simp (disch := omega) only [reduceIte, Nat.reduceEqDiff, Nat.reduceAdd, Nat.reduceSub, Nat.reduceMul, Nat.reduceLT, Int.reduceNeg, Int.reduceAdd, Int.reduceSub, Int.reduceMul, Int.reduceLT, Int.reduceLE, Int.reduceEq, Int.reduceToNat, reduceCtorEq, and_self, and_true, true_and, false_and, and_false, or_false, false_or, or_true, true_or, true_implies, false_implies, implies_true, not_true_eq_false, not_false_eq_true, Int.toNat_natCast, Int.cast_ofNat_Int, eq_self, ne_eq, ite_true, ite_false, if_true, if_false, Int.add_sub_cancel, Int.sub_add_cancel, Int.add_zero, Int.zero_add, cast_s, iI_in, iI_lit, iI_le, iI_lt, iI_eq, iI_cl, iI_add, iI_sub, iI_mul, iI_neg, iI_nI, ok_s, ok_ck, ok_bn, ok_ob, ck_iI, bn_eq, ob_s, om_n, om_s, cb_bI, gI_g, gI_2, gJ_1, gJ_g, gJ_2, gR_1, gR_2, gR_g, within_v, in_v, bI_i0, bI_i1, iI_bI0, iI_bI1, bI_T, bI_F, f_X12_lettersOf_l4b, m0, e, m0', eq_true k1]
      exact ih
    · rw [cnt_f (p := fun i => L i 0 = p) k1] at ih
      simp (disch := omega) only [reduceIte, Nat.reduceEqDiff, Nat.reduceAdd, Nat.reduceSub, Nat.reduceMul, Nat.reduceLT, Int.reduceNeg, Int.reduceAdd, Int.reduceSub, Int.reduceMul, Int.reduceLT, Int.reduceLE, Int.reduceEq, Int.reduceToNat, reduceCtorEq, and_self, and_true, true_and, false_and, and_false, or_false, false_or, or_true, true_or, true_implies, false_implies, implies_true, not_true_eq_false, not_false_eq_true, Int.toNat_natCast, Int.cast_ofNat_Int, eq_self, ne_eq, ite_true, ite_false, if_true, if_false, Int.add_sub_cancel, Int.sub_add_cancel, Int.add_zero, Int.zero_add, cast_s, iI_in, iI_lit, iI_le, iI_lt, iI_eq, iI_cl, iI_add, iI_sub, iI_mul, iI_neg, iI_nI, ok_s, ok_ck, ok_bn, ok_ob, ck_iI, bn_eq, ob_s, om_n, om_s, cb_bI, gI_g, gI_2, gJ_1, gJ_g, gJ_2, gR_1, gR_2, gR_g, within_v, in_v, bI_i0, bI_i1, iI_bI0, iI_bI1, bI_T, bI_F, f_X12_lettersOf_l4b, m0, e, m0', k1]
      exact ih
theorem call_of (hm : LM G32 ln L) (hb : LB pn d ln L) (hp : RPair G7 G9 G25 gn cn d n pn tp P) (hs : RSil pn d ln P L) (hF : 200000 ≤ F) (a b : Int32) : ok (f_X11_of F G7 G9 a b) (fun q => ok (f_X12_of F G25 G32 a b) fun w => q = w) := by
  obtain ⟨a, rfl, a1, a2⟩ := iI_ex a
  obtain ⟨b, rfl, b1, b2⟩ := iI_ex b
  have hpn := hp.1
  have oc := pairAt_c (F := F) hp a1 a2
  have im := isPair_m (F := F) hp a1 a2
  by_cases c : 0 ≤ a ∧ a ≤ (pn : Int) - 1
  · obtain ⟨p, rfl⟩ : ∃ p : Nat, a = (p : Int) := ⟨a.toNat, by omega⟩
    have hpp : p < pn := by omega
    obtain ⟨pr1, pr2, pr3, r1, r2, r3, r4, r7, r5⟩ := hp.2.2.2.1 p hpp
    have q1 := pr3 1 (by omega)
    have q2 := pr3 2 (by omega)
    have q3 := pr3 3 (by omega)
    have q4 := pr3 4 (by omega)
    have q5 := pr3 5 (by omega)
    have q6 := pr3 6 (by omega)
    obtain ⟨s1, s2, s3⟩ := hs p hpp
    rw [s1] at q6
    have lm := lets_m (F := F) hm hb hpn hpp hF
    rw [if_pos c] at oc
    rw [bI_t c] at im
    simp only [Int.toNat_natCast] at oc
    unfold f_X11_of f_X12_of
    rw [oc, im, ob_s, ob_s, if_neg (by decide), om_s, ob_idt, ob_idt]
    by_cases k0 : b = 0
    · skip
      simp (disch := omega) only [reduceIte, Nat.reduceEqDiff, Nat.reduceAdd, Nat.reduceSub, Nat.reduceMul, Nat.reduceLT, Int.reduceNeg, Int.reduceAdd, Int.reduceSub, Int.reduceMul, Int.reduceLT, Int.reduceLE, Int.reduceEq, Int.reduceToNat, reduceCtorEq, and_self, and_true, true_and, false_and, and_false, or_false, false_or, or_true, true_or, true_implies, false_implies, implies_true, not_true_eq_false, not_false_eq_true, Int.toNat_natCast, Int.cast_ofNat_Int, eq_self, ne_eq, ite_true, ite_false, if_true, if_false, Int.add_sub_cancel, Int.sub_add_cancel, Int.add_zero, Int.zero_add, cast_s, iI_in, iI_lit, iI_le, iI_lt, iI_eq, iI_cl, iI_add, iI_sub, iI_mul, iI_neg, iI_nI, ok_s, ok_ck, ok_bn, ok_ob, ck_iI, bn_eq, ob_s, om_n, om_s, cb_bI, gI_g, gI_2, gJ_1, gJ_g, gJ_2, gR_1, gR_2, gR_g, within_v, in_v, bI_i0, bI_i1, iI_bI0, iI_bI1, bI_T, bI_F, f_X5_tell, eq_true k0, q1, r1]
    · by_cases k1 : b = 1
      · skip
        simp (disch := omega) only [reduceIte, Nat.reduceEqDiff, Nat.reduceAdd, Nat.reduceSub, Nat.reduceMul, Nat.reduceLT, Int.reduceNeg, Int.reduceAdd, Int.reduceSub, Int.reduceMul, Int.reduceLT, Int.reduceLE, Int.reduceEq, Int.reduceToNat, reduceCtorEq, and_self, and_true, true_and, false_and, and_false, or_false, false_or, or_true, true_or, true_implies, false_implies, implies_true, not_true_eq_false, not_false_eq_true, Int.toNat_natCast, Int.cast_ofNat_Int, eq_self, ne_eq, ite_true, ite_false, if_true, if_false, Int.add_sub_cancel, Int.sub_add_cancel, Int.add_zero, Int.zero_add, cast_s, iI_in, iI_lit, iI_le, iI_lt, iI_eq, iI_cl, iI_add, iI_sub, iI_mul, iI_neg, iI_nI, ok_s, ok_ck, ok_bn, ok_ob, ck_iI, bn_eq, ob_s, om_n, om_s, cb_bI, gI_g, gI_2, gJ_1, gJ_g, gJ_2, gR_1, gR_2, gR_g, within_v, in_v, bI_i0, bI_i1, iI_bI0, iI_bI1, bI_T, bI_F, f_X5_tell, k0, eq_true k1, q2, r2]
      · by_cases k2 : b = 2
        · skip
          simp (disch := omega) only [reduceIte, Nat.reduceEqDiff, Nat.reduceAdd, Nat.reduceSub, Nat.reduceMul, Nat.reduceLT, Int.reduceNeg, Int.reduceAdd, Int.reduceSub, Int.reduceMul, Int.reduceLT, Int.reduceLE, Int.reduceEq, Int.reduceToNat, reduceCtorEq, and_self, and_true, true_and, false_and, and_false, or_false, false_or, or_true, true_or, true_implies, false_implies, implies_true, not_true_eq_false, not_false_eq_true, Int.toNat_natCast, Int.cast_ofNat_Int, eq_self, ne_eq, ite_true, ite_false, if_true, if_false, Int.add_sub_cancel, Int.sub_add_cancel, Int.add_zero, Int.zero_add, cast_s, iI_in, iI_lit, iI_le, iI_lt, iI_eq, iI_cl, iI_add, iI_sub, iI_mul, iI_neg, iI_nI, ok_s, ok_ck, ok_bn, ok_ob, ck_iI, bn_eq, ob_s, om_n, om_s, cb_bI, gI_g, gI_2, gJ_1, gJ_g, gJ_2, gR_1, gR_2, gR_g, within_v, in_v, bI_i0, bI_i1, iI_bI0, iI_bI1, bI_T, bI_F, f_X5_tell, k0, k1, eq_true k2, q3, r3]
        · by_cases k3 : b = 3
          · skip
            simp (disch := omega) only [reduceIte, Nat.reduceEqDiff, Nat.reduceAdd, Nat.reduceSub, Nat.reduceMul, Nat.reduceLT, Int.reduceNeg, Int.reduceAdd, Int.reduceSub, Int.reduceMul, Int.reduceLT, Int.reduceLE, Int.reduceEq, Int.reduceToNat, reduceCtorEq, and_self, and_true, true_and, false_and, and_false, or_false, false_or, or_true, true_or, true_implies, false_implies, implies_true, not_true_eq_false, not_false_eq_true, Int.toNat_natCast, Int.cast_ofNat_Int, eq_self, ne_eq, ite_true, ite_false, if_true, if_false, Int.add_sub_cancel, Int.sub_add_cancel, Int.add_zero, Int.zero_add, cast_s, iI_in, iI_lit, iI_le, iI_lt, iI_eq, iI_cl, iI_add, iI_sub, iI_mul, iI_neg, iI_nI, ok_s, ok_ck, ok_bn, ok_ob, ck_iI, bn_eq, ob_s, om_n, om_s, cb_bI, gI_g, gI_2, gJ_1, gJ_g, gJ_2, gR_1, gR_2, gR_g, within_v, in_v, bI_i0, bI_i1, iI_bI0, iI_bI1, bI_T, bI_F, f_X5_tell, k0, k1, k2, eq_true k3, q4, r4]
          · by_cases k4 : b = 4
            · skip
              simp (disch := omega) only [reduceIte, Nat.reduceEqDiff, Nat.reduceAdd, Nat.reduceSub, Nat.reduceMul, Nat.reduceLT, Int.reduceNeg, Int.reduceAdd, Int.reduceSub, Int.reduceMul, Int.reduceLT, Int.reduceLE, Int.reduceEq, Int.reduceToNat, reduceCtorEq, and_self, and_true, true_and, false_and, and_false, or_false, false_or, or_true, true_or, true_implies, false_implies, implies_true, not_true_eq_false, not_false_eq_true, Int.toNat_natCast, Int.cast_ofNat_Int, eq_self, ne_eq, ite_true, ite_false, if_true, if_false, Int.add_sub_cancel, Int.sub_add_cancel, Int.add_zero, Int.zero_add, cast_s, iI_in, iI_lit, iI_le, iI_lt, iI_eq, iI_cl, iI_add, iI_sub, iI_mul, iI_neg, iI_nI, ok_s, ok_ck, ok_bn, ok_ob, ck_iI, bn_eq, ob_s, om_n, om_s, cb_bI, gI_g, gI_2, gJ_1, gJ_g, gJ_2, gR_1, gR_2, gR_g, within_v, in_v, bI_i0, bI_i1, iI_bI0, iI_bI1, bI_T, bI_F, f_X5_tell, k0, k1, k2, k3, eq_true k4, q5, r5]
            · by_cases k5 : b = 5
              · skip
                simp (disch := omega) only [reduceIte, Nat.reduceEqDiff, Nat.reduceAdd, Nat.reduceSub, Nat.reduceMul, Nat.reduceLT, Int.reduceNeg, Int.reduceAdd, Int.reduceSub, Int.reduceMul, Int.reduceLT, Int.reduceLE, Int.reduceEq, Int.reduceToNat, reduceCtorEq, and_self, and_true, true_and, false_and, and_false, or_false, false_or, or_true, true_or, true_implies, false_implies, implies_true, not_true_eq_false, not_false_eq_true, Int.toNat_natCast, Int.cast_ofNat_Int, eq_self, ne_eq, ite_true, ite_false, if_true, if_false, Int.add_sub_cancel, Int.sub_add_cancel, Int.add_zero, Int.zero_add, cast_s, iI_in, iI_lit, iI_le, iI_lt, iI_eq, iI_cl, iI_add, iI_sub, iI_mul, iI_neg, iI_nI, ok_s, ok_ck, ok_bn, ok_ob, ck_iI, bn_eq, ob_s, om_n, om_s, cb_bI, gI_g, gI_2, gJ_1, gJ_g, gJ_2, gR_1, gR_2, gR_g, within_v, in_v, bI_i0, bI_i1, iI_bI0, iI_bI1, bI_T, bI_F, f_X5_tell, k0, k1, k2, k3, k4, eq_true k5, q6, lm]
              · skip
                simp (disch := omega) only [reduceIte, Nat.reduceEqDiff, Nat.reduceAdd, Nat.reduceSub, Nat.reduceMul, Nat.reduceLT, Int.reduceNeg, Int.reduceAdd, Int.reduceSub, Int.reduceMul, Int.reduceLT, Int.reduceLE, Int.reduceEq, Int.reduceToNat, reduceCtorEq, and_self, and_true, true_and, false_and, and_false, or_false, false_or, or_true, true_or, true_implies, false_implies, implies_true, not_true_eq_false, not_false_eq_true, Int.toNat_natCast, Int.cast_ofNat_Int, eq_self, ne_eq, ite_true, ite_false, if_true, if_false, Int.add_sub_cancel, Int.sub_add_cancel, Int.add_zero, Int.zero_add, cast_s, iI_in, iI_lit, iI_le, iI_lt, iI_eq, iI_cl, iI_add, iI_sub, iI_mul, iI_neg, iI_nI, ok_s, ok_ck, ok_bn, ok_ob, ck_iI, bn_eq, ob_s, om_n, om_s, cb_bI, gI_g, gI_2, gJ_1, gJ_g, gJ_2, gR_1, gR_2, gR_g, within_v, in_v, bI_i0, bI_i1, iI_bI0, iI_bI1, bI_T, bI_F, f_X5_tell, k0, k1, k2, k3, k4, k5]
  · rw [if_neg c] at oc
    rw [bI_f c] at im
    unfold f_X11_of f_X12_of
    rw [oc, im]
    rfl
end PR
