/-! steps of both parsers -/
abbrev isWd (c : Int) : Prop := (97 ≤ c ∧ c ≤ 122) ∨ (48 ≤ c ∧ c ≤ 57)
abbrev isAt (c : Int) : Prop := isWd c ∨ c = 35 ∨ c = 64 ∨ c = 95 ∨ c = 46 ∨ c = 94
theorem letter_c {F : Nat} {c : Int} (h1 : -2147483648 ≤ c) (h2 : c < 2147483648) : f_X11_isSmallLetter F (iI c) = some (bI (97 ≤ c ∧ c ≤ 122)) := by
  by_cases a : c < 97
  · have e : ¬ (97 ≤ c ∧ c ≤ 122) := by omega
    rw [bI_f e]
    simp (disch := omega) only [reduceIte, Nat.reduceEqDiff, Nat.reduceAdd, Nat.reduceSub, Nat.reduceMul, Nat.reduceLT, Int.reduceNeg, Int.reduceAdd, Int.reduceSub, Int.reduceMul, Int.reduceLT, Int.reduceLE, Int.reduceEq, Int.reduceToNat, reduceCtorEq, and_self, and_true, true_and, false_and, and_false, or_false, false_or, or_true, true_or, true_implies, false_implies, implies_true, not_true_eq_false, not_false_eq_true, Int.toNat_natCast, Int.cast_ofNat_Int, eq_self, ne_eq, ite_true, ite_false, if_true, if_false, Int.add_sub_cancel, Int.sub_add_cancel, Int.add_zero, Int.zero_add, cast_s, iI_in, iI_lit, iI_le, iI_lt, iI_eq, iI_cl, iI_add, iI_sub, iI_mul, iI_neg, iI_nI, ok_s, ok_ck, ok_bn, ok_ob, ck_iI, bn_eq, ob_s, om_n, om_s, cb_bI, gI_g, gI_2, gJ_1, gJ_g, gJ_2, gR_1, gR_2, gR_g, within_v, in_v, bI_i0, bI_i1, iI_bI0, iI_bI1, bI_T, bI_F, f_X11_isSmallLetter, a]
  · by_cases a2 : 122 < c
    · have e : ¬ (97 ≤ c ∧ c ≤ 122) := by omega
      rw [bI_f e]
      simp (disch := omega) only [reduceIte, Nat.reduceEqDiff, Nat.reduceAdd, Nat.reduceSub, Nat.reduceMul, Nat.reduceLT, Int.reduceNeg, Int.reduceAdd, Int.reduceSub, Int.reduceMul, Int.reduceLT, Int.reduceLE, Int.reduceEq, Int.reduceToNat, reduceCtorEq, and_self, and_true, true_and, false_and, and_false, or_false, false_or, or_true, true_or, true_implies, false_implies, implies_true, not_true_eq_false, not_false_eq_true, Int.toNat_natCast, Int.cast_ofNat_Int, eq_self, ne_eq, ite_true, ite_false, if_true, if_false, Int.add_sub_cancel, Int.sub_add_cancel, Int.add_zero, Int.zero_add, cast_s, iI_in, iI_lit, iI_le, iI_lt, iI_eq, iI_cl, iI_add, iI_sub, iI_mul, iI_neg, iI_nI, ok_s, ok_ck, ok_bn, ok_ob, ck_iI, bn_eq, ob_s, om_n, om_s, cb_bI, gI_g, gI_2, gJ_1, gJ_g, gJ_2, gR_1, gR_2, gR_g, within_v, in_v, bI_i0, bI_i1, iI_bI0, iI_bI1, bI_T, bI_F, f_X11_isSmallLetter, a, a2]
    · have e : (97 ≤ c ∧ c ≤ 122) := by omega
      rw [bI_t e]
      simp (disch := omega) only [reduceIte, Nat.reduceEqDiff, Nat.reduceAdd, Nat.reduceSub, Nat.reduceMul, Nat.reduceLT, Int.reduceNeg, Int.reduceAdd, Int.reduceSub, Int.reduceMul, Int.reduceLT, Int.reduceLE, Int.reduceEq, Int.reduceToNat, reduceCtorEq, and_self, and_true, true_and, false_and, and_false, or_false, false_or, or_true, true_or, true_implies, false_implies, implies_true, not_true_eq_false, not_false_eq_true, Int.toNat_natCast, Int.cast_ofNat_Int, eq_self, ne_eq, ite_true, ite_false, if_true, if_false, Int.add_sub_cancel, Int.sub_add_cancel, Int.add_zero, Int.zero_add, cast_s, iI_in, iI_lit, iI_le, iI_lt, iI_eq, iI_cl, iI_add, iI_sub, iI_mul, iI_neg, iI_nI, ok_s, ok_ck, ok_bn, ok_ob, ck_iI, bn_eq, ob_s, om_n, om_s, cb_bI, gI_g, gI_2, gJ_1, gJ_g, gJ_2, gR_1, gR_2, gR_g, within_v, in_v, bI_i0, bI_i1, iI_bI0, iI_bI1, bI_T, bI_F, f_X11_isSmallLetter, a, a2]
theorem digit_c {F : Nat} {c : Int} (h1 : -2147483648 ≤ c) (h2 : c < 2147483648) : f_X11_isDigit F (iI c) = some (bI (48 ≤ c ∧ c ≤ 57)) := by
  by_cases a : c < 48
  · have e : ¬ (48 ≤ c ∧ c ≤ 57) := by omega
    rw [bI_f e]
    simp (disch := omega) only [reduceIte, Nat.reduceEqDiff, Nat.reduceAdd, Nat.reduceSub, Nat.reduceMul, Nat.reduceLT, Int.reduceNeg, Int.reduceAdd, Int.reduceSub, Int.reduceMul, Int.reduceLT, Int.reduceLE, Int.reduceEq, Int.reduceToNat, reduceCtorEq, and_self, and_true, true_and, false_and, and_false, or_false, false_or, or_true, true_or, true_implies, false_implies, implies_true, not_true_eq_false, not_false_eq_true, Int.toNat_natCast, Int.cast_ofNat_Int, eq_self, ne_eq, ite_true, ite_false, if_true, if_false, Int.add_sub_cancel, Int.sub_add_cancel, Int.add_zero, Int.zero_add, cast_s, iI_in, iI_lit, iI_le, iI_lt, iI_eq, iI_cl, iI_add, iI_sub, iI_mul, iI_neg, iI_nI, ok_s, ok_ck, ok_bn, ok_ob, ck_iI, bn_eq, ob_s, om_n, om_s, cb_bI, gI_g, gI_2, gJ_1, gJ_g, gJ_2, gR_1, gR_2, gR_g, within_v, in_v, bI_i0, bI_i1, iI_bI0, iI_bI1, bI_T, bI_F, f_X11_isDigit, a]
  · by_cases a2 : 57 < c
    · have e : ¬ (48 ≤ c ∧ c ≤ 57) := by omega
      rw [bI_f e]
      simp (disch := omega) only [reduceIte, Nat.reduceEqDiff, Nat.reduceAdd, Nat.reduceSub, Nat.reduceMul, Nat.reduceLT, Int.reduceNeg, Int.reduceAdd, Int.reduceSub, Int.reduceMul, Int.reduceLT, Int.reduceLE, Int.reduceEq, Int.reduceToNat, reduceCtorEq, and_self, and_true, true_and, false_and, and_false, or_false, false_or, or_true, true_or, true_implies, false_implies, implies_true, not_true_eq_false, not_false_eq_true, Int.toNat_natCast, Int.cast_ofNat_Int, eq_self, ne_eq, ite_true, ite_false, if_true, if_false, Int.add_sub_cancel, Int.sub_add_cancel, Int.add_zero, Int.zero_add, cast_s, iI_in, iI_lit, iI_le, iI_lt, iI_eq, iI_cl, iI_add, iI_sub, iI_mul, iI_neg, iI_nI, ok_s, ok_ck, ok_bn, ok_ob, ck_iI, bn_eq, ob_s, om_n, om_s, cb_bI, gI_g, gI_2, gJ_1, gJ_g, gJ_2, gR_1, gR_2, gR_g, within_v, in_v, bI_i0, bI_i1, iI_bI0, iI_bI1, bI_T, bI_F, f_X11_isDigit, a, a2]
    · have e : (48 ≤ c ∧ c ≤ 57) := by omega
      rw [bI_t e]
      simp (disch := omega) only [reduceIte, Nat.reduceEqDiff, Nat.reduceAdd, Nat.reduceSub, Nat.reduceMul, Nat.reduceLT, Int.reduceNeg, Int.reduceAdd, Int.reduceSub, Int.reduceMul, Int.reduceLT, Int.reduceLE, Int.reduceEq, Int.reduceToNat, reduceCtorEq, and_self, and_true, true_and, false_and, and_false, or_false, false_or, or_true, true_or, true_implies, false_implies, implies_true, not_true_eq_false, not_false_eq_true, Int.toNat_natCast, Int.cast_ofNat_Int, eq_self, ne_eq, ite_true, ite_false, if_true, if_false, Int.add_sub_cancel, Int.sub_add_cancel, Int.add_zero, Int.zero_add, cast_s, iI_in, iI_lit, iI_le, iI_lt, iI_eq, iI_cl, iI_add, iI_sub, iI_mul, iI_neg, iI_nI, ok_s, ok_ck, ok_bn, ok_ob, ck_iI, bn_eq, ob_s, om_n, om_s, cb_bI, gI_g, gI_2, gJ_1, gJ_g, gJ_2, gR_1, gR_2, gR_g, within_v, in_v, bI_i0, bI_i1, iI_bI0, iI_bI1, bI_T, bI_F, f_X11_isDigit, a, a2]
theorem letter_m {F : Nat} {c : Int} (h1 : -2147483648 ≤ c) (h2 : c < 2147483648) : f_X12_isLetter F (iI c) = some (bI (97 ≤ c ∧ c ≤ 122)) := letter_c (F := F) h1 h2
theorem digit_m {F : Nat} {c : Int} (h1 : -2147483648 ≤ c) (h2 : c < 2147483648) : f_X12_isDigit F (iI c) = some (bI (48 ≤ c ∧ c ≤ 57)) := digit_c (F := F) h1 h2
theorem word_c {F : Nat} {c : Int} (h1 : -2147483648 ≤ c) (h2 : c < 2147483648) : f_X11_isWordSign F (iI c) = some (bI (isWd c)) := by
  by_cases a : 97 ≤ c ∧ c ≤ 122
  · rw [bI_t (show isWd c from Or.inl a)]
    simp (disch := omega) only [reduceIte, Nat.reduceEqDiff, Nat.reduceAdd, Nat.reduceSub, Nat.reduceMul, Nat.reduceLT, Int.reduceNeg, Int.reduceAdd, Int.reduceSub, Int.reduceMul, Int.reduceLT, Int.reduceLE, Int.reduceEq, Int.reduceToNat, reduceCtorEq, and_self, and_true, true_and, false_and, and_false, or_false, false_or, or_true, true_or, true_implies, false_implies, implies_true, not_true_eq_false, not_false_eq_true, Int.toNat_natCast, Int.cast_ofNat_Int, eq_self, ne_eq, ite_true, ite_false, if_true, if_false, Int.add_sub_cancel, Int.sub_add_cancel, Int.add_zero, Int.zero_add, cast_s, iI_in, iI_lit, iI_le, iI_lt, iI_eq, iI_cl, iI_add, iI_sub, iI_mul, iI_neg, iI_nI, ok_s, ok_ck, ok_bn, ok_ob, ck_iI, bn_eq, ob_s, om_n, om_s, cb_bI, gI_g, gI_2, gJ_1, gJ_g, gJ_2, gR_1, gR_2, gR_g, within_v, in_v, bI_i0, bI_i1, iI_bI0, iI_bI1, bI_T, bI_F, f_X11_isWordSign, letter_c h1 h2, digit_c h1 h2, a]
  · by_cases a2 : 48 ≤ c ∧ c ≤ 57
    · rw [bI_t (show isWd c from Or.inr a2)]
      simp (disch := omega) only [reduceIte, Nat.reduceEqDiff, Nat.reduceAdd, Nat.reduceSub, Nat.reduceMul, Nat.reduceLT, Int.reduceNeg, Int.reduceAdd, Int.reduceSub, Int.reduceMul, Int.reduceLT, Int.reduceLE, Int.reduceEq, Int.reduceToNat, reduceCtorEq, and_self, and_true, true_and, false_and, and_false, or_false, false_or, or_true, true_or, true_implies, false_implies, implies_true, not_true_eq_false, not_false_eq_true, Int.toNat_natCast, Int.cast_ofNat_Int, eq_self, ne_eq, ite_true, ite_false, if_true, if_false, Int.add_sub_cancel, Int.sub_add_cancel, Int.add_zero, Int.zero_add, cast_s, iI_in, iI_lit, iI_le, iI_lt, iI_eq, iI_cl, iI_add, iI_sub, iI_mul, iI_neg, iI_nI, ok_s, ok_ck, ok_bn, ok_ob, ck_iI, bn_eq, ob_s, om_n, om_s, cb_bI, gI_g, gI_2, gJ_1, gJ_g, gJ_2, gR_1, gR_2, gR_g, within_v, in_v, bI_i0, bI_i1, iI_bI0, iI_bI1, bI_T, bI_F, f_X11_isWordSign, letter_c h1 h2, digit_c h1 h2, a, a2]
    · rw [bI_f (show ¬ isWd c from fun z => z.elim a a2)]
      simp (disch := omega) only [reduceIte, Nat.reduceEqDiff, Nat.reduceAdd, Nat.reduceSub, Nat.reduceMul, Nat.reduceLT, Int.reduceNeg, Int.reduceAdd, Int.reduceSub, Int.reduceMul, Int.reduceLT, Int.reduceLE, Int.reduceEq, Int.reduceToNat, reduceCtorEq, and_self, and_true, true_and, false_and, and_false, or_false, false_or, or_true, true_or, true_implies, false_implies, implies_true, not_true_eq_false, not_false_eq_true, Int.toNat_natCast, Int.cast_ofNat_Int, eq_self, ne_eq, ite_true, ite_false, if_true, if_false, Int.add_sub_cancel, Int.sub_add_cancel, Int.add_zero, Int.zero_add, cast_s, iI_in, iI_lit, iI_le, iI_lt, iI_eq, iI_cl, iI_add, iI_sub, iI_mul, iI_neg, iI_nI, ok_s, ok_ck, ok_bn, ok_ob, ck_iI, bn_eq, ob_s, om_n, om_s, cb_bI, gI_g, gI_2, gJ_1, gJ_g, gJ_2, gR_1, gR_2, gR_g, within_v, in_v, bI_i0, bI_i1, iI_bI0, iI_bI1, bI_T, bI_F, f_X11_isWordSign, letter_c h1 h2, digit_c h1 h2, a, a2]
theorem atom_is_c {F : Nat} {c : Int} (h1 : -2147483648 ≤ c) (h2 : c < 2147483648) : f_X7_isAtom F (iI c) = some (bI (isAt c)) := by
  by_cases a : isAt c
  · rw [bI_t a]
    by_cases a1 : isWd c
    · simp (disch := omega) only [reduceIte, Nat.reduceEqDiff, Nat.reduceAdd, Nat.reduceSub, Nat.reduceMul, Nat.reduceLT, Int.reduceNeg, Int.reduceAdd, Int.reduceSub, Int.reduceMul, Int.reduceLT, Int.reduceLE, Int.reduceEq, Int.reduceToNat, reduceCtorEq, and_self, and_true, true_and, false_and, and_false, or_false, false_or, or_true, true_or, true_implies, false_implies, implies_true, not_true_eq_false, not_false_eq_true, Int.toNat_natCast, Int.cast_ofNat_Int, eq_self, ne_eq, ite_true, ite_false, if_true, if_false, Int.add_sub_cancel, Int.sub_add_cancel, Int.add_zero, Int.zero_add, cast_s, iI_in, iI_lit, iI_le, iI_lt, iI_eq, iI_cl, iI_add, iI_sub, iI_mul, iI_neg, iI_nI, ok_s, ok_ck, ok_bn, ok_ob, ck_iI, bn_eq, ob_s, om_n, om_s, cb_bI, gI_g, gI_2, gJ_1, gJ_g, gJ_2, gR_1, gR_2, gR_g, within_v, in_v, bI_i0, bI_i1, iI_bI0, iI_bI1, bI_T, bI_F, f_X7_isAtom, word_c h1 h2, bI_t a1]
    · rcases a with a | a | a | a | a | a
      · exact absurd a a1
      · subst a; rfl
      · subst a; rfl
      · subst a; rfl
      · subst a; rfl
      · subst a; rfl
  · rw [bI_f a]
    have a1 : ¬ isWd c := fun z => a (Or.inl z)
    have a2 : ¬ c = 35 := fun z => a (by omega)
    have a3 : ¬ c = 64 := fun z => a (by omega)
    have a4 : ¬ c = 95 := fun z => a (by omega)
    have a5 : ¬ c = 46 := fun z => a (by omega)
    have a6 : ¬ c = 94 := fun z => a (by omega)
    simp (disch := omega) only [reduceIte, Nat.reduceEqDiff, Nat.reduceAdd, Nat.reduceSub, Nat.reduceMul, Nat.reduceLT, Int.reduceNeg, Int.reduceAdd, Int.reduceSub, Int.reduceMul, Int.reduceLT, Int.reduceLE, Int.reduceEq, Int.reduceToNat, reduceCtorEq, and_self, and_true, true_and, false_and, and_false, or_false, false_or, or_true, true_or, true_implies, false_implies, implies_true, not_true_eq_false, not_false_eq_true, Int.toNat_natCast, Int.cast_ofNat_Int, eq_self, ne_eq, ite_true, ite_false, if_true, if_false, Int.add_sub_cancel, Int.sub_add_cancel, Int.add_zero, Int.zero_add, cast_s, iI_in, iI_lit, iI_le, iI_lt, iI_eq, iI_cl, iI_add, iI_sub, iI_mul, iI_neg, iI_nI, ok_s, ok_ck, ok_bn, ok_ob, ck_iI, bn_eq, ob_s, om_n, om_s, cb_bI, gI_g, gI_2, gJ_1, gJ_g, gJ_2, gR_1, gR_2, gR_g, within_v, in_v, bI_i0, bI_i1, iI_bI0, iI_bI1, bI_T, bI_F, f_X7_isAtom, word_c h1 h2, a1, a2, a3, a4, a5, a6]
theorem atom_is_m {F : Nat} {c : Int} (h1 : -2147483648 ≤ c) (h2 : c < 2147483648) : f_X12_isAtom F (iI c) = some (bI (isAt c)) := by
  by_cases a : isAt c
  · rw [bI_t a]
    by_cases a1 : 97 ≤ c ∧ c ≤ 122
    · simp (disch := omega) only [reduceIte, Nat.reduceEqDiff, Nat.reduceAdd, Nat.reduceSub, Nat.reduceMul, Nat.reduceLT, Int.reduceNeg, Int.reduceAdd, Int.reduceSub, Int.reduceMul, Int.reduceLT, Int.reduceLE, Int.reduceEq, Int.reduceToNat, reduceCtorEq, and_self, and_true, true_and, false_and, and_false, or_false, false_or, or_true, true_or, true_implies, false_implies, implies_true, not_true_eq_false, not_false_eq_true, Int.toNat_natCast, Int.cast_ofNat_Int, eq_self, ne_eq, ite_true, ite_false, if_true, if_false, Int.add_sub_cancel, Int.sub_add_cancel, Int.add_zero, Int.zero_add, cast_s, iI_in, iI_lit, iI_le, iI_lt, iI_eq, iI_cl, iI_add, iI_sub, iI_mul, iI_neg, iI_nI, ok_s, ok_ck, ok_bn, ok_ob, ck_iI, bn_eq, ob_s, om_n, om_s, cb_bI, gI_g, gI_2, gJ_1, gJ_g, gJ_2, gR_1, gR_2, gR_g, within_v, in_v, bI_i0, bI_i1, iI_bI0, iI_bI1, bI_T, bI_F, f_X12_isAtom, letter_m h1 h2, digit_m h1 h2, a1]
    · by_cases a0 : 48 ≤ c ∧ c ≤ 57
      · simp (disch := omega) only [reduceIte, Nat.reduceEqDiff, Nat.reduceAdd, Nat.reduceSub, Nat.reduceMul, Nat.reduceLT, Int.reduceNeg, Int.reduceAdd, Int.reduceSub, Int.reduceMul, Int.reduceLT, Int.reduceLE, Int.reduceEq, Int.reduceToNat, reduceCtorEq, and_self, and_true, true_and, false_and, and_false, or_false, false_or, or_true, true_or, true_implies, false_implies, implies_true, not_true_eq_false, not_false_eq_true, Int.toNat_natCast, Int.cast_ofNat_Int, eq_self, ne_eq, ite_true, ite_false, if_true, if_false, Int.add_sub_cancel, Int.sub_add_cancel, Int.add_zero, Int.zero_add, cast_s, iI_in, iI_lit, iI_le, iI_lt, iI_eq, iI_cl, iI_add, iI_sub, iI_mul, iI_neg, iI_nI, ok_s, ok_ck, ok_bn, ok_ob, ck_iI, bn_eq, ob_s, om_n, om_s, cb_bI, gI_g, gI_2, gJ_1, gJ_g, gJ_2, gR_1, gR_2, gR_g, within_v, in_v, bI_i0, bI_i1, iI_bI0, iI_bI1, bI_T, bI_F, f_X12_isAtom, letter_m h1 h2, digit_m h1 h2, a1, a0]
      · rcases a with (a | a) | a | a | a | a | a
        · exact absurd a a1
        · exact absurd a a0
        · subst a; rfl
        · subst a; rfl
        · subst a; rfl
        · subst a; rfl
        · subst a; rfl
  · rw [bI_f a]
    have a1 : ¬ (97 ≤ c ∧ c ≤ 122) := fun z => a (by omega)
    have a0 : ¬ (48 ≤ c ∧ c ≤ 57) := fun z => a (by omega)
    have a2 : ¬ c = 35 := fun z => a (by omega)
    have a3 : ¬ c = 64 := fun z => a (by omega)
    have a4 : ¬ c = 95 := fun z => a (by omega)
    have a5 : ¬ c = 46 := fun z => a (by omega)
    have a6 : ¬ c = 94 := fun z => a (by omega)
    simp (disch := omega) only [reduceIte, Nat.reduceEqDiff, Nat.reduceAdd, Nat.reduceSub, Nat.reduceMul, Nat.reduceLT, Int.reduceNeg, Int.reduceAdd, Int.reduceSub, Int.reduceMul, Int.reduceLT, Int.reduceLE, Int.reduceEq, Int.reduceToNat, reduceCtorEq, and_self, and_true, true_and, false_and, and_false, or_false, false_or, or_true, true_or, true_implies, false_implies, implies_true, not_true_eq_false, not_false_eq_true, Int.toNat_natCast, Int.cast_ofNat_Int, eq_self, ne_eq, ite_true, ite_false, if_true, if_false, Int.add_sub_cancel, Int.sub_add_cancel, Int.add_zero, Int.zero_add, cast_s, iI_in, iI_lit, iI_le, iI_lt, iI_eq, iI_cl, iI_add, iI_sub, iI_mul, iI_neg, iI_nI, ok_s, ok_ck, ok_bn, ok_ob, ck_iI, bn_eq, ob_s, om_n, om_s, cb_bI, gI_g, gI_2, gJ_1, gJ_g, gJ_2, gR_1, gR_2, gR_g, within_v, in_v, bI_i0, bI_i1, iI_bI0, iI_bI1, bI_T, bI_F, f_X12_isAtom, letter_m h1 h2, digit_m h1 h2, a1, a0, a2, a3, a4, a5, a6]
section PR
variable {F v n p t0 : Nat} {G3 G27 G4 G28 : Grp} {b : Nat → Nat}
theorem ar_ext {G G' : Grp} {c : Nat} (h : ∀ k, G'.1 c k = G.1 c k) : ar G' c = ar G c := by
  funext k
  show (G'.1 c k).toInt = _
  rw [h k]; rfl
/-- one turn of the class's loop at a sign that it takes -/
theorem turn_c {S dp tl : Nat} {it rp : Int} {G' : Grp} (h : CI G4 v S n p dp tl it rp) (ht : TPE G3 G27 n b) (hp : p < n) (hc : ¬ (b p : Int) = 59) (hT : f_X7_takeSign F G4 v (iI (b p)) = some (iI 1, G')) (hat : G'.1 v 10 = iI p) (fu : Nat) : f_X7_parsePattern_l4 F (fu + 1) G3 G4 v = f_X7_parsePattern_l4 F fu G3 (gI G' v 10 (iI ((p : Int) + 1))) v := by
  have sg := sign_c (F := F) h ht hp
  obtain ⟨h1, h2, h3, h4, h5, h6, h7, h8⟩ := id h
  have t1 := ht.1
  have hb := ht.2.2.2 p
  have e1 : ¬ (n : Int) ≤ p := by omega
  show f_X7_parsePattern_l4b F (f_X7_parsePattern_l4 F fu) G3 G4 v = _
  simp (disch := omega) only [reduceIte, Nat.reduceEqDiff, Nat.reduceAdd, Nat.reduceSub, Nat.reduceMul, Nat.reduceLT, Int.reduceNeg, Int.reduceAdd, Int.reduceSub, Int.reduceMul, Int.reduceLT, Int.reduceLE, Int.reduceEq, Int.reduceToNat, reduceCtorEq, and_self, and_true, true_and, false_and, and_false, or_false, false_or, or_true, true_or, true_implies, false_implies, implies_true, not_true_eq_false, not_false_eq_true, Int.toNat_natCast, Int.cast_ofNat_Int, eq_self, ne_eq, ite_true, ite_false, if_true, if_false, Int.add_sub_cancel, Int.sub_add_cancel, Int.add_zero, Int.zero_add, cast_s, iI_in, iI_lit, iI_le, iI_lt, iI_eq, iI_cl, iI_add, iI_sub, iI_mul, iI_neg, iI_nI, ok_s, ok_ck, ok_bn, ok_ob, ck_iI, bn_eq, ob_s, om_n, om_s, cb_bI, gI_g, gI_2, gJ_1, gJ_g, gJ_2, gR_1, gR_2, gR_g, within_v, in_v, bI_i0, bI_i1, iI_bI0, iI_bI1, bI_T, bI_F, f_X7_parsePattern_l4b, f_X7_parsePattern_b66, h2, h3, e1, sg, hc, hT, hat]
theorem CI.step {S dp tl : Nat} {it rp : Int} {G : Grp} (h : CI G v S n p dp tl it rp) : CI (gI G v 10 (iI ((p : Int) + 1))) v S n (p + 1) dp tl it rp := by
  obtain ⟨h1, h2, h3, h4, h5, h6, h7, h8⟩ := h
  unfold CI
  simp (disch := omega) only [reduceIte, Nat.reduceEqDiff, Nat.reduceAdd, Nat.reduceSub, Nat.reduceMul, Nat.reduceLT, Int.reduceNeg, Int.reduceAdd, Int.reduceSub, Int.reduceMul, Int.reduceLT, Int.reduceLE, Int.reduceEq, Int.reduceToNat, reduceCtorEq, and_self, and_true, true_and, false_and, and_false, or_false, false_or, or_true, true_or, true_implies, false_implies, implies_true, not_true_eq_false, not_false_eq_true, Int.toNat_natCast, Int.cast_ofNat_Int, eq_self, ne_eq, ite_true, ite_false, if_true, if_false, Int.add_sub_cancel, Int.sub_add_cancel, Int.add_zero, Int.zero_add, cast_s, iI_in, iI_lit, iI_le, iI_lt, iI_eq, iI_cl, iI_add, iI_sub, iI_mul, iI_neg, iI_nI, ok_s, ok_ck, ok_bn, ok_ob, ck_iI, bn_eq, ob_s, om_n, om_s, cb_bI, gI_g, gI_2, gJ_1, gJ_g, gJ_2, gR_1, gR_2, gR_g, within_v, in_v, bI_i0, bI_i1, iI_bI0, iI_bI1, bI_T, bI_F, h1, h2, h4, h5, h6, h7, h8]
theorem step_gph (G : Grp) (z : Int32) : gph (gI G v 10 z) v = gph G v := by
  unfold gph
  rw [ar_oth _ _ _ (by omega), ar_oth _ _ _ (by omega), ar_oth _ _ _ (by omega)]
theorem step_FRC (G : Grp) (z : Int32) : FRC v t0 G (gI G v 10 z) := ⟨OTR.set G z (by omega) (by omega) (by omega) (by omega) (by omega), by rw [gI_g, if_neg (by omega)], ar_oth _ _ _ (by omega), by rw [step_gph]; exact sam.rf _ _ _⟩
theorem KDR.to {g g' : Gr} {S : Nat} (h : KDR g t0 S) (h1 : ∀ x, x < S → g'.1 x = g.1 x) : KDR g' t0 S := fun x z1 z2 => by rw [h1 x z2]; exact h x z1 z2
theorem smr_set (l : Lv) (rest : List Lv) (x q : Nat) : smr (lset l x q :: rest) = smr (l :: rest) := rfl
theorem sd_set (l : Lv) (rest : List Lv) (x q : Nat) : sd (lset l x q :: rest) = sd rest + lm l + 1 := rfl
theorem sd_eq (l : Lv) (rest : List Lv) : sd (l :: rest) = sd rest + lm l + (if lfu l = true then 1 else 0) := rfl
theorem lvs_item {g : Gr} {P P' : Pr} {cnt cnt' : Nat} {l : Lv} {rest : List Lv} {h e x k q : Nat} (hl : lvs g P cnt (l :: rest) h h) (hi : itm g h e x) (hk : sem g h e x (some k) P cnt) (hkc : k < cnt) (hw : wfp P cnt) (hp : agp P P' cnt) (hc : cnt ≤ cnt') (hq : (lfu l = false ∧ q = k) ∨ (lfu l = true ∧ q = cnt ∧ cnt < cnt' ∧ P'.1 q = 2 ∧ pA P' q = lpk l (lm l) ∧ pB P' q = k)) : lvs g P' cnt' (lset l x q :: rest) e (-1) :=
  ⟨lvl_item2 hl.1 hi hk hkc hw hp hc hq, hl.2.1, hl.2.2.to hp hc (sam.rf _ _ _)⟩
theorem stk_set {S S' : Nat → Int} {l : Lv} {rest : List Lv} {x q : Nat} (h : stk S (l :: rest)) (h1 : ∀ k, k < sd rest + lm l → S' k = S k) (h2 : S' (sd rest + lm l) = q) : stk S' (lset l x q :: rest) := by
  refine ⟨fun r hr => ?_, fun _ => ?_, h.2.2.to fun k hk => h1 k (by omega)⟩
  · have hr : r < lm l := hr
    have e : lpk (lset l x q) r = lpk l r := upN_f _ _ (by omega)
    rw [e, h1 _ (by omega)]
    exact h.1 r hr
  · have e : lpk (lset l x q) (lm (lset l x q)) = q := upN_t _ _ _
    rw [e]; exact h2
theorem itr_set {I R I' R' : Nat → Int} {l : Lv} {rest : List Lv} {x q : Nat} (h : itr I R (l :: rest)) (h1 : I' = up I rest.length 1) (h2 : R' = R) : itr I' R' (lset l x q :: rest) := by
  subst h1 h2
  refine ⟨?_, h.2.1, h.2.2.to fun k hk => ⟨up_f _ _ (by omega), rfl⟩⟩
  rw [up_t]
  show (1 : Int) = if true = true then 1 else 0
  rw [if_pos rfl]
/-- * + ? behind an item, if there is one; then it comes to the row -/
theorem pend_step {l : Lv} {rest : List Lv} {h x k S cnt rz c0 : Nat} (H : PEND G4 G28 v n p t0 l rest h x k S cnt rz) (ht : TPE G3 G27 n b) (hc0 : c0 ≤ cnt) : ∃ G4' Gr G28' d rp' q cnt', (∀ fu, f_X7_parsePattern_l4 F (fu + d) G3 G4 v = f_X7_parsePattern_l4 F fu G3 G4' v) ∧ f_X12_repeats F G27 G28 = some Gr ∧ f_X12_comes F Gr (iI rest.length) = some G28' ∧ PS G4' G28' v n (p + d) t0 (lset l x q) rest S cnt' rz h rp' ∧ (rp' = 1 ∨ (rp' = 0 ∧ (n ≤ p + d ∨ ¬ isRp (b (p + d))))) ∧ d ≤ 1 ∧ c0 ≤ cnt' ∧ FRC v t0 G4 G4' ∧ FRM c0 G28 G28' := by
  obtain ⟨P1, P2, P3, P4, P5, P6, P7, P8, P9, P10, P11, P12, P13, Q1, Q2, Q3, Q4, Q5, Q6⟩ := id H
  obtain ⟨T1, T2, T3, T4⟩ := id ht
  have hsd := sd_eq l rest
  obtain ⟨w1, w2, w3⟩ := lvl_lt P3.1
  have ix := P4.1
  have w0 := lvs_t P3
  rw [Q6] at w0
  have ix2 := P4.2.1
  -- behind the first half: one more of * + ? or not
  have half : ∃ G4' Gr d rp' k' cnt1, (∀ fu, f_X7_parsePattern_l4 F (fu + d) G3 G4 v = f_X7_parsePattern_l4 F fu G3 G4' v) ∧ f_X12_repeats F G27 G28 = some Gr ∧ CI G4' v S n (p + d) rest.length x h rp' ∧ MI Gr n (p + d) cnt1 rz (sd (l :: rest) + 1) ∧ lvs (gph G4' v) (prt Gr) cnt1 (l :: rest) h h ∧ itm (gph G4' v) h S x ∧ sem (gph G4' v) h S x (some k') (prt Gr) cnt1 ∧ k' < cnt1 ∧ wfp (prt Gr) cnt1 ∧ (∀ j, j < sd (l :: rest) → ar Gr 119 j = ar G28 119 j) ∧ ar Gr 119 (sd (l :: rest)) = k' ∧ ar Gr 120 = ar G28 120 ∧ ar Gr 121 = ar G28 121 ∧ gar (ar G4' (v + 7)) (ar G4' (v + 8)) (ar G4' (v + 9)) (l :: rest) ∧ KDR (gph G4' v) t0 S ∧ cnt1 ≤ cnt + d ∧ cnt ≤ cnt1 ∧ (rp' = 1 ∨ (rp' = 0 ∧ (n ≤ p + d ∨ ¬ isRp (b (p + d))))) ∧ d ≤ 1 ∧ p + d ≤ n ∧ FRC v t0 G4 G4' ∧ FRM c0 G28 Gr := by
    by_cases c : p < n ∧ isRp (b p)
    · obtain ⟨c1, c2⟩ := c
      have hb := T4 p
      have c2' : b p = 42 ∨ b p = 43 ∨ b p = 63 := c2
      obtain ⟨cc, hcc⟩ : ∃ cc : Int, cc = if b p = 42 then 4 else if b p = 43 then 5 else 6 := ⟨_, rfl⟩
      have hcc3 : cc = 4 ∨ cc = 5 ∨ cc = 6 := by
        rw [hcc]
        split
        · exact Or.inl rfl
        · split
          · exact Or.inr (Or.inl rfl)
          · exact Or.inr (Or.inr rfl)
      have n59 : ¬ (b p : Int) = 59 := by omega
      have nAt : ¬ isAt (b p : Int) := by
        unfold isAt isWd
        omega
      have n40 : ¬ (b p : Int) = 40 := by omega
      have n124 : ¬ (b p : Int) = 124 := by omega
      have n41 : ¬ (b p : Int) = 41 := by omega
      have nh : ¬ (h : Int) = -1 := by omega
      have hS : S ≤ 408 := by omega
      have rv := repeat_v (F := F) P1 (by omega) (by omega) (c := (b p : Int)) (by omega)
      have hT : f_X7_takeSign F G4 v (iI (b p)) = some (iI 1, rP G4 v x h (b p)) := by
        obtain ⟨h1, h2, h3, h4, h5, h6, h7, h8⟩ := id P1
        have ai := atom_is_c (F := F) (c := (b p : Int)) (by omega) (by omega)
        have b109 : f_X7_takeSign_b109 F G4 v (iI (b p)) = some (iI 1, rP G4 v x h (b p)) := by
          simp (disch := omega) only [reduceIte, Nat.reduceEqDiff, Nat.reduceAdd, Nat.reduceSub, Nat.reduceMul, Nat.reduceLT, Int.reduceNeg, Int.reduceAdd, Int.reduceSub, Int.reduceMul, Int.reduceLT, Int.reduceLE, Int.reduceEq, Int.reduceToNat, reduceCtorEq, and_self, and_true, true_and, false_and, and_false, or_false, false_or, or_true, true_or, true_implies, false_implies, implies_true, not_true_eq_false, not_false_eq_true, Int.toNat_natCast, Int.cast_ofNat_Int, eq_self, ne_eq, ite_true, ite_false, if_true, if_false, Int.add_sub_cancel, Int.sub_add_cancel, Int.add_zero, Int.zero_add, cast_s, iI_in, iI_lit, iI_le, iI_lt, iI_eq, iI_cl, iI_add, iI_sub, iI_mul, iI_neg, iI_nI, ok_s, ok_ck, ok_bn, ok_ob, ck_iI, bn_eq, ob_s, om_n, om_s, cb_bI, gI_g, gI_2, gJ_1, gJ_g, gJ_2, gR_1, gR_2, gR_g, within_v, in_v, bI_i0, bI_i1, iI_bI0, iI_bI1, bI_T, bI_F, f_X7_takeSign_b109, h7, rv]
        have b91 : f_X7_takeSign_b91 F G4 v (iI (b p)) = some (iI 1, rP G4 v x h (b p)) := by
          rcases c2' with q | q | q
          · have q' : (b p : Int) = 42 := by omega
            simp (disch := omega) only [reduceIte, Nat.reduceEqDiff, Nat.reduceAdd, Nat.reduceSub, Nat.reduceMul, Nat.reduceLT, Int.reduceNeg, Int.reduceAdd, Int.reduceSub, Int.reduceMul, Int.reduceLT, Int.reduceLE, Int.reduceEq, Int.reduceToNat, reduceCtorEq, and_self, and_true, true_and, false_and, and_false, or_false, false_or, or_true, true_or, true_implies, false_implies, implies_true, not_true_eq_false, not_false_eq_true, Int.toNat_natCast, Int.cast_ofNat_Int, eq_self, ne_eq, ite_true, ite_false, if_true, if_false, Int.add_sub_cancel, Int.sub_add_cancel, Int.add_zero, Int.zero_add, cast_s, iI_in, iI_lit, iI_le, iI_lt, iI_eq, iI_cl, iI_add, iI_sub, iI_mul, iI_neg, iI_nI, ok_s, ok_ck, ok_bn, ok_ob, ck_iI, bn_eq, ob_s, om_n, om_s, cb_bI, gI_g, gI_2, gJ_1, gJ_g, gJ_2, gR_1, gR_2, gR_g, within_v, in_v, bI_i0, bI_i1, iI_bI0, iI_bI1, bI_T, bI_F, f_X7_takeSign_b91, eq_true q', b109]
          · have q' : (b p : Int) = 43 := by omega
            have q'' : ¬ (b p : Int) = 42 := by omega
            simp (disch := omega) only [reduceIte, Nat.reduceEqDiff, Nat.reduceAdd, Nat.reduceSub, Nat.reduceMul, Nat.reduceLT, Int.reduceNeg, Int.reduceAdd, Int.reduceSub, Int.reduceMul, Int.reduceLT, Int.reduceLE, Int.reduceEq, Int.reduceToNat, reduceCtorEq, and_self, and_true, true_and, false_and, and_false, or_false, false_or, or_true, true_or, true_implies, false_implies, implies_true, not_true_eq_false, not_false_eq_true, Int.toNat_natCast, Int.cast_ofNat_Int, eq_self, ne_eq, ite_true, ite_false, if_true, if_false, Int.add_sub_cancel, Int.sub_add_cancel, Int.add_zero, Int.zero_add, cast_s, iI_in, iI_lit, iI_le, iI_lt, iI_eq, iI_cl, iI_add, iI_sub, iI_mul, iI_neg, iI_nI, ok_s, ok_ck, ok_bn, ok_ob, ck_iI, bn_eq, ob_s, om_n, om_s, cb_bI, gI_g, gI_2, gJ_1, gJ_g, gJ_2, gR_1, gR_2, gR_g, within_v, in_v, bI_i0, bI_i1, iI_bI0, iI_bI1, bI_T, bI_F, f_X7_takeSign_b91, eq_true q', q'', b109]
          · have q' : (b p : Int) = 63 := by omega
            have q'' : ¬ (b p : Int) = 42 := by omega
            have q3 : ¬ (b p : Int) = 43 := by omega
            simp (disch := omega) only [reduceIte, Nat.reduceEqDiff, Nat.reduceAdd, Nat.reduceSub, Nat.reduceMul, Nat.reduceLT, Int.reduceNeg, Int.reduceAdd, Int.reduceSub, Int.reduceMul, Int.reduceLT, Int.reduceLE, Int.reduceEq, Int.reduceToNat, reduceCtorEq, and_self, and_true, true_and, false_and, and_false, or_false, false_or, or_true, true_or, true_implies, false_implies, implies_true, not_true_eq_false, not_false_eq_true, Int.toNat_natCast, Int.cast_ofNat_Int, eq_self, ne_eq, ite_true, ite_false, if_true, if_false, Int.add_sub_cancel, Int.sub_add_cancel, Int.add_zero, Int.zero_add, cast_s, iI_in, iI_lit, iI_le, iI_lt, iI_eq, iI_cl, iI_add, iI_sub, iI_mul, iI_neg, iI_nI, ok_s, ok_ck, ok_bn, ok_ob, ck_iI, bn_eq, ob_s, om_n, om_s, cb_bI, gI_g, gI_2, gJ_1, gJ_g, gJ_2, gR_1, gR_2, gR_g, within_v, in_v, bI_i0, bI_i1, iI_bI0, iI_bI1, bI_T, bI_F, f_X7_takeSign_b91, eq_true q', q'', q3, b109]
        simp (disch := omega) only [reduceIte, Nat.reduceEqDiff, Nat.reduceAdd, Nat.reduceSub, Nat.reduceMul, Nat.reduceLT, Int.reduceNeg, Int.reduceAdd, Int.reduceSub, Int.reduceMul, Int.reduceLT, Int.reduceLE, Int.reduceEq, Int.reduceToNat, reduceCtorEq, and_self, and_true, true_and, false_and, and_false, or_false, false_or, or_true, true_or, true_implies, false_implies, implies_true, not_true_eq_false, not_false_eq_true, Int.toNat_natCast, Int.cast_ofNat_Int, eq_self, ne_eq, ite_true, ite_false, if_true, if_false, Int.add_sub_cancel, Int.sub_add_cancel, Int.add_zero, Int.zero_add, cast_s, iI_in, iI_lit, iI_le, iI_lt, iI_eq, iI_cl, iI_add, iI_sub, iI_mul, iI_neg, iI_nI, ok_s, ok_ck, ok_bn, ok_ob, ck_iI, bn_eq, ob_s, om_n, om_s, cb_bI, gI_g, gI_2, gJ_1, gJ_g, gJ_2, gR_1, gR_2, gR_g, within_v, in_v, bI_i0, bI_i1, iI_bI0, iI_bI1, bI_T, bI_F, f_X7_takeSign, ai, nAt, n40, h6, nh, n124, n41, b91]
      have ci2 := rP_ci P1 h (b p)
      have turn := turn_c (F := F) P1 ht c1 n59 hT ci2.2.2.1
      have fo := rP_o G4 v x h (b p)
      have e1 := rP_a G4 v x h (b p) (x := v + 1) (by omega)
      have e2 := rP_a G4 v x h (b p) (x := v + 2) (by omega)
      have e3 := rP_3 G4 v x h (b p) (by omega) (by omega)
      have e4 := rP_a G4 v x h (b p) (x := v + 4) (by omega)
      have e7 := rP_a G4 v x h (b p) (x := v + 7) (by omega)
      have e8 := rP_a G4 v x h (b p) (x := v + 8) (by omega)
      have e9 := rP_a G4 v x h (b p) (x := v + 9) (by omega)
      have g3 : ∀ y, ar (rP G4 v x h (b p)) (v + 3) y = if y = h then (if cc = 5 then -1 else (x : Int)) else if y = x then (if cc = 6 then -1 else (h : Int)) else ar G4 (v + 3) y := by
        intro y
        have f1 : ar G4 (v + 3) h = -1 := P5.1
        have f2 : ar G4 (v + 3) x = -1 := P5.2.1
        rw [e3]
        rcases c2' with q | q | q
        · have q' : (b p : Int) = 42 := by omega
          have ec : cc = 4 := by rw [hcc, if_pos q]
          rw [if_pos q']
          by_cases y1 : y = h
          · rw [if_pos y1, if_neg (by omega), y1, up_f _ _ (by omega), up_t]
          · by_cases y2 : y = x
            · rw [if_neg y1, if_pos y2, if_neg (by omega), y2, up_t]
            · rw [if_neg y1, if_neg y2, up_f _ _ y2, up_f _ _ y1]
        · have q' : ¬ (b p : Int) = 42 := by omega
          have q2 : (b p : Int) = 43 := by omega
          have ec : cc = 5 := by rw [hcc, if_neg (by omega), if_pos q]
          rw [if_neg q', if_pos q2]
          by_cases y1 : y = h
          · rw [if_pos y1, if_pos ec, y1, up_f _ _ (by omega), f1]
          · by_cases y2 : y = x
            · rw [if_neg y1, if_pos y2, if_neg (by omega), y2, up_t]
            · rw [if_neg y1, if_neg y2, up_f _ _ y2]
        · have q' : ¬ (b p : Int) = 42 := by omega
          have q2 : ¬ (b p : Int) = 43 := by omega
          have ec : cc = 6 := by rw [hcc, if_neg (by omega), if_neg (by omega)]
          rw [if_neg q', if_neg q2]
          by_cases y1 : y = h
          · rw [if_pos y1, if_neg (by omega), y1, up_t]
          · by_cases y2 : y = x
            · rw [if_neg y1, if_pos y2, if_pos ec, y2, up_f _ _ (by omega), f2]
            · rw [if_neg y1, if_neg y2, up_f _ _ y1]
      have sm : sam (gph G4 v) (gph (rP G4 v x h (b p)) v) 0 h := fun y z1 z2 => ⟨by show ar G4 (v + 1) y = ar (rP G4 v x h (b p)) (v + 1) y; rw [e1], by show ar G4 (v + 2) y = ar (rP G4 v x h (b p)) (v + 2) y; rw [e2], by
        show ar G4 (v + 3) y = ar (rP G4 v x h (b p)) (v + 3) y
        rw [g3, if_neg (by omega), if_neg (by omega)]⟩
      obtain ⟨Gr, r1, r2, r3, r4, r5, r6⟩ := repeats_yes (F := F) P2 ht c1 c2 (by omega) (by omega) (k := k) (by rw [show sd (l :: rest) + 1 - 1 = sd (l :: rest) by omega]; exact P10) P7 hcc
      obtain ⟨u1, u2, u3, u4⟩ := upP_k (prt G28) cnt cc 0 k (-1)
      have ag : agp (prt G28) (prt Gr) cnt := by rw [r3]; exact agp_up _ _ _ _ _ _
      have wf : wfp (prt Gr) (cnt + 1) := by rw [r3]; exact wfp_up P8 _ _ _ _ (by omega) (fun _ => by omega) (fun z => by omega)
      obtain ⟨i1, i2⟩ := item_rep (g' := gph (rP G4 v x h (b p)) v) P4 P5 P6 P7 ag wf hcc3 (by rw [r3]; exact u1) (by rw [r3]; exact u3.trans (Int.toNat_natCast _)) (fun y _ _ => by show ar (rP G4 v x h (b p)) (v + 1) y = ar G4 (v + 1) y; rw [e1]) (fun y _ _ => by show ar (rP G4 v x h (b p)) (v + 2) y = ar G4 (v + 2) y; rw [e2]) (fun y _ _ => g3 y)
      refine ⟨gI (rP G4 v x h (b p)) v 10 (iI ((p : Int) + 1)), Gr, 1, 1, cnt, cnt + 1, turn, r1, ci2.step, r2, ?_, ?_, ?_, by omega, wf, fun j hj => ?_, ?_, ?_, ?_, ?_, ?_, by omega, by omega, Or.inl rfl, by omega, by omega, ?_, ?_⟩
      · rw [step_gph]; exact P3.to ag (by omega) sm
      · rw [step_gph]; exact i1
      · rw [step_gph]; exact i2
      · rw [r4, up_f _ _ (by omega)]
      · rw [r4, show sd (l :: rest) + 1 - 1 = sd (l :: rest) by omega, up_t]
      · exact ar_ext fun j => r6 120 j (by omega)
      · exact ar_ext fun j => r6 121 j (by omega)
      · rw [ar_oth _ _ _ (by omega), ar_oth _ _ _ (by omega), ar_oth _ _ _ (by omega), e7, e8, e9]; exact P12
      · rw [step_gph]; exact P13.to fun y _ => by show ar (rP G4 v x h (b p)) (v + 1) y = ar G4 (v + 1) y; rw [e1]
      · exact FRC.tr ⟨fo.1, fo.2, e4, sm.sub (Nat.le_refl _) (by omega)⟩ (step_FRC _ _)
      · exact ⟨r5, fun y j hy => r6 y j (by omega), ag.le hc0⟩
    · have nr : n ≤ p ∨ ¬ isRp (b p) := by
        by_cases c1 : p < n
        · exact Or.inr fun z => c ⟨c1, z⟩
        · exact Or.inl (by omega)
      exact ⟨G4, G28, 0, 0, k, cnt, fun _ => rfl, repeats_no P2 ht Q2 nr, P1, P2, P3, P4, P6, P7, P8, fun _ _ => rfl, P10, rfl, rfl, P12, P13, by omega, by omega, Or.inr ⟨rfl, nr⟩, by omega, by omega, FRC.rf _ _ _, FRM.rf _ _⟩
  obtain ⟨G4', Gr, d, rp', k', cnt1, H1, H2, H3, H4, H5, H6, H7, H8, H9, H10, H11, H12, H13, H14, H15, H16, H17, H18, H19, H20, H21, H22⟩ := half
  -- it comes
  have hk0 : lfu l = true → ar Gr 119 (sd (l :: rest) + 1 - 2) = lpk l (lm l) ∧ lpk l (lm l) < cnt1 := fun z => by
    rw [if_pos z] at hsd
    refine ⟨?_, ?_⟩
    · rw [show sd (l :: rest) + 1 - 2 = sd rest + lm l by omega, H10 _ (by omega)]
      exact P9.2.1 z
    · exact H5.1.2.2.2.2.2.1 z
  obtain ⟨G28', q, k1, k2, k3, k4, k5⟩ := comes_v (F := F) (fu := lfu l) (o := rest.length) H4 (by omega) (by rw [H12]; exact P11.1) (by omega) (by omega) (fun z => by rw [if_pos z] at hsd; omega) hk0 (k := k') (by rw [show sd (l :: rest) + 1 - 1 = sd (l :: rest) by omega]; exact H11) H8 H9
  have fin : ∃ cnt', MI G28' n (p + d) cnt' rz (sd rest + lm l + 1) ∧ cnt1 ≤ cnt' ∧ cnt' ≤ cnt1 + (if lfu l = true then 1 else 0) ∧ agp (prt Gr) (prt G28') cnt1 ∧ wfp (prt G28') cnt' ∧ ((lfu l = false ∧ q = k') ∨ (lfu l = true ∧ q = cnt1 ∧ cnt1 < cnt' ∧ (prt G28').1 q = 2 ∧ pA (prt G28') q = lpk l (lm l) ∧ pB (prt G28') q = k')) ∧ (∀ j, j < sd rest + lm l → ar G28' 119 j = ar Gr 119 j) ∧ ar G28' 119 (sd rest + lm l) = q := by
    rcases k2 with ⟨z1, z2, z3, z4, z5⟩ | ⟨z1, z2, z3, z4, z5⟩
    · rw [if_neg (by rw [z1]; decide)] at hsd
      refine ⟨cnt1, ?_, by omega, by omega, by rw [z4]; exact agp_rf _ _, by rw [z4]; exact H9, Or.inl ⟨z1, z2⟩, fun j _ => by rw [z5], ?_⟩
      · rw [hsd] at z3; exact z3
      · rw [z5, z2, ← H11, hsd]; rfl
    · rw [if_pos z1] at hsd ⊢
      obtain ⟨u1, u2, u3, u4⟩ := upP_k (prt Gr) cnt1 2 0 (lpk l (lm l)) k'
      have hk := (hk0 z1).2
      refine ⟨cnt1 + 1, ?_, by omega, by omega, by rw [z4]; exact agp_up _ _ _ _ _ _, by rw [z4]; exact wfp_up H9 _ _ _ _ (by omega) (fun _ => by omega) (fun _ => by omega), Or.inr ⟨z1, z2, by omega, ?_, ?_, ?_⟩, fun j hj => ?_, ?_⟩
      · rw [hsd, show sd rest + lm l + 1 + 1 - 1 = sd rest + lm l + 1 by omega] at z3; exact z3
      · rw [z2, z4]; exact u1
      · rw [z2, z4]; exact u3.trans (Int.toNat_natCast _)
      · rw [z2, z4]; exact u4.trans (Int.toNat_natCast _)
      · rw [z5, up_f _ _ (by omega)]
      · rw [z5, show sd (l :: rest) + 1 - 2 = sd rest + lm l by omega, up_t, z2]
  obtain ⟨cnt', M1, M2, M3, M4, M5, M6, M7, M8⟩ := fin
  have hsml := smr_set l rest x q
  have hsds := sd_set l rest x q
  refine ⟨G4', Gr, G28', d, rp', q, cnt', H1, H2, k1, ⟨?_, ?_, lvs_item H5 H6 H7 H8 H9 M4 M2 M6, M5, ?_, ?_, ?_, H15, ⟨Q1, H20, by omega, by rw [hsml]; omega, by rw [hsds]; omega, Q6⟩, ?_⟩, H18, H19, by omega, H21, H22.tr ?_⟩
  · have e1 : ltl (lset l x q) (lm (lset l x q)) = x := upN_t _ _ _
    rw [e1]; exact H3
  · rw [hsds]; exact M1
  · exact stk_set P9 (fun j hj => by rw [M7 j hj, H10 j (by omega)]) M8
  · exact itr_set P11 (by rw [k3, H12]) (by rw [← H13]; exact ar_ext fun j => k5 121 j (by omega))
  · obtain ⟨y1, y2, y3, y4⟩ := H14
    exact ⟨y1, y2, y3, y4⟩
  · refine ⟨⟨fun z => by omega, fun z => by cases z⟩, by omega, by omega⟩
  · exact ⟨k4, fun y j hy => k5 y j (by omega), M4.le (by omega)⟩
end PR
