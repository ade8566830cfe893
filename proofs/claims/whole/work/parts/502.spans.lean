/-! the reference's spans -/
abbrev isSg (c : Int) : Prop := isWd c ∨ c = 32 ∨ c = 10
def tks (k : Int) (c : Nat) : Prop := k ≠ 0 ∧ k ≠ 94 ∧ (k = 46 ∨ (k = 35 ∧ 48 ≤ c ∧ c ≤ 57) ∨ (k = 64 ∧ 97 ≤ c ∧ c ≤ 122) ∨ (k = 95 ∧ (c = 32 ∨ c = 10)) ∨ (k ≠ 46 ∧ k ≠ 35 ∧ k ≠ 64 ∧ k ≠ 95 ∧ k = c))
def tkA (n : Nat) (tx : Nat → Nat) : Tk := fun k i => i < n ∧ tks k (tx i)
def wdA (n : Nat) (tx : Nat → Nat) (i : Nat) : Prop := i < n ∧ isWd (tx i)
def bdA (n : Nat) (tx : Nat → Nat) (i : Nat) : Prop := ¬ ((0 < i ∧ wdA n tx (i - 1)) ↔ wdA n tx i)
theorem tkok_A (n : Nat) (tx : Nat → Nat) : tkok n (tkA n tx) := fun i => ⟨fun z => z.2.1 rfl, fun z => z.2.2.1 rfl, fun _ z => z.1⟩
/-- the reference's text -/
def TXM (G : Grp) (n : Nat) (tx : Nat → Nat) : Prop := n ≤ 160 ∧ G.1 91 46 = iI n ∧ ∀ i, i < n → G.1 123 i = iI (tx i) ∧ isSg (tx i)
def Eo (n : Nat) (G : Grp) (k i j : Nat) : Prop := i ≤ n ∧ SE G k i j
noncomputable abbrev clD (P : Prop) : Decidable P := Classical.propDecidable P
section PR
variable {F n : Nat} {G G29 : Grp} {tx : Nat → Nat} {cnt : Nat}
theorem takes_m {w : Int} (h1 : -2147483648 ≤ w) (h2 : w < 2147483648) {c : Nat} (hc : isSg c) : f_X12_takes F (iI w) (iI (c : Int)) = some (@bI (tks w c) (clD _)) := by
  have hb : 10 ≤ c ∧ c ≤ 122 ∧ c ≠ 94 := by unfold isSg isWd at hc; omega
  have dg := digit_m (F := F) (c := (c : Int)) (by omega) (by omega)
  have lt := letter_m (F := F) (c := (c : Int)) (by omega) (by omega)
  by_cases q : tks w c
  · rw [@bI_t _ (clD _) q]
    obtain ⟨q1, q2, q3⟩ := q
    rcases q3 with q | ⟨q, q3⟩ | ⟨q, q3⟩ | ⟨q, q3⟩ | ⟨a1, a2, a3, a4, q⟩
    · subst q
      simp (disch := omega) only [reduceIte, Nat.reduceEqDiff, Nat.reduceAdd, Nat.reduceSub, Nat.reduceMul, Nat.reduceLT, Int.reduceNeg, Int.reduceAdd, Int.reduceSub, Int.reduceMul, Int.reduceLT, Int.reduceLE, Int.reduceEq, Int.reduceToNat, reduceCtorEq, and_self, and_true, true_and, false_and, and_false, or_false, false_or, or_true, true_or, true_implies, false_implies, implies_true, not_true_eq_false, not_false_eq_true, Int.toNat_natCast, Int.cast_ofNat_Int, eq_self, ne_eq, ite_true, ite_false, if_true, if_false, Int.add_sub_cancel, Int.sub_add_cancel, Int.add_zero, Int.zero_add, cast_s, iI_in, iI_lit, iI_le, iI_lt, iI_eq, iI_cl, iI_add, iI_sub, iI_mul, iI_neg, iI_nI, ok_s, ok_ck, ok_bn, ok_ob, ck_iI, bn_eq, ob_s, om_n, om_s, cb_bI, gI_g, gI_2, gJ_1, gJ_g, gJ_2, gR_1, gR_2, gR_g, within_v, in_v, bI_i0, bI_i1, iI_bI0, iI_bI1, bI_T, bI_F, f_X12_takes]
    · subst q
      have e : (48 : Int) ≤ c ∧ (c : Int) ≤ 57 := by omega
      rw [bI_t e] at dg
      have cb1 : ∀ {α : Type} (x : Option α), cb (iI 1) x = x := fun x => cb_ok (Or.inr rfl)
      simp (disch := omega) only [reduceIte, Nat.reduceEqDiff, Nat.reduceAdd, Nat.reduceSub, Nat.reduceMul, Nat.reduceLT, Int.reduceNeg, Int.reduceAdd, Int.reduceSub, Int.reduceMul, Int.reduceLT, Int.reduceLE, Int.reduceEq, Int.reduceToNat, reduceCtorEq, and_self, and_true, true_and, false_and, and_false, or_false, false_or, or_true, true_or, true_implies, false_implies, implies_true, not_true_eq_false, not_false_eq_true, Int.toNat_natCast, Int.cast_ofNat_Int, eq_self, ne_eq, ite_true, ite_false, if_true, if_false, Int.add_sub_cancel, Int.sub_add_cancel, Int.add_zero, Int.zero_add, cast_s, iI_in, iI_lit, iI_le, iI_lt, iI_eq, iI_cl, iI_add, iI_sub, iI_mul, iI_neg, iI_nI, ok_s, ok_ck, ok_bn, ok_ob, ck_iI, bn_eq, ob_s, om_n, om_s, cb_bI, gI_g, gI_2, gJ_1, gJ_g, gJ_2, gR_1, gR_2, gR_g, within_v, in_v, bI_i0, bI_i1, iI_bI0, iI_bI1, bI_T, bI_F, f_X12_takes, dg, cb1]
    · subst q
      have e : (97 : Int) ≤ c ∧ (c : Int) ≤ 122 := by omega
      rw [bI_t e] at lt
      have cb1 : ∀ {α : Type} (x : Option α), cb (iI 1) x = x := fun x => cb_ok (Or.inr rfl)
      simp (disch := omega) only [reduceIte, Nat.reduceEqDiff, Nat.reduceAdd, Nat.reduceSub, Nat.reduceMul, Nat.reduceLT, Int.reduceNeg, Int.reduceAdd, Int.reduceSub, Int.reduceMul, Int.reduceLT, Int.reduceLE, Int.reduceEq, Int.reduceToNat, reduceCtorEq, and_self, and_true, true_and, false_and, and_false, or_false, false_or, or_true, true_or, true_implies, false_implies, implies_true, not_true_eq_false, not_false_eq_true, Int.toNat_natCast, Int.cast_ofNat_Int, eq_self, ne_eq, ite_true, ite_false, if_true, if_false, Int.add_sub_cancel, Int.sub_add_cancel, Int.add_zero, Int.zero_add, cast_s, iI_in, iI_lit, iI_le, iI_lt, iI_eq, iI_cl, iI_add, iI_sub, iI_mul, iI_neg, iI_nI, ok_s, ok_ck, ok_bn, ok_ob, ck_iI, bn_eq, ob_s, om_n, om_s, cb_bI, gI_g, gI_2, gJ_1, gJ_g, gJ_2, gR_1, gR_2, gR_g, within_v, in_v, bI_i0, bI_i1, iI_bI0, iI_bI1, bI_T, bI_F, f_X12_takes, lt, cb1]
    · subst q
      rcases q3 with q3 | q3
      · have e : (c : Int) = 32 := by omega
        simp (disch := omega) only [reduceIte, Nat.reduceEqDiff, Nat.reduceAdd, Nat.reduceSub, Nat.reduceMul, Nat.reduceLT, Int.reduceNeg, Int.reduceAdd, Int.reduceSub, Int.reduceMul, Int.reduceLT, Int.reduceLE, Int.reduceEq, Int.reduceToNat, reduceCtorEq, and_self, and_true, true_and, false_and, and_false, or_false, false_or, or_true, true_or, true_implies, false_implies, implies_true, not_true_eq_false, not_false_eq_true, Int.toNat_natCast, Int.cast_ofNat_Int, eq_self, ne_eq, ite_true, ite_false, if_true, if_false, Int.add_sub_cancel, Int.sub_add_cancel, Int.add_zero, Int.zero_add, cast_s, iI_in, iI_lit, iI_le, iI_lt, iI_eq, iI_cl, iI_add, iI_sub, iI_mul, iI_neg, iI_nI, ok_s, ok_ck, ok_bn, ok_ob, ck_iI, bn_eq, ob_s, om_n, om_s, cb_bI, gI_g, gI_2, gJ_1, gJ_g, gJ_2, gR_1, gR_2, gR_g, within_v, in_v, bI_i0, bI_i1, iI_bI0, iI_bI1, bI_T, bI_F, f_X12_takes, eq_true e]
      · have e : (c : Int) = 10 := by omega
        have e2 : ¬ (c : Int) = 32 := by omega
        simp (disch := omega) only [reduceIte, Nat.reduceEqDiff, Nat.reduceAdd, Nat.reduceSub, Nat.reduceMul, Nat.reduceLT, Int.reduceNeg, Int.reduceAdd, Int.reduceSub, Int.reduceMul, Int.reduceLT, Int.reduceLE, Int.reduceEq, Int.reduceToNat, reduceCtorEq, and_self, and_true, true_and, false_and, and_false, or_false, false_or, or_true, true_or, true_implies, false_implies, implies_true, not_true_eq_false, not_false_eq_true, Int.toNat_natCast, Int.cast_ofNat_Int, eq_self, ne_eq, ite_true, ite_false, if_true, if_false, Int.add_sub_cancel, Int.sub_add_cancel, Int.add_zero, Int.zero_add, cast_s, iI_in, iI_lit, iI_le, iI_lt, iI_eq, iI_cl, iI_add, iI_sub, iI_mul, iI_neg, iI_nI, ok_s, ok_ck, ok_bn, ok_ob, ck_iI, bn_eq, ob_s, om_n, om_s, cb_bI, gI_g, gI_2, gJ_1, gJ_g, gJ_2, gR_1, gR_2, gR_g, within_v, in_v, bI_i0, bI_i1, iI_bI0, iI_bI1, bI_T, bI_F, f_X12_takes, eq_true e, e2]
    · have e : w = (c : Int) := q
      simp (disch := omega) only [reduceIte, Nat.reduceEqDiff, Nat.reduceAdd, Nat.reduceSub, Nat.reduceMul, Nat.reduceLT, Int.reduceNeg, Int.reduceAdd, Int.reduceSub, Int.reduceMul, Int.reduceLT, Int.reduceLE, Int.reduceEq, Int.reduceToNat, reduceCtorEq, and_self, and_true, true_and, false_and, and_false, or_false, false_or, or_true, true_or, true_implies, false_implies, implies_true, not_true_eq_false, not_false_eq_true, Int.toNat_natCast, Int.cast_ofNat_Int, eq_self, ne_eq, ite_true, ite_false, if_true, if_false, Int.add_sub_cancel, Int.sub_add_cancel, Int.add_zero, Int.zero_add, cast_s, iI_in, iI_lit, iI_le, iI_lt, iI_eq, iI_cl, iI_add, iI_sub, iI_mul, iI_neg, iI_nI, ok_s, ok_ck, ok_bn, ok_ob, ck_iI, bn_eq, ob_s, om_n, om_s, cb_bI, gI_g, gI_2, gJ_1, gJ_g, gJ_2, gR_1, gR_2, gR_g, within_v, in_v, bI_i0, bI_i1, iI_bI0, iI_bI1, bI_T, bI_F, f_X12_takes, a1, a2, a3, a4, eq_true e]
  · rw [@bI_f _ (clD _) q]
    by_cases a1 : w = 35
    · have e : ¬ ((48 : Int) ≤ c ∧ (c : Int) ≤ 57) := fun z => q ⟨by omega, by omega, Or.inr (Or.inl ⟨a1, by omega, by omega⟩)⟩
      rw [bI_f e] at dg
      subst a1
      simp (disch := omega) only [reduceIte, Nat.reduceEqDiff, Nat.reduceAdd, Nat.reduceSub, Nat.reduceMul, Nat.reduceLT, Int.reduceNeg, Int.reduceAdd, Int.reduceSub, Int.reduceMul, Int.reduceLT, Int.reduceLE, Int.reduceEq, Int.reduceToNat, reduceCtorEq, and_self, and_true, true_and, false_and, and_false, or_false, false_or, or_true, true_or, true_implies, false_implies, implies_true, not_true_eq_false, not_false_eq_true, Int.toNat_natCast, Int.cast_ofNat_Int, eq_self, ne_eq, ite_true, ite_false, if_true, if_false, Int.add_sub_cancel, Int.sub_add_cancel, Int.add_zero, Int.zero_add, cast_s, iI_in, iI_lit, iI_le, iI_lt, iI_eq, iI_cl, iI_add, iI_sub, iI_mul, iI_neg, iI_nI, ok_s, ok_ck, ok_bn, ok_ob, ck_iI, bn_eq, ob_s, om_n, om_s, cb_bI, gI_g, gI_2, gJ_1, gJ_g, gJ_2, gR_1, gR_2, gR_g, within_v, in_v, bI_i0, bI_i1, iI_bI0, iI_bI1, bI_T, bI_F, f_X12_takes, dg, cb0]
    · by_cases a2 : w = 46
      · exact absurd ⟨by omega, by omega, Or.inl a2⟩ q
      · by_cases a3 : w = 64
        · have e : ¬ ((97 : Int) ≤ c ∧ (c : Int) ≤ 122) := fun z => q ⟨by omega, by omega, Or.inr (Or.inr (Or.inl ⟨a3, by omega, by omega⟩))⟩
          rw [bI_f e] at lt
          subst a3
          simp (disch := omega) only [reduceIte, Nat.reduceEqDiff, Nat.reduceAdd, Nat.reduceSub, Nat.reduceMul, Nat.reduceLT, Int.reduceNeg, Int.reduceAdd, Int.reduceSub, Int.reduceMul, Int.reduceLT, Int.reduceLE, Int.reduceEq, Int.reduceToNat, reduceCtorEq, and_self, and_true, true_and, false_and, and_false, or_false, false_or, or_true, true_or, true_implies, false_implies, implies_true, not_true_eq_false, not_false_eq_true, Int.toNat_natCast, Int.cast_ofNat_Int, eq_self, ne_eq, ite_true, ite_false, if_true, if_false, Int.add_sub_cancel, Int.sub_add_cancel, Int.add_zero, Int.zero_add, cast_s, iI_in, iI_lit, iI_le, iI_lt, iI_eq, iI_cl, iI_add, iI_sub, iI_mul, iI_neg, iI_nI, ok_s, ok_ck, ok_bn, ok_ob, ck_iI, bn_eq, ob_s, om_n, om_s, cb_bI, gI_g, gI_2, gJ_1, gJ_g, gJ_2, gR_1, gR_2, gR_g, within_v, in_v, bI_i0, bI_i1, iI_bI0, iI_bI1, bI_T, bI_F, f_X12_takes, lt, cb0]
        · by_cases a4 : w = 95
          · have e1 : ¬ (c : Int) = 32 := fun z => q ⟨by omega, by omega, Or.inr (Or.inr (Or.inr (Or.inl ⟨a4, by omega⟩)))⟩
            have e2 : ¬ (c : Int) = 10 := fun z => q ⟨by omega, by omega, Or.inr (Or.inr (Or.inr (Or.inl ⟨a4, by omega⟩)))⟩
            subst a4
            simp (disch := omega) only [reduceIte, Nat.reduceEqDiff, Nat.reduceAdd, Nat.reduceSub, Nat.reduceMul, Nat.reduceLT, Int.reduceNeg, Int.reduceAdd, Int.reduceSub, Int.reduceMul, Int.reduceLT, Int.reduceLE, Int.reduceEq, Int.reduceToNat, reduceCtorEq, and_self, and_true, true_and, false_and, and_false, or_false, false_or, or_true, true_or, true_implies, false_implies, implies_true, not_true_eq_false, not_false_eq_true, Int.toNat_natCast, Int.cast_ofNat_Int, eq_self, ne_eq, ite_true, ite_false, if_true, if_false, Int.add_sub_cancel, Int.sub_add_cancel, Int.add_zero, Int.zero_add, cast_s, iI_in, iI_lit, iI_le, iI_lt, iI_eq, iI_cl, iI_add, iI_sub, iI_mul, iI_neg, iI_nI, ok_s, ok_ck, ok_bn, ok_ob, ck_iI, bn_eq, ob_s, om_n, om_s, cb_bI, gI_g, gI_2, gJ_1, gJ_g, gJ_2, gR_1, gR_2, gR_g, within_v, in_v, bI_i0, bI_i1, iI_bI0, iI_bI1, bI_T, bI_F, f_X12_takes, e1, e2]
          · have e1 : ¬ w = (c : Int) := fun z => q ⟨by omega, by omega, Or.inr (Or.inr (Or.inr (Or.inr ⟨a2, a1, a3, a4, z⟩)))⟩
            simp (disch := omega) only [reduceIte, Nat.reduceEqDiff, Nat.reduceAdd, Nat.reduceSub, Nat.reduceMul, Nat.reduceLT, Int.reduceNeg, Int.reduceAdd, Int.reduceSub, Int.reduceMul, Int.reduceLT, Int.reduceLE, Int.reduceEq, Int.reduceToNat, reduceCtorEq, and_self, and_true, true_and, false_and, and_false, or_false, false_or, or_true, true_or, true_implies, false_implies, implies_true, not_true_eq_false, not_false_eq_true, Int.toNat_natCast, Int.cast_ofNat_Int, eq_self, ne_eq, ite_true, ite_false, if_true, if_false, Int.add_sub_cancel, Int.sub_add_cancel, Int.add_zero, Int.zero_add, cast_s, iI_in, iI_lit, iI_le, iI_lt, iI_eq, iI_cl, iI_add, iI_sub, iI_mul, iI_neg, iI_nI, ok_s, ok_ck, ok_bn, ok_ob, ck_iI, bn_eq, ob_s, om_n, om_s, cb_bI, gI_g, gI_2, gJ_1, gJ_g, gJ_2, gR_1, gR_2, gR_g, within_v, in_v, bI_i0, bI_i1, iI_bI0, iI_bI1, bI_T, bI_F, f_X12_takes, a1, a2, a3, a4, e1]
theorem isWord_m (ht : TXM G n tx) {i : Int} (h1 : -1 ≤ i) (h2 : i ≤ 200) : f_X12_isWord F G (iI i) = some (@bI (0 ≤ i ∧ wdA n tx i.toNat) (clD _)) := by
  obtain ⟨t1, t2, t3⟩ := ht
  by_cases a : i < 0
  · rw [@bI_f _ (clD _) (fun z => by omega)]
    simp (disch := omega) only [reduceIte, Nat.reduceEqDiff, Nat.reduceAdd, Nat.reduceSub, Nat.reduceMul, Nat.reduceLT, Int.reduceNeg, Int.reduceAdd, Int.reduceSub, Int.reduceMul, Int.reduceLT, Int.reduceLE, Int.reduceEq, Int.reduceToNat, reduceCtorEq, and_self, and_true, true_and, false_and, and_false, or_false, false_or, or_true, true_or, true_implies, false_implies, implies_true, not_true_eq_false, not_false_eq_true, Int.toNat_natCast, Int.cast_ofNat_Int, eq_self, ne_eq, ite_true, ite_false, if_true, if_false, Int.add_sub_cancel, Int.sub_add_cancel, Int.add_zero, Int.zero_add, cast_s, iI_in, iI_lit, iI_le, iI_lt, iI_eq, iI_cl, iI_add, iI_sub, iI_mul, iI_neg, iI_nI, ok_s, ok_ck, ok_bn, ok_ob, ck_iI, bn_eq, ob_s, om_n, om_s, cb_bI, gI_g, gI_2, gJ_1, gJ_g, gJ_2, gR_1, gR_2, gR_g, within_v, in_v, bI_i0, bI_i1, iI_bI0, iI_bI1, bI_T, bI_F, f_X12_isWord, a]
  · by_cases b : (n : Int) ≤ i
    · rw [@bI_f _ (clD _) (fun z => by have := z.2.1; omega)]
      simp (disch := omega) only [reduceIte, Nat.reduceEqDiff, Nat.reduceAdd, Nat.reduceSub, Nat.reduceMul, Nat.reduceLT, Int.reduceNeg, Int.reduceAdd, Int.reduceSub, Int.reduceMul, Int.reduceLT, Int.reduceLE, Int.reduceEq, Int.reduceToNat, reduceCtorEq, and_self, and_true, true_and, false_and, and_false, or_false, false_or, or_true, true_or, true_implies, false_implies, implies_true, not_true_eq_false, not_false_eq_true, Int.toNat_natCast, Int.cast_ofNat_Int, eq_self, ne_eq, ite_true, ite_false, if_true, if_false, Int.add_sub_cancel, Int.sub_add_cancel, Int.add_zero, Int.zero_add, cast_s, iI_in, iI_lit, iI_le, iI_lt, iI_eq, iI_cl, iI_add, iI_sub, iI_mul, iI_neg, iI_nI, ok_s, ok_ck, ok_bn, ok_ob, ck_iI, bn_eq, ob_s, om_n, om_s, cb_bI, gI_g, gI_2, gJ_1, gJ_g, gJ_2, gR_1, gR_2, gR_g, within_v, in_v, bI_i0, bI_i1, iI_bI0, iI_bI1, bI_T, bI_F, f_X12_isWord, a, t2, b]
    · have w := t3 i.toNat (by omega)
      have hb : 0 ≤ (tx i.toNat : Int) ∧ (tx i.toNat : Int) ≤ 200 := by have := w.2; unfold isSg isWd at this; omega
      have lt := letter_m (F := F) (c := (tx i.toNat : Int)) (by omega) (by omega)
      have dg := digit_m (F := F) (c := (tx i.toNat : Int)) (by omega) (by omega)
      by_cases c : isWd (tx i.toNat : Int)
      · rw [@bI_t _ (clD _) ⟨by omega, by omega, c⟩]
        by_cases c1 : 97 ≤ (tx i.toNat : Int) ∧ (tx i.toNat : Int) ≤ 122
        · simp (disch := omega) only [reduceIte, Nat.reduceEqDiff, Nat.reduceAdd, Nat.reduceSub, Nat.reduceMul, Nat.reduceLT, Int.reduceNeg, Int.reduceAdd, Int.reduceSub, Int.reduceMul, Int.reduceLT, Int.reduceLE, Int.reduceEq, Int.reduceToNat, reduceCtorEq, and_self, and_true, true_and, false_and, and_false, or_false, false_or, or_true, true_or, true_implies, false_implies, implies_true, not_true_eq_false, not_false_eq_true, Int.toNat_natCast, Int.cast_ofNat_Int, eq_self, ne_eq, ite_true, ite_false, if_true, if_false, Int.add_sub_cancel, Int.sub_add_cancel, Int.add_zero, Int.zero_add, cast_s, iI_in, iI_lit, iI_le, iI_lt, iI_eq, iI_cl, iI_add, iI_sub, iI_mul, iI_neg, iI_nI, ok_s, ok_ck, ok_bn, ok_ob, ck_iI, bn_eq, ob_s, om_n, om_s, cb_bI, gI_g, gI_2, gJ_1, gJ_g, gJ_2, gR_1, gR_2, gR_g, within_v, in_v, bI_i0, bI_i1, iI_bI0, iI_bI1, bI_T, bI_F, f_X12_isWord, a, t2, b, w.1, lt, dg, c1]
        · have c2 : 48 ≤ (tx i.toNat : Int) ∧ (tx i.toNat : Int) ≤ 57 := c.resolve_left c1
          simp (disch := omega) only [reduceIte, Nat.reduceEqDiff, Nat.reduceAdd, Nat.reduceSub, Nat.reduceMul, Nat.reduceLT, Int.reduceNeg, Int.reduceAdd, Int.reduceSub, Int.reduceMul, Int.reduceLT, Int.reduceLE, Int.reduceEq, Int.reduceToNat, reduceCtorEq, and_self, and_true, true_and, false_and, and_false, or_false, false_or, or_true, true_or, true_implies, false_implies, implies_true, not_true_eq_false, not_false_eq_true, Int.toNat_natCast, Int.cast_ofNat_Int, eq_self, ne_eq, ite_true, ite_false, if_true, if_false, Int.add_sub_cancel, Int.sub_add_cancel, Int.add_zero, Int.zero_add, cast_s, iI_in, iI_lit, iI_le, iI_lt, iI_eq, iI_cl, iI_add, iI_sub, iI_mul, iI_neg, iI_nI, ok_s, ok_ck, ok_bn, ok_ob, ck_iI, bn_eq, ob_s, om_n, om_s, cb_bI, gI_g, gI_2, gJ_1, gJ_g, gJ_2, gR_1, gR_2, gR_g, within_v, in_v, bI_i0, bI_i1, iI_bI0, iI_bI1, bI_T, bI_F, f_X12_isWord, a, t2, b, w.1, lt, dg, c1, c2]
      · rw [@bI_f _ (clD _) (fun z => c z.2.2)]
        have c1 : ¬ (97 ≤ (tx i.toNat : Int) ∧ (tx i.toNat : Int) ≤ 122) := fun z => c (Or.inl z)
        have c2 : ¬ (48 ≤ (tx i.toNat : Int) ∧ (tx i.toNat : Int) ≤ 57) := fun z => c (Or.inr z)
        simp (disch := omega) only [reduceIte, Nat.reduceEqDiff, Nat.reduceAdd, Nat.reduceSub, Nat.reduceMul, Nat.reduceLT, Int.reduceNeg, Int.reduceAdd, Int.reduceSub, Int.reduceMul, Int.reduceLT, Int.reduceLE, Int.reduceEq, Int.reduceToNat, reduceCtorEq, and_self, and_true, true_and, false_and, and_false, or_false, false_or, or_true, true_or, true_implies, false_implies, implies_true, not_true_eq_false, not_false_eq_true, Int.toNat_natCast, Int.cast_ofNat_Int, eq_self, ne_eq, ite_true, ite_false, if_true, if_false, Int.add_sub_cancel, Int.sub_add_cancel, Int.add_zero, Int.zero_add, cast_s, iI_in, iI_lit, iI_le, iI_lt, iI_eq, iI_cl, iI_add, iI_sub, iI_mul, iI_neg, iI_nI, ok_s, ok_ck, ok_bn, ok_ob, ck_iI, bn_eq, ob_s, om_n, om_s, cb_bI, gI_g, gI_2, gJ_1, gJ_g, gJ_2, gR_1, gR_2, gR_g, within_v, in_v, bI_i0, bI_i1, iI_bI0, iI_bI1, bI_T, bI_F, f_X12_isWord, a, t2, b, w.1, lt, dg, c1, c2]
theorem ar_b (G : Grp) (c k : Nat) : -2147483648 ≤ ar G c k ∧ ar G c k < 2147483648 := ⟨Int32.le_toInt _, Int32.toInt_lt _⟩
theorem TXM.to {G' : Grp} (ht : TXM G n tx) (h : G'.1 = G.1) : TXM G' n tx := by
  obtain ⟨t1, t2, t3⟩ := ht
  exact ⟨t1, by rw [h]; exact t2, fun i hi => by rw [h]; exact t3 i hi⟩
/-- rows other than (k, i) stay -/
def SK (G G' : Grp) (k i : Nat) : Prop := G'.1 = G.1 ∧ G'.2.2 = G.2.2 ∧ ∀ k' i' j', i' < 161 → ¬ (k' = k ∧ i' = i) → (SE G' k' i' j' ↔ SE G k' i' j')
theorem SK.rf (G : Grp) (k i : Nat) : SK G G k i := ⟨rfl, rfl, fun _ _ _ _ _ => Iff.rfl⟩
theorem SK.tr {G1 G2 : Grp} {k i : Nat} (h : SK G G1 k i) (h2 : SK G1 G2 k i) : SK G G2 k i := ⟨h2.1.trans h.1, h2.2.1.trans h.2.1, fun k' i' j' a b => (h2.2.2 k' i' j' a b).trans (h.2.2 k' i' j' a b)⟩
theorem clear_v {k i : Nat} (hk : k < 420) (hi : i < 161) (hF : 200000 ≤ F) (H : Grp → Option Grp) (hH : ∀ fu G1, f_X12_spans_l9b F (f_X12_spans_l9 F fu) G29 G1 (iI k) (iI i) (iI ((rw' k i : Nat) : Int)) (iI 3) = H G1) : ∃ G1, f_X12_spans F G29 G (iI k) (iI i) = H G1 ∧ SK G G1 k i ∧ ∀ j, ¬ SE G1 k i j := by
  have pv := place_v (F := F) hk hi
  have key : ∀ m t, t + m = 3 → ∀ fu, m < fu → ∀ G1 : Grp, G1.1 = G.1 → G1.2.2 = G.2.2 → (∀ w b, b < 64 → (wd G1 w).getLsbD b = if rw' k i ≤ w ∧ w < rw' k i + t then false else (wd G w).getLsbD b) → ∃ G2, f_X12_spans_l9 F fu G29 G1 (iI k) (iI i) (iI ((rw' k i : Nat) : Int)) (iI (t : Int)) = H G2 ∧ SK G G2 k i ∧ ∀ j, ¬ SE G2 k i j := by
    intro m
    induction m with
    | zero =>
      intro t ht fu hfu G1 g1 g2 g3
      obtain ⟨fu, rfl⟩ : ∃ f, fu = f + 1 := ⟨fu - 1, by omega⟩
      have et : t = 3 := by omega
      subst et
      refine ⟨G1, hH fu G1, ⟨g1, g2, fun k' i' j' hi' hne => ?_⟩, fun j z => ?_⟩
      · have hb : j' % 64 < 64 := Nat.mod_lt _ (by omega)
        unfold SE
        constructor
        · rintro ⟨a1, a2⟩
          rw [g3 _ _ hb, if_neg (by unfold rw'; omega)] at a2
          exact ⟨a1, a2⟩
        · rintro ⟨a1, a2⟩
          refine ⟨a1, ?_⟩
          rw [g3 _ _ hb, if_neg (by unfold rw'; omega)]
          exact a2
      · obtain ⟨a1, a2⟩ := z
        rw [g3 _ _ (Nat.mod_lt _ (by omega)), if_pos (by omega)] at a2
        cases a2
    | succ m ih =>
      intro t ht fu hfu G1 g1 g2 g3
      obtain ⟨fu, rfl⟩ : ∃ f, fu = f + 1 := ⟨fu - 1, by omega⟩
      obtain ⟨G2, r1, r2⟩ := ih (t + 1) (by omega) fu (by omega) (gJ G1 122 (rw' k i + t) 0) g1 g2 (fun w b hb => by
        show ((gJ G1 122 (rw' k i + t) 0).2.1 122 w).toBitVec.getLsbD b = _
        rw [gJ_g]
        by_cases e : w = rw' k i + t
        · rw [if_pos ⟨rfl, e⟩, if_pos (by omega)]
          show (BitVec.ofNat 64 0).getLsbD b = false
          simp
        · rw [if_neg (fun z => e z.2)]
          have := g3 w b hb
          by_cases c : rw' k i ≤ w ∧ w < rw' k i + t
          · rw [if_pos c] at this
            rw [if_pos (by omega)]; exact this
          · rw [if_neg c] at this
            rw [if_neg (by omega)]; exact this)
      refine ⟨G2, ?_, r2⟩
      show f_X12_spans_l9b F (f_X12_spans_l9 F fu) G29 G1 _ _ _ _ = _
      have e : ¬ (3 : Int) ≤ (t : Int) := by omega
      generalize hw : rw' k i = x at *
      have hx : x + 2 < 202860 := by rw [← hw]; unfold rw'; omega
      have t1 : ((x : Int) + (t : Int)).toNat = x + t := by omega
      simp (disch := omega) only [reduceIte, Nat.reduceEqDiff, Nat.reduceAdd, Nat.reduceSub, Nat.reduceMul, Nat.reduceLT, Int.reduceNeg, Int.reduceAdd, Int.reduceSub, Int.reduceMul, Int.reduceLT, Int.reduceLE, Int.reduceEq, Int.reduceToNat, reduceCtorEq, and_self, and_true, true_and, false_and, and_false, or_false, false_or, or_true, true_or, true_implies, false_implies, implies_true, not_true_eq_false, not_false_eq_true, Int.toNat_natCast, Int.cast_ofNat_Int, eq_self, ne_eq, ite_true, ite_false, if_true, if_false, Int.add_sub_cancel, Int.sub_add_cancel, Int.add_zero, Int.zero_add, cast_s] at r1
      simp (disch := omega) only [reduceIte, Nat.reduceEqDiff, Nat.reduceAdd, Nat.reduceSub, Nat.reduceMul, Nat.reduceLT, Int.reduceNeg, Int.reduceAdd, Int.reduceSub, Int.reduceMul, Int.reduceLT, Int.reduceLE, Int.reduceEq, Int.reduceToNat, reduceCtorEq, and_self, and_true, true_and, false_and, and_false, or_false, false_or, or_true, true_or, true_implies, false_implies, implies_true, not_true_eq_false, not_false_eq_true, Int.toNat_natCast, Int.cast_ofNat_Int, eq_self, ne_eq, ite_true, ite_false, if_true, if_false, Int.add_sub_cancel, Int.sub_add_cancel, Int.add_zero, Int.zero_add, cast_s, iI_in, iI_lit, iI_le, iI_lt, iI_eq, iI_cl, iI_add, iI_sub, iI_mul, iI_neg, iI_nI, ok_s, ok_ck, ok_bn, ok_ob, ck_iI, bn_eq, ob_s, om_n, om_s, cb_bI, gI_g, gI_2, gJ_1, gJ_g, gJ_2, gR_1, gR_2, gR_g, within_v, in_v, bI_i0, bI_i1, iI_bI0, iI_bI1, bI_T, bI_F, f_X12_spans_l9b, e, t1]
      exact r1
  obtain ⟨G2, r1, r2⟩ := key 3 0 rfl F (by omega) G rfl rfl (fun w b _ => by rw [if_neg (by omega)])
  refine ⟨G2, ?_, r2⟩
  simp (disch := omega) only [reduceIte, Nat.reduceEqDiff, Nat.reduceAdd, Nat.reduceSub, Nat.reduceMul, Nat.reduceLT, Int.reduceNeg, Int.reduceAdd, Int.reduceSub, Int.reduceMul, Int.reduceLT, Int.reduceLE, Int.reduceEq, Int.reduceToNat, reduceCtorEq, and_self, and_true, true_and, false_and, and_false, or_false, false_or, or_true, true_or, true_implies, false_implies, implies_true, not_true_eq_false, not_false_eq_true, Int.toNat_natCast, Int.cast_ofNat_Int, eq_self, ne_eq, ite_true, ite_false, if_true, if_false, Int.add_sub_cancel, Int.sub_add_cancel, Int.add_zero, Int.zero_add, cast_s, iI_in, iI_lit, iI_le, iI_lt, iI_eq, iI_cl, iI_add, iI_sub, iI_mul, iI_neg, iI_nI, ok_s, ok_ck, ok_bn, ok_ob, ck_iI, bn_eq, ob_s, om_n, om_s, cb_bI, gI_g, gI_2, gJ_1, gJ_g, gJ_2, gR_1, gR_2, gR_g, within_v, in_v, bI_i0, bI_i1, iI_bI0, iI_bI1, bI_T, bI_F, f_X12_spans, pv]
  exact r1
end PR
