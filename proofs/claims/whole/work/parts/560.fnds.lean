/-! what finds say: cut, hold, send back, hints -/
def hnt (dc : Nat → Int) (fd : Fnd) : Nat → Nat
  | 0 => 0
  | n + 1 => if dc (fd n).1 < 8 then hnt dc fd n ||| 2 ^ (dc (fd n).1).toNat else hnt dc fd n
theorem hnt_s (dc : Nat → Int) (fd : Fnd) (n : Nat) : hnt dc fd (n + 1) = if dc (fd n).1 < 8 then hnt dc fd n ||| 2 ^ (dc (fd n).1).toNat else hnt dc fd n := rfl
theorem or_0 (x : Int32) : x ||| iI 0 = x := by
  show x ||| 0 = x
  exact Int32.or_zero
section PR
variable {F : Nat} {G1 G2 G3 G4 G5 G9 G29 G30 G31 : Grp} {v sp S cnt r m n : Nat} {gl rt : Nat → Nat} {dc : Nat → Int} {fd : Fnd}
theorem doe_x (h : RRul G1 G4 G29 v sp S cnt r gl rt dc) {i : Nat} (hi : i < r) : ((dc i = 99 ∨ dc i = 104 ∨ dc i = 114) ∧ G4.1 (v + 5) i = iI (dc i) ∧ G4.1 (v + 6) i = iI 0) ∨ (∃ k : Nat, k < 8 ∧ dc i = k ∧ G4.1 (v + 5) i = iI 110 ∧ G4.1 (v + 6) i = iI ((2 ^ k : Nat) : Int)) := (h.2.2.2.2.2.2.2.2.2.2.1 i hi).2.2.1
theorem has_both (h : RRul G1 G4 G29 v sp S cnt r gl rt dc) (hc : FA G5 51 0 52 m fd) (hm : FA G30 91 51 124 m fd) (ho : FO m r n fd) (hn : n ≤ 160) (hF : 200000 ≤ F) {ch : Int} (hch : ch = 99 ∨ ch = 104 ∨ ch = 114) : ∃ x : Int32, f_X2_hasAny F G4 G5 51 v (iI ch) = some x ∧ f_X12_hasFind F G29 G30 (iI ch) = some x ∧ (x = 0 ∨ x = 1) := by
  obtain ⟨a0, a1⟩ := hc
  obtain ⟨b0, b1⟩ := hm
  obtain ⟨o0, o1, o2⟩ := ho
  have r12 := h.2.2.2.2.2.2.2.2.2.2.2.2.2
  have key := up_ind (n := m) (Q := fun fu j => ∃ x : Int32, f_X2_hasAny_l2 F fu G4 G5 51 v (iI ch) (iI j) = some x ∧ f_X12_hasFind_l2 F fu G29 G30 (iI ch) (iI j) = some x ∧ (x = 0 ∨ x = 1)) ?_ ?_
  · exact key 0 F (by omega) (by omega)
  · intro fu
    have e : (m : Int) ≤ m := Int.le_refl _
    refine ⟨0, ?_, ?_, Or.inl rfl⟩
    · show f_X2_hasAny_l2b F (f_X2_hasAny_l2 F fu) G4 G5 _ _ _ _ = _
      simp (disch := omega) only [reduceIte, Nat.reduceEqDiff, Nat.reduceAdd, Nat.reduceSub, Nat.reduceMul, Nat.reduceLT, Int.reduceNeg, Int.reduceAdd, Int.reduceSub, Int.reduceMul, Int.reduceLT, Int.reduceLE, Int.reduceEq, Int.reduceToNat, reduceCtorEq, and_self, and_true, true_and, false_and, and_false, or_false, false_or, or_true, true_or, true_implies, false_implies, implies_true, not_true_eq_false, not_false_eq_true, Int.toNat_natCast, Int.cast_ofNat_Int, eq_self, ne_eq, ite_true, ite_false, if_true, if_false, Int.add_sub_cancel, Int.sub_add_cancel, Int.add_zero, Int.zero_add, cast_s, iI_in, iI_lit, iI_le, iI_lt, iI_eq, iI_cl, iI_add, iI_sub, iI_mul, iI_neg, iI_nI, ok_s, ok_ck, ok_bn, ok_ob, ck_iI, bn_eq, ob_s, om_n, om_s, cb_bI, gI_g, gI_2, gJ_1, gJ_g, gJ_2, gR_1, gR_2, gR_g, within_v, in_v, bI_i0, bI_i1, iI_bI0, iI_bI1, bI_T, bI_F, f_X2_hasAny_l2b, a0, e]
    · show f_X12_hasFind_l2b F (f_X12_hasFind_l2 F fu) G29 G30 _ _ = _
      simp (disch := omega) only [reduceIte, Nat.reduceEqDiff, Nat.reduceAdd, Nat.reduceSub, Nat.reduceMul, Nat.reduceLT, Int.reduceNeg, Int.reduceAdd, Int.reduceSub, Int.reduceMul, Int.reduceLT, Int.reduceLE, Int.reduceEq, Int.reduceToNat, reduceCtorEq, and_self, and_true, true_and, false_and, and_false, or_false, false_or, or_true, true_or, true_implies, false_implies, implies_true, not_true_eq_false, not_false_eq_true, Int.toNat_natCast, Int.cast_ofNat_Int, eq_self, ne_eq, ite_true, ite_false, if_true, if_false, Int.add_sub_cancel, Int.sub_add_cancel, Int.add_zero, Int.zero_add, cast_s, iI_in, iI_lit, iI_le, iI_lt, iI_eq, iI_cl, iI_add, iI_sub, iI_mul, iI_neg, iI_nI, ok_s, ok_ck, ok_bn, ok_ob, ck_iI, bn_eq, ob_s, om_n, om_s, cb_bI, gI_g, gI_2, gJ_1, gJ_g, gJ_2, gR_1, gR_2, gR_g, within_v, in_v, bI_i0, bI_i1, iI_bI0, iI_bI1, bI_T, bI_F, f_X12_hasFind_l2b, b0, e]
  · intro j fu hj ih
    have e : ¬ (m : Int) ≤ j := by omega
    have u1 := (a1 j hj).1
    have w1 := (b1 j hj).1
    have hr := (o1 j hj).1
    have g1 := (h.2.2.2.2.2.2.2.2.2.2.1 (fd j).1 hr).2.2.2.1
    obtain ⟨x, x1, x2, x3⟩ := ih
    have dd : (dc (fd j).1 = ch ∧ G4.1 (v + 5) (fd j).1 = iI ch) ∨ (¬ iI (dc (fd j).1) = iI ch ∧ ¬ G4.1 (v + 5) (fd j).1 = iI ch) := by
      rcases doe_x h hr with ⟨d1, d2, -⟩ | ⟨k, d1, d2, d3, -⟩
      · by_cases c : dc (fd j).1 = ch
        · exact Or.inl ⟨c, by rw [d2, c]⟩
        · refine Or.inr ⟨?_, ?_⟩
          · rw [iI_eq (by omega) (by omega) (by omega) (by omega)]; exact c
          · rw [d2, iI_eq (by omega) (by omega) (by omega) (by omega)]; exact c
      · refine Or.inr ⟨?_, ?_⟩
        · rw [iI_eq (by omega) (by omega) (by omega) (by omega)]; omega
        · rw [d3, iI_eq (by omega) (by omega) (by omega) (by omega)]; omega
    rcases dd with ⟨d1, d2⟩ | ⟨d1, d2⟩
    · rw [d1] at g1
      refine ⟨1, ?_, ?_, Or.inr rfl⟩
      · show f_X2_hasAny_l2b F (f_X2_hasAny_l2 F fu) G4 G5 _ _ _ _ = _
        simp (disch := omega) only [reduceIte, Nat.reduceEqDiff, Nat.reduceAdd, Nat.reduceSub, Nat.reduceMul, Nat.reduceLT, Int.reduceNeg, Int.reduceAdd, Int.reduceSub, Int.reduceMul, Int.reduceLT, Int.reduceLE, Int.reduceEq, Int.reduceToNat, reduceCtorEq, and_self, and_true, true_and, false_and, and_false, or_false, false_or, or_true, true_or, true_implies, false_implies, implies_true, not_true_eq_false, not_false_eq_true, Int.toNat_natCast, Int.cast_ofNat_Int, eq_self, ne_eq, ite_true, ite_false, if_true, if_false, Int.add_sub_cancel, Int.sub_add_cancel, Int.add_zero, Int.zero_add, cast_s, iI_in, iI_lit, iI_le, iI_lt, iI_eq, iI_cl, iI_add, iI_sub, iI_mul, iI_neg, iI_nI, ok_s, ok_ck, ok_bn, ok_ob, ck_iI, bn_eq, ob_s, om_n, om_s, cb_bI, gI_g, gI_2, gJ_1, gJ_g, gJ_2, gR_1, gR_2, gR_g, within_v, in_v, bI_i0, bI_i1, iI_bI0, iI_bI1, bI_T, bI_F, f_X2_hasAny_l2b, a0, e, u1, d2]
      · show f_X12_hasFind_l2b F (f_X12_hasFind_l2 F fu) G29 G30 _ _ = _
        simp (disch := omega) only [reduceIte, Nat.reduceEqDiff, Nat.reduceAdd, Nat.reduceSub, Nat.reduceMul, Nat.reduceLT, Int.reduceNeg, Int.reduceAdd, Int.reduceSub, Int.reduceMul, Int.reduceLT, Int.reduceLE, Int.reduceEq, Int.reduceToNat, reduceCtorEq, and_self, and_true, true_and, false_and, and_false, or_false, false_or, or_true, true_or, true_implies, false_implies, implies_true, not_true_eq_false, not_false_eq_true, Int.toNat_natCast, Int.cast_ofNat_Int, eq_self, ne_eq, ite_true, ite_false, if_true, if_false, Int.add_sub_cancel, Int.sub_add_cancel, Int.add_zero, Int.zero_add, cast_s, iI_in, iI_lit, iI_le, iI_lt, iI_eq, iI_cl, iI_add, iI_sub, iI_mul, iI_neg, iI_nI, ok_s, ok_ck, ok_bn, ok_ob, ck_iI, bn_eq, ob_s, om_n, om_s, cb_bI, gI_g, gI_2, gJ_1, gJ_g, gJ_2, gR_1, gR_2, gR_g, within_v, in_v, bI_i0, bI_i1, iI_bI0, iI_bI1, bI_T, bI_F, f_X12_hasFind_l2b, b0, e, w1, g1]
    · rw [← g1] at d1
      refine ⟨x, ?_, ?_, x3⟩
      · show f_X2_hasAny_l2b F (f_X2_hasAny_l2 F fu) G4 G5 _ _ _ _ = _
        simp (disch := omega) only [reduceIte, Nat.reduceEqDiff, Nat.reduceAdd, Nat.reduceSub, Nat.reduceMul, Nat.reduceLT, Int.reduceNeg, Int.reduceAdd, Int.reduceSub, Int.reduceMul, Int.reduceLT, Int.reduceLE, Int.reduceEq, Int.reduceToNat, reduceCtorEq, and_self, and_true, true_and, false_and, and_false, or_false, false_or, or_true, true_or, true_implies, false_implies, implies_true, not_true_eq_false, not_false_eq_true, Int.toNat_natCast, Int.cast_ofNat_Int, eq_self, ne_eq, ite_true, ite_false, if_true, if_false, Int.add_sub_cancel, Int.sub_add_cancel, Int.add_zero, Int.zero_add, cast_s, iI_in, iI_lit, iI_le, iI_lt, iI_eq, iI_cl, iI_add, iI_sub, iI_mul, iI_neg, iI_nI, ok_s, ok_ck, ok_bn, ok_ob, ck_iI, bn_eq, ob_s, om_n, om_s, cb_bI, gI_g, gI_2, gJ_1, gJ_g, gJ_2, gR_1, gR_2, gR_g, within_v, in_v, bI_i0, bI_i1, iI_bI0, iI_bI1, bI_T, bI_F, f_X2_hasAny_l2b, a0, e, u1, d2]
        exact x1
      · show f_X12_hasFind_l2b F (f_X12_hasFind_l2 F fu) G29 G30 _ _ = _
        simp (disch := omega) only [reduceIte, Nat.reduceEqDiff, Nat.reduceAdd, Nat.reduceSub, Nat.reduceMul, Nat.reduceLT, Int.reduceNeg, Int.reduceAdd, Int.reduceSub, Int.reduceMul, Int.reduceLT, Int.reduceLE, Int.reduceEq, Int.reduceToNat, reduceCtorEq, and_self, and_true, true_and, false_and, and_false, or_false, false_or, or_true, true_or, true_implies, false_implies, implies_true, not_true_eq_false, not_false_eq_true, Int.toNat_natCast, Int.cast_ofNat_Int, eq_self, ne_eq, ite_true, ite_false, if_true, if_false, Int.add_sub_cancel, Int.sub_add_cancel, Int.add_zero, Int.zero_add, cast_s, iI_in, iI_lit, iI_le, iI_lt, iI_eq, iI_cl, iI_add, iI_sub, iI_mul, iI_neg, iI_nI, ok_s, ok_ck, ok_bn, ok_ob, ck_iI, bn_eq, ob_s, om_n, om_s, cb_bI, gI_g, gI_2, gJ_1, gJ_g, gJ_2, gR_1, gR_2, gR_g, within_v, in_v, bI_i0, bI_i1, iI_bI0, iI_bI1, bI_T, bI_F, f_X12_hasFind_l2b, b0, e, w1, d1]
        exact x2
theorem hnt_lt (h : RRul G1 G4 G29 v sp S cnt r gl rt dc) (ho : FO m r n fd) : ∀ j, j ≤ m → hnt dc fd j < 256 := by
  intro j
  induction j with
  | zero => intro _; show 0 < 256; omega
  | succ j ih =>
    intro hj
    have := ih (by omega)
    rw [hnt_s]
    split
    · rename_i c
      rcases doe_x h (ho.2.1 j (by omega)).1 with ⟨d1, -, -⟩ | ⟨k, d1, d2, -, -⟩
      · omega
      · rw [d2]
        exact Nat.or_lt_two_pow (n := 8) this (Nat.pow_lt_pow_right (by omega) (by omega))
    · exact this
theorem hint_c (h : RRul G1 G4 G29 v sp S cnt r gl rt dc) (hc : FA G5 51 0 52 m fd) (ho : FO m r n fd) (hn : n ≤ 160) (hF : 200000 ≤ F) : f_X2_hintBits F G4 G5 51 v = some (iI ((hnt dc fd m : Nat) : Int)) := by
  obtain ⟨a0, a1⟩ := hc
  obtain ⟨o0, o1, o2⟩ := id ho
  have r12 := h.2.2.2.2.2.2.2.2.2.2.2.2.2
  have key := up_ind (n := m) (Q := fun fu j => f_X2_hintBits_l4 F fu G4 G5 51 v (iI ((hnt dc fd j : Nat) : Int)) (iI j) = some (iI ((hnt dc fd m : Nat) : Int))) ?_ ?_
  · exact key 0 F (by omega) (by omega)
  · intro fu
    have e : (m : Int) ≤ m := Int.le_refl _
    show f_X2_hintBits_l4b F (f_X2_hintBits_l4 F fu) G4 G5 _ _ _ _ = _
    simp (disch := omega) only [reduceIte, Nat.reduceEqDiff, Nat.reduceAdd, Nat.reduceSub, Nat.reduceMul, Nat.reduceLT, Int.reduceNeg, Int.reduceAdd, Int.reduceSub, Int.reduceMul, Int.reduceLT, Int.reduceLE, Int.reduceEq, Int.reduceToNat, reduceCtorEq, and_self, and_true, true_and, false_and, and_false, or_false, false_or, or_true, true_or, true_implies, false_implies, implies_true, not_true_eq_false, not_false_eq_true, Int.toNat_natCast, Int.cast_ofNat_Int, eq_self, ne_eq, ite_true, ite_false, if_true, if_false, Int.add_sub_cancel, Int.sub_add_cancel, Int.add_zero, Int.zero_add, cast_s, iI_in, iI_lit, iI_le, iI_lt, iI_eq, iI_cl, iI_add, iI_sub, iI_mul, iI_neg, iI_nI, ok_s, ok_ck, ok_bn, ok_ob, ck_iI, bn_eq, ob_s, om_n, om_s, cb_bI, gI_g, gI_2, gJ_1, gJ_g, gJ_2, gR_1, gR_2, gR_g, within_v, in_v, bI_i0, bI_i1, iI_bI0, iI_bI1, bI_T, bI_F, f_X2_hintBits_l4b, a0, e]
  · intro j fu hj ih
    have e : ¬ (m : Int) ≤ j := by omega
    have u1 := (a1 j hj).1
    have hr := (o1 j hj).1
    show f_X2_hintBits_l4b F (f_X2_hintBits_l4 F fu) G4 G5 _ _ _ _ = _
    rw [hnt_s] at ih
    rcases doe_x h hr with ⟨d1, d2, d3⟩ | ⟨k, d1, d2, d3, d4⟩
    · rw [if_neg (by omega)] at ih
      simp (disch := omega) only [reduceIte, Nat.reduceEqDiff, Nat.reduceAdd, Nat.reduceSub, Nat.reduceMul, Nat.reduceLT, Int.reduceNeg, Int.reduceAdd, Int.reduceSub, Int.reduceMul, Int.reduceLT, Int.reduceLE, Int.reduceEq, Int.reduceToNat, reduceCtorEq, and_self, and_true, true_and, false_and, and_false, or_false, false_or, or_true, true_or, true_implies, false_implies, implies_true, not_true_eq_false, not_false_eq_true, Int.toNat_natCast, Int.cast_ofNat_Int, eq_self, ne_eq, ite_true, ite_false, if_true, if_false, Int.add_sub_cancel, Int.sub_add_cancel, Int.add_zero, Int.zero_add, cast_s, iI_in, iI_lit, iI_le, iI_lt, iI_eq, iI_cl, iI_add, iI_sub, iI_mul, iI_neg, iI_nI, ok_s, ok_ck, ok_bn, ok_ob, ck_iI, bn_eq, ob_s, om_n, om_s, cb_bI, gI_g, gI_2, gJ_1, gJ_g, gJ_2, gR_1, gR_2, gR_g, within_v, in_v, bI_i0, bI_i1, iI_bI0, iI_bI1, bI_T, bI_F, f_X2_hintBits_l4b, a0, e, u1, d3, or_0]
      exact ih
    · rw [if_pos (by omega), d2, Int.toNat_natCast] at ih
      simp (disch := omega) only [reduceIte, Nat.reduceEqDiff, Nat.reduceAdd, Nat.reduceSub, Nat.reduceMul, Nat.reduceLT, Int.reduceNeg, Int.reduceAdd, Int.reduceSub, Int.reduceMul, Int.reduceLT, Int.reduceLE, Int.reduceEq, Int.reduceToNat, reduceCtorEq, and_self, and_true, true_and, false_and, and_false, or_false, false_or, or_true, true_or, true_implies, false_implies, implies_true, not_true_eq_false, not_false_eq_true, Int.toNat_natCast, Int.cast_ofNat_Int, eq_self, ne_eq, ite_true, ite_false, if_true, if_false, Int.add_sub_cancel, Int.sub_add_cancel, Int.add_zero, Int.zero_add, cast_s, iI_in, iI_lit, iI_le, iI_lt, iI_eq, iI_cl, iI_add, iI_sub, iI_mul, iI_neg, iI_nI, ok_s, ok_ck, ok_bn, ok_ob, ck_iI, bn_eq, ob_s, om_n, om_s, cb_bI, gI_g, gI_2, gJ_1, gJ_g, gJ_2, gR_1, gR_2, gR_g, within_v, in_v, bI_i0, bI_i1, iI_bI0, iI_bI1, bI_T, bI_F, f_X2_hintBits_l4b, a0, e, u1, d4, iI_or]
      exact ih
theorem hint_m (h : RRul G1 G4 G29 v sp S cnt r gl rt dc) (hm : FA G30 91 51 124 m fd) (ho : FO m r n fd) (hn : n ≤ 160) (hF : 200000 ≤ F) : f_X12_hintsFound F G29 G30 = some (iI ((hnt dc fd m : Nat) : Int)) := by
  obtain ⟨b0, b1⟩ := hm
  obtain ⟨o0, o1, o2⟩ := id ho
  have r12 := h.2.2.2.2.2.2.2.2.2.2.2.2.2
  have key := up_ind (n := m) (Q := fun fu j => f_X12_hintsFound_l4 F fu G29 G30 (iI ((hnt dc fd j : Nat) : Int)) (iI j) = some (iI ((hnt dc fd m : Nat) : Int))) ?_ ?_
  · exact key 0 F (by omega) (by omega)
  · intro fu
    have e : (m : Int) ≤ m := Int.le_refl _
    show f_X12_hintsFound_l4b F (f_X12_hintsFound_l4 F fu) G29 G30 _ _ = _
    simp (disch := omega) only [reduceIte, Nat.reduceEqDiff, Nat.reduceAdd, Nat.reduceSub, Nat.reduceMul, Nat.reduceLT, Int.reduceNeg, Int.reduceAdd, Int.reduceSub, Int.reduceMul, Int.reduceLT, Int.reduceLE, Int.reduceEq, Int.reduceToNat, reduceCtorEq, and_self, and_true, true_and, false_and, and_false, or_false, false_or, or_true, true_or, true_implies, false_implies, implies_true, not_true_eq_false, not_false_eq_true, Int.toNat_natCast, Int.cast_ofNat_Int, eq_self, ne_eq, ite_true, ite_false, if_true, if_false, Int.add_sub_cancel, Int.sub_add_cancel, Int.add_zero, Int.zero_add, cast_s, iI_in, iI_lit, iI_le, iI_lt, iI_eq, iI_cl, iI_add, iI_sub, iI_mul, iI_neg, iI_nI, ok_s, ok_ck, ok_bn, ok_ob, ck_iI, bn_eq, ob_s, om_n, om_s, cb_bI, gI_g, gI_2, gJ_1, gJ_g, gJ_2, gR_1, gR_2, gR_g, within_v, in_v, bI_i0, bI_i1, iI_bI0, iI_bI1, bI_T, bI_F, f_X12_hintsFound_l4b, b0, e]
  · intro j fu hj ih
    have e : ¬ (m : Int) ≤ j := by omega
    have w1 := (b1 j hj).1
    have hr := (o1 j hj).1
    have g1 := (h.2.2.2.2.2.2.2.2.2.2.1 (fd j).1 hr).2.2.2.1
    show f_X12_hintsFound_l4b F (f_X12_hintsFound_l4 F fu) G29 G30 _ _ = _
    rw [hnt_s] at ih
    rcases doe_x h hr with ⟨d1, d2, d3⟩ | ⟨k, d1, d2, d3, d4⟩
    · rw [if_neg (by omega)] at ih
      have e8 : 8 ≤ dc (fd j).1 := by omega
      simp (disch := omega) only [reduceIte, Nat.reduceEqDiff, Nat.reduceAdd, Nat.reduceSub, Nat.reduceMul, Nat.reduceLT, Int.reduceNeg, Int.reduceAdd, Int.reduceSub, Int.reduceMul, Int.reduceLT, Int.reduceLE, Int.reduceEq, Int.reduceToNat, reduceCtorEq, and_self, and_true, true_and, false_and, and_false, or_false, false_or, or_true, true_or, true_implies, false_implies, implies_true, not_true_eq_false, not_false_eq_true, Int.toNat_natCast, Int.cast_ofNat_Int, eq_self, ne_eq, ite_true, ite_false, if_true, if_false, Int.add_sub_cancel, Int.sub_add_cancel, Int.add_zero, Int.zero_add, cast_s, iI_in, iI_lit, iI_le, iI_lt, iI_eq, iI_cl, iI_add, iI_sub, iI_mul, iI_neg, iI_nI, ok_s, ok_ck, ok_bn, ok_ob, ck_iI, bn_eq, ob_s, om_n, om_s, cb_bI, gI_g, gI_2, gJ_1, gJ_g, gJ_2, gR_1, gR_2, gR_g, within_v, in_v, bI_i0, bI_i1, iI_bI0, iI_bI1, bI_T, bI_F, f_X12_hintsFound_l4b, b0, e, w1, g1, e8]
      exact ih
    · rw [if_pos (by omega), d2, Int.toNat_natCast] at ih
      rw [d2] at g1
      have e8 : ¬ 8 ≤ (k : Int) := by omega
      simp (disch := omega) only [reduceIte, Nat.reduceEqDiff, Nat.reduceAdd, Nat.reduceSub, Nat.reduceMul, Nat.reduceLT, Int.reduceNeg, Int.reduceAdd, Int.reduceSub, Int.reduceMul, Int.reduceLT, Int.reduceLE, Int.reduceEq, Int.reduceToNat, reduceCtorEq, and_self, and_true, true_and, false_and, and_false, or_false, false_or, or_true, true_or, true_implies, false_implies, implies_true, not_true_eq_false, not_false_eq_true, Int.toNat_natCast, Int.cast_ofNat_Int, eq_self, ne_eq, ite_true, ite_false, if_true, if_false, Int.add_sub_cancel, Int.sub_add_cancel, Int.add_zero, Int.zero_add, cast_s, iI_in, iI_lit, iI_le, iI_lt, iI_eq, iI_cl, iI_add, iI_sub, iI_mul, iI_neg, iI_nI, ok_s, ok_ck, ok_bn, ok_ob, ck_iI, bn_eq, ob_s, om_n, om_s, cb_bI, gI_g, gI_2, gJ_1, gJ_g, gJ_2, gR_1, gR_2, gR_g, within_v, in_v, bI_i0, bI_i1, iI_bI0, iI_bI1, bI_T, bI_F, f_X12_hintsFound_l4b, b0, e, w1, g1, e8, iI_pow, iI_or]
      exact ih
end PR
