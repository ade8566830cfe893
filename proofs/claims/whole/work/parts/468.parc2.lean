/-! what the class's parser does to the net -/
section PR
variable {F v S n p dp tl : Nat} {it rp : Int} {G : Grp}
def OTR (v : Nat) (G G' : Grp) : Prop := G'.2 = G.2 ∧ (∀ x k, (x < v ∨ v + 9 < x) → G'.1 x k = G.1 x k) ∧ (∀ k, G'.1 (v + 5) k = G.1 (v + 5) k ∧ G'.1 (v + 6) k = G.1 (v + 6) k) ∧ G'.1 v 11 = G.1 v 11
theorem OTR.tr {G1 G2 : Grp} (h : OTR v G G1) (h2 : OTR v G1 G2) : OTR v G G2 := ⟨h2.1.trans h.1, fun x k hx => (h2.2.1 x k hx).trans (h.2.1 x k hx), fun k => ⟨(h2.2.2.1 k).1.trans (h.2.2.1 k).1, (h2.2.2.1 k).2.trans (h.2.2.1 k).2⟩, h2.2.2.2.trans h.2.2.2⟩
theorem OTR.rf : OTR v G G := ⟨rfl, fun _ _ _ => rfl, fun _ => ⟨rfl, rfl⟩, rfl⟩
theorem OTR.set (G : Grp) {a k : Nat} (x : Int32) (h1 : v ≤ a) (h2 : a ≤ v + 9) (h3 : a ≠ v + 5) (h4 : a ≠ v + 6) (h5 : a ≠ v ∨ k ≠ 11) : OTR v G (gI G a k x) := ⟨rfl, fun y j hy => by rw [gI_g, if_neg (by omega)], fun j => ⟨by rw [gI_g, if_neg (by omega)], by rw [gI_g, if_neg (by omega)]⟩, by rw [gI_g, if_neg (by omega)]⟩
theorem OTRaS (G : Grp) (S : Nat) (c : Int32) : OTR v G (aS G v S c) := by
  unfold aS
  exact (((OTR.set G c (by omega) (by omega) (by omega) (by omega) (by omega)).tr (OTR.set _ _ (by omega) (by omega) (by omega) (by omega) (by omega))).tr (OTR.set _ _ (by omega) (by omega) (by omega) (by omega) (by omega))).tr (OTR.set _ _ (by omega) (by omega) (by omega) (by omega) (by omega))
theorem OTRoR (G : Grp) (S dp : Nat) : OTR v G (oR G v S dp) := by
  unfold oR
  exact (((OTRaS G S _).tr (OTR.set _ _ (by omega) (by omega) (by omega) (by omega) (by omega))).tr (OTR.set _ _ (by omega) (by omega) (by omega) (by omega) (by omega))).tr (OTR.set _ _ (by omega) (by omega) (by omega) (by omega) (by omega))
theorem aS_1 (G : Grp) (v S : Nat) {c : Int} (h1 : -2147483648 ≤ c) (h2 : c < 2147483648) : ar (aS G v S (iI c)) (v + 1) = up (ar G (v + 1)) S c := by
  unfold aS
  rw [ar_oth _ _ _ (by omega), ar_oth _ _ _ (by omega), ar_oth _ _ _ (by omega), ar_set _ _ _ h1 h2]
theorem aS_2 (G : Grp) (v S : Nat) (c : Int32) : ar (aS G v S c) (v + 2) = up (ar G (v + 2)) S (-1) := by
  unfold aS
  rw [ar_oth _ _ _ (by omega), ar_oth _ _ _ (by omega), ar_set _ _ _ (by omega) (by omega), ar_oth _ _ _ (by omega)]
theorem aS_3' (G : Grp) (v S : Nat) (c : Int32) : ar (aS G v S c) (v + 3) = up (ar G (v + 3)) S (-1) := by
  unfold aS
  rw [ar_oth _ _ _ (by omega), ar_set _ _ _ (by omega) (by omega), ar_oth _ _ _ (by omega), ar_oth _ _ _ (by omega)]
theorem aS_a (G : Grp) (v S : Nat) (c : Int32) {x : Nat} (h : x ≠ v ∧ x ≠ v + 1 ∧ x ≠ v + 2 ∧ x ≠ v + 3) : ar (aS G v S c) x = ar G x := by
  unfold aS
  rw [ar_oth _ _ _ (by omega), ar_oth _ _ _ (by omega), ar_oth _ _ _ (by omega), ar_oth _ _ _ (by omega)]
theorem oR_1 (G : Grp) (v S dp : Nat) : ar (oR G v S dp) (v + 1) = up (ar G (v + 1)) S 0 := by
  unfold oR
  rw [ar_oth _ _ _ (by omega), ar_oth _ _ _ (by omega), ar_oth _ _ _ (by omega), aS_1 _ _ _ (by omega) (by omega)]
theorem oR_2 (G : Grp) (v S dp : Nat) : ar (oR G v S dp) (v + 2) = up (ar G (v + 2)) S (-1) := by
  unfold oR
  rw [ar_oth _ _ _ (by omega), ar_oth _ _ _ (by omega), ar_oth _ _ _ (by omega), aS_2]
theorem oR_3' (G : Grp) (v S dp : Nat) : ar (oR G v S dp) (v + 3) = up (ar G (v + 3)) S (-1) := by
  unfold oR
  rw [ar_oth _ _ _ (by omega), ar_oth _ _ _ (by omega), ar_oth _ _ _ (by omega), aS_3']
theorem oR_9 (G : Grp) (v S dp : Nat) (hS : S < 408) : ar (oR G v S dp) (v + 9) = up (ar G (v + 9)) dp S := by
  unfold oR
  rw [ar_oth _ _ _ (by omega), ar_oth _ _ _ (by omega), ar_set _ _ _ (by omega) (by omega), aS_a _ _ _ _ (by omega)]
theorem oR_a (G : Grp) (v S dp : Nat) {x : Nat} (h : x ≠ v ∧ x ≠ v + 1 ∧ x ≠ v + 2 ∧ x ≠ v + 3 ∧ x ≠ v + 9) : ar (oR G v S dp) x = ar G x := by
  unfold oR
  rw [ar_oth _ _ _ (by omega), ar_oth _ _ _ (by omega), ar_oth _ _ _ (by omega), aS_a _ _ _ _ (by omega)]
theorem ci_n (k : Nat) (z : Int) (h : (k : Int) = z) : iI z = iI (k : Int) := by rw [h]
-- atom
theorem atG_ci (h : CI G v S n p dp tl it rp) (c : Int32) : CI (atG G v S tl c) v (S + 2) n p dp (S + 1) S 0 := by
  obtain ⟨h1, h2, h3, h4, h5, h6, h7, h8⟩ := h
  unfold CI atG
  simp (disch := omega) only [reduceIte, Nat.reduceEqDiff, Nat.reduceAdd, Nat.reduceSub, Nat.reduceMul, Nat.reduceLT, Int.reduceNeg, Int.reduceAdd, Int.reduceSub, Int.reduceMul, Int.reduceLT, Int.reduceLE, Int.reduceEq, Int.reduceToNat, reduceCtorEq, and_self, and_true, true_and, false_and, and_false, or_false, false_or, or_true, true_or, true_implies, false_implies, implies_true, not_true_eq_false, not_false_eq_true, Int.toNat_natCast, Int.cast_ofNat_Int, eq_self, ne_eq, ite_true, ite_false, if_true, if_false, Int.add_sub_cancel, Int.sub_add_cancel, Int.add_zero, Int.zero_add, cast_s, iI_in, iI_lit, iI_le, iI_lt, iI_eq, iI_cl, iI_add, iI_sub, iI_mul, iI_neg, iI_nI, ok_s, ok_ck, ok_bn, ok_ob, ck_iI, bn_eq, ob_s, om_n, om_s, cb_bI, gI_g, gI_2, gJ_1, gJ_g, gJ_2, gR_1, gR_2, gR_g, within_v, in_v, bI_i0, bI_i1, iI_bI0, iI_bI1, bI_T, bI_F, aS_3, aS_o, aS_r, va1, va2, va3, h2, h3, h4, h8]
theorem atG_1 (G : Grp) (v S tl : Nat) {c : Int} (h1 : -2147483648 ≤ c) (h2 : c < 2147483648) : ar (atG G v S tl (iI c)) (v + 1) = up (up (ar G (v + 1)) S c) (S + 1) 0 := by
  unfold atG
  rw [ar_oth _ _ _ (by omega), ar_oth _ _ _ (by omega), ar_oth _ _ _ (by omega), ar_oth _ _ _ (by omega), ar_oth _ _ _ (by omega), aS_1 _ _ _ (by omega) (by omega), aS_1 _ _ _ h1 h2]
theorem atG_2 (G : Grp) (v S tl : Nat) (c : Int32) (hS : S < 408) : ar (atG G v S tl c) (v + 2) = up (up (up (up (ar G (v + 2)) S (-1)) (S + 1) (-1)) tl S) S ((S : Int) + 1) := by
  unfold atG
  rw [ar_set _ _ _ (by omega) (by omega), ar_oth _ _ _ (by omega), ar_oth _ _ _ (by omega), ar_oth _ _ _ (by omega), ar_set _ _ _ (by omega) (by omega), aS_2, aS_2]
theorem atG_3 (G : Grp) (v S tl : Nat) (c : Int32) : ar (atG G v S tl c) (v + 3) = up (up (ar G (v + 3)) S (-1)) (S + 1) (-1) := by
  unfold atG
  rw [ar_oth _ _ _ (by omega), ar_oth _ _ _ (by omega), ar_oth _ _ _ (by omega), ar_oth _ _ _ (by omega), ar_oth _ _ _ (by omega), aS_3', aS_3']
theorem atG_a (G : Grp) (v S tl : Nat) (c : Int32) {x : Nat} (h : x = v + 4 ∨ x = v + 7 ∨ x = v + 8 ∨ x = v + 9) : ar (atG G v S tl c) x = ar G x := by
  unfold atG
  rw [ar_oth _ _ _ (by omega), ar_oth _ _ _ (by omega), ar_oth _ _ _ (by omega), ar_oth _ _ _ (by omega), ar_oth _ _ _ (by omega), aS_a _ _ _ _ (by omega), aS_a _ _ _ _ (by omega)]
theorem atG_o (G : Grp) (v S tl : Nat) (c : Int32) : OTR v G (atG G v S tl c) ∧ (atG G v S tl c).1 v 7 = G.1 v 7 := by
  unfold atG
  refine ⟨((((((OTRaS G S c).tr (OTRaS _ _ _)).tr (OTR.set _ _ (by omega) (by omega) (by omega) (by omega) (by omega))).tr (OTR.set _ _ (by omega) (by omega) (by omega) (by omega) (by omega))).tr (OTR.set _ _ (by omega) (by omega) (by omega) (by omega) (by omega))).tr (OTR.set _ _ (by omega) (by omega) (by omega) (by omega) (by omega))).tr (OTR.set _ _ (by omega) (by omega) (by omega) (by omega) (by omega)), ?_⟩
  simp (disch := omega) only [reduceIte, Nat.reduceEqDiff, Nat.reduceAdd, Nat.reduceSub, Nat.reduceMul, Nat.reduceLT, Int.reduceNeg, Int.reduceAdd, Int.reduceSub, Int.reduceMul, Int.reduceLT, Int.reduceLE, Int.reduceEq, Int.reduceToNat, reduceCtorEq, and_self, and_true, true_and, false_and, and_false, or_false, false_or, or_true, true_or, true_implies, false_implies, implies_true, not_true_eq_false, not_false_eq_true, Int.toNat_natCast, Int.cast_ofNat_Int, eq_self, ne_eq, ite_true, ite_false, if_true, if_false, Int.add_sub_cancel, Int.sub_add_cancel, Int.add_zero, Int.zero_add, cast_s, iI_in, iI_lit, iI_le, iI_lt, iI_eq, iI_cl, iI_add, iI_sub, iI_mul, iI_neg, iI_nI, ok_s, ok_ck, ok_bn, ok_ob, ck_iI, bn_eq, ob_s, om_n, om_s, cb_bI, gI_g, gI_2, gJ_1, gJ_g, gJ_2, gR_1, gR_2, gR_g, within_v, in_v, bI_i0, bI_i1, iI_bI0, iI_bI1, bI_T, bI_F, aS_3, aS_o, aS_r, va1, va2, va3]
-- (
theorem gO_ci (h : CI G v S n p dp tl it rp) : CI (gO G v S dp tl) v (S + 3) n p (dp + 1) (S + 2) (-1) rp := by
  obtain ⟨h1, h2, h3, h4, h5, h6, h7, h8⟩ := h
  unfold CI gO
  simp (disch := omega) only [reduceIte, Nat.reduceEqDiff, Nat.reduceAdd, Nat.reduceSub, Nat.reduceMul, Nat.reduceLT, Int.reduceNeg, Int.reduceAdd, Int.reduceSub, Int.reduceMul, Int.reduceLT, Int.reduceLE, Int.reduceEq, Int.reduceToNat, reduceCtorEq, and_self, and_true, true_and, false_and, and_false, or_false, false_or, or_true, true_or, true_implies, false_implies, implies_true, not_true_eq_false, not_false_eq_true, Int.toNat_natCast, Int.cast_ofNat_Int, eq_self, ne_eq, ite_true, ite_false, if_true, if_false, Int.add_sub_cancel, Int.sub_add_cancel, Int.add_zero, Int.zero_add, cast_s, iI_in, iI_lit, iI_le, iI_lt, iI_eq, iI_cl, iI_add, iI_sub, iI_mul, iI_neg, iI_nI, ok_s, ok_ck, ok_bn, ok_ob, ck_iI, bn_eq, ob_s, om_n, om_s, cb_bI, gI_g, gI_2, gJ_1, gJ_g, gJ_2, gR_1, gR_2, gR_g, within_v, in_v, bI_i0, bI_i1, iI_bI0, iI_bI1, bI_T, bI_F, aS_3, aS_o, aS_r, oR_3, oR_13, oR_14, oR_o, oR_r, va1, va2, va3, h2, h3, h4, h7, h8]
theorem gO_1 (G : Grp) (v S dp tl : Nat) : ar (gO G v S dp tl) (v + 1) = up (up (up (ar G (v + 1)) S 0) (S + 1) 0) (S + 2) 0 := by
  unfold gO
  rw [ar_oth _ _ _ (by omega), oR_1, ar_oth _ _ _ (by omega), aS_1 _ _ _ (by omega) (by omega), ar_oth _ _ _ (by omega), ar_oth _ _ _ (by omega), ar_oth _ _ _ (by omega), aS_1 _ _ _ (by omega) (by omega)]
theorem gO_2 (G : Grp) (v S dp tl : Nat) (hS : S < 408) : ar (gO G v S dp tl) (v + 2) = up (up (up (up (up (ar G (v + 2)) S (-1)) tl S) (S + 1) (-1)) (S + 2) (-1)) S ((S : Int) + 2) := by
  unfold gO
  rw [ar_set _ _ _ (by omega) (by omega), oR_2, ar_oth _ _ _ (by omega), aS_2, ar_oth _ _ _ (by omega), ar_oth _ _ _ (by omega), ar_set _ _ _ (by omega) (by omega), aS_2]
theorem gO_3 (G : Grp) (v S dp tl : Nat) : ar (gO G v S dp tl) (v + 3) = up (up (up (ar G (v + 3)) S (-1)) (S + 1) (-1)) (S + 2) (-1) := by
  unfold gO
  rw [ar_oth _ _ _ (by omega), oR_3', ar_oth _ _ _ (by omega), aS_3', ar_oth _ _ _ (by omega), ar_oth _ _ _ (by omega), ar_oth _ _ _ (by omega), aS_3']
theorem gO_7 (G : Grp) (v S dp tl : Nat) (hS : S < 408) : ar (gO G v S dp tl) (v + 7) = up (ar G (v + 7)) (dp + 1) S := by
  unfold gO
  rw [ar_oth _ _ _ (by omega), oR_a _ _ _ _ (by omega), ar_oth _ _ _ (by omega), aS_a _ _ _ _ (by omega), ar_set _ _ _ (by omega) (by omega), ar_oth _ _ _ (by omega), ar_oth _ _ _ (by omega), aS_a _ _ _ _ (by omega)]
theorem gO_8 (G : Grp) (v S dp tl : Nat) (hS : S < 408) : ar (gO G v S dp tl) (v + 8) = up (ar G (v + 8)) (dp + 1) ((S : Int) + 1) := by
  unfold gO
  rw [ar_oth _ _ _ (by omega), oR_a _ _ _ _ (by omega), ar_set _ _ _ (by omega) (by omega), aS_a _ _ _ _ (by omega), ar_oth _ _ _ (by omega), ar_oth _ _ _ (by omega), ar_oth _ _ _ (by omega), aS_a _ _ _ _ (by omega)]
theorem gO_9 (G : Grp) (v S dp tl : Nat) (hS : S + 2 < 408) : ar (gO G v S dp tl) (v + 9) = up (ar G (v + 9)) (dp + 1) ((S + 2 : Nat) : Int) := by
  unfold gO
  rw [ar_oth _ _ _ (by omega), oR_9 _ _ _ _ hS, ar_oth _ _ _ (by omega), aS_a _ _ _ _ (by omega), ar_oth _ _ _ (by omega), ar_oth _ _ _ (by omega), ar_oth _ _ _ (by omega), aS_a _ _ _ _ (by omega)]
theorem gO_4 (G : Grp) (v S dp tl : Nat) : ar (gO G v S dp tl) (v + 4) = ar G (v + 4) := by
  unfold gO
  rw [ar_oth _ _ _ (by omega), oR_a _ _ _ _ (by omega), ar_oth _ _ _ (by omega), aS_a _ _ _ _ (by omega), ar_oth _ _ _ (by omega), ar_oth _ _ _ (by omega), ar_oth _ _ _ (by omega), aS_a _ _ _ _ (by omega)]
theorem gO_o (G : Grp) (v S dp tl : Nat) : OTR v G (gO G v S dp tl) ∧ (gO G v S dp tl).1 v 7 = G.1 v 7 := by
  unfold gO
  refine ⟨(((((((OTRaS G S _).tr (OTR.set _ _ (by omega) (by omega) (by omega) (by omega) (by omega))).tr (OTR.set _ _ (by omega) (by omega) (by omega) (by omega) (by omega))).tr (OTR.set _ _ (by omega) (by omega) (by omega) (by omega) (by omega))).tr (OTRaS _ _ _)).tr (OTR.set _ _ (by omega) (by omega) (by omega) (by omega) (by omega))).tr (OTRoR _ _ _)).tr (OTR.set _ _ (by omega) (by omega) (by omega) (by omega) (by omega)), ?_⟩
  simp (disch := omega) only [reduceIte, Nat.reduceEqDiff, Nat.reduceAdd, Nat.reduceSub, Nat.reduceMul, Nat.reduceLT, Int.reduceNeg, Int.reduceAdd, Int.reduceSub, Int.reduceMul, Int.reduceLT, Int.reduceLE, Int.reduceEq, Int.reduceToNat, reduceCtorEq, and_self, and_true, true_and, false_and, and_false, or_false, false_or, or_true, true_or, true_implies, false_implies, implies_true, not_true_eq_false, not_false_eq_true, Int.toNat_natCast, Int.cast_ofNat_Int, eq_self, ne_eq, ite_true, ite_false, if_true, if_false, Int.add_sub_cancel, Int.sub_add_cancel, Int.add_zero, Int.zero_add, cast_s, iI_in, iI_lit, iI_le, iI_lt, iI_eq, iI_cl, iI_add, iI_sub, iI_mul, iI_neg, iI_nI, ok_s, ok_ck, ok_bn, ok_ob, ck_iI, bn_eq, ob_s, om_n, om_s, cb_bI, gI_g, gI_2, gJ_1, gJ_g, gJ_2, gR_1, gR_2, gR_g, within_v, in_v, bI_i0, bI_i1, iI_bI0, iI_bI1, bI_T, bI_F, aS_3, aS_o, aS_r, oR_o, va1, va2, va3]
-- )
theorem gC_ci (h : CI G v S n p (dp + 1) tl it rp) (ge gs : Nat) : CI (gC' G v (dp + 1) tl ge gs) v S n p dp ge gs 0 := by
  obtain ⟨h1, h2, h3, h4, h5, h6, h7, h8⟩ := h
  unfold CI gC'
  simp (disch := omega) only [reduceIte, Nat.reduceEqDiff, Nat.reduceAdd, Nat.reduceSub, Nat.reduceMul, Nat.reduceLT, Int.reduceNeg, Int.reduceAdd, Int.reduceSub, Int.reduceMul, Int.reduceLT, Int.reduceLE, Int.reduceEq, Int.reduceToNat, reduceCtorEq, and_self, and_true, true_and, false_and, and_false, or_false, false_or, or_true, true_or, true_implies, false_implies, implies_true, not_true_eq_false, not_false_eq_true, Int.toNat_natCast, Int.cast_ofNat_Int, eq_self, ne_eq, ite_true, ite_false, if_true, if_false, Int.add_sub_cancel, Int.sub_add_cancel, Int.add_zero, Int.zero_add, cast_s, iI_in, iI_lit, iI_le, iI_lt, iI_eq, iI_cl, iI_add, iI_sub, iI_mul, iI_neg, iI_nI, ok_s, ok_ck, ok_bn, ok_ob, ck_iI, bn_eq, ob_s, om_n, om_s, cb_bI, gI_g, gI_2, gJ_1, gJ_g, gJ_2, gR_1, gR_2, gR_g, within_v, in_v, bI_i0, bI_i1, iI_bI0, iI_bI1, bI_T, bI_F, va1, va2, va3, h1, h2, h3, h8]
theorem gC_2 (G : Grp) (v dp tl ge gs : Nat) (hg : ge < 408) : ar (gC' G v dp tl ge gs) (v + 2) = up (ar G (v + 2)) tl ge := by
  unfold gC'
  rw [ar_oth _ _ _ (by omega), ar_oth _ _ _ (by omega), ar_oth _ _ _ (by omega), ar_oth _ _ _ (by omega), ar_set _ _ _ (by omega) (by omega)]
theorem gC_a (G : Grp) (v dp tl ge gs : Nat) {x : Nat} (h : x ≠ v ∧ x ≠ v + 2) : ar (gC' G v dp tl ge gs) x = ar G x := by
  unfold gC'
  rw [ar_oth _ _ _ (by omega), ar_oth _ _ _ (by omega), ar_oth _ _ _ (by omega), ar_oth _ _ _ (by omega), ar_oth _ _ _ (by omega)]
theorem gC_o (G : Grp) (v dp tl ge gs : Nat) : OTR v G (gC' G v dp tl ge gs) ∧ (gC' G v dp tl ge gs).1 v 7 = G.1 v 7 := by
  unfold gC'
  refine ⟨((((OTR.set G _ (by omega) (by omega) (by omega) (by omega) (by omega)).tr (OTR.set _ _ (by omega) (by omega) (by omega) (by omega) (by omega))).tr (OTR.set _ _ (by omega) (by omega) (by omega) (by omega) (by omega))).tr (OTR.set _ _ (by omega) (by omega) (by omega) (by omega) (by omega))).tr (OTR.set _ _ (by omega) (by omega) (by omega) (by omega) (by omega)), ?_⟩
  simp (disch := omega) only [reduceIte, Nat.reduceEqDiff, Nat.reduceAdd, Nat.reduceSub, Nat.reduceMul, Nat.reduceLT, Int.reduceNeg, Int.reduceAdd, Int.reduceSub, Int.reduceMul, Int.reduceLT, Int.reduceLE, Int.reduceEq, Int.reduceToNat, reduceCtorEq, and_self, and_true, true_and, false_and, and_false, or_false, false_or, or_true, true_or, true_implies, false_implies, implies_true, not_true_eq_false, not_false_eq_true, Int.toNat_natCast, Int.cast_ofNat_Int, eq_self, ne_eq, ite_true, ite_false, if_true, if_false, Int.add_sub_cancel, Int.sub_add_cancel, Int.add_zero, Int.zero_add, cast_s, iI_in, iI_lit, iI_le, iI_lt, iI_eq, iI_cl, iI_add, iI_sub, iI_mul, iI_neg, iI_nI, ok_s, ok_ck, ok_bn, ok_ob, ck_iI, bn_eq, ob_s, om_n, om_s, cb_bI, gI_g, gI_2, gJ_1, gJ_g, gJ_2, gR_1, gR_2, gR_g, within_v, in_v, bI_i0, bI_i1, iI_bI0, iI_bI1, bI_T, bI_F, va1, va2, va3]
-- |
theorem rA_ci (h : CI G v S n p dp tl it rp) (ge rs : Nat) : CI (rA G v S dp tl ge rs) v (S + 1) n p dp S (-1) rp := by
  obtain ⟨h1, h2, h3, h4, h5, h6, h7, h8⟩ := h
  unfold CI rA
  simp (disch := omega) only [reduceIte, Nat.reduceEqDiff, Nat.reduceAdd, Nat.reduceSub, Nat.reduceMul, Nat.reduceLT, Int.reduceNeg, Int.reduceAdd, Int.reduceSub, Int.reduceMul, Int.reduceLT, Int.reduceLE, Int.reduceEq, Int.reduceToNat, reduceCtorEq, and_self, and_true, true_and, false_and, and_false, or_false, false_or, or_true, true_or, true_implies, false_implies, implies_true, not_true_eq_false, not_false_eq_true, Int.toNat_natCast, Int.cast_ofNat_Int, eq_self, ne_eq, ite_true, ite_false, if_true, if_false, Int.add_sub_cancel, Int.sub_add_cancel, Int.add_zero, Int.zero_add, cast_s, iI_in, iI_lit, iI_le, iI_lt, iI_eq, iI_cl, iI_add, iI_sub, iI_mul, iI_neg, iI_nI, ok_s, ok_ck, ok_bn, ok_ob, ck_iI, bn_eq, ob_s, om_n, om_s, cb_bI, gI_g, gI_2, gJ_1, gJ_g, gJ_2, gR_1, gR_2, gR_g, within_v, in_v, bI_i0, bI_i1, iI_bI0, iI_bI1, bI_T, bI_F, oR_3, oR_13, oR_14, oR_o, oR_r, va1, va2, va3, h2, h3, h4, h7, h8]
theorem rA_1 (G : Grp) (v S dp tl ge rs : Nat) : ar (rA G v S dp tl ge rs) (v + 1) = up (ar G (v + 1)) S 0 := by
  unfold rA
  rw [ar_oth _ _ _ (by omega), oR_1, ar_oth _ _ _ (by omega)]
theorem rA_2 (G : Grp) (v S dp tl ge rs : Nat) (hg : ge < 408) : ar (rA G v S dp tl ge rs) (v + 2) = up (up (ar G (v + 2)) tl ge) S (-1) := by
  unfold rA
  rw [ar_oth _ _ _ (by omega), oR_2, ar_set _ _ _ (by omega) (by omega)]
theorem rA_3 (G : Grp) (v S dp tl ge rs : Nat) (hS : S < 408) : ar (rA G v S dp tl ge rs) (v + 3) = up (up (ar G (v + 3)) S (-1)) rs S := by
  unfold rA
  rw [ar_set _ _ _ (by omega) (by omega), oR_3', ar_oth _ _ _ (by omega)]
theorem rA_9 (G : Grp) (v S dp tl ge rs : Nat) (hS : S < 408) : ar (rA G v S dp tl ge rs) (v + 9) = up (ar G (v + 9)) dp S := by
  unfold rA
  rw [ar_oth _ _ _ (by omega), oR_9 _ _ _ _ hS, ar_oth _ _ _ (by omega)]
theorem rA_a (G : Grp) (v S dp tl ge rs : Nat) {x : Nat} (h : x = v + 4 ∨ x = v + 7 ∨ x = v + 8) : ar (rA G v S dp tl ge rs) x = ar G x := by
  unfold rA
  rw [ar_oth _ _ _ (by omega), oR_a _ _ _ _ (by omega), ar_oth _ _ _ (by omega)]
theorem rA_o (G : Grp) (v S dp tl ge rs : Nat) : OTR v G (rA G v S dp tl ge rs) ∧ (rA G v S dp tl ge rs).1 v 7 = G.1 v 7 := by
  unfold rA
  refine ⟨((OTR.set G _ (by omega) (by omega) (by omega) (by omega) (by omega)).tr (OTRoR _ _ _)).tr (OTR.set _ _ (by omega) (by omega) (by omega) (by omega) (by omega)), ?_⟩
  simp (disch := omega) only [reduceIte, Nat.reduceEqDiff, Nat.reduceAdd, Nat.reduceSub, Nat.reduceMul, Nat.reduceLT, Int.reduceNeg, Int.reduceAdd, Int.reduceSub, Int.reduceMul, Int.reduceLT, Int.reduceLE, Int.reduceEq, Int.reduceToNat, reduceCtorEq, and_self, and_true, true_and, false_and, and_false, or_false, false_or, or_true, true_or, true_implies, false_implies, implies_true, not_true_eq_false, not_false_eq_true, Int.toNat_natCast, Int.cast_ofNat_Int, eq_self, ne_eq, ite_true, ite_false, if_true, if_false, Int.add_sub_cancel, Int.sub_add_cancel, Int.add_zero, Int.zero_add, cast_s, iI_in, iI_lit, iI_le, iI_lt, iI_eq, iI_cl, iI_add, iI_sub, iI_mul, iI_neg, iI_nI, ok_s, ok_ck, ok_bn, ok_ob, ck_iI, bn_eq, ob_s, om_n, om_s, cb_bI, gI_g, gI_2, gJ_1, gJ_g, gJ_2, gR_1, gR_2, gR_g, within_v, in_v, bI_i0, bI_i1, iI_bI0, iI_bI1, bI_T, bI_F, oR_o, va1, va2, va3]
-- * + ?
theorem rP_ci (h : CI G v S n p dp tl it rp) (jt : Nat) (c : Int) : CI (rP G v tl jt c) v S n p dp tl it 1 := by
  obtain ⟨h1, h2, h3, h4, h5, h6, h7, h8⟩ := h
  unfold CI rP
  by_cases c1 : c = 42
  · skip
    simp (disch := omega) only [reduceIte, Nat.reduceEqDiff, Nat.reduceAdd, Nat.reduceSub, Nat.reduceMul, Nat.reduceLT, Int.reduceNeg, Int.reduceAdd, Int.reduceSub, Int.reduceMul, Int.reduceLT, Int.reduceLE, Int.reduceEq, Int.reduceToNat, reduceCtorEq, and_self, and_true, true_and, false_and, and_false, or_false, false_or, or_true, true_or, true_implies, false_implies, implies_true, not_true_eq_false, not_false_eq_true, Int.toNat_natCast, Int.cast_ofNat_Int, eq_self, ne_eq, ite_true, ite_false, if_true, if_false, Int.add_sub_cancel, Int.sub_add_cancel, Int.add_zero, Int.zero_add, cast_s, iI_in, iI_lit, iI_le, iI_lt, iI_eq, iI_cl, iI_add, iI_sub, iI_mul, iI_neg, iI_nI, ok_s, ok_ck, ok_bn, ok_ob, ck_iI, bn_eq, ob_s, om_n, om_s, cb_bI, gI_g, gI_2, gJ_1, gJ_g, gJ_2, gR_1, gR_2, gR_g, within_v, in_v, bI_i0, bI_i1, iI_bI0, iI_bI1, bI_T, bI_F, va1, va2, va3, h1, h2, h3, h4, h5, h6, h8, c1]
  · by_cases c2 : c = 43
    · skip
      simp (disch := omega) only [reduceIte, Nat.reduceEqDiff, Nat.reduceAdd, Nat.reduceSub, Nat.reduceMul, Nat.reduceLT, Int.reduceNeg, Int.reduceAdd, Int.reduceSub, Int.reduceMul, Int.reduceLT, Int.reduceLE, Int.reduceEq, Int.reduceToNat, reduceCtorEq, and_self, and_true, true_and, false_and, and_false, or_false, false_or, or_true, true_or, true_implies, false_implies, implies_true, not_true_eq_false, not_false_eq_true, Int.toNat_natCast, Int.cast_ofNat_Int, eq_self, ne_eq, ite_true, ite_false, if_true, if_false, Int.add_sub_cancel, Int.sub_add_cancel, Int.add_zero, Int.zero_add, cast_s, iI_in, iI_lit, iI_le, iI_lt, iI_eq, iI_cl, iI_add, iI_sub, iI_mul, iI_neg, iI_nI, ok_s, ok_ck, ok_bn, ok_ob, ck_iI, bn_eq, ob_s, om_n, om_s, cb_bI, gI_g, gI_2, gJ_1, gJ_g, gJ_2, gR_1, gR_2, gR_g, within_v, in_v, bI_i0, bI_i1, iI_bI0, iI_bI1, bI_T, bI_F, va1, va2, va3, h1, h2, h3, h4, h5, h6, h8, c2]
    · skip
      simp (disch := omega) only [reduceIte, Nat.reduceEqDiff, Nat.reduceAdd, Nat.reduceSub, Nat.reduceMul, Nat.reduceLT, Int.reduceNeg, Int.reduceAdd, Int.reduceSub, Int.reduceMul, Int.reduceLT, Int.reduceLE, Int.reduceEq, Int.reduceToNat, reduceCtorEq, and_self, and_true, true_and, false_and, and_false, or_false, false_or, or_true, true_or, true_implies, false_implies, implies_true, not_true_eq_false, not_false_eq_true, Int.toNat_natCast, Int.cast_ofNat_Int, eq_self, ne_eq, ite_true, ite_false, if_true, if_false, Int.add_sub_cancel, Int.sub_add_cancel, Int.add_zero, Int.zero_add, cast_s, iI_in, iI_lit, iI_le, iI_lt, iI_eq, iI_cl, iI_add, iI_sub, iI_mul, iI_neg, iI_nI, ok_s, ok_ck, ok_bn, ok_ob, ck_iI, bn_eq, ob_s, om_n, om_s, cb_bI, gI_g, gI_2, gJ_1, gJ_g, gJ_2, gR_1, gR_2, gR_g, within_v, in_v, bI_i0, bI_i1, iI_bI0, iI_bI1, bI_T, bI_F, va1, va2, va3, h1, h2, h3, h4, h5, h6, h8, c1, c2]
theorem rP_3 (G : Grp) (v tl jt : Nat) (c : Int) (h1 : tl < 408) (h2 : jt < 408) : ar (rP G v tl jt c) (v + 3) = if c = 42 then up (up (ar G (v + 3)) jt tl) tl jt else if c = 43 then up (ar G (v + 3)) tl jt else up (ar G (v + 3)) jt tl := by
  unfold rP
  rw [ar_oth _ _ _ (by omega)]
  by_cases c1 : c = 42
  · rw [if_pos c1, if_pos c1, ar_set _ _ _ (by omega) (by omega), ar_set _ _ _ (by omega) (by omega)]
  · rw [if_neg c1, if_neg c1]
    by_cases c2 : c = 43
    · rw [if_pos c2, if_pos c2, ar_set _ _ _ (by omega) (by omega)]
    · rw [if_neg c2, if_neg c2, ar_set _ _ _ (by omega) (by omega)]
theorem rP_a (G : Grp) (v tl jt : Nat) (c : Int) {x : Nat} (h : x ≠ v ∧ x ≠ v + 3) : ar (rP G v tl jt c) x = ar G x := by
  unfold rP
  rw [ar_oth _ _ _ (by omega)]
  by_cases c1 : c = 42
  · rw [if_pos c1, ar_oth _ _ _ (by omega), ar_oth _ _ _ (by omega)]
  · rw [if_neg c1]
    by_cases c2 : c = 43
    · rw [if_pos c2, ar_oth _ _ _ (by omega)]
    · rw [if_neg c2, ar_oth _ _ _ (by omega)]
theorem rP_o (G : Grp) (v tl jt : Nat) (c : Int) : OTR v G (rP G v tl jt c) ∧ (rP G v tl jt c).1 v 7 = G.1 v 7 := by
  unfold rP
  by_cases c1 : c = 42
  · rw [if_pos c1]
    refine ⟨((OTR.set G _ (by omega) (by omega) (by omega) (by omega) (by omega)).tr (OTR.set _ _ (by omega) (by omega) (by omega) (by omega) (by omega))).tr (OTR.set _ _ (by omega) (by omega) (by omega) (by omega) (by omega)), ?_⟩
    simp (disch := omega) only [reduceIte, Nat.reduceEqDiff, Nat.reduceAdd, Nat.reduceSub, Nat.reduceMul, Nat.reduceLT, Int.reduceNeg, Int.reduceAdd, Int.reduceSub, Int.reduceMul, Int.reduceLT, Int.reduceLE, Int.reduceEq, Int.reduceToNat, reduceCtorEq, and_self, and_true, true_and, false_and, and_false, or_false, false_or, or_true, true_or, true_implies, false_implies, implies_true, not_true_eq_false, not_false_eq_true, Int.toNat_natCast, Int.cast_ofNat_Int, eq_self, ne_eq, ite_true, ite_false, if_true, if_false, Int.add_sub_cancel, Int.sub_add_cancel, Int.add_zero, Int.zero_add, cast_s, iI_in, iI_lit, iI_le, iI_lt, iI_eq, iI_cl, iI_add, iI_sub, iI_mul, iI_neg, iI_nI, ok_s, ok_ck, ok_bn, ok_ob, ck_iI, bn_eq, ob_s, om_n, om_s, cb_bI, gI_g, gI_2, gJ_1, gJ_g, gJ_2, gR_1, gR_2, gR_g, within_v, in_v, bI_i0, bI_i1, iI_bI0, iI_bI1, bI_T, bI_F, va1, va2, va3]
  · rw [if_neg c1]
    by_cases c2 : c = 43
    · rw [if_pos c2]
      refine ⟨(OTR.set G _ (by omega) (by omega) (by omega) (by omega) (by omega)).tr (OTR.set _ _ (by omega) (by omega) (by omega) (by omega) (by omega)), ?_⟩
      simp (disch := omega) only [reduceIte, Nat.reduceEqDiff, Nat.reduceAdd, Nat.reduceSub, Nat.reduceMul, Nat.reduceLT, Int.reduceNeg, Int.reduceAdd, Int.reduceSub, Int.reduceMul, Int.reduceLT, Int.reduceLE, Int.reduceEq, Int.reduceToNat, reduceCtorEq, and_self, and_true, true_and, false_and, and_false, or_false, false_or, or_true, true_or, true_implies, false_implies, implies_true, not_true_eq_false, not_false_eq_true, Int.toNat_natCast, Int.cast_ofNat_Int, eq_self, ne_eq, ite_true, ite_false, if_true, if_false, Int.add_sub_cancel, Int.sub_add_cancel, Int.add_zero, Int.zero_add, cast_s, iI_in, iI_lit, iI_le, iI_lt, iI_eq, iI_cl, iI_add, iI_sub, iI_mul, iI_neg, iI_nI, ok_s, ok_ck, ok_bn, ok_ob, ck_iI, bn_eq, ob_s, om_n, om_s, cb_bI, gI_g, gI_2, gJ_1, gJ_g, gJ_2, gR_1, gR_2, gR_g, within_v, in_v, bI_i0, bI_i1, iI_bI0, iI_bI1, bI_T, bI_F, va1, va2, va3]
    · rw [if_neg c2]
      refine ⟨(OTR.set G _ (by omega) (by omega) (by omega) (by omega) (by omega)).tr (OTR.set _ _ (by omega) (by omega) (by omega) (by omega) (by omega)), ?_⟩
      simp (disch := omega) only [reduceIte, Nat.reduceEqDiff, Nat.reduceAdd, Nat.reduceSub, Nat.reduceMul, Nat.reduceLT, Int.reduceNeg, Int.reduceAdd, Int.reduceSub, Int.reduceMul, Int.reduceLT, Int.reduceLE, Int.reduceEq, Int.reduceToNat, reduceCtorEq, and_self, and_true, true_and, false_and, and_false, or_false, false_or, or_true, true_or, true_implies, false_implies, implies_true, not_true_eq_false, not_false_eq_true, Int.toNat_natCast, Int.cast_ofNat_Int, eq_self, ne_eq, ite_true, ite_false, if_true, if_false, Int.add_sub_cancel, Int.sub_add_cancel, Int.add_zero, Int.zero_add, cast_s, iI_in, iI_lit, iI_le, iI_lt, iI_eq, iI_cl, iI_add, iI_sub, iI_mul, iI_neg, iI_nI, ok_s, ok_ck, ok_bn, ok_ob, ck_iI, bn_eq, ob_s, om_n, om_s, cb_bI, gI_g, gI_2, gJ_1, gJ_g, gJ_2, gR_1, gR_2, gR_g, within_v, in_v, bI_i0, bI_i1, iI_bI0, iI_bI1, bI_T, bI_F, va1, va2, va3]
-- a pattern begins
theorem oP_ci {sz : Nat} (h : CI G v S n p dp tl it rp) : CI (oP G v S sz) v (S + 2) n p 0 (S + 1) (-1) rp ∧ (oP G v S sz).1 v 7 = iI ((sz + 1 : Nat) : Int) := by
  obtain ⟨h1, h2, h3, h4, h5, h6, h7, h8⟩ := h
  unfold CI oP
  simp (disch := omega) only [reduceIte, Nat.reduceEqDiff, Nat.reduceAdd, Nat.reduceSub, Nat.reduceMul, Nat.reduceLT, Int.reduceNeg, Int.reduceAdd, Int.reduceSub, Int.reduceMul, Int.reduceLT, Int.reduceLE, Int.reduceEq, Int.reduceToNat, reduceCtorEq, and_self, and_true, true_and, false_and, and_false, or_false, false_or, or_true, true_or, true_implies, false_implies, implies_true, not_true_eq_false, not_false_eq_true, Int.toNat_natCast, Int.cast_ofNat_Int, eq_self, ne_eq, ite_true, ite_false, if_true, if_false, Int.add_sub_cancel, Int.sub_add_cancel, Int.add_zero, Int.zero_add, cast_s, iI_in, iI_lit, iI_le, iI_lt, iI_eq, iI_cl, iI_add, iI_sub, iI_mul, iI_neg, iI_nI, ok_s, ok_ck, ok_bn, ok_ob, ck_iI, bn_eq, ob_s, om_n, om_s, cb_bI, gI_g, gI_2, gJ_1, gJ_g, gJ_2, gR_1, gR_2, gR_g, within_v, in_v, bI_i0, bI_i1, iI_bI0, iI_bI1, bI_T, bI_F, aS_3, aS_o, aS_r, oR_3, oR_13, oR_14, oR_o, oR_r, va1, va2, va3, h2, h3, h4, h7, h8]
theorem oP_1 (G : Grp) (v S sz : Nat) : ar (oP G v S sz) (v + 1) = up (up (ar G (v + 1)) S 1) (S + 1) 0 := by
  unfold oP
  rw [ar_oth _ _ _ (by omega), ar_oth _ _ _ (by omega), oR_1, ar_oth _ _ _ (by omega), aS_1 _ _ _ (by omega) (by omega), ar_oth _ _ _ (by omega)]
theorem oP_2 (G : Grp) (v S sz : Nat) : ar (oP G v S sz) (v + 2) = up (up (ar G (v + 2)) S (-1)) (S + 1) (-1) := by
  unfold oP
  rw [ar_oth _ _ _ (by omega), ar_oth _ _ _ (by omega), oR_2, ar_oth _ _ _ (by omega), aS_2, ar_oth _ _ _ (by omega)]
theorem oP_3 (G : Grp) (v S sz : Nat) : ar (oP G v S sz) (v + 3) = up (up (ar G (v + 3)) S (-1)) (S + 1) (-1) := by
  unfold oP
  rw [ar_oth _ _ _ (by omega), ar_oth _ _ _ (by omega), oR_3', ar_oth _ _ _ (by omega), aS_3', ar_oth _ _ _ (by omega)]
theorem oP_4 (G : Grp) (v S sz : Nat) (hS : S < 406) : ar (oP G v S sz) (v + 4) = up (ar G (v + 4)) sz ((S : Int) + 1) := by
  unfold oP
  rw [ar_oth _ _ _ (by omega), ar_set _ _ _ (by omega) (by omega), oR_a _ _ _ _ (by omega), ar_oth _ _ _ (by omega), aS_a _ _ _ _ (by omega), ar_oth _ _ _ (by omega)]
theorem oP_8 (G : Grp) (v S sz : Nat) (hS : S < 408) : ar (oP G v S sz) (v + 8) = up (ar G (v + 8)) 0 S := by
  unfold oP
  rw [ar_oth _ _ _ (by omega), ar_oth _ _ _ (by omega), oR_a _ _ _ _ (by omega), ar_set _ _ _ (by omega) (by omega), aS_a _ _ _ _ (by omega), ar_oth _ _ _ (by omega)]
theorem oP_9 (G : Grp) (v S sz : Nat) (hS : S + 1 < 408) : ar (oP G v S sz) (v + 9) = up (ar G (v + 9)) 0 ((S + 1 : Nat) : Int) := by
  unfold oP
  rw [ar_oth _ _ _ (by omega), ar_oth _ _ _ (by omega), oR_9 _ _ _ _ hS, ar_oth _ _ _ (by omega), aS_a _ _ _ _ (by omega), ar_oth _ _ _ (by omega)]
theorem oP_o (G : Grp) (v S sz : Nat) : OTR v G (oP G v S sz) := by
  unfold oP
  exact (((((OTR.set G _ (by omega) (by omega) (by omega) (by omega) (by omega)).tr (OTRaS _ _ _)).tr (OTR.set _ _ (by omega) (by omega) (by omega) (by omega) (by omega))).tr (OTRoR _ _ _)).tr (OTR.set _ _ (by omega) (by omega) (by omega) (by omega) (by omega))).tr (OTR.set _ _ (by omega) (by omega) (by omega) (by omega) (by omega))
end PR
