/-! a rule, and all of them -/
def RULE (g : Gr) (P : Pr) (cnt lo hi q : Nat) : Prop := lo + 1 < hi ∧ q < cnt ∧ g.1 lo = 1 ∧ KDR g lo hi ∧ ∃ m rs t pk, alts g m hi lo rs t pk P cnt ∧ altq P cnt q 0 m pk
theorem alts.to {g g' : Gr} {m hi ge : Nat} {rs t pk : Nat → Nat} {P P' : Pr} {cnt cnt' : Nat} (h : alts g m hi ge rs t pk P cnt) (ha : sam g g' ge hi) (hp : agp P P' cnt) (hc : cnt ≤ cnt') : alts g' m hi ge rs t pk P' cnt' := by
  obtain ⟨h0, h1, h2, h3, h4, h5, h6⟩ := h
  have lt1 : ∀ r, r < m → rs r < rs (r + 1) := fun r hr => by have := (h1 r hr).1; have a1 := this.1; have a2 := this.2.1; omega
  have mon := rs_mon lt1
  have hmh : rs m < hi := by have a1 := h2.1; have a2 := h2.2.1; omega
  have m0 := mon m (Nat.le_refl _) 0 (by omega)
  have ag := ha ge (Nat.le_refl _) (by omega)
  refine ⟨h0, fun r hr => ?_, h2.to (ha.sub (by omega) (Nat.le_refl _)), h3.to (ha.sub (by omega) (Nat.le_refl _)).agr hp hc, by omega, ag.2.1 ▸ h5, ag.2.2 ▸ h6⟩
  have b1 := mon m (Nat.le_refl _) (r + 1) (by omega)
  have b2 := mon r (by omega) 0 (by omega)
  obtain ⟨z1, z2, z3⟩ := h1 r hr
  exact ⟨z1.to (ha.sub (by omega) (by omega)), z2.to (ha.sub (by omega) (by omega)).agr hp hc, by omega⟩
theorem altq.to {P P' : Pr} {cnt cnt' q lo m : Nat} {pk : Nat → Nat} (h : altq P cnt q lo m pk) (hp : agp P P' cnt) (hc : cnt ≤ cnt') : altq P' cnt' q lo m pk := fun n tk bd E ht he => h n tk bd E ht (eqs_less hp hc he)
theorem RULE.to {g g' : Gr} {P P' : Pr} {cnt cnt' lo hi q : Nat} (h : RULE g P cnt lo hi q) (ha : sam g g' lo hi) (hp : agp P P' cnt) (hc : cnt ≤ cnt') : RULE g' P' cnt' lo hi q := by
  obtain ⟨h1, h2, h3, h4, m, rs, t, pk, h5, h6⟩ := h
  exact ⟨h1, by omega, (ha lo (Nat.le_refl _) (by omega)).1 ▸ h3, fun x z1 z2 => by rw [← (ha x (by omega) z2).1]; exact h4 x z1 z2, m, rs, t, pk, h5.to ha hp hc, h6.to hp hc⟩
/-- what is done, in both -/
def DOE (d h : Int32) (dc : Int) : Prop := ((dc = 99 ∨ dc = 104 ∨ dc = 114) ∧ d = iI dc ∧ h = iI 0) ∨ (∃ k : Nat, k < 8 ∧ dc = k ∧ d = iI 110 ∧ h = iI ((2 ^ k : Nat) : Int))
/-- between two rules -/
def RUS (G4 G28 : Grp) (v n p r S cnt : Nat) (gl rt : Nat → Nat) (dc : Nat → Int) : Prop :=
  G4.1 v 3 = iI S ∧ G4.1 v 7 = iI r ∧ G4.1 v 9 = iI n ∧ G4.2.2 v 8 = some 1 ∧ (G28.1 91 22 = iI n ∧ G28.1 91 39 = iI cnt ∧ G28.1 91 40 = iI r) ∧ wfp (prt G28) cnt ∧ gl 0 = 0 ∧ gl r = S ∧
  (∀ i, i < r → RULE (gph G4 v) (prt G28) cnt (gl i) (gl (i + 1)) (rt i) ∧ ar G4 (v + 4) i = ((gl i + 1 : Nat) : Int) ∧ DOE (G4.1 (v + 5) i) (G4.1 (v + 6) i) (dc i) ∧ G28.1 117 i = iI (dc i) ∧ G28.1 118 i = iI (rt i)) ∧ (S ≤ 2 * p ∧ cnt ≤ 2 * p ∧ p ≤ n)
section PR
variable {F v n p : Nat} {G3 G27 G4 G28 : Grp} {b : Nat → Nat}
theorem sign_cx (ht : TPE G3 G27 n b) (h1 : G4.1 v 9 = iI n) (h2 : G4.1 v 10 = iI p) (h3 : G4.2.2 v 8 = some 1) (hp : p ≤ 240) : f_X7_sign F G3 G4 v = some (iI (if p < n then (b p : Int) else -1)) := by
  obtain ⟨t1, t2, t3, t4⟩ := ht
  by_cases c : p < n
  · have e1 : ¬ (n : Int) ≤ p := by omega
    have w := (t3 p c).1
    rw [if_pos c]
    simp (disch := omega) only [reduceIte, Nat.reduceEqDiff, Nat.reduceAdd, Nat.reduceSub, Nat.reduceMul, Nat.reduceLT, Int.reduceNeg, Int.reduceAdd, Int.reduceSub, Int.reduceMul, Int.reduceLT, Int.reduceLE, Int.reduceEq, Int.reduceToNat, reduceCtorEq, and_self, and_true, true_and, false_and, and_false, or_false, false_or, or_true, true_or, true_implies, false_implies, implies_true, not_true_eq_false, not_false_eq_true, Int.toNat_natCast, Int.cast_ofNat_Int, eq_self, ne_eq, ite_true, ite_false, if_true, if_false, Int.add_sub_cancel, Int.sub_add_cancel, Int.add_zero, Int.zero_add, cast_s, iI_in, iI_lit, iI_le, iI_lt, iI_eq, iI_cl, iI_add, iI_sub, iI_mul, iI_neg, iI_nI, ok_s, ok_ck, ok_bn, ok_ob, ck_iI, bn_eq, ob_s, om_n, om_s, cb_bI, gI_g, gI_2, gJ_1, gJ_g, gJ_2, gR_1, gR_2, gR_g, within_v, in_v, bI_i0, bI_i1, iI_bI0, iI_bI1, bI_T, bI_F, f_X7_sign, h1, h2, h3, t2, e1, w, Option.getD_some]
  · have e1 : (n : Int) ≤ p := by omega
    rw [if_neg c]
    simp (disch := omega) only [reduceIte, Nat.reduceEqDiff, Nat.reduceAdd, Nat.reduceSub, Nat.reduceMul, Nat.reduceLT, Int.reduceNeg, Int.reduceAdd, Int.reduceSub, Int.reduceMul, Int.reduceLT, Int.reduceLE, Int.reduceEq, Int.reduceToNat, reduceCtorEq, and_self, and_true, true_and, false_and, and_false, or_false, false_or, or_true, true_or, true_implies, false_implies, implies_true, not_true_eq_false, not_false_eq_true, Int.toNat_natCast, Int.cast_ofNat_Int, eq_self, ne_eq, ite_true, ite_false, if_true, if_false, Int.add_sub_cancel, Int.sub_add_cancel, Int.add_zero, Int.zero_add, cast_s, iI_in, iI_lit, iI_le, iI_lt, iI_eq, iI_cl, iI_add, iI_sub, iI_mul, iI_neg, iI_nI, ok_s, ok_ck, ok_bn, ok_ob, ck_iI, bn_eq, ob_s, om_n, om_s, cb_bI, gI_g, gI_2, gJ_1, gJ_g, gJ_2, gR_1, gR_2, gR_g, within_v, in_v, bI_i0, bI_i1, iI_bI0, iI_bI1, bI_T, bI_F, f_X7_sign, h1, h2, e1]
theorem sign_mx (ht : TPE G3 G27 n b) (h1 : G28.1 91 22 = iI n) (h2 : G28.1 91 21 = iI p) (hp : p ≤ 240) : f_X12_sign F G27 G28 = some (iI (if p < n then (b p : Int) else 0)) := by
  obtain ⟨t1, t2, t3, t4⟩ := id ht
  by_cases c : p < n
  · have e1 : ¬ (n : Int) ≤ p := by omega
    have e2 : iI (sg8 (b p)) &&& iI 255 = iI (b p : Int) := by
      have hd : ∀ b : Nat, b < 256 → iI (sg8 b) &&& iI 255 = iI (b : Int) := by decide +kernel
      exact hd _ (t4 p)
    have w := (t3 p c).2
    rw [if_pos c]
    simp (disch := omega) only [reduceIte, Nat.reduceEqDiff, Nat.reduceAdd, Nat.reduceSub, Nat.reduceMul, Nat.reduceLT, Int.reduceNeg, Int.reduceAdd, Int.reduceSub, Int.reduceMul, Int.reduceLT, Int.reduceLE, Int.reduceEq, Int.reduceToNat, reduceCtorEq, and_self, and_true, true_and, false_and, and_false, or_false, false_or, or_true, true_or, true_implies, false_implies, implies_true, not_true_eq_false, not_false_eq_true, Int.toNat_natCast, Int.cast_ofNat_Int, eq_self, ne_eq, ite_true, ite_false, if_true, if_false, Int.add_sub_cancel, Int.sub_add_cancel, Int.add_zero, Int.zero_add, cast_s, iI_in, iI_lit, iI_le, iI_lt, iI_eq, iI_cl, iI_add, iI_sub, iI_mul, iI_neg, iI_nI, ok_s, ok_ck, ok_bn, ok_ob, ck_iI, bn_eq, ob_s, om_n, om_s, cb_bI, gI_g, gI_2, gJ_1, gJ_g, gJ_2, gR_1, gR_2, gR_g, within_v, in_v, bI_i0, bI_i1, iI_bI0, iI_bI1, bI_T, bI_F, f_X12_sign, h1, h2, w, e1, e2]
  · have e1 : (n : Int) ≤ p := by omega
    rw [if_neg c]
    simp (disch := omega) only [reduceIte, Nat.reduceEqDiff, Nat.reduceAdd, Nat.reduceSub, Nat.reduceMul, Nat.reduceLT, Int.reduceNeg, Int.reduceAdd, Int.reduceSub, Int.reduceMul, Int.reduceLT, Int.reduceLE, Int.reduceEq, Int.reduceToNat, reduceCtorEq, and_self, and_true, true_and, false_and, and_false, or_false, false_or, or_true, true_or, true_implies, false_implies, implies_true, not_true_eq_false, not_false_eq_true, Int.toNat_natCast, Int.cast_ofNat_Int, eq_self, ne_eq, ite_true, ite_false, if_true, if_false, Int.add_sub_cancel, Int.sub_add_cancel, Int.add_zero, Int.zero_add, cast_s, iI_in, iI_lit, iI_le, iI_lt, iI_eq, iI_cl, iI_add, iI_sub, iI_mul, iI_neg, iI_nI, ok_s, ok_ck, ok_bn, ok_ob, ck_iI, bn_eq, ob_s, om_n, om_s, cb_bI, gI_g, gI_2, gJ_1, gJ_g, gJ_2, gR_1, gR_2, gR_g, within_v, in_v, bI_i0, bI_i1, iI_bI0, iI_bI1, bI_T, bI_F, f_X12_sign, h1, h2, e1]
theorem refuse_x (h2 : G4.1 v 10 = iI p) (k : Int) : f_X7_refuse F G4 v (iI k) = some (iI 0, gI G4 v 11 (iI (1000 * k + p))) := by
  simp (disch := omega) only [reduceIte, Nat.reduceEqDiff, Nat.reduceAdd, Nat.reduceSub, Nat.reduceMul, Nat.reduceLT, Int.reduceNeg, Int.reduceAdd, Int.reduceSub, Int.reduceMul, Int.reduceLT, Int.reduceLE, Int.reduceEq, Int.reduceToNat, reduceCtorEq, and_self, and_true, true_and, false_and, and_false, or_false, false_or, or_true, true_or, true_implies, false_implies, implies_true, not_true_eq_false, not_false_eq_true, Int.toNat_natCast, Int.cast_ofNat_Int, eq_self, ne_eq, ite_true, ite_false, if_true, if_false, Int.add_sub_cancel, Int.sub_add_cancel, Int.add_zero, Int.zero_add, cast_s, iI_in, iI_lit, iI_le, iI_lt, iI_eq, iI_cl, iI_add, iI_sub, iI_mul, iI_neg, iI_nI, ok_s, ok_ck, ok_bn, ok_ob, ck_iI, bn_eq, ob_s, om_n, om_s, cb_bI, gI_g, gI_2, gJ_1, gJ_g, gJ_2, gR_1, gR_2, gR_g, within_v, in_v, bI_i0, bI_i1, iI_bI0, iI_bI1, bI_T, bI_F, f_X7_refuse, h2]
theorem wrong_x (h2 : G28.1 91 21 = iI p) (k : Int) : f_X12_wrong F G28 (iI k) = some (iI 0, gI G28 91 23 (iI (1000 * k + p))) := by
  simp (disch := omega) only [reduceIte, Nat.reduceEqDiff, Nat.reduceAdd, Nat.reduceSub, Nat.reduceMul, Nat.reduceLT, Int.reduceNeg, Int.reduceAdd, Int.reduceSub, Int.reduceMul, Int.reduceLT, Int.reduceLE, Int.reduceEq, Int.reduceToNat, reduceCtorEq, and_self, and_true, true_and, false_and, and_false, or_false, false_or, or_true, true_or, true_implies, false_implies, implies_true, not_true_eq_false, not_false_eq_true, Int.toNat_natCast, Int.cast_ofNat_Int, eq_self, ne_eq, ite_true, ite_false, if_true, if_false, Int.add_sub_cancel, Int.sub_add_cancel, Int.add_zero, Int.zero_add, cast_s, iI_in, iI_lit, iI_le, iI_lt, iI_eq, iI_cl, iI_add, iI_sub, iI_mul, iI_neg, iI_nI, ok_s, ok_ck, ok_bn, ok_ob, ck_iI, bn_eq, ob_s, om_n, om_s, cb_bI, gI_g, gI_2, gJ_1, gJ_g, gJ_2, gR_1, gR_2, gR_g, within_v, in_v, bI_i0, bI_i1, iI_bI0, iI_bI1, bI_T, bI_F, f_X12_wrong, h2]
/-- : behind a head -/
def hdC (G : Grp) (v r p : Nat) (d h : Int32) : Grp := gI (gI (gI G v 10 (iI ((p : Int) + 1))) (v + 5) r d) (v + 6) r h
theorem b106_v {r : Nat} (ht : TPE G3 G27 n b) (h1 : G4.1 v 9 = iI n) (h2 : G4.1 v 10 = iI p) (h3 : G4.2.2 v 8 = some 1) (h7 : G4.1 v 7 = iI r) (hr : r < 12) (hp : p ≤ 240) (d h : Int32) : f_X7_parseHead_b106 F G3 G4 v d h = if p < n ∧ b p = 58 then some (iI 1, hdC G4 v r p d h) else some (iI 0, gI G4 v 11 (iI (1000 + p))) := by
  have sg := sign_cx (F := F) ht h1 h2 h3 hp
  have rv := refuse_x (F := F) h2 1
  rw [show (1000 : Int) * 1 + p = 1000 + p by omega] at rv
  have hb := ht.2.2.2 p
  by_cases c : p < n ∧ b p = 58
  · rw [if_pos c]
    have c1 : (b p : Int) = 58 := by omega
    rw [if_pos c.1, c1] at sg
    simp (disch := omega) only [reduceIte, Nat.reduceEqDiff, Nat.reduceAdd, Nat.reduceSub, Nat.reduceMul, Nat.reduceLT, Int.reduceNeg, Int.reduceAdd, Int.reduceSub, Int.reduceMul, Int.reduceLT, Int.reduceLE, Int.reduceEq, Int.reduceToNat, reduceCtorEq, and_self, and_true, true_and, false_and, and_false, or_false, false_or, or_true, true_or, true_implies, false_implies, implies_true, not_true_eq_false, not_false_eq_true, Int.toNat_natCast, Int.cast_ofNat_Int, eq_self, ne_eq, ite_true, ite_false, if_true, if_false, Int.add_sub_cancel, Int.sub_add_cancel, Int.add_zero, Int.zero_add, cast_s, iI_in, iI_lit, iI_le, iI_lt, iI_eq, iI_cl, iI_add, iI_sub, iI_mul, iI_neg, iI_nI, ok_s, ok_ck, ok_bn, ok_ob, ck_iI, bn_eq, ob_s, om_n, om_s, cb_bI, gI_g, gI_2, gJ_1, gJ_g, gJ_2, gR_1, gR_2, gR_g, within_v, in_v, bI_i0, bI_i1, iI_bI0, iI_bI1, bI_T, bI_F, f_X7_parseHead_b106, sg, h2, h7, hdC, va1, va2, va3]
  · rw [if_neg c]
    by_cases c1 : p < n
    · have c2 : ¬ (b p : Int) = 58 := by omega
      rw [if_pos c1] at sg
      simp (disch := omega) only [reduceIte, Nat.reduceEqDiff, Nat.reduceAdd, Nat.reduceSub, Nat.reduceMul, Nat.reduceLT, Int.reduceNeg, Int.reduceAdd, Int.reduceSub, Int.reduceMul, Int.reduceLT, Int.reduceLE, Int.reduceEq, Int.reduceToNat, reduceCtorEq, and_self, and_true, true_and, false_and, and_false, or_false, false_or, or_true, true_or, true_implies, false_implies, implies_true, not_true_eq_false, not_false_eq_true, Int.toNat_natCast, Int.cast_ofNat_Int, eq_self, ne_eq, ite_true, ite_false, if_true, if_false, Int.add_sub_cancel, Int.sub_add_cancel, Int.add_zero, Int.zero_add, cast_s, iI_in, iI_lit, iI_le, iI_lt, iI_eq, iI_cl, iI_add, iI_sub, iI_mul, iI_neg, iI_nI, ok_s, ok_ck, ok_bn, ok_ob, ck_iI, bn_eq, ob_s, om_n, om_s, cb_bI, gI_g, gI_2, gJ_1, gJ_g, gJ_2, gR_1, gR_2, gR_g, within_v, in_v, bI_i0, bI_i1, iI_bI0, iI_bI1, bI_T, bI_F, f_X7_parseHead_b106, sg, c2, rv, cb0]
    · rw [if_neg c1] at sg
      simp (disch := omega) only [reduceIte, Nat.reduceEqDiff, Nat.reduceAdd, Nat.reduceSub, Nat.reduceMul, Nat.reduceLT, Int.reduceNeg, Int.reduceAdd, Int.reduceSub, Int.reduceMul, Int.reduceLT, Int.reduceLE, Int.reduceEq, Int.reduceToNat, reduceCtorEq, and_self, and_true, true_and, false_and, and_false, or_false, false_or, or_true, true_or, true_implies, false_implies, implies_true, not_true_eq_false, not_false_eq_true, Int.toNat_natCast, Int.cast_ofNat_Int, eq_self, ne_eq, ite_true, ite_false, if_true, if_false, Int.add_sub_cancel, Int.sub_add_cancel, Int.add_zero, Int.zero_add, cast_s, iI_in, iI_lit, iI_le, iI_lt, iI_eq, iI_cl, iI_add, iI_sub, iI_mul, iI_neg, iI_nI, ok_s, ok_ck, ok_bn, ok_ob, ck_iI, bn_eq, ob_s, om_n, om_s, cb_bI, gI_g, gI_2, gJ_1, gJ_g, gJ_2, gR_1, gR_2, gR_g, within_v, in_v, bI_i0, bI_i1, iI_bI0, iI_bI1, bI_T, bI_F, f_X7_parseHead_b106, sg, rv, cb0]
theorem b110_bad (ht : TPE G3 G27 n b) (h1 : G28.1 91 22 = iI n) (h2 : G28.1 91 21 = iI p) (hp : p ≤ 240) (hc : ¬ (p < n ∧ b p = 58)) (d : Int32) : f_X12_readsRule_b110 F G27 G28 d = some (iI 0, gI G28 91 23 (iI (1000 + p))) := by
  have sg := sign_mx (F := F) ht h1 h2 hp
  have wv := wrong_x (F := F) h2 1
  rw [show (1000 : Int) * 1 + p = 1000 + p by omega] at wv
  have hb := ht.2.2.2 p
  by_cases c1 : p < n
  · have c2 : ¬ (b p : Int) = 58 := by omega
    rw [if_pos c1] at sg
    simp (disch := omega) only [reduceIte, Nat.reduceEqDiff, Nat.reduceAdd, Nat.reduceSub, Nat.reduceMul, Nat.reduceLT, Int.reduceNeg, Int.reduceAdd, Int.reduceSub, Int.reduceMul, Int.reduceLT, Int.reduceLE, Int.reduceEq, Int.reduceToNat, reduceCtorEq, and_self, and_true, true_and, false_and, and_false, or_false, false_or, or_true, true_or, true_implies, false_implies, implies_true, not_true_eq_false, not_false_eq_true, Int.toNat_natCast, Int.cast_ofNat_Int, eq_self, ne_eq, ite_true, ite_false, if_true, if_false, Int.add_sub_cancel, Int.sub_add_cancel, Int.add_zero, Int.zero_add, cast_s, iI_in, iI_lit, iI_le, iI_lt, iI_eq, iI_cl, iI_add, iI_sub, iI_mul, iI_neg, iI_nI, ok_s, ok_ck, ok_bn, ok_ob, ck_iI, bn_eq, ob_s, om_n, om_s, cb_bI, gI_g, gI_2, gJ_1, gJ_g, gJ_2, gR_1, gR_2, gR_g, within_v, in_v, bI_i0, bI_i1, iI_bI0, iI_bI1, bI_T, bI_F, f_X12_readsRule_b110, sg, c2, wv, cb0]
  · rw [if_neg c1] at sg
    simp (disch := omega) only [reduceIte, Nat.reduceEqDiff, Nat.reduceAdd, Nat.reduceSub, Nat.reduceMul, Nat.reduceLT, Int.reduceNeg, Int.reduceAdd, Int.reduceSub, Int.reduceMul, Int.reduceLT, Int.reduceLE, Int.reduceEq, Int.reduceToNat, reduceCtorEq, and_self, and_true, true_and, false_and, and_false, or_false, false_or, or_true, true_or, true_implies, false_implies, implies_true, not_true_eq_false, not_false_eq_true, Int.toNat_natCast, Int.cast_ofNat_Int, eq_self, ne_eq, ite_true, ite_false, if_true, if_false, Int.add_sub_cancel, Int.sub_add_cancel, Int.add_zero, Int.zero_add, cast_s, iI_in, iI_lit, iI_le, iI_lt, iI_eq, iI_cl, iI_add, iI_sub, iI_mul, iI_neg, iI_nI, ok_s, ok_ck, ok_bn, ok_ob, ck_iI, bn_eq, ob_s, om_n, om_s, cb_bI, gI_g, gI_2, gJ_1, gJ_g, gJ_2, gR_1, gR_2, gR_g, within_v, in_v, bI_i0, bI_i1, iI_bI0, iI_bI1, bI_T, bI_F, f_X12_readsRule_b110, sg, wv, cb0]
theorem b110_no (ht : TPE G3 G27 n b) (h1 : G28.1 91 22 = iI n) (h2 : G28.1 91 21 = iI p) (hp : p ≤ 240) (hc : p < n ∧ b p = 58) (d : Int32) {G' : Grp} (hP : f_X12_readsPattern F G27 (gI G28 91 21 (iI ((p : Int) + 1))) = some (iI 0, G')) : f_X12_readsRule_b110 F G27 G28 d = some (iI 0, G') := by
  have sg := sign_mx (F := F) ht h1 h2 hp
  have c1 : (b p : Int) = 58 := by omega
  rw [if_pos hc.1, c1] at sg
  simp (disch := omega) only [reduceIte, Nat.reduceEqDiff, Nat.reduceAdd, Nat.reduceSub, Nat.reduceMul, Nat.reduceLT, Int.reduceNeg, Int.reduceAdd, Int.reduceSub, Int.reduceMul, Int.reduceLT, Int.reduceLE, Int.reduceEq, Int.reduceToNat, reduceCtorEq, and_self, and_true, true_and, false_and, and_false, or_false, false_or, or_true, true_or, true_implies, false_implies, implies_true, not_true_eq_false, not_false_eq_true, Int.toNat_natCast, Int.cast_ofNat_Int, eq_self, ne_eq, ite_true, ite_false, if_true, if_false, Int.add_sub_cancel, Int.sub_add_cancel, Int.add_zero, Int.zero_add, cast_s, iI_in, iI_lit, iI_le, iI_lt, iI_eq, iI_cl, iI_add, iI_sub, iI_mul, iI_neg, iI_nI, ok_s, ok_ck, ok_bn, ok_ob, ck_iI, bn_eq, ob_s, om_n, om_s, cb_bI, gI_g, gI_2, gJ_1, gJ_g, gJ_2, gR_1, gR_2, gR_g, within_v, in_v, bI_i0, bI_i1, iI_bI0, iI_bI1, bI_T, bI_F, f_X12_readsRule_b110, sg, h2, hP]
theorem b110_yes {r q : Nat} (ht : TPE G3 G27 n b) (h1 : G28.1 91 22 = iI n) (h2 : G28.1 91 21 = iI p) (hp : p ≤ 240) (hc : p < n ∧ b p = 58) (d : Int32) {G' : Grp} (hP : f_X12_readsPattern F G27 (gI G28 91 21 (iI ((p : Int) + 1))) = some (iI 1, G')) (hr : G'.1 91 40 = iI r) (hr2 : r < 12) (hq : ar G' 119 0 = q) : f_X12_readsRule_b110 F G27 G28 d = some (iI 1, gI (gI (gI G' 117 r d) 118 r (iI q)) 91 40 (iI ((r : Int) + 1))) := by
  have sg := sign_mx (F := F) ht h1 h2 hp
  have c1 : (b p : Int) = 58 := by omega
  rw [if_pos hc.1, c1] at sg
  have hq := iI_of hq
  simp (disch := omega) only [reduceIte, Nat.reduceEqDiff, Nat.reduceAdd, Nat.reduceSub, Nat.reduceMul, Nat.reduceLT, Int.reduceNeg, Int.reduceAdd, Int.reduceSub, Int.reduceMul, Int.reduceLT, Int.reduceLE, Int.reduceEq, Int.reduceToNat, reduceCtorEq, and_self, and_true, true_and, false_and, and_false, or_false, false_or, or_true, true_or, true_implies, false_implies, implies_true, not_true_eq_false, not_false_eq_true, Int.toNat_natCast, Int.cast_ofNat_Int, eq_self, ne_eq, ite_true, ite_false, if_true, if_false, Int.add_sub_cancel, Int.sub_add_cancel, Int.add_zero, Int.zero_add, cast_s, iI_in, iI_lit, iI_le, iI_lt, iI_eq, iI_cl, iI_add, iI_sub, iI_mul, iI_neg, iI_nI, ok_s, ok_ck, ok_bn, ok_ob, ck_iI, bn_eq, ob_s, om_n, om_s, cb_bI, gI_g, gI_2, gJ_1, gJ_g, gJ_2, gR_1, gR_2, gR_g, within_v, in_v, bI_i0, bI_i1, iI_bI0, iI_bI1, bI_T, bI_F, f_X12_readsRule_b110, sg, h2, hP, hr, hq]
end PR
