/-! count -/
theorem cnt_cut {p : Nat → Prop} [DecidablePred p] {m : Nat} : ∀ n, m ≤ n → cnt (fun k => k < m ∧ p k) n = cnt p m := by
  intro n
  induction n with
  | zero => intro h; have : m = 0 := by omega
            subst this; rfl
  | succ n ih =>
    intro h
    by_cases e : m = n + 1
    · subst e
      exact cnt_congr fun i hi => ⟨fun z => z.2, fun z => ⟨hi, z⟩⟩
    · have hn : ¬ (n < m ∧ p n) := fun z => by have := z.1; omega
      rw [cnt_f (p := fun k => k < m ∧ p k) hn]
      exact ih (by omega)
section PR
variable {F : Nat} {G1 G2 G3 G4 G5 G6 G7 G8 G9 G10 G11 G12 G13 G14 G15 G16 G19 G20 G23 G24 G25 G26 G27 G29 G32 G33 G34 G35 G36 G37 G40 G41 G42 : Grp} {vn gn cn d n pn ln tn sn wn jn bl z : Nat} {tp tl Ln b : Nat → Nat} {P L T C A : Nat → Nat → Int} {W X : Nat → Nat → Nat} {f : Nat → Int}
theorem counted_v {w : Nat} (p : Nat → Prop) [DecidablePred p] (hF : 200000 ≤ F) (step : ∀ (kk : Grp → Grp → Grp → Grp → Grp → Int32 → Int32 → Int32 → Option Int32) (k s : Nat), k < 1300 → s ≤ 1300 → f_X12_counted_l4b F kk G24 G25 G35 G40 G42 (iI w) (iI s) (iI k) = kk G24 G25 G35 G40 G42 (iI w) (iI ((s + if p k then 1 else 0 : Nat) : Int)) (iI ((k : Int) + 1))) : f_X12_counted F G24 G25 G35 G40 G42 (iI w) = some (iI (cnt p 1300)) := by
  have key := up_ind (n := 1300) (Q := fun fu i => f_X12_counted_l4 F fu G24 G25 G35 G40 G42 (iI w) (iI (cnt p i)) (iI i) = some (iI (cnt p 1300))) ?_ ?_
  · exact key 0 F (by omega) (by omega)
  · intro fu
    show f_X12_counted_l4b F (f_X12_counted_l4 F fu) G24 G25 G35 G40 G42 _ _ _ = _
    have e : (1300 : Int) ≤ ((1300 : Nat) : Int) := by omega
    simp (disch := omega) only [reduceIte, Nat.reduceEqDiff, Nat.reduceAdd, Nat.reduceSub, Nat.reduceMul, Nat.reduceLT, Int.reduceNeg, Int.reduceAdd, Int.reduceSub, Int.reduceMul, Int.reduceLT, Int.reduceLE, Int.reduceEq, Int.reduceToNat, reduceCtorEq, and_self, and_true, true_and, false_and, and_false, or_false, false_or, or_true, true_or, true_implies, false_implies, implies_true, not_true_eq_false, not_false_eq_true, Int.toNat_natCast, Int.cast_ofNat_Int, eq_self, ne_eq, ite_true, ite_false, if_true, if_false, Int.add_sub_cancel, Int.sub_add_cancel, Int.add_zero, Int.zero_add, cast_s, iI_in, iI_lit, iI_le, iI_lt, iI_eq, iI_cl, iI_add, iI_sub, iI_mul, iI_neg, iI_nI, ok_s, ok_ck, ok_bn, ok_ob, ck_iI, bn_eq, ob_s, om_n, om_s, cb_bI, gI_g, gI_2, gJ_1, gJ_g, gJ_2, gR_1, gR_2, gR_g, within_v, in_v, bI_i0, bI_i1, iI_bI0, iI_bI1, bI_T, bI_F, f_X12_counted_l4b, e]
  · intro i fu hi ih
    have := cnt_le p i
    show f_X12_counted_l4b F (f_X12_counted_l4 F fu) G24 G25 G35 G40 G42 _ _ _ = _
    rw [step _ i (cnt p i) hi (by omega)]
    exact ih
theorem cnt5_m (hp : RPair G7 G9 G25 gn cn d n pn tp P) (hd : d < 3600) (hF : 200000 ≤ F) : f_X12_counted F G24 G25 G35 G40 G42 (iI ((5 : Nat) : Int)) = some (iI (cnt (fun k => P k 4 = -1) pn)) := by
  have hpn := hp.1
  have h3 := hp.2.2.1
  rw [← cnt_cut (p := fun k => P k 4 = -1) (m := pn) 1300 (by omega)]
  refine counted_v (fun k => k < pn ∧ P k 4 = -1) hF fun kk k s hk hs => ?_
  have e0 : ¬ (1300 : Int) ≤ k := by omega
  by_cases c : k < pn
  · have io := isOpen_m (F := F) hp hd c
    have e1 : ¬ (pn : Int) ≤ k := by omega
    by_cases c2 : P k 4 = -1
    · rw [bI_t c2] at io
      rw [if_pos ⟨c, c2⟩]
      simp (disch := omega) only [reduceIte, Nat.reduceEqDiff, Nat.reduceAdd, Nat.reduceSub, Nat.reduceMul, Nat.reduceLT, Int.reduceNeg, Int.reduceAdd, Int.reduceSub, Int.reduceMul, Int.reduceLT, Int.reduceLE, Int.reduceEq, Int.reduceToNat, reduceCtorEq, and_self, and_true, true_and, false_and, and_false, or_false, false_or, or_true, true_or, true_implies, false_implies, implies_true, not_true_eq_false, not_false_eq_true, Int.toNat_natCast, Int.cast_ofNat_Int, eq_self, ne_eq, ite_true, ite_false, if_true, if_false, Int.add_sub_cancel, Int.sub_add_cancel, Int.add_zero, Int.zero_add, cast_s, iI_in, iI_lit, iI_le, iI_lt, iI_eq, iI_cl, iI_add, iI_sub, iI_mul, iI_neg, iI_nI, ok_s, ok_ck, ok_bn, ok_ob, ck_iI, bn_eq, ob_s, om_n, om_s, cb_bI, gI_g, gI_2, gJ_1, gJ_g, gJ_2, gR_1, gR_2, gR_g, within_v, in_v, bI_i0, bI_i1, iI_bI0, iI_bI1, bI_T, bI_F, f_X12_counted_l4b, f_X12_counted_b68, f_X12_counted_b69, f_X12_counted_b152, e0, h3, e1, io]
    · rw [bI_f c2] at io
      rw [if_neg (fun z => c2 z.2), Nat.add_zero]
      simp (disch := omega) only [reduceIte, Nat.reduceEqDiff, Nat.reduceAdd, Nat.reduceSub, Nat.reduceMul, Nat.reduceLT, Int.reduceNeg, Int.reduceAdd, Int.reduceSub, Int.reduceMul, Int.reduceLT, Int.reduceLE, Int.reduceEq, Int.reduceToNat, reduceCtorEq, and_self, and_true, true_and, false_and, and_false, or_false, false_or, or_true, true_or, true_implies, false_implies, implies_true, not_true_eq_false, not_false_eq_true, Int.toNat_natCast, Int.cast_ofNat_Int, eq_self, ne_eq, ite_true, ite_false, if_true, if_false, Int.add_sub_cancel, Int.sub_add_cancel, Int.add_zero, Int.zero_add, cast_s, iI_in, iI_lit, iI_le, iI_lt, iI_eq, iI_cl, iI_add, iI_sub, iI_mul, iI_neg, iI_nI, ok_s, ok_ck, ok_bn, ok_ob, ck_iI, bn_eq, ob_s, om_n, om_s, cb_bI, gI_g, gI_2, gJ_1, gJ_g, gJ_2, gR_1, gR_2, gR_g, within_v, in_v, bI_i0, bI_i1, iI_bI0, iI_bI1, bI_T, bI_F, f_X12_counted_l4b, f_X12_counted_b68, f_X12_counted_b69, f_X12_counted_b152, e0, h3, e1, io]
  · have e1 : (pn : Int) ≤ k := by omega
    rw [if_neg (fun z => c z.1), Nat.add_zero]
    simp (disch := omega) only [reduceIte, Nat.reduceEqDiff, Nat.reduceAdd, Nat.reduceSub, Nat.reduceMul, Nat.reduceLT, Int.reduceNeg, Int.reduceAdd, Int.reduceSub, Int.reduceMul, Int.reduceLT, Int.reduceLE, Int.reduceEq, Int.reduceToNat, reduceCtorEq, and_self, and_true, true_and, false_and, and_false, or_false, false_or, or_true, true_or, true_implies, false_implies, implies_true, not_true_eq_false, not_false_eq_true, Int.toNat_natCast, Int.cast_ofNat_Int, eq_self, ne_eq, ite_true, ite_false, if_true, if_false, Int.add_sub_cancel, Int.sub_add_cancel, Int.add_zero, Int.zero_add, cast_s, iI_in, iI_lit, iI_le, iI_lt, iI_eq, iI_cl, iI_add, iI_sub, iI_mul, iI_neg, iI_nI, ok_s, ok_ck, ok_bn, ok_ob, ck_iI, bn_eq, ob_s, om_n, om_s, cb_bI, gI_g, gI_2, gJ_1, gJ_g, gJ_2, gR_1, gR_2, gR_g, within_v, in_v, bI_i0, bI_i1, iI_bI0, iI_bI1, bI_T, bI_F, f_X12_counted_l4b, f_X12_counted_b68, f_X12_counted_b69, f_X12_counted_b152, e0, h3, e1]
theorem cnt8_m (hk : RSack G11 G35 sn) (hF : 200000 ≤ F) : f_X12_counted F G24 G25 G35 G40 G42 (iI ((8 : Nat) : Int)) = some (iI (cnt (fun k => ¬ G35.1 146 k = iI 0) sn)) := by
  have hsn := hk.1
  have h3 := hk.2.2.1
  rw [← cnt_cut (p := fun k => ¬ G35.1 146 k = iI 0) (m := sn) 1300 (by omega)]
  refine counted_v (fun k => k < sn ∧ ¬ G35.1 146 k = iI 0) hF fun kk k s hk hs => ?_
  have e0 : ¬ (1300 : Int) ≤ k := by omega
  by_cases c : k < sn
  · have e1 : ¬ (sn : Int) ≤ k := by omega
    by_cases c2 : G35.1 146 k = iI 0
    · rw [if_neg (fun z => z.2 c2), Nat.add_zero]
      simp (disch := omega) only [reduceIte, Nat.reduceEqDiff, Nat.reduceAdd, Nat.reduceSub, Nat.reduceMul, Nat.reduceLT, Int.reduceNeg, Int.reduceAdd, Int.reduceSub, Int.reduceMul, Int.reduceLT, Int.reduceLE, Int.reduceEq, Int.reduceToNat, reduceCtorEq, and_self, and_true, true_and, false_and, and_false, or_false, false_or, or_true, true_or, true_implies, false_implies, implies_true, not_true_eq_false, not_false_eq_true, Int.toNat_natCast, Int.cast_ofNat_Int, eq_self, ne_eq, ite_true, ite_false, if_true, if_false, Int.add_sub_cancel, Int.sub_add_cancel, Int.add_zero, Int.zero_add, cast_s, iI_in, iI_lit, iI_le, iI_lt, iI_eq, iI_cl, iI_add, iI_sub, iI_mul, iI_neg, iI_nI, ok_s, ok_ck, ok_bn, ok_ob, ck_iI, bn_eq, ob_s, om_n, om_s, cb_bI, gI_g, gI_2, gJ_1, gJ_g, gJ_2, gR_1, gR_2, gR_g, within_v, in_v, bI_i0, bI_i1, iI_bI0, iI_bI1, bI_T, bI_F, f_X12_counted_l4b, f_X12_counted_b95, f_X12_counted_b96, f_X12_counted_b152, e0, h3, e1, c2]
    · rw [if_pos ⟨c, c2⟩]
      simp (disch := omega) only [reduceIte, Nat.reduceEqDiff, Nat.reduceAdd, Nat.reduceSub, Nat.reduceMul, Nat.reduceLT, Int.reduceNeg, Int.reduceAdd, Int.reduceSub, Int.reduceMul, Int.reduceLT, Int.reduceLE, Int.reduceEq, Int.reduceToNat, reduceCtorEq, and_self, and_true, true_and, false_and, and_false, or_false, false_or, or_true, true_or, true_implies, false_implies, implies_true, not_true_eq_false, not_false_eq_true, Int.toNat_natCast, Int.cast_ofNat_Int, eq_self, ne_eq, ite_true, ite_false, if_true, if_false, Int.add_sub_cancel, Int.sub_add_cancel, Int.add_zero, Int.zero_add, cast_s, iI_in, iI_lit, iI_le, iI_lt, iI_eq, iI_cl, iI_add, iI_sub, iI_mul, iI_neg, iI_nI, ok_s, ok_ck, ok_bn, ok_ob, ck_iI, bn_eq, ob_s, om_n, om_s, cb_bI, gI_g, gI_2, gJ_1, gJ_g, gJ_2, gR_1, gR_2, gR_g, within_v, in_v, bI_i0, bI_i1, iI_bI0, iI_bI1, bI_T, bI_F, f_X12_counted_l4b, f_X12_counted_b95, f_X12_counted_b96, f_X12_counted_b152, e0, h3, e1, c2]
  · have e1 : (sn : Int) ≤ k := by omega
    rw [if_neg (fun z => c z.1), Nat.add_zero]
    simp (disch := omega) only [reduceIte, Nat.reduceEqDiff, Nat.reduceAdd, Nat.reduceSub, Nat.reduceMul, Nat.reduceLT, Int.reduceNeg, Int.reduceAdd, Int.reduceSub, Int.reduceMul, Int.reduceLT, Int.reduceLE, Int.reduceEq, Int.reduceToNat, reduceCtorEq, and_self, and_true, true_and, false_and, and_false, or_false, false_or, or_true, true_or, true_implies, false_implies, implies_true, not_true_eq_false, not_false_eq_true, Int.toNat_natCast, Int.cast_ofNat_Int, eq_self, ne_eq, ite_true, ite_false, if_true, if_false, Int.add_sub_cancel, Int.sub_add_cancel, Int.add_zero, Int.zero_add, cast_s, iI_in, iI_lit, iI_le, iI_lt, iI_eq, iI_cl, iI_add, iI_sub, iI_mul, iI_neg, iI_nI, ok_s, ok_ck, ok_bn, ok_ob, ck_iI, bn_eq, ob_s, om_n, om_s, cb_bI, gI_g, gI_2, gJ_1, gJ_g, gJ_2, gR_1, gR_2, gR_g, within_v, in_v, bI_i0, bI_i1, iI_bI0, iI_bI1, bI_T, bI_F, f_X12_counted_l4b, f_X12_counted_b95, f_X12_counted_b96, f_X12_counted_b152, e0, h3, e1]
theorem cnt13_m (h : RProj G19 G40 vn jn bl C) (hF : 200000 ≤ F) : f_X12_counted F G24 G25 G35 G40 G42 (iI ((13 : Nat) : Int)) = some (iI (cnt (fun k => bl.testBit k = true) jn)) := by
  obtain ⟨h1, h2, h3, h4, h5, h6, -⟩ := id h
  rw [← cnt_cut (p := fun k => bl.testBit k = true) (m := jn) 1300 (by omega)]
  refine counted_v (fun k => k < jn ∧ bl.testBit k = true) hF fun kk k s hk hs => ?_
  have e0 : ¬ (1300 : Int) ≤ k := by omega
  by_cases c : k < jn
  · have e1 : ¬ (jn : Int) ≤ k := by omega
    have w := h6 k (by omega)
    by_cases c2 : bl.testBit k = true
    · rw [bI_t c2] at w
      rw [if_pos ⟨c, c2⟩]
      simp (disch := omega) only [reduceIte, Nat.reduceEqDiff, Nat.reduceAdd, Nat.reduceSub, Nat.reduceMul, Nat.reduceLT, Int.reduceNeg, Int.reduceAdd, Int.reduceSub, Int.reduceMul, Int.reduceLT, Int.reduceLE, Int.reduceEq, Int.reduceToNat, reduceCtorEq, and_self, and_true, true_and, false_and, and_false, or_false, false_or, or_true, true_or, true_implies, false_implies, implies_true, not_true_eq_false, not_false_eq_true, Int.toNat_natCast, Int.cast_ofNat_Int, eq_self, ne_eq, ite_true, ite_false, if_true, if_false, Int.add_sub_cancel, Int.sub_add_cancel, Int.add_zero, Int.zero_add, cast_s, iI_in, iI_lit, iI_le, iI_lt, iI_eq, iI_cl, iI_add, iI_sub, iI_mul, iI_neg, iI_nI, ok_s, ok_ck, ok_bn, ok_ob, ck_iI, bn_eq, ob_s, om_n, om_s, cb_bI, gI_g, gI_2, gJ_1, gJ_g, gJ_2, gR_1, gR_2, gR_g, within_v, in_v, bI_i0, bI_i1, iI_bI0, iI_bI1, bI_T, bI_F, f_X12_counted_l4b, f_X12_counted_b122, f_X12_counted_b123, f_X12_counted_b152, e0, h3, e1, w]
    · rw [bI_f c2] at w
      rw [if_neg (fun z => c2 z.2), Nat.add_zero]
      simp (disch := omega) only [reduceIte, Nat.reduceEqDiff, Nat.reduceAdd, Nat.reduceSub, Nat.reduceMul, Nat.reduceLT, Int.reduceNeg, Int.reduceAdd, Int.reduceSub, Int.reduceMul, Int.reduceLT, Int.reduceLE, Int.reduceEq, Int.reduceToNat, reduceCtorEq, and_self, and_true, true_and, false_and, and_false, or_false, false_or, or_true, true_or, true_implies, false_implies, implies_true, not_true_eq_false, not_false_eq_true, Int.toNat_natCast, Int.cast_ofNat_Int, eq_self, ne_eq, ite_true, ite_false, if_true, if_false, Int.add_sub_cancel, Int.sub_add_cancel, Int.add_zero, Int.zero_add, cast_s, iI_in, iI_lit, iI_le, iI_lt, iI_eq, iI_cl, iI_add, iI_sub, iI_mul, iI_neg, iI_nI, ok_s, ok_ck, ok_bn, ok_ob, ck_iI, bn_eq, ob_s, om_n, om_s, cb_bI, gI_g, gI_2, gJ_1, gJ_g, gJ_2, gR_1, gR_2, gR_g, within_v, in_v, bI_i0, bI_i1, iI_bI0, iI_bI1, bI_T, bI_F, f_X12_counted_l4b, f_X12_counted_b122, f_X12_counted_b123, f_X12_counted_b152, e0, h3, e1, w]
  · have e1 : (jn : Int) ≤ k := by omega
    rw [if_neg (fun z => c z.1), Nat.add_zero]
    simp (disch := omega) only [reduceIte, Nat.reduceEqDiff, Nat.reduceAdd, Nat.reduceSub, Nat.reduceMul, Nat.reduceLT, Int.reduceNeg, Int.reduceAdd, Int.reduceSub, Int.reduceMul, Int.reduceLT, Int.reduceLE, Int.reduceEq, Int.reduceToNat, reduceCtorEq, and_self, and_true, true_and, false_and, and_false, or_false, false_or, or_true, true_or, true_implies, false_implies, implies_true, not_true_eq_false, not_false_eq_true, Int.toNat_natCast, Int.cast_ofNat_Int, eq_self, ne_eq, ite_true, ite_false, if_true, if_false, Int.add_sub_cancel, Int.sub_add_cancel, Int.add_zero, Int.zero_add, cast_s, iI_in, iI_lit, iI_le, iI_lt, iI_eq, iI_cl, iI_add, iI_sub, iI_mul, iI_neg, iI_nI, ok_s, ok_ck, ok_bn, ok_ob, ck_iI, bn_eq, ob_s, om_n, om_s, cb_bI, gI_g, gI_2, gJ_1, gJ_g, gJ_2, gR_1, gR_2, gR_g, within_v, in_v, bI_i0, bI_i1, iI_bI0, iI_bI1, bI_T, bI_F, f_X12_counted_l4b, f_X12_counted_b122, f_X12_counted_b123, f_X12_counted_b152, e0, h3, e1]
theorem cnt14_m (hf : RFolk G6 G24 vn gn cn) (h : RWish G20 G42 gn A) (hF : 200000 ≤ F) : f_X12_counted F G24 G25 G35 G40 G42 (iI ((14 : Nat) : Int)) = some (iI (cnt (fun k => A k 0 = 1) gn)) := by
  obtain ⟨h1, h2, h3⟩ := id h
  have h7 := hf.2.2.2.2.2.2.1
  rw [← cnt_cut (p := fun k => A k 0 = 1) (m := gn) 1300 (by omega)]
  refine counted_v (fun k => k < gn ∧ A k 0 = 1) hF fun kk k s hk hs => ?_
  have e0 : ¬ (1300 : Int) ≤ k := by omega
  by_cases c : k < gn
  · have e1 : ¬ (gn : Int) ≤ k := by omega
    have w := (h2 k (by omega)).2.2.2.1
    have w2 := (h3 k (by omega)).1
    by_cases c2 : A k 0 = 1
    · rw [c2] at w
      rw [if_pos ⟨c, c2⟩]
      simp (disch := omega) only [reduceIte, Nat.reduceEqDiff, Nat.reduceAdd, Nat.reduceSub, Nat.reduceMul, Nat.reduceLT, Int.reduceNeg, Int.reduceAdd, Int.reduceSub, Int.reduceMul, Int.reduceLT, Int.reduceLE, Int.reduceEq, Int.reduceToNat, reduceCtorEq, and_self, and_true, true_and, false_and, and_false, or_false, false_or, or_true, true_or, true_implies, false_implies, implies_true, not_true_eq_false, not_false_eq_true, Int.toNat_natCast, Int.cast_ofNat_Int, eq_self, ne_eq, ite_true, ite_false, if_true, if_false, Int.add_sub_cancel, Int.sub_add_cancel, Int.add_zero, Int.zero_add, cast_s, iI_in, iI_lit, iI_le, iI_lt, iI_eq, iI_cl, iI_add, iI_sub, iI_mul, iI_neg, iI_nI, ok_s, ok_ck, ok_bn, ok_ob, ck_iI, bn_eq, ob_s, om_n, om_s, cb_bI, gI_g, gI_2, gJ_1, gJ_g, gJ_2, gR_1, gR_2, gR_g, within_v, in_v, bI_i0, bI_i1, iI_bI0, iI_bI1, bI_T, bI_F, f_X12_counted_l4b, f_X12_counted_b149, f_X12_counted_b150, f_X12_counted_b152, e0, h7, e1, w]
    · rw [show A k 0 = 0 by omega] at w
      rw [if_neg (fun z => c2 z.2), Nat.add_zero]
      simp (disch := omega) only [reduceIte, Nat.reduceEqDiff, Nat.reduceAdd, Nat.reduceSub, Nat.reduceMul, Nat.reduceLT, Int.reduceNeg, Int.reduceAdd, Int.reduceSub, Int.reduceMul, Int.reduceLT, Int.reduceLE, Int.reduceEq, Int.reduceToNat, reduceCtorEq, and_self, and_true, true_and, false_and, and_false, or_false, false_or, or_true, true_or, true_implies, false_implies, implies_true, not_true_eq_false, not_false_eq_true, Int.toNat_natCast, Int.cast_ofNat_Int, eq_self, ne_eq, ite_true, ite_false, if_true, if_false, Int.add_sub_cancel, Int.sub_add_cancel, Int.add_zero, Int.zero_add, cast_s, iI_in, iI_lit, iI_le, iI_lt, iI_eq, iI_cl, iI_add, iI_sub, iI_mul, iI_neg, iI_nI, ok_s, ok_ck, ok_bn, ok_ob, ck_iI, bn_eq, ob_s, om_n, om_s, cb_bI, gI_g, gI_2, gJ_1, gJ_g, gJ_2, gR_1, gR_2, gR_g, within_v, in_v, bI_i0, bI_i1, iI_bI0, iI_bI1, bI_T, bI_F, f_X12_counted_l4b, f_X12_counted_b149, f_X12_counted_b150, f_X12_counted_b152, e0, h7, e1, w]
  · have e1 : (gn : Int) ≤ k := by omega
    rw [if_neg (fun z => c z.1), Nat.add_zero]
    simp (disch := omega) only [reduceIte, Nat.reduceEqDiff, Nat.reduceAdd, Nat.reduceSub, Nat.reduceMul, Nat.reduceLT, Int.reduceNeg, Int.reduceAdd, Int.reduceSub, Int.reduceMul, Int.reduceLT, Int.reduceLE, Int.reduceEq, Int.reduceToNat, reduceCtorEq, and_self, and_true, true_and, false_and, and_false, or_false, false_or, or_true, true_or, true_implies, false_implies, implies_true, not_true_eq_false, not_false_eq_true, Int.toNat_natCast, Int.cast_ofNat_Int, eq_self, ne_eq, ite_true, ite_false, if_true, if_false, Int.add_sub_cancel, Int.sub_add_cancel, Int.add_zero, Int.zero_add, cast_s, iI_in, iI_lit, iI_le, iI_lt, iI_eq, iI_cl, iI_add, iI_sub, iI_mul, iI_neg, iI_nI, ok_s, ok_ck, ok_bn, ok_ob, ck_iI, bn_eq, ob_s, om_n, om_s, cb_bI, gI_g, gI_2, gJ_1, gJ_g, gJ_2, gR_1, gR_2, gR_g, within_v, in_v, bI_i0, bI_i1, iI_bI0, iI_bI1, bI_T, bI_F, f_X12_counted_l4b, f_X12_counted_b149, f_X12_counted_b150, f_X12_counted_b152, e0, h7, e1]
theorem openN_c (h : RPair G7 G9 G25 gn cn d n pn tp P) (hd : d < 3600) (hF : 200000 ≤ F) : f_X3_openPairs F G7 G9 = some (iI (cnt (fun k => P k 4 = -1) pn)) := by
  obtain ⟨h1, h2, h3, h4, h5, h6, h7, h8, h9, h10⟩ := id h
  have key := up_ind (n := pn) (Q := fun fu i => f_X3_openPairs_l4 F fu G7 G9 (iI (cnt (fun k => P k 4 = -1) i)) (iI i) = some (iI (cnt (fun k => P k 4 = -1) pn))) ?_ ?_
  · exact key 0 F (by omega) (by omega)
  · intro fu
    have e : (pn : Int) ≤ pn := Int.le_refl _
    show f_X3_openPairs_l4b F (f_X3_openPairs_l4 F fu) G7 G9 _ _ = _
    simp (disch := omega) only [reduceIte, Nat.reduceEqDiff, Nat.reduceAdd, Nat.reduceSub, Nat.reduceMul, Nat.reduceLT, Int.reduceNeg, Int.reduceAdd, Int.reduceSub, Int.reduceMul, Int.reduceLT, Int.reduceLE, Int.reduceEq, Int.reduceToNat, reduceCtorEq, and_self, and_true, true_and, false_and, and_false, or_false, false_or, or_true, true_or, true_implies, false_implies, implies_true, not_true_eq_false, not_false_eq_true, Int.toNat_natCast, Int.cast_ofNat_Int, eq_self, ne_eq, ite_true, ite_false, if_true, if_false, Int.add_sub_cancel, Int.sub_add_cancel, Int.add_zero, Int.zero_add, cast_s, iI_in, iI_lit, iI_le, iI_lt, iI_eq, iI_cl, iI_add, iI_sub, iI_mul, iI_neg, iI_nI, ok_s, ok_ck, ok_bn, ok_ob, ck_iI, bn_eq, ob_s, om_n, om_s, cb_bI, gI_g, gI_2, gJ_1, gJ_g, gJ_2, gR_1, gR_2, gR_g, within_v, in_v, bI_i0, bI_i1, iI_bI0, iI_bI1, bI_T, bI_F, f_X3_openPairs_l4b, h2, e]
  · intro i fu hi ih
    have e : ¬ (pn : Int) ≤ i := by omega
    have w := h4 i hi
    have io := isOpen_c (F := F) h hd hi
    have := cnt_le (fun k => P k 4 = -1) i
    show f_X3_openPairs_l4b F (f_X3_openPairs_l4 F fu) G7 G9 _ _ = _
    by_cases c : P i 4 = -1
    · rw [bI_t c] at io
      rw [cnt_t (p := fun k => P k 4 = -1) c] at ih
      simp (disch := omega) only [reduceIte, Nat.reduceEqDiff, Nat.reduceAdd, Nat.reduceSub, Nat.reduceMul, Nat.reduceLT, Int.reduceNeg, Int.reduceAdd, Int.reduceSub, Int.reduceMul, Int.reduceLT, Int.reduceLE, Int.reduceEq, Int.reduceToNat, reduceCtorEq, and_self, and_true, true_and, false_and, and_false, or_false, false_or, or_true, true_or, true_implies, false_implies, implies_true, not_true_eq_false, not_false_eq_true, Int.toNat_natCast, Int.cast_ofNat_Int, eq_self, ne_eq, ite_true, ite_false, if_true, if_false, Int.add_sub_cancel, Int.sub_add_cancel, Int.add_zero, Int.zero_add, cast_s] at ih
      simp (disch := omega) only [reduceIte, Nat.reduceEqDiff, Nat.reduceAdd, Nat.reduceSub, Nat.reduceMul, Nat.reduceLT, Int.reduceNeg, Int.reduceAdd, Int.reduceSub, Int.reduceMul, Int.reduceLT, Int.reduceLE, Int.reduceEq, Int.reduceToNat, reduceCtorEq, and_self, and_true, true_and, false_and, and_false, or_false, false_or, or_true, true_or, true_implies, false_implies, implies_true, not_true_eq_false, not_false_eq_true, Int.toNat_natCast, Int.cast_ofNat_Int, eq_self, ne_eq, ite_true, ite_false, if_true, if_false, Int.add_sub_cancel, Int.sub_add_cancel, Int.add_zero, Int.zero_add, cast_s, iI_in, iI_lit, iI_le, iI_lt, iI_eq, iI_cl, iI_add, iI_sub, iI_mul, iI_neg, iI_nI, ok_s, ok_ck, ok_bn, ok_ob, ck_iI, bn_eq, ob_s, om_n, om_s, cb_bI, gI_g, gI_2, gJ_1, gJ_g, gJ_2, gR_1, gR_2, gR_g, within_v, in_v, bI_i0, bI_i1, iI_bI0, iI_bI1, bI_T, bI_F, f_X3_openPairs_l4b, h2, e, w.1, io]
      exact ih
    · rw [bI_f c] at io
      rw [cnt_f (p := fun k => P k 4 = -1) c] at ih
      simp (disch := omega) only [reduceIte, Nat.reduceEqDiff, Nat.reduceAdd, Nat.reduceSub, Nat.reduceMul, Nat.reduceLT, Int.reduceNeg, Int.reduceAdd, Int.reduceSub, Int.reduceMul, Int.reduceLT, Int.reduceLE, Int.reduceEq, Int.reduceToNat, reduceCtorEq, and_self, and_true, true_and, false_and, and_false, or_false, false_or, or_true, true_or, true_implies, false_implies, implies_true, not_true_eq_false, not_false_eq_true, Int.toNat_natCast, Int.cast_ofNat_Int, eq_self, ne_eq, ite_true, ite_false, if_true, if_false, Int.add_sub_cancel, Int.sub_add_cancel, Int.add_zero, Int.zero_add, cast_s, iI_in, iI_lit, iI_le, iI_lt, iI_eq, iI_cl, iI_add, iI_sub, iI_mul, iI_neg, iI_nI, ok_s, ok_ck, ok_bn, ok_ob, ck_iI, bn_eq, ob_s, om_n, om_s, cb_bI, gI_g, gI_2, gJ_1, gJ_g, gJ_2, gR_1, gR_2, gR_g, within_v, in_v, bI_i0, bI_i1, iI_bI0, iI_bI1, bI_T, bI_F, f_X3_openPairs_l4b, h2, e, w.1, io]
      exact ih
theorem sacks_c (h : RSack G11 G35 sn) (hF : 200000 ≤ F) : f_X6_sacksOnWay F G11 = some (iI (cnt (fun k => ¬ G35.1 146 k = iI 0) sn)) := by
  obtain ⟨h0, h1, h2, h3⟩ := id h
  have key := up_ind (n := sn) (Q := fun fu i => f_X6_sacksOnWay_l4 F fu G11 (iI (cnt (fun k => ¬ G35.1 146 k = iI 0) i)) (iI i) = some (iI (cnt (fun k => ¬ G35.1 146 k = iI 0) sn))) ?_ ?_
  · exact key 0 F (by omega) (by omega)
  · intro fu
    have e : (sn : Int) ≤ sn := Int.le_refl _
    show f_X6_sacksOnWay_l4b F (f_X6_sacksOnWay_l4 F fu) G11 _ _ = _
    simp (disch := omega) only [reduceIte, Nat.reduceEqDiff, Nat.reduceAdd, Nat.reduceSub, Nat.reduceMul, Nat.reduceLT, Int.reduceNeg, Int.reduceAdd, Int.reduceSub, Int.reduceMul, Int.reduceLT, Int.reduceLE, Int.reduceEq, Int.reduceToNat, reduceCtorEq, and_self, and_true, true_and, false_and, and_false, or_false, false_or, or_true, true_or, true_implies, false_implies, implies_true, not_true_eq_false, not_false_eq_true, Int.toNat_natCast, Int.cast_ofNat_Int, eq_self, ne_eq, ite_true, ite_false, if_true, if_false, Int.add_sub_cancel, Int.sub_add_cancel, Int.add_zero, Int.zero_add, cast_s, iI_in, iI_lit, iI_le, iI_lt, iI_eq, iI_cl, iI_add, iI_sub, iI_mul, iI_neg, iI_nI, ok_s, ok_ck, ok_bn, ok_ob, ck_iI, bn_eq, ob_s, om_n, om_s, cb_bI, gI_g, gI_2, gJ_1, gJ_g, gJ_2, gR_1, gR_2, gR_g, within_v, in_v, bI_i0, bI_i1, iI_bI0, iI_bI1, bI_T, bI_F, f_X6_sacksOnWay_l4b, h1, e]
  · intro i fu hi ih
    have e : ¬ (sn : Int) ≤ i := by omega
    obtain ⟨w1, w2, w3⟩ := h3 i hi
    have := cnt_le (fun k => ¬ G35.1 146 k = iI 0) i
    show f_X6_sacksOnWay_l4b F (f_X6_sacksOnWay_l4 F fu) G11 _ _ = _
    by_cases c : G35.1 146 i = iI 0
    · rw [cnt_f (p := fun k => ¬ G35.1 146 k = iI 0) (fun z => z c)] at ih
      simp (disch := omega) only [reduceIte, Nat.reduceEqDiff, Nat.reduceAdd, Nat.reduceSub, Nat.reduceMul, Nat.reduceLT, Int.reduceNeg, Int.reduceAdd, Int.reduceSub, Int.reduceMul, Int.reduceLT, Int.reduceLE, Int.reduceEq, Int.reduceToNat, reduceCtorEq, and_self, and_true, true_and, false_and, and_false, or_false, false_or, or_true, true_or, true_implies, false_implies, implies_true, not_true_eq_false, not_false_eq_true, Int.toNat_natCast, Int.cast_ofNat_Int, eq_self, ne_eq, ite_true, ite_false, if_true, if_false, Int.add_sub_cancel, Int.sub_add_cancel, Int.add_zero, Int.zero_add, cast_s, iI_in, iI_lit, iI_le, iI_lt, iI_eq, iI_cl, iI_add, iI_sub, iI_mul, iI_neg, iI_nI, ok_s, ok_ck, ok_bn, ok_ob, ck_iI, bn_eq, ob_s, om_n, om_s, cb_bI, gI_g, gI_2, gJ_1, gJ_g, gJ_2, gR_1, gR_2, gR_g, within_v, in_v, bI_i0, bI_i1, iI_bI0, iI_bI1, bI_T, bI_F, f_X6_sacksOnWay_l4b, h1, e, w3, c]
      exact ih
    · rw [cnt_t (p := fun k => ¬ G35.1 146 k = iI 0) c] at ih
      simp (disch := omega) only [reduceIte, Nat.reduceEqDiff, Nat.reduceAdd, Nat.reduceSub, Nat.reduceMul, Nat.reduceLT, Int.reduceNeg, Int.reduceAdd, Int.reduceSub, Int.reduceMul, Int.reduceLT, Int.reduceLE, Int.reduceEq, Int.reduceToNat, reduceCtorEq, and_self, and_true, true_and, false_and, and_false, or_false, false_or, or_true, true_or, true_implies, false_implies, implies_true, not_true_eq_false, not_false_eq_true, Int.toNat_natCast, Int.cast_ofNat_Int, eq_self, ne_eq, ite_true, ite_false, if_true, if_false, Int.add_sub_cancel, Int.sub_add_cancel, Int.add_zero, Int.zero_add, cast_s] at ih
      simp (disch := omega) only [reduceIte, Nat.reduceEqDiff, Nat.reduceAdd, Nat.reduceSub, Nat.reduceMul, Nat.reduceLT, Int.reduceNeg, Int.reduceAdd, Int.reduceSub, Int.reduceMul, Int.reduceLT, Int.reduceLE, Int.reduceEq, Int.reduceToNat, reduceCtorEq, and_self, and_true, true_and, false_and, and_false, or_false, false_or, or_true, true_or, true_implies, false_implies, implies_true, not_true_eq_false, not_false_eq_true, Int.toNat_natCast, Int.cast_ofNat_Int, eq_self, ne_eq, ite_true, ite_false, if_true, if_false, Int.add_sub_cancel, Int.sub_add_cancel, Int.add_zero, Int.zero_add, cast_s, iI_in, iI_lit, iI_le, iI_lt, iI_eq, iI_cl, iI_add, iI_sub, iI_mul, iI_neg, iI_nI, ok_s, ok_ck, ok_bn, ok_ob, ck_iI, bn_eq, ob_s, om_n, om_s, cb_bI, gI_g, gI_2, gJ_1, gJ_g, gJ_2, gR_1, gR_2, gR_g, within_v, in_v, bI_i0, bI_i1, iI_bI0, iI_bI1, bI_T, bI_F, f_X6_sacksOnWay_l4b, h1, e, w3, c]
      exact ih
theorem wishing_c (h : RWish G20 G42 gn A) (hF : 200000 ≤ F) : f_X10_wishing F G20 = some (iI (cnt (fun k => A k 0 = 1) gn)) := by
  obtain ⟨h1, h2, h3⟩ := id h
  have key := up_ind (n := 16) (Q := fun fu i => f_X10_wishing_l4 F fu G20 (iI (cnt (fun k => A k 0 = 1) i)) (iI i) = some (iI (cnt (fun k => A k 0 = 1) 16))) ?_ ?_
  · have e16 : cnt (fun k => A k 0 = 1) 16 = cnt (fun k => A k 0 = 1) gn := by
      rw [← cnt_cut (p := fun k => A k 0 = 1) (m := gn) 16 h1]
      refine cnt_congr fun i hi => ⟨fun z => ⟨?_, z⟩, fun z => z.2⟩
      by_cases c : i < gn
      · exact c
      · have := (h3 i hi).2.2.2 (by omega)
        omega
    rw [← e16]
    exact key 0 F (by omega) (by omega)
  · intro fu
    have e : (16 : Int) ≤ ((16 : Nat) : Int) := by omega
    show f_X10_wishing_l4b F (f_X10_wishing_l4 F fu) G20 _ _ = _
    simp (disch := omega) only [reduceIte, Nat.reduceEqDiff, Nat.reduceAdd, Nat.reduceSub, Nat.reduceMul, Nat.reduceLT, Int.reduceNeg, Int.reduceAdd, Int.reduceSub, Int.reduceMul, Int.reduceLT, Int.reduceLE, Int.reduceEq, Int.reduceToNat, reduceCtorEq, and_self, and_true, true_and, false_and, and_false, or_false, false_or, or_true, true_or, true_implies, false_implies, implies_true, not_true_eq_false, not_false_eq_true, Int.toNat_natCast, Int.cast_ofNat_Int, eq_self, ne_eq, ite_true, ite_false, if_true, if_false, Int.add_sub_cancel, Int.sub_add_cancel, Int.add_zero, Int.zero_add, cast_s, iI_in, iI_lit, iI_le, iI_lt, iI_eq, iI_cl, iI_add, iI_sub, iI_mul, iI_neg, iI_nI, ok_s, ok_ck, ok_bn, ok_ob, ck_iI, bn_eq, ob_s, om_n, om_s, cb_bI, gI_g, gI_2, gJ_1, gJ_g, gJ_2, gR_1, gR_2, gR_g, within_v, in_v, bI_i0, bI_i1, iI_bI0, iI_bI1, bI_T, bI_F, f_X10_wishing_l4b, e]
  · intro i fu hi ih
    have e : ¬ (16 : Int) ≤ i := by omega
    have w := (h2 i (by omega)).1
    have w2 := (h3 i (by omega)).1
    have := cnt_le (fun k => A k 0 = 1) i
    show f_X10_wishing_l4b F (f_X10_wishing_l4 F fu) G20 _ _ = _
    by_cases c : A i 0 = 1
    · rw [c] at w
      rw [cnt_t (p := fun k => A k 0 = 1) c] at ih
      simp (disch := omega) only [reduceIte, Nat.reduceEqDiff, Nat.reduceAdd, Nat.reduceSub, Nat.reduceMul, Nat.reduceLT, Int.reduceNeg, Int.reduceAdd, Int.reduceSub, Int.reduceMul, Int.reduceLT, Int.reduceLE, Int.reduceEq, Int.reduceToNat, reduceCtorEq, and_self, and_true, true_and, false_and, and_false, or_false, false_or, or_true, true_or, true_implies, false_implies, implies_true, not_true_eq_false, not_false_eq_true, Int.toNat_natCast, Int.cast_ofNat_Int, eq_self, ne_eq, ite_true, ite_false, if_true, if_false, Int.add_sub_cancel, Int.sub_add_cancel, Int.add_zero, Int.zero_add, cast_s] at ih
      simp (disch := omega) only [reduceIte, Nat.reduceEqDiff, Nat.reduceAdd, Nat.reduceSub, Nat.reduceMul, Nat.reduceLT, Int.reduceNeg, Int.reduceAdd, Int.reduceSub, Int.reduceMul, Int.reduceLT, Int.reduceLE, Int.reduceEq, Int.reduceToNat, reduceCtorEq, and_self, and_true, true_and, false_and, and_false, or_false, false_or, or_true, true_or, true_implies, false_implies, implies_true, not_true_eq_false, not_false_eq_true, Int.toNat_natCast, Int.cast_ofNat_Int, eq_self, ne_eq, ite_true, ite_false, if_true, if_false, Int.add_sub_cancel, Int.sub_add_cancel, Int.add_zero, Int.zero_add, cast_s, iI_in, iI_lit, iI_le, iI_lt, iI_eq, iI_cl, iI_add, iI_sub, iI_mul, iI_neg, iI_nI, ok_s, ok_ck, ok_bn, ok_ob, ck_iI, bn_eq, ob_s, om_n, om_s, cb_bI, gI_g, gI_2, gJ_1, gJ_g, gJ_2, gR_1, gR_2, gR_g, within_v, in_v, bI_i0, bI_i1, iI_bI0, iI_bI1, bI_T, bI_F, f_X10_wishing_l4b, e, w]
      exact ih
    · rw [show A i 0 = 0 by omega] at w
      rw [cnt_f (p := fun k => A k 0 = 1) c] at ih
      simp (disch := omega) only [reduceIte, Nat.reduceEqDiff, Nat.reduceAdd, Nat.reduceSub, Nat.reduceMul, Nat.reduceLT, Int.reduceNeg, Int.reduceAdd, Int.reduceSub, Int.reduceMul, Int.reduceLT, Int.reduceLE, Int.reduceEq, Int.reduceToNat, reduceCtorEq, and_self, and_true, true_and, false_and, and_false, or_false, false_or, or_true, true_or, true_implies, false_implies, implies_true, not_true_eq_false, not_false_eq_true, Int.toNat_natCast, Int.cast_ofNat_Int, eq_self, ne_eq, ite_true, ite_false, if_true, if_false, Int.add_sub_cancel, Int.sub_add_cancel, Int.add_zero, Int.zero_add, cast_s, iI_in, iI_lit, iI_le, iI_lt, iI_eq, iI_cl, iI_add, iI_sub, iI_mul, iI_neg, iI_nI, ok_s, ok_ck, ok_bn, ok_ob, ck_iI, bn_eq, ob_s, om_n, om_s, cb_bI, gI_g, gI_2, gJ_1, gJ_g, gJ_2, gR_1, gR_2, gR_g, within_v, in_v, bI_i0, bI_i1, iI_bI0, iI_bI1, bI_T, bI_F, f_X10_wishing_l4b, e, w]
      exact ih
theorem inState_c (hc : LC G10 G13 n ln tp tl L) (hb : LB pn d ln L) (hF : 200000 ≤ F) {s : Int} (hs : 0 ≤ s ∧ s ≤ 8) : f_X6_inState F G10 G13 (iI s) = some (iI (cnt (fun i => L i 8 = s) ln)) := by
  have h0 := hc.1
  have hl := hb.1
  have key := up_ind (n := ln) (Q := fun fu i => f_X6_inState_l4 F fu G10 G13 (iI s) (iI (cnt (fun i => L i 8 = s) i)) (iI i) = some (iI (cnt (fun i => L i 8 = s) ln))) ?_ ?_
  · exact key 0 F (by omega) (by omega)
  · intro fu
    have e : (ln : Int) ≤ ln := Int.le_refl _
    show f_X6_inState_l4b F (f_X6_inState_l4 F fu) G10 G13 _ _ _ = _
    simp (disch := omega) only [reduceIte, Nat.reduceEqDiff, Nat.reduceAdd, Nat.reduceSub, Nat.reduceMul, Nat.reduceLT, Int.reduceNeg, Int.reduceAdd, Int.reduceSub, Int.reduceMul, Int.reduceLT, Int.reduceLE, Int.reduceEq, Int.reduceToNat, reduceCtorEq, and_self, and_true, true_and, false_and, and_false, or_false, false_or, or_true, true_or, true_implies, false_implies, implies_true, not_true_eq_false, not_false_eq_true, Int.toNat_natCast, Int.cast_ofNat_Int, eq_self, ne_eq, ite_true, ite_false, if_true, if_false, Int.add_sub_cancel, Int.sub_add_cancel, Int.add_zero, Int.zero_add, cast_s, iI_in, iI_lit, iI_le, iI_lt, iI_eq, iI_cl, iI_add, iI_sub, iI_mul, iI_neg, iI_nI, ok_s, ok_ck, ok_bn, ok_ob, ck_iI, bn_eq, ob_s, om_n, om_s, cb_bI, gI_g, gI_2, gJ_1, gJ_g, gJ_2, gR_1, gR_2, gR_g, within_v, in_v, bI_i0, bI_i1, iI_bI0, iI_bI1, bI_T, bI_F, f_X6_inState_l4b, h0, e]
  · intro i fu hi ih
    have e : ¬ (ln : Int) ≤ i := by omega
    obtain ⟨p1, p2, p3, p4, p5, p6⟩ := hb.2 i hi
    obtain ⟨q0, q0', q1, q2, q6, q7, q8, q9, q10, q11⟩ := hc.at hi
    have := cnt_le (fun i => L i 8 = s) i
    show f_X6_inState_l4b F (f_X6_inState_l4 F fu) G10 G13 _ _ _ = _
    by_cases c : L i 8 = s
    · rw [cnt_t (p := fun i => L i 8 = s) c] at ih
      simp (disch := omega) only [reduceIte, Nat.reduceEqDiff, Nat.reduceAdd, Nat.reduceSub, Nat.reduceMul, Nat.reduceLT, Int.reduceNeg, Int.reduceAdd, Int.reduceSub, Int.reduceMul, Int.reduceLT, Int.reduceLE, Int.reduceEq, Int.reduceToNat, reduceCtorEq, and_self, and_true, true_and, false_and, and_false, or_false, false_or, or_true, true_or, true_implies, false_implies, implies_true, not_true_eq_false, not_false_eq_true, Int.toNat_natCast, Int.cast_ofNat_Int, eq_self, ne_eq, ite_true, ite_false, if_true, if_false, Int.add_sub_cancel, Int.sub_add_cancel, Int.add_zero, Int.zero_add, cast_s] at ih
      simp (disch := omega) only [reduceIte, Nat.reduceEqDiff, Nat.reduceAdd, Nat.reduceSub, Nat.reduceMul, Nat.reduceLT, Int.reduceNeg, Int.reduceAdd, Int.reduceSub, Int.reduceMul, Int.reduceLT, Int.reduceLE, Int.reduceEq, Int.reduceToNat, reduceCtorEq, and_self, and_true, true_and, false_and, and_false, or_false, false_or, or_true, true_or, true_implies, false_implies, implies_true, not_true_eq_false, not_false_eq_true, Int.toNat_natCast, Int.cast_ofNat_Int, eq_self, ne_eq, ite_true, ite_false, if_true, if_false, Int.add_sub_cancel, Int.sub_add_cancel, Int.add_zero, Int.zero_add, cast_s, iI_in, iI_lit, iI_le, iI_lt, iI_eq, iI_cl, iI_add, iI_sub, iI_mul, iI_neg, iI_nI, ok_s, ok_ck, ok_bn, ok_ob, ck_iI, bn_eq, ob_s, om_n, om_s, cb_bI, gI_g, gI_2, gJ_1, gJ_g, gJ_2, gR_1, gR_2, gR_g, within_v, in_v, bI_i0, bI_i1, iI_bI0, iI_bI1, bI_T, bI_F, f_X6_inState_l4b, h0, e, q0, q8, eq_true c]
      exact ih
    · rw [cnt_f (p := fun i => L i 8 = s) c] at ih
      simp (disch := omega) only [reduceIte, Nat.reduceEqDiff, Nat.reduceAdd, Nat.reduceSub, Nat.reduceMul, Nat.reduceLT, Int.reduceNeg, Int.reduceAdd, Int.reduceSub, Int.reduceMul, Int.reduceLT, Int.reduceLE, Int.reduceEq, Int.reduceToNat, reduceCtorEq, and_self, and_true, true_and, false_and, and_false, or_false, false_or, or_true, true_or, true_implies, false_implies, implies_true, not_true_eq_false, not_false_eq_true, Int.toNat_natCast, Int.cast_ofNat_Int, eq_self, ne_eq, ite_true, ite_false, if_true, if_false, Int.add_sub_cancel, Int.sub_add_cancel, Int.add_zero, Int.zero_add, cast_s, iI_in, iI_lit, iI_le, iI_lt, iI_eq, iI_cl, iI_add, iI_sub, iI_mul, iI_neg, iI_nI, ok_s, ok_ck, ok_bn, ok_ob, ck_iI, bn_eq, ob_s, om_n, om_s, cb_bI, gI_g, gI_2, gJ_1, gJ_g, gJ_2, gR_1, gR_2, gR_g, within_v, in_v, bI_i0, bI_i1, iI_bI0, iI_bI1, bI_T, bI_F, f_X6_inState_l4b, h0, e, q0, q8, c]
      exact ih
theorem inState_m (hm : LM G32 ln L) (hb : LB pn d ln L) (hF : 200000 ≤ F) {s : Int} (hs : 0 ≤ s ∧ s ≤ 8) : f_X12_inState F G32 (iI s) = some (iI (cnt (fun i => L i 8 = s) ln)) := by
  have h0 := hm.1
  have hl := hb.1
  have key := up_ind (n := ln) (Q := fun fu i => f_X12_inState_l4 F fu G32 (iI s) (iI (cnt (fun i => L i 8 = s) i)) (iI i) = some (iI (cnt (fun i => L i 8 = s) ln))) ?_ ?_
  · exact key 0 F (by omega) (by omega)
  · intro fu
    have e : (ln : Int) ≤ ln := Int.le_refl _
    show f_X12_inState_l4b F (f_X12_inState_l4 F fu) G32 _ _ _ = _
    simp (disch := omega) only [reduceIte, Nat.reduceEqDiff, Nat.reduceAdd, Nat.reduceSub, Nat.reduceMul, Nat.reduceLT, Int.reduceNeg, Int.reduceAdd, Int.reduceSub, Int.reduceMul, Int.reduceLT, Int.reduceLE, Int.reduceEq, Int.reduceToNat, reduceCtorEq, and_self, and_true, true_and, false_and, and_false, or_false, false_or, or_true, true_or, true_implies, false_implies, implies_true, not_true_eq_false, not_false_eq_true, Int.toNat_natCast, Int.cast_ofNat_Int, eq_self, ne_eq, ite_true, ite_false, if_true, if_false, Int.add_sub_cancel, Int.sub_add_cancel, Int.add_zero, Int.zero_add, cast_s, iI_in, iI_lit, iI_le, iI_lt, iI_eq, iI_cl, iI_add, iI_sub, iI_mul, iI_neg, iI_nI, ok_s, ok_ck, ok_bn, ok_ob, ck_iI, bn_eq, ob_s, om_n, om_s, cb_bI, gI_g, gI_2, gJ_1, gJ_g, gJ_2, gR_1, gR_2, gR_g, within_v, in_v, bI_i0, bI_i1, iI_bI0, iI_bI1, bI_T, bI_F, f_X12_inState_l4b, h0, e]
  · intro i fu hi ih
    have e : ¬ (ln : Int) ≤ i := by omega
    obtain ⟨p1, p2, p3, p4, p5, p6⟩ := hb.2 i hi
    obtain ⟨m0, m1, m2, m6, m7, m8, m9, m10, m11⟩ := hm.at hi
    have := cnt_le (fun i => L i 8 = s) i
    show f_X12_inState_l4b F (f_X12_inState_l4 F fu) G32 _ _ _ = _
    by_cases c : L i 8 = s
    · rw [cnt_t (p := fun i => L i 8 = s) c] at ih
      simp (disch := omega) only [reduceIte, Nat.reduceEqDiff, Nat.reduceAdd, Nat.reduceSub, Nat.reduceMul, Nat.reduceLT, Int.reduceNeg, Int.reduceAdd, Int.reduceSub, Int.reduceMul, Int.reduceLT, Int.reduceLE, Int.reduceEq, Int.reduceToNat, reduceCtorEq, and_self, and_true, true_and, false_and, and_false, or_false, false_or, or_true, true_or, true_implies, false_implies, implies_true, not_true_eq_false, not_false_eq_true, Int.toNat_natCast, Int.cast_ofNat_Int, eq_self, ne_eq, ite_true, ite_false, if_true, if_false, Int.add_sub_cancel, Int.sub_add_cancel, Int.add_zero, Int.zero_add, cast_s] at ih
      simp (disch := omega) only [reduceIte, Nat.reduceEqDiff, Nat.reduceAdd, Nat.reduceSub, Nat.reduceMul, Nat.reduceLT, Int.reduceNeg, Int.reduceAdd, Int.reduceSub, Int.reduceMul, Int.reduceLT, Int.reduceLE, Int.reduceEq, Int.reduceToNat, reduceCtorEq, and_self, and_true, true_and, false_and, and_false, or_false, false_or, or_true, true_or, true_implies, false_implies, implies_true, not_true_eq_false, not_false_eq_true, Int.toNat_natCast, Int.cast_ofNat_Int, eq_self, ne_eq, ite_true, ite_false, if_true, if_false, Int.add_sub_cancel, Int.sub_add_cancel, Int.add_zero, Int.zero_add, cast_s, iI_in, iI_lit, iI_le, iI_lt, iI_eq, iI_cl, iI_add, iI_sub, iI_mul, iI_neg, iI_nI, ok_s, ok_ck, ok_bn, ok_ob, ck_iI, bn_eq, ob_s, om_n, om_s, cb_bI, gI_g, gI_2, gJ_1, gJ_g, gJ_2, gR_1, gR_2, gR_g, within_v, in_v, bI_i0, bI_i1, iI_bI0, iI_bI1, bI_T, bI_F, f_X12_inState_l4b, h0, e, m8, eq_true c]
      exact ih
    · rw [cnt_f (p := fun i => L i 8 = s) c] at ih
      simp (disch := omega) only [reduceIte, Nat.reduceEqDiff, Nat.reduceAdd, Nat.reduceSub, Nat.reduceMul, Nat.reduceLT, Int.reduceNeg, Int.reduceAdd, Int.reduceSub, Int.reduceMul, Int.reduceLT, Int.reduceLE, Int.reduceEq, Int.reduceToNat, reduceCtorEq, and_self, and_true, true_and, false_and, and_false, or_false, false_or, or_true, true_or, true_implies, false_implies, implies_true, not_true_eq_false, not_false_eq_true, Int.toNat_natCast, Int.cast_ofNat_Int, eq_self, ne_eq, ite_true, ite_false, if_true, if_false, Int.add_sub_cancel, Int.sub_add_cancel, Int.add_zero, Int.zero_add, cast_s, iI_in, iI_lit, iI_le, iI_lt, iI_eq, iI_cl, iI_add, iI_sub, iI_mul, iI_neg, iI_nI, ok_s, ok_ck, ok_bn, ok_ob, ck_iI, bn_eq, ob_s, om_n, om_s, cb_bI, gI_g, gI_2, gJ_1, gJ_g, gJ_2, gR_1, gR_2, gR_g, within_v, in_v, bI_i0, bI_i1, iI_bI0, iI_bI1, bI_T, bI_F, f_X12_inState_l4b, h0, e, m8, c]
      exact ih
theorem call_count {v sp S cnt' r : Nat} {gl rt : Nat → Nat} {dc : Nat → Int} (hf : RFolk G6 G24 vn gn cn) (hp : RPair G7 G9 G25 gn cn d n pn tp P) (ht : RTell G8 G41 cn d tn T) (hn : RNum G2 G26 f) (hc : LC G10 G13 n ln tp tl L) (hm : LM G32 ln L) (hb : LB pn d ln L) (hk : RSack G11 G35 sn) (hw : RTr G16 G37 wn W) (hr : RRul G1 G4 G29 v sp S cnt' r gl rt dc) (ha : RTape G1 G3 G27 z b) (hj : RProj G19 G40 vn jn bl C) (hi : RWish G20 G42 gn A) (hd : d < 3600) (h1 : G1.1 0 0 = iI d) (h23 : G23.1 91 0 = iI d) (hF : 200000 ≤ F) (a : Int32) : ok (f_X11_count F G1 G2 G4 G6 G7 G8 G9 G10 G11 G13 G16 G19 G20 a) (fun q => ok (f_X12_count F G23 G24 G25 G26 G27 G29 G32 G35 G37 G40 G41 G42 a) fun w => q = w) := by
  obtain ⟨a, rfl, a1, a2⟩ := iI_ex a
  by_cases c2 : 20 ≤ a ∧ a ≤ 28
  · have ic := inState_c (F := F) hc hb hF (s := a - 20) (by omega)
    have im := inState_m (F := F) hm hb hF (s := a - 20) (by omega)
    have e0 : ¬ a = 0 := by omega
    have e1 : ¬ a = 1 := by omega
    have e2 : ¬ a = 2 := by omega
    have e3 : ¬ a = 3 := by omega
    have e4 : ¬ a = 4 := by omega
    have e5 : ¬ a = 5 := by omega
    have e6 : ¬ a = 6 := by omega
    have e7 : ¬ a = 7 := by omega
    have e8 : ¬ a = 8 := by omega
    have e9 : ¬ a = 9 := by omega
    have e10 : ¬ a = 10 := by omega
    have e11 : ¬ a = 11 := by omega
    have e12 : ¬ a = 12 := by omega
    have e13 : ¬ a = 13 := by omega
    have e14 : ¬ a = 14 := by omega
    have e15 : ¬ a = 15 := by omega
    simp (disch := omega) only [reduceIte, Nat.reduceEqDiff, Nat.reduceAdd, Nat.reduceSub, Nat.reduceMul, Nat.reduceLT, Int.reduceNeg, Int.reduceAdd, Int.reduceSub, Int.reduceMul, Int.reduceLT, Int.reduceLE, Int.reduceEq, Int.reduceToNat, reduceCtorEq, and_self, and_true, true_and, false_and, and_false, or_false, false_or, or_true, true_or, true_implies, false_implies, implies_true, not_true_eq_false, not_false_eq_true, Int.toNat_natCast, Int.cast_ofNat_Int, eq_self, ne_eq, ite_true, ite_false, if_true, if_false, Int.add_sub_cancel, Int.sub_add_cancel, Int.add_zero, Int.zero_add, cast_s, iI_in, iI_lit, iI_le, iI_lt, iI_eq, iI_cl, iI_add, iI_sub, iI_mul, iI_neg, iI_nI, ok_s, ok_ck, ok_bn, ok_ob, ck_iI, bn_eq, ob_s, om_n, om_s, cb_bI, gI_g, gI_2, gJ_1, gJ_g, gJ_2, gR_1, gR_2, gR_g, within_v, in_v, bI_i0, bI_i1, iI_bI0, iI_bI1, bI_T, bI_F, f_X11_count, f_X12_count, c2, e0, e1, e2, e3, e4, e5, e6, e7, e8, e9, e10, e11, e12, e13, e14, e15, ic, im]
  · by_cases c3 : 30 ≤ a ∧ a ≤ 37
    · have w := hn.1 (a - 30).toNat (by omega)
      have e0 : ¬ a = 0 := by omega
      have e1 : ¬ a = 1 := by omega
      have e2 : ¬ a = 2 := by omega
      have e3 : ¬ a = 3 := by omega
      have e4 : ¬ a = 4 := by omega
      have e5 : ¬ a = 5 := by omega
      have e6 : ¬ a = 6 := by omega
      have e7 : ¬ a = 7 := by omega
      have e8 : ¬ a = 8 := by omega
      have e9 : ¬ a = 9 := by omega
      have e10 : ¬ a = 10 := by omega
      have e11 : ¬ a = 11 := by omega
      have e12 : ¬ a = 12 := by omega
      have e13 : ¬ a = 13 := by omega
      have e14 : ¬ a = 14 := by omega
      have e15 : ¬ a = 15 := by omega
      simp (disch := omega) only [reduceIte, Nat.reduceEqDiff, Nat.reduceAdd, Nat.reduceSub, Nat.reduceMul, Nat.reduceLT, Int.reduceNeg, Int.reduceAdd, Int.reduceSub, Int.reduceMul, Int.reduceLT, Int.reduceLE, Int.reduceEq, Int.reduceToNat, reduceCtorEq, and_self, and_true, true_and, false_and, and_false, or_false, false_or, or_true, true_or, true_implies, false_implies, implies_true, not_true_eq_false, not_false_eq_true, Int.toNat_natCast, Int.cast_ofNat_Int, eq_self, ne_eq, ite_true, ite_false, if_true, if_false, Int.add_sub_cancel, Int.sub_add_cancel, Int.add_zero, Int.zero_add, cast_s, iI_in, iI_lit, iI_le, iI_lt, iI_eq, iI_cl, iI_add, iI_sub, iI_mul, iI_neg, iI_nI, ok_s, ok_ck, ok_bn, ok_ob, ck_iI, bn_eq, ob_s, om_n, om_s, cb_bI, gI_g, gI_2, gJ_1, gJ_g, gJ_2, gR_1, gR_2, gR_g, within_v, in_v, bI_i0, bI_i1, iI_bI0, iI_bI1, bI_T, bI_F, f_X11_count, f_X12_count, c2, c3, e0, e1, e2, e3, e4, e5, e6, e7, e8, e9, e10, e11, e12, e13, e14, e15, w.1, w.2.1]
    · have rl : ∃ v', G1.2.2 0 4 = some v' ∧ G4.1 v' 7 = iI r ∧ G29.1 91 38 = iI r := ⟨v, hr.2.1, hr.2.2.2.2.1, hr.2.2.2.2.2.2.1⟩
      obtain ⟨v', rl1, rl2, rl3⟩ := rl
      obtain ⟨-, -, -, f1, f2, f3, f4, f5, f6, -⟩ := id hf
      have p1 := hp.2.1
      have p2 := hp.2.2.1
      have l1 := hc.1
      have l2 := hm.1
      have s1 := hk.2.1
      have s2 := hk.2.2.1
      have t1 := hw.2.1
      have t2 := hw.2.2.1
      have b1 := ha.2.1
      have b2 := ha.2.2.1
      have j1 := hj.2.1
      have j2 := hj.2.2.1
      have k1 := ht.2.1
      have k2 := ht.2.2.1
      by_cases e0 : a = 0
      · subst e0
        unfold f_X11_count f_X12_count
        rw [within_v, bI_f (by decide +kernel), ob_s, if_p rfl, within_v, bI_f (by decide +kernel), ob_s, if_p rfl, if_p (by decide +kernel), if_p (by decide +kernel), h1, h23]
        rfl
      · by_cases e1 : a = 1
        · subst e1
          unfold f_X11_count f_X12_count
          rw [within_v, bI_f (by decide +kernel), ob_s, if_p rfl, within_v, bI_f (by decide +kernel), ob_s, if_p rfl, if_n (by decide +kernel), if_p (by decide +kernel), if_n (by decide +kernel), if_p (by decide +kernel), f1, f2]
          rfl
        · by_cases e2 : a = 2
          · subst e2
            unfold f_X11_count f_X12_count
            rw [within_v, bI_f (by decide +kernel), ob_s, if_p rfl, within_v, bI_f (by decide +kernel), ob_s, if_p rfl, if_n (by decide +kernel), if_n (by decide +kernel), if_p (by decide +kernel), if_n (by decide +kernel), if_n (by decide +kernel), if_p (by decide +kernel), f3, f4]
            rfl
          · by_cases e3 : a = 3
            · subst e3
              unfold f_X11_count f_X12_count
              rw [within_v, bI_f (by decide +kernel), ob_s, if_p rfl, within_v, bI_f (by decide +kernel), ob_s, if_p rfl, if_n (by decide +kernel), if_n (by decide +kernel), if_n (by decide +kernel), if_p (by decide +kernel), if_n (by decide +kernel), if_n (by decide +kernel), if_n (by decide +kernel), if_p (by decide +kernel), f5, f6]
              rfl
            · by_cases e4 : a = 4
              · subst e4
                unfold f_X11_count f_X12_count
                rw [within_v, bI_f (by decide +kernel), ob_s, if_p rfl, within_v, bI_f (by decide +kernel), ob_s, if_p rfl, if_n (by decide +kernel), if_n (by decide +kernel), if_n (by decide +kernel), if_n (by decide +kernel), if_p (by decide +kernel), if_n (by decide +kernel), if_n (by decide +kernel), if_n (by decide +kernel), if_n (by decide +kernel), if_p (by decide +kernel), p1, p2]
                rfl
              · by_cases e5 : a = 5
                · subst e5
                  have oc := openN_c (F := F) hp hd hF
                  have om := cnt5_m (F := F) (G24 := G24) (G35 := G35) (G40 := G40) (G42 := G42) hp hd hF
                  have om : f_X12_counted F G24 G25 G35 G40 G42 (iI 5) = _ := om
                  simp (disch := omega) only [reduceIte, Nat.reduceEqDiff, Nat.reduceAdd, Nat.reduceSub, Nat.reduceMul, Nat.reduceLT, Int.reduceNeg, Int.reduceAdd, Int.reduceSub, Int.reduceMul, Int.reduceLT, Int.reduceLE, Int.reduceEq, Int.reduceToNat, reduceCtorEq, and_self, and_true, true_and, false_and, and_false, or_false, false_or, or_true, true_or, true_implies, false_implies, implies_true, not_true_eq_false, not_false_eq_true, Int.toNat_natCast, Int.cast_ofNat_Int, eq_self, ne_eq, ite_true, ite_false, if_true, if_false, Int.add_sub_cancel, Int.sub_add_cancel, Int.add_zero, Int.zero_add, cast_s, iI_in, iI_lit, iI_le, iI_lt, iI_eq, iI_cl, iI_add, iI_sub, iI_mul, iI_neg, iI_nI, ok_s, ok_ck, ok_bn, ok_ob, ck_iI, bn_eq, ob_s, om_n, om_s, cb_bI, gI_g, gI_2, gJ_1, gJ_g, gJ_2, gR_1, gR_2, gR_g, within_v, in_v, bI_i0, bI_i1, iI_bI0, iI_bI1, bI_T, bI_F, f_X11_count, f_X12_count, oc, om]
                · by_cases e6 : a = 6
                  · skip
                    simp (disch := omega) only [reduceIte, Nat.reduceEqDiff, Nat.reduceAdd, Nat.reduceSub, Nat.reduceMul, Nat.reduceLT, Int.reduceNeg, Int.reduceAdd, Int.reduceSub, Int.reduceMul, Int.reduceLT, Int.reduceLE, Int.reduceEq, Int.reduceToNat, reduceCtorEq, and_self, and_true, true_and, false_and, and_false, or_false, false_or, or_true, true_or, true_implies, false_implies, implies_true, not_true_eq_false, not_false_eq_true, Int.toNat_natCast, Int.cast_ofNat_Int, eq_self, ne_eq, ite_true, ite_false, if_true, if_false, Int.add_sub_cancel, Int.sub_add_cancel, Int.add_zero, Int.zero_add, cast_s, iI_in, iI_lit, iI_le, iI_lt, iI_eq, iI_cl, iI_add, iI_sub, iI_mul, iI_neg, iI_nI, ok_s, ok_ck, ok_bn, ok_ob, ck_iI, bn_eq, ob_s, om_n, om_s, cb_bI, gI_g, gI_2, gJ_1, gJ_g, gJ_2, gR_1, gR_2, gR_g, within_v, in_v, bI_i0, bI_i1, iI_bI0, iI_bI1, bI_T, bI_F, f_X11_count, f_X12_count, c2, c3, e0, e1, e2, e3, e4, e5, eq_true e6, l1, l2]
                  · by_cases e7 : a = 7
                    · skip
                      simp (disch := omega) only [reduceIte, Nat.reduceEqDiff, Nat.reduceAdd, Nat.reduceSub, Nat.reduceMul, Nat.reduceLT, Int.reduceNeg, Int.reduceAdd, Int.reduceSub, Int.reduceMul, Int.reduceLT, Int.reduceLE, Int.reduceEq, Int.reduceToNat, reduceCtorEq, and_self, and_true, true_and, false_and, and_false, or_false, false_or, or_true, true_or, true_implies, false_implies, implies_true, not_true_eq_false, not_false_eq_true, Int.toNat_natCast, Int.cast_ofNat_Int, eq_self, ne_eq, ite_true, ite_false, if_true, if_false, Int.add_sub_cancel, Int.sub_add_cancel, Int.add_zero, Int.zero_add, cast_s, iI_in, iI_lit, iI_le, iI_lt, iI_eq, iI_cl, iI_add, iI_sub, iI_mul, iI_neg, iI_nI, ok_s, ok_ck, ok_bn, ok_ob, ck_iI, bn_eq, ob_s, om_n, om_s, cb_bI, gI_g, gI_2, gJ_1, gJ_g, gJ_2, gR_1, gR_2, gR_g, within_v, in_v, bI_i0, bI_i1, iI_bI0, iI_bI1, bI_T, bI_F, f_X11_count, f_X12_count, c2, c3, e0, e1, e2, e3, e4, e5, e6, eq_true e7, s1, s2]
                    · by_cases e8 : a = 8
                      · subst e8
                        have oc := sacks_c (F := F) hk hF
                        have om := cnt8_m (F := F) (G24 := G24) (G25 := G25) (G40 := G40) (G42 := G42) hk hF
                        have om : f_X12_counted F G24 G25 G35 G40 G42 (iI 8) = _ := om
                        simp (disch := omega) only [reduceIte, Nat.reduceEqDiff, Nat.reduceAdd, Nat.reduceSub, Nat.reduceMul, Nat.reduceLT, Int.reduceNeg, Int.reduceAdd, Int.reduceSub, Int.reduceMul, Int.reduceLT, Int.reduceLE, Int.reduceEq, Int.reduceToNat, reduceCtorEq, and_self, and_true, true_and, false_and, and_false, or_false, false_or, or_true, true_or, true_implies, false_implies, implies_true, not_true_eq_false, not_false_eq_true, Int.toNat_natCast, Int.cast_ofNat_Int, eq_self, ne_eq, ite_true, ite_false, if_true, if_false, Int.add_sub_cancel, Int.sub_add_cancel, Int.add_zero, Int.zero_add, cast_s, iI_in, iI_lit, iI_le, iI_lt, iI_eq, iI_cl, iI_add, iI_sub, iI_mul, iI_neg, iI_nI, ok_s, ok_ck, ok_bn, ok_ob, ck_iI, bn_eq, ob_s, om_n, om_s, cb_bI, gI_g, gI_2, gJ_1, gJ_g, gJ_2, gR_1, gR_2, gR_g, within_v, in_v, bI_i0, bI_i1, iI_bI0, iI_bI1, bI_T, bI_F, f_X11_count, f_X12_count, oc, om]
                      · by_cases e9 : a = 9
                        · skip
                          simp (disch := omega) only [reduceIte, Nat.reduceEqDiff, Nat.reduceAdd, Nat.reduceSub, Nat.reduceMul, Nat.reduceLT, Int.reduceNeg, Int.reduceAdd, Int.reduceSub, Int.reduceMul, Int.reduceLT, Int.reduceLE, Int.reduceEq, Int.reduceToNat, reduceCtorEq, and_self, and_true, true_and, false_and, and_false, or_false, false_or, or_true, true_or, true_implies, false_implies, implies_true, not_true_eq_false, not_false_eq_true, Int.toNat_natCast, Int.cast_ofNat_Int, eq_self, ne_eq, ite_true, ite_false, if_true, if_false, Int.add_sub_cancel, Int.sub_add_cancel, Int.add_zero, Int.zero_add, cast_s, iI_in, iI_lit, iI_le, iI_lt, iI_eq, iI_cl, iI_add, iI_sub, iI_mul, iI_neg, iI_nI, ok_s, ok_ck, ok_bn, ok_ob, ck_iI, bn_eq, ob_s, om_n, om_s, cb_bI, gI_g, gI_2, gJ_1, gJ_g, gJ_2, gR_1, gR_2, gR_g, within_v, in_v, bI_i0, bI_i1, iI_bI0, iI_bI1, bI_T, bI_F, f_X11_count, f_X12_count, c2, c3, e0, e1, e2, e3, e4, e5, e6, e7, e8, eq_true e9, t1, t2]
                        · by_cases e10 : a = 10
                          · skip
                            simp (disch := omega) only [reduceIte, Nat.reduceEqDiff, Nat.reduceAdd, Nat.reduceSub, Nat.reduceMul, Nat.reduceLT, Int.reduceNeg, Int.reduceAdd, Int.reduceSub, Int.reduceMul, Int.reduceLT, Int.reduceLE, Int.reduceEq, Int.reduceToNat, reduceCtorEq, and_self, and_true, true_and, false_and, and_false, or_false, false_or, or_true, true_or, true_implies, false_implies, implies_true, not_true_eq_false, not_false_eq_true, Int.toNat_natCast, Int.cast_ofNat_Int, eq_self, ne_eq, ite_true, ite_false, if_true, if_false, Int.add_sub_cancel, Int.sub_add_cancel, Int.add_zero, Int.zero_add, cast_s, iI_in, iI_lit, iI_le, iI_lt, iI_eq, iI_cl, iI_add, iI_sub, iI_mul, iI_neg, iI_nI, ok_s, ok_ck, ok_bn, ok_ob, ck_iI, bn_eq, ob_s, om_n, om_s, cb_bI, gI_g, gI_2, gJ_1, gJ_g, gJ_2, gR_1, gR_2, gR_g, within_v, in_v, bI_i0, bI_i1, iI_bI0, iI_bI1, bI_T, bI_F, f_X11_count, f_X12_count, c2, c3, e0, e1, e2, e3, e4, e5, e6, e7, e8, e9, eq_true e10, rl1, rl2, rl3]
                          · by_cases e11 : a = 11
                            · skip
                              simp (disch := omega) only [reduceIte, Nat.reduceEqDiff, Nat.reduceAdd, Nat.reduceSub, Nat.reduceMul, Nat.reduceLT, Int.reduceNeg, Int.reduceAdd, Int.reduceSub, Int.reduceMul, Int.reduceLT, Int.reduceLE, Int.reduceEq, Int.reduceToNat, reduceCtorEq, and_self, and_true, true_and, false_and, and_false, or_false, false_or, or_true, true_or, true_implies, false_implies, implies_true, not_true_eq_false, not_false_eq_true, Int.toNat_natCast, Int.cast_ofNat_Int, eq_self, ne_eq, ite_true, ite_false, if_true, if_false, Int.add_sub_cancel, Int.sub_add_cancel, Int.add_zero, Int.zero_add, cast_s, iI_in, iI_lit, iI_le, iI_lt, iI_eq, iI_cl, iI_add, iI_sub, iI_mul, iI_neg, iI_nI, ok_s, ok_ck, ok_bn, ok_ob, ck_iI, bn_eq, ob_s, om_n, om_s, cb_bI, gI_g, gI_2, gJ_1, gJ_g, gJ_2, gR_1, gR_2, gR_g, within_v, in_v, bI_i0, bI_i1, iI_bI0, iI_bI1, bI_T, bI_F, f_X11_count, f_X12_count, c2, c3, e0, e1, e2, e3, e4, e5, e6, e7, e8, e9, e10, eq_true e11, b1, b2]
                            · by_cases e12 : a = 12
                              · skip
                                simp (disch := omega) only [reduceIte, Nat.reduceEqDiff, Nat.reduceAdd, Nat.reduceSub, Nat.reduceMul, Nat.reduceLT, Int.reduceNeg, Int.reduceAdd, Int.reduceSub, Int.reduceMul, Int.reduceLT, Int.reduceLE, Int.reduceEq, Int.reduceToNat, reduceCtorEq, and_self, and_true, true_and, false_and, and_false, or_false, false_or, or_true, true_or, true_implies, false_implies, implies_true, not_true_eq_false, not_false_eq_true, Int.toNat_natCast, Int.cast_ofNat_Int, eq_self, ne_eq, ite_true, ite_false, if_true, if_false, Int.add_sub_cancel, Int.sub_add_cancel, Int.add_zero, Int.zero_add, cast_s, iI_in, iI_lit, iI_le, iI_lt, iI_eq, iI_cl, iI_add, iI_sub, iI_mul, iI_neg, iI_nI, ok_s, ok_ck, ok_bn, ok_ob, ck_iI, bn_eq, ob_s, om_n, om_s, cb_bI, gI_g, gI_2, gJ_1, gJ_g, gJ_2, gR_1, gR_2, gR_g, within_v, in_v, bI_i0, bI_i1, iI_bI0, iI_bI1, bI_T, bI_F, f_X11_count, f_X12_count, c2, c3, e0, e1, e2, e3, e4, e5, e6, e7, e8, e9, e10, e11, eq_true e12, j1, j2]
                              · by_cases e13 : a = 13
                                · subst e13
                                  obtain ⟨g1, g2, g3, g4, g5, -⟩ := id hj
                                  have q : bl < 65536 := Nat.lt_of_lt_of_le g5 (pw_le (m := 16) (by omega))
                                  have oc := bitCount_v F q
                                  rw [pop_more g5 (by omega)] at oc
                                  have om := cnt13_m (F := F) (G24 := G24) (G25 := G25) (G35 := G35) (G42 := G42) hj hF
                                  have om : f_X12_counted F G24 G25 G35 G40 G42 (iI 13) = _ := om
                                  simp (disch := omega) only [reduceIte, Nat.reduceEqDiff, Nat.reduceAdd, Nat.reduceSub, Nat.reduceMul, Nat.reduceLT, Int.reduceNeg, Int.reduceAdd, Int.reduceSub, Int.reduceMul, Int.reduceLT, Int.reduceLE, Int.reduceEq, Int.reduceToNat, reduceCtorEq, and_self, and_true, true_and, false_and, and_false, or_false, false_or, or_true, true_or, true_implies, false_implies, implies_true, not_true_eq_false, not_false_eq_true, Int.toNat_natCast, Int.cast_ofNat_Int, eq_self, ne_eq, ite_true, ite_false, if_true, if_false, Int.add_sub_cancel, Int.sub_add_cancel, Int.add_zero, Int.zero_add, cast_s, iI_in, iI_lit, iI_le, iI_lt, iI_eq, iI_cl, iI_add, iI_sub, iI_mul, iI_neg, iI_nI, ok_s, ok_ck, ok_bn, ok_ob, ck_iI, bn_eq, ob_s, om_n, om_s, cb_bI, gI_g, gI_2, gJ_1, gJ_g, gJ_2, gR_1, gR_2, gR_g, within_v, in_v, bI_i0, bI_i1, iI_bI0, iI_bI1, bI_T, bI_F, f_X11_count, f_X12_count, g4, oc, om]
                                · by_cases e14 : a = 14
                                  · subst e14
                                    have oc := wishing_c (F := F) hi hF
                                    have om := cnt14_m (F := F) (G25 := G25) (G35 := G35) (G40 := G40) hf hi hF
                                    have om : f_X12_counted F G24 G25 G35 G40 G42 (iI 14) = _ := om
                                    simp (disch := omega) only [reduceIte, Nat.reduceEqDiff, Nat.reduceAdd, Nat.reduceSub, Nat.reduceMul, Nat.reduceLT, Int.reduceNeg, Int.reduceAdd, Int.reduceSub, Int.reduceMul, Int.reduceLT, Int.reduceLE, Int.reduceEq, Int.reduceToNat, reduceCtorEq, and_self, and_true, true_and, false_and, and_false, or_false, false_or, or_true, true_or, true_implies, false_implies, implies_true, not_true_eq_false, not_false_eq_true, Int.toNat_natCast, Int.cast_ofNat_Int, eq_self, ne_eq, ite_true, ite_false, if_true, if_false, Int.add_sub_cancel, Int.sub_add_cancel, Int.add_zero, Int.zero_add, cast_s, iI_in, iI_lit, iI_le, iI_lt, iI_eq, iI_cl, iI_add, iI_sub, iI_mul, iI_neg, iI_nI, ok_s, ok_ck, ok_bn, ok_ob, ck_iI, bn_eq, ob_s, om_n, om_s, cb_bI, gI_g, gI_2, gJ_1, gJ_g, gJ_2, gR_1, gR_2, gR_g, within_v, in_v, bI_i0, bI_i1, iI_bI0, iI_bI1, bI_T, bI_F, f_X11_count, f_X12_count, oc, om]
                                  · by_cases e15 : a = 15
                                    · skip
                                      simp (disch := omega) only [reduceIte, Nat.reduceEqDiff, Nat.reduceAdd, Nat.reduceSub, Nat.reduceMul, Nat.reduceLT, Int.reduceNeg, Int.reduceAdd, Int.reduceSub, Int.reduceMul, Int.reduceLT, Int.reduceLE, Int.reduceEq, Int.reduceToNat, reduceCtorEq, and_self, and_true, true_and, false_and, and_false, or_false, false_or, or_true, true_or, true_implies, false_implies, implies_true, not_true_eq_false, not_false_eq_true, Int.toNat_natCast, Int.cast_ofNat_Int, eq_self, ne_eq, ite_true, ite_false, if_true, if_false, Int.add_sub_cancel, Int.sub_add_cancel, Int.add_zero, Int.zero_add, cast_s, iI_in, iI_lit, iI_le, iI_lt, iI_eq, iI_cl, iI_add, iI_sub, iI_mul, iI_neg, iI_nI, ok_s, ok_ck, ok_bn, ok_ob, ck_iI, bn_eq, ob_s, om_n, om_s, cb_bI, gI_g, gI_2, gJ_1, gJ_g, gJ_2, gR_1, gR_2, gR_g, within_v, in_v, bI_i0, bI_i1, iI_bI0, iI_bI1, bI_T, bI_F, f_X11_count, f_X12_count, c2, c3, e0, e1, e2, e3, e4, e5, e6, e7, e8, e9, e10, e11, e12, e13, e14, eq_true e15, k1, k2]
                                    · skip
                                      simp (disch := omega) only [reduceIte, Nat.reduceEqDiff, Nat.reduceAdd, Nat.reduceSub, Nat.reduceMul, Nat.reduceLT, Int.reduceNeg, Int.reduceAdd, Int.reduceSub, Int.reduceMul, Int.reduceLT, Int.reduceLE, Int.reduceEq, Int.reduceToNat, reduceCtorEq, and_self, and_true, true_and, false_and, and_false, or_false, false_or, or_true, true_or, true_implies, false_implies, implies_true, not_true_eq_false, not_false_eq_true, Int.toNat_natCast, Int.cast_ofNat_Int, eq_self, ne_eq, ite_true, ite_false, if_true, if_false, Int.add_sub_cancel, Int.sub_add_cancel, Int.add_zero, Int.zero_add, cast_s, iI_in, iI_lit, iI_le, iI_lt, iI_eq, iI_cl, iI_add, iI_sub, iI_mul, iI_neg, iI_nI, ok_s, ok_ck, ok_bn, ok_ob, ck_iI, bn_eq, ob_s, om_n, om_s, cb_bI, gI_g, gI_2, gJ_1, gJ_g, gJ_2, gR_1, gR_2, gR_g, within_v, in_v, bI_i0, bI_i1, iI_bI0, iI_bI1, bI_T, bI_F, f_X11_count, f_X12_count, c2, c3, e0, e1, e2, e3, e4, e5, e6, e7, e8, e9, e10, e11, e12, e13, e14, e15]
end PR
