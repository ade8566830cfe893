/-! a day: letters that come, sacks that go -/
section PR
variable {F : Nat} {G1 G2 G3 G4 G5 G6 G7 G8 G9 G10 G11 G12 G13 G14 G15 G23 G24 G25 G26 G32 G33 G34 G35 G36 G41 : Grp} {vn gn cn d n pn ln tn sn : Nat} {tp tl Ln : Nat → Nat} {P L T : Nat → Nat → Int} {X : Nat → Nat → Nat} {f : Nat → Int}
theorem bring_both (hf : RFolk G6 G24 vn gn cn) (hp : RPair G7 G9 G25 gn cn d n pn tp P) (hc : LC G10 G13 n ln tp tl L) (hm : LM G32 ln L) (hb : LB pn d ln L) (hs : RSil pn d ln P L) (hw : WT sn ln L) (hd : d < 3600) (h23 : G23.1 91 0 = iI d) (hF : 200000 ≤ F) : ∃ G9' G13' G32' P' L', f_X6_bring F G6 G9 G10 G13 (iI d) = some (G9', G13') ∧ f_X12_lettersCome F G23 G24 G25 G32 = some G32' ∧ RPair G7 G9' G25 gn cn d n pn tp P' ∧ LC G10 G13' n ln tp tl L' ∧ LM G32' ln L' ∧ LB pn d ln L' ∧ RSil pn d ln P' L' ∧ WT sn ln L' ∧ KX ln L L' G32 G32' := by
  have hl := hb.1
  have hpn := hp.1
  have h0 := hc.1
  have key := up_ind (n := ln) (Q := fun fu i => ∀ G9 G13 G32 P L, RPair G7 G9 G25 gn cn d n pn tp P → LC G10 G13 n ln tp tl L → LM G32 ln L → LB pn d ln L → RSil pn d ln P L → WT sn ln L → ∃ G9' G13' G32' P' L', f_X6_bring_l2 F fu G6 G9 G10 G13 (iI d) (iI i) = some (G9', G13') ∧ f_X12_lettersCome_l2 F fu G23 G24 G25 G32 (iI i) = some G32' ∧ RPair G7 G9' G25 gn cn d n pn tp P' ∧ LC G10 G13' n ln tp tl L' ∧ LM G32' ln L' ∧ LB pn d ln L' ∧ RSil pn d ln P' L' ∧ WT sn ln L' ∧ KX ln L L' G32 G32') ?_ ?_
  · exact key 0 F (by omega) (by omega) G9 G13 G32 P L hp hc hm hb hs hw
  · intro fu G9 G13 G32 P L hp hc hm hb hs hw
    have m0 := hm.1
    have e : (ln : Int) ≤ ln := Int.le_refl _
    refine ⟨G9, G13, G32, P, L, ?_, ?_, hp, hc, hm, hb, hs, hw, KX.rf⟩
    · show f_X6_bring_l2b F (f_X6_bring_l2 F fu) G6 G9 G10 G13 _ _ = _
      simp (disch := omega) only [reduceIte, Nat.reduceEqDiff, Nat.reduceAdd, Nat.reduceSub, Nat.reduceMul, Nat.reduceLT, Int.reduceNeg, Int.reduceAdd, Int.reduceSub, Int.reduceMul, Int.reduceLT, Int.reduceLE, Int.reduceEq, Int.reduceToNat, reduceCtorEq, and_self, and_true, true_and, false_and, and_false, or_false, false_or, or_true, true_or, true_implies, false_implies, implies_true, not_true_eq_false, not_false_eq_true, Int.toNat_natCast, Int.cast_ofNat_Int, eq_self, ne_eq, ite_true, ite_false, if_true, if_false, Int.add_sub_cancel, Int.sub_add_cancel, Int.add_zero, Int.zero_add, cast_s, iI_in, iI_lit, iI_le, iI_lt, iI_eq, iI_cl, iI_add, iI_sub, iI_mul, iI_neg, iI_nI, ok_s, ok_ck, ok_bn, ok_ob, ck_iI, bn_eq, ob_s, om_n, om_s, cb_bI, gI_g, gI_2, gJ_1, gJ_g, gJ_2, gR_1, gR_2, gR_g, within_v, in_v, bI_i0, bI_i1, iI_bI0, iI_bI1, bI_T, bI_F, f_X6_bring_l2b, h0, e]
    · show f_X12_lettersCome_l2b F (f_X12_lettersCome_l2 F fu) G23 G24 G25 G32 _ = _
      simp (disch := omega) only [reduceIte, Nat.reduceEqDiff, Nat.reduceAdd, Nat.reduceSub, Nat.reduceMul, Nat.reduceLT, Int.reduceNeg, Int.reduceAdd, Int.reduceSub, Int.reduceMul, Int.reduceLT, Int.reduceLE, Int.reduceEq, Int.reduceToNat, reduceCtorEq, and_self, and_true, true_and, false_and, and_false, or_false, false_or, or_true, true_or, true_implies, false_implies, implies_true, not_true_eq_false, not_false_eq_true, Int.toNat_natCast, Int.cast_ofNat_Int, eq_self, ne_eq, ite_true, ite_false, if_true, if_false, Int.add_sub_cancel, Int.sub_add_cancel, Int.add_zero, Int.zero_add, cast_s, iI_in, iI_lit, iI_le, iI_lt, iI_eq, iI_cl, iI_add, iI_sub, iI_mul, iI_neg, iI_nI, ok_s, ok_ck, ok_bn, ok_ob, ck_iI, bn_eq, ob_s, om_n, om_s, cb_bI, gI_g, gI_2, gJ_1, gJ_g, gJ_2, gR_1, gR_2, gR_g, within_v, in_v, bI_i0, bI_i1, iI_bI0, iI_bI1, bI_T, bI_F, f_X12_lettersCome_l2b, m0, e]
  · intro i fu hi ih G9 G13 G32 P L hp hc hm hb hs hw
    have m0 := hm.1
    have e : ¬ (ln : Int) ≤ i := by omega
    obtain ⟨p1, p2, p3, p4, p5, p6⟩ := hb.2 i hi
    obtain ⟨q0, q0', q1, q2, q6, q7, q8, q9, q10, q11⟩ := hc.at hi
    obtain ⟨m0', m1, m2, m6, m7, m8, m9, m10, m11⟩ := hm.at hi
    have hpi : (L i 0).toNat < pn := by omega
    have hL0 : L i 0 = ((L i 0).toNat : Nat) := by omega
    have pr := hp.2.2.2.1 (L i 0).toNat hpi
    have pb := hp.2.2.2.2.1 (L i 0).toNat hpi
    have rr2 := pr.2.2.1 2 (by omega)
    have r2' := pr.2.2.2.2.1
    have ioc := isOpen_c (F := F) hp hd hpi
    have iom := isOpen_m (F := F) hp hd hpi
    obtain ⟨v1, v2, v3, v4, v5, v6, v7, v8, v9, va, vb, vc⟩ := id hf
    obtain ⟨u1, u2, u3, u4, ⟨v, u5, u6⟩, u7, u8⟩ := vc (P (L i 0).toNat 2).toNat (by omega)
    have u0 := (va v u5).1
    rw [u6] at u1
    have skip : ∃ G9' G13' G32' P' L', f_X6_bring_l2 F fu G6 G9 G10 G13 (iI d) (iI ((i : Int) + 1)) = some (G9', G13') ∧ f_X12_lettersCome_l2 F fu G23 G24 G25 G32 (iI ((i : Int) + 1)) = some G32' ∧ RPair G7 G9' G25 gn cn d n pn tp P' ∧ LC G10 G13' n ln tp tl L' ∧ LM G32' ln L' ∧ LB pn d ln L' ∧ RSil pn d ln P' L' ∧ WT sn ln L' ∧ KX ln L L' G32 G32' := ih G9 G13 G32 P L hp hc hm hb hs hw
    have come : ∀ s : Int, (s = 6 ∨ s = 7) → ∀ G9a Pa, RPair G7 G9a G25 gn cn d n pn tp Pa → RSil pn d ln Pa (mv L i s d) → L i 8 = 5 → ∃ G9' G13' G32' P' L', f_X6_bring_l2 F fu G6 G9a G10 (gI (gI G13 (tl i) 8 (iI s)) (tl i) 9 (iI d)) (iI d) (iI ((i : Int) + 1)) = some (G9', G13') ∧ f_X12_lettersCome_l2 F fu G23 G24 G25 (gI (gI G32 135 i (iI s)) 136 i (iI d)) (iI ((i : Int) + 1)) = some G32' ∧ RPair G7 G9' G25 gn cn d n pn tp P' ∧ LC G10 G13' n ln tp tl L' ∧ LM G32' ln L' ∧ LB pn d ln L' ∧ RSil pn d ln P' L' ∧ WT sn ln L' ∧ KX ln L L' G32 G32' := by
      intro s hs6 G9a Pa hpa hsa h5
      obtain ⟨G9', G13', G32', P', L', r1, r2, r3, r4, r5, r6, r7, r8, r9⟩ := ih G9a _ _ Pa _ hpa (mv_c hc hi s d) (mv_m hm hi s d) (mv_b (i := i) hb (by omega)) hsa (hw.mvW (by omega) (by omega))
      refine ⟨G9', G13', G32', P', L', r1, r2, r3, r4, r5, r6, r7, r8, KX.tr ⟨fun j _ => mv_o (Or.inr (by omega)), fun k => ?_⟩ r9⟩
      rw [gI_g, gI_g, if_neg (by omega), if_neg (by omega)]
    by_cases c5 : L i 8 = 5
    · by_cases cw : iI ((d : Int) - L i 9) < G24.1 92 v
      · obtain ⟨G9', G13', G32', P', L', r1, r2, r3⟩ := skip
        refine ⟨G9', G13', G32', P', L', ?_, ?_, r3⟩
        · show f_X6_bring_l2b F (f_X6_bring_l2 F fu) G6 G9 G10 G13 _ _ = _
          simp (disch := omega) only [reduceIte, Nat.reduceEqDiff, Nat.reduceAdd, Nat.reduceSub, Nat.reduceMul, Nat.reduceLT, Int.reduceNeg, Int.reduceAdd, Int.reduceSub, Int.reduceMul, Int.reduceLT, Int.reduceLE, Int.reduceEq, Int.reduceToNat, reduceCtorEq, and_self, and_true, true_and, false_and, and_false, or_false, false_or, or_true, true_or, true_implies, false_implies, implies_true, not_true_eq_false, not_false_eq_true, Int.toNat_natCast, Int.cast_ofNat_Int, eq_self, ne_eq, ite_true, ite_false, if_true, if_false, Int.add_sub_cancel, Int.sub_add_cancel, Int.add_zero, Int.zero_add, cast_s, iI_in, iI_lit, iI_le, iI_lt, iI_eq, iI_cl, iI_add, iI_sub, iI_mul, iI_neg, iI_nI, ok_s, ok_ck, ok_bn, ok_ob, ck_iI, bn_eq, ob_s, om_n, om_s, cb_bI, gI_g, gI_2, gJ_1, gJ_g, gJ_2, gR_1, gR_2, gR_g, within_v, in_v, bI_i0, bI_i1, iI_bI0, iI_bI1, bI_T, bI_F, f_X6_bring_l2b, h0, e, q0, q0', rr2, u1, q8, c5, q9, u0, cw]
          exact r1
        · show f_X12_lettersCome_l2b F (f_X12_lettersCome_l2 F fu) G23 G24 G25 G32 _ = _
          simp (disch := omega) only [reduceIte, Nat.reduceEqDiff, Nat.reduceAdd, Nat.reduceSub, Nat.reduceMul, Nat.reduceLT, Int.reduceNeg, Int.reduceAdd, Int.reduceSub, Int.reduceMul, Int.reduceLT, Int.reduceLE, Int.reduceEq, Int.reduceToNat, reduceCtorEq, and_self, and_true, true_and, false_and, and_false, or_false, false_or, or_true, true_or, true_implies, false_implies, implies_true, not_true_eq_false, not_false_eq_true, Int.toNat_natCast, Int.cast_ofNat_Int, eq_self, ne_eq, ite_true, ite_false, if_true, if_false, Int.add_sub_cancel, Int.sub_add_cancel, Int.add_zero, Int.zero_add, cast_s, iI_in, iI_lit, iI_le, iI_lt, iI_eq, iI_cl, iI_add, iI_sub, iI_mul, iI_neg, iI_nI, ok_s, ok_ck, ok_bn, ok_ob, ck_iI, bn_eq, ob_s, om_n, om_s, cb_bI, gI_g, gI_2, gJ_1, gJ_g, gJ_2, gR_1, gR_2, gR_g, within_v, in_v, bI_i0, bI_i1, iI_bI0, iI_bI1, bI_T, bI_F, f_X12_lettersCome_l2b, m0, e, m0', r2', u6, m8, c5, m9, h23, cw]
          exact r2
      · obtain ⟨x, fx, xe, x01⟩ := flo_v (F := F) hf u5 hd
        rcases x01 with x0 | x1
        · rw [x0] at fx xe
          have fx : f_X3_isFlooded F G6 (iI v) (iI d) = some (iI 0) := fx
          by_cases co : P (L i 0).toNat 4 = -1
          · rw [bI_t co] at ioc iom
            have mm := moves_m (F := F) (G32 := G32) hl h23 hi 6
            by_cases c1 : L i 1 = 0
            · obtain ⟨G9', G13', G32', P', L', r1, r2, r3⟩ := come 6 (Or.inl rfl) (gI G9 (tp (L i 0).toNat) 8 (iI d)) (stP P (L i 0).toNat 8 d) (hp.cls hpi (Or.inr rfl)) (come_sil hs hb hp hi c5 c1) c5
              refine ⟨G9', G13', G32', P', L', ?_, ?_, r3⟩
              · show f_X6_bring_l2b F (f_X6_bring_l2 F fu) G6 G9 G10 G13 _ _ = _
                simp (disch := omega) only [reduceIte, Nat.reduceEqDiff, Nat.reduceAdd, Nat.reduceSub, Nat.reduceMul, Nat.reduceLT, Int.reduceNeg, Int.reduceAdd, Int.reduceSub, Int.reduceMul, Int.reduceLT, Int.reduceLE, Int.reduceEq, Int.reduceToNat, reduceCtorEq, and_self, and_true, true_and, false_and, and_false, or_false, false_or, or_true, true_or, true_implies, false_implies, implies_true, not_true_eq_false, not_false_eq_true, Int.toNat_natCast, Int.cast_ofNat_Int, eq_self, ne_eq, ite_true, ite_false, if_true, if_false, Int.add_sub_cancel, Int.sub_add_cancel, Int.add_zero, Int.zero_add, cast_s, iI_in, iI_lit, iI_le, iI_lt, iI_eq, iI_cl, iI_add, iI_sub, iI_mul, iI_neg, iI_nI, ok_s, ok_ck, ok_bn, ok_ob, ck_iI, bn_eq, ob_s, om_n, om_s, cb_bI, gI_g, gI_2, gJ_1, gJ_g, gJ_2, gR_1, gR_2, gR_g, within_v, in_v, bI_i0, bI_i1, iI_bI0, iI_bI1, bI_T, bI_F, f_X6_bring_l2b, f_X6_bring_b95, f_X4_move, h0, e, q0, q0', rr2, u1, q8, c5, q9, u0, cw, fx, ioc, q1, c1]
                exact r1
              · show f_X12_lettersCome_l2b F (f_X12_lettersCome_l2 F fu) G23 G24 G25 G32 _ = _
                rw [hL0] at m0'
                simp (disch := omega) only [reduceIte, Nat.reduceEqDiff, Nat.reduceAdd, Nat.reduceSub, Nat.reduceMul, Nat.reduceLT, Int.reduceNeg, Int.reduceAdd, Int.reduceSub, Int.reduceMul, Int.reduceLT, Int.reduceLE, Int.reduceEq, Int.reduceToNat, reduceCtorEq, and_self, and_true, true_and, false_and, and_false, or_false, false_or, or_true, true_or, true_implies, false_implies, implies_true, not_true_eq_false, not_false_eq_true, Int.toNat_natCast, Int.cast_ofNat_Int, eq_self, ne_eq, ite_true, ite_false, if_true, if_false, Int.add_sub_cancel, Int.sub_add_cancel, Int.add_zero, Int.zero_add, cast_s, iI_in, iI_lit, iI_le, iI_lt, iI_eq, iI_cl, iI_add, iI_sub, iI_mul, iI_neg, iI_nI, ok_s, ok_ck, ok_bn, ok_ob, ck_iI, bn_eq, ob_s, om_n, om_s, cb_bI, gI_g, gI_2, gJ_1, gJ_g, gJ_2, gR_1, gR_2, gR_g, within_v, in_v, bI_i0, bI_i1, iI_bI0, iI_bI1, bI_T, bI_F, f_X12_lettersCome_l2b, f_X12_lettersCome_b102, m0, e, m0', r2', u6, m8, c5, m9, h23, cw, xe, iom, mm]
                exact r2
            · obtain ⟨G9', G13', G32', P', L', r1, r2, r3⟩ := come 6 (Or.inl rfl) G9 P hp (come_sil1 hs hi c5 c1) c5
              refine ⟨G9', G13', G32', P', L', ?_, ?_, r3⟩
              · show f_X6_bring_l2b F (f_X6_bring_l2 F fu) G6 G9 G10 G13 _ _ = _
                simp (disch := omega) only [reduceIte, Nat.reduceEqDiff, Nat.reduceAdd, Nat.reduceSub, Nat.reduceMul, Nat.reduceLT, Int.reduceNeg, Int.reduceAdd, Int.reduceSub, Int.reduceMul, Int.reduceLT, Int.reduceLE, Int.reduceEq, Int.reduceToNat, reduceCtorEq, and_self, and_true, true_and, false_and, and_false, or_false, false_or, or_true, true_or, true_implies, false_implies, implies_true, not_true_eq_false, not_false_eq_true, Int.toNat_natCast, Int.cast_ofNat_Int, eq_self, ne_eq, ite_true, ite_false, if_true, if_false, Int.add_sub_cancel, Int.sub_add_cancel, Int.add_zero, Int.zero_add, cast_s, iI_in, iI_lit, iI_le, iI_lt, iI_eq, iI_cl, iI_add, iI_sub, iI_mul, iI_neg, iI_nI, ok_s, ok_ck, ok_bn, ok_ob, ck_iI, bn_eq, ob_s, om_n, om_s, cb_bI, gI_g, gI_2, gJ_1, gJ_g, gJ_2, gR_1, gR_2, gR_g, within_v, in_v, bI_i0, bI_i1, iI_bI0, iI_bI1, bI_T, bI_F, f_X6_bring_l2b, f_X6_bring_b95, f_X4_move, h0, e, q0, q0', rr2, u1, q8, c5, q9, u0, cw, fx, ioc, q1, c1]
                exact r1
              · show f_X12_lettersCome_l2b F (f_X12_lettersCome_l2 F fu) G23 G24 G25 G32 _ = _
                rw [hL0] at m0'
                simp (disch := omega) only [reduceIte, Nat.reduceEqDiff, Nat.reduceAdd, Nat.reduceSub, Nat.reduceMul, Nat.reduceLT, Int.reduceNeg, Int.reduceAdd, Int.reduceSub, Int.reduceMul, Int.reduceLT, Int.reduceLE, Int.reduceEq, Int.reduceToNat, reduceCtorEq, and_self, and_true, true_and, false_and, and_false, or_false, false_or, or_true, true_or, true_implies, false_implies, implies_true, not_true_eq_false, not_false_eq_true, Int.toNat_natCast, Int.cast_ofNat_Int, eq_self, ne_eq, ite_true, ite_false, if_true, if_false, Int.add_sub_cancel, Int.sub_add_cancel, Int.add_zero, Int.zero_add, cast_s, iI_in, iI_lit, iI_le, iI_lt, iI_eq, iI_cl, iI_add, iI_sub, iI_mul, iI_neg, iI_nI, ok_s, ok_ck, ok_bn, ok_ob, ck_iI, bn_eq, ob_s, om_n, om_s, cb_bI, gI_g, gI_2, gJ_1, gJ_g, gJ_2, gR_1, gR_2, gR_g, within_v, in_v, bI_i0, bI_i1, iI_bI0, iI_bI1, bI_T, bI_F, f_X12_lettersCome_l2b, f_X12_lettersCome_b102, m0, e, m0', r2', u6, m8, c5, m9, h23, cw, xe, iom, mm]
                exact r2
          · rw [bI_f co] at ioc iom
            have mm := moves_m (F := F) (G32 := G32) hl h23 hi 7
            obtain ⟨G9', G13', G32', P', L', r1, r2, r3⟩ := come 7 (Or.inr rfl) G9 P hp (hs.kp (KP.mvK (i := i) ⟨by omega, by omega⟩ ⟨by omega, by omega⟩)) c5
            refine ⟨G9', G13', G32', P', L', ?_, ?_, r3⟩
            · show f_X6_bring_l2b F (f_X6_bring_l2 F fu) G6 G9 G10 G13 _ _ = _
              simp (disch := omega) only [reduceIte, Nat.reduceEqDiff, Nat.reduceAdd, Nat.reduceSub, Nat.reduceMul, Nat.reduceLT, Int.reduceNeg, Int.reduceAdd, Int.reduceSub, Int.reduceMul, Int.reduceLT, Int.reduceLE, Int.reduceEq, Int.reduceToNat, reduceCtorEq, and_self, and_true, true_and, false_and, and_false, or_false, false_or, or_true, true_or, true_implies, false_implies, implies_true, not_true_eq_false, not_false_eq_true, Int.toNat_natCast, Int.cast_ofNat_Int, eq_self, ne_eq, ite_true, ite_false, if_true, if_false, Int.add_sub_cancel, Int.sub_add_cancel, Int.add_zero, Int.zero_add, cast_s, iI_in, iI_lit, iI_le, iI_lt, iI_eq, iI_cl, iI_add, iI_sub, iI_mul, iI_neg, iI_nI, ok_s, ok_ck, ok_bn, ok_ob, ck_iI, bn_eq, ob_s, om_n, om_s, cb_bI, gI_g, gI_2, gJ_1, gJ_g, gJ_2, gR_1, gR_2, gR_g, within_v, in_v, bI_i0, bI_i1, iI_bI0, iI_bI1, bI_T, bI_F, f_X6_bring_l2b, f_X6_bring_b95, f_X4_move, h0, e, q0, q0', rr2, u1, q8, c5, q9, u0, cw, fx, ioc]
              exact r1
            · show f_X12_lettersCome_l2b F (f_X12_lettersCome_l2 F fu) G23 G24 G25 G32 _ = _
              rw [hL0] at m0'
              simp (disch := omega) only [reduceIte, Nat.reduceEqDiff, Nat.reduceAdd, Nat.reduceSub, Nat.reduceMul, Nat.reduceLT, Int.reduceNeg, Int.reduceAdd, Int.reduceSub, Int.reduceMul, Int.reduceLT, Int.reduceLE, Int.reduceEq, Int.reduceToNat, reduceCtorEq, and_self, and_true, true_and, false_and, and_false, or_false, false_or, or_true, true_or, true_implies, false_implies, implies_true, not_true_eq_false, not_false_eq_true, Int.toNat_natCast, Int.cast_ofNat_Int, eq_self, ne_eq, ite_true, ite_false, if_true, if_false, Int.add_sub_cancel, Int.sub_add_cancel, Int.add_zero, Int.zero_add, cast_s, iI_in, iI_lit, iI_le, iI_lt, iI_eq, iI_cl, iI_add, iI_sub, iI_mul, iI_neg, iI_nI, ok_s, ok_ck, ok_bn, ok_ob, ck_iI, bn_eq, ob_s, om_n, om_s, cb_bI, gI_g, gI_2, gJ_1, gJ_g, gJ_2, gR_1, gR_2, gR_g, within_v, in_v, bI_i0, bI_i1, iI_bI0, iI_bI1, bI_T, bI_F, f_X12_lettersCome_l2b, f_X12_lettersCome_b102, m0, e, m0', r2', u6, m8, c5, m9, h23, cw, xe, iom, mm]
              exact r2
        · rw [x1] at fx xe
          have fx : f_X3_isFlooded F G6 (iI v) (iI d) = some (iI 1) := fx
          obtain ⟨G9', G13', G32', P', L', r1, r2, r3⟩ := skip
          refine ⟨G9', G13', G32', P', L', ?_, ?_, r3⟩
          · show f_X6_bring_l2b F (f_X6_bring_l2 F fu) G6 G9 G10 G13 _ _ = _
            simp (disch := omega) only [reduceIte, Nat.reduceEqDiff, Nat.reduceAdd, Nat.reduceSub, Nat.reduceMul, Nat.reduceLT, Int.reduceNeg, Int.reduceAdd, Int.reduceSub, Int.reduceMul, Int.reduceLT, Int.reduceLE, Int.reduceEq, Int.reduceToNat, reduceCtorEq, and_self, and_true, true_and, false_and, and_false, or_false, false_or, or_true, true_or, true_implies, false_implies, implies_true, not_true_eq_false, not_false_eq_true, Int.toNat_natCast, Int.cast_ofNat_Int, eq_self, ne_eq, ite_true, ite_false, if_true, if_false, Int.add_sub_cancel, Int.sub_add_cancel, Int.add_zero, Int.zero_add, cast_s, iI_in, iI_lit, iI_le, iI_lt, iI_eq, iI_cl, iI_add, iI_sub, iI_mul, iI_neg, iI_nI, ok_s, ok_ck, ok_bn, ok_ob, ck_iI, bn_eq, ob_s, om_n, om_s, cb_bI, gI_g, gI_2, gJ_1, gJ_g, gJ_2, gR_1, gR_2, gR_g, within_v, in_v, bI_i0, bI_i1, iI_bI0, iI_bI1, bI_T, bI_F, f_X6_bring_l2b, h0, e, q0, q0', rr2, u1, q8, c5, q9, u0, cw, fx]
            exact r1
          · show f_X12_lettersCome_l2b F (f_X12_lettersCome_l2 F fu) G23 G24 G25 G32 _ = _
            simp (disch := omega) only [reduceIte, Nat.reduceEqDiff, Nat.reduceAdd, Nat.reduceSub, Nat.reduceMul, Nat.reduceLT, Int.reduceNeg, Int.reduceAdd, Int.reduceSub, Int.reduceMul, Int.reduceLT, Int.reduceLE, Int.reduceEq, Int.reduceToNat, reduceCtorEq, and_self, and_true, true_and, false_and, and_false, or_false, false_or, or_true, true_or, true_implies, false_implies, implies_true, not_true_eq_false, not_false_eq_true, Int.toNat_natCast, Int.cast_ofNat_Int, eq_self, ne_eq, ite_true, ite_false, if_true, if_false, Int.add_sub_cancel, Int.sub_add_cancel, Int.add_zero, Int.zero_add, cast_s, iI_in, iI_lit, iI_le, iI_lt, iI_eq, iI_cl, iI_add, iI_sub, iI_mul, iI_neg, iI_nI, ok_s, ok_ck, ok_bn, ok_ob, ck_iI, bn_eq, ob_s, om_n, om_s, cb_bI, gI_g, gI_2, gJ_1, gJ_g, gJ_2, gR_1, gR_2, gR_g, within_v, in_v, bI_i0, bI_i1, iI_bI0, iI_bI1, bI_T, bI_F, f_X12_lettersCome_l2b, m0, e, m0', r2', u6, m8, c5, m9, h23, cw, xe]
            exact r2
    · obtain ⟨G9', G13', G32', P', L', r1, r2, r3⟩ := skip
      refine ⟨G9', G13', G32', P', L', ?_, ?_, r3⟩
      · show f_X6_bring_l2b F (f_X6_bring_l2 F fu) G6 G9 G10 G13 _ _ = _
        simp (disch := omega) only [reduceIte, Nat.reduceEqDiff, Nat.reduceAdd, Nat.reduceSub, Nat.reduceMul, Nat.reduceLT, Int.reduceNeg, Int.reduceAdd, Int.reduceSub, Int.reduceMul, Int.reduceLT, Int.reduceLE, Int.reduceEq, Int.reduceToNat, reduceCtorEq, and_self, and_true, true_and, false_and, and_false, or_false, false_or, or_true, true_or, true_implies, false_implies, implies_true, not_true_eq_false, not_false_eq_true, Int.toNat_natCast, Int.cast_ofNat_Int, eq_self, ne_eq, ite_true, ite_false, if_true, if_false, Int.add_sub_cancel, Int.sub_add_cancel, Int.add_zero, Int.zero_add, cast_s, iI_in, iI_lit, iI_le, iI_lt, iI_eq, iI_cl, iI_add, iI_sub, iI_mul, iI_neg, iI_nI, ok_s, ok_ck, ok_bn, ok_ob, ck_iI, bn_eq, ob_s, om_n, om_s, cb_bI, gI_g, gI_2, gJ_1, gJ_g, gJ_2, gR_1, gR_2, gR_g, within_v, in_v, bI_i0, bI_i1, iI_bI0, iI_bI1, bI_T, bI_F, f_X6_bring_l2b, h0, e, q0, q0', rr2, u1, q8, c5]
        exact r1
      · show f_X12_lettersCome_l2b F (f_X12_lettersCome_l2 F fu) G23 G24 G25 G32 _ = _
        simp (disch := omega) only [reduceIte, Nat.reduceEqDiff, Nat.reduceAdd, Nat.reduceSub, Nat.reduceMul, Nat.reduceLT, Int.reduceNeg, Int.reduceAdd, Int.reduceSub, Int.reduceMul, Int.reduceLT, Int.reduceLE, Int.reduceEq, Int.reduceToNat, reduceCtorEq, and_self, and_true, true_and, false_and, and_false, or_false, false_or, or_true, true_or, true_implies, false_implies, implies_true, not_true_eq_false, not_false_eq_true, Int.toNat_natCast, Int.cast_ofNat_Int, eq_self, ne_eq, ite_true, ite_false, if_true, if_false, Int.add_sub_cancel, Int.sub_add_cancel, Int.add_zero, Int.zero_add, cast_s, iI_in, iI_lit, iI_le, iI_lt, iI_eq, iI_cl, iI_add, iI_sub, iI_mul, iI_neg, iI_nI, ok_s, ok_ck, ok_bn, ok_ob, ck_iI, bn_eq, ob_s, om_n, om_s, cb_bI, gI_g, gI_2, gJ_1, gJ_g, gJ_2, gR_1, gR_2, gR_g, within_v, in_v, bI_i0, bI_i1, iI_bI0, iI_bI1, bI_T, bI_F, f_X12_lettersCome_l2b, m0, e, m0', r2', u6, m8, c5]
        exact r2
/-- the first k letters: those that waited are in sack q -/
def goL (L : Nat → Nat → Int) (q d : Int) (k : Nat) : Nat → Nat → Int := fun j a => if j < k ∧ L j 8 = 0 then (if a = 8 then 1 else if a = 9 then d else if a = 10 then q else L j a) else L j a
theorem goL_0 {q d : Int} : goL L q d 0 = L := by
  funext j a
  unfold goL
  rw [if_neg fun z => absurd z.1 (Nat.not_lt_zero j)]
theorem goL_at {q d : Int} {k : Nat} (a : Nat) : goL L q d k k a = L k a := by
  unfold goL
  rw [if_neg fun z => absurd z.1 (Nat.lt_irrefl k)]
theorem goL_f {q d : Int} {k : Nat} (h : ¬ L k 8 = 0) : goL L q d (k + 1) = goL L q d k := by
  funext j a
  unfold goL
  by_cases c : j < k ∧ L j 8 = 0
  · rw [if_pos c, if_pos ⟨by omega, c.2⟩]
  · rw [if_neg c, if_neg fun z => c ⟨by
      by_cases e : j = k
      · subst e; exact absurd z.2 h
      · omega, z.2⟩]
theorem goL_s {q d : Int} {k j a : Nat} (h : L k 8 = 0) : goL L q d (k + 1) j a = if j = k then (if a = 8 then 1 else if a = 9 then d else if a = 10 then q else L k a) else goL L q d k j a := by
  unfold goL
  by_cases e : j = k
  · subst e
    rw [if_pos ⟨by omega, h⟩, if_pos rfl]
  · rw [if_neg e]
    by_cases c : j < k ∧ L j 8 = 0
    · rw [if_pos c, if_pos ⟨by omega, c.2⟩]
    · rw [if_neg c, if_neg fun z => c ⟨by omega, z.2⟩]
theorem goL_o {q d : Int} {k j a : Nat} (h : a ≠ 8 ∧ a ≠ 9 ∧ a ≠ 10) : goL L q d k j a = L j a := by
  unfold goL
  split
  · rw [if_neg h.1, if_neg h.2.1, if_neg h.2.2]
  · rfl
theorem goC (q e : Int) {i : Nat} (hc : LC G10 G13 n ln tp tl (goL L q e i)) (hi : i < ln) (h : L i 8 = 0) : LC G10 (gI (gI (gI G13 (tl i) 8 (iI 1)) (tl i) 9 (iI e)) (tl i) 10 (iI q)) n ln tp tl (goL L q e (i + 1)) := by
  obtain ⟨h0, h1, h2, h3⟩ := id hc
  refine ⟨h0, fun j hj => ?_, h2, fun a ha => ?_⟩
  · obtain ⟨a1, a2, a3, a4⟩ := h1 j hj
    refine ⟨a1, ?_, fun k hk hl => ?_, a4⟩
    · rw [goL_o (by omega)] at a2 ⊢
      exact a2
    · rw [gI_g, gI_g, gI_g, goL_s h]
      by_cases ej : j = i
      · subst ej
        rw [if_pos rfl]
        rcases lk_c hl with rfl | rfl | rfl | rfl | rfl | rfl | rfl | rfl | rfl
        · omega
        · rw [if_neg (by omega), if_neg (by omega), if_neg (by omega), a3 1 (by omega) hl, goL_at]; rfl
        · rw [if_neg (by omega), if_neg (by omega), if_neg (by omega), a3 2 (by omega) hl, goL_at]; rfl
        · rw [if_neg (by omega), if_neg (by omega), if_neg (by omega), a3 6 (by omega) hl, goL_at]; rfl
        · rw [if_neg (by omega), if_neg (by omega), if_neg (by omega), a3 7 (by omega) hl, goL_at]; rfl
        · rw [if_neg (by omega), if_neg (by omega), if_pos ⟨rfl, rfl⟩]; rfl
        · rw [if_neg (by omega), if_pos ⟨rfl, rfl⟩]; rfl
        · rw [if_pos ⟨rfl, rfl⟩]; rfl
        · rw [if_neg (by omega), if_neg (by omega), if_neg (by omega), a3 11 (by omega) hl, goL_at]; rfl
      · have ne : ¬ tl j = tl i := fun z => ej (tl_inj hc hj hi z)
        rw [if_neg fun z => ne z.1, if_neg fun z => ne z.1, if_neg fun z => ne z.1, if_neg ej]
        exact a3 k hk hl
  · rw [gI_g, gI_g, gI_g, if_neg (by omega), if_neg (by omega), if_neg (by omega)]
    exact h3 a ha
theorem goM (q e : Int) {i : Nat} (hm : LM G32 ln (goL L q e i)) (hi : i < ln) (h : L i 8 = 0) : LM (gI (gI (gI G32 137 i (iI q)) 135 i (iI 1)) 136 i (iI e)) ln (goL L q e (i + 1)) := by
  obtain ⟨h0, h1, h2⟩ := id hm
  refine ⟨?_, fun j hj k hk => ?_, fun j hj => ?_⟩
  · rw [gI_g, gI_g, gI_g, if_neg (by omega), if_neg (by omega), if_neg (by omega)]; exact h0
  · rw [gI_g, gI_g, gI_g, goL_s h]
    have a3 := h1 j hj k hk
    by_cases ej : j = i
    · subst ej
      rw [if_pos rfl]
      rcases lk_c hk with rfl | rfl | rfl | rfl | rfl | rfl | rfl | rfl | rfl
      · rw [goL_at] at a3; exact a3
      · rw [goL_at] at a3; exact a3
      · rw [goL_at] at a3; exact a3
      · rw [goL_at] at a3; exact a3
      · rw [goL_at] at a3; exact a3
      · rw [if_neg (fun z => absurd z.1 (by decide)), if_pos ⟨rfl, rfl⟩]; rfl
      · rw [if_pos ⟨rfl, rfl⟩]; rfl
      · rw [if_neg (fun z => absurd z.1 (by decide)), if_neg (fun z => absurd z.1 (by decide)), if_pos ⟨rfl, rfl⟩]; rfl
      · rw [goL_at] at a3; exact a3
    · rw [if_neg fun z => ej z.2, if_neg fun z => ej z.2, if_neg fun z => ej z.2, if_neg ej]
      exact a3
  · rw [gI_g, gI_g, gI_g, if_neg (by omega), if_neg (by omega), if_neg (by omega)]
    exact h2 j hj
theorem go_b (hb : LB pn d ln L) {q : Int} (hq : -1 ≤ q ∧ q < 1300) (k : Nat) : LB pn d ln (goL L q d k) := by
  obtain ⟨h0, h1⟩ := hb
  refine ⟨h0, fun j hj => ?_⟩
  obtain ⟨p1, p2, p3, p4, p5, p6⟩ := h1 j hj
  rw [goL_o (a := 0) (by omega), goL_o (a := 1) (by omega), goL_o (a := 6) (by omega)]
  refine ⟨p1, p2, p3, ?_, ?_, ?_⟩
  · unfold goL
    split
    · rw [if_pos rfl]; omega
    · exact p4
  · unfold goL
    split
    · rw [if_neg (by omega), if_pos rfl]; omega
    · exact p5
  · unfold goL
    split
    · rw [if_neg (by omega), if_neg (by omega), if_pos rfl]; exact hq
    · exact p6
theorem go_sil (hs : RSil pn d ln P L) {q e : Int} (k : Nat) : RSil pn d ln P (goL L q e k) := fun p hpp => by
  obtain ⟨a1, a2, a3⟩ := hs p hpp
  have cc : cnt (fun j => goL L q e k j 0 = p) ln = cnt (fun j => L j 0 = p) ln := cnt_congr fun j hj => by rw [goL_o (by omega)]
  have key : ∀ m, lcs (goL L q e k) p (P p 3) m = lcs L p (P p 3) m := by
    intro m
    induction m with
    | zero => rfl
    | succ m ih =>
      rw [lcs_s, lcs_s, ih]
      unfold goL
      by_cases c : m < k ∧ L m 8 = 0
      · simp only [if_pos c]
        rw [if_neg, if_neg]
        · intro w; have := w.2.2.1; omega
        · intro w
          have : (1 : Int) = 6 := w.2.2.1
          omega
      · simp only [if_neg c]
  rw [cc, key]
  exact ⟨a1, a2, a3⟩
theorem go_wt (hw : WT sn ln L) (hq : 0 < cnt (fun i => L i 8 = 0) ln) {q e : Int} : WT (sn + 1) ln (goL L q e ln) := by
  have cc : cnt (fun j => goL L q e ln j 8 = 0) ln = 0 := by
    have : ∀ m, m ≤ ln → cnt (fun j => goL L q e ln j 8 = 0) m = 0 := by
      intro m
      induction m with
      | zero => intro _; rfl
      | succ m ih =>
        intro hm
        rw [cnt_f (p := fun j => goL L q e ln j 8 = 0)]
        · exact ih (by omega)
        · show ¬ goL L q e ln m 8 = 0
          unfold goL
          by_cases c : m < ln ∧ L m 8 = 0
          · rw [if_pos c, if_pos rfl]; omega
          · rw [if_neg c]; intro z; exact c ⟨by omega, z⟩
    exact this ln (Nat.le_refl _)
  unfold WT at *
  omega
theorem go_none (h : cnt (fun i => L i 8 = 0) ln = 0) : ∀ i, i < ln → ¬ L i 8 = 0 := by
  have : ∀ m, cnt (fun i => L i 8 = 0) m = 0 → ∀ i, i < m → ¬ L i 8 = 0 := by
    intro m
    induction m with
    | zero => intro _ i hi; omega
    | succ m ih =>
      intro hm i hi
      rw [cnt_s] at hm
      by_cases c : L m 8 = 0
      · rw [if_pos c] at hm; omega
      · by_cases e : i = m
        · rw [e]; exact c
        · exact ih (by omega) i (by omega)
  exact this ln h
theorem goL_id (h : ∀ i, i < ln → ¬ L i 8 = 0) {q e : Int} : goL L q e ln = L := by
  funext j a
  unfold goL
  rw [if_neg fun z => h j z.1 z.2]
theorem go_pos (hq : 0 < cnt (fun i => L i 8 = 0) ln) : ∃ i, i < ln ∧ L i 8 = 0 := by
  apply Classical.byContradiction
  intro hn
  have : ∀ m, m ≤ ln → cnt (fun i => L i 8 = 0) m = 0 := by
    intro m
    induction m with
    | zero => intro _; rfl
    | succ m ih =>
      intro hm
      rw [cnt_f (p := fun i => L i 8 = 0) (fun z => hn ⟨m, by omega, z⟩)]
      exact ih (by omega)
  have := this ln (Nat.le_refl _)
  omega
def s11 (G11 : Grp) (sn : Nat) (d t : Int) : Grp := gI (gI (gI (gI G11 46 sn (iI d)) 47 sn (iI t)) 48 sn (vp_nar .boolean 1)) 44 2 (iI ((sn : Int) + 1))
def s35 (G35 : Grp) (sn : Nat) (d t : Int) : Grp := gI (gI (gI (gI G35 144 sn (iI d)) 145 sn (iI t)) 146 sn (vp_nar .boolean 1)) 91 58 (iI ((sn : Int) + 1))
theorem RSack.new (h : RSack G11 G35 sn) (hs : sn < 200) (e t : Int) : RSack (s11 G11 sn e t) (s35 G35 sn e t) (sn + 1) := by
  obtain ⟨h0, h1, h2, h3⟩ := h
  unfold s11 s35
  refine ⟨by omega, ?_, ?_, fun s hs => ?_⟩
  · rw [gI_g, if_pos ⟨rfl, rfl⟩]; rfl
  · rw [gI_g, if_pos ⟨rfl, rfl⟩]; rfl
  · by_cases c : s = sn
    · subst c
      simp only [gI_g]
      exact ⟨rfl, rfl, rfl⟩
    · have w := h3 s (by omega)
      simp only [gI_g, c, and_false, if_false, Nat.reduceEqDiff, false_and]
      exact w
theorem send_c (hc : LC G10 G13 n ln tp tl L) (hb : LB pn d ln L) (hk : RSack G11 G35 sn) (hn : RNum G2 G26 f) (hs : sn < 200) (hd : d < 3600) (hF : 200000 ≤ F) : ∃ G13', f_X6_send_l47 F F G2 G10 G11 G13 (iI d) (iI 0) = some (s11 G11 sn d (f 0), G13') ∧ LC G10 G13' n ln tp tl (goL L sn d ln) := by
  have hl := hb.1
  obtain ⟨k0, k1, k2, k3⟩ := id hk
  have n0 := (hn.1 0 (by omega)).1
  have key := up_ind (n := ln) (Q := fun fu i => ∀ G13, LC G10 G13 n ln tp tl (goL L sn d i) → ∃ G13', f_X6_send_l47 F fu G2 G10 G11 G13 (iI d) (iI i) = some (s11 G11 sn d (f 0), G13') ∧ LC G10 G13' n ln tp tl (goL L sn d ln)) ?_ ?_
  · exact key 0 F (by omega) (by omega) G13 (by rw [goL_0]; exact hc)
  · intro fu G13 hc
    have h0 := hc.1
    have e : (ln : Int) ≤ ln := Int.le_refl _
    refine ⟨G13, ?_, hc⟩
    show f_X6_send_l47b F (f_X6_send_l47 F fu) G2 G10 G11 G13 _ _ = _
    simp (disch := omega) only [reduceIte, Nat.reduceEqDiff, Nat.reduceAdd, Nat.reduceSub, Nat.reduceMul, Nat.reduceLT, Int.reduceNeg, Int.reduceAdd, Int.reduceSub, Int.reduceMul, Int.reduceLT, Int.reduceLE, Int.reduceEq, Int.reduceToNat, reduceCtorEq, and_self, and_true, true_and, false_and, and_false, or_false, false_or, or_true, true_or, true_implies, false_implies, implies_true, not_true_eq_false, not_false_eq_true, Int.toNat_natCast, Int.cast_ofNat_Int, eq_self, ne_eq, ite_true, ite_false, if_true, if_false, Int.add_sub_cancel, Int.sub_add_cancel, Int.add_zero, Int.zero_add, cast_s, iI_in, iI_lit, iI_le, iI_lt, iI_eq, iI_cl, iI_add, iI_sub, iI_mul, iI_neg, iI_nI, ok_s, ok_ck, ok_bn, ok_ob, ck_iI, bn_eq, ob_s, om_n, om_s, cb_bI, gI_g, gI_2, gJ_1, gJ_g, gJ_2, gR_1, gR_2, gR_g, within_v, in_v, bI_i0, bI_i1, iI_bI0, iI_bI1, bI_T, bI_F, f_X6_send_l47b, h0, e, k1, n0, s11]
  · intro i fu hi ih G13 hc
    have h0 := hc.1
    have e : ¬ (ln : Int) ≤ i := by omega
    obtain ⟨q0, q0', q1, q2, q6, q7, q8, q9, q10, q11⟩ := hc.at hi
    rw [goL_at] at q8
    obtain ⟨p1, p2, p3, p4, p5, p6⟩ := hb.2 i hi
    by_cases c : L i 8 = 0
    · obtain ⟨G13', r1, r2⟩ := ih _ (goC (sn : Int) d hc hi c)
      refine ⟨G13', ?_, r2⟩
      show f_X6_send_l47b F (f_X6_send_l47 F fu) G2 G10 G11 G13 _ _ = _
      simp (disch := omega) only [reduceIte, Nat.reduceEqDiff, Nat.reduceAdd, Nat.reduceSub, Nat.reduceMul, Nat.reduceLT, Int.reduceNeg, Int.reduceAdd, Int.reduceSub, Int.reduceMul, Int.reduceLT, Int.reduceLE, Int.reduceEq, Int.reduceToNat, reduceCtorEq, and_self, and_true, true_and, false_and, and_false, or_false, false_or, or_true, true_or, true_implies, false_implies, implies_true, not_true_eq_false, not_false_eq_true, Int.toNat_natCast, Int.cast_ofNat_Int, eq_self, ne_eq, ite_true, ite_false, if_true, if_false, Int.add_sub_cancel, Int.sub_add_cancel, Int.add_zero, Int.zero_add, cast_s, iI_in, iI_lit, iI_le, iI_lt, iI_eq, iI_cl, iI_add, iI_sub, iI_mul, iI_neg, iI_nI, ok_s, ok_ck, ok_bn, ok_ob, ck_iI, bn_eq, ob_s, om_n, om_s, cb_bI, gI_g, gI_2, gJ_1, gJ_g, gJ_2, gR_1, gR_2, gR_g, within_v, in_v, bI_i0, bI_i1, iI_bI0, iI_bI1, bI_T, bI_F, f_X6_send_l47b, f_X4_move, h0, e, q0, q8, c, k1]
      exact r1
    · rw [goL_f c] at ih
      obtain ⟨G13', r1, r2⟩ := ih _ hc
      refine ⟨G13', ?_, r2⟩
      show f_X6_send_l47b F (f_X6_send_l47 F fu) G2 G10 G11 G13 _ _ = _
      simp (disch := omega) only [reduceIte, Nat.reduceEqDiff, Nat.reduceAdd, Nat.reduceSub, Nat.reduceMul, Nat.reduceLT, Int.reduceNeg, Int.reduceAdd, Int.reduceSub, Int.reduceMul, Int.reduceLT, Int.reduceLE, Int.reduceEq, Int.reduceToNat, reduceCtorEq, and_self, and_true, true_and, false_and, and_false, or_false, false_or, or_true, true_or, true_implies, false_implies, implies_true, not_true_eq_false, not_false_eq_true, Int.toNat_natCast, Int.cast_ofNat_Int, eq_self, ne_eq, ite_true, ite_false, if_true, if_false, Int.add_sub_cancel, Int.sub_add_cancel, Int.add_zero, Int.zero_add, cast_s, iI_in, iI_lit, iI_le, iI_lt, iI_eq, iI_cl, iI_add, iI_sub, iI_mul, iI_neg, iI_nI, ok_s, ok_ck, ok_bn, ok_ob, ck_iI, bn_eq, ob_s, om_n, om_s, cb_bI, gI_g, gI_2, gJ_1, gJ_g, gJ_2, gR_1, gR_2, gR_g, within_v, in_v, bI_i0, bI_i1, iI_bI0, iI_bI1, bI_T, bI_F, f_X6_send_l47b, h0, e, q0, q8, c]
      exact r1
theorem send_m (hm : LM G32 ln L) (hb : LB pn d ln L) (hk : RSack G11 G35 sn) (hn : RNum G2 G26 f) (hs : sn ≤ 200) (h23 : G23.1 91 0 = iI d) (hF : 200000 ≤ F) : ∃ G32', f_X12_sacksGo_l24 F F G23 G26 G32 G35 (iI 0) (iI 0) = some (G32', if cnt (fun i => L i 8 = 0) ln = 0 then G35 else s35 G35 sn d (f 0)) ∧ LM G32' ln (goL L sn d ln) ∧ ∀ k, G32'.1 143 k = G32.1 143 k := by
  have hl := hb.1
  obtain ⟨k0, k1, k2, k3⟩ := id hk
  have n0 := (hn.1 0 (by omega)).2.1
  have key := up_ind (n := ln) (Q := fun fu i => ∀ G32, LM G32 ln (goL L sn d i) → ∃ G32', f_X12_sacksGo_l24 F fu G23 G26 G32 G35 (iI (if cnt (fun i => L i 8 = 0) i = 0 then 0 else 1)) (iI i) = some (G32', if cnt (fun i => L i 8 = 0) ln = 0 then G35 else s35 G35 sn d (f 0)) ∧ LM G32' ln (goL L sn d ln) ∧ ∀ k, G32'.1 143 k = G32.1 143 k) ?_ ?_
  · exact key 0 F (by omega) (by omega) G32 (by rw [goL_0]; exact hm)
  · intro fu G32 hm
    have h0 := hm.1
    have e : (ln : Int) ≤ ln := Int.le_refl _
    refine ⟨G32, ?_, hm, fun _ => rfl⟩
    show f_X12_sacksGo_l24b F (f_X12_sacksGo_l24 F fu) G23 G26 G32 G35 _ _ = _
    by_cases c : cnt (fun i => L i 8 = 0) ln = 0
    · rw [if_pos c, if_pos c]
      simp (disch := omega) only [reduceIte, Nat.reduceEqDiff, Nat.reduceAdd, Nat.reduceSub, Nat.reduceMul, Nat.reduceLT, Int.reduceNeg, Int.reduceAdd, Int.reduceSub, Int.reduceMul, Int.reduceLT, Int.reduceLE, Int.reduceEq, Int.reduceToNat, reduceCtorEq, and_self, and_true, true_and, false_and, and_false, or_false, false_or, or_true, true_or, true_implies, false_implies, implies_true, not_true_eq_false, not_false_eq_true, Int.toNat_natCast, Int.cast_ofNat_Int, eq_self, ne_eq, ite_true, ite_false, if_true, if_false, Int.add_sub_cancel, Int.sub_add_cancel, Int.add_zero, Int.zero_add, cast_s, iI_in, iI_lit, iI_le, iI_lt, iI_eq, iI_cl, iI_add, iI_sub, iI_mul, iI_neg, iI_nI, ok_s, ok_ck, ok_bn, ok_ob, ck_iI, bn_eq, ob_s, om_n, om_s, cb_bI, gI_g, gI_2, gJ_1, gJ_g, gJ_2, gR_1, gR_2, gR_g, within_v, in_v, bI_i0, bI_i1, iI_bI0, iI_bI1, bI_T, bI_F, f_X12_sacksGo_l24b, h0, e]
    · rw [if_neg c, if_neg c]
      simp (disch := omega) only [reduceIte, Nat.reduceEqDiff, Nat.reduceAdd, Nat.reduceSub, Nat.reduceMul, Nat.reduceLT, Int.reduceNeg, Int.reduceAdd, Int.reduceSub, Int.reduceMul, Int.reduceLT, Int.reduceLE, Int.reduceEq, Int.reduceToNat, reduceCtorEq, and_self, and_true, true_and, false_and, and_false, or_false, false_or, or_true, true_or, true_implies, false_implies, implies_true, not_true_eq_false, not_false_eq_true, Int.toNat_natCast, Int.cast_ofNat_Int, eq_self, ne_eq, ite_true, ite_false, if_true, if_false, Int.add_sub_cancel, Int.sub_add_cancel, Int.add_zero, Int.zero_add, cast_s, iI_in, iI_lit, iI_le, iI_lt, iI_eq, iI_cl, iI_add, iI_sub, iI_mul, iI_neg, iI_nI, ok_s, ok_ck, ok_bn, ok_ob, ck_iI, bn_eq, ob_s, om_n, om_s, cb_bI, gI_g, gI_2, gJ_1, gJ_g, gJ_2, gR_1, gR_2, gR_g, within_v, in_v, bI_i0, bI_i1, iI_bI0, iI_bI1, bI_T, bI_F, f_X12_sacksGo_l24b, h0, e, k2, n0, h23, s35]
  · intro i fu hi ih G32 hm
    have h0 := hm.1
    have e : ¬ (ln : Int) ≤ i := by omega
    obtain ⟨m0, m1, m2, m6, m7, m8, m9, m10, m11⟩ := hm.at hi
    rw [goL_at] at m8
    obtain ⟨p1, p2, p3, p4, p5, p6⟩ := hb.2 i hi
    by_cases c : L i 8 = 0
    · have cn : ¬ cnt (fun i => L i 8 = 0) (i + 1) = 0 := by
        rw [cnt_t (p := fun i => L i 8 = 0) c]; omega
      rw [if_neg cn] at ih
      obtain ⟨G32', r1, r2, r3⟩ := ih _ (goM (sn : Int) d hm hi c)
      have mm := moves_m (F := F) (G32 := gI G32 137 i (iI sn)) hl h23 hi 1
      refine ⟨G32', ?_, r2, fun k => ?_⟩
      · show f_X12_sacksGo_l24b F (f_X12_sacksGo_l24 F fu) G23 G26 G32 G35 _ _ = _
        generalize iI (if cnt (fun i => L i 8 = 0) i = 0 then 0 else 1) = x
        simp (disch := omega) only [reduceIte, Nat.reduceEqDiff, Nat.reduceAdd, Nat.reduceSub, Nat.reduceMul, Nat.reduceLT, Int.reduceNeg, Int.reduceAdd, Int.reduceSub, Int.reduceMul, Int.reduceLT, Int.reduceLE, Int.reduceEq, Int.reduceToNat, reduceCtorEq, and_self, and_true, true_and, false_and, and_false, or_false, false_or, or_true, true_or, true_implies, false_implies, implies_true, not_true_eq_false, not_false_eq_true, Int.toNat_natCast, Int.cast_ofNat_Int, eq_self, ne_eq, ite_true, ite_false, if_true, if_false, Int.add_sub_cancel, Int.sub_add_cancel, Int.add_zero, Int.zero_add, cast_s, iI_in, iI_lit, iI_le, iI_lt, iI_eq, iI_cl, iI_add, iI_sub, iI_mul, iI_neg, iI_nI, ok_s, ok_ck, ok_bn, ok_ob, ck_iI, bn_eq, ob_s, om_n, om_s, cb_bI, gI_g, gI_2, gJ_1, gJ_g, gJ_2, gR_1, gR_2, gR_g, within_v, in_v, bI_i0, bI_i1, iI_bI0, iI_bI1, bI_T, bI_F, f_X12_sacksGo_l24b, h0, e, m8, c, k2, mm]
        exact r1
      · rw [r3, gI_g, gI_g, gI_g, if_neg (by omega), if_neg (by omega), if_neg (by omega)]
    · rw [goL_f c, cnt_f (p := fun i => L i 8 = 0) c] at ih
      obtain ⟨G32', r1, r2⟩ := ih _ hm
      refine ⟨G32', ?_, r2⟩
      show f_X12_sacksGo_l24b F (f_X12_sacksGo_l24 F fu) G23 G26 G32 G35 _ _ = _
      generalize iI (if cnt (fun i => L i 8 = 0) i = 0 then 0 else 1) = x at r1 ⊢
      simp (disch := omega) only [reduceIte, Nat.reduceEqDiff, Nat.reduceAdd, Nat.reduceSub, Nat.reduceMul, Nat.reduceLT, Int.reduceNeg, Int.reduceAdd, Int.reduceSub, Int.reduceMul, Int.reduceLT, Int.reduceLE, Int.reduceEq, Int.reduceToNat, reduceCtorEq, and_self, and_true, true_and, false_and, and_false, or_false, false_or, or_true, true_or, true_implies, false_implies, implies_true, not_true_eq_false, not_false_eq_true, Int.toNat_natCast, Int.cast_ofNat_Int, eq_self, ne_eq, ite_true, ite_false, if_true, if_false, Int.add_sub_cancel, Int.sub_add_cancel, Int.add_zero, Int.zero_add, cast_s, iI_in, iI_lit, iI_le, iI_lt, iI_eq, iI_cl, iI_add, iI_sub, iI_mul, iI_neg, iI_nI, ok_s, ok_ck, ok_bn, ok_ob, ck_iI, bn_eq, ob_s, om_n, om_s, cb_bI, gI_g, gI_2, gJ_1, gJ_g, gJ_2, gR_1, gR_2, gR_g, within_v, in_v, bI_i0, bI_i1, iI_bI0, iI_bI1, bI_T, bI_F, f_X12_sacksGo_l24b, h0, e, m8, c]
      exact r1
theorem send_both (hc : LC G10 G13 n ln tp tl L) (hm : LM G32 ln L) (hb : LB pn d ln L) (hk : RSack G11 G35 sn) (hn : RNum G2 G26 f) (hs : RSil pn d ln P L) (hw : WT sn ln L) (hd : d < 3600) (h23 : G23.1 91 0 = iI d) (hF : 200000 ≤ F) : ∃ G11' G13' G32' G35' sn' L', f_X6_send F G2 G10 G11 G13 (iI d) = some (G11', G13') ∧ f_X12_sacksGo F G23 G26 G32 G35 = some (G32', G35') ∧ RSack G11' G35' sn' ∧ LC G10 G13' n ln tp tl L' ∧ LM G32' ln L' ∧ LB pn d ln L' ∧ RSil pn d ln P L' ∧ WT sn' ln L' ∧ KX ln L L' G32 G32' := by
  have hl := hb.1
  obtain ⟨k0, k1, k2, k3⟩ := id hk
  have n1 := hn.1 1 (by omega)
  by_cases cv : (iI (f 1) >>> ((iI d - iI d / iI 7 * iI 7) &&& iI 31)) &&& iI 1 = iI 0
  · refine ⟨G11, G13, G32, G35, sn, L, ?_, ?_, hk, hc, hm, hb, hs, hw, KX.rf⟩
    · skip
      simp (disch := omega) only [reduceIte, Nat.reduceEqDiff, Nat.reduceAdd, Nat.reduceSub, Nat.reduceMul, Nat.reduceLT, Int.reduceNeg, Int.reduceAdd, Int.reduceSub, Int.reduceMul, Int.reduceLT, Int.reduceLE, Int.reduceEq, Int.reduceToNat, reduceCtorEq, and_self, and_true, true_and, false_and, and_false, or_false, false_or, or_true, true_or, true_implies, false_implies, implies_true, not_true_eq_false, not_false_eq_true, Int.toNat_natCast, Int.cast_ofNat_Int, eq_self, ne_eq, ite_true, ite_false, if_true, if_false, Int.add_sub_cancel, Int.sub_add_cancel, Int.add_zero, Int.zero_add, cast_s, iI_in, iI_lit, iI_le, iI_lt, iI_eq, iI_cl, iI_add, iI_sub, iI_mul, iI_neg, iI_nI, ok_s, ok_ck, ok_bn, ok_ob, ck_iI, bn_eq, ob_s, om_n, om_s, cb_bI, gI_g, gI_2, gJ_1, gJ_g, gJ_2, gR_1, gR_2, gR_g, within_v, in_v, bI_i0, bI_i1, iI_bI0, iI_bI1, bI_T, bI_F, f_X6_send, f_X6_send_b21, n1.1, cv]
    · skip
      simp (disch := omega) only [reduceIte, Nat.reduceEqDiff, Nat.reduceAdd, Nat.reduceSub, Nat.reduceMul, Nat.reduceLT, Int.reduceNeg, Int.reduceAdd, Int.reduceSub, Int.reduceMul, Int.reduceLT, Int.reduceLE, Int.reduceEq, Int.reduceToNat, reduceCtorEq, and_self, and_true, true_and, false_and, and_false, or_false, false_or, or_true, true_or, true_implies, false_implies, implies_true, not_true_eq_false, not_false_eq_true, Int.toNat_natCast, Int.cast_ofNat_Int, eq_self, ne_eq, ite_true, ite_false, if_true, if_false, Int.add_sub_cancel, Int.sub_add_cancel, Int.add_zero, Int.zero_add, cast_s, iI_in, iI_lit, iI_le, iI_lt, iI_eq, iI_cl, iI_add, iI_sub, iI_mul, iI_neg, iI_nI, ok_s, ok_ck, ok_bn, ok_ob, ck_iI, bn_eq, ob_s, om_n, om_s, cb_bI, gI_g, gI_2, gJ_1, gJ_g, gJ_2, gR_1, gR_2, gR_g, within_v, in_v, bI_i0, bI_i1, iI_bI0, iI_bI1, bI_T, bI_F, f_X12_sacksGo, n1.2.1, h23, cv]
  · have ic := inState_c (F := F) hc hb hF (s := 0) (by omega)
    obtain ⟨G32', t1, t2, t3⟩ := send_m (F := F) hm hb hk hn k0 h23 hF
    have em : f_X12_sacksGo F G23 G26 G32 G35 = some (G32', if cnt (fun i => L i 8 = 0) ln = 0 then G35 else s35 G35 sn d (f 0)) := by
      rw [← t1]
      simp (disch := omega) only [reduceIte, Nat.reduceEqDiff, Nat.reduceAdd, Nat.reduceSub, Nat.reduceMul, Nat.reduceLT, Int.reduceNeg, Int.reduceAdd, Int.reduceSub, Int.reduceMul, Int.reduceLT, Int.reduceLE, Int.reduceEq, Int.reduceToNat, reduceCtorEq, and_self, and_true, true_and, false_and, and_false, or_false, false_or, or_true, true_or, true_implies, false_implies, implies_true, not_true_eq_false, not_false_eq_true, Int.toNat_natCast, Int.cast_ofNat_Int, eq_self, ne_eq, ite_true, ite_false, if_true, if_false, Int.add_sub_cancel, Int.sub_add_cancel, Int.add_zero, Int.zero_add, cast_s, iI_in, iI_lit, iI_le, iI_lt, iI_eq, iI_cl, iI_add, iI_sub, iI_mul, iI_neg, iI_nI, ok_s, ok_ck, ok_bn, ok_ob, ck_iI, bn_eq, ob_s, om_n, om_s, cb_bI, gI_g, gI_2, gJ_1, gJ_g, gJ_2, gR_1, gR_2, gR_g, within_v, in_v, bI_i0, bI_i1, iI_bI0, iI_bI1, bI_T, bI_F, f_X12_sacksGo, n1.2.1, h23, cv]
    by_cases c0 : cnt (fun i => L i 8 = 0) ln = 0
    · rw [goL_id (go_none c0)] at t2
      rw [if_pos c0] at em
      refine ⟨G11, G13, G32', G35, sn, L, ?_, em, hk, hc, t2, hb, hs, hw, fun _ _ => rfl, t3⟩
      rw [c0] at ic
      have ic : f_X6_inState F G10 G13 (iI 0) = some (iI 0) := ic
      simp (disch := omega) only [reduceIte, Nat.reduceEqDiff, Nat.reduceAdd, Nat.reduceSub, Nat.reduceMul, Nat.reduceLT, Int.reduceNeg, Int.reduceAdd, Int.reduceSub, Int.reduceMul, Int.reduceLT, Int.reduceLE, Int.reduceEq, Int.reduceToNat, reduceCtorEq, and_self, and_true, true_and, false_and, and_false, or_false, false_or, or_true, true_or, true_implies, false_implies, implies_true, not_true_eq_false, not_false_eq_true, Int.toNat_natCast, Int.cast_ofNat_Int, eq_self, ne_eq, ite_true, ite_false, if_true, if_false, Int.add_sub_cancel, Int.sub_add_cancel, Int.add_zero, Int.zero_add, cast_s, iI_in, iI_lit, iI_le, iI_lt, iI_eq, iI_cl, iI_add, iI_sub, iI_mul, iI_neg, iI_nI, ok_s, ok_ck, ok_bn, ok_ob, ck_iI, bn_eq, ob_s, om_n, om_s, cb_bI, gI_g, gI_2, gJ_1, gJ_g, gJ_2, gR_1, gR_2, gR_g, within_v, in_v, bI_i0, bI_i1, iI_bI0, iI_bI1, bI_T, bI_F, f_X6_send, f_X6_send_b21, n1.1, cv, ic]
    · rw [if_neg c0] at em
      have hsn : sn < 200 := by unfold WT at hw; omega
      obtain ⟨G13', r1, r2⟩ := send_c (F := F) hc hb hk hn hsn hd hF
      refine ⟨s11 G11 sn d (f 0), G13', G32', s35 G35 sn d (f 0), sn + 1, goL L sn d ln, ?_, em, hk.new hsn _ _, r2, t2, go_b hb (by omega) ln, go_sil hs ln, go_wt hw (by omega), fun i _ => goL_o (by omega), t3⟩
      have cle := cnt_le (fun i => L i 8 = 0) ln
      have c0' : ¬ ((cnt (fun i => L i 8 = 0) ln : Nat) : Int) = 0 := by omega
      have sl : (sn : Int) < 200 := by omega
      generalize cnt (fun i => L i 8 = 0) ln = cc at ic c0' cle
      simp (disch := omega) only [reduceIte, Nat.reduceEqDiff, Nat.reduceAdd, Nat.reduceSub, Nat.reduceMul, Nat.reduceLT, Int.reduceNeg, Int.reduceAdd, Int.reduceSub, Int.reduceMul, Int.reduceLT, Int.reduceLE, Int.reduceEq, Int.reduceToNat, reduceCtorEq, and_self, and_true, true_and, false_and, and_false, or_false, false_or, or_true, true_or, true_implies, false_implies, implies_true, not_true_eq_false, not_false_eq_true, Int.toNat_natCast, Int.cast_ofNat_Int, eq_self, ne_eq, ite_true, ite_false, if_true, if_false, Int.add_sub_cancel, Int.sub_add_cancel, Int.add_zero, Int.zero_add, cast_s, iI_in, iI_lit, iI_le, iI_lt, iI_eq, iI_cl, iI_add, iI_sub, iI_mul, iI_neg, iI_nI, ok_s, ok_ck, ok_bn, ok_ob, ck_iI, bn_eq, ob_s, om_n, om_s, cb_bI, gI_g, gI_2, gJ_1, gJ_g, gJ_2, gR_1, gR_2, gR_g, within_v, in_v, bI_i0, bI_i1, iI_bI0, iI_bI1, bI_T, bI_F, f_X6_send, f_X6_send_b21, n1.1, cv, ic, c0', k1, sl, r1]
end PR
