/-! a day: sacks that come -/
theorem and1_01 (x : Int32) : x &&& iI 1 = 0 ∨ x &&& iI 1 = 1 := by
  have j : (x &&& iI 1).toBitVec = BitVec.setWidth 32 (BitVec.ofBool (x.toBitVec.getLsbD 0)) := by
    apply BitVec.eq_of_getLsbD_eq
    intro i hi
    show (x.toBitVec &&& 1#32).getLsbD i = _
    rw [BitVec.getLsbD_and, BitVec.getLsbD_setWidth, BitVec.getLsbD_ofBool]
    by_cases e : i = 0
    · subst e
      simp
    · simp [e]
  cases h : x.toBitVec.getLsbD 0 with
  | false =>
    refine Or.inl (Int32.toBitVec_inj.mp ?_)
    rw [j, h]
    rfl
  | true =>
    refine Or.inr (Int32.toBitVec_inj.mp ?_)
    rw [j, h]
    rfl
section PR
variable {F : Nat} {G1 G2 G3 G4 G5 G6 G7 G8 G9 G10 G11 G12 G13 G14 G15 G23 G24 G25 G26 G32 G33 G34 G35 G36 G41 : Grp} {vn gn cn d n pn ln tn sn : Nat} {tp tl Ln : Nat → Nat} {P L T : Nat → Nat → Int} {X : Nat → Nat → Nat} {f : Nat → Int}
theorem empty_c (hc : LC G10 G13 n ln tp tl L) (hb : LB pn d ln L) (hk : RSack G11 G35 sn) (hd : d < 3600) {q : Nat} {s : Int} (hs : 0 ≤ s ∧ s ≤ 8) (hq : q < sn) (hw : ¬ G35.1 146 q = 0) (hF : 200000 ≤ F) : ∃ G13', f_X6_empty F G10 G11 G13 (iI q) (iI s) (iI d) = some (iI (cnt (emP L q) ln), gI G11 48 q (vp_nar .boolean 0), G13') ∧ LC G10 G13' n ln tp tl (emL L q s d ln) := by
  have hsn := hk.1
  have ow := onWay_c (F := F) hk (a := (q : Int)) (by omega) (by omega)
  simp only [Int.toNat_natCast] at ow
  rw [bI_t ⟨by omega, hw⟩] at ow
  obtain ⟨G13', r1, r2⟩ := emp_c (F := F) (G11 := G11) hb hd (q := q) hs (by omega) hF hc
  refine ⟨G13', ?_, r2⟩
  unfold f_X6_empty
  rw [ow, ob_s, if_neg (by decide)]
  exact r1
/-- what is kept of letters on the reference's side -/
def KX (ln : Nat) (L L' : Nat → Nat → Int) (G32 G32' : Grp) : Prop := (∀ i, i < ln → L' i 6 = L i 6) ∧ ∀ k, G32'.1 143 k = G32.1 143 k
theorem KX.rf : KX ln L L G32 G32 := ⟨fun _ _ => rfl, fun _ => rfl⟩
theorem KX.tr {L1 L2 : Nat → Nat → Int} {G321 G322 : Grp} (h : KX ln L L1 G32 G321) (h2 : KX ln L1 L2 G321 G322) : KX ln L L2 G32 G322 := ⟨fun i hi => (h2.1 i hi).trans (h.1 i hi), fun k => (h2.2 k).trans (h.2 k)⟩
theorem unp_both (hk : RSack G11 G35 sn) (hc : LC G10 G13 n ln tp tl L) (hm : LM G32 ln L) (hb : LB pn d ln L) (hd : d < 3600) (h23 : G23.1 91 0 = iI d) (hF : 200000 ≤ F) : ∃ G11' G13' G32' G35' L', f_X6_unpack F G10 G11 G13 (iI d) = some (G11', G13') ∧ f_X12_sacksCome F G23 G32 G35 = some (G32', G35') ∧ RSack G11' G35' sn ∧ LC G10 G13' n ln tp tl L' ∧ LM G32' ln L' ∧ LB pn d ln L' ∧ KP ln L L' ∧ KX ln L L' G32 G32' := by
  have hsn := hk.1
  have key := up_ind (n := sn) (Q := fun fu s => ∀ G11 G13 G32 G35 L, RSack G11 G35 sn → LC G10 G13 n ln tp tl L → LM G32 ln L → LB pn d ln L → ∃ G11' G13' G32' G35' L', f_X6_unpack_l2 F fu G10 G11 G13 (iI d) (iI s) = some (G11', G13') ∧ f_X12_sacksCome_l2 F fu G23 G32 G35 (iI s) = some (G32', G35') ∧ RSack G11' G35' sn ∧ LC G10 G13' n ln tp tl L' ∧ LM G32' ln L' ∧ LB pn d ln L' ∧ KP ln L L' ∧ KX ln L L' G32 G32') ?_ ?_
  · exact key 0 F (by omega) (by omega) G11 G13 G32 G35 L hk hc hm hb
  · intro fu G11 G13 G32 G35 L hk hc hm hb
    obtain ⟨k0, k1, k2, k3⟩ := id hk
    have e : (sn : Int) ≤ sn := Int.le_refl _
    refine ⟨G11, G13, G32, G35, L, ?_, ?_, hk, hc, hm, hb, KP.rf _ _, KX.rf⟩
    · show f_X6_unpack_l2b F (f_X6_unpack_l2 F fu) G10 G11 G13 _ _ = _
      simp (disch := omega) only [reduceIte, Nat.reduceEqDiff, Nat.reduceAdd, Nat.reduceSub, Nat.reduceMul, Nat.reduceLT, Int.reduceNeg, Int.reduceAdd, Int.reduceSub, Int.reduceMul, Int.reduceLT, Int.reduceLE, Int.reduceEq, Int.reduceToNat, reduceCtorEq, and_self, and_true, true_and, false_and, and_false, or_false, false_or, or_true, true_or, true_implies, false_implies, implies_true, not_true_eq_false, not_false_eq_true, Int.toNat_natCast, Int.cast_ofNat_Int, eq_self, ne_eq, ite_true, ite_false, if_true, if_false, Int.add_sub_cancel, Int.sub_add_cancel, Int.add_zero, Int.zero_add, cast_s, iI_in, iI_lit, iI_le, iI_lt, iI_eq, iI_cl, iI_add, iI_sub, iI_mul, iI_neg, iI_nI, ok_s, ok_ck, ok_bn, ok_ob, ck_iI, bn_eq, ob_s, om_n, om_s, cb_bI, gI_g, gI_2, gJ_1, gJ_g, gJ_2, gR_1, gR_2, gR_g, within_v, in_v, bI_i0, bI_i1, iI_bI0, iI_bI1, bI_T, bI_F, f_X6_unpack_l2b, k1, e]
    · show f_X12_sacksCome_l2b F (f_X12_sacksCome_l2 F fu) G23 G32 G35 _ = _
      simp (disch := omega) only [reduceIte, Nat.reduceEqDiff, Nat.reduceAdd, Nat.reduceSub, Nat.reduceMul, Nat.reduceLT, Int.reduceNeg, Int.reduceAdd, Int.reduceSub, Int.reduceMul, Int.reduceLT, Int.reduceLE, Int.reduceEq, Int.reduceToNat, reduceCtorEq, and_self, and_true, true_and, false_and, and_false, or_false, false_or, or_true, true_or, true_implies, false_implies, implies_true, not_true_eq_false, not_false_eq_true, Int.toNat_natCast, Int.cast_ofNat_Int, eq_self, ne_eq, ite_true, ite_false, if_true, if_false, Int.add_sub_cancel, Int.sub_add_cancel, Int.add_zero, Int.zero_add, cast_s, iI_in, iI_lit, iI_le, iI_lt, iI_eq, iI_cl, iI_add, iI_sub, iI_mul, iI_neg, iI_nI, ok_s, ok_ck, ok_bn, ok_ob, ck_iI, bn_eq, ob_s, om_n, om_s, cb_bI, gI_g, gI_2, gJ_1, gJ_g, gJ_2, gR_1, gR_2, gR_g, within_v, in_v, bI_i0, bI_i1, iI_bI0, iI_bI1, bI_T, bI_F, f_X12_sacksCome_l2b, k2, e]
  · intro s fu hs ih G11 G13 G32 G35 L hk hc hm hb
    obtain ⟨k0, k1, k2, k3⟩ := id hk
    obtain ⟨w1, w2, w3⟩ := k3 s hs
    have e : ¬ (sn : Int) ≤ s := by omega
    have skip : ∃ G11' G13' G32' G35' L', f_X6_unpack_l2 F fu G10 G11 G13 (iI d) (iI ((s : Int) + 1)) = some (G11', G13') ∧ f_X12_sacksCome_l2 F fu G23 G32 G35 (iI ((s : Int) + 1)) = some (G32', G35') ∧ RSack G11' G35' sn ∧ LC G10 G13' n ln tp tl L' ∧ LM G32' ln L' ∧ LB pn d ln L' ∧ KP ln L L' ∧ KX ln L L' G32 G32' := ih G11 G13 G32 G35 L hk hc hm hb
    by_cases c : G35.1 146 s = iI 0
    · obtain ⟨G11', G13', G32', G35', L', r1, r2, r3⟩ := skip
      refine ⟨G11', G13', G32', G35', L', ?_, ?_, r3⟩
      · show f_X6_unpack_l2b F (f_X6_unpack_l2 F fu) G10 G11 G13 _ _ = _
        simp (disch := omega) only [reduceIte, Nat.reduceEqDiff, Nat.reduceAdd, Nat.reduceSub, Nat.reduceMul, Nat.reduceLT, Int.reduceNeg, Int.reduceAdd, Int.reduceSub, Int.reduceMul, Int.reduceLT, Int.reduceLE, Int.reduceEq, Int.reduceToNat, reduceCtorEq, and_self, and_true, true_and, false_and, and_false, or_false, false_or, or_true, true_or, true_implies, false_implies, implies_true, not_true_eq_false, not_false_eq_true, Int.toNat_natCast, Int.cast_ofNat_Int, eq_self, ne_eq, ite_true, ite_false, if_true, if_false, Int.add_sub_cancel, Int.sub_add_cancel, Int.add_zero, Int.zero_add, cast_s, iI_in, iI_lit, iI_le, iI_lt, iI_eq, iI_cl, iI_add, iI_sub, iI_mul, iI_neg, iI_nI, ok_s, ok_ck, ok_bn, ok_ob, ck_iI, bn_eq, ob_s, om_n, om_s, cb_bI, gI_g, gI_2, gJ_1, gJ_g, gJ_2, gR_1, gR_2, gR_g, within_v, in_v, bI_i0, bI_i1, iI_bI0, iI_bI1, bI_T, bI_F, f_X6_unpack_l2b, k1, e, w3, c]
        exact r1
      · show f_X12_sacksCome_l2b F (f_X12_sacksCome_l2 F fu) G23 G32 G35 _ = _
        simp (disch := omega) only [reduceIte, Nat.reduceEqDiff, Nat.reduceAdd, Nat.reduceSub, Nat.reduceMul, Nat.reduceLT, Int.reduceNeg, Int.reduceAdd, Int.reduceSub, Int.reduceMul, Int.reduceLT, Int.reduceLE, Int.reduceEq, Int.reduceToNat, reduceCtorEq, and_self, and_true, true_and, false_and, and_false, or_false, false_or, or_true, true_or, true_implies, false_implies, implies_true, not_true_eq_false, not_false_eq_true, Int.toNat_natCast, Int.cast_ofNat_Int, eq_self, ne_eq, ite_true, ite_false, if_true, if_false, Int.add_sub_cancel, Int.sub_add_cancel, Int.add_zero, Int.zero_add, cast_s, iI_in, iI_lit, iI_le, iI_lt, iI_eq, iI_cl, iI_add, iI_sub, iI_mul, iI_neg, iI_nI, ok_s, ok_ck, ok_bn, ok_ob, ck_iI, bn_eq, ob_s, om_n, om_s, cb_bI, gI_g, gI_2, gJ_1, gJ_g, gJ_2, gR_1, gR_2, gR_g, within_v, in_v, bI_i0, bI_i1, iI_bI0, iI_bI1, bI_T, bI_F, f_X12_sacksCome_l2b, k2, e, c]
        exact r2
    · by_cases c2 : iI d - G35.1 144 s < G35.1 145 s
      · have c3 : ¬ G35.1 145 s ≤ iI d - G35.1 144 s := Int32.not_le.mpr c2
        obtain ⟨G11', G13', G32', G35', L', r1, r2, r3⟩ := skip
        refine ⟨G11', G13', G32', G35', L', ?_, ?_, r3⟩
        · show f_X6_unpack_l2b F (f_X6_unpack_l2 F fu) G10 G11 G13 _ _ = _
          simp (disch := omega) only [reduceIte, Nat.reduceEqDiff, Nat.reduceAdd, Nat.reduceSub, Nat.reduceMul, Nat.reduceLT, Int.reduceNeg, Int.reduceAdd, Int.reduceSub, Int.reduceMul, Int.reduceLT, Int.reduceLE, Int.reduceEq, Int.reduceToNat, reduceCtorEq, and_self, and_true, true_and, false_and, and_false, or_false, false_or, or_true, true_or, true_implies, false_implies, implies_true, not_true_eq_false, not_false_eq_true, Int.toNat_natCast, Int.cast_ofNat_Int, eq_self, ne_eq, ite_true, ite_false, if_true, if_false, Int.add_sub_cancel, Int.sub_add_cancel, Int.add_zero, Int.zero_add, cast_s, iI_in, iI_lit, iI_le, iI_lt, iI_eq, iI_cl, iI_add, iI_sub, iI_mul, iI_neg, iI_nI, ok_s, ok_ck, ok_bn, ok_ob, ck_iI, bn_eq, ob_s, om_n, om_s, cb_bI, gI_g, gI_2, gJ_1, gJ_g, gJ_2, gR_1, gR_2, gR_g, within_v, in_v, bI_i0, bI_i1, iI_bI0, iI_bI1, bI_T, bI_F, f_X6_unpack_l2b, k1, e, w1, w2, w3, c, c2]
          exact r1
        · show f_X12_sacksCome_l2b F (f_X12_sacksCome_l2 F fu) G23 G32 G35 _ = _
          simp (disch := omega) only [reduceIte, Nat.reduceEqDiff, Nat.reduceAdd, Nat.reduceSub, Nat.reduceMul, Nat.reduceLT, Int.reduceNeg, Int.reduceAdd, Int.reduceSub, Int.reduceMul, Int.reduceLT, Int.reduceLE, Int.reduceEq, Int.reduceToNat, reduceCtorEq, and_self, and_true, true_and, false_and, and_false, or_false, false_or, or_true, true_or, true_implies, false_implies, implies_true, not_true_eq_false, not_false_eq_true, Int.toNat_natCast, Int.cast_ofNat_Int, eq_self, ne_eq, ite_true, ite_false, if_true, if_false, Int.add_sub_cancel, Int.sub_add_cancel, Int.add_zero, Int.zero_add, cast_s, iI_in, iI_lit, iI_le, iI_lt, iI_eq, iI_cl, iI_add, iI_sub, iI_mul, iI_neg, iI_nI, ok_s, ok_ck, ok_bn, ok_ob, ck_iI, bn_eq, ob_s, om_n, om_s, cb_bI, gI_g, gI_2, gJ_1, gJ_g, gJ_2, gR_1, gR_2, gR_g, within_v, in_v, bI_i0, bI_i1, iI_bI0, iI_bI1, bI_T, bI_F, f_X12_sacksCome_l2b, k2, e, c, h23, c3]
          exact r2
      · have c3 : G35.1 145 s ≤ iI d - G35.1 144 s := Int32.not_lt.mp c2
        obtain ⟨G13a, a1, a2⟩ := empty_c (F := F) hc hb hk hd (q := s) (s := 2) (by omega) hs c hF
        obtain ⟨G32a, b1, b2, b3⟩ := com_m (F := F) (G35 := gI G35 146 s (vp_nar .boolean 0)) hb hd h23 (q := s) (by omega) hF hm (f_X12_sacksCome_l2 F fu)
        have b1 : f_X12_sacksCome_l51 F (f_X12_sacksCome_l2 F fu) F G23 G32 (gI G35 146 s (vp_nar .boolean (iI 0))) (iI s) (iI 0) = f_X12_sacksCome_l2 F fu G23 G32a (gI G35 146 s (vp_nar .boolean 0)) (iI ((s : Int) + 1)) := b1
        obtain ⟨G11', G13', G32', G35', L', r1, r2, r3, r4, r5, r6, r7, r8⟩ := ih (gI G11 48 s (vp_nar .boolean 0)) G13a G32a (gI G35 146 s (vp_nar .boolean 0)) (emL L s 2 d ln) (hk.off _) a2 b2 (emL_b hb (by omega) ln)
        refine ⟨G11', G13', G32', G35', L', ?_, ?_, r3, r4, r5, r6, (emL_kp (by omega) ln).tr r7, KX.tr ⟨fun i _ => emL_o (by omega), b3⟩ r8⟩
        · show f_X6_unpack_l2b F (f_X6_unpack_l2 F fu) G10 G11 G13 _ _ = _
          simp (disch := omega) only [reduceIte, Nat.reduceEqDiff, Nat.reduceAdd, Nat.reduceSub, Nat.reduceMul, Nat.reduceLT, Int.reduceNeg, Int.reduceAdd, Int.reduceSub, Int.reduceMul, Int.reduceLT, Int.reduceLE, Int.reduceEq, Int.reduceToNat, reduceCtorEq, and_self, and_true, true_and, false_and, and_false, or_false, false_or, or_true, true_or, true_implies, false_implies, implies_true, not_true_eq_false, not_false_eq_true, Int.toNat_natCast, Int.cast_ofNat_Int, eq_self, ne_eq, ite_true, ite_false, if_true, if_false, Int.add_sub_cancel, Int.sub_add_cancel, Int.add_zero, Int.zero_add, cast_s, iI_in, iI_lit, iI_le, iI_lt, iI_eq, iI_cl, iI_add, iI_sub, iI_mul, iI_neg, iI_nI, ok_s, ok_ck, ok_bn, ok_ob, ck_iI, bn_eq, ob_s, om_n, om_s, cb_bI, gI_g, gI_2, gJ_1, gJ_g, gJ_2, gR_1, gR_2, gR_g, within_v, in_v, bI_i0, bI_i1, iI_bI0, iI_bI1, bI_T, bI_F, f_X6_unpack_l2b, k1, e, w1, w2, w3, c, c2, a1]
          exact r1
        · show f_X12_sacksCome_l2b F (f_X12_sacksCome_l2 F fu) G23 G32 G35 _ = _
          simp (disch := omega) only [reduceIte, Nat.reduceEqDiff, Nat.reduceAdd, Nat.reduceSub, Nat.reduceMul, Nat.reduceLT, Int.reduceNeg, Int.reduceAdd, Int.reduceSub, Int.reduceMul, Int.reduceLT, Int.reduceLE, Int.reduceEq, Int.reduceToNat, reduceCtorEq, and_self, and_true, true_and, false_and, and_false, or_false, false_or, or_true, true_or, true_implies, false_implies, implies_true, not_true_eq_false, not_false_eq_true, Int.toNat_natCast, Int.cast_ofNat_Int, eq_self, ne_eq, ite_true, ite_false, if_true, if_false, Int.add_sub_cancel, Int.sub_add_cancel, Int.add_zero, Int.zero_add, cast_s, iI_in, iI_lit, iI_le, iI_lt, iI_eq, iI_cl, iI_add, iI_sub, iI_mul, iI_neg, iI_nI, ok_s, ok_ck, ok_bn, ok_ob, ck_iI, bn_eq, ob_s, om_n, om_s, cb_bI, gI_g, gI_2, gJ_1, gJ_g, gJ_2, gR_1, gR_2, gR_g, within_v, in_v, bI_i0, bI_i1, iI_bI0, iI_bI1, bI_T, bI_F, f_X12_sacksCome_l2b, k2, e, c, h23, c3, b1]
          exact r2
-- lags
def lgs2 (G15 G34 : Grp) (n ln : Nat) (tl : Nat → Nat) : Prop := LGS G15 G34 n ln tl
theorem lag_both (hc : LC G10 G13 n ln tp tl L) (hm : LM G32 ln L) (hb : LB pn d ln L) (hg : LGS G15 G34 n ln tl) {G29 G30 G37 G38 : Grp} (hF : 200000 ≤ F) : ∃ G15' G34', f_X6_addLags F G10 G13 G15 = some G15' ∧ f_X12_day_l75 F F G23 G24 G25 G26 G29 G30 G32 G33 G34 G35 G36 G37 G38 (iI 0) = some (G23.1 91 0, G23, G25, G30, G32, G34', G35, G36, G38) ∧ LGS G15' G34' n ln tl := by
  have hl := hb.1
  have h0 := hc.1
  have m0 := hm.1
  have key := up_ind (n := ln) (Q := fun fu i => ∀ G15 G34, LGS G15 G34 n ln tl → ∃ G15' G34', f_X6_addLags_l2 F fu G10 G13 G15 (iI i) = some G15' ∧ f_X12_day_l75 F fu G23 G24 G25 G26 G29 G30 G32 G33 G34 G35 G36 G37 G38 (iI i) = some (G23.1 91 0, G23, G25, G30, G32, G34', G35, G36, G38) ∧ LGS G15' G34' n ln tl) ?_ ?_
  · exact key 0 F (by omega) (by omega) G15 G34 hg
  · intro fu G15 G34 hg
    have e : (ln : Int) ≤ ln := Int.le_refl _
    refine ⟨G15, G34, ?_, ?_, hg⟩
    · show f_X6_addLags_l2b F (f_X6_addLags_l2 F fu) G10 G13 G15 _ = _
      simp (disch := omega) only [reduceIte, Nat.reduceEqDiff, Nat.reduceAdd, Nat.reduceSub, Nat.reduceMul, Nat.reduceLT, Int.reduceNeg, Int.reduceAdd, Int.reduceSub, Int.reduceMul, Int.reduceLT, Int.reduceLE, Int.reduceEq, Int.reduceToNat, reduceCtorEq, and_self, and_true, true_and, false_and, and_false, or_false, false_or, or_true, true_or, true_implies, false_implies, implies_true, not_true_eq_false, not_false_eq_true, Int.toNat_natCast, Int.cast_ofNat_Int, eq_self, ne_eq, ite_true, ite_false, if_true, if_false, Int.add_sub_cancel, Int.sub_add_cancel, Int.add_zero, Int.zero_add, cast_s, iI_in, iI_lit, iI_le, iI_lt, iI_eq, iI_cl, iI_add, iI_sub, iI_mul, iI_neg, iI_nI, ok_s, ok_ck, ok_bn, ok_ob, ck_iI, bn_eq, ob_s, om_n, om_s, cb_bI, gI_g, gI_2, gJ_1, gJ_g, gJ_2, gR_1, gR_2, gR_g, within_v, in_v, bI_i0, bI_i1, iI_bI0, iI_bI1, bI_T, bI_F, f_X6_addLags_l2b, h0, e]
    · show f_X12_day_l75b F (f_X12_day_l75 F fu) G23 G24 G25 G26 G29 G30 G32 G33 G34 G35 G36 G37 G38 _ = _
      simp (disch := omega) only [reduceIte, Nat.reduceEqDiff, Nat.reduceAdd, Nat.reduceSub, Nat.reduceMul, Nat.reduceLT, Int.reduceNeg, Int.reduceAdd, Int.reduceSub, Int.reduceMul, Int.reduceLT, Int.reduceLE, Int.reduceEq, Int.reduceToNat, reduceCtorEq, and_self, and_true, true_and, false_and, and_false, or_false, false_or, or_true, true_or, true_implies, false_implies, implies_true, not_true_eq_false, not_false_eq_true, Int.toNat_natCast, Int.cast_ofNat_Int, eq_self, ne_eq, ite_true, ite_false, if_true, if_false, Int.add_sub_cancel, Int.sub_add_cancel, Int.add_zero, Int.zero_add, cast_s, iI_in, iI_lit, iI_le, iI_lt, iI_eq, iI_cl, iI_add, iI_sub, iI_mul, iI_neg, iI_nI, ok_s, ok_ck, ok_bn, ok_ob, ck_iI, bn_eq, ob_s, om_n, om_s, cb_bI, gI_g, gI_2, gJ_1, gJ_g, gJ_2, gR_1, gR_2, gR_g, within_v, in_v, bI_i0, bI_i1, iI_bI0, iI_bI1, bI_T, bI_F, f_X12_day_l75b, m0, e]
  · intro i fu hi ih G15 G34 hg
    have e : ¬ (ln : Int) ≤ i := by omega
    obtain ⟨p1, p2, p3, p4, p5, p6⟩ := hb.2 i hi
    obtain ⟨q0, q0', q1, q2, q6, q7, q8, q9, q10, q11⟩ := hc.at hi
    obtain ⟨m0', m1, m2, m6, m7, m8, m9, m10, m11⟩ := hm.at hi
    by_cases c : 6 ≤ L i 8
    · have c2 : 5 < L i 8 := by omega
      obtain ⟨G15', G34', r1, r2, r3⟩ := ih G15 G34 hg
      refine ⟨G15', G34', ?_, ?_, r3⟩
      · show f_X6_addLags_l2b F (f_X6_addLags_l2 F fu) G10 G13 G15 _ = _
        simp (disch := omega) only [reduceIte, Nat.reduceEqDiff, Nat.reduceAdd, Nat.reduceSub, Nat.reduceMul, Nat.reduceLT, Int.reduceNeg, Int.reduceAdd, Int.reduceSub, Int.reduceMul, Int.reduceLT, Int.reduceLE, Int.reduceEq, Int.reduceToNat, reduceCtorEq, and_self, and_true, true_and, false_and, and_false, or_false, false_or, or_true, true_or, true_implies, false_implies, implies_true, not_true_eq_false, not_false_eq_true, Int.toNat_natCast, Int.cast_ofNat_Int, eq_self, ne_eq, ite_true, ite_false, if_true, if_false, Int.add_sub_cancel, Int.sub_add_cancel, Int.add_zero, Int.zero_add, cast_s, iI_in, iI_lit, iI_le, iI_lt, iI_eq, iI_cl, iI_add, iI_sub, iI_mul, iI_neg, iI_nI, ok_s, ok_ck, ok_bn, ok_ob, ck_iI, bn_eq, ob_s, om_n, om_s, cb_bI, gI_g, gI_2, gJ_1, gJ_g, gJ_2, gR_1, gR_2, gR_g, within_v, in_v, bI_i0, bI_i1, iI_bI0, iI_bI1, bI_T, bI_F, f_X6_addLags_l2b, h0, e, q0, q8, c]
        exact r1
      · show f_X12_day_l75b F (f_X12_day_l75 F fu) G23 G24 G25 G26 G29 G30 G32 G33 G34 G35 G36 G37 G38 _ = _
        simp (disch := omega) only [reduceIte, Nat.reduceEqDiff, Nat.reduceAdd, Nat.reduceSub, Nat.reduceMul, Nat.reduceLT, Int.reduceNeg, Int.reduceAdd, Int.reduceSub, Int.reduceMul, Int.reduceLT, Int.reduceLE, Int.reduceEq, Int.reduceToNat, reduceCtorEq, and_self, and_true, true_and, false_and, and_false, or_false, false_or, or_true, true_or, true_implies, false_implies, implies_true, not_true_eq_false, not_false_eq_true, Int.toNat_natCast, Int.cast_ofNat_Int, eq_self, ne_eq, ite_true, ite_false, if_true, if_false, Int.add_sub_cancel, Int.sub_add_cancel, Int.add_zero, Int.zero_add, cast_s, iI_in, iI_lit, iI_le, iI_lt, iI_eq, iI_cl, iI_add, iI_sub, iI_mul, iI_neg, iI_nI, ok_s, ok_ck, ok_bn, ok_ob, ck_iI, bn_eq, ob_s, om_n, om_s, cb_bI, gI_g, gI_2, gJ_1, gJ_g, gJ_2, gR_1, gR_2, gR_g, within_v, in_v, bI_i0, bI_i1, iI_bI0, iI_bI1, bI_T, bI_F, f_X12_day_l75b, m0, e, m8, c2]
        exact r2
    · have c2 : ¬ 5 < L i 8 := by omega
      obtain ⟨k, hk⟩ : ∃ k : Nat, L i 8 = (k : Int) := ⟨(L i 8).toNat, by omega⟩
      rw [hk] at c c2 q8 m8 p4
      obtain ⟨g1, g2, g3⟩ := id hg
      have gl := g1 i hi k (by omega)
      have e1 : (6 * (i : Int) + (k : Int)).toNat = 6 * i + k := by omega
      have tli := (hc.2.1 i hi).2.2.2.2
      obtain ⟨G15', G34', r1, r2, r3⟩ := ih (gI G15 (tl i + 2) k (G34.1 142 (6 * i + k) + iI 1)) (gI G34 142 (6 * i + k) (G34.1 142 (6 * i + k) + iI 1)) ⟨fun j hj k' hk' => by
        rw [gI_g, gI_g]
        by_cases ej : j = i ∧ k' = k
        · rw [if_pos ⟨by rw [ej.1], ej.2⟩, if_pos ⟨rfl, by rw [ej.1, ej.2]⟩]
        · rw [if_neg fun z => ej ⟨tl_inj hc hj hi (by omega), z.2⟩, if_neg (by omega)]
          exact g1 j hj k' hk', fun a k' ha => by
        rw [gI_g, if_neg (by omega)]; exact g2 a k' ha, fun j hj => by
        rw [gI_g, if_neg (by omega)]; exact g3 j hj⟩
      refine ⟨G15', G34', ?_, ?_, r3⟩
      · show f_X6_addLags_l2b F (f_X6_addLags_l2 F fu) G10 G13 G15 _ = _
        simp (disch := omega) only [reduceIte, Nat.reduceEqDiff, Nat.reduceAdd, Nat.reduceSub, Nat.reduceMul, Nat.reduceLT, Int.reduceNeg, Int.reduceAdd, Int.reduceSub, Int.reduceMul, Int.reduceLT, Int.reduceLE, Int.reduceEq, Int.reduceToNat, reduceCtorEq, and_self, and_true, true_and, false_and, and_false, or_false, false_or, or_true, true_or, true_implies, false_implies, implies_true, not_true_eq_false, not_false_eq_true, Int.toNat_natCast, Int.cast_ofNat_Int, eq_self, ne_eq, ite_true, ite_false, if_true, if_false, Int.add_sub_cancel, Int.sub_add_cancel, Int.add_zero, Int.zero_add, cast_s, iI_in, iI_lit, iI_le, iI_lt, iI_eq, iI_cl, iI_add, iI_sub, iI_mul, iI_neg, iI_nI, ok_s, ok_ck, ok_bn, ok_ob, ck_iI, bn_eq, ob_s, om_n, om_s, cb_bI, gI_g, gI_2, gJ_1, gJ_g, gJ_2, gR_1, gR_2, gR_g, within_v, in_v, bI_i0, bI_i1, iI_bI0, iI_bI1, bI_T, bI_F, f_X6_addLags_l2b, h0, e, q0, q8, c, gl]
        exact r1
      · show f_X12_day_l75b F (f_X12_day_l75 F fu) G23 G24 G25 G26 G29 G30 G32 G33 G34 G35 G36 G37 G38 _ = _
        simp (disch := omega) only [reduceIte, Nat.reduceEqDiff, Nat.reduceAdd, Nat.reduceSub, Nat.reduceMul, Nat.reduceLT, Int.reduceNeg, Int.reduceAdd, Int.reduceSub, Int.reduceMul, Int.reduceLT, Int.reduceLE, Int.reduceEq, Int.reduceToNat, reduceCtorEq, and_self, and_true, true_and, false_and, and_false, or_false, false_or, or_true, true_or, true_implies, false_implies, implies_true, not_true_eq_false, not_false_eq_true, Int.toNat_natCast, Int.cast_ofNat_Int, eq_self, ne_eq, ite_true, ite_false, if_true, if_false, Int.add_sub_cancel, Int.sub_add_cancel, Int.add_zero, Int.zero_add, cast_s, iI_in, iI_lit, iI_le, iI_lt, iI_eq, iI_cl, iI_add, iI_sub, iI_mul, iI_neg, iI_nI, ok_s, ok_ck, ok_bn, ok_ob, ck_iI, bn_eq, ob_s, om_n, om_s, cb_bI, gI_g, gI_2, gJ_1, gJ_g, gJ_2, gR_1, gR_2, gR_g, within_v, in_v, bI_i0, bI_i1, iI_bI0, iI_bI1, bI_T, bI_F, f_X12_day_l75b, m0, e, m8, c2, e1]
        exact r2
-- letters that come
theorem come_sil (hs : RSil pn d ln P L) (hb : LB pn d ln L) (hp : RPair G7 G9 G25 gn cn d n pn tp P) {i : Nat} (hi : i < ln) (h5 : L i 8 = 5) (h1 : L i 1 = 0) : RSil pn d ln (stP P (L i 0).toNat 8 d) (mv L i 6 d) := fun p hpp => by
  obtain ⟨a1, a2, a3⟩ := hs p hpp
  obtain ⟨p1, p2, p3, p4, p5, p6⟩ := hb.2 i hi
  have pb := hp.2.2.2.2.1 p hpp
  have cc : cnt (fun j => mv L i 6 d j 0 = p) ln = cnt (fun j => L j 0 = p) ln := cnt_congr fun j hj => by rw [mv_o (Or.inr (by omega))]
  have b9 : ∀ j, j < ln → mv L i 6 d j 9 ≤ d := fun j hj => by
    by_cases e : j = i
    · rw [e, mv_9]; omega
    · rw [mv_o (Or.inl e)]; exact (hb.2 j hj).2.2.2.2.1.2
  rw [stP_o (k := 8) (j := 6) (Or.inr (by omega)), stP_o (k := 8) (j := 3) (Or.inr (by omega)), cc]
  refine ⟨a1, ?_, ?_⟩
  · by_cases e : p = (L i 0).toNat
    · rw [e, stP_at]; omega
    · rw [stP_o (Or.inl e)]; exact a2
  · have up := lcs_b (L := mv L i 6 d) (p := p) (fr := P p 3) (B := d) ln (by omega) b9
    by_cases e : p = (L i 0).toNat
    · rw [e, stP_at, ← e, if_neg (by omega)]
      have lo : ∀ k, i < k → (d : Int) ≤ lcs (mv L i 6 d) p (P p 3) k := by
        intro k
        induction k with
        | zero => intro z; omega
        | succ k ih =>
          intro z
          rw [lcs_s]
          by_cases ek : i = k
          · subst ek
            by_cases cl : lcs (mv L i 6 d) p (P p 3) i < mv L i 6 d i 9
            · rw [if_pos ⟨by rw [mv_o (Or.inr (by omega))]; omega, by rw [mv_o (Or.inr (by omega))]; exact h1, mv_8, cl⟩, mv_9]
              exact Int.le_refl _
            · rw [if_neg fun w => cl w.2.2.2]
              rw [mv_9] at cl
              omega
          · have := ih (by omega)
            split
            · rename_i w
              have := w.2.2.2
              omega
            · exact this
      have := lo ln hi
      omega
    · rw [stP_o (Or.inl e), ← a3]
      have key : ∀ k, k ≤ ln → lcs (mv L i 6 d) p (P p 3) k = lcs L p (P p 3) k := by
        intro k
        induction k with
        | zero => intro _; rfl
        | succ k ih =>
          intro hk
          rw [lcs_s, lcs_s, ih (by omega)]
          by_cases ek : k = i
          · subst ek
            rw [if_neg, if_neg]
            · intro w; have := w.2.2.1; omega
            · intro w
              have := w.1
              rw [mv_o (Or.inr (by omega))] at this
              omega
          · rw [mv_o (Or.inl ek), mv_o (Or.inl ek), mv_o (Or.inl ek), mv_o (Or.inl ek)]
      exact key ln (Nat.le_refl _)
theorem come_sil1 (hs : RSil pn d ln P L) {i : Nat} (hi : i < ln) (h5 : L i 8 = 5) (h1 : ¬ L i 1 = 0) : RSil pn d ln P (mv L i 6 d) := fun p hpp => by
  obtain ⟨a1, a2, a3⟩ := hs p hpp
  have cc : cnt (fun j => mv L i 6 d j 0 = p) ln = cnt (fun j => L j 0 = p) ln := cnt_congr fun j hj => by rw [mv_o (Or.inr (by omega))]
  rw [cc]
  refine ⟨a1, a2, ?_⟩
  rw [← a3]
  have key : ∀ k, k ≤ ln → lcs (mv L i 6 d) p (P p 3) k = lcs L p (P p 3) k := by
    intro k
    induction k with
    | zero => intro _; rfl
    | succ k ih =>
      intro hk
      rw [lcs_s, lcs_s, ih (by omega)]
      by_cases ek : k = i
      · subst ek
        rw [if_neg, if_neg]
        · intro w; have := w.2.2.1; omega
        · intro w
          have := w.2.1
          rw [mv_o (Or.inr (by omega))] at this
          omega
      · rw [mv_o (Or.inl ek), mv_o (Or.inl ek), mv_o (Or.inl ek), mv_o (Or.inl ek)]
  exact key ln (Nat.le_refl _)
theorem WT.mvW (h : WT sn ln L) {i : Nat} {s t : Int} (h0 : L i 8 ≠ 0) (hs : s ≠ 0) : WT sn ln (mv L i s t) := by
  have cc : cnt (fun j => mv L i s t j 8 = 0) ln = cnt (fun j => L j 8 = 0) ln := cnt_congr fun j hj => by
    by_cases e : j = i
    · subst e
      rw [mv_8]
      exact ⟨fun z => absurd z hs, fun z => absurd z h0⟩
    · rw [mv_o (Or.inl e)]
  unfold WT at *
  rw [cc]
  exact h
theorem flo_v {v : Nat} (hf : RFolk G6 G24 vn gn cn) (hv : v < vn) (hd : d < 3600) : ∃ x : Int32, f_X3_isFlooded F G6 (iI v) (iI d) = some (if x = 0 then 0 else 1) ∧ ((G24.1 93 v >>> ((iI d / iI 30 - iI d / iI 30 / iI 12 * iI 12) &&& iI 31)) &&& iI 1) = x ∧ (x = 0 ∨ x = 1) := by
  obtain ⟨h1, h2, h3, h4, h5, h6, h7, h8, h9, ha, hb, hc⟩ := id hf
  have w := (ha v hv).2
  refine ⟨_, ?_, rfl, ?_⟩
  · unfold f_X3_isFlooded
    simp (disch := omega) only [reduceIte, Nat.reduceEqDiff, Nat.reduceAdd, Nat.reduceSub, Nat.reduceMul, Nat.reduceLT, Int.reduceNeg, Int.reduceAdd, Int.reduceSub, Int.reduceMul, Int.reduceLT, Int.reduceLE, Int.reduceEq, Int.reduceToNat, reduceCtorEq, and_self, and_true, true_and, false_and, and_false, or_false, false_or, or_true, true_or, true_implies, false_implies, implies_true, not_true_eq_false, not_false_eq_true, Int.toNat_natCast, Int.cast_ofNat_Int, eq_self, ne_eq, ite_true, ite_false, if_true, if_false, Int.add_sub_cancel, Int.sub_add_cancel, Int.add_zero, Int.zero_add, cast_s, iI_in, iI_lit, iI_le, iI_lt, iI_eq, iI_cl, iI_add, iI_sub, iI_mul, iI_neg, iI_nI, ok_s, ok_ck, ok_bn, ok_ob, ck_iI, bn_eq, ob_s, om_n, om_s, cb_bI, gI_g, gI_2, gJ_1, gJ_g, gJ_2, gR_1, gR_2, gR_g, within_v, in_v, bI_i0, bI_i1, iI_bI0, iI_bI1, bI_T, bI_F, w]
    by_cases c : (G24.1 93 v >>> ((iI d / iI 30 - iI d / iI 30 / iI 12 * iI 12) &&& iI 31)) &&& iI 1 = iI 0
    · simp (disch := omega) only [reduceIte, Nat.reduceEqDiff, Nat.reduceAdd, Nat.reduceSub, Nat.reduceMul, Nat.reduceLT, Int.reduceNeg, Int.reduceAdd, Int.reduceSub, Int.reduceMul, Int.reduceLT, Int.reduceLE, Int.reduceEq, Int.reduceToNat, reduceCtorEq, and_self, and_true, true_and, false_and, and_false, or_false, false_or, or_true, true_or, true_implies, false_implies, implies_true, not_true_eq_false, not_false_eq_true, Int.toNat_natCast, Int.cast_ofNat_Int, eq_self, ne_eq, ite_true, ite_false, if_true, if_false, Int.add_sub_cancel, Int.sub_add_cancel, Int.add_zero, Int.zero_add, cast_s, iI_in, iI_lit, iI_le, iI_lt, iI_eq, iI_cl, iI_add, iI_sub, iI_mul, iI_neg, iI_nI, ok_s, ok_ck, ok_bn, ok_ob, ck_iI, bn_eq, ob_s, om_n, om_s, cb_bI, gI_g, gI_2, gJ_1, gJ_g, gJ_2, gR_1, gR_2, gR_g, within_v, in_v, bI_i0, bI_i1, iI_bI0, iI_bI1, bI_T, bI_F, w, c]
    · simp (disch := omega) only [reduceIte, Nat.reduceEqDiff, Nat.reduceAdd, Nat.reduceSub, Nat.reduceMul, Nat.reduceLT, Int.reduceNeg, Int.reduceAdd, Int.reduceSub, Int.reduceMul, Int.reduceLT, Int.reduceLE, Int.reduceEq, Int.reduceToNat, reduceCtorEq, and_self, and_true, true_and, false_and, and_false, or_false, false_or, or_true, true_or, true_implies, false_implies, implies_true, not_true_eq_false, not_false_eq_true, Int.toNat_natCast, Int.cast_ofNat_Int, eq_self, ne_eq, ite_true, ite_false, if_true, if_false, Int.add_sub_cancel, Int.sub_add_cancel, Int.add_zero, Int.zero_add, cast_s, iI_in, iI_lit, iI_le, iI_lt, iI_eq, iI_cl, iI_add, iI_sub, iI_mul, iI_neg, iI_nI, ok_s, ok_ck, ok_bn, ok_ob, ck_iI, bn_eq, ob_s, om_n, om_s, cb_bI, gI_g, gI_2, gJ_1, gJ_g, gJ_2, gR_1, gR_2, gR_g, within_v, in_v, bI_i0, bI_i1, iI_bI0, iI_bI1, bI_T, bI_F, w, c]
  · exact and1_01 _
end PR
