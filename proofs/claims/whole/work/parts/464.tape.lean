/-! the tape -/
def sg8 (c : Nat) : Int := if c < 128 then (c : Int) else (c : Int) - 256
def app (b : Nat → Nat) (z c : Nat) : Nat → Nat := fun i => if i = z then c else b i
def by' (a s : Nat) : Nat := (a >>> s) % 256
theorem iI_nat (x : Int32) : ∃ a : Nat, a < 4294967296 ∧ x = iI (a : Int) := by
  refine ⟨x.toBitVec.toNat, x.toBitVec.isLt, ?_⟩
  apply Int32.toBitVec_inj.mp
  rw [iI_bv]
  exact (BitVec.ofNat_toNat 32 x.toBitVec).symm ▸ (by simp)
set_option maxRecDepth 100000 in
theorem nar_c8 : ∀ c : Nat, c < 256 → vp_nar .char (((iI (c : Int)).toUInt32 % 65536).toInt32) = iI (c : Int) := by decide +kernel
set_option maxRecDepth 100000 in
theorem nar_b8 : ∀ c : Nat, c < 256 → vp_nar .byte ((Int8.ofNat c).toInt32) = iI (sg8 c) := by decide +kernel
theorem chr_v {a s : Nat} (ha : a < 4294967296) (hs : s < 32) : vp_nar .char ((((((iI (a : Int)).toUInt32 >>> ((iI (s : Int)).toUInt32 &&& (iI 31).toUInt32)).toInt32 &&& iI 255).toUInt32 % 65536).toInt32)) = iI ((by' a s : Nat) : Int) := by
  have e2 : iI 255 = iI ((255 : Nat) : Int) := rfl
  rw [iI_ushr ha hs, e2, iI_and]
  have e3 : (a >>> s) &&& 255 = by' a s := by
    unfold by'
    exact Nat.and_two_pow_sub_one_eq_mod (a >>> s) 8
  rw [e3]
  exact nar_c8 _ (Nat.mod_lt _ (by omega))
theorem iI_sar {a s : Nat} (hs : s ≤ 24) : (iI (a : Int) >>> (iI (s : Int) &&& iI 31)).toInt8 = Int8.ofNat (by' a s) := by
  rw [iI_31 (by omega)]
  apply Int8.toBitVec_inj.mp
  apply BitVec.eq_of_getLsbD_eq
  intro i hi
  have e : ((BitVec.ofNat 32 s).smod 32).toNat = s := by
    have hc : ∀ c : Nat, c ≤ 24 → ((BitVec.ofNat 32 c).smod 32).toNat = c := by decide
    exact hc s hs
  have e1 : (iI (a : Int) >>> iI (s : Int)).toInt8.toBitVec = ((BitVec.ofNat 32 a).sshiftRight s).signExtend 8 := by
    show ((BitVec.ofNat 32 a).sshiftRight ((BitVec.ofNat 32 s).smod 32).toNat).signExtend 8 = _
    rw [e]
  rw [e1, BitVec.getLsbD_signExtend, BitVec.getLsbD_sshiftRight, BitVec.getLsbD_ofNat]
  show _ = (BitVec.ofNat 8 (by' a s)).getLsbD i
  rw [BitVec.getLsbD_ofNat]
  have e5 : (by' a s).testBit i = a.testBit (s + i) := by
    show ((a >>> s) % 2 ^ 8).testBit i = _
    rw [Nat.testBit_mod_two_pow, Nat.testBit_shiftRight]
    simp [hi]
  rw [e5]
  have h1 : i < 32 := by omega
  have h2 : s + i < 32 := by omega
  simp [hi, h1, h2]
theorem byt_v {a s : Nat} (hs : s ≤ 24) : vp_nar .byte ((iI (a : Int) >>> (iI (s : Int) &&& iI 31)).toInt8.toInt32) = iI (sg8 (by' a s)) := by
  rw [iI_sar hs]
  exact nar_b8 _ (Nat.mod_lt _ (by omega))
/-- the class's tape, and the reference's; all else as it was -/
def TC (G1 G3 G1o G3o : Grp) (z : Nat) (b : Nat → Nat) : Prop := G1.1 0 2 = iI z ∧ G1.2 = G1o.2 ∧ (∀ a k, ¬ (a = 0 ∧ k = 2) → G1.1 a k = G1o.1 a k) ∧ G3.2 = G3o.2 ∧ (∀ a k, a ≠ 1 → G3.1 a k = G3o.1 a k) ∧ (∀ i, i < z → G3.1 1 i = iI (b i)) ∧ (∀ i, b i < 256)
def TM (G27 G27o : Grp) (z : Nat) (b : Nat → Nat) : Prop := G27.1 91 20 = iI z ∧ ∀ i, i < z → G27.1 106 i = iI (sg8 (b i))
def RTape (G1 G3 G27 : Grp) (z : Nat) (b : Nat → Nat) : Prop := z ≤ 240 ∧ G1.1 0 2 = iI z ∧ G27.1 91 20 = iI z ∧ G3.2.2 1 0 = some 240 ∧ (∀ i, i < z → G3.1 1 i = iI (b i) ∧ G27.1 106 i = iI (sg8 (b i))) ∧ ∀ i, b i < 256
section PR
variable {F : Nat} {G1 G3 G27 G1o G3o G27o : Grp} {z : Nat} {b : Nat → Nat}
theorem app_lt {c : Nat} (h : ∀ i, b i < 256) (hc : c < 256) : ∀ i, app b z c i < 256 := fun i => by
  unfold app
  by_cases e : i = z
  · rw [if_pos e]; exact hc
  · rw [if_neg e]; exact h i
theorem tc_step (h : TC G1 G3 G1o G3o z b) (hz : z < 240) (ho : G3o.2.2 1 0 = some 240) {a s : Nat} (ha : a < 4294967296) (hs : s < 32) (fu : Nat) : ∃ G1' G3', f_X11_feedBytes_l3 F (fu + 1) G1 G3 (iI (a : Int)) (iI (s : Int)) = f_X11_feedBytes_l3 F fu G1' G3' (iI (a : Int)) (iI ((s : Int) - 8)) ∧ TC G1' G3' G1o G3o (z + 1) (app b z (by' a s)) := by
  obtain ⟨h1, h2, h3, h4, h5, h6, h7⟩ := h
  have hlen : G3.2.2 1 0 = some 240 := by rw [h4]; exact ho
  have cv := chr_v ha hs
  refine ⟨gI G1 0 2 (iI ((z : Int) + 1)), gI G3 1 z (iI ((by' a s : Nat) : Int)), ?_, ?_, h2, fun x k hx => ?_, h4, fun x k hx => ?_, fun i hi => ?_, app_lt h7 (Nat.mod_lt _ (by omega))⟩
  · show f_X11_feedBytes_l3b F (f_X11_feedBytes_l3 F fu) G1 G3 _ _ = _
    have e1 : ¬ (s : Int) < 0 := by omega
    have e2 : ¬ (240 : Int) ≤ z := by omega
    have e3 : (s : Int) + -8 = (s : Int) - 8 := by omega
    simp (disch := omega) only [reduceIte, Nat.reduceEqDiff, Nat.reduceAdd, Nat.reduceSub, Nat.reduceMul, Nat.reduceLT, Int.reduceNeg, Int.reduceAdd, Int.reduceSub, Int.reduceMul, Int.reduceLT, Int.reduceLE, Int.reduceEq, Int.reduceToNat, reduceCtorEq, and_self, and_true, true_and, false_and, and_false, or_false, false_or, or_true, true_or, true_implies, false_implies, implies_true, not_true_eq_false, not_false_eq_true, Int.toNat_natCast, Int.cast_ofNat_Int, eq_self, ne_eq, ite_true, ite_false, if_true, if_false, Int.add_sub_cancel, Int.sub_add_cancel, Int.add_zero, Int.zero_add, cast_s, iI_in, iI_lit, iI_le, iI_lt, iI_eq, iI_cl, iI_add, iI_sub, iI_mul, iI_neg, iI_nI, ok_s, ok_ck, ok_bn, ok_ob, ck_iI, bn_eq, ob_s, om_n, om_s, cb_bI, gI_g, gI_2, gJ_1, gJ_g, gJ_2, gR_1, gR_2, gR_g, within_v, in_v, bI_i0, bI_i1, iI_bI0, iI_bI1, bI_T, bI_F, f_X11_feedBytes_l3b, h1, hlen, e1, e2, Option.getD_some, cv, e3]
  · simp (disch := omega) only [reduceIte, Nat.reduceEqDiff, Nat.reduceAdd, Nat.reduceSub, Nat.reduceMul, Nat.reduceLT, Int.reduceNeg, Int.reduceAdd, Int.reduceSub, Int.reduceMul, Int.reduceLT, Int.reduceLE, Int.reduceEq, Int.reduceToNat, reduceCtorEq, and_self, and_true, true_and, false_and, and_false, or_false, false_or, or_true, true_or, true_implies, false_implies, implies_true, not_true_eq_false, not_false_eq_true, Int.toNat_natCast, Int.cast_ofNat_Int, eq_self, ne_eq, ite_true, ite_false, if_true, if_false, Int.add_sub_cancel, Int.sub_add_cancel, Int.add_zero, Int.zero_add, cast_s, iI_in, iI_lit, iI_le, iI_lt, iI_eq, iI_cl, iI_add, iI_sub, iI_mul, iI_neg, iI_nI, ok_s, ok_ck, ok_bn, ok_ob, ck_iI, bn_eq, ob_s, om_n, om_s, cb_bI, gI_g, gI_2, gJ_1, gJ_g, gJ_2, gR_1, gR_2, gR_g, within_v, in_v, bI_i0, bI_i1, iI_bI0, iI_bI1, bI_T, bI_F]
  · simp (disch := omega) only [reduceIte, Nat.reduceEqDiff, Nat.reduceAdd, Nat.reduceSub, Nat.reduceMul, Nat.reduceLT, Int.reduceNeg, Int.reduceAdd, Int.reduceSub, Int.reduceMul, Int.reduceLT, Int.reduceLE, Int.reduceEq, Int.reduceToNat, reduceCtorEq, and_self, and_true, true_and, false_and, and_false, or_false, false_or, or_true, true_or, true_implies, false_implies, implies_true, not_true_eq_false, not_false_eq_true, Int.toNat_natCast, Int.cast_ofNat_Int, eq_self, ne_eq, ite_true, ite_false, if_true, if_false, Int.add_sub_cancel, Int.sub_add_cancel, Int.add_zero, Int.zero_add, cast_s, iI_in, iI_lit, iI_le, iI_lt, iI_eq, iI_cl, iI_add, iI_sub, iI_mul, iI_neg, iI_nI, ok_s, ok_ck, ok_bn, ok_ob, ck_iI, bn_eq, ob_s, om_n, om_s, cb_bI, gI_g, gI_2, gJ_1, gJ_g, gJ_2, gR_1, gR_2, gR_g, within_v, in_v, bI_i0, bI_i1, iI_bI0, iI_bI1, bI_T, bI_F, hx]
    exact h3 x k hx
  · simp (disch := omega) only [reduceIte, Nat.reduceEqDiff, Nat.reduceAdd, Nat.reduceSub, Nat.reduceMul, Nat.reduceLT, Int.reduceNeg, Int.reduceAdd, Int.reduceSub, Int.reduceMul, Int.reduceLT, Int.reduceLE, Int.reduceEq, Int.reduceToNat, reduceCtorEq, and_self, and_true, true_and, false_and, and_false, or_false, false_or, or_true, true_or, true_implies, false_implies, implies_true, not_true_eq_false, not_false_eq_true, Int.toNat_natCast, Int.cast_ofNat_Int, eq_self, ne_eq, ite_true, ite_false, if_true, if_false, Int.add_sub_cancel, Int.sub_add_cancel, Int.add_zero, Int.zero_add, cast_s, iI_in, iI_lit, iI_le, iI_lt, iI_eq, iI_cl, iI_add, iI_sub, iI_mul, iI_neg, iI_nI, ok_s, ok_ck, ok_bn, ok_ob, ck_iI, bn_eq, ob_s, om_n, om_s, cb_bI, gI_g, gI_2, gJ_1, gJ_g, gJ_2, gR_1, gR_2, gR_g, within_v, in_v, bI_i0, bI_i1, iI_bI0, iI_bI1, bI_T, bI_F, hx]
    exact h5 x k hx
  · unfold app
    by_cases e : i = z
    · simp (disch := omega) only [reduceIte, Nat.reduceEqDiff, Nat.reduceAdd, Nat.reduceSub, Nat.reduceMul, Nat.reduceLT, Int.reduceNeg, Int.reduceAdd, Int.reduceSub, Int.reduceMul, Int.reduceLT, Int.reduceLE, Int.reduceEq, Int.reduceToNat, reduceCtorEq, and_self, and_true, true_and, false_and, and_false, or_false, false_or, or_true, true_or, true_implies, false_implies, implies_true, not_true_eq_false, not_false_eq_true, Int.toNat_natCast, Int.cast_ofNat_Int, eq_self, ne_eq, ite_true, ite_false, if_true, if_false, Int.add_sub_cancel, Int.sub_add_cancel, Int.add_zero, Int.zero_add, cast_s, iI_in, iI_lit, iI_le, iI_lt, iI_eq, iI_cl, iI_add, iI_sub, iI_mul, iI_neg, iI_nI, ok_s, ok_ck, ok_bn, ok_ob, ck_iI, bn_eq, ob_s, om_n, om_s, cb_bI, gI_g, gI_2, gJ_1, gJ_g, gJ_2, gR_1, gR_2, gR_g, within_v, in_v, bI_i0, bI_i1, iI_bI0, iI_bI1, bI_T, bI_F, e]
    · simp (disch := omega) only [reduceIte, Nat.reduceEqDiff, Nat.reduceAdd, Nat.reduceSub, Nat.reduceMul, Nat.reduceLT, Int.reduceNeg, Int.reduceAdd, Int.reduceSub, Int.reduceMul, Int.reduceLT, Int.reduceLE, Int.reduceEq, Int.reduceToNat, reduceCtorEq, and_self, and_true, true_and, false_and, and_false, or_false, false_or, or_true, true_or, true_implies, false_implies, implies_true, not_true_eq_false, not_false_eq_true, Int.toNat_natCast, Int.cast_ofNat_Int, eq_self, ne_eq, ite_true, ite_false, if_true, if_false, Int.add_sub_cancel, Int.sub_add_cancel, Int.add_zero, Int.zero_add, cast_s, iI_in, iI_lit, iI_le, iI_lt, iI_eq, iI_cl, iI_add, iI_sub, iI_mul, iI_neg, iI_nI, ok_s, ok_ck, ok_bn, ok_ob, ck_iI, bn_eq, ob_s, om_n, om_s, cb_bI, gI_g, gI_2, gJ_1, gJ_g, gJ_2, gR_1, gR_2, gR_g, within_v, in_v, bI_i0, bI_i1, iI_bI0, iI_bI1, bI_T, bI_F, e]
      exact h6 i (by omega)
theorem tm_step (h : TM G27 G27o z b) (hz : z < 240) {a k : Nat} (hk : k ≤ 3) (fu : Nat) : ∃ G27', f_X12_types_l2 F (fu + 1) G27 (iI (a : Int)) (iI (k : Int)) = f_X12_types_l2 F fu G27' (iI (a : Int)) (iI ((k : Int) - 1)) ∧ TM G27' G27o (z + 1) (app b z (by' a (8 * k))) := by
  obtain ⟨h1, h2⟩ := h
  have cv := byt_v (a := a) (s := 8 * k) (by omega)
  rw [show (((8 * k : Nat)) : Int) = 8 * (k : Int) by omega] at cv
  refine ⟨gI (gI G27 106 z (iI (sg8 (by' a (8 * k))))) 91 20 (iI ((z : Int) + 1)), ?_, ?_, fun i hi => ?_⟩
  · show f_X12_types_l2b F (f_X12_types_l2 F fu) G27 _ _ = _
    have e1 : ¬ (k : Int) < 0 := by omega
    have e3 : (k : Int) + -1 = (k : Int) - 1 := by omega
    simp (disch := omega) only [reduceIte, Nat.reduceEqDiff, Nat.reduceAdd, Nat.reduceSub, Nat.reduceMul, Nat.reduceLT, Int.reduceNeg, Int.reduceAdd, Int.reduceSub, Int.reduceMul, Int.reduceLT, Int.reduceLE, Int.reduceEq, Int.reduceToNat, reduceCtorEq, and_self, and_true, true_and, false_and, and_false, or_false, false_or, or_true, true_or, true_implies, false_implies, implies_true, not_true_eq_false, not_false_eq_true, Int.toNat_natCast, Int.cast_ofNat_Int, eq_self, ne_eq, ite_true, ite_false, if_true, if_false, Int.add_sub_cancel, Int.sub_add_cancel, Int.add_zero, Int.zero_add, cast_s, iI_in, iI_lit, iI_le, iI_lt, iI_eq, iI_cl, iI_add, iI_sub, iI_mul, iI_neg, iI_nI, ok_s, ok_ck, ok_bn, ok_ob, ck_iI, bn_eq, ob_s, om_n, om_s, cb_bI, gI_g, gI_2, gJ_1, gJ_g, gJ_2, gR_1, gR_2, gR_g, within_v, in_v, bI_i0, bI_i1, iI_bI0, iI_bI1, bI_T, bI_F, f_X12_types_l2b, h1, e1, cv, e3]
  · simp (disch := omega) only [reduceIte, Nat.reduceEqDiff, Nat.reduceAdd, Nat.reduceSub, Nat.reduceMul, Nat.reduceLT, Int.reduceNeg, Int.reduceAdd, Int.reduceSub, Int.reduceMul, Int.reduceLT, Int.reduceLE, Int.reduceEq, Int.reduceToNat, reduceCtorEq, and_self, and_true, true_and, false_and, and_false, or_false, false_or, or_true, true_or, true_implies, false_implies, implies_true, not_true_eq_false, not_false_eq_true, Int.toNat_natCast, Int.cast_ofNat_Int, eq_self, ne_eq, ite_true, ite_false, if_true, if_false, Int.add_sub_cancel, Int.sub_add_cancel, Int.add_zero, Int.zero_add, cast_s, iI_in, iI_lit, iI_le, iI_lt, iI_eq, iI_cl, iI_add, iI_sub, iI_mul, iI_neg, iI_nI, ok_s, ok_ck, ok_bn, ok_ob, ck_iI, bn_eq, ob_s, om_n, om_s, cb_bI, gI_g, gI_2, gJ_1, gJ_g, gJ_2, gR_1, gR_2, gR_g, within_v, in_v, bI_i0, bI_i1, iI_bI0, iI_bI1, bI_T, bI_F]
  · unfold app
    by_cases e : i = z
    · simp (disch := omega) only [reduceIte, Nat.reduceEqDiff, Nat.reduceAdd, Nat.reduceSub, Nat.reduceMul, Nat.reduceLT, Int.reduceNeg, Int.reduceAdd, Int.reduceSub, Int.reduceMul, Int.reduceLT, Int.reduceLE, Int.reduceEq, Int.reduceToNat, reduceCtorEq, and_self, and_true, true_and, false_and, and_false, or_false, false_or, or_true, true_or, true_implies, false_implies, implies_true, not_true_eq_false, not_false_eq_true, Int.toNat_natCast, Int.cast_ofNat_Int, eq_self, ne_eq, ite_true, ite_false, if_true, if_false, Int.add_sub_cancel, Int.sub_add_cancel, Int.add_zero, Int.zero_add, cast_s, iI_in, iI_lit, iI_le, iI_lt, iI_eq, iI_cl, iI_add, iI_sub, iI_mul, iI_neg, iI_nI, ok_s, ok_ck, ok_bn, ok_ob, ck_iI, bn_eq, ob_s, om_n, om_s, cb_bI, gI_g, gI_2, gJ_1, gJ_g, gJ_2, gR_1, gR_2, gR_g, within_v, in_v, bI_i0, bI_i1, iI_bI0, iI_bI1, bI_T, bI_F, e]
    · simp (disch := omega) only [reduceIte, Nat.reduceEqDiff, Nat.reduceAdd, Nat.reduceSub, Nat.reduceMul, Nat.reduceLT, Int.reduceNeg, Int.reduceAdd, Int.reduceSub, Int.reduceMul, Int.reduceLT, Int.reduceLE, Int.reduceEq, Int.reduceToNat, reduceCtorEq, and_self, and_true, true_and, false_and, and_false, or_false, false_or, or_true, true_or, true_implies, false_implies, implies_true, not_true_eq_false, not_false_eq_true, Int.toNat_natCast, Int.cast_ofNat_Int, eq_self, ne_eq, ite_true, ite_false, if_true, if_false, Int.add_sub_cancel, Int.sub_add_cancel, Int.add_zero, Int.zero_add, cast_s, iI_in, iI_lit, iI_le, iI_lt, iI_eq, iI_cl, iI_add, iI_sub, iI_mul, iI_neg, iI_nI, ok_s, ok_ck, ok_bn, ok_ob, ck_iI, bn_eq, ob_s, om_n, om_s, cb_bI, gI_g, gI_2, gJ_1, gJ_g, gJ_2, gR_1, gR_2, gR_g, within_v, in_v, bI_i0, bI_i1, iI_bI0, iI_bI1, bI_T, bI_F, e]
      exact h2 i (by omega)
def app4 (b : Nat → Nat) (z a : Nat) : Nat → Nat := app (app (app (app b z (by' a 24)) (z + 1) (by' a 16)) (z + 2) (by' a 8)) (z + 3) (by' a 0)
theorem tc_4 (h : TC G1 G3 G1o G3o z b) (hz : z + 4 ≤ 240) (ho : G3o.2.2 1 0 = some 240) (hF : 200000 ≤ F) {a : Nat} (ha : a < 4294967296) : ∃ q, f_X11_feedBytes F G1 G3 (iI (a : Int)) = some q ∧ TC q.1 q.2 G1o G3o (z + 4) (app4 b z a) := by
  obtain ⟨fu, rfl⟩ : ∃ f, F = f + 5 := ⟨F - 5, by omega⟩
  obtain ⟨A1, B1, e1, t1⟩ := tc_step (F := fu + 5) h (by omega) ho ha (s := 24) (by omega) (fu + 4)
  obtain ⟨A2, B2, e2, t2⟩ := tc_step (F := fu + 5) t1 (by omega) ho ha (s := 16) (by omega) (fu + 3)
  obtain ⟨A3, B3, e3, t3⟩ := tc_step (F := fu + 5) t2 (by omega) ho ha (s := 8) (by omega) (fu + 2)
  obtain ⟨A4, B4, e4, t4⟩ := tc_step (F := fu + 5) t3 (by omega) ho ha (s := 0) (by omega) (fu + 1)
  refine ⟨(A4, B4), ?_, t4⟩
  show f_X11_feedBytes_l3 (fu + 5) (fu + 4 + 1) G1 G3 (iI (a : Int)) (iI ((24 : Nat) : Int)) = _
  rw [e1]
  show f_X11_feedBytes_l3 (fu + 5) (fu + 3 + 1) A1 B1 (iI (a : Int)) (iI ((16 : Nat) : Int)) = _
  rw [e2]
  show f_X11_feedBytes_l3 (fu + 5) (fu + 2 + 1) A2 B2 (iI (a : Int)) (iI ((8 : Nat) : Int)) = _
  rw [e3]
  show f_X11_feedBytes_l3 (fu + 5) (fu + 1 + 1) A3 B3 (iI (a : Int)) (iI ((0 : Nat) : Int)) = _
  rw [e4]
  show f_X11_feedBytes_l3b (fu + 5) (f_X11_feedBytes_l3 (fu + 5) fu) A4 B4 (iI (a : Int)) (iI ((0 : Nat) - 8 : Int)) = _
  simp (disch := omega) only [reduceIte, Nat.reduceEqDiff, Nat.reduceAdd, Nat.reduceSub, Nat.reduceMul, Nat.reduceLT, Int.reduceNeg, Int.reduceAdd, Int.reduceSub, Int.reduceMul, Int.reduceLT, Int.reduceLE, Int.reduceEq, Int.reduceToNat, reduceCtorEq, and_self, and_true, true_and, false_and, and_false, or_false, false_or, or_true, true_or, true_implies, false_implies, implies_true, not_true_eq_false, not_false_eq_true, Int.toNat_natCast, Int.cast_ofNat_Int, eq_self, ne_eq, ite_true, ite_false, if_true, if_false, Int.add_sub_cancel, Int.sub_add_cancel, Int.add_zero, Int.zero_add, cast_s, iI_in, iI_lit, iI_le, iI_lt, iI_eq, iI_cl, iI_add, iI_sub, iI_mul, iI_neg, iI_nI, ok_s, ok_ck, ok_bn, ok_ob, ck_iI, bn_eq, ob_s, om_n, om_s, cb_bI, gI_g, gI_2, gJ_1, gJ_g, gJ_2, gR_1, gR_2, gR_g, within_v, in_v, bI_i0, bI_i1, iI_bI0, iI_bI1, bI_T, bI_F, f_X11_feedBytes_l3b]
theorem tm_4 (h : TM G27 G27o z b) (hz : z + 4 ≤ 240) (hF : 200000 ≤ F) {a : Nat} : ∃ q, f_X12_types F G27 (iI (a : Int)) = some q ∧ TM q G27o (z + 4) (app4 b z a) := by
  obtain ⟨fu, rfl⟩ : ∃ f, F = f + 5 := ⟨F - 5, by omega⟩
  obtain ⟨A1, e1, t1⟩ := tm_step (F := fu + 5) h (by omega) (a := a) (k := 3) (by omega) (fu + 4)
  obtain ⟨A2, e2, t2⟩ := tm_step (F := fu + 5) t1 (by omega) (a := a) (k := 2) (by omega) (fu + 3)
  obtain ⟨A3, e3, t3⟩ := tm_step (F := fu + 5) t2 (by omega) (a := a) (k := 1) (by omega) (fu + 2)
  obtain ⟨A4, e4, t4⟩ := tm_step (F := fu + 5) t3 (by omega) (a := a) (k := 0) (by omega) (fu + 1)
  refine ⟨A4, ?_, t4⟩
  show f_X12_types_l2 (fu + 5) (fu + 4 + 1) G27 (iI (a : Int)) (iI ((3 : Nat) : Int)) = _
  rw [e1]
  show f_X12_types_l2 (fu + 5) (fu + 3 + 1) A1 (iI (a : Int)) (iI ((2 : Nat) : Int)) = _
  rw [e2]
  show f_X12_types_l2 (fu + 5) (fu + 2 + 1) A2 (iI (a : Int)) (iI ((1 : Nat) : Int)) = _
  rw [e3]
  show f_X12_types_l2 (fu + 5) (fu + 1 + 1) A3 (iI (a : Int)) (iI ((0 : Nat) : Int)) = _
  rw [e4]
  show f_X12_types_l2b (fu + 5) (f_X12_types_l2 (fu + 5) fu) A4 (iI (a : Int)) (iI ((0 : Nat) - 1 : Int)) = _
  simp (disch := omega) only [reduceIte, Nat.reduceEqDiff, Nat.reduceAdd, Nat.reduceSub, Nat.reduceMul, Nat.reduceLT, Int.reduceNeg, Int.reduceAdd, Int.reduceSub, Int.reduceMul, Int.reduceLT, Int.reduceLE, Int.reduceEq, Int.reduceToNat, reduceCtorEq, and_self, and_true, true_and, false_and, and_false, or_false, false_or, or_true, true_or, true_implies, false_implies, implies_true, not_true_eq_false, not_false_eq_true, Int.toNat_natCast, Int.cast_ofNat_Int, eq_self, ne_eq, ite_true, ite_false, if_true, if_false, Int.add_sub_cancel, Int.sub_add_cancel, Int.add_zero, Int.zero_add, cast_s, iI_in, iI_lit, iI_le, iI_lt, iI_eq, iI_cl, iI_add, iI_sub, iI_mul, iI_neg, iI_nI, ok_s, ok_ck, ok_bn, ok_ob, ck_iI, bn_eq, ob_s, om_n, om_s, cb_bI, gI_g, gI_2, gJ_1, gJ_g, gJ_2, gR_1, gR_2, gR_g, within_v, in_v, bI_i0, bI_i1, iI_bI0, iI_bI1, bI_T, bI_F, f_X12_types_l2b]
theorem call_feed (h : RTape G1 G3 G27 z b) (hF : 200000 ≤ F) (a1 a2 a3 a4 a5 : Int32) : ok (f_X11_feed F G1 G3 a1 a2 a3 a4 a5) (fun q => ok (f_X12_feed F G27 a1 a2 a3 a4 a5) fun r => q.1 = r.1 ∧ (∃ z' b', RTape q.2.1 q.2.2 r.2 z' b') ∧ q.2.1.2 = G1.2 ∧ (∀ a k, ¬ (a = 0 ∧ k = 2) → q.2.1.1 a k = G1.1 a k) ∧ q.2.2.2 = G3.2 ∧ ∀ a k, a ≠ 1 → q.2.2.1 a k = G3.1 a k) := by
  obtain ⟨h1, h2, h3, h4, h5, h6⟩ := id h
  obtain ⟨a1, p1, rfl⟩ := iI_nat a1
  obtain ⟨a2, p2, rfl⟩ := iI_nat a2
  obtain ⟨a3, p3, rfl⟩ := iI_nat a3
  obtain ⟨a4, p4, rfl⟩ := iI_nat a4
  obtain ⟨a5, p5, rfl⟩ := iI_nat a5
  by_cases c : z ≤ 220
  · have c1 : (z : Int) ≤ 220 := by omega
    have c2 : (z : Int) + 20 ≤ 240 := by omega
    have t0 : TC G1 G3 G1 G3 z b := ⟨h2, rfl, fun _ _ _ => rfl, rfl, fun _ _ _ => rfl, fun i hi => (h5 i hi).1, h6⟩
    obtain ⟨q1, e1, t1⟩ := tc_4 t0 (by omega) h4 hF p1
    obtain ⟨q2, e2, t2⟩ := tc_4 t1 (by omega) h4 hF p2
    obtain ⟨q3, e3, t3⟩ := tc_4 t2 (by omega) h4 hF p3
    obtain ⟨q4, e4, t4⟩ := tc_4 t3 (by omega) h4 hF p4
    obtain ⟨q5, e5, t5⟩ := tc_4 t4 (by omega) h4 hF p5
    have s0 : TM G27 G27 z b := ⟨h3, fun i hi => (h5 i hi).2⟩
    obtain ⟨r1, f1, s1⟩ := tm_4 s0 (by omega) hF (a := a1)
    obtain ⟨r2, f2, s2⟩ := tm_4 s1 (by omega) hF (a := a2)
    obtain ⟨r3, f3, s3⟩ := tm_4 s2 (by omega) hF (a := a3)
    obtain ⟨r4, f4, s4⟩ := tm_4 s3 (by omega) hF (a := a4)
    obtain ⟨r5, f5, s5⟩ := tm_4 s4 (by omega) hF (a := a5)
    simp (disch := omega) only [reduceIte, Nat.reduceEqDiff, Nat.reduceAdd, Nat.reduceSub, Nat.reduceMul, Nat.reduceLT, Int.reduceNeg, Int.reduceAdd, Int.reduceSub, Int.reduceMul, Int.reduceLT, Int.reduceLE, Int.reduceEq, Int.reduceToNat, reduceCtorEq, and_self, and_true, true_and, false_and, and_false, or_false, false_or, or_true, true_or, true_implies, false_implies, implies_true, not_true_eq_false, not_false_eq_true, Int.toNat_natCast, Int.cast_ofNat_Int, eq_self, ne_eq, ite_true, ite_false, if_true, if_false, Int.add_sub_cancel, Int.sub_add_cancel, Int.add_zero, Int.zero_add, cast_s, iI_in, iI_lit, iI_le, iI_lt, iI_eq, iI_cl, iI_add, iI_sub, iI_mul, iI_neg, iI_nI, ok_s, ok_ck, ok_bn, ok_ob, ck_iI, bn_eq, ob_s, om_n, om_s, cb_bI, gI_g, gI_2, gJ_1, gJ_g, gJ_2, gR_1, gR_2, gR_g, within_v, in_v, bI_i0, bI_i1, iI_bI0, iI_bI1, bI_T, bI_F, f_X11_feed, f_X12_feed, h2, h3, c1, c2, e1, e2, e3, e4, e5, f1, f2, f3, f4, f5]
    obtain ⟨u1, u2, u3, u4, u5, u6, u7⟩ := t5
    obtain ⟨w1, w2⟩ := s5
    refine ⟨by rw [u1, w1], ⟨z + 4 + 4 + 4 + 4 + 4, _, by omega, u1, w1, by rw [u4]; exact h4, fun i hi => ⟨u6 i hi, w2 i hi⟩, u7⟩, u2, u3, u4, u5⟩
  · have c1 : ¬ (z : Int) ≤ 220 := by omega
    have c2 : ¬ (z : Int) + 20 ≤ 240 := by omega
    simp (disch := omega) only [reduceIte, Nat.reduceEqDiff, Nat.reduceAdd, Nat.reduceSub, Nat.reduceMul, Nat.reduceLT, Int.reduceNeg, Int.reduceAdd, Int.reduceSub, Int.reduceMul, Int.reduceLT, Int.reduceLE, Int.reduceEq, Int.reduceToNat, reduceCtorEq, and_self, and_true, true_and, false_and, and_false, or_false, false_or, or_true, true_or, true_implies, false_implies, implies_true, not_true_eq_false, not_false_eq_true, Int.toNat_natCast, Int.cast_ofNat_Int, eq_self, ne_eq, ite_true, ite_false, if_true, if_false, Int.add_sub_cancel, Int.sub_add_cancel, Int.add_zero, Int.zero_add, cast_s, iI_in, iI_lit, iI_le, iI_lt, iI_eq, iI_cl, iI_add, iI_sub, iI_mul, iI_neg, iI_nI, ok_s, ok_ck, ok_bn, ok_ob, ck_iI, bn_eq, ob_s, om_n, om_s, cb_bI, gI_g, gI_2, gJ_1, gJ_g, gJ_2, gR_1, gR_2, gR_g, within_v, in_v, bI_i0, bI_i1, iI_bI0, iI_bI1, bI_T, bI_F, f_X11_feed, f_X12_feed, h2, h3, c1, c2]
    exact ⟨z, b, h⟩
end PR
