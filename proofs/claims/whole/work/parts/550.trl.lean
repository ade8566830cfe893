/-! TRANSLATORS of both -/
def nwW (a b c e : Nat) (k : Nat) : Nat := if k = 0 then a else if k = 1 then b else if k = 2 then c else e
def adW (W : Nat → Nat → Nat) (wn a b c e : Nat) : Nat → Nat → Nat := fun t k => if t = wn then nwW a b c e k else W t k
def lng (a b : Nat) : Int64 := (iI (a : Int)).toInt64 ||| ((iI (b : Int)).toInt64 <<< ((iI 18).toInt64 &&& 63))
def RTr (G16 G37 : Grp) (wn : Nat) (W : Nat → Nat → Nat) : Prop :=
  wn ≤ 6 ∧ G16.1 60 0 = iI wn ∧ G37.1 91 76 = iI wn ∧
  (∀ t, t < wn → G16.2.1 61 t = lng (W t 0) (W t 1) ∧ G16.1 62 t = iI (W t 2) ∧ G16.1 63 t = iI (W t 3) ∧ G37.1 149 t = iI (W t 0) ∧ G37.1 150 t = iI (W t 1) ∧ G37.1 151 t = iI (W t 2) ∧ G37.1 152 t = iI (W t 3)) ∧
  ∀ t, t < wn → W t 0 < 262144 ∧ W t 1 < 262144 ∧ (1 ≤ W t 2 ∧ W t 2 ≤ 4) ∧ W t 3 < 128
section PR
variable {F wn : Nat} {G16 G37 : Grp} {W : Nat → Nat → Nat}
theorem call_translator (h : RTr G16 G37 wn W) (a b c e : Int32) : ok (f_X11_translator F G16 a b c e) (fun q => ok (f_X12_translator F G37 a b c e) fun r => q.1 = r.1 ∧ ∃ wn' W', RTr q.2 r.2 wn' W') := by
  obtain ⟨h1, h2, h3, h4, h5⟩ := id h
  obtain ⟨a, rfl, a1, a2⟩ := iI_ex a
  obtain ⟨b, rfl, b1, b2⟩ := iI_ex b
  obtain ⟨c, rfl, c1, c2⟩ := iI_ex c
  obtain ⟨e, rfl, e1, e2⟩ := iI_ex e
  by_cases k1 : 0 ≤ a ∧ a ≤ 262143
  case neg =>
    simp (disch := omega) only [reduceIte, Nat.reduceEqDiff, Nat.reduceAdd, Nat.reduceSub, Nat.reduceMul, Nat.reduceLT, Int.reduceNeg, Int.reduceAdd, Int.reduceSub, Int.reduceMul, Int.reduceLT, Int.reduceLE, Int.reduceEq, Int.reduceToNat, reduceCtorEq, and_self, and_true, true_and, false_and, and_false, or_false, false_or, or_true, true_or, true_implies, false_implies, implies_true, not_true_eq_false, not_false_eq_true, Int.toNat_natCast, Int.cast_ofNat_Int, eq_self, ne_eq, ite_true, ite_false, if_true, if_false, Int.add_sub_cancel, Int.sub_add_cancel, Int.add_zero, Int.zero_add, cast_s, iI_in, iI_lit, iI_le, iI_lt, iI_eq, iI_cl, iI_add, iI_sub, iI_mul, iI_neg, iI_nI, ok_s, ok_ck, ok_bn, ok_ob, ck_iI, bn_eq, ob_s, om_n, om_s, cb_bI, gI_g, gI_2, gJ_1, gJ_g, gJ_2, gR_1, gR_2, gR_g, within_v, in_v, bI_i0, bI_i1, iI_bI0, iI_bI1, bI_T, bI_F, f_X11_translator, f_X12_translator, h2, h3, k1]
    exact ⟨wn, W, h⟩
  by_cases k2 : 0 ≤ b ∧ b ≤ 262143
  case neg =>
    simp (disch := omega) only [reduceIte, Nat.reduceEqDiff, Nat.reduceAdd, Nat.reduceSub, Nat.reduceMul, Nat.reduceLT, Int.reduceNeg, Int.reduceAdd, Int.reduceSub, Int.reduceMul, Int.reduceLT, Int.reduceLE, Int.reduceEq, Int.reduceToNat, reduceCtorEq, and_self, and_true, true_and, false_and, and_false, or_false, false_or, or_true, true_or, true_implies, false_implies, implies_true, not_true_eq_false, not_false_eq_true, Int.toNat_natCast, Int.cast_ofNat_Int, eq_self, ne_eq, ite_true, ite_false, if_true, if_false, Int.add_sub_cancel, Int.sub_add_cancel, Int.add_zero, Int.zero_add, cast_s, iI_in, iI_lit, iI_le, iI_lt, iI_eq, iI_cl, iI_add, iI_sub, iI_mul, iI_neg, iI_nI, ok_s, ok_ck, ok_bn, ok_ob, ck_iI, bn_eq, ob_s, om_n, om_s, cb_bI, gI_g, gI_2, gJ_1, gJ_g, gJ_2, gR_1, gR_2, gR_g, within_v, in_v, bI_i0, bI_i1, iI_bI0, iI_bI1, bI_T, bI_F, f_X11_translator, f_X12_translator, h2, h3, k1, k2]
    exact ⟨wn, W, h⟩
  by_cases k3 : 1 ≤ c ∧ c ≤ 4
  case neg =>
    simp (disch := omega) only [reduceIte, Nat.reduceEqDiff, Nat.reduceAdd, Nat.reduceSub, Nat.reduceMul, Nat.reduceLT, Int.reduceNeg, Int.reduceAdd, Int.reduceSub, Int.reduceMul, Int.reduceLT, Int.reduceLE, Int.reduceEq, Int.reduceToNat, reduceCtorEq, and_self, and_true, true_and, false_and, and_false, or_false, false_or, or_true, true_or, true_implies, false_implies, implies_true, not_true_eq_false, not_false_eq_true, Int.toNat_natCast, Int.cast_ofNat_Int, eq_self, ne_eq, ite_true, ite_false, if_true, if_false, Int.add_sub_cancel, Int.sub_add_cancel, Int.add_zero, Int.zero_add, cast_s, iI_in, iI_lit, iI_le, iI_lt, iI_eq, iI_cl, iI_add, iI_sub, iI_mul, iI_neg, iI_nI, ok_s, ok_ck, ok_bn, ok_ob, ck_iI, bn_eq, ob_s, om_n, om_s, cb_bI, gI_g, gI_2, gJ_1, gJ_g, gJ_2, gR_1, gR_2, gR_g, within_v, in_v, bI_i0, bI_i1, iI_bI0, iI_bI1, bI_T, bI_F, f_X11_translator, f_X12_translator, h2, h3, k1, k2, k3]
    exact ⟨wn, W, h⟩
  by_cases k4 : 0 ≤ e ∧ e ≤ 127
  case neg =>
    simp (disch := omega) only [reduceIte, Nat.reduceEqDiff, Nat.reduceAdd, Nat.reduceSub, Nat.reduceMul, Nat.reduceLT, Int.reduceNeg, Int.reduceAdd, Int.reduceSub, Int.reduceMul, Int.reduceLT, Int.reduceLE, Int.reduceEq, Int.reduceToNat, reduceCtorEq, and_self, and_true, true_and, false_and, and_false, or_false, false_or, or_true, true_or, true_implies, false_implies, implies_true, not_true_eq_false, not_false_eq_true, Int.toNat_natCast, Int.cast_ofNat_Int, eq_self, ne_eq, ite_true, ite_false, if_true, if_false, Int.add_sub_cancel, Int.sub_add_cancel, Int.add_zero, Int.zero_add, cast_s, iI_in, iI_lit, iI_le, iI_lt, iI_eq, iI_cl, iI_add, iI_sub, iI_mul, iI_neg, iI_nI, ok_s, ok_ck, ok_bn, ok_ob, ck_iI, bn_eq, ob_s, om_n, om_s, cb_bI, gI_g, gI_2, gJ_1, gJ_g, gJ_2, gR_1, gR_2, gR_g, within_v, in_v, bI_i0, bI_i1, iI_bI0, iI_bI1, bI_T, bI_F, f_X11_translator, f_X12_translator, h2, h3, k1, k2, k3, k4]
    exact ⟨wn, W, h⟩
  by_cases k5 : (wn : Int) = 6
  case pos =>
    have k6 : ¬ (wn : Int) < 6 := by omega
    simp (disch := omega) only [reduceIte, Nat.reduceEqDiff, Nat.reduceAdd, Nat.reduceSub, Nat.reduceMul, Nat.reduceLT, Int.reduceNeg, Int.reduceAdd, Int.reduceSub, Int.reduceMul, Int.reduceLT, Int.reduceLE, Int.reduceEq, Int.reduceToNat, reduceCtorEq, and_self, and_true, true_and, false_and, and_false, or_false, false_or, or_true, true_or, true_implies, false_implies, implies_true, not_true_eq_false, not_false_eq_true, Int.toNat_natCast, Int.cast_ofNat_Int, eq_self, ne_eq, ite_true, ite_false, if_true, if_false, Int.add_sub_cancel, Int.sub_add_cancel, Int.add_zero, Int.zero_add, cast_s, iI_in, iI_lit, iI_le, iI_lt, iI_eq, iI_cl, iI_add, iI_sub, iI_mul, iI_neg, iI_nI, ok_s, ok_ck, ok_bn, ok_ob, ck_iI, bn_eq, ob_s, om_n, om_s, cb_bI, gI_g, gI_2, gJ_1, gJ_g, gJ_2, gR_1, gR_2, gR_g, within_v, in_v, bI_i0, bI_i1, iI_bI0, iI_bI1, bI_T, bI_F, f_X11_translator, f_X12_translator, h2, h3, k1, k2, k3, k4, f_X9_add, eq_true k5, k6]
    exact ⟨wn, W, h⟩
  have k6 : (wn : Int) < 6 := by omega
  simp (disch := omega) only [reduceIte, Nat.reduceEqDiff, Nat.reduceAdd, Nat.reduceSub, Nat.reduceMul, Nat.reduceLT, Int.reduceNeg, Int.reduceAdd, Int.reduceSub, Int.reduceMul, Int.reduceLT, Int.reduceLE, Int.reduceEq, Int.reduceToNat, reduceCtorEq, and_self, and_true, true_and, false_and, and_false, or_false, false_or, or_true, true_or, true_implies, false_implies, implies_true, not_true_eq_false, not_false_eq_true, Int.toNat_natCast, Int.cast_ofNat_Int, eq_self, ne_eq, ite_true, ite_false, if_true, if_false, Int.add_sub_cancel, Int.sub_add_cancel, Int.add_zero, Int.zero_add, cast_s, iI_in, iI_lit, iI_le, iI_lt, iI_eq, iI_cl, iI_add, iI_sub, iI_mul, iI_neg, iI_nI, ok_s, ok_ck, ok_bn, ok_ob, ck_iI, bn_eq, ob_s, om_n, om_s, cb_bI, gI_g, gI_2, gJ_1, gJ_g, gJ_2, gR_1, gR_2, gR_g, within_v, in_v, bI_i0, bI_i1, iI_bI0, iI_bI1, bI_T, bI_F, f_X11_translator, f_X12_translator, h2, h3, k1, k2, k3, k4, f_X9_add, k5, k6]
  obtain ⟨a, rfl⟩ : ∃ k : Nat, a = (k : Int) := ⟨a.toNat, by omega⟩
  obtain ⟨b, rfl⟩ : ∃ k : Nat, b = (k : Int) := ⟨b.toNat, by omega⟩
  obtain ⟨c, rfl⟩ : ∃ k : Nat, c = (k : Int) := ⟨c.toNat, by omega⟩
  obtain ⟨e, rfl⟩ : ∃ k : Nat, e = (k : Int) := ⟨e.toNat, by omega⟩
  refine ⟨wn + 1, adW W wn a b c e, by omega, ?_, ?_, fun t ht => ?_, fun t ht => ?_⟩
  · skip
    simp (disch := omega) only [reduceIte, Nat.reduceEqDiff, Nat.reduceAdd, Nat.reduceSub, Nat.reduceMul, Nat.reduceLT, Int.reduceNeg, Int.reduceAdd, Int.reduceSub, Int.reduceMul, Int.reduceLT, Int.reduceLE, Int.reduceEq, Int.reduceToNat, reduceCtorEq, and_self, and_true, true_and, false_and, and_false, or_false, false_or, or_true, true_or, true_implies, false_implies, implies_true, not_true_eq_false, not_false_eq_true, Int.toNat_natCast, Int.cast_ofNat_Int, eq_self, ne_eq, ite_true, ite_false, if_true, if_false, Int.add_sub_cancel, Int.sub_add_cancel, Int.add_zero, Int.zero_add, cast_s, iI_in, iI_lit, iI_le, iI_lt, iI_eq, iI_cl, iI_add, iI_sub, iI_mul, iI_neg, iI_nI, ok_s, ok_ck, ok_bn, ok_ob, ck_iI, bn_eq, ob_s, om_n, om_s, cb_bI, gI_g, gI_2, gJ_1, gJ_g, gJ_2, gR_1, gR_2, gR_g, within_v, in_v, bI_i0, bI_i1, iI_bI0, iI_bI1, bI_T, bI_F]
  · skip
    simp (disch := omega) only [reduceIte, Nat.reduceEqDiff, Nat.reduceAdd, Nat.reduceSub, Nat.reduceMul, Nat.reduceLT, Int.reduceNeg, Int.reduceAdd, Int.reduceSub, Int.reduceMul, Int.reduceLT, Int.reduceLE, Int.reduceEq, Int.reduceToNat, reduceCtorEq, and_self, and_true, true_and, false_and, and_false, or_false, false_or, or_true, true_or, true_implies, false_implies, implies_true, not_true_eq_false, not_false_eq_true, Int.toNat_natCast, Int.cast_ofNat_Int, eq_self, ne_eq, ite_true, ite_false, if_true, if_false, Int.add_sub_cancel, Int.sub_add_cancel, Int.add_zero, Int.zero_add, cast_s, iI_in, iI_lit, iI_le, iI_lt, iI_eq, iI_cl, iI_add, iI_sub, iI_mul, iI_neg, iI_nI, ok_s, ok_ck, ok_bn, ok_ob, ck_iI, bn_eq, ob_s, om_n, om_s, cb_bI, gI_g, gI_2, gJ_1, gJ_g, gJ_2, gR_1, gR_2, gR_g, within_v, in_v, bI_i0, bI_i1, iI_bI0, iI_bI1, bI_T, bI_F]
  · by_cases et : t = wn
    · subst et
      unfold adW
      rw [if_pos rfl, if_pos rfl, if_pos rfl, if_pos rfl]
      simp (disch := omega) only [reduceIte, Nat.reduceEqDiff, Nat.reduceAdd, Nat.reduceSub, Nat.reduceMul, Nat.reduceLT, Int.reduceNeg, Int.reduceAdd, Int.reduceSub, Int.reduceMul, Int.reduceLT, Int.reduceLE, Int.reduceEq, Int.reduceToNat, reduceCtorEq, and_self, and_true, true_and, false_and, and_false, or_false, false_or, or_true, true_or, true_implies, false_implies, implies_true, not_true_eq_false, not_false_eq_true, Int.toNat_natCast, Int.cast_ofNat_Int, eq_self, ne_eq, ite_true, ite_false, if_true, if_false, Int.add_sub_cancel, Int.sub_add_cancel, Int.add_zero, Int.zero_add, cast_s, iI_in, iI_lit, iI_le, iI_lt, iI_eq, iI_cl, iI_add, iI_sub, iI_mul, iI_neg, iI_nI, ok_s, ok_ck, ok_bn, ok_ob, ck_iI, bn_eq, ob_s, om_n, om_s, cb_bI, gI_g, gI_2, gJ_1, gJ_g, gJ_2, gR_1, gR_2, gR_g, within_v, in_v, bI_i0, bI_i1, iI_bI0, iI_bI1, bI_T, bI_F]
      exact ⟨rfl, rfl, rfl, rfl, rfl, rfl, rfl⟩
    · unfold adW
      rw [if_neg et, if_neg et, if_neg et, if_neg et]
      have w := h4 t (by omega)
      simp (disch := omega) only [reduceIte, Nat.reduceEqDiff, Nat.reduceAdd, Nat.reduceSub, Nat.reduceMul, Nat.reduceLT, Int.reduceNeg, Int.reduceAdd, Int.reduceSub, Int.reduceMul, Int.reduceLT, Int.reduceLE, Int.reduceEq, Int.reduceToNat, reduceCtorEq, and_self, and_true, true_and, false_and, and_false, or_false, false_or, or_true, true_or, true_implies, false_implies, implies_true, not_true_eq_false, not_false_eq_true, Int.toNat_natCast, Int.cast_ofNat_Int, eq_self, ne_eq, ite_true, ite_false, if_true, if_false, Int.add_sub_cancel, Int.sub_add_cancel, Int.add_zero, Int.zero_add, cast_s, iI_in, iI_lit, iI_le, iI_lt, iI_eq, iI_cl, iI_add, iI_sub, iI_mul, iI_neg, iI_nI, ok_s, ok_ck, ok_bn, ok_ob, ck_iI, bn_eq, ob_s, om_n, om_s, cb_bI, gI_g, gI_2, gJ_1, gJ_g, gJ_2, gR_1, gR_2, gR_g, within_v, in_v, bI_i0, bI_i1, iI_bI0, iI_bI1, bI_T, bI_F, et]
      exact w
  · by_cases et : t = wn
    · subst et
      unfold adW
      rw [if_pos rfl, if_pos rfl, if_pos rfl, if_pos rfl]
      exact ⟨(by omega : a < 262144), (by omega : b < 262144), (by omega : 1 ≤ c ∧ c ≤ 4), (by omega : e < 128)⟩
    · unfold adW
      rw [if_neg et, if_neg et, if_neg et, if_neg et]
      exact h5 t (by omega)
-- the bits of a long
theorem jb_1 (x : Int64) : (x &&& 1).toBitVec = BitVec.setWidth 64 (BitVec.ofBool (x.toBitVec.getLsbD 0)) := by
  apply BitVec.eq_of_getLsbD_eq
  intro i hi
  show (x.toBitVec &&& 1#64).getLsbD i = _
  rw [BitVec.getLsbD_and, BitVec.getLsbD_setWidth, BitVec.getLsbD_ofBool]
  by_cases e : i = 0
  · subst e
    simp
  · simp [e]
theorem lng_bit {a b k : Nat} (ha : a < 262144) (hb : b < 262144) (hk : k < 36) : ((lng a b >>> ((iI (k : Int)).toInt64 &&& 63)) &&& 1 = 0) ↔ ¬ ((if k < 18 then a.testBit k else b.testBit (k - 18)) = true) := by
  have e18 : (((iI 18).toInt64 &&& 63).toBitVec.smod 64).toNat = 18 := by decide +kernel
  have ek : ((((iI (k : Int)).toInt64 &&& 63).toBitVec.smod 64)).toNat = k := by
    have hc : ∀ c : Nat, c < 36 → ((((iI (c : Int)).toInt64 &&& 63).toBitVec.smod 64)).toNat = c := by decide +kernel
    exact hc k hk
  have wa : ∀ i, (iI (a : Int)).toInt64.toBitVec.getLsbD i = a.testBit i := fun i => by
    show (BitVec.signExtend 64 (iI (a : Int)).toBitVec).getLsbD i = _
    rw [iI_bv, BitVec.signExtend_eq_setWidth_of_msb_false, BitVec.getLsbD_setWidth, BitVec.getLsbD_ofNat]
    · by_cases c : i < 18
      · simp [show i < 64 by omega, show i < 32 by omega]
      · have : a.testBit i = false := Nat.testBit_lt_two_pow (Nat.lt_of_lt_of_le ha (show (2 : Nat) ^ 18 ≤ 2 ^ i from Nat.pow_le_pow_right (by omega) (by omega)))
        simp [this]
    · rw [BitVec.msb_eq_getLsbD_last, BitVec.getLsbD_ofNat]
      have : a.testBit 31 = false := Nat.testBit_lt_two_pow (by omega)
      simp [this]
  have wb : ∀ i, (iI (b : Int)).toInt64.toBitVec.getLsbD i = b.testBit i := fun i => by
    show (BitVec.signExtend 64 (iI (b : Int)).toBitVec).getLsbD i = _
    rw [iI_bv, BitVec.signExtend_eq_setWidth_of_msb_false, BitVec.getLsbD_setWidth, BitVec.getLsbD_ofNat]
    · by_cases c : i < 18
      · simp [show i < 64 by omega, show i < 32 by omega]
      · have : b.testBit i = false := Nat.testBit_lt_two_pow (Nat.lt_of_lt_of_le hb (show (2 : Nat) ^ 18 ≤ 2 ^ i from Nat.pow_le_pow_right (by omega) (by omega)))
        simp [this]
    · rw [BitVec.msb_eq_getLsbD_last, BitVec.getLsbD_ofNat]
      have : b.testBit 31 = false := Nat.testBit_lt_two_pow (by omega)
      simp [this]
  have e1 : (lng a b).toBitVec = (iI (a : Int)).toInt64.toBitVec ||| ((iI (b : Int)).toInt64.toBitVec <<< 18) := by
    show _ ||| ((iI (b : Int)).toInt64.toBitVec <<< (((iI 18).toInt64 &&& 63).toBitVec.smod 64).toNat) = _
    rw [e18]
  have e2 : (lng a b >>> ((iI (k : Int)).toInt64 &&& 63)).toBitVec = (lng a b).toBitVec.sshiftRight k := by
    show (lng a b).toBitVec.sshiftRight (((iI (k : Int)).toInt64 &&& 63).toBitVec.smod 64).toNat = _
    rw [ek]
  have e3 : (lng a b >>> ((iI (k : Int)).toInt64 &&& 63)).toBitVec.getLsbD 0 = (if k < 18 then a.testBit k else b.testBit (k - 18)) := by
    rw [e2, BitVec.getLsbD_sshiftRight, e1, Nat.add_zero, BitVec.getLsbD_or, BitVec.getLsbD_shiftLeft, wa, wb]
    by_cases c : k < 18
    · simp [c, show k < 64 by omega]
    · have : a.testBit k = false := Nat.testBit_lt_two_pow (Nat.lt_of_lt_of_le ha (show (2 : Nat) ^ 18 ≤ 2 ^ k from Nat.pow_le_pow_right (by omega) (by omega)))
      simp [c, this, show k < 64 by omega]
  have j := jb_1 (lng a b >>> ((iI (k : Int)).toInt64 &&& 63))
  rw [e3] at j
  constructor
  · intro z y
    rw [z, y] at j
    exact absurd j (by decide)
  · intro y
    apply Int64.toBitVec_inj.mp
    rw [j]
    rw [Bool.not_eq_true] at y
    rw [y]
    decide
end PR
