/-! the reference's parser, step by step -/
/-- its place and counts -/
def MI (G : Grp) (n p cnt rz s : Nat) : Prop := G.1 91 22 = iI n ∧ G.1 91 21 = iI p ∧ G.1 91 39 = iI cnt ∧ G.1 91 40 = iI rz ∧ G.1 91 41 = iI s
def prt (G : Grp) : Pr := (ar G 111, ar G 112, ar G 113, ar G 114)
def upP (p : Pr) (c : Nat) (k w a b : Int) : Pr := (up p.1 c k, up p.2.1 c w, up p.2.2.1 c a, up p.2.2.2 c b)
theorem agp_up (p : Pr) (c : Nat) (k w a b : Int) : agp p (upP p c k w a b) c := fun x hx => ⟨(up_f _ _ (by omega)).symm, (up_f _ _ (by omega)).symm, (up_f _ _ (by omega)).symm, (up_f _ _ (by omega)).symm⟩
theorem upP_k (p : Pr) (c : Nat) (k w : Int) (a b : Int) : (upP p c k w a b).1 c = k ∧ (upP p c k w a b).2.1 c = w ∧ pA (upP p c k w a b) c = a.toNat ∧ pB (upP p c k w a b) c = b.toNat := ⟨up_t _ _ _, up_t _ _ _, congrArg Int.toNat (up_t _ _ _), congrArg Int.toNat (up_t _ _ _)⟩
theorem agp.tr {p p1 p2 : Pr} {c c1 : Nat} (h : agp p p1 c) (h2 : agp p1 p2 c1) (hc : c ≤ c1) : agp p p2 c := fun k hk => by
  obtain ⟨a1, a2, a3, a4⟩ := h k hk
  obtain ⟨b1, b2, b3, b4⟩ := h2 k (by omega)
  exact ⟨a1.trans b1, a2.trans b2, a3.trans b3, a4.trans b4⟩
theorem agp.le {p p1 : Pr} {c c1 : Nat} (h : agp p p1 c1) (hc : c ≤ c1) : agp p p1 c := fun k hk => h k (by omega)
theorem wfp_up {p : Pr} {c : Nat} (h : wfp p c) (k w a b : Int) (h0 : 0 ≤ k ∧ k ≤ 6) (h1 : 2 ≤ k → 0 ≤ a ∧ a < c) (h2 : (k = 2 ∨ k = 3) → 0 ≤ b ∧ b < c) : wfp (upP p c k w a b) (c + 1) := by
  intro x hx
  by_cases e : x = c
  · subst e
    obtain ⟨a1, a2, a3, a4⟩ := upP_k p x k w a b
    have a5 : (upP p x k w a b).2.2.1 x = a := up_t _ _ _
    have a6 : (upP p x k w a b).2.2.2 x = b := up_t _ _ _
    rw [a1, a3, a4, a5, a6]
    refine ⟨h0, fun z => ?_, fun z => ?_⟩
    · have := h1 z; omega
    · have := h2 z; omega
  · obtain ⟨a1, a2, a3, a4⟩ := agp_up p c k w a b x (by omega)
    have w := h x (by omega)
    unfold pA pB at w ⊢
    rw [← a1, ← a3, ← a4]
    exact w
/-- what no step on parts touches -/
def OTM (G G' : Grp) : Prop := G'.2 = G.2 ∧ ∀ x k, (x ≠ 111 ∧ x ≠ 112 ∧ x ≠ 113 ∧ x ≠ 114 ∧ x ≠ 119 ∧ (x ≠ 91 ∨ (k ≠ 39 ∧ k ≠ 41))) → G'.1 x k = G.1 x k
theorem OTM.tr {G G1 G2 : Grp} (h : OTM G G1) (h2 : OTM G1 G2) : OTM G G2 := ⟨h2.1.trans h.1, fun x k hx => (h2.2 x k hx).trans (h.2 x k hx)⟩
theorem OTM.rf (G : Grp) : OTM G G := ⟨rfl, fun _ _ _ => rfl⟩
theorem OTM.set (G : Grp) {a k : Nat} (x : Int32) (h : a = 111 ∨ a = 112 ∨ a = 113 ∨ a = 114 ∨ a = 119 ∨ (a = 91 ∧ (k = 39 ∨ k = 41))) : OTM G (gI G a k x) := ⟨rfl, fun y j hy => by rw [gI_g, if_neg (by omega)]⟩
def pT (G : Grp) (c : Nat) (k w a b : Int32) : Grp := gI (gI (gI (gI (gI G 111 c k) 112 c w) 113 c a) 114 c b) 91 39 (iI ((c : Int) + 1))
def jN (G : Grp) (c s : Nat) (k a b : Int32) : Grp := gI (gI (pT (gI G 91 41 (iI ((s : Int) - 2))) c k (iI 0) a b) 119 (s - 2) (iI c)) 91 41 (iI ((s : Int) - 1))
section PR
variable {F n p cnt rz s : Nat} {G G27 : Grp}
theorem part_v (h : G.1 91 39 = iI cnt) (hc : cnt < 420) (k w a b : Int32) : f_X12_part F G k w a b = some (iI cnt, pT G cnt k w a b) := by
  simp (disch := omega) only [reduceIte, Nat.reduceEqDiff, Nat.reduceAdd, Nat.reduceSub, Nat.reduceMul, Nat.reduceLT, Int.reduceNeg, Int.reduceAdd, Int.reduceSub, Int.reduceMul, Int.reduceLT, Int.reduceLE, Int.reduceEq, Int.reduceToNat, reduceCtorEq, and_self, and_true, true_and, false_and, and_false, or_false, false_or, or_true, true_or, true_implies, false_implies, implies_true, not_true_eq_false, not_false_eq_true, Int.toNat_natCast, Int.cast_ofNat_Int, eq_self, ne_eq, ite_true, ite_false, if_true, if_false, Int.add_sub_cancel, Int.sub_add_cancel, Int.add_zero, Int.zero_add, cast_s, iI_in, iI_lit, iI_le, iI_lt, iI_eq, iI_cl, iI_add, iI_sub, iI_mul, iI_neg, iI_nI, ok_s, ok_ck, ok_bn, ok_ob, ck_iI, bn_eq, ob_s, om_n, om_s, cb_bI, gI_g, gI_2, gJ_1, gJ_g, gJ_2, gR_1, gR_2, gR_g, within_v, in_v, bI_i0, bI_i1, iI_bI0, iI_bI1, bI_T, bI_F, f_X12_part, pT, h]
theorem pT_o (G : Grp) (c : Nat) (k w a b : Int32) : OTM G (pT G c k w a b) := by
  unfold pT
  exact ((((OTM.set G k (by omega)).tr (OTM.set _ w (by omega))).tr (OTM.set _ a (by omega))).tr (OTM.set _ b (by omega))).tr (OTM.set _ _ (by omega))
theorem pT_m (h : MI G n p cnt rz s) (k w a b : Int32) : MI (pT G cnt k w a b) n p (cnt + 1) rz s := by
  obtain ⟨h1, h2, h3, h4, h5⟩ := h
  unfold MI pT
  simp (disch := omega) only [reduceIte, Nat.reduceEqDiff, Nat.reduceAdd, Nat.reduceSub, Nat.reduceMul, Nat.reduceLT, Int.reduceNeg, Int.reduceAdd, Int.reduceSub, Int.reduceMul, Int.reduceLT, Int.reduceLE, Int.reduceEq, Int.reduceToNat, reduceCtorEq, and_self, and_true, true_and, false_and, and_false, or_false, false_or, or_true, true_or, true_implies, false_implies, implies_true, not_true_eq_false, not_false_eq_true, Int.toNat_natCast, Int.cast_ofNat_Int, eq_self, ne_eq, ite_true, ite_false, if_true, if_false, Int.add_sub_cancel, Int.sub_add_cancel, Int.add_zero, Int.zero_add, cast_s, iI_in, iI_lit, iI_le, iI_lt, iI_eq, iI_cl, iI_add, iI_sub, iI_mul, iI_neg, iI_nI, ok_s, ok_ck, ok_bn, ok_ob, ck_iI, bn_eq, ob_s, om_n, om_s, cb_bI, gI_g, gI_2, gJ_1, gJ_g, gJ_2, gR_1, gR_2, gR_g, within_v, in_v, bI_i0, bI_i1, iI_bI0, iI_bI1, bI_T, bI_F, h1, h2, h4, h5]
theorem pT_p (G : Grp) (c : Nat) {k w a b : Int} (hk : -2147483648 ≤ k ∧ k < 2147483648) (hw : -2147483648 ≤ w ∧ w < 2147483648) (ha : -2147483648 ≤ a ∧ a < 2147483648) (hb : -2147483648 ≤ b ∧ b < 2147483648) : prt (pT G c (iI k) (iI w) (iI a) (iI b)) = upP (prt G) c k w a b := by
  unfold pT prt upP
  rw [ar_oth _ _ _ (by omega), ar_oth _ _ _ (by omega), ar_oth _ _ _ (by omega), ar_oth _ _ _ (by omega), ar_set _ _ _ hk.1 hk.2]
  rw [ar_oth _ _ _ (by omega), ar_oth _ _ _ (by omega), ar_oth _ _ _ (by omega), ar_set _ _ _ hw.1 hw.2, ar_oth _ _ _ (by omega)]
  rw [ar_oth _ _ _ (by omega), ar_oth _ _ _ (by omega), ar_set _ _ _ ha.1 ha.2, ar_oth _ _ _ (by omega), ar_oth _ _ _ (by omega)]
  rw [ar_oth _ _ _ (by omega), ar_set _ _ _ hb.1 hb.2, ar_oth _ _ _ (by omega), ar_oth _ _ _ (by omega), ar_oth _ _ _ (by omega)]
theorem pT_s (G : Grp) (c : Nat) (k w a b : Int32) : ar (pT G c k w a b) 119 = ar G 119 := by
  unfold pT
  rw [ar_oth _ _ _ (by omega), ar_oth _ _ _ (by omega), ar_oth _ _ _ (by omega), ar_oth _ _ _ (by omega), ar_oth _ _ _ (by omega)]
theorem pushes_v (h : G.1 91 41 = iI s) (hs : s < 220) (x : Int32) : f_X12_pushes F G x = some (gI (gI G 119 s x) 91 41 (iI ((s : Int) + 1))) := by
  simp (disch := omega) only [reduceIte, Nat.reduceEqDiff, Nat.reduceAdd, Nat.reduceSub, Nat.reduceMul, Nat.reduceLT, Int.reduceNeg, Int.reduceAdd, Int.reduceSub, Int.reduceMul, Int.reduceLT, Int.reduceLE, Int.reduceEq, Int.reduceToNat, reduceCtorEq, and_self, and_true, true_and, false_and, and_false, or_false, false_or, or_true, true_or, true_implies, false_implies, implies_true, not_true_eq_false, not_false_eq_true, Int.toNat_natCast, Int.cast_ofNat_Int, eq_self, ne_eq, ite_true, ite_false, if_true, if_false, Int.add_sub_cancel, Int.sub_add_cancel, Int.add_zero, Int.zero_add, cast_s, iI_in, iI_lit, iI_le, iI_lt, iI_eq, iI_cl, iI_add, iI_sub, iI_mul, iI_neg, iI_nI, ok_s, ok_ck, ok_bn, ok_ob, ck_iI, bn_eq, ob_s, om_n, om_s, cb_bI, gI_g, gI_2, gJ_1, gJ_g, gJ_2, gR_1, gR_2, gR_g, within_v, in_v, bI_i0, bI_i1, iI_bI0, iI_bI1, bI_T, bI_F, f_X12_pushes, h]
theorem joins_v (h : MI G n p cnt rz s) (hc : cnt < 420) (hs : 2 ≤ s ∧ s ≤ 220) {k : Int} (hk : 0 ≤ k ∧ k ≤ 6) {a b : Nat} (ha : ar G 119 (s - 2) = a) (hb : ar G 119 (s - 1) = b) (hab : a < cnt ∧ b < cnt) :
    ∃ G', f_X12_joins F G (iI k) = some G' ∧ MI G' n p (cnt + 1) rz (s - 1) ∧ prt G' = upP (prt G) cnt k 0 a b ∧ ar G' 119 = up (ar G 119) (s - 2) cnt ∧ OTM G G' := by
  obtain ⟨h1, h2, h3, h4, h5⟩ := id h
  have ha' := iI_of ha
  have hb' := iI_of hb
  have e1 : ((s : Int) - 1).toNat = s - 1 := by omega
  have e2 : ((s : Int) - 2).toNat = s - 2 := by omega
  have e3 : (s : Int) - 2 + 1 = (s : Int) - 1 := by omega
  have a1 : (gI G 91 41 (iI ((s : Int) - 2))).1 91 39 = iI cnt := by
    simp (disch := omega) only [reduceIte, Nat.reduceEqDiff, Nat.reduceAdd, Nat.reduceSub, Nat.reduceMul, Nat.reduceLT, Int.reduceNeg, Int.reduceAdd, Int.reduceSub, Int.reduceMul, Int.reduceLT, Int.reduceLE, Int.reduceEq, Int.reduceToNat, reduceCtorEq, and_self, and_true, true_and, false_and, and_false, or_false, false_or, or_true, true_or, true_implies, false_implies, implies_true, not_true_eq_false, not_false_eq_true, Int.toNat_natCast, Int.cast_ofNat_Int, eq_self, ne_eq, ite_true, ite_false, if_true, if_false, Int.add_sub_cancel, Int.sub_add_cancel, Int.add_zero, Int.zero_add, cast_s, iI_in, iI_lit, iI_le, iI_lt, iI_eq, iI_cl, iI_add, iI_sub, iI_mul, iI_neg, iI_nI, ok_s, ok_ck, ok_bn, ok_ob, ck_iI, bn_eq, ob_s, om_n, om_s, cb_bI, gI_g, gI_2, gJ_1, gJ_g, gJ_2, gR_1, gR_2, gR_g, within_v, in_v, bI_i0, bI_i1, iI_bI0, iI_bI1, bI_T, bI_F, h3]
  have a2 := fun k w a b => part_v (F := F) a1 hc k w a b
  have a3 : ∀ k w a b, (pT (gI G 91 41 (iI ((s : Int) - 2))) cnt k w a b).1 91 41 = iI ((s - 2 : Nat) : Int) := fun k w a b => by
    unfold pT
    simp (disch := omega) only [reduceIte, Nat.reduceEqDiff, Nat.reduceAdd, Nat.reduceSub, Nat.reduceMul, Nat.reduceLT, Int.reduceNeg, Int.reduceAdd, Int.reduceSub, Int.reduceMul, Int.reduceLT, Int.reduceLE, Int.reduceEq, Int.reduceToNat, reduceCtorEq, and_self, and_true, true_and, false_and, and_false, or_false, false_or, or_true, true_or, true_implies, false_implies, implies_true, not_true_eq_false, not_false_eq_true, Int.toNat_natCast, Int.cast_ofNat_Int, eq_self, ne_eq, ite_true, ite_false, if_true, if_false, Int.add_sub_cancel, Int.sub_add_cancel, Int.add_zero, Int.zero_add, cast_s, iI_in, iI_lit, iI_le, iI_lt, iI_eq, iI_cl, iI_add, iI_sub, iI_mul, iI_neg, iI_nI, ok_s, ok_ck, ok_bn, ok_ob, ck_iI, bn_eq, ob_s, om_n, om_s, cb_bI, gI_g, gI_2, gJ_1, gJ_g, gJ_2, gR_1, gR_2, gR_g, within_v, in_v, bI_i0, bI_i1, iI_bI0, iI_bI1, bI_T, bI_F]
    congr 1
    omega
  have a4 := fun k w a b x => pushes_v (F := F) (a3 k w a b) (by omega) x
  have e4 : ((s - 2 : Nat) : Int) + 1 = (s : Int) - 1 := by omega
  rw [e4] at a4
  refine ⟨jN G cnt s (iI k) (iI a) (iI b), ?_, ?_, ?_, ?_, ?_⟩
  · skip
    simp (disch := omega) only [reduceIte, Nat.reduceEqDiff, Nat.reduceAdd, Nat.reduceSub, Nat.reduceMul, Nat.reduceLT, Int.reduceNeg, Int.reduceAdd, Int.reduceSub, Int.reduceMul, Int.reduceLT, Int.reduceLE, Int.reduceEq, Int.reduceToNat, reduceCtorEq, and_self, and_true, true_and, false_and, and_false, or_false, false_or, or_true, true_or, true_implies, false_implies, implies_true, not_true_eq_false, not_false_eq_true, Int.toNat_natCast, Int.cast_ofNat_Int, eq_self, ne_eq, ite_true, ite_false, if_true, if_false, Int.add_sub_cancel, Int.sub_add_cancel, Int.add_zero, Int.zero_add, cast_s, iI_in, iI_lit, iI_le, iI_lt, iI_eq, iI_cl, iI_add, iI_sub, iI_mul, iI_neg, iI_nI, ok_s, ok_ck, ok_bn, ok_ob, ck_iI, bn_eq, ob_s, om_n, om_s, cb_bI, gI_g, gI_2, gJ_1, gJ_g, gJ_2, gR_1, gR_2, gR_g, within_v, in_v, bI_i0, bI_i1, iI_bI0, iI_bI1, bI_T, bI_F, f_X12_joins, h5, e1, e2, ha', hb', a2, a4, jN]
  · unfold MI jN pT
    simp (disch := omega) only [reduceIte, Nat.reduceEqDiff, Nat.reduceAdd, Nat.reduceSub, Nat.reduceMul, Nat.reduceLT, Int.reduceNeg, Int.reduceAdd, Int.reduceSub, Int.reduceMul, Int.reduceLT, Int.reduceLE, Int.reduceEq, Int.reduceToNat, reduceCtorEq, and_self, and_true, true_and, false_and, and_false, or_false, false_or, or_true, true_or, true_implies, false_implies, implies_true, not_true_eq_false, not_false_eq_true, Int.toNat_natCast, Int.cast_ofNat_Int, eq_self, ne_eq, ite_true, ite_false, if_true, if_false, Int.add_sub_cancel, Int.sub_add_cancel, Int.add_zero, Int.zero_add, cast_s, iI_in, iI_lit, iI_le, iI_lt, iI_eq, iI_cl, iI_add, iI_sub, iI_mul, iI_neg, iI_nI, ok_s, ok_ck, ok_bn, ok_ob, ck_iI, bn_eq, ob_s, om_n, om_s, cb_bI, gI_g, gI_2, gJ_1, gJ_g, gJ_2, gR_1, gR_2, gR_g, within_v, in_v, bI_i0, bI_i1, iI_bI0, iI_bI1, bI_T, bI_F, h1, h2, h4]
    congr 1
    omega
  · have pp := pT_p (gI G 91 41 (iI ((s : Int) - 2))) cnt (k := k) (w := 0) (a := a) (b := b) (by omega) (by omega) (by omega) (by omega)
    have q1 : prt (gI G 91 41 (iI ((s : Int) - 2))) = prt G := rfl
    rw [q1] at pp
    rw [← pp]
    rfl
  · unfold jN
    rw [ar_oth _ _ _ (by omega), ar_set _ _ _ (by omega) (by omega), pT_s]
    rfl
  · unfold jN
    exact (((OTM.set G _ (by omega)).tr (pT_o _ _ _ _ _ _)).tr (OTM.set _ _ (by omega))).tr (OTM.set _ _ (by omega))
theorem sign_m (h : MI G n p cnt rz s) (hp : p < n) (hn : n ≤ 240) {b : Nat} (hb : b < 256) (ht : G27.1 106 p = iI (sg8 b)) : f_X12_sign F G27 G = some (iI b) := by
  obtain ⟨h1, h2, h3, h4, h5⟩ := id h
  have e1 : ¬ (n : Int) ≤ p := by omega
  have e2 : iI (sg8 b) &&& iI 255 = iI (b : Int) := by
    have hd : ∀ b : Nat, b < 256 → iI (sg8 b) &&& iI 255 = iI (b : Int) := by decide +kernel
    exact hd b hb
  simp (disch := omega) only [reduceIte, Nat.reduceEqDiff, Nat.reduceAdd, Nat.reduceSub, Nat.reduceMul, Nat.reduceLT, Int.reduceNeg, Int.reduceAdd, Int.reduceSub, Int.reduceMul, Int.reduceLT, Int.reduceLE, Int.reduceEq, Int.reduceToNat, reduceCtorEq, and_self, and_true, true_and, false_and, and_false, or_false, false_or, or_true, true_or, true_implies, false_implies, implies_true, not_true_eq_false, not_false_eq_true, Int.toNat_natCast, Int.cast_ofNat_Int, eq_self, ne_eq, ite_true, ite_false, if_true, if_false, Int.add_sub_cancel, Int.sub_add_cancel, Int.add_zero, Int.zero_add, cast_s, iI_in, iI_lit, iI_le, iI_lt, iI_eq, iI_cl, iI_add, iI_sub, iI_mul, iI_neg, iI_nI, ok_s, ok_ck, ok_bn, ok_ob, ck_iI, bn_eq, ob_s, om_n, om_s, cb_bI, gI_g, gI_2, gJ_1, gJ_g, gJ_2, gR_1, gR_2, gR_g, within_v, in_v, bI_i0, bI_i1, iI_bI0, iI_bI1, bI_T, bI_F, f_X12_sign, h1, h2, e1, ht, e2]
theorem sign_m0 (h : MI G n p cnt rz s) (hp : n ≤ p) (hn : n ≤ 240) (hpn : p ≤ 240) : f_X12_sign F G27 G = some (iI 0) := by
  obtain ⟨h1, h2, h3, h4, h5⟩ := id h
  have e1 : (n : Int) ≤ p := by omega
  simp (disch := omega) only [reduceIte, Nat.reduceEqDiff, Nat.reduceAdd, Nat.reduceSub, Nat.reduceMul, Nat.reduceLT, Int.reduceNeg, Int.reduceAdd, Int.reduceSub, Int.reduceMul, Int.reduceLT, Int.reduceLE, Int.reduceEq, Int.reduceToNat, reduceCtorEq, and_self, and_true, true_and, false_and, and_false, or_false, false_or, or_true, true_or, true_implies, false_implies, implies_true, not_true_eq_false, not_false_eq_true, Int.toNat_natCast, Int.cast_ofNat_Int, eq_self, ne_eq, ite_true, ite_false, if_true, if_false, Int.add_sub_cancel, Int.sub_add_cancel, Int.add_zero, Int.zero_add, cast_s, iI_in, iI_lit, iI_le, iI_lt, iI_eq, iI_cl, iI_add, iI_sub, iI_mul, iI_neg, iI_nI, ok_s, ok_ck, ok_bn, ok_ob, ck_iI, bn_eq, ob_s, om_n, om_s, cb_bI, gI_g, gI_2, gJ_1, gJ_g, gJ_2, gR_1, gR_2, gR_g, within_v, in_v, bI_i0, bI_i1, iI_bI0, iI_bI1, bI_T, bI_F, f_X12_sign, h1, h2, e1]
theorem wrong_m (h : MI G n p cnt rz s) (k : Int) : f_X12_wrong F G (iI k) = some (iI 0, gI G 91 23 (iI (1000 * k + p))) := by
  obtain ⟨h1, h2, h3, h4, h5⟩ := id h
  simp (disch := omega) only [reduceIte, Nat.reduceEqDiff, Nat.reduceAdd, Nat.reduceSub, Nat.reduceMul, Nat.reduceLT, Int.reduceNeg, Int.reduceAdd, Int.reduceSub, Int.reduceMul, Int.reduceLT, Int.reduceLE, Int.reduceEq, Int.reduceToNat, reduceCtorEq, and_self, and_true, true_and, false_and, and_false, or_false, false_or, or_true, true_or, true_implies, false_implies, implies_true, not_true_eq_false, not_false_eq_true, Int.toNat_natCast, Int.cast_ofNat_Int, eq_self, ne_eq, ite_true, ite_false, if_true, if_false, Int.add_sub_cancel, Int.sub_add_cancel, Int.add_zero, Int.zero_add, cast_s, iI_in, iI_lit, iI_le, iI_lt, iI_eq, iI_cl, iI_add, iI_sub, iI_mul, iI_neg, iI_nI, ok_s, ok_ck, ok_bn, ok_ob, ck_iI, bn_eq, ob_s, om_n, om_s, cb_bI, gI_g, gI_2, gJ_1, gJ_g, gJ_2, gR_1, gR_2, gR_g, within_v, in_v, bI_i0, bI_i1, iI_bI0, iI_bI1, bI_T, bI_F, f_X12_wrong, h2]
/-- rows of a bracket become one part -/
theorem closesRows_v (h : MI G n p cnt rz s) {o m base : Nat} {pk : Nat → Nat} (ho : o < 8) (hm : ar G 121 o = m) (hs : s = base + m + 1) (hs2 : s ≤ 220) (hc : cnt + m ≤ 420) (hst : ∀ r, r ≤ m → ar G 119 (base + r) = pk r) (hpk : ∀ r, r ≤ m → pk r < cnt) (hw : wfp (prt G) cnt) (hF : 200000 ≤ F) :
    ∃ G' q, f_X12_closesRows F G (iI o) = some G' ∧ MI G' n p (cnt + m) rz (base + 1) ∧ agp (prt G) (prt G') cnt ∧ wfp (prt G') (cnt + m) ∧ q < cnt + m ∧ altq (prt G') (cnt + m) q 0 m pk ∧ (∀ k, k < base → ar G' 119 k = ar G 119 k) ∧ ar G' 119 base = q ∧ OTM G G' := by
  have key : ∀ j i, i + j = m → ∀ fu, j < fu → ∀ (G1 : Grp) (q : Nat), MI G1 n p (cnt + i) rz (base + j + 1) → agp (prt G) (prt G1) cnt → wfp (prt G1) (cnt + i) → q < cnt + i → altq (prt G1) (cnt + i) q j m pk → (∀ k, k < base + j → ar G1 119 k = ar G 119 k) → ar G1 119 (base + j) = q → OTM G G1 →
      ∃ G' q, f_X12_closesRows_l2 F fu G1 (iI o) (iI i) = some G' ∧ MI G' n p (cnt + m) rz (base + 1) ∧ agp (prt G) (prt G') cnt ∧ wfp (prt G') (cnt + m) ∧ q < cnt + m ∧ altq (prt G') (cnt + m) q 0 m pk ∧ (∀ k, k < base → ar G' 119 k = ar G 119 k) ∧ ar G' 119 base = q ∧ OTM G G' := by
    intro j
    induction j with
    | zero =>
      intro i hi fu hfu G1 q k1 k2 k3 k4 k5 k6 k7 k8
      obtain ⟨fu, rfl⟩ : ∃ f, fu = f + 1 := ⟨fu - 1, by omega⟩
      have ei : i = m := by omega
      subst ei
      refine ⟨G1, q, ?_, k1, k2, k3, k4, k5, fun k hk => k6 k (by omega), k7, k8⟩
      show f_X12_closesRows_l2b F (f_X12_closesRows_l2 F fu) G1 _ _ = _
      have hm1 : G1.1 121 o = iI i := by rw [k8.2 121 o (by omega)]; exact iI_of hm
      have e1 : (i : Int) ≤ i := by omega
      simp (disch := omega) only [reduceIte, Nat.reduceEqDiff, Nat.reduceAdd, Nat.reduceSub, Nat.reduceMul, Nat.reduceLT, Int.reduceNeg, Int.reduceAdd, Int.reduceSub, Int.reduceMul, Int.reduceLT, Int.reduceLE, Int.reduceEq, Int.reduceToNat, reduceCtorEq, and_self, and_true, true_and, false_and, and_false, or_false, false_or, or_true, true_or, true_implies, false_implies, implies_true, not_true_eq_false, not_false_eq_true, Int.toNat_natCast, Int.cast_ofNat_Int, eq_self, ne_eq, ite_true, ite_false, if_true, if_false, Int.add_sub_cancel, Int.sub_add_cancel, Int.add_zero, Int.zero_add, cast_s, iI_in, iI_lit, iI_le, iI_lt, iI_eq, iI_cl, iI_add, iI_sub, iI_mul, iI_neg, iI_nI, ok_s, ok_ck, ok_bn, ok_ob, ck_iI, bn_eq, ob_s, om_n, om_s, cb_bI, gI_g, gI_2, gJ_1, gJ_g, gJ_2, gR_1, gR_2, gR_g, within_v, in_v, bI_i0, bI_i1, iI_bI0, iI_bI1, bI_T, bI_F, f_X12_closesRows_l2b, hm1, e1]
    | succ j ih =>
      intro i hi fu hfu G1 q k1 k2 k3 k4 k5 k6 k7 k8
      obtain ⟨fu, rfl⟩ : ∃ f, fu = f + 1 := ⟨fu - 1, by omega⟩
      have hm1 : G1.1 121 o = iI m := by rw [k8.2 121 o (by omega)]; exact iI_of hm
      have e1 : ¬ (m : Int) ≤ i := by omega
      have pj := hpk j (by omega)
      obtain ⟨G2, g1, g2, g3, g4, g5⟩ := joins_v (F := F) k1 (by omega) (by omega) (k := 3) (by omega) (a := pk j) (b := q) (by rw [show base + (j + 1) + 1 - 2 = base + j by omega, k6 _ (by omega)]; exact hst j (by omega)) (by rw [show base + (j + 1) + 1 - 1 = base + (j + 1) by omega]; exact k7) (by omega)
      obtain ⟨u1, u2, u3, u4⟩ := upP_k (prt G1) (cnt + i) 3 0 (pk j) q
      have ag : agp (prt G1) (prt G2) (cnt + i) := by rw [g3]; exact agp_up _ _ _ _ _ _
      obtain ⟨G', q', r1, r2⟩ := ih (i + 1) (by omega) fu (by omega) G2 (cnt + i) (by
        have : MI G2 n p (cnt + i + 1) rz (base + (j + 1) + 1 - 1) := g2
        rw [show base + (j + 1) + 1 - 1 = base + j + 1 by omega] at this
        exact this) (k2.tr ag (by omega)) (by rw [g3]; exact wfp_up k3 _ _ _ _ (by omega) (fun _ => by omega) (fun _ => by omega)) (by omega) (altq_s k5 ag (by rw [g3]; exact u1) (by rw [g3]; exact u3.trans (Int.toNat_natCast _)) (by rw [g3]; exact u4.trans (Int.toNat_natCast _)) (by omega)) (fun k hk => by
        rw [g4, up_f _ _ (by omega)]; exact k6 k (by omega)) (by
        rw [g4, show base + (j + 1) + 1 - 2 = base + j by omega, up_t]) (k8.tr g5)
      refine ⟨G', q', ?_, r2⟩
      show f_X12_closesRows_l2b F (f_X12_closesRows_l2 F fu) G1 _ _ = _
      simp (disch := omega) only [reduceIte, Nat.reduceEqDiff, Nat.reduceAdd, Nat.reduceSub, Nat.reduceMul, Nat.reduceLT, Int.reduceNeg, Int.reduceAdd, Int.reduceSub, Int.reduceMul, Int.reduceLT, Int.reduceLE, Int.reduceEq, Int.reduceToNat, reduceCtorEq, and_self, and_true, true_and, false_and, and_false, or_false, false_or, or_true, true_or, true_implies, false_implies, implies_true, not_true_eq_false, not_false_eq_true, Int.toNat_natCast, Int.cast_ofNat_Int, eq_self, ne_eq, ite_true, ite_false, if_true, if_false, Int.add_sub_cancel, Int.sub_add_cancel, Int.add_zero, Int.zero_add, cast_s] at r1
      simp (disch := omega) only [reduceIte, Nat.reduceEqDiff, Nat.reduceAdd, Nat.reduceSub, Nat.reduceMul, Nat.reduceLT, Int.reduceNeg, Int.reduceAdd, Int.reduceSub, Int.reduceMul, Int.reduceLT, Int.reduceLE, Int.reduceEq, Int.reduceToNat, reduceCtorEq, and_self, and_true, true_and, false_and, and_false, or_false, false_or, or_true, true_or, true_implies, false_implies, implies_true, not_true_eq_false, not_false_eq_true, Int.toNat_natCast, Int.cast_ofNat_Int, eq_self, ne_eq, ite_true, ite_false, if_true, if_false, Int.add_sub_cancel, Int.sub_add_cancel, Int.add_zero, Int.zero_add, cast_s, iI_in, iI_lit, iI_le, iI_lt, iI_eq, iI_cl, iI_add, iI_sub, iI_mul, iI_neg, iI_nI, ok_s, ok_ck, ok_bn, ok_ob, ck_iI, bn_eq, ob_s, om_n, om_s, cb_bI, gI_g, gI_2, gJ_1, gJ_g, gJ_2, gR_1, gR_2, gR_g, within_v, in_v, bI_i0, bI_i1, iI_bI0, iI_bI1, bI_T, bI_F, f_X12_closesRows_l2b, hm1, e1, g1]
      exact r1
  have h0 : MI G n p (cnt + 0) rz (base + m + 1) := by rw [← hs]; exact h
  exact key m 0 (by omega) F (by omega) G (pk m) h0 (agp_rf _ _) hw (hpk m (Nat.le_refl _)) (altq_0 _ _ _ _) (fun _ _ => rfl) (hst m (Nat.le_refl _)) (OTM.rf G)
end PR
