/-! look, found -/
set_option maxRecDepth 100000 in
theorem nar_b : ∀ c : Nat, c < 128 → vp_nar .byte (iI (c : Int)) = iI (c : Int) := by decide +kernel
def RLook (G5 G31 : Grp) : Prop := (∃ m fd, FA G5 23 0 24 m fd ∧ FA G31 91 52 128 m fd ∧ m ≤ 160) ∧ RFR G5 23 ∧ RFR G5 51
section PR
variable {F n z : Nat} {G1 G3 G4 G5 G27 G29 G30 G31 : Grp} {tx b : Nat → Nat}
/-- the reference copies the tape -/
theorem copy_t (hn : n ≤ 160) (hb : ∀ i, i < n → G27.1 106 i = iI (b i) ∧ isSg (b i : Int)) (hF : 200000 ≤ F) (h46 : G30.1 91 46 = iI n) : ∃ G', f_X12_look_l17 F F G27 G29 G30 G31 (iI n) (iI 0) = f_X12_look_l17b F (fun _ _ _ _ _ _ => none) G27 G29 G' G31 (iI n) (iI n) ∧ TXM G' n b := by
  have key : ∀ d i : Nat, i + d = n → ∀ fu, d < fu → ∀ G, G.1 91 46 = iI n → (∀ j, j < i → G.1 123 j = iI (b j)) → ∃ G', f_X12_look_l17 F fu G27 G29 G G31 (iI n) (iI i) = f_X12_look_l17b F (fun _ _ _ _ _ _ => none) G27 G29 G' G31 (iI n) (iI n) ∧ TXM G' n b := by
    intro d
    induction d with
    | zero =>
      intro i hi fu hfu G h1 h2
      obtain ⟨fu, rfl⟩ : ∃ f, fu = f + 1 := ⟨fu - 1, by omega⟩
      have ei : i = n := by omega
      subst ei
      refine ⟨G, ?_, hn, h1, fun j hj => ⟨h2 j hj, (hb j hj).2⟩⟩
      show f_X12_look_l17b F (f_X12_look_l17 F fu) G27 G29 G G31 _ _ = _
      have e : (i : Int) ≤ i := Int.le_refl _
      simp (disch := omega) only [reduceIte, Nat.reduceEqDiff, Nat.reduceAdd, Nat.reduceSub, Nat.reduceMul, Nat.reduceLT, Int.reduceNeg, Int.reduceAdd, Int.reduceSub, Int.reduceMul, Int.reduceLT, Int.reduceLE, Int.reduceEq, Int.reduceToNat, reduceCtorEq, and_self, and_true, true_and, false_and, and_false, or_false, false_or, or_true, true_or, true_implies, false_implies, implies_true, not_true_eq_false, not_false_eq_true, Int.toNat_natCast, Int.cast_ofNat_Int, eq_self, ne_eq, ite_true, ite_false, if_true, if_false, Int.add_sub_cancel, Int.sub_add_cancel, Int.add_zero, Int.zero_add, cast_s, iI_in, iI_lit, iI_le, iI_lt, iI_eq, iI_cl, iI_add, iI_sub, iI_mul, iI_neg, iI_nI, ok_s, ok_ck, ok_bn, ok_ob, ck_iI, bn_eq, ob_s, om_n, om_s, cb_bI, gI_g, gI_2, gJ_1, gJ_g, gJ_2, gR_1, gR_2, gR_g, within_v, in_v, bI_i0, bI_i1, iI_bI0, iI_bI1, bI_T, bI_F, f_X12_look_l17b, e]
    | succ d ih =>
      intro i hi fu hfu G h1 h2
      obtain ⟨fu, rfl⟩ : ∃ f, fu = f + 1 := ⟨fu - 1, by omega⟩
      obtain ⟨u1, u2⟩ := hb i (by omega)
      have ub : b i < 128 := by unfold isSg isWd at u2; omega
      have nb := nar_b (b i) ub
      obtain ⟨G', r1, r2⟩ := ih (i + 1) (by omega) fu (by omega) (gI G 123 i (iI (b i))) (by rw [gI_g, if_neg (by omega)]; exact h1) (fun j hj => by
        rw [gI_g]
        by_cases e : j = i
        · rw [if_pos ⟨rfl, e⟩, e]
        · rw [if_neg (fun y => e y.2)]; exact h2 j (by omega))
      refine ⟨G', Eq.trans ?_ r1, r2⟩
      show f_X12_look_l17b F (f_X12_look_l17 F fu) G27 G29 G G31 _ _ = _
      have e : ¬ (n : Int) ≤ i := by omega
      simp (disch := omega) only [reduceIte, Nat.reduceEqDiff, Nat.reduceAdd, Nat.reduceSub, Nat.reduceMul, Nat.reduceLT, Int.reduceNeg, Int.reduceAdd, Int.reduceSub, Int.reduceMul, Int.reduceLT, Int.reduceLE, Int.reduceEq, Int.reduceToNat, reduceCtorEq, and_self, and_true, true_and, false_and, and_false, or_false, false_or, or_true, true_or, true_implies, false_implies, implies_true, not_true_eq_false, not_false_eq_true, Int.toNat_natCast, Int.cast_ofNat_Int, eq_self, ne_eq, ite_true, ite_false, if_true, if_false, Int.add_sub_cancel, Int.sub_add_cancel, Int.add_zero, Int.zero_add, cast_s, iI_in, iI_lit, iI_le, iI_lt, iI_eq, iI_cl, iI_add, iI_sub, iI_mul, iI_neg, iI_nI, ok_s, ok_ck, ok_bn, ok_ob, ck_iI, bn_eq, ob_s, om_n, om_s, cb_bI, gI_g, gI_2, gJ_1, gJ_g, gJ_2, gR_1, gR_2, gR_g, within_v, in_v, bI_i0, bI_i1, iI_bI0, iI_bI1, bI_T, bI_F, f_X12_look_l17b, e, u1, nb]
  exact key n 0 (by omega) F (by omega) G30 h46 (fun j hj => absurd hj (Nat.not_lt_zero j))
/-- the finds copied -/
theorem copy_f {m : Nat} {fd : Fnd} (ha : FA G30 91 51 124 m fd) (hm : m ≤ 160) (h52 : G31.1 91 52 = iI m) (hF : 200000 ≤ F) : ∃ G', f_X12_look_l54 F F G27 G29 G30 G31 (iI 0) = some (iI m, G30, G') ∧ FA G' 91 52 128 m fd := by
  obtain ⟨a0, a1⟩ := ha
  have key : ∀ d i : Nat, i + d = m → ∀ fu, d < fu → ∀ G, G.1 91 52 = iI m → (∀ j, j < i → G.1 128 j = iI (fd j).1 ∧ G.1 129 j = iI (fd j).2.1 ∧ G.1 130 j = iI (fd j).2.2.1 ∧ G.1 131 j = iI (fd j).2.2.2) → ∃ G', f_X12_look_l54 F fu G27 G29 G30 G (iI i) = some (iI m, G30, G') ∧ FA G' 91 52 128 m fd := by
    intro d
    induction d with
    | zero =>
      intro i hi fu hfu G h1 h2
      obtain ⟨fu, rfl⟩ : ∃ f, fu = f + 1 := ⟨fu - 1, by omega⟩
      have ei : i = m := by omega
      subst ei
      refine ⟨G, ?_, h1, h2⟩
      show f_X12_look_l54b F (f_X12_look_l54 F fu) G27 G29 G30 G _ = _
      have e : (i : Int) ≤ i := Int.le_refl _
      simp (disch := omega) only [reduceIte, Nat.reduceEqDiff, Nat.reduceAdd, Nat.reduceSub, Nat.reduceMul, Nat.reduceLT, Int.reduceNeg, Int.reduceAdd, Int.reduceSub, Int.reduceMul, Int.reduceLT, Int.reduceLE, Int.reduceEq, Int.reduceToNat, reduceCtorEq, and_self, and_true, true_and, false_and, and_false, or_false, false_or, or_true, true_or, true_implies, false_implies, implies_true, not_true_eq_false, not_false_eq_true, Int.toNat_natCast, Int.cast_ofNat_Int, eq_self, ne_eq, ite_true, ite_false, if_true, if_false, Int.add_sub_cancel, Int.sub_add_cancel, Int.add_zero, Int.zero_add, cast_s, iI_in, iI_lit, iI_le, iI_lt, iI_eq, iI_cl, iI_add, iI_sub, iI_mul, iI_neg, iI_nI, ok_s, ok_ck, ok_bn, ok_ob, ck_iI, bn_eq, ob_s, om_n, om_s, cb_bI, gI_g, gI_2, gJ_1, gJ_g, gJ_2, gR_1, gR_2, gR_g, within_v, in_v, bI_i0, bI_i1, iI_bI0, iI_bI1, bI_T, bI_F, f_X12_look_l54b, a0, e]
    | succ d ih =>
      intro i hi fu hfu G h1 h2
      obtain ⟨fu, rfl⟩ : ∃ f, fu = f + 1 := ⟨fu - 1, by omega⟩
      obtain ⟨u1, u2, u3, u4⟩ := a1 i (by omega)
      simp only [Nat.reduceAdd] at u2 u3 u4
      obtain ⟨G', r1, r2⟩ := ih (i + 1) (by omega) fu (by omega) (gI (gI (gI (gI G 128 i (iI (fd i).1)) 129 i (iI (fd i).2.1)) 130 i (iI (fd i).2.2.1)) 131 i (iI (fd i).2.2.2)) (by
          simp (disch := omega) only [reduceIte, Nat.reduceEqDiff, Nat.reduceAdd, Nat.reduceSub, Nat.reduceMul, Nat.reduceLT, Int.reduceNeg, Int.reduceAdd, Int.reduceSub, Int.reduceMul, Int.reduceLT, Int.reduceLE, Int.reduceEq, Int.reduceToNat, reduceCtorEq, and_self, and_true, true_and, false_and, and_false, or_false, false_or, or_true, true_or, true_implies, false_implies, implies_true, not_true_eq_false, not_false_eq_true, Int.toNat_natCast, Int.cast_ofNat_Int, eq_self, ne_eq, ite_true, ite_false, if_true, if_false, Int.add_sub_cancel, Int.sub_add_cancel, Int.add_zero, Int.zero_add, cast_s, iI_in, iI_lit, iI_le, iI_lt, iI_eq, iI_cl, iI_add, iI_sub, iI_mul, iI_neg, iI_nI, ok_s, ok_ck, ok_bn, ok_ob, ck_iI, bn_eq, ob_s, om_n, om_s, cb_bI, gI_g, gI_2, gJ_1, gJ_g, gJ_2, gR_1, gR_2, gR_g, within_v, in_v, bI_i0, bI_i1, iI_bI0, iI_bI1, bI_T, bI_F]
          exact h1) (fun j hj => by
        by_cases e : j = i
        · subst e
          simp (disch := omega) only [reduceIte, Nat.reduceEqDiff, Nat.reduceAdd, Nat.reduceSub, Nat.reduceMul, Nat.reduceLT, Int.reduceNeg, Int.reduceAdd, Int.reduceSub, Int.reduceMul, Int.reduceLT, Int.reduceLE, Int.reduceEq, Int.reduceToNat, reduceCtorEq, and_self, and_true, true_and, false_and, and_false, or_false, false_or, or_true, true_or, true_implies, false_implies, implies_true, not_true_eq_false, not_false_eq_true, Int.toNat_natCast, Int.cast_ofNat_Int, eq_self, ne_eq, ite_true, ite_false, if_true, if_false, Int.add_sub_cancel, Int.sub_add_cancel, Int.add_zero, Int.zero_add, cast_s, iI_in, iI_lit, iI_le, iI_lt, iI_eq, iI_cl, iI_add, iI_sub, iI_mul, iI_neg, iI_nI, ok_s, ok_ck, ok_bn, ok_ob, ck_iI, bn_eq, ob_s, om_n, om_s, cb_bI, gI_g, gI_2, gJ_1, gJ_g, gJ_2, gR_1, gR_2, gR_g, within_v, in_v, bI_i0, bI_i1, iI_bI0, iI_bI1, bI_T, bI_F]
        · simp (disch := omega) only [reduceIte, Nat.reduceEqDiff, Nat.reduceAdd, Nat.reduceSub, Nat.reduceMul, Nat.reduceLT, Int.reduceNeg, Int.reduceAdd, Int.reduceSub, Int.reduceMul, Int.reduceLT, Int.reduceLE, Int.reduceEq, Int.reduceToNat, reduceCtorEq, and_self, and_true, true_and, false_and, and_false, or_false, false_or, or_true, true_or, true_implies, false_implies, implies_true, not_true_eq_false, not_false_eq_true, Int.toNat_natCast, Int.cast_ofNat_Int, eq_self, ne_eq, ite_true, ite_false, if_true, if_false, Int.add_sub_cancel, Int.sub_add_cancel, Int.add_zero, Int.zero_add, cast_s, iI_in, iI_lit, iI_le, iI_lt, iI_eq, iI_cl, iI_add, iI_sub, iI_mul, iI_neg, iI_nI, ok_s, ok_ck, ok_bn, ok_ob, ck_iI, bn_eq, ob_s, om_n, om_s, cb_bI, gI_g, gI_2, gJ_1, gJ_g, gJ_2, gR_1, gR_2, gR_g, within_v, in_v, bI_i0, bI_i1, iI_bI0, iI_bI1, bI_T, bI_F, e]
          exact h2 j (by omega))
      refine ⟨G', ?_, r2⟩
      show f_X12_look_l54b F (f_X12_look_l54 F fu) G27 G29 G30 G _ = _
      have e : ¬ (m : Int) ≤ i := by omega
      simp (disch := omega) only [reduceIte, Nat.reduceEqDiff, Nat.reduceAdd, Nat.reduceSub, Nat.reduceMul, Nat.reduceLT, Int.reduceNeg, Int.reduceAdd, Int.reduceSub, Int.reduceMul, Int.reduceLT, Int.reduceLE, Int.reduceEq, Int.reduceToNat, reduceCtorEq, and_self, and_true, true_and, false_and, and_false, or_false, false_or, or_true, true_or, true_implies, false_implies, implies_true, not_true_eq_false, not_false_eq_true, Int.toNat_natCast, Int.cast_ofNat_Int, eq_self, ne_eq, ite_true, ite_false, if_true, if_false, Int.add_sub_cancel, Int.sub_add_cancel, Int.add_zero, Int.zero_add, cast_s, iI_in, iI_lit, iI_le, iI_lt, iI_eq, iI_cl, iI_add, iI_sub, iI_mul, iI_neg, iI_nI, ok_s, ok_ck, ok_bn, ok_ob, ck_iI, bn_eq, ob_s, om_n, om_s, cb_bI, gI_g, gI_2, gJ_1, gJ_g, gJ_2, gR_1, gR_2, gR_g, within_v, in_v, bI_i0, bI_i1, iI_bI0, iI_bI1, bI_T, bI_F, f_X12_look_l54b, a0, e, u1, u2, u3, u4]
      exact r1
  exact key m 0 (by omega) F (by omega) G31 h52 (fun j hj => absurd hj (Nat.not_lt_zero j))
theorem call_look {v sp S cnt r : Nat} {gl rt : Nat → Nat} {dc : Nat → Int} (h : RRul G1 G4 G29 v sp S cnt r gl rt dc) (ht : RTape G1 G3 G27 z b) (hl : RLook G5 G31) (hF : 200000 ≤ F) (a : Int32) : ok (f_X11_look F G1 G3 G4 G5 a) (fun q => ok (f_X12_look F G27 G29 G30 G31 a) fun w => q.1 = w.1 ∧ RLook q.2 w.2.2) := by
  obtain ⟨a, rfl, b1, b2⟩ := iI_ex a
  obtain ⟨x1, x2⟩ := both_text (F := F) ht hF b1 b2
  obtain ⟨t1, t2, t3, t4, t5, t6⟩ := id ht
  by_cases c : 1 ≤ a ∧ a ≤ 160 ∧ a ≤ z ∧ ∀ i : Nat, (i : Int) < a → isSg (b i : Int)
  · rw [@bI_t _ (clD _) c] at x1 x2
    obtain ⟨c1, c2, c3, c4⟩ := c
    obtain ⟨n, rfl⟩ : ∃ n : Nat, a = (n : Int) := ⟨a.toNat, by omega⟩
    have hb : ∀ i, i < n → G27.1 106 i = iI (b i) ∧ isSg (b i : Int) := fun i hi => by
      have s := c4 i (by omega)
      have ub : b i < 128 := by unfold isSg isWd at s; omega
      rw [(t5 i (by omega)).2, sg8_lo ub]
      exact ⟨rfl, s⟩
    obtain ⟨G301, y1, y2⟩ := copy_t (F := F) (G29 := G29) (G31 := G31) (G30 := gI G30 91 46 (iI n)) (by omega) hb hF (by rw [gI_g, if_pos ⟨rfl, rfl⟩])
    have tc : TXC G3 1 n b := ⟨by omega, ⟨240, t4, by omega, by omega⟩, fun i hi => ⟨(t5 i (by omega)).1, (hb i hi).2⟩⟩
    obtain ⟨G5', G30', m, fd, z1, z2, z3, z4, z5, z6, z7, z8, z9, z10, z11⟩ := both_v (F := F) h tc y2 hl.2.1 hF
    have hm := z5.1
    obtain ⟨G31', w1, w2⟩ := copy_f (F := F) (G27 := G27) (G29 := G29) (G31 := gI G31 91 52 (iI m)) z4 (by omega) (by rw [gI_g, if_pos ⟨rfl, rfl⟩]) hF
    have h1 : G1.2.2 0 4 = some v := h.2.1
    have z4' := z4.1
    have fin : f_X12_look_l17b F (fun _ _ _ _ _ _ => none) G27 G29 G301 G31 (iI n) (iI n) = some (iI m, G30', G31') := by
      have e : (n : Int) ≤ n := Int.le_refl _
      simp (disch := omega) only [reduceIte, Nat.reduceEqDiff, Nat.reduceAdd, Nat.reduceSub, Nat.reduceMul, Nat.reduceLT, Int.reduceNeg, Int.reduceAdd, Int.reduceSub, Int.reduceMul, Int.reduceLT, Int.reduceLE, Int.reduceEq, Int.reduceToNat, reduceCtorEq, and_self, and_true, true_and, false_and, and_false, or_false, false_or, or_true, true_or, true_implies, false_implies, implies_true, not_true_eq_false, not_false_eq_true, Int.toNat_natCast, Int.cast_ofNat_Int, eq_self, ne_eq, ite_true, ite_false, if_true, if_false, Int.add_sub_cancel, Int.sub_add_cancel, Int.add_zero, Int.zero_add, cast_s, iI_in, iI_lit, iI_le, iI_lt, iI_eq, iI_cl, iI_add, iI_sub, iI_mul, iI_neg, iI_nI, ok_s, ok_ck, ok_bn, ok_ob, ck_iI, bn_eq, ob_s, om_n, om_s, cb_bI, gI_g, gI_2, gJ_1, gJ_g, gJ_2, gR_1, gR_2, gR_g, within_v, in_v, bI_i0, bI_i1, iI_bI0, iI_bI1, bI_T, bI_F, f_X12_look_l17b, e, z2, z4']
      exact w1
    have z3' := z3.1
    have ex : ok (f_X12_look_l17 F F G27 G29 (gI G30 91 46 (iI n)) G31 (iI n) (iI 0)) (fun w => iI (m : Int) = w.1 ∧ RLook G5' w.2.2) := by
      rw [y1, fin]
      refine ⟨rfl, ⟨m, fd, z3, w2, by omega⟩, z6, ?_⟩
      obtain ⟨c', p', p1, p2, p3⟩ := hl.2.2
      exact ⟨c', p', by rw [z9 51 7 (by omega)]; exact p1, by rw [z9 51 8 (by omega)]; exact p2, p3⟩
    simp (disch := omega) only [reduceIte, Nat.reduceEqDiff, Nat.reduceAdd, Nat.reduceSub, Nat.reduceMul, Nat.reduceLT, Int.reduceNeg, Int.reduceAdd, Int.reduceSub, Int.reduceMul, Int.reduceLT, Int.reduceLE, Int.reduceEq, Int.reduceToNat, reduceCtorEq, and_self, and_true, true_and, false_and, and_false, or_false, false_or, or_true, true_or, true_implies, false_implies, implies_true, not_true_eq_false, not_false_eq_true, Int.toNat_natCast, Int.cast_ofNat_Int, eq_self, ne_eq, ite_true, ite_false, if_true, if_false, Int.add_sub_cancel, Int.sub_add_cancel, Int.add_zero, Int.zero_add, cast_s, iI_in, iI_lit, iI_le, iI_lt, iI_eq, iI_cl, iI_add, iI_sub, iI_mul, iI_neg, iI_nI, ok_s, ok_ck, ok_bn, ok_ob, ck_iI, bn_eq, ob_s, om_n, om_s, cb_bI, gI_g, gI_2, gJ_1, gJ_g, gJ_2, gR_1, gR_2, gR_g, within_v, in_v, bI_i0, bI_i1, iI_bI0, iI_bI1, bI_T, bI_F, f_X11_look, f_X12_look, x1, x2, h1, z1, z3']
    exact ex
  · rw [@bI_f _ (clD _) c] at x1 x2
    simp (disch := omega) only [reduceIte, Nat.reduceEqDiff, Nat.reduceAdd, Nat.reduceSub, Nat.reduceMul, Nat.reduceLT, Int.reduceNeg, Int.reduceAdd, Int.reduceSub, Int.reduceMul, Int.reduceLT, Int.reduceLE, Int.reduceEq, Int.reduceToNat, reduceCtorEq, and_self, and_true, true_and, false_and, and_false, or_false, false_or, or_true, true_or, true_implies, false_implies, implies_true, not_true_eq_false, not_false_eq_true, Int.toNat_natCast, Int.cast_ofNat_Int, eq_self, ne_eq, ite_true, ite_false, if_true, if_false, Int.add_sub_cancel, Int.sub_add_cancel, Int.add_zero, Int.zero_add, cast_s, iI_in, iI_lit, iI_le, iI_lt, iI_eq, iI_cl, iI_add, iI_sub, iI_mul, iI_neg, iI_nI, ok_s, ok_ck, ok_bn, ok_ob, ck_iI, bn_eq, ob_s, om_n, om_s, cb_bI, gI_g, gI_2, gJ_1, gJ_g, gJ_2, gR_1, gR_2, gR_g, within_v, in_v, bI_i0, bI_i1, iI_bI0, iI_bI1, bI_T, bI_F, f_X11_look, f_X12_look, x1, x2]
    exact hl
theorem call_found (hl : RLook G5 G31) (a c : Int32) : ok (f_X11_found F G5 a c) (fun q => ok (f_X12_found F G31 a c) fun w => q = w) := by
  obtain ⟨⟨m, fd, ⟨p1, p2⟩, ⟨q1, q2⟩, hm⟩, _⟩ := hl
  obtain ⟨a, rfl, b1, b2⟩ := iI_ex a
  by_cases c1 : a < 0
  · have e : ¬ (0 ≤ a ∧ a ≤ (m : Int) - 1) := by omega
    simp (disch := omega) only [reduceIte, Nat.reduceEqDiff, Nat.reduceAdd, Nat.reduceSub, Nat.reduceMul, Nat.reduceLT, Int.reduceNeg, Int.reduceAdd, Int.reduceSub, Int.reduceMul, Int.reduceLT, Int.reduceLE, Int.reduceEq, Int.reduceToNat, reduceCtorEq, and_self, and_true, true_and, false_and, and_false, or_false, false_or, or_true, true_or, true_implies, false_implies, implies_true, not_true_eq_false, not_false_eq_true, Int.toNat_natCast, Int.cast_ofNat_Int, eq_self, ne_eq, ite_true, ite_false, if_true, if_false, Int.add_sub_cancel, Int.sub_add_cancel, Int.add_zero, Int.zero_add, cast_s, iI_in, iI_lit, iI_le, iI_lt, iI_eq, iI_cl, iI_add, iI_sub, iI_mul, iI_neg, iI_nI, ok_s, ok_ck, ok_bn, ok_ob, ck_iI, bn_eq, ob_s, om_n, om_s, cb_bI, gI_g, gI_2, gJ_1, gJ_g, gJ_2, gR_1, gR_2, gR_g, within_v, in_v, bI_i0, bI_i1, iI_bI0, iI_bI1, bI_T, bI_F, f_X11_found, f_X12_found, p1, c1, e]
  · by_cases c2 : a < m
    · have e : 0 ≤ a ∧ a ≤ (m : Int) - 1 := by omega
      obtain ⟨u1, u2, u3, u4⟩ := p2 a.toNat (by omega)
      obtain ⟨w1, w2, w3, w4⟩ := q2 a.toNat (by omega)
      simp only [Nat.reduceAdd] at u2 u3 u4 w2 w3 w4
      obtain ⟨c, rfl, d1, d2⟩ := iI_ex c
      by_cases k0 : c = 0
      · skip
        simp (disch := omega) only [reduceIte, Nat.reduceEqDiff, Nat.reduceAdd, Nat.reduceSub, Nat.reduceMul, Nat.reduceLT, Int.reduceNeg, Int.reduceAdd, Int.reduceSub, Int.reduceMul, Int.reduceLT, Int.reduceLE, Int.reduceEq, Int.reduceToNat, reduceCtorEq, and_self, and_true, true_and, false_and, and_false, or_false, false_or, or_true, true_or, true_implies, false_implies, implies_true, not_true_eq_false, not_false_eq_true, Int.toNat_natCast, Int.cast_ofNat_Int, eq_self, ne_eq, ite_true, ite_false, if_true, if_false, Int.add_sub_cancel, Int.sub_add_cancel, Int.add_zero, Int.zero_add, cast_s, iI_in, iI_lit, iI_le, iI_lt, iI_eq, iI_cl, iI_add, iI_sub, iI_mul, iI_neg, iI_nI, ok_s, ok_ck, ok_bn, ok_ob, ck_iI, bn_eq, ob_s, om_n, om_s, cb_bI, gI_g, gI_2, gJ_1, gJ_g, gJ_2, gR_1, gR_2, gR_g, within_v, in_v, bI_i0, bI_i1, iI_bI0, iI_bI1, bI_T, bI_F, f_X11_found, f_X12_found, p1, q1, c1, c2, e, u1, w1, eq_true k0]
      · by_cases k1 : c = 1
        · skip
          simp (disch := omega) only [reduceIte, Nat.reduceEqDiff, Nat.reduceAdd, Nat.reduceSub, Nat.reduceMul, Nat.reduceLT, Int.reduceNeg, Int.reduceAdd, Int.reduceSub, Int.reduceMul, Int.reduceLT, Int.reduceLE, Int.reduceEq, Int.reduceToNat, reduceCtorEq, and_self, and_true, true_and, false_and, and_false, or_false, false_or, or_true, true_or, true_implies, false_implies, implies_true, not_true_eq_false, not_false_eq_true, Int.toNat_natCast, Int.cast_ofNat_Int, eq_self, ne_eq, ite_true, ite_false, if_true, if_false, Int.add_sub_cancel, Int.sub_add_cancel, Int.add_zero, Int.zero_add, cast_s, iI_in, iI_lit, iI_le, iI_lt, iI_eq, iI_cl, iI_add, iI_sub, iI_mul, iI_neg, iI_nI, ok_s, ok_ck, ok_bn, ok_ob, ck_iI, bn_eq, ob_s, om_n, om_s, cb_bI, gI_g, gI_2, gJ_1, gJ_g, gJ_2, gR_1, gR_2, gR_g, within_v, in_v, bI_i0, bI_i1, iI_bI0, iI_bI1, bI_T, bI_F, f_X11_found, f_X12_found, p1, q1, c1, c2, e, u2, w2, k0, eq_true k1]
        · by_cases k2 : c = 2
          · skip
            simp (disch := omega) only [reduceIte, Nat.reduceEqDiff, Nat.reduceAdd, Nat.reduceSub, Nat.reduceMul, Nat.reduceLT, Int.reduceNeg, Int.reduceAdd, Int.reduceSub, Int.reduceMul, Int.reduceLT, Int.reduceLE, Int.reduceEq, Int.reduceToNat, reduceCtorEq, and_self, and_true, true_and, false_and, and_false, or_false, false_or, or_true, true_or, true_implies, false_implies, implies_true, not_true_eq_false, not_false_eq_true, Int.toNat_natCast, Int.cast_ofNat_Int, eq_self, ne_eq, ite_true, ite_false, if_true, if_false, Int.add_sub_cancel, Int.sub_add_cancel, Int.add_zero, Int.zero_add, cast_s, iI_in, iI_lit, iI_le, iI_lt, iI_eq, iI_cl, iI_add, iI_sub, iI_mul, iI_neg, iI_nI, ok_s, ok_ck, ok_bn, ok_ob, ck_iI, bn_eq, ob_s, om_n, om_s, cb_bI, gI_g, gI_2, gJ_1, gJ_g, gJ_2, gR_1, gR_2, gR_g, within_v, in_v, bI_i0, bI_i1, iI_bI0, iI_bI1, bI_T, bI_F, f_X11_found, f_X12_found, p1, q1, c1, c2, e, u3, w3, k0, k1, eq_true k2]
          · by_cases k3 : c = 3
            · skip
              simp (disch := omega) only [reduceIte, Nat.reduceEqDiff, Nat.reduceAdd, Nat.reduceSub, Nat.reduceMul, Nat.reduceLT, Int.reduceNeg, Int.reduceAdd, Int.reduceSub, Int.reduceMul, Int.reduceLT, Int.reduceLE, Int.reduceEq, Int.reduceToNat, reduceCtorEq, and_self, and_true, true_and, false_and, and_false, or_false, false_or, or_true, true_or, true_implies, false_implies, implies_true, not_true_eq_false, not_false_eq_true, Int.toNat_natCast, Int.cast_ofNat_Int, eq_self, ne_eq, ite_true, ite_false, if_true, if_false, Int.add_sub_cancel, Int.sub_add_cancel, Int.add_zero, Int.zero_add, cast_s, iI_in, iI_lit, iI_le, iI_lt, iI_eq, iI_cl, iI_add, iI_sub, iI_mul, iI_neg, iI_nI, ok_s, ok_ck, ok_bn, ok_ob, ck_iI, bn_eq, ob_s, om_n, om_s, cb_bI, gI_g, gI_2, gJ_1, gJ_g, gJ_2, gR_1, gR_2, gR_g, within_v, in_v, bI_i0, bI_i1, iI_bI0, iI_bI1, bI_T, bI_F, f_X11_found, f_X12_found, p1, q1, c1, c2, e, u4, w4, k0, k1, k2, eq_true k3]
            · skip
              simp (disch := omega) only [reduceIte, Nat.reduceEqDiff, Nat.reduceAdd, Nat.reduceSub, Nat.reduceMul, Nat.reduceLT, Int.reduceNeg, Int.reduceAdd, Int.reduceSub, Int.reduceMul, Int.reduceLT, Int.reduceLE, Int.reduceEq, Int.reduceToNat, reduceCtorEq, and_self, and_true, true_and, false_and, and_false, or_false, false_or, or_true, true_or, true_implies, false_implies, implies_true, not_true_eq_false, not_false_eq_true, Int.toNat_natCast, Int.cast_ofNat_Int, eq_self, ne_eq, ite_true, ite_false, if_true, if_false, Int.add_sub_cancel, Int.sub_add_cancel, Int.add_zero, Int.zero_add, cast_s, iI_in, iI_lit, iI_le, iI_lt, iI_eq, iI_cl, iI_add, iI_sub, iI_mul, iI_neg, iI_nI, ok_s, ok_ck, ok_bn, ok_ob, ck_iI, bn_eq, ob_s, om_n, om_s, cb_bI, gI_g, gI_2, gJ_1, gJ_g, gJ_2, gR_1, gR_2, gR_g, within_v, in_v, bI_i0, bI_i1, iI_bI0, iI_bI1, bI_T, bI_F, f_X11_found, f_X12_found, p1, q1, c1, c2, e, k0, k1, k2, k3]
    · have e : ¬ (0 ≤ a ∧ a ≤ (m : Int) - 1) := by omega
      simp (disch := omega) only [reduceIte, Nat.reduceEqDiff, Nat.reduceAdd, Nat.reduceSub, Nat.reduceMul, Nat.reduceLT, Int.reduceNeg, Int.reduceAdd, Int.reduceSub, Int.reduceMul, Int.reduceLT, Int.reduceLE, Int.reduceEq, Int.reduceToNat, reduceCtorEq, and_self, and_true, true_and, false_and, and_false, or_false, false_or, or_true, true_or, true_implies, false_implies, implies_true, not_true_eq_false, not_false_eq_true, Int.toNat_natCast, Int.cast_ofNat_Int, eq_self, ne_eq, ite_true, ite_false, if_true, if_false, Int.add_sub_cancel, Int.sub_add_cancel, Int.add_zero, Int.zero_add, cast_s, iI_in, iI_lit, iI_le, iI_lt, iI_eq, iI_cl, iI_add, iI_sub, iI_mul, iI_neg, iI_nI, ok_s, ok_ck, ok_bn, ok_ob, ck_iI, bn_eq, ob_s, om_n, om_s, cb_bI, gI_g, gI_2, gJ_1, gJ_g, gJ_2, gR_1, gR_2, gR_g, within_v, in_v, bI_i0, bI_i1, iI_bI0, iI_bI1, bI_T, bI_F, f_X11_found, f_X12_found, p1, q1, c1, c2, e]
end PR
