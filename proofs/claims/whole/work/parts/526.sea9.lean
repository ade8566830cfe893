/-! the search of both; a text on the tape -/
def RFR (G5 : Grp) (f : Nat) : Prop := ∃ c p, G5.2.2 f 7 = some c ∧ G5.2.2 f 8 = some p ∧ ((c = f + 7 ∧ p = f + 8) ∨ (c = f + 8 ∧ p = f + 7))
section PR
variable {F n z : Nat} {G1 G3 G4 G5 G27 G29 G30 : Grp} {f tc : Nat} {tx b : Nat → Nat}
theorem both_v {v sp S cnt r : Nat} {gl rt : Nat → Nat} {dc : Nat → Int} (h : RRul G1 G4 G29 v sp S cnt r gl rt dc) (hc : TXC G3 tc n tx) (hm : TXM G30 n tx) (hf : RFR G5 f) (hF : 200000 ≤ F) : ∃ G5' G30' m fd, f_X2_search F G3 G4 G5 f v tc (iI n) = some G5' ∧ f_X12_looks F G29 G30 = some G30' ∧ FA G5' f 0 (f + 1) m fd ∧ FA G30' 91 51 124 m fd ∧ FO m r n fd ∧ RFR G5' f ∧ (∀ a k, ¬ (a = f ∧ k = 0) → ¬ (f + 1 ≤ a ∧ a ≤ f + 8) → G5'.1 a k = G5.1 a k) ∧ G5'.2.1 = G5.2.1 ∧ (∀ a k, ¬ (a = f ∧ (k = 7 ∨ k = 8)) → G5'.2.2 a k = G5.2.2 a k) ∧ (∀ a k, ¬ (a = 91 ∧ k = 51) → ¬ (124 ≤ a ∧ a ≤ 127) → G30'.1 a k = G30.1 a k) ∧ G30'.2.2 = G30.2.2 := by
  obtain ⟨h0, h1, h2, h3, h4, h5, h6, h7, h8, h9, h10, h11, h12, h13⟩ := id h
  have tn := hc.1
  have rg : RGS (gph G4 v) (prt9 G29) cnt S r gl rt := ⟨h8, h9, h7, fun i hi => (h10 i hi).1⟩
  have nw := rgs_nw rg
  have sS : ∀ k, k < r → gl k + 1 < S := fun k hk => by
    have := (h10 k hk).1.1
    have := gl_mon rg r (Nat.le_refl _) (k + 1) (by omega)
    rw [h9] at this
    omega
  obtain ⟨G51, c', p', q1, q2⟩ := search_v (F := F) (G3 := G3) (f := f) (sr := fun k => gl k + 1) nw h11 h3 h4 h13 (fun k hk => ⟨iI_of (h10 k hk).2.1, sS k hk⟩) hc hf hF
  obtain ⟨G301, e1, e2, e3, e4⟩ := fill_v (F := F) (G := G30) h7 h12 h5 hm hF
  obtain ⟨i1, i2, i3, i4, i5, i6, i7, i8⟩ := q2
  have W : WOK f n r G29 (gI G51 f 0 0) (gI G301 91 51 (iI 0)) rt (fun k i => CW (gph G4 v) n S tx (gl k + 1) i) := by
    refine ⟨h13, h6, fun i hi => ?_, fun k hk => ⟨?_, (h10 k hk).2.2.2.2, fun i hi => ?_⟩⟩
    · have := i8 i (Nat.zero_le _) hi
      rw [gI_g, if_neg (by omega)]
      refine ⟨this.1, fun k hk => ?_⟩
      rw [gI_g, if_neg (by omega)]
      exact this.2 k hk
    · have := (h10 k hk).1.2.1; omega
    · refine gst_congr fun j hj => ?_
      rw [rule_cnd rg e4 hk i j]
      exact ⟨fun y => (SE_eq (G := G301) rfl _ _ _).mpr y.2, fun y => ⟨by omega, (SE_eq (G := G301) rfl _ _ _).mp y⟩⟩
  have hm1 : TXM (gI G301 91 51 (iI 0)) n tx := ⟨hm.1, by rw [gI_g, if_neg (by omega), e2]; exact hm.2.1, fun i hi => by rw [gI_g, if_neg (by omega), e2]; exact hm.2.2 i hi⟩
  obtain ⟨G5', G30', m, fd, a1, a2, a3, a4, a5, a6, a7⟩ := both_l (F := F) (G29 := G29) (f := f) hc hm1 W hF n 0 (by omega) 0 0 (fun _ => (0, 0, 0, 0)) (gI G51 f 0 0) (gI G301 91 51 (iI 0)) F F (Nat.le_refl _) (by omega) (by omega) ⟨rfl, fun _ _ _ _ => rfl⟩ ⟨rfl, fun _ _ _ _ => rfl⟩ ⟨by rw [gI_g, if_pos ⟨rfl, rfl⟩]; rfl, fun j hj => absurd hj (Nat.not_lt_zero j)⟩ ⟨by rw [gI_g, if_pos ⟨rfl, rfl⟩]; rfl, fun j hj => absurd hj (Nat.not_lt_zero j)⟩ ⟨Nat.le_refl _, fun j hj => absurd hj (Nat.not_lt_zero j), fun j hj => absurd hj (Nat.not_lt_zero _)⟩
  have g2 : G5'.2 = G51.2 := a3.1
  refine ⟨G5', G30', m, fd, ?_, ?_, a5, a6, a7, ⟨c', p', by rw [g2]; exact i1, by rw [g2]; exact i2, i3⟩, fun a k k1 k2 => ?_, by rw [g2]; exact i5, fun a k hk => by rw [g2]; exact i6 a k hk, fun a k k1 k2 => ?_, ?_⟩
  · rw [q1]
    unfold f_X2_gather
    rw [bn_eq]
    exact a1
  · rw [e1]; exact a2
  · rw [a3.2 a k k1 (by omega), gI_g, if_neg k1]
    exact i4 a k (by omega) (by omega) (by omega) (by omega)
  · rw [a4.2 a k k1 k2, gI_g, if_neg k1, e2]
  · rw [a4.1]; exact e3
theorem sg8_lo {c : Nat} (h : c < 128) : sg8 c = c := by unfold sg8; rw [if_pos h]
theorem isSign_m {c : Nat} (hc : c < 256) : f_X12_isSign F (iI (sg8 c)) = some (bI (isSg (c : Int))) := by
  have sb : -128 ≤ sg8 c ∧ sg8 c < 256 ∧ (c < 128 → sg8 c = c) ∧ (128 ≤ c → sg8 c < 0) := by unfold sg8; split <;> omega
  generalize sg8 c = s at *
  have lt := letter_m (F := F) (c := s) (by omega) (by omega)
  have dg := digit_m (F := F) (c := s) (by omega) (by omega)
  by_cases a : 97 ≤ s ∧ s ≤ 122
  · rw [bI_t (show isSg (c : Int) from Or.inl (Or.inl (by omega)))]
    rw [bI_t a] at lt
    simp (disch := omega) only [reduceIte, Nat.reduceEqDiff, Nat.reduceAdd, Nat.reduceSub, Nat.reduceMul, Nat.reduceLT, Int.reduceNeg, Int.reduceAdd, Int.reduceSub, Int.reduceMul, Int.reduceLT, Int.reduceLE, Int.reduceEq, Int.reduceToNat, reduceCtorEq, and_self, and_true, true_and, false_and, and_false, or_false, false_or, or_true, true_or, true_implies, false_implies, implies_true, not_true_eq_false, not_false_eq_true, Int.toNat_natCast, Int.cast_ofNat_Int, eq_self, ne_eq, ite_true, ite_false, if_true, if_false, Int.add_sub_cancel, Int.sub_add_cancel, Int.add_zero, Int.zero_add, cast_s, iI_in, iI_lit, iI_le, iI_lt, iI_eq, iI_cl, iI_add, iI_sub, iI_mul, iI_neg, iI_nI, ok_s, ok_ck, ok_bn, ok_ob, ck_iI, bn_eq, ob_s, om_n, om_s, cb_bI, gI_g, gI_2, gJ_1, gJ_g, gJ_2, gR_1, gR_2, gR_g, within_v, in_v, bI_i0, bI_i1, iI_bI0, iI_bI1, bI_T, bI_F, f_X12_isSign, lt]
  · rw [bI_f a] at lt
    by_cases d : 48 ≤ s ∧ s ≤ 57
    · rw [bI_t (show isSg (c : Int) from Or.inl (Or.inr (by omega)))]
      rw [bI_t d] at dg
      simp (disch := omega) only [reduceIte, Nat.reduceEqDiff, Nat.reduceAdd, Nat.reduceSub, Nat.reduceMul, Nat.reduceLT, Int.reduceNeg, Int.reduceAdd, Int.reduceSub, Int.reduceMul, Int.reduceLT, Int.reduceLE, Int.reduceEq, Int.reduceToNat, reduceCtorEq, and_self, and_true, true_and, false_and, and_false, or_false, false_or, or_true, true_or, true_implies, false_implies, implies_true, not_true_eq_false, not_false_eq_true, Int.toNat_natCast, Int.cast_ofNat_Int, eq_self, ne_eq, ite_true, ite_false, if_true, if_false, Int.add_sub_cancel, Int.sub_add_cancel, Int.add_zero, Int.zero_add, cast_s, iI_in, iI_lit, iI_le, iI_lt, iI_eq, iI_cl, iI_add, iI_sub, iI_mul, iI_neg, iI_nI, ok_s, ok_ck, ok_bn, ok_ob, ck_iI, bn_eq, ob_s, om_n, om_s, cb_bI, gI_g, gI_2, gJ_1, gJ_g, gJ_2, gR_1, gR_2, gR_g, within_v, in_v, bI_i0, bI_i1, iI_bI0, iI_bI1, bI_T, bI_F, f_X12_isSign, lt, dg]
    · rw [bI_f d] at dg
      by_cases e1 : s = 32
      · rw [bI_t (show isSg (c : Int) from Or.inr (by omega))]
        simp (disch := omega) only [reduceIte, Nat.reduceEqDiff, Nat.reduceAdd, Nat.reduceSub, Nat.reduceMul, Nat.reduceLT, Int.reduceNeg, Int.reduceAdd, Int.reduceSub, Int.reduceMul, Int.reduceLT, Int.reduceLE, Int.reduceEq, Int.reduceToNat, reduceCtorEq, and_self, and_true, true_and, false_and, and_false, or_false, false_or, or_true, true_or, true_implies, false_implies, implies_true, not_true_eq_false, not_false_eq_true, Int.toNat_natCast, Int.cast_ofNat_Int, eq_self, ne_eq, ite_true, ite_false, if_true, if_false, Int.add_sub_cancel, Int.sub_add_cancel, Int.add_zero, Int.zero_add, cast_s, iI_in, iI_lit, iI_le, iI_lt, iI_eq, iI_cl, iI_add, iI_sub, iI_mul, iI_neg, iI_nI, ok_s, ok_ck, ok_bn, ok_ob, ck_iI, bn_eq, ob_s, om_n, om_s, cb_bI, gI_g, gI_2, gJ_1, gJ_g, gJ_2, gR_1, gR_2, gR_g, within_v, in_v, bI_i0, bI_i1, iI_bI0, iI_bI1, bI_T, bI_F, f_X12_isSign, lt, dg, eq_true e1]
      · by_cases e2 : s = 10
        · rw [bI_t (show isSg (c : Int) from Or.inr (by omega))]
          simp (disch := omega) only [reduceIte, Nat.reduceEqDiff, Nat.reduceAdd, Nat.reduceSub, Nat.reduceMul, Nat.reduceLT, Int.reduceNeg, Int.reduceAdd, Int.reduceSub, Int.reduceMul, Int.reduceLT, Int.reduceLE, Int.reduceEq, Int.reduceToNat, reduceCtorEq, and_self, and_true, true_and, false_and, and_false, or_false, false_or, or_true, true_or, true_implies, false_implies, implies_true, not_true_eq_false, not_false_eq_true, Int.toNat_natCast, Int.cast_ofNat_Int, eq_self, ne_eq, ite_true, ite_false, if_true, if_false, Int.add_sub_cancel, Int.sub_add_cancel, Int.add_zero, Int.zero_add, cast_s, iI_in, iI_lit, iI_le, iI_lt, iI_eq, iI_cl, iI_add, iI_sub, iI_mul, iI_neg, iI_nI, ok_s, ok_ck, ok_bn, ok_ob, ck_iI, bn_eq, ob_s, om_n, om_s, cb_bI, gI_g, gI_2, gJ_1, gJ_g, gJ_2, gR_1, gR_2, gR_g, within_v, in_v, bI_i0, bI_i1, iI_bI0, iI_bI1, bI_T, bI_F, f_X12_isSign, lt, dg, e1, eq_true e2]
        · rw [bI_f (show ¬ isSg (c : Int) from fun y => by unfold isSg isWd at y; omega)]
          simp (disch := omega) only [reduceIte, Nat.reduceEqDiff, Nat.reduceAdd, Nat.reduceSub, Nat.reduceMul, Nat.reduceLT, Int.reduceNeg, Int.reduceAdd, Int.reduceSub, Int.reduceMul, Int.reduceLT, Int.reduceLE, Int.reduceEq, Int.reduceToNat, reduceCtorEq, and_self, and_true, true_and, false_and, and_false, or_false, false_or, or_true, true_or, true_implies, false_implies, implies_true, not_true_eq_false, not_false_eq_true, Int.toNat_natCast, Int.cast_ofNat_Int, eq_self, ne_eq, ite_true, ite_false, if_true, if_false, Int.add_sub_cancel, Int.sub_add_cancel, Int.add_zero, Int.zero_add, cast_s, iI_in, iI_lit, iI_le, iI_lt, iI_eq, iI_cl, iI_add, iI_sub, iI_mul, iI_neg, iI_nI, ok_s, ok_ck, ok_bn, ok_ob, ck_iI, bn_eq, ob_s, om_n, om_s, cb_bI, gI_g, gI_2, gJ_1, gJ_g, gJ_2, gR_1, gR_2, gR_g, within_v, in_v, bI_i0, bI_i1, iI_bI0, iI_bI1, bI_T, bI_F, f_X12_isSign, lt, dg, e1, e2]
/-- both ask alike whether the tape begins with a text -/
theorem both_text (ht : RTape G1 G3 G27 z b) (hF : 200000 ≤ F) {a : Int} (h1 : -2147483648 ≤ a) (h2 : a < 2147483648) : f_X11_tapeHasText F G1 G3 (iI a) = some (@bI (1 ≤ a ∧ a ≤ 160 ∧ a ≤ z ∧ ∀ i : Nat, (i : Int) < a → isSg (b i : Int)) (clD _)) ∧ f_X12_isText F G27 (iI a) = some (@bI (1 ≤ a ∧ a ≤ 160 ∧ a ≤ z ∧ ∀ i : Nat, (i : Int) < a → isSg (b i : Int)) (clD _)) := by
  obtain ⟨t1, t2, t3, t4, t5, t6⟩ := ht
  by_cases c : 1 ≤ a ∧ a ≤ 160 ∧ a ≤ z
  · obtain ⟨c1, c2, c3⟩ := c
    have key : ∀ d i : Nat, (i : Int) + d = a → (∀ j : Nat, j < i → isSg (b j : Int)) → ∀ fu, d < fu → f_X11_tapeHasText_l24 F fu G1 G3 (iI a) (iI i) = some (@bI (1 ≤ a ∧ a ≤ 160 ∧ a ≤ z ∧ ∀ i : Nat, (i : Int) < a → isSg (b i : Int)) (clD _)) ∧ f_X12_isText_l23 F fu G27 (iI a) (iI i) = some (@bI (1 ≤ a ∧ a ≤ 160 ∧ a ≤ z ∧ ∀ i : Nat, (i : Int) < a → isSg (b i : Int)) (clD _)) := by
      intro d
      induction d with
      | zero =>
        intro i hi hs fu hfu
        obtain ⟨fu, rfl⟩ : ∃ f, fu = f + 1 := ⟨fu - 1, by omega⟩
        have e : a ≤ (i : Int) := by omega
        rw [@bI_t _ (clD _) ⟨c1, c2, c3, fun j hj => hs j (by omega)⟩]
        constructor
        · show f_X11_tapeHasText_l24b F (f_X11_tapeHasText_l24 F fu) G1 G3 _ _ = _
          simp (disch := omega) only [reduceIte, Nat.reduceEqDiff, Nat.reduceAdd, Nat.reduceSub, Nat.reduceMul, Nat.reduceLT, Int.reduceNeg, Int.reduceAdd, Int.reduceSub, Int.reduceMul, Int.reduceLT, Int.reduceLE, Int.reduceEq, Int.reduceToNat, reduceCtorEq, and_self, and_true, true_and, false_and, and_false, or_false, false_or, or_true, true_or, true_implies, false_implies, implies_true, not_true_eq_false, not_false_eq_true, Int.toNat_natCast, Int.cast_ofNat_Int, eq_self, ne_eq, ite_true, ite_false, if_true, if_false, Int.add_sub_cancel, Int.sub_add_cancel, Int.add_zero, Int.zero_add, cast_s, iI_in, iI_lit, iI_le, iI_lt, iI_eq, iI_cl, iI_add, iI_sub, iI_mul, iI_neg, iI_nI, ok_s, ok_ck, ok_bn, ok_ob, ck_iI, bn_eq, ob_s, om_n, om_s, cb_bI, gI_g, gI_2, gJ_1, gJ_g, gJ_2, gR_1, gR_2, gR_g, within_v, in_v, bI_i0, bI_i1, iI_bI0, iI_bI1, bI_T, bI_F, f_X11_tapeHasText_l24b, e]
        · show f_X12_isText_l23b F (f_X12_isText_l23 F fu) G27 _ _ = _
          simp (disch := omega) only [reduceIte, Nat.reduceEqDiff, Nat.reduceAdd, Nat.reduceSub, Nat.reduceMul, Nat.reduceLT, Int.reduceNeg, Int.reduceAdd, Int.reduceSub, Int.reduceMul, Int.reduceLT, Int.reduceLE, Int.reduceEq, Int.reduceToNat, reduceCtorEq, and_self, and_true, true_and, false_and, and_false, or_false, false_or, or_true, true_or, true_implies, false_implies, implies_true, not_true_eq_false, not_false_eq_true, Int.toNat_natCast, Int.cast_ofNat_Int, eq_self, ne_eq, ite_true, ite_false, if_true, if_false, Int.add_sub_cancel, Int.sub_add_cancel, Int.add_zero, Int.zero_add, cast_s, iI_in, iI_lit, iI_le, iI_lt, iI_eq, iI_cl, iI_add, iI_sub, iI_mul, iI_neg, iI_nI, ok_s, ok_ck, ok_bn, ok_ob, ck_iI, bn_eq, ob_s, om_n, om_s, cb_bI, gI_g, gI_2, gJ_1, gJ_g, gJ_2, gR_1, gR_2, gR_g, within_v, in_v, bI_i0, bI_i1, iI_bI0, iI_bI1, bI_T, bI_F, f_X12_isText_l23b, e]
      | succ d ih =>
        intro i hi hs fu hfu
        obtain ⟨fu, rfl⟩ : ∃ f, fu = f + 1 := ⟨fu - 1, by omega⟩
        have e : ¬ a ≤ (i : Int) := by omega
        obtain ⟨u1, u2⟩ := t5 i (by omega)
        have ub := t6 i
        have wd := word_c (F := F) (c := (b i : Int)) (by omega) (by omega)
        have sm := isSign_m (F := F) ub
        show f_X11_tapeHasText_l24b F (f_X11_tapeHasText_l24 F fu) G1 G3 _ _ = _ ∧ f_X12_isText_l23b F (f_X12_isText_l23 F fu) G27 _ _ = _
        by_cases q : isSg (b i : Int)
        · rw [bI_t q] at sm
          obtain ⟨r1, r2⟩ := ih (i + 1) (by omega) (fun j hj => by
            by_cases c : j = i
            · rw [c]; exact q
            · exact hs j (by omega)) fu (by omega)
          constructor
          · by_cases w : isWd (b i : Int)
            · rw [bI_t w] at wd
              simp (disch := omega) only [reduceIte, Nat.reduceEqDiff, Nat.reduceAdd, Nat.reduceSub, Nat.reduceMul, Nat.reduceLT, Int.reduceNeg, Int.reduceAdd, Int.reduceSub, Int.reduceMul, Int.reduceLT, Int.reduceLE, Int.reduceEq, Int.reduceToNat, reduceCtorEq, and_self, and_true, true_and, false_and, and_false, or_false, false_or, or_true, true_or, true_implies, false_implies, implies_true, not_true_eq_false, not_false_eq_true, Int.toNat_natCast, Int.cast_ofNat_Int, eq_self, ne_eq, ite_true, ite_false, if_true, if_false, Int.add_sub_cancel, Int.sub_add_cancel, Int.add_zero, Int.zero_add, cast_s, iI_in, iI_lit, iI_le, iI_lt, iI_eq, iI_cl, iI_add, iI_sub, iI_mul, iI_neg, iI_nI, ok_s, ok_ck, ok_bn, ok_ob, ck_iI, bn_eq, ob_s, om_n, om_s, cb_bI, gI_g, gI_2, gJ_1, gJ_g, gJ_2, gR_1, gR_2, gR_g, within_v, in_v, bI_i0, bI_i1, iI_bI0, iI_bI1, bI_T, bI_F, f_X11_tapeHasText_l24b, e, t4, Option.getD_some, u1, wd]
              exact r1
            · rw [bI_f w] at wd
              by_cases x1 : (b i : Int) = 32
              · skip
                simp (disch := omega) only [reduceIte, Nat.reduceEqDiff, Nat.reduceAdd, Nat.reduceSub, Nat.reduceMul, Nat.reduceLT, Int.reduceNeg, Int.reduceAdd, Int.reduceSub, Int.reduceMul, Int.reduceLT, Int.reduceLE, Int.reduceEq, Int.reduceToNat, reduceCtorEq, and_self, and_true, true_and, false_and, and_false, or_false, false_or, or_true, true_or, true_implies, false_implies, implies_true, not_true_eq_false, not_false_eq_true, Int.toNat_natCast, Int.cast_ofNat_Int, eq_self, ne_eq, ite_true, ite_false, if_true, if_false, Int.add_sub_cancel, Int.sub_add_cancel, Int.add_zero, Int.zero_add, cast_s, iI_in, iI_lit, iI_le, iI_lt, iI_eq, iI_cl, iI_add, iI_sub, iI_mul, iI_neg, iI_nI, ok_s, ok_ck, ok_bn, ok_ob, ck_iI, bn_eq, ob_s, om_n, om_s, cb_bI, gI_g, gI_2, gJ_1, gJ_g, gJ_2, gR_1, gR_2, gR_g, within_v, in_v, bI_i0, bI_i1, iI_bI0, iI_bI1, bI_T, bI_F, f_X11_tapeHasText_l24b, e, t4, Option.getD_some, u1, wd, eq_true x1]
                exact r1
              · have x2 : (b i : Int) = 10 := by unfold isSg at q; omega
                simp (disch := omega) only [reduceIte, Nat.reduceEqDiff, Nat.reduceAdd, Nat.reduceSub, Nat.reduceMul, Nat.reduceLT, Int.reduceNeg, Int.reduceAdd, Int.reduceSub, Int.reduceMul, Int.reduceLT, Int.reduceLE, Int.reduceEq, Int.reduceToNat, reduceCtorEq, and_self, and_true, true_and, false_and, and_false, or_false, false_or, or_true, true_or, true_implies, false_implies, implies_true, not_true_eq_false, not_false_eq_true, Int.toNat_natCast, Int.cast_ofNat_Int, eq_self, ne_eq, ite_true, ite_false, if_true, if_false, Int.add_sub_cancel, Int.sub_add_cancel, Int.add_zero, Int.zero_add, cast_s, iI_in, iI_lit, iI_le, iI_lt, iI_eq, iI_cl, iI_add, iI_sub, iI_mul, iI_neg, iI_nI, ok_s, ok_ck, ok_bn, ok_ob, ck_iI, bn_eq, ob_s, om_n, om_s, cb_bI, gI_g, gI_2, gJ_1, gJ_g, gJ_2, gR_1, gR_2, gR_g, within_v, in_v, bI_i0, bI_i1, iI_bI0, iI_bI1, bI_T, bI_F, f_X11_tapeHasText_l24b, e, t4, Option.getD_some, u1, wd, x1, eq_true x2]
                exact r1
          · skip
            simp (disch := omega) only [reduceIte, Nat.reduceEqDiff, Nat.reduceAdd, Nat.reduceSub, Nat.reduceMul, Nat.reduceLT, Int.reduceNeg, Int.reduceAdd, Int.reduceSub, Int.reduceMul, Int.reduceLT, Int.reduceLE, Int.reduceEq, Int.reduceToNat, reduceCtorEq, and_self, and_true, true_and, false_and, and_false, or_false, false_or, or_true, true_or, true_implies, false_implies, implies_true, not_true_eq_false, not_false_eq_true, Int.toNat_natCast, Int.cast_ofNat_Int, eq_self, ne_eq, ite_true, ite_false, if_true, if_false, Int.add_sub_cancel, Int.sub_add_cancel, Int.add_zero, Int.zero_add, cast_s, iI_in, iI_lit, iI_le, iI_lt, iI_eq, iI_cl, iI_add, iI_sub, iI_mul, iI_neg, iI_nI, ok_s, ok_ck, ok_bn, ok_ob, ck_iI, bn_eq, ob_s, om_n, om_s, cb_bI, gI_g, gI_2, gJ_1, gJ_g, gJ_2, gR_1, gR_2, gR_g, within_v, in_v, bI_i0, bI_i1, iI_bI0, iI_bI1, bI_T, bI_F, f_X12_isText_l23b, e, u2, sm]
            exact r2
        · rw [bI_f q] at sm
          rw [@bI_f _ (clD _) (fun y => q (y.2.2.2 i (by omega)))]
          have w : ¬ isWd (b i : Int) := fun y => q (Or.inl y)
          have x1 : ¬ (b i : Int) = 32 := fun y => q (Or.inr (Or.inl y))
          have x2 : ¬ (b i : Int) = 10 := fun y => q (Or.inr (Or.inr y))
          rw [bI_f w] at wd
          constructor
          · skip
            simp (disch := omega) only [reduceIte, Nat.reduceEqDiff, Nat.reduceAdd, Nat.reduceSub, Nat.reduceMul, Nat.reduceLT, Int.reduceNeg, Int.reduceAdd, Int.reduceSub, Int.reduceMul, Int.reduceLT, Int.reduceLE, Int.reduceEq, Int.reduceToNat, reduceCtorEq, and_self, and_true, true_and, false_and, and_false, or_false, false_or, or_true, true_or, true_implies, false_implies, implies_true, not_true_eq_false, not_false_eq_true, Int.toNat_natCast, Int.cast_ofNat_Int, eq_self, ne_eq, ite_true, ite_false, if_true, if_false, Int.add_sub_cancel, Int.sub_add_cancel, Int.add_zero, Int.zero_add, cast_s, iI_in, iI_lit, iI_le, iI_lt, iI_eq, iI_cl, iI_add, iI_sub, iI_mul, iI_neg, iI_nI, ok_s, ok_ck, ok_bn, ok_ob, ck_iI, bn_eq, ob_s, om_n, om_s, cb_bI, gI_g, gI_2, gJ_1, gJ_g, gJ_2, gR_1, gR_2, gR_g, within_v, in_v, bI_i0, bI_i1, iI_bI0, iI_bI1, bI_T, bI_F, f_X11_tapeHasText_l24b, e, t4, Option.getD_some, u1, wd, x1, x2]
          · skip
            simp (disch := omega) only [reduceIte, Nat.reduceEqDiff, Nat.reduceAdd, Nat.reduceSub, Nat.reduceMul, Nat.reduceLT, Int.reduceNeg, Int.reduceAdd, Int.reduceSub, Int.reduceMul, Int.reduceLT, Int.reduceLE, Int.reduceEq, Int.reduceToNat, reduceCtorEq, and_self, and_true, true_and, false_and, and_false, or_false, false_or, or_true, true_or, true_implies, false_implies, implies_true, not_true_eq_false, not_false_eq_true, Int.toNat_natCast, Int.cast_ofNat_Int, eq_self, ne_eq, ite_true, ite_false, if_true, if_false, Int.add_sub_cancel, Int.sub_add_cancel, Int.add_zero, Int.zero_add, cast_s, iI_in, iI_lit, iI_le, iI_lt, iI_eq, iI_cl, iI_add, iI_sub, iI_mul, iI_neg, iI_nI, ok_s, ok_ck, ok_bn, ok_ob, ck_iI, bn_eq, ob_s, om_n, om_s, cb_bI, gI_g, gI_2, gJ_1, gJ_g, gJ_2, gR_1, gR_2, gR_g, within_v, in_v, bI_i0, bI_i1, iI_bI0, iI_bI1, bI_T, bI_F, f_X12_isText_l23b, e, u2, sm]
    obtain ⟨r1, r2⟩ := key a.toNat 0 (by omega) (fun j hj => absurd hj (Nat.not_lt_zero j)) F (by omega)
    have e1 : ¬ a < 1 := by omega
    have e2 : ¬ 160 < a := by omega
    constructor
    · skip
      simp (disch := omega) only [reduceIte, Nat.reduceEqDiff, Nat.reduceAdd, Nat.reduceSub, Nat.reduceMul, Nat.reduceLT, Int.reduceNeg, Int.reduceAdd, Int.reduceSub, Int.reduceMul, Int.reduceLT, Int.reduceLE, Int.reduceEq, Int.reduceToNat, reduceCtorEq, and_self, and_true, true_and, false_and, and_false, or_false, false_or, or_true, true_or, true_implies, false_implies, implies_true, not_true_eq_false, not_false_eq_true, Int.toNat_natCast, Int.cast_ofNat_Int, eq_self, ne_eq, ite_true, ite_false, if_true, if_false, Int.add_sub_cancel, Int.sub_add_cancel, Int.add_zero, Int.zero_add, cast_s, iI_in, iI_lit, iI_le, iI_lt, iI_eq, iI_cl, iI_add, iI_sub, iI_mul, iI_neg, iI_nI, ok_s, ok_ck, ok_bn, ok_ob, ck_iI, bn_eq, ob_s, om_n, om_s, cb_bI, gI_g, gI_2, gJ_1, gJ_g, gJ_2, gR_1, gR_2, gR_g, within_v, in_v, bI_i0, bI_i1, iI_bI0, iI_bI1, bI_T, bI_F, f_X11_tapeHasText, t2, e1, e2, c3]
      exact r1
    · have e3 : 1 ≤ a ∧ a ≤ 160 := ⟨c1, c2⟩
      simp (disch := omega) only [reduceIte, Nat.reduceEqDiff, Nat.reduceAdd, Nat.reduceSub, Nat.reduceMul, Nat.reduceLT, Int.reduceNeg, Int.reduceAdd, Int.reduceSub, Int.reduceMul, Int.reduceLT, Int.reduceLE, Int.reduceEq, Int.reduceToNat, reduceCtorEq, and_self, and_true, true_and, false_and, and_false, or_false, false_or, or_true, true_or, true_implies, false_implies, implies_true, not_true_eq_false, not_false_eq_true, Int.toNat_natCast, Int.cast_ofNat_Int, eq_self, ne_eq, ite_true, ite_false, if_true, if_false, Int.add_sub_cancel, Int.sub_add_cancel, Int.add_zero, Int.zero_add, cast_s, iI_in, iI_lit, iI_le, iI_lt, iI_eq, iI_cl, iI_add, iI_sub, iI_mul, iI_neg, iI_nI, ok_s, ok_ck, ok_bn, ok_ob, ck_iI, bn_eq, ob_s, om_n, om_s, cb_bI, gI_g, gI_2, gJ_1, gJ_g, gJ_2, gR_1, gR_2, gR_g, within_v, in_v, bI_i0, bI_i1, iI_bI0, iI_bI1, bI_T, bI_F, f_X12_isText, t3, e3, c3]
      exact r2
  · rw [@bI_f _ (clD _) (fun y => c ⟨y.1, y.2.1, y.2.2.1⟩)]
    constructor
    · by_cases e1 : a < 1
      · skip
        simp (disch := omega) only [reduceIte, Nat.reduceEqDiff, Nat.reduceAdd, Nat.reduceSub, Nat.reduceMul, Nat.reduceLT, Int.reduceNeg, Int.reduceAdd, Int.reduceSub, Int.reduceMul, Int.reduceLT, Int.reduceLE, Int.reduceEq, Int.reduceToNat, reduceCtorEq, and_self, and_true, true_and, false_and, and_false, or_false, false_or, or_true, true_or, true_implies, false_implies, implies_true, not_true_eq_false, not_false_eq_true, Int.toNat_natCast, Int.cast_ofNat_Int, eq_self, ne_eq, ite_true, ite_false, if_true, if_false, Int.add_sub_cancel, Int.sub_add_cancel, Int.add_zero, Int.zero_add, cast_s, iI_in, iI_lit, iI_le, iI_lt, iI_eq, iI_cl, iI_add, iI_sub, iI_mul, iI_neg, iI_nI, ok_s, ok_ck, ok_bn, ok_ob, ck_iI, bn_eq, ob_s, om_n, om_s, cb_bI, gI_g, gI_2, gJ_1, gJ_g, gJ_2, gR_1, gR_2, gR_g, within_v, in_v, bI_i0, bI_i1, iI_bI0, iI_bI1, bI_T, bI_F, f_X11_tapeHasText, e1]
      · by_cases e2 : 160 < a
        · skip
          simp (disch := omega) only [reduceIte, Nat.reduceEqDiff, Nat.reduceAdd, Nat.reduceSub, Nat.reduceMul, Nat.reduceLT, Int.reduceNeg, Int.reduceAdd, Int.reduceSub, Int.reduceMul, Int.reduceLT, Int.reduceLE, Int.reduceEq, Int.reduceToNat, reduceCtorEq, and_self, and_true, true_and, false_and, and_false, or_false, false_or, or_true, true_or, true_implies, false_implies, implies_true, not_true_eq_false, not_false_eq_true, Int.toNat_natCast, Int.cast_ofNat_Int, eq_self, ne_eq, ite_true, ite_false, if_true, if_false, Int.add_sub_cancel, Int.sub_add_cancel, Int.add_zero, Int.zero_add, cast_s, iI_in, iI_lit, iI_le, iI_lt, iI_eq, iI_cl, iI_add, iI_sub, iI_mul, iI_neg, iI_nI, ok_s, ok_ck, ok_bn, ok_ob, ck_iI, bn_eq, ob_s, om_n, om_s, cb_bI, gI_g, gI_2, gJ_1, gJ_g, gJ_2, gR_1, gR_2, gR_g, within_v, in_v, bI_i0, bI_i1, iI_bI0, iI_bI1, bI_T, bI_F, f_X11_tapeHasText, e1, e2]
        · have e3 : ¬ a ≤ z := by omega
          simp (disch := omega) only [reduceIte, Nat.reduceEqDiff, Nat.reduceAdd, Nat.reduceSub, Nat.reduceMul, Nat.reduceLT, Int.reduceNeg, Int.reduceAdd, Int.reduceSub, Int.reduceMul, Int.reduceLT, Int.reduceLE, Int.reduceEq, Int.reduceToNat, reduceCtorEq, and_self, and_true, true_and, false_and, and_false, or_false, false_or, or_true, true_or, true_implies, false_implies, implies_true, not_true_eq_false, not_false_eq_true, Int.toNat_natCast, Int.cast_ofNat_Int, eq_self, ne_eq, ite_true, ite_false, if_true, if_false, Int.add_sub_cancel, Int.sub_add_cancel, Int.add_zero, Int.zero_add, cast_s, iI_in, iI_lit, iI_le, iI_lt, iI_eq, iI_cl, iI_add, iI_sub, iI_mul, iI_neg, iI_nI, ok_s, ok_ck, ok_bn, ok_ob, ck_iI, bn_eq, ob_s, om_n, om_s, cb_bI, gI_g, gI_2, gJ_1, gJ_g, gJ_2, gR_1, gR_2, gR_g, within_v, in_v, bI_i0, bI_i1, iI_bI0, iI_bI1, bI_T, bI_F, f_X11_tapeHasText, e1, e2, t2, e3]
    · by_cases e1 : 1 ≤ a ∧ a ≤ 160
      · have e3 : ¬ a ≤ z := by omega
        simp (disch := omega) only [reduceIte, Nat.reduceEqDiff, Nat.reduceAdd, Nat.reduceSub, Nat.reduceMul, Nat.reduceLT, Int.reduceNeg, Int.reduceAdd, Int.reduceSub, Int.reduceMul, Int.reduceLT, Int.reduceLE, Int.reduceEq, Int.reduceToNat, reduceCtorEq, and_self, and_true, true_and, false_and, and_false, or_false, false_or, or_true, true_or, true_implies, false_implies, implies_true, not_true_eq_false, not_false_eq_true, Int.toNat_natCast, Int.cast_ofNat_Int, eq_self, ne_eq, ite_true, ite_false, if_true, if_false, Int.add_sub_cancel, Int.sub_add_cancel, Int.add_zero, Int.zero_add, cast_s, iI_in, iI_lit, iI_le, iI_lt, iI_eq, iI_cl, iI_add, iI_sub, iI_mul, iI_neg, iI_nI, ok_s, ok_ck, ok_bn, ok_ob, ck_iI, bn_eq, ob_s, om_n, om_s, cb_bI, gI_g, gI_2, gJ_1, gJ_g, gJ_2, gR_1, gR_2, gR_g, within_v, in_v, bI_i0, bI_i1, iI_bI0, iI_bI1, bI_T, bI_F, f_X12_isText, t3, e1, e3]
      · skip
        simp (disch := omega) only [reduceIte, Nat.reduceEqDiff, Nat.reduceAdd, Nat.reduceSub, Nat.reduceMul, Nat.reduceLT, Int.reduceNeg, Int.reduceAdd, Int.reduceSub, Int.reduceMul, Int.reduceLT, Int.reduceLE, Int.reduceEq, Int.reduceToNat, reduceCtorEq, and_self, and_true, true_and, false_and, and_false, or_false, false_or, or_true, true_or, true_implies, false_implies, implies_true, not_true_eq_false, not_false_eq_true, Int.toNat_natCast, Int.cast_ofNat_Int, eq_self, ne_eq, ite_true, ite_false, if_true, if_false, Int.add_sub_cancel, Int.sub_add_cancel, Int.add_zero, Int.zero_add, cast_s, iI_in, iI_lit, iI_le, iI_lt, iI_eq, iI_cl, iI_add, iI_sub, iI_mul, iI_neg, iI_nI, ok_s, ok_ck, ok_bn, ok_ob, ck_iI, bn_eq, ob_s, om_n, om_s, cb_bI, gI_g, gI_2, gJ_1, gJ_g, gJ_2, gR_1, gR_2, gR_g, within_v, in_v, bI_i0, bI_i1, iI_bI0, iI_bI1, bI_T, bI_F, f_X12_isText, e1]
end PR
