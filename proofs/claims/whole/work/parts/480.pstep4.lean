/-- a pattern that is read -/
def POK (G4 G28 : Grp) (v n p t0 S cnt rz q : Nat) : Prop :=
  G4.1 v 3 = iI S ∧ G4.1 v 9 = iI n ∧ G4.2.2 v 8 = some 1 ∧ MI G28 n p cnt rz 1 ∧ ar G28 119 0 = q ∧ q < cnt ∧ wfp (prt G28) cnt ∧ KDR (gph G4 v) t0 S ∧ (gph G4 v).1 t0 = 1 ∧ (S ≤ 2 * p ∧ cnt ≤ 2 * p ∧ t0 + 1 < S) ∧
  ∃ m rs t pk, alts (gph G4 v) m S t0 rs t pk (prt G28) cnt ∧ altq (prt G28) cnt q 0 m pk
section PR
variable {F v n p t0 : Nat} {G3 G27 G4 G28 : Grp} {b : Nat → Nat}
theorem finish {l : Lv} {S cnt rz c0 : Nat} {it rp : Int} (H : PS G4 G28 v n p t0 l [] S cnt rz it rp) (hn : n ≤ 200) (hf : lfu l = true) (hc0 : c0 ≤ cnt) (hF : 200000 ≤ F) : ∃ Gc q cnt', f_X12_closesRows F G28 (iI 0) = some Gc ∧ ar G4 (v + 8) 0 = t0 ∧ ltl l (lm l) < 408 ∧ POK (gI G4 (v + 2) (ltl l (lm l)) (iI t0)) Gc v n p t0 S cnt' rz q ∧ c0 ≤ cnt' ∧ FRC v t0 G4 (gI G4 (v + 2) (ltl l (lm l)) (iI t0)) ∧ FRM c0 G28 Gc := by
  obtain ⟨P1, P2, P3, P4, P5, P6, P7, P8, ⟨Q1, Q2, Q3, Q4, Q5, Q6⟩, P9, P10, P11⟩ := id H
  have hsd := sd_eq l []
  rw [if_pos hf] at hsd
  have hs0 : sd ([] : List Lv) = 0 := rfl
  have hsm : smr [l] = 0 + lm l := rfl
  have hln : ([] : List Lv).length = 0 := rfl
  rw [hln] at Q3
  obtain ⟨w1, w2, w3⟩ := lvl_lt P3.1
  have w0 := lvs_t P3
  rw [Q6] at w0
  have hge : lge l = t0 := by rw [← Q6]; rfl
  have tp := P3.2.1.1 rfl
  obtain ⟨y1, y2, y3, y4, y5, y6, y7, y8, y9⟩ := id P3.1
  have rt1 := y4.1
  have rt2 := y4.2.1
  obtain ⟨Gc, q, r1, r2, r3, r4, r5, r6, r7, r8, r9⟩ := closesRows_v (F := F) P2 (o := 0) (m := lm l) (base := 0) (pk := lpk l) (by omega) (P6.2.1) (by omega) (by omega) (by omega) (fun r hr => by
    by_cases c : r < lm l
    · exact P5.1 r c
    · rw [show r = lm l by omega]; exact P5.2.1 hf) (fun r hr => by
    by_cases c : r < lm l
    · exact (y3 r c).2.2
    · rw [show r = lm l by omega]; exact y6 hf) P4 hF
  have a8 : ar G4 (v + 8) 0 = t0 := by rw [← hge]; exact P7.2.1
  have k1 : ∀ y, (gph (gI G4 (v + 2) (ltl l (lm l)) (iI t0)) v).1 y = (gph G4 v).1 y := fun y => by
    show ar (gI G4 (v + 2) (ltl l (lm l)) (iI t0)) (v + 1) y = ar G4 (v + 1) y
    rw [ar_oth _ _ _ (by omega)]
  have k2 : ∀ y, (gph (gI G4 (v + 2) (ltl l (lm l)) (iI t0)) v).2.1 y = if y = ltl l (lm l) then (t0 : Int) else (gph G4 v).2.1 y := fun y => by
    show ar (gI G4 (v + 2) (ltl l (lm l)) (iI t0)) (v + 2) y = if y = ltl l (lm l) then (t0 : Int) else ar G4 (v + 2) y
    rw [ar_set _ _ _ (by omega) (by omega)]; rfl
  have k3 : ∀ y, (gph (gI G4 (v + 2) (ltl l (lm l)) (iI t0)) v).2.2 y = (gph G4 v).2.2 y := fun y => by
    show ar (gI G4 (v + 2) (ltl l (lm l)) (iI t0)) (v + 3) y = ar G4 (v + 3) y
    rw [ar_oth _ _ _ (by omega)]
  have f4 : ar (gI G4 (v + 2) (ltl l (lm l)) (iI t0)) (v + 4) = ar G4 (v + 4) := ar_oth _ _ _ (by omega)
  have s7 : (gI G4 (v + 2) (ltl l (lm l)) (iI t0)).1 v 7 = G4.1 v 7 := by rw [gI_g, if_neg (by omega)]
  have sv : ∀ k, (gI G4 (v + 2) (ltl l (lm l)) (iI t0)).1 v k = G4.1 v k := fun k => by rw [gI_g, if_neg (by omega)]
  have fo : OTR v G4 (gI G4 (v + 2) (ltl l (lm l)) (iI t0)) := OTR.set G4 _ (by omega) (by omega) (by omega) (by omega) (by omega)
  have r2' : (gI G4 (v + 2) (ltl l (lm l)) (iI t0)).2 = G4.2 := rfl
  generalize gI G4 (v + 2) (ltl l (lm l)) (iI t0) = G' at *
  have sm : ∀ e', e' ≤ lrs l (lm l) → sam (gph G4 v) (gph G' v) 0 e' := fun e' he y a1 a2 => ⟨(k1 y).symm, by rw [k2 y, if_neg (by omega)], (k3 y).symm⟩
  have rr := y4.re (g' := gph G' v) (N' := (t0 : Int)) (O' := -1) (fun z => by have := z.1; omega) (fun z => by have := z.1; omega) (fun y _ _ => k1 y) (fun y _ _ => k2 y) (fun y a1 a2 => by
    rw [k3 y]
    by_cases c : y = lrs l (lm l)
    · rw [if_pos c, c]; exact y4.2.2.2.2.2.1
    · rw [if_neg c])
  rw [hge] at y1 y2 y3 y7 y8 w1
  have al : alts (gph G' v) (lm l) S t0 (lrs l) (ltl l) (lpk l) (prt Gc) (cnt + lm l) := by
    refine ⟨y2, fun r hr => ?_, rr.1, ?_, by have := y6 hf; omega, ?_, ?_⟩
    · have := w3 r hr
      obtain ⟨a1, a2, a3⟩ := y3 r hr
      exact ⟨a1.to ((sm _ (by omega)).sub (Nat.zero_le _) (Nat.le_refl _)), a2.to ((sm _ (by omega)).sub (Nat.zero_le _) (Nat.le_refl _)).agr r3 (by omega), by omega⟩
    · have s := y5.to rr.2 r3 (show cnt ≤ cnt + lm l by omega)
      unfold cop at s
      rw [if_pos hf] at s
      exact s
    · rw [k2, if_neg (by omega)]; exact y7
    · rw [k3]; exact y8
  obtain ⟨h1, h2, h3, h4, h5, h6, h7, h8⟩ := P1
  refine ⟨Gc, q, cnt + lm l, r1, a8, by omega, ⟨by rw [sv]; exact h1, by rw [sv]; exact h2, by rw [r2']; exact h8, r2, r8, r5, r4, P8.to fun y _ => k1 y, by rw [k1, ← hge]; exact tp.2, by omega, lm l, lrs l, ltl l, lpk l, al, r6⟩, by omega, ⟨fo, s7, f4, sm _ (by omega)⟩, FRM.of r9 r3 hc0⟩
theorem refuse_v {S dp tl : Nat} {it rp : Int} (h : CI G4 v S n p dp tl it rp) (k : Int) : f_X7_refuse F G4 v (iI k) = some (iI 0, gI G4 v 11 (iI (1000 * k + p))) := by
  obtain ⟨h1, h2, h3, h4, h5, h6, h7, h8⟩ := h
  simp (disch := omega) only [reduceIte, Nat.reduceEqDiff, Nat.reduceAdd, Nat.reduceSub, Nat.reduceMul, Nat.reduceLT, Int.reduceNeg, Int.reduceAdd, Int.reduceSub, Int.reduceMul, Int.reduceLT, Int.reduceLE, Int.reduceEq, Int.reduceToNat, reduceCtorEq, and_self, and_true, true_and, false_and, and_false, or_false, false_or, or_true, true_or, true_implies, false_implies, implies_true, not_true_eq_false, not_false_eq_true, Int.toNat_natCast, Int.cast_ofNat_Int, eq_self, ne_eq, ite_true, ite_false, if_true, if_false, Int.add_sub_cancel, Int.sub_add_cancel, Int.add_zero, Int.zero_add, cast_s, iI_in, iI_lit, iI_le, iI_lt, iI_eq, iI_cl, iI_add, iI_sub, iI_mul, iI_neg, iI_nI, ok_s, ok_ck, ok_bn, ok_ob, ck_iI, bn_eq, ob_s, om_n, om_s, cb_bI, gI_g, gI_2, gJ_1, gJ_g, gJ_2, gR_1, gR_2, gR_g, within_v, in_v, bI_i0, bI_i1, iI_bI0, iI_bI1, bI_T, bI_F, f_X7_refuse, h3]
theorem cb0 {α : Type} (x : Option α) : cb (iI 0) x = x := cb_ok (Or.inl rfl)
/-- a sign that can't stand there -/
theorem bad_sign {S dp tl : Nat} {it rp : Int} (h : CI G4 v S n p dp tl it rp) (hd : dp < 7) (hi : -1 ≤ it ∧ it < 1000) {c : Nat} (hc : c < 256) (ha : ¬ isAt c) (h40 : c ≠ 40) (hb : it = -1 ∨ (c ≠ 124 ∧ (c ≠ 41 ∨ dp = 0) ∧ (¬ isRp c ∨ rp = 1))) : f_X7_takeSign F G4 v (iI (c : Int)) = some (iI 0, gI G4 v 11 (iI (1000 + p))) := by
  have ai := atom_is_c (F := F) (c := (c : Int)) (by omega) (by omega)
  have rv := refuse_v (F := F) h 1
  rw [show (1000 : Int) * 1 + p = 1000 + p by omega] at rv
  obtain ⟨h1, h2, h3, h4, h5, h6, h7, h8⟩ := id h
  have n40 : ¬ (c : Int) = 40 := by omega
  by_cases c1 : it = -1
  · skip
    simp (disch := omega) only [reduceIte, Nat.reduceEqDiff, Nat.reduceAdd, Nat.reduceSub, Nat.reduceMul, Nat.reduceLT, Int.reduceNeg, Int.reduceAdd, Int.reduceSub, Int.reduceMul, Int.reduceLT, Int.reduceLE, Int.reduceEq, Int.reduceToNat, reduceCtorEq, and_self, and_true, true_and, false_and, and_false, or_false, false_or, or_true, true_or, true_implies, false_implies, implies_true, not_true_eq_false, not_false_eq_true, Int.toNat_natCast, Int.cast_ofNat_Int, eq_self, ne_eq, ite_true, ite_false, if_true, if_false, Int.add_sub_cancel, Int.sub_add_cancel, Int.add_zero, Int.zero_add, cast_s, iI_in, iI_lit, iI_le, iI_lt, iI_eq, iI_cl, iI_add, iI_sub, iI_mul, iI_neg, iI_nI, ok_s, ok_ck, ok_bn, ok_ob, ck_iI, bn_eq, ob_s, om_n, om_s, cb_bI, gI_g, gI_2, gJ_1, gJ_g, gJ_2, gR_1, gR_2, gR_g, within_v, in_v, bI_i0, bI_i1, iI_bI0, iI_bI1, bI_T, bI_F, f_X7_takeSign, ai, ha, n40, h6, c1, rv, cb0]
  · obtain ⟨b1, b2, b3⟩ := hb.resolve_left c1
    have n124 : ¬ (c : Int) = 124 := by omega
    have b123 : f_X7_takeSign_b123 F G4 v = some (iI 0, gI G4 v 11 (iI (1000 + p))) := by
      simp (disch := omega) only [reduceIte, Nat.reduceEqDiff, Nat.reduceAdd, Nat.reduceSub, Nat.reduceMul, Nat.reduceLT, Int.reduceNeg, Int.reduceAdd, Int.reduceSub, Int.reduceMul, Int.reduceLT, Int.reduceLE, Int.reduceEq, Int.reduceToNat, reduceCtorEq, and_self, and_true, true_and, false_and, and_false, or_false, false_or, or_true, true_or, true_implies, false_implies, implies_true, not_true_eq_false, not_false_eq_true, Int.toNat_natCast, Int.cast_ofNat_Int, eq_self, ne_eq, ite_true, ite_false, if_true, if_false, Int.add_sub_cancel, Int.sub_add_cancel, Int.add_zero, Int.zero_add, cast_s, iI_in, iI_lit, iI_le, iI_lt, iI_eq, iI_cl, iI_add, iI_sub, iI_mul, iI_neg, iI_nI, ok_s, ok_ck, ok_bn, ok_ob, ck_iI, bn_eq, ob_s, om_n, om_s, cb_bI, gI_g, gI_2, gJ_1, gJ_g, gJ_2, gR_1, gR_2, gR_g, within_v, in_v, bI_i0, bI_i1, iI_bI0, iI_bI1, bI_T, bI_F, f_X7_takeSign_b123, rv, cb0]
    have b109 : isRp c → f_X7_takeSign_b109 F G4 v (iI (c : Int)) = some (iI 0, gI G4 v 11 (iI (1000 + p))) := fun z => by
      have e := b3.resolve_left (fun y => y z)
      subst e
      simp (disch := omega) only [reduceIte, Nat.reduceEqDiff, Nat.reduceAdd, Nat.reduceSub, Nat.reduceMul, Nat.reduceLT, Int.reduceNeg, Int.reduceAdd, Int.reduceSub, Int.reduceMul, Int.reduceLT, Int.reduceLE, Int.reduceEq, Int.reduceToNat, reduceCtorEq, and_self, and_true, true_and, false_and, and_false, or_false, false_or, or_true, true_or, true_implies, false_implies, implies_true, not_true_eq_false, not_false_eq_true, Int.toNat_natCast, Int.cast_ofNat_Int, eq_self, ne_eq, ite_true, ite_false, if_true, if_false, Int.add_sub_cancel, Int.sub_add_cancel, Int.add_zero, Int.zero_add, cast_s, iI_in, iI_lit, iI_le, iI_lt, iI_eq, iI_cl, iI_add, iI_sub, iI_mul, iI_neg, iI_nI, ok_s, ok_ck, ok_bn, ok_ob, ck_iI, bn_eq, ob_s, om_n, om_s, cb_bI, gI_g, gI_2, gJ_1, gJ_g, gJ_2, gR_1, gR_2, gR_g, within_v, in_v, bI_i0, bI_i1, iI_bI0, iI_bI1, bI_T, bI_F, f_X7_takeSign_b109, h7, b123]
    have b91 : f_X7_takeSign_b91 F G4 v (iI (c : Int)) = some (iI 0, gI G4 v 11 (iI (1000 + p))) := by
      by_cases q1 : (c : Int) = 42
      · have e := b109 (Or.inl (by omega))
        simp (disch := omega) only [reduceIte, Nat.reduceEqDiff, Nat.reduceAdd, Nat.reduceSub, Nat.reduceMul, Nat.reduceLT, Int.reduceNeg, Int.reduceAdd, Int.reduceSub, Int.reduceMul, Int.reduceLT, Int.reduceLE, Int.reduceEq, Int.reduceToNat, reduceCtorEq, and_self, and_true, true_and, false_and, and_false, or_false, false_or, or_true, true_or, true_implies, false_implies, implies_true, not_true_eq_false, not_false_eq_true, Int.toNat_natCast, Int.cast_ofNat_Int, eq_self, ne_eq, ite_true, ite_false, if_true, if_false, Int.add_sub_cancel, Int.sub_add_cancel, Int.add_zero, Int.zero_add, cast_s, iI_in, iI_lit, iI_le, iI_lt, iI_eq, iI_cl, iI_add, iI_sub, iI_mul, iI_neg, iI_nI, ok_s, ok_ck, ok_bn, ok_ob, ck_iI, bn_eq, ob_s, om_n, om_s, cb_bI, gI_g, gI_2, gJ_1, gJ_g, gJ_2, gR_1, gR_2, gR_g, within_v, in_v, bI_i0, bI_i1, iI_bI0, iI_bI1, bI_T, bI_F, f_X7_takeSign_b91, eq_true q1, e]
      · by_cases q2 : (c : Int) = 43
        · have e := b109 (Or.inr (Or.inl (by omega)))
          simp (disch := omega) only [reduceIte, Nat.reduceEqDiff, Nat.reduceAdd, Nat.reduceSub, Nat.reduceMul, Nat.reduceLT, Int.reduceNeg, Int.reduceAdd, Int.reduceSub, Int.reduceMul, Int.reduceLT, Int.reduceLE, Int.reduceEq, Int.reduceToNat, reduceCtorEq, and_self, and_true, true_and, false_and, and_false, or_false, false_or, or_true, true_or, true_implies, false_implies, implies_true, not_true_eq_false, not_false_eq_true, Int.toNat_natCast, Int.cast_ofNat_Int, eq_self, ne_eq, ite_true, ite_false, if_true, if_false, Int.add_sub_cancel, Int.sub_add_cancel, Int.add_zero, Int.zero_add, cast_s, iI_in, iI_lit, iI_le, iI_lt, iI_eq, iI_cl, iI_add, iI_sub, iI_mul, iI_neg, iI_nI, ok_s, ok_ck, ok_bn, ok_ob, ck_iI, bn_eq, ob_s, om_n, om_s, cb_bI, gI_g, gI_2, gJ_1, gJ_g, gJ_2, gR_1, gR_2, gR_g, within_v, in_v, bI_i0, bI_i1, iI_bI0, iI_bI1, bI_T, bI_F, f_X7_takeSign_b91, q1, eq_true q2, e]
        · by_cases q3 : (c : Int) = 63
          · have e := b109 (Or.inr (Or.inr (by omega)))
            simp (disch := omega) only [reduceIte, Nat.reduceEqDiff, Nat.reduceAdd, Nat.reduceSub, Nat.reduceMul, Nat.reduceLT, Int.reduceNeg, Int.reduceAdd, Int.reduceSub, Int.reduceMul, Int.reduceLT, Int.reduceLE, Int.reduceEq, Int.reduceToNat, reduceCtorEq, and_self, and_true, true_and, false_and, and_false, or_false, false_or, or_true, true_or, true_implies, false_implies, implies_true, not_true_eq_false, not_false_eq_true, Int.toNat_natCast, Int.cast_ofNat_Int, eq_self, ne_eq, ite_true, ite_false, if_true, if_false, Int.add_sub_cancel, Int.sub_add_cancel, Int.add_zero, Int.zero_add, cast_s, iI_in, iI_lit, iI_le, iI_lt, iI_eq, iI_cl, iI_add, iI_sub, iI_mul, iI_neg, iI_nI, ok_s, ok_ck, ok_bn, ok_ob, ck_iI, bn_eq, ob_s, om_n, om_s, cb_bI, gI_g, gI_2, gJ_1, gJ_g, gJ_2, gR_1, gR_2, gR_g, within_v, in_v, bI_i0, bI_i1, iI_bI0, iI_bI1, bI_T, bI_F, f_X7_takeSign_b91, q1, q2, eq_true q3, e]
          · skip
            simp (disch := omega) only [reduceIte, Nat.reduceEqDiff, Nat.reduceAdd, Nat.reduceSub, Nat.reduceMul, Nat.reduceLT, Int.reduceNeg, Int.reduceAdd, Int.reduceSub, Int.reduceMul, Int.reduceLT, Int.reduceLE, Int.reduceEq, Int.reduceToNat, reduceCtorEq, and_self, and_true, true_and, false_and, and_false, or_false, false_or, or_true, true_or, true_implies, false_implies, implies_true, not_true_eq_false, not_false_eq_true, Int.toNat_natCast, Int.cast_ofNat_Int, eq_self, ne_eq, ite_true, ite_false, if_true, if_false, Int.add_sub_cancel, Int.sub_add_cancel, Int.add_zero, Int.zero_add, cast_s, iI_in, iI_lit, iI_le, iI_lt, iI_eq, iI_cl, iI_add, iI_sub, iI_mul, iI_neg, iI_nI, ok_s, ok_ck, ok_bn, ok_ob, ck_iI, bn_eq, ob_s, om_n, om_s, cb_bI, gI_g, gI_2, gJ_1, gJ_g, gJ_2, gR_1, gR_2, gR_g, within_v, in_v, bI_i0, bI_i1, iI_bI0, iI_bI1, bI_T, bI_F, f_X7_takeSign_b91, q1, q2, q3, b123]
    by_cases q : (c : Int) = 41
    · have e : (dp : Int) ≤ 0 := by omega
      simp (disch := omega) only [reduceIte, Nat.reduceEqDiff, Nat.reduceAdd, Nat.reduceSub, Nat.reduceMul, Nat.reduceLT, Int.reduceNeg, Int.reduceAdd, Int.reduceSub, Int.reduceMul, Int.reduceLT, Int.reduceLE, Int.reduceEq, Int.reduceToNat, reduceCtorEq, and_self, and_true, true_and, false_and, and_false, or_false, false_or, or_true, true_or, true_implies, false_implies, implies_true, not_true_eq_false, not_false_eq_true, Int.toNat_natCast, Int.cast_ofNat_Int, eq_self, ne_eq, ite_true, ite_false, if_true, if_false, Int.add_sub_cancel, Int.sub_add_cancel, Int.add_zero, Int.zero_add, cast_s, iI_in, iI_lit, iI_le, iI_lt, iI_eq, iI_cl, iI_add, iI_sub, iI_mul, iI_neg, iI_nI, ok_s, ok_ck, ok_bn, ok_ob, ck_iI, bn_eq, ob_s, om_n, om_s, cb_bI, gI_g, gI_2, gJ_1, gJ_g, gJ_2, gR_1, gR_2, gR_g, within_v, in_v, bI_i0, bI_i1, iI_bI0, iI_bI1, bI_T, bI_F, f_X7_takeSign, ai, ha, n40, h4, h6, c1, n124, b91, eq_true q, e]
    · simp (disch := omega) only [reduceIte, Nat.reduceEqDiff, Nat.reduceAdd, Nat.reduceSub, Nat.reduceMul, Nat.reduceLT, Int.reduceNeg, Int.reduceAdd, Int.reduceSub, Int.reduceMul, Int.reduceLT, Int.reduceLE, Int.reduceEq, Int.reduceToNat, reduceCtorEq, and_self, and_true, true_and, false_and, and_false, or_false, false_or, or_true, true_or, true_implies, false_implies, implies_true, not_true_eq_false, not_false_eq_true, Int.toNat_natCast, Int.cast_ofNat_Int, eq_self, ne_eq, ite_true, ite_false, if_true, if_false, Int.add_sub_cancel, Int.sub_add_cancel, Int.add_zero, Int.zero_add, cast_s, iI_in, iI_lit, iI_le, iI_lt, iI_eq, iI_cl, iI_add, iI_sub, iI_mul, iI_neg, iI_nI, ok_s, ok_ck, ok_bn, ok_ob, ck_iI, bn_eq, ob_s, om_n, om_s, cb_bI, gI_g, gI_2, gJ_1, gJ_g, gJ_2, gR_1, gR_2, gR_g, within_v, in_v, bI_i0, bI_i1, iI_bI0, iI_bI1, bI_T, bI_F, f_X7_takeSign, ai, ha, n40, h4, h6, c1, n124, b91, q]
theorem bad_open {S dp tl : Nat} {it rp : Int} (h : CI G4 v S n p dp tl it rp) (hd : dp = 6) : f_X7_takeSign F G4 v (iI 40) = some (iI 0, gI G4 v 11 (iI (3000 + p))) := by
  have ai := atom_is_c (F := F) (c := 40) (by omega) (by omega)
  have na : ¬ isAt 40 := by unfold isAt isWd; omega
  have rv := refuse_v (F := F) h 3
  rw [show (1000 : Int) * 3 + p = 3000 + p by omega] at rv
  obtain ⟨h1, h2, h3, h4, h5, h6, h7, h8⟩ := id h
  have e : ¬ (dp : Int) < 6 := by omega
  simp (disch := omega) only [reduceIte, Nat.reduceEqDiff, Nat.reduceAdd, Nat.reduceSub, Nat.reduceMul, Nat.reduceLT, Int.reduceNeg, Int.reduceAdd, Int.reduceSub, Int.reduceMul, Int.reduceLT, Int.reduceLE, Int.reduceEq, Int.reduceToNat, reduceCtorEq, and_self, and_true, true_and, false_and, and_false, or_false, false_or, or_true, true_or, true_implies, false_implies, implies_true, not_true_eq_false, not_false_eq_true, Int.toNat_natCast, Int.cast_ofNat_Int, eq_self, ne_eq, ite_true, ite_false, if_true, if_false, Int.add_sub_cancel, Int.sub_add_cancel, Int.add_zero, Int.zero_add, cast_s, iI_in, iI_lit, iI_le, iI_lt, iI_eq, iI_cl, iI_add, iI_sub, iI_mul, iI_neg, iI_nI, ok_s, ok_ck, ok_bn, ok_ob, ck_iI, bn_eq, ob_s, om_n, om_s, cb_bI, gI_g, gI_2, gJ_1, gJ_g, gJ_2, gR_1, gR_2, gR_g, within_v, in_v, bI_i0, bI_i1, iI_bI0, iI_bI1, bI_T, bI_F, f_X7_takeSign, f_X7_openGroup, ai, na, h4, e, rv, cb0]
/-- the class's turn that ends in a fault -/
theorem turn_bad {S dp tl : Nat} {it rp : Int} {G' : Grp} (h : CI G4 v S n p dp tl it rp) (ht : TPE G3 G27 n b) (hd : dp < 7) (hi : -1 ≤ it ∧ it < 1000) (hp : p < n) (hc : ¬ (b p = 59 ∧ dp = 0 ∧ it ≠ -1)) (hT : f_X7_takeSign F G4 v (iI (b p)) = some (iI 0, G')) (fu : Nat) : f_X7_parsePattern_l4 F (fu + 1) G3 G4 v = some (iI 0, G') := by
  have sg := sign_c (F := F) h ht hp
  obtain ⟨h1, h2, h3, h4, h5, h6, h7, h8⟩ := id h
  have t1 := ht.1
  have hb := ht.2.2.2 p
  have e1 : ¬ (n : Int) ≤ p := by omega
  have b66 : f_X7_parsePattern_b66 F (f_X7_parsePattern_l4 F fu) G3 G4 v = some (iI 0, G') := by
    simp (disch := omega) only [reduceIte, Nat.reduceEqDiff, Nat.reduceAdd, Nat.reduceSub, Nat.reduceMul, Nat.reduceLT, Int.reduceNeg, Int.reduceAdd, Int.reduceSub, Int.reduceMul, Int.reduceLT, Int.reduceLE, Int.reduceEq, Int.reduceToNat, reduceCtorEq, and_self, and_true, true_and, false_and, and_false, or_false, false_or, or_true, true_or, true_implies, false_implies, implies_true, not_true_eq_false, not_false_eq_true, Int.toNat_natCast, Int.cast_ofNat_Int, eq_self, ne_eq, ite_true, ite_false, if_true, if_false, Int.add_sub_cancel, Int.sub_add_cancel, Int.add_zero, Int.zero_add, cast_s, iI_in, iI_lit, iI_le, iI_lt, iI_eq, iI_cl, iI_add, iI_sub, iI_mul, iI_neg, iI_nI, ok_s, ok_ck, ok_bn, ok_ob, ck_iI, bn_eq, ob_s, om_n, om_s, cb_bI, gI_g, gI_2, gJ_1, gJ_g, gJ_2, gR_1, gR_2, gR_g, within_v, in_v, bI_i0, bI_i1, iI_bI0, iI_bI1, bI_T, bI_F, f_X7_parsePattern_b66, sg, hT]
  show f_X7_parsePattern_l4b F (f_X7_parsePattern_l4 F fu) G3 G4 v = _
  by_cases q1 : (b p : Int) = 59
  · by_cases q2 : (dp : Int) = 0
    · have q3 : it = -1 := by
        by_cases q : it = -1
        · exact q
        · exact absurd ⟨by omega, by omega, q⟩ hc
      simp (disch := omega) only [reduceIte, Nat.reduceEqDiff, Nat.reduceAdd, Nat.reduceSub, Nat.reduceMul, Nat.reduceLT, Int.reduceNeg, Int.reduceAdd, Int.reduceSub, Int.reduceMul, Int.reduceLT, Int.reduceLE, Int.reduceEq, Int.reduceToNat, reduceCtorEq, and_self, and_true, true_and, false_and, and_false, or_false, false_or, or_true, true_or, true_implies, false_implies, implies_true, not_true_eq_false, not_false_eq_true, Int.toNat_natCast, Int.cast_ofNat_Int, eq_self, ne_eq, ite_true, ite_false, if_true, if_false, Int.add_sub_cancel, Int.sub_add_cancel, Int.add_zero, Int.zero_add, cast_s, iI_in, iI_lit, iI_le, iI_lt, iI_eq, iI_cl, iI_add, iI_sub, iI_mul, iI_neg, iI_nI, ok_s, ok_ck, ok_bn, ok_ob, ck_iI, bn_eq, ob_s, om_n, om_s, cb_bI, gI_g, gI_2, gJ_1, gJ_g, gJ_2, gR_1, gR_2, gR_g, within_v, in_v, bI_i0, bI_i1, iI_bI0, iI_bI1, bI_T, bI_F, f_X7_parsePattern_l4b, h2, h3, h4, h6, e1, sg, eq_true q1, eq_true q2, q3, b66]
    · skip
      simp (disch := omega) only [reduceIte, Nat.reduceEqDiff, Nat.reduceAdd, Nat.reduceSub, Nat.reduceMul, Nat.reduceLT, Int.reduceNeg, Int.reduceAdd, Int.reduceSub, Int.reduceMul, Int.reduceLT, Int.reduceLE, Int.reduceEq, Int.reduceToNat, reduceCtorEq, and_self, and_true, true_and, false_and, and_false, or_false, false_or, or_true, true_or, true_implies, false_implies, implies_true, not_true_eq_false, not_false_eq_true, Int.toNat_natCast, Int.cast_ofNat_Int, eq_self, ne_eq, ite_true, ite_false, if_true, if_false, Int.add_sub_cancel, Int.sub_add_cancel, Int.add_zero, Int.zero_add, cast_s, iI_in, iI_lit, iI_le, iI_lt, iI_eq, iI_cl, iI_add, iI_sub, iI_mul, iI_neg, iI_nI, ok_s, ok_ck, ok_bn, ok_ob, ck_iI, bn_eq, ob_s, om_n, om_s, cb_bI, gI_g, gI_2, gJ_1, gJ_g, gJ_2, gR_1, gR_2, gR_g, within_v, in_v, bI_i0, bI_i1, iI_bI0, iI_bI1, bI_T, bI_F, f_X7_parsePattern_l4b, h2, h3, h4, h6, e1, sg, eq_true q1, q2, b66]
  · skip
    simp (disch := omega) only [reduceIte, Nat.reduceEqDiff, Nat.reduceAdd, Nat.reduceSub, Nat.reduceMul, Nat.reduceLT, Int.reduceNeg, Int.reduceAdd, Int.reduceSub, Int.reduceMul, Int.reduceLT, Int.reduceLE, Int.reduceEq, Int.reduceToNat, reduceCtorEq, and_self, and_true, true_and, false_and, and_false, or_false, false_or, or_true, true_or, true_implies, false_implies, implies_true, not_true_eq_false, not_false_eq_true, Int.toNat_natCast, Int.cast_ofNat_Int, eq_self, ne_eq, ite_true, ite_false, if_true, if_false, Int.add_sub_cancel, Int.sub_add_cancel, Int.add_zero, Int.zero_add, cast_s, iI_in, iI_lit, iI_le, iI_lt, iI_eq, iI_cl, iI_add, iI_sub, iI_mul, iI_neg, iI_nI, ok_s, ok_ck, ok_bn, ok_ob, ck_iI, bn_eq, ob_s, om_n, om_s, cb_bI, gI_g, gI_2, gJ_1, gJ_g, gJ_2, gR_1, gR_2, gR_g, within_v, in_v, bI_i0, bI_i1, iI_bI0, iI_bI1, bI_T, bI_F, f_X7_parsePattern_l4b, h2, h3, e1, sg, q1, b66]
/-- the reference's turn behind a sign that is none of ( | ) and no atom -/
theorem b237_v {l : Lv} {rest : List Lv} {S cnt rz : Nat} {it rp : Int} (H : PS G4 G28 v n p t0 l rest S cnt rz it rp) (hn : n ≤ 200) {c : Nat} (hc : c < 256) : f_X12_readsPattern_b237 F G27 G28 (iI (rest.length : Int)) (iI (c : Int)) = if rest.length = 0 ∧ lfu l = true ∧ (n ≤ p ∨ c = 59) then f_X12_readsPattern_b273 F G27 G28 else some (iI 0, gI G28 91 23 (iI (1000 + p))) := by
  obtain ⟨P1, P2, P3, P4, P5, P6, P7, P8, ⟨Q1, Q2, Q3, Q4, Q5, Q6⟩, P9, P10, P11⟩ := id H
  have wv := wrong_m (F := F) P2 1
  rw [show (1000 : Int) * 1 + p = 1000 + p by omega] at wv
  have b267 : f_X12_readsPattern_b267 F G27 G28 = some (iI 0, gI G28 91 23 (iI (1000 + p))) := by
    simp (disch := omega) only [reduceIte, Nat.reduceEqDiff, Nat.reduceAdd, Nat.reduceSub, Nat.reduceMul, Nat.reduceLT, Int.reduceNeg, Int.reduceAdd, Int.reduceSub, Int.reduceMul, Int.reduceLT, Int.reduceLE, Int.reduceEq, Int.reduceToNat, reduceCtorEq, and_self, and_true, true_and, false_and, and_false, or_false, false_or, or_true, true_or, true_implies, false_implies, implies_true, not_true_eq_false, not_false_eq_true, Int.toNat_natCast, Int.cast_ofNat_Int, eq_self, ne_eq, ite_true, ite_false, if_true, if_false, Int.add_sub_cancel, Int.sub_add_cancel, Int.add_zero, Int.zero_add, cast_s, iI_in, iI_lit, iI_le, iI_lt, iI_eq, iI_cl, iI_add, iI_sub, iI_mul, iI_neg, iI_nI, ok_s, ok_ck, ok_bn, ok_ob, ck_iI, bn_eq, ob_s, om_n, om_s, cb_bI, gI_g, gI_2, gJ_1, gJ_g, gJ_2, gR_1, gR_2, gR_g, within_v, in_v, bI_i0, bI_i1, iI_bI0, iI_bI1, bI_T, bI_F, f_X12_readsPattern_b267, wv, cb0]
  obtain ⟨h1, h2, h3, h4, h5⟩ := id P2
  have it0 := iI_of P6.1
  by_cases r0 : rest.length = 0
  · have e1 : ¬ (0 : Int) < ((rest.length : Nat) : Int) := by omega
    rw [r0] at it0
    cases hf : lfu l with
    | false =>
      rw [hf, if_neg (by decide)] at it0
      rw [if_neg (fun z => by cases z.2.1)]
      simp (disch := omega) only [reduceIte, Nat.reduceEqDiff, Nat.reduceAdd, Nat.reduceSub, Nat.reduceMul, Nat.reduceLT, Int.reduceNeg, Int.reduceAdd, Int.reduceSub, Int.reduceMul, Int.reduceLT, Int.reduceLE, Int.reduceEq, Int.reduceToNat, reduceCtorEq, and_self, and_true, true_and, false_and, and_false, or_false, false_or, or_true, true_or, true_implies, false_implies, implies_true, not_true_eq_false, not_false_eq_true, Int.toNat_natCast, Int.cast_ofNat_Int, eq_self, ne_eq, ite_true, ite_false, if_true, if_false, Int.add_sub_cancel, Int.sub_add_cancel, Int.add_zero, Int.zero_add, cast_s, iI_in, iI_lit, iI_le, iI_lt, iI_eq, iI_cl, iI_add, iI_sub, iI_mul, iI_neg, iI_nI, ok_s, ok_ck, ok_bn, ok_ob, ck_iI, bn_eq, ob_s, om_n, om_s, cb_bI, gI_g, gI_2, gJ_1, gJ_g, gJ_2, gR_1, gR_2, gR_g, within_v, in_v, bI_i0, bI_i1, iI_bI0, iI_bI1, bI_T, bI_F, f_X12_readsPattern_b237, e1, it0, b267]
    | true =>
      rw [hf, if_pos rfl] at it0
      by_cases c1 : n ≤ p
      · rw [if_pos ⟨r0, rfl, Or.inl c1⟩]
        have c1' : (n : Int) ≤ p := by omega
        simp (disch := omega) only [reduceIte, Nat.reduceEqDiff, Nat.reduceAdd, Nat.reduceSub, Nat.reduceMul, Nat.reduceLT, Int.reduceNeg, Int.reduceAdd, Int.reduceSub, Int.reduceMul, Int.reduceLT, Int.reduceLE, Int.reduceEq, Int.reduceToNat, reduceCtorEq, and_self, and_true, true_and, false_and, and_false, or_false, false_or, or_true, true_or, true_implies, false_implies, implies_true, not_true_eq_false, not_false_eq_true, Int.toNat_natCast, Int.cast_ofNat_Int, eq_self, ne_eq, ite_true, ite_false, if_true, if_false, Int.add_sub_cancel, Int.sub_add_cancel, Int.add_zero, Int.zero_add, cast_s, iI_in, iI_lit, iI_le, iI_lt, iI_eq, iI_cl, iI_add, iI_sub, iI_mul, iI_neg, iI_nI, ok_s, ok_ck, ok_bn, ok_ob, ck_iI, bn_eq, ob_s, om_n, om_s, cb_bI, gI_g, gI_2, gJ_1, gJ_g, gJ_2, gR_1, gR_2, gR_g, within_v, in_v, bI_i0, bI_i1, iI_bI0, iI_bI1, bI_T, bI_F, f_X12_readsPattern_b237, e1, it0, h1, h2, c1']
      · have c1' : ¬ (n : Int) ≤ p := by omega
        by_cases c2 : c = 59
        · rw [if_pos ⟨r0, rfl, Or.inr c2⟩]
          have c2' : (c : Int) = 59 := by omega
          simp (disch := omega) only [reduceIte, Nat.reduceEqDiff, Nat.reduceAdd, Nat.reduceSub, Nat.reduceMul, Nat.reduceLT, Int.reduceNeg, Int.reduceAdd, Int.reduceSub, Int.reduceMul, Int.reduceLT, Int.reduceLE, Int.reduceEq, Int.reduceToNat, reduceCtorEq, and_self, and_true, true_and, false_and, and_false, or_false, false_or, or_true, true_or, true_implies, false_implies, implies_true, not_true_eq_false, not_false_eq_true, Int.toNat_natCast, Int.cast_ofNat_Int, eq_self, ne_eq, ite_true, ite_false, if_true, if_false, Int.add_sub_cancel, Int.sub_add_cancel, Int.add_zero, Int.zero_add, cast_s, iI_in, iI_lit, iI_le, iI_lt, iI_eq, iI_cl, iI_add, iI_sub, iI_mul, iI_neg, iI_nI, ok_s, ok_ck, ok_bn, ok_ob, ck_iI, bn_eq, ob_s, om_n, om_s, cb_bI, gI_g, gI_2, gJ_1, gJ_g, gJ_2, gR_1, gR_2, gR_g, within_v, in_v, bI_i0, bI_i1, iI_bI0, iI_bI1, bI_T, bI_F, f_X12_readsPattern_b237, e1, it0, h1, h2, c1', eq_true c2']
        · rw [if_neg (by omega)]
          have c2' : ¬ (c : Int) = 59 := by omega
          simp (disch := omega) only [reduceIte, Nat.reduceEqDiff, Nat.reduceAdd, Nat.reduceSub, Nat.reduceMul, Nat.reduceLT, Int.reduceNeg, Int.reduceAdd, Int.reduceSub, Int.reduceMul, Int.reduceLT, Int.reduceLE, Int.reduceEq, Int.reduceToNat, reduceCtorEq, and_self, and_true, true_and, false_and, and_false, or_false, false_or, or_true, true_or, true_implies, false_implies, implies_true, not_true_eq_false, not_false_eq_true, Int.toNat_natCast, Int.cast_ofNat_Int, eq_self, ne_eq, ite_true, ite_false, if_true, if_false, Int.add_sub_cancel, Int.sub_add_cancel, Int.add_zero, Int.zero_add, cast_s, iI_in, iI_lit, iI_le, iI_lt, iI_eq, iI_cl, iI_add, iI_sub, iI_mul, iI_neg, iI_nI, ok_s, ok_ck, ok_bn, ok_ob, ck_iI, bn_eq, ob_s, om_n, om_s, cb_bI, gI_g, gI_2, gJ_1, gJ_g, gJ_2, gR_1, gR_2, gR_g, within_v, in_v, bI_i0, bI_i1, iI_bI0, iI_bI1, bI_T, bI_F, f_X12_readsPattern_b237, e1, it0, h1, h2, c1', c2', b267]
  · rw [if_neg (fun z => r0 z.1)]
    have e1 : (0 : Int) < ((rest.length : Nat) : Int) := by omega
    simp (disch := omega) only [reduceIte, Nat.reduceEqDiff, Nat.reduceAdd, Nat.reduceSub, Nat.reduceMul, Nat.reduceLT, Int.reduceNeg, Int.reduceAdd, Int.reduceSub, Int.reduceMul, Int.reduceLT, Int.reduceLE, Int.reduceEq, Int.reduceToNat, reduceCtorEq, and_self, and_true, true_and, false_and, and_false, or_false, false_or, or_true, true_or, true_implies, false_implies, implies_true, not_true_eq_false, not_false_eq_true, Int.toNat_natCast, Int.cast_ofNat_Int, eq_self, ne_eq, ite_true, ite_false, if_true, if_false, Int.add_sub_cancel, Int.sub_add_cancel, Int.add_zero, Int.zero_add, cast_s, iI_in, iI_lit, iI_le, iI_lt, iI_eq, iI_cl, iI_add, iI_sub, iI_mul, iI_neg, iI_nI, ok_s, ok_ck, ok_bn, ok_ob, ck_iI, bn_eq, ob_s, om_n, om_s, cb_bI, gI_g, gI_2, gJ_1, gJ_g, gJ_2, gR_1, gR_2, gR_g, within_v, in_v, bI_i0, bI_i1, iI_bI0, iI_bI1, bI_T, bI_F, f_X12_readsPattern_b237, e1, b267]
end PR
