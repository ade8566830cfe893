def topLv (S : Nat) : Lv := ((S, S), 0, fun _ => S + 1, fun _ => S + 1, fun _ => 0, false)
section PR
variable {F v n p : Nat} {G3 G27 G4 G28 : Grp} {b : Nat → Nat}
theorem oP_ci2 {S sz : Nat} {rp : Int} {G : Grp} (h2 : G.1 v 9 = iI n) (h3 : G.1 v 10 = iI p) (h7 : G.1 v 15 = iI rp) (h8 : G.2.2 v 8 = some 1) : CI (oP G v S sz) v (S + 2) n p 0 (S + 1) (-1) rp ∧ (oP G v S sz).1 v 7 = iI ((sz + 1 : Nat) : Int) := by
  unfold CI oP
  simp (disch := omega) only [reduceIte, Nat.reduceEqDiff, Nat.reduceAdd, Nat.reduceSub, Nat.reduceMul, Nat.reduceLT, Int.reduceNeg, Int.reduceAdd, Int.reduceSub, Int.reduceMul, Int.reduceLT, Int.reduceLE, Int.reduceEq, Int.reduceToNat, reduceCtorEq, and_self, and_true, true_and, false_and, and_false, or_false, false_or, or_true, true_or, true_implies, false_implies, implies_true, not_true_eq_false, not_false_eq_true, Int.toNat_natCast, Int.cast_ofNat_Int, eq_self, ne_eq, ite_true, ite_false, if_true, if_false, Int.add_sub_cancel, Int.sub_add_cancel, Int.add_zero, Int.zero_add, cast_s, iI_in, iI_lit, iI_le, iI_lt, iI_eq, iI_cl, iI_add, iI_sub, iI_mul, iI_neg, iI_nI, ok_s, ok_ck, ok_bn, ok_ob, ck_iI, bn_eq, ob_s, om_n, om_s, cb_bI, gI_g, gI_2, gJ_1, gJ_g, gJ_2, gR_1, gR_2, gR_g, within_v, in_v, bI_i0, bI_i1, iI_bI0, iI_bI1, bI_T, bI_F, aS_3, aS_o, aS_r, oR_3, oR_13, oR_14, oR_o, oR_r, va1, va2, va3, h2, h3, h7, h8]
/-- behind its head: a pattern in both -/
theorem pat_both {S cnt r : Nat} (ht : TPE G3 G27 n b) (hF : 200000 ≤ F) (h3 : G4.1 v 3 = iI S) (h7 : G4.1 v 7 = iI r) (h9 : G4.1 v 9 = iI n) (h10 : G4.1 v 10 = iI p) (h8 : G4.2.2 v 8 = some 1) (m1 : G28.1 91 22 = iI n) (m2 : G28.1 91 21 = iI p) (m3 : G28.1 91 39 = iI cnt) (m4 : G28.1 91 40 = iI r) (hw : wfp (prt G28) cnt) (hr : r < 12) (hb : S + 2 ≤ 2 * p ∧ cnt ≤ 2 * p ∧ p ≤ n) :
    ∃ Go G2, OTR v G4 Go ∧ Go.1 v 7 = iI ((r + 1 : Nat) : Int) ∧ ar Go (v + 4) = up (ar G4 (v + 4)) r ((S : Int) + 1) ∧ sam (gph G4 v) (gph Go v) 0 S ∧ FRM cnt G28 G2 ∧ RES v n S r cnt b Go G2 (f_X7_parsePattern F G3 G4 v) (f_X12_readsPattern F G27 G28) := by
  obtain ⟨T1, T2, T3, T4⟩ := id ht
  obtain ⟨rp, q15, _, _⟩ := iI_ex (G4.1 v 15)
  obtain ⟨c1, c2⟩ := oP_ci2 (S := S) (sz := r) h9 h10 q15 h8
  have ov := openPattern_v (F := F) h3 (by omega) h7 hr
  have fo := oP_o G4 v S r
  have e1 := oP_1 G4 v S r
  have e2 := oP_2 G4 v S r
  have e3 := oP_3 G4 v S r
  have e4 := oP_4 G4 v S r (by omega)
  have e8 := oP_8 G4 v S r (by omega)
  have e9 := oP_9 G4 v S r (by omega)
  generalize hG : oP G4 v S r = Go at *
  have x0 : (gph Go v).1 S = 1 := by
    show ar Go (v + 1) S = 1
    rw [e1, up_f _ _ (by omega), up_t]
  have x1 : (gph Go v).1 (S + 1) = 0 := by
    show ar Go (v + 1) (S + 1) = 0
    rw [e1, up_t]
  have x2 : (gph Go v).2.1 S = -1 := by
    show ar Go (v + 2) S = -1
    rw [e2, up_f _ _ (by omega), up_t]
  have x3 : (gph Go v).2.1 (S + 1) = -1 := by
    show ar Go (v + 2) (S + 1) = -1
    rw [e2, up_t]
  have x4 : (gph Go v).2.2 S = -1 := by
    show ar Go (v + 3) S = -1
    rw [e3, up_f _ _ (by omega), up_t]
  have x5 : (gph Go v).2.2 (S + 1) = -1 := by
    show ar Go (v + 3) (S + 1) = -1
    rw [e3, up_t]
  have sm : sam (gph G4 v) (gph Go v) 0 S := fun y _ hy => ⟨by show ar G4 (v + 1) y = ar Go (v + 1) y; rw [e1, up_f _ _ (by omega), up_f _ _ (by omega)], by show ar G4 (v + 2) y = ar Go (v + 2) y; rw [e2, up_f _ _ (by omega), up_f _ _ (by omega)], by show ar G4 (v + 3) y = ar Go (v + 3) y; rw [e3, up_f _ _ (by omega), up_f _ _ (by omega)]⟩
  have f120 : ar (gI (gI (gI G28 91 41 (iI 0)) 120 0 (iI 0)) 121 0 (iI 0)) 120 = up (ar G28 120) 0 0 := by
    rw [ar_oth _ _ _ (by omega), ar_set _ _ _ (by omega) (by omega), ar_oth _ _ _ (by omega)]
  have f121 : ar (gI (gI (gI G28 91 41 (iI 0)) 120 0 (iI 0)) 121 0 (iI 0)) 121 = up (ar G28 121) 0 0 := by
    rw [ar_set _ _ _ (by omega) (by omega), ar_oth _ _ _ (by omega), ar_oth _ _ _ (by omega)]
  have sd0 : sd [topLv S] = 0 := rfl
  have sm0 : smr [topLv S] = 0 := rfl
  have ps : PS Go (gI (gI (gI G28 91 41 (iI 0)) 120 0 (iI 0)) 121 0 (iI 0)) v n p S (topLv S) [] (S + 2) cnt r (-1) rp := by
    refine ⟨c1, ?_, ⟨⟨Nat.le_refl _, rfl, fun r hr => absurd hr (Nat.not_lt_zero r), row_none x1 x3 x5, sem_none x3 x5, fun z => (by cases z), x2, x4, fun _ => rfl⟩, ⟨fun _ => ⟨rfl, x0⟩, fun z => absurd z (Nat.lt_irrefl _)⟩, trivial⟩, hw, ⟨fun r hr => absurd hr (Nat.not_lt_zero r), fun z => (by cases z), trivial⟩, ?_, ?_, ?_, ⟨by show 0 ≤ 6; omega, hb.2.2, by show S + 2 ≤ 2 * p + 0; omega, by rw [sm0]; omega, by rw [sd0]; omega, rfl⟩, ⟨fun _ => rfl, fun _ => rfl⟩, by omega, by omega⟩
    · rw [sd0]
      unfold MI
      simp (disch := omega) only [reduceIte, Nat.reduceEqDiff, Nat.reduceAdd, Nat.reduceSub, Nat.reduceMul, Nat.reduceLT, Int.reduceNeg, Int.reduceAdd, Int.reduceSub, Int.reduceMul, Int.reduceLT, Int.reduceLE, Int.reduceEq, Int.reduceToNat, reduceCtorEq, and_self, and_true, true_and, false_and, and_false, or_false, false_or, or_true, true_or, true_implies, false_implies, implies_true, not_true_eq_false, not_false_eq_true, Int.toNat_natCast, Int.cast_ofNat_Int, eq_self, ne_eq, ite_true, ite_false, if_true, if_false, Int.add_sub_cancel, Int.sub_add_cancel, Int.add_zero, Int.zero_add, cast_s, iI_in, iI_lit, iI_le, iI_lt, iI_eq, iI_cl, iI_add, iI_sub, iI_mul, iI_neg, iI_nI, ok_s, ok_ck, ok_bn, ok_ob, ck_iI, bn_eq, ob_s, om_n, om_s, cb_bI, gI_g, gI_2, gJ_1, gJ_g, gJ_2, gR_1, gR_2, gR_g, within_v, in_v, bI_i0, bI_i1, iI_bI0, iI_bI1, bI_T, bI_F, m1, m2, m3, m4]
    · rw [f120, f121]
      exact ⟨up_t _ _ _, up_t _ _ _, trivial⟩
    · rw [e8, e9]
      exact ⟨fun z => absurd z (Nat.lt_irrefl _), up_t _ _ _, up_t _ _ _, trivial⟩
    · intro y z1 z2
      rw [show y = S + 1 by omega, x1]; omega
  have pl := pat_loop ht hF (c0 := cnt) (n - p) p rfl F F (by omega) (by omega) Go _ (topLv S) [] (S + 2) cnt (-1) rp ps (fun z => by cases z) (Nat.le_refl _)
  refine ⟨Go, gI (gI (gI G28 91 41 (iI 0)) 120 0 (iI 0)) 121 0 (iI 0), fo, c2, e4, sm, ?_, ?_⟩
  · exact ⟨rfl, fun x k hx => by rw [gI_g, if_neg (by omega), gI_g, if_neg (by omega), gI_g, if_neg (by omega)], agp_rf _ _⟩
  · have q1 : f_X7_parsePattern F G3 G4 v = f_X7_parsePattern_l4 F F G3 Go v := by
      simp (disch := omega) only [reduceIte, Nat.reduceEqDiff, Nat.reduceAdd, Nat.reduceSub, Nat.reduceMul, Nat.reduceLT, Int.reduceNeg, Int.reduceAdd, Int.reduceSub, Int.reduceMul, Int.reduceLT, Int.reduceLE, Int.reduceEq, Int.reduceToNat, reduceCtorEq, and_self, and_true, true_and, false_and, and_false, or_false, false_or, or_true, true_or, true_implies, false_implies, implies_true, not_true_eq_false, not_false_eq_true, Int.toNat_natCast, Int.cast_ofNat_Int, eq_self, ne_eq, ite_true, ite_false, if_true, if_false, Int.add_sub_cancel, Int.sub_add_cancel, Int.add_zero, Int.zero_add, cast_s, iI_in, iI_lit, iI_le, iI_lt, iI_eq, iI_cl, iI_add, iI_sub, iI_mul, iI_neg, iI_nI, ok_s, ok_ck, ok_bn, ok_ob, ck_iI, bn_eq, ob_s, om_n, om_s, cb_bI, gI_g, gI_2, gJ_1, gJ_g, gJ_2, gR_1, gR_2, gR_g, within_v, in_v, bI_i0, bI_i1, iI_bI0, iI_bI1, bI_T, bI_F, f_X7_parsePattern, ov]
    have q2 : f_X12_readsPattern F G27 G28 = f_X12_readsPattern_l21 F F G27 (gI (gI (gI G28 91 41 (iI 0)) 120 0 (iI 0)) 121 0 (iI 0)) (iI ((([] : List Lv).length : Nat) : Int)) := rfl
    rw [q1, q2]
    exact pl
end PR
