section PR
variable {F v n p t0 : Nat} {G3 G27 G4 G28 : Grp} {b : Nat → Nat}
/-- ) -/
theorem close_step {l0 l : Lv} {rest : List Lv} {S cnt rz c0 : Nat} {it rp : Int} (H : PS G4 G28 v n p t0 l0 (l :: rest) S cnt rz it rp) (ht : TPE G3 G27 n b) (hp : p < n) (hc : b p = 41) (hf : lfu l0 = true) (hc0 : c0 ≤ cnt) (hF : 200000 ≤ F) : ∃ G4' Gc q cnt', (∀ fu, f_X7_parsePattern_l4 F (fu + 1) G3 G4 v = f_X7_parsePattern_l4 F fu G3 G4' v) ∧ f_X12_closesRows F G28 (iI ((rest.length + 1 : Nat) : Int)) = some Gc ∧ Gc.1 91 21 = iI p ∧ PEND G4' (gI Gc 91 21 (iI ((p : Int) + 1))) v n (p + 1) t0 l rest (lgs l0) (lge l0) q S cnt' rz ∧ c0 ≤ cnt' ∧ FRC v t0 G4 G4' ∧ FRM c0 G28 (gI Gc 91 21 (iI ((p : Int) + 1))) := by
  obtain ⟨P1, P2, P3, P4, P5, P6, P7, P8, ⟨Q1, Q2, Q3, Q4, Q5, Q6⟩, P9, P10, P11⟩ := id H
  obtain ⟨T1, T2, T3, T4⟩ := id ht
  have hsd := sd_eq l0 (l :: rest)
  rw [if_pos hf] at hsd
  have hsm : smr (l0 :: l :: rest) = smr (l :: rest) + lm l0 := rfl
  have hln : (l :: rest).length = rest.length + 1 := rfl
  rw [hln] at Q1 Q3
  obtain ⟨w1, w2, w3⟩ := lvl_lt P3.1
  obtain ⟨z1, z2, z3⟩ := lvl_lt P3.2.2.1
  have w0 := lvs_t P3.2.2
  have ht0 : tge (l :: rest) = t0 := by rw [← Q6]; rfl
  rw [ht0] at w0
  have gr := P3.2.1.2 (by rw [hln]; omega)
  obtain ⟨g1, g2, g3, g4, g5⟩ := gr
  obtain ⟨y1, y2, y3, y4, y5, y6, y7, y8, y9⟩ := id P3.1
  have rt1 := y4.1
  have rt2 := y4.2.1
  have hit : ¬ it = -1 := fun z => by have := P9.mp z; rw [hf] at this; cases this
  have cv := closeGroup_v (F := F) P1 (by rw [hln]; omega) (by omega) P7.2.1 (P7.1 (by rw [hln]; omega))
  have hT : f_X7_takeSign F G4 v (iI (b p)) = some (iI 1, gC' G4 v (l :: rest).length (ltl l0 (lm l0)) (lge l0) (lgs l0)) := by
    obtain ⟨h1, h2, h3, h4, h5, h6, h7, h8⟩ := id P1
    have ai := atom_is_c (F := F) (c := 41) (by omega) (by omega)
    have na : ¬ isAt 41 := by unfold isAt isWd; omega
    have hc' : (b p : Int) = 41 := by omega
    have hd : ¬ ((l :: rest).length : Int) ≤ 0 := by rw [hln]; omega
    rw [hc']
    simp (disch := omega) only [reduceIte, Nat.reduceEqDiff, Nat.reduceAdd, Nat.reduceSub, Nat.reduceMul, Nat.reduceLT, Int.reduceNeg, Int.reduceAdd, Int.reduceSub, Int.reduceMul, Int.reduceLT, Int.reduceLE, Int.reduceEq, Int.reduceToNat, reduceCtorEq, and_self, and_true, true_and, false_and, and_false, or_false, false_or, or_true, true_or, true_implies, false_implies, implies_true, not_true_eq_false, not_false_eq_true, Int.toNat_natCast, Int.cast_ofNat_Int, eq_self, ne_eq, ite_true, ite_false, if_true, if_false, Int.add_sub_cancel, Int.sub_add_cancel, Int.add_zero, Int.zero_add, cast_s, iI_in, iI_lit, iI_le, iI_lt, iI_eq, iI_cl, iI_add, iI_sub, iI_mul, iI_neg, iI_nI, ok_s, ok_ck, ok_bn, ok_ob, ck_iI, bn_eq, ob_s, om_n, om_s, cb_bI, gI_g, gI_2, gJ_1, gJ_g, gJ_2, gR_1, gR_2, gR_g, within_v, in_v, bI_i0, bI_i1, iI_bI0, iI_bI1, bI_T, bI_F, f_X7_takeSign, ai, na, h4, h6, hit, hd, cv]
  have P1' : CI G4 v S n p (rest.length + 1) (ltl l0 (lm l0)) it rp := P1
  have ci2 := gC_ci P1' (lge l0) (lgs l0)
  rw [hln] at hT
  have turn := turn_c (F := F) P1 ht hp (by omega) hT ci2.2.2.1
  have fo := gC_o G4 v (rest.length + 1) (ltl l0 (lm l0)) (lge l0) (lgs l0)
  have e2 := gC_2 G4 v (rest.length + 1) (ltl l0 (lm l0)) (lge l0) (lgs l0) (by omega)
  have ea := fun y (hy : y ≠ v ∧ y ≠ v + 2) => gC_a G4 v (rest.length + 1) (ltl l0 (lm l0)) (lge l0) (lgs l0) (x := y) hy
  generalize hG : gC' G4 v (rest.length + 1) (ltl l0 (lm l0)) (lge l0) (lgs l0) = G' at *
  have k1 : ∀ y, (gph G' v).1 y = (gph G4 v).1 y := fun y => by
    show ar G' (v + 1) y = ar G4 (v + 1) y
    rw [ea _ (by omega)]
  have k2 : ∀ y, (gph G' v).2.1 y = if y = ltl l0 (lm l0) then (lge l0 : Int) else (gph G4 v).2.1 y := fun y => by
    show ar G' (v + 2) y = if y = ltl l0 (lm l0) then (lge l0 : Int) else ar G4 (v + 2) y
    rw [e2]; rfl
  have k3 : ∀ y, (gph G' v).2.2 y = (gph G4 v).2.2 y := fun y => by
    show ar G' (v + 3) y = ar G4 (v + 3) y
    rw [ea _ (by omega)]
  have sm : ∀ e', e' ≤ lrs l0 (lm l0) → sam (gph G4 v) (gph G' v) 0 e' := fun e' he y a1 a2 => ⟨(k1 y).symm, by rw [k2 y, if_neg (by omega)], (k3 y).symm⟩
  -- the reference
  obtain ⟨Gc, q, r1, r2, r3, r4, r5, r6, r7, r8, r9⟩ := closesRows_v (F := F) P2 (o := rest.length + 1) (m := lm l0) (base := sd (l :: rest)) (pk := lpk l0) (by omega) (P6.2.1) (by omega) (by omega) (by omega) (fun r hr => by
    by_cases c : r < lm l0
    · exact P5.1 r c
    · rw [show r = lm l0 by omega]; exact P5.2.1 hf) (fun r hr => by
    by_cases c : r < lm l0
    · exact (y3 r c).2.2
    · rw [show r = lm l0 by omega]; exact y6 hf) P4 hF
  have al : alts (gph G' v) (lm l0) S (lgs l0 + 1) (lrs l0) (ltl l0) (lpk l0) (prt Gc) (cnt + lm l0) := by
    rw [g1] at y2 y3 y7 y8 k2
    refine ⟨y2, fun r hr => ?_, ?_, ?_, by have := y6 hf; omega, ?_, ?_⟩
    · have := w3 r hr
      obtain ⟨a1, a2, a3⟩ := y3 r hr
      exact ⟨a1.to ((sm _ (by omega)).sub (Nat.zero_le _) (Nat.le_refl _)), a2.to ((sm _ (by omega)).sub (Nat.zero_le _) (Nat.le_refl _)).agr r3 (by omega), by omega⟩
    · exact (y4.re (g' := gph G' v) (N' := ((lgs l0 + 1 : Nat) : Int)) (O' := -1) (fun z => by have := z.1; omega) (fun z => by have := z.1; omega) (fun y _ _ => k1 y) (fun y _ _ => k2 y) (fun y a1 a2 => by
        rw [k3 y]
        by_cases c : y = lrs l0 (lm l0)
        · rw [if_pos c, c]; exact y4.2.2.2.2.2.1
        · rw [if_neg c])).1
    · have r := (y4.re (g' := gph G' v) (N' := ((lgs l0 + 1 : Nat) : Int)) (O' := -1) (fun z => by have := z.1; omega) (fun z => by have := z.1; omega) (fun y _ _ => k1 y) (fun y _ _ => k2 y) (fun y a1 a2 => by
        rw [k3 y]
        by_cases c : y = lrs l0 (lm l0)
        · rw [if_pos c, c]; exact y4.2.2.2.2.2.1
        · rw [if_neg c])).2
      have s := y5.to r r3 (show cnt ≤ cnt + lm l0 by omega)
      unfold cop at s
      rw [if_pos hf] at s
      exact s
    · rw [k2, if_neg (by omega)]; exact y7
    · rw [k3]; exact y8
  obtain ⟨i1, i2, i3⟩ := item_group al r4 r6 (by rw [k1]; exact g2) (by rw [k2, if_neg (by omega)]; exact g3) (by rw [k3]; exact g4) (by rw [k1, ← g1]; exact g5)
  rw [← g1] at i1 i2 i3
  have c21 : Gc.1 91 21 = iI p := r2.2.1
  have fp : prt (gI Gc 91 21 (iI ((p : Int) + 1))) = prt Gc := rfl
  refine ⟨gI G' v 10 (iI ((p : Int) + 1)), Gc, q, cnt + lm l0, turn, r1, c21, ⟨ci2.step, ?_, ?_, ?_, ?_, ?_, r5, r4, ?_, ?_, ?_, ?_, ?_, by omega, by omega, by omega, ?_, by omega, ht0⟩, by omega, ?_, ?_⟩
  · obtain ⟨h1, h2, h3, h4, h5⟩ := r2
    unfold MI
    simp (disch := omega) only [reduceIte, Nat.reduceEqDiff, Nat.reduceAdd, Nat.reduceSub, Nat.reduceMul, Nat.reduceLT, Int.reduceNeg, Int.reduceAdd, Int.reduceSub, Int.reduceMul, Int.reduceLT, Int.reduceLE, Int.reduceEq, Int.reduceToNat, reduceCtorEq, and_self, and_true, true_and, false_and, and_false, or_false, false_or, or_true, true_or, true_implies, false_implies, implies_true, not_true_eq_false, not_false_eq_true, Int.toNat_natCast, Int.cast_ofNat_Int, eq_self, ne_eq, ite_true, ite_false, if_true, if_false, Int.add_sub_cancel, Int.sub_add_cancel, Int.add_zero, Int.zero_add, cast_s, iI_in, iI_lit, iI_le, iI_lt, iI_eq, iI_cl, iI_add, iI_sub, iI_mul, iI_neg, iI_nI, ok_s, ok_ck, ok_bn, ok_ob, ck_iI, bn_eq, ob_s, om_n, om_s, cb_bI, gI_g, gI_2, gJ_1, gJ_g, gJ_2, gR_1, gR_2, gR_g, within_v, in_v, bI_i0, bI_i1, iI_bI0, iI_bI1, bI_T, bI_F, h1, h3, h4, h5]
  · rw [step_gph, fp]
    exact P3.2.2.to r3 (by omega) (sm _ (by omega))
  · rw [step_gph]; exact i1
  · rw [step_gph]; exact i2
  · rw [step_gph, fp]; exact i3
  · rw [ar_oth _ _ _ (by omega)]
    exact P5.2.2.to fun j hj => r7 j hj
  · rw [ar_oth _ _ _ (by omega)]; exact r8
  · rw [ar_oth _ _ _ (by omega), ar_oth _ _ _ (by omega), ar_ext (c := 120) (fun j => r9.2 120 j (by omega)), ar_ext (c := 121) (fun j => r9.2 121 j (by omega))]
    exact P6.2.2
  · rw [ar_oth _ _ _ (by omega), ar_oth _ _ _ (by omega), ar_oth _ _ _ (by omega), ea _ (by omega), ea _ (by omega), ea _ (by omega)]; exact P7.2.2.2
  · rw [step_gph]; exact P8.to fun y _ => k1 y
  · split <;> omega
  · refine FRC.tr ⟨fo.1, fo.2, ea _ (by omega), sm _ (by omega)⟩ (step_FRC _ _)
  · refine (FRM.of r9 r3 hc0).tr ⟨rfl, fun y j hy => by rw [gI_g, if_neg (by omega)], agp_rf _ _⟩
theorem sem_none {g : Gr} {S : Nat} {P : Pr} {cnt : Nat} (h1 : g.2.1 S = -1) (h2 : g.2.2 S = -1) : sem g S (S + 1) S none P cnt := by
  intro n tk bd E ht he i j
  constructor
  · intro z
    rcases rch_cs z with q | ⟨d, q, _⟩
    · exact (Prod.mk.inj q).2
    · obtain ⟨_, _, _, q4⟩ := q
      rcases q4 with ⟨y1, _⟩ | ⟨_, y2⟩
      · have y1 : g.2.1 S = (d.1 : Int) := y1
        rw [h1] at y1; omega
      · have y2 : g.2.2 S = (d.1 : Int) := y2
        rw [h2] at y2; omega
  · intro z
    have z : i = j := z
    rw [z]; exact rch_rf _
theorem row_none {g : Gr} {S : Nat} (h0 : g.1 S = 0) (h1 : g.2.1 S = -1) (h2 : g.2.2 S = -1) : row g S (S + 1) S (-1) (-1) := ⟨Nat.le_refl _, Nat.lt_succ_self _, h0, h0, h1, h2, fun z => by have := z.1; omega, fun z => by have := z.1; omega, fun x a1 a2 a3 => absurd (by omega : x = S) a3, fun x a1 a2 => absurd a2 (by omega)⟩
def newLv (S : Nat) : Lv := ((S, S + 1), 0, fun _ => S + 2, fun _ => S + 2, fun _ => 0, false)
/-- ( -/
theorem open_step {l : Lv} {rest : List Lv} {S cnt rz c0 : Nat} {it rp : Int} (H : PS G4 G28 v n p t0 l rest S cnt rz it rp) (ht : TPE G3 G27 n b) (hp : p < n) (hc : b p = 40) (hd : rest.length < 6) : ∃ G4', (∀ fu, f_X7_parsePattern_l4 F (fu + 1) G3 G4 v = f_X7_parsePattern_l4 F fu G3 G4' v) ∧ PS G4' (gI (gI (gI G28 120 (rest.length + 1) (iI 0)) 121 (rest.length + 1) (iI 0)) 91 21 (iI ((p : Int) + 1))) v n (p + 1) t0 (newLv S) (l :: rest) (S + 3) cnt rz (-1) rp ∧ FRC v t0 G4 G4' ∧ FRM c0 G28 (gI (gI (gI G28 120 (rest.length + 1) (iI 0)) 121 (rest.length + 1) (iI 0)) 91 21 (iI ((p : Int) + 1))) := by
  obtain ⟨P1, P2, P3, P4, P5, P6, P7, P8, ⟨Q1, Q2, Q3, Q4, Q5, Q6⟩, P9, P10, P11⟩ := id H
  obtain ⟨T1, T2, T3, T4⟩ := id ht
  have hsd := sd_eq (newLv S) (l :: rest)
  have hsm : smr (newLv S :: l :: rest) = smr (l :: rest) + 0 := rfl
  have hsd : sd (newLv S :: l :: rest) = sd (l :: rest) := rfl
  have hln : (l :: rest).length = rest.length + 1 := rfl
  obtain ⟨w1, w2, w3⟩ := lvl_lt P3.1
  have w0 := lvs_t P3
  rw [Q6] at w0
  have rt1 := P3.1.2.2.2.1.1
  have rt2 := P3.1.2.2.2.1.2.1
  have gv := group_v (F := F) P1 (by omega) rt2 hd
  have hT : f_X7_takeSign F G4 v (iI (b p)) = some (iI 1, gO G4 v S rest.length (ltl l (lm l))) := by
    have ai := atom_is_c (F := F) (c := 40) (by omega) (by omega)
    have na : ¬ isAt 40 := by unfold isAt isWd; omega
    have hc' : (b p : Int) = 40 := by omega
    have cb1 : ∀ {α : Type} (x : Option α), cb (iI 1) x = x := fun x => cb_ok (Or.inr rfl)
    rw [hc']
    simp (disch := omega) only [reduceIte, Nat.reduceEqDiff, Nat.reduceAdd, Nat.reduceSub, Nat.reduceMul, Nat.reduceLT, Int.reduceNeg, Int.reduceAdd, Int.reduceSub, Int.reduceMul, Int.reduceLT, Int.reduceLE, Int.reduceEq, Int.reduceToNat, reduceCtorEq, and_self, and_true, true_and, false_and, and_false, or_false, false_or, or_true, true_or, true_implies, false_implies, implies_true, not_true_eq_false, not_false_eq_true, Int.toNat_natCast, Int.cast_ofNat_Int, eq_self, ne_eq, ite_true, ite_false, if_true, if_false, Int.add_sub_cancel, Int.sub_add_cancel, Int.add_zero, Int.zero_add, cast_s, iI_in, iI_lit, iI_le, iI_lt, iI_eq, iI_cl, iI_add, iI_sub, iI_mul, iI_neg, iI_nI, ok_s, ok_ck, ok_bn, ok_ob, ck_iI, bn_eq, ob_s, om_n, om_s, cb_bI, gI_g, gI_2, gJ_1, gJ_g, gJ_2, gR_1, gR_2, gR_g, within_v, in_v, bI_i0, bI_i1, iI_bI0, iI_bI1, bI_T, bI_F, f_X7_takeSign, ai, na, gv, cb1]
  have ci2 := gO_ci P1
  have turn := turn_c (F := F) P1 ht hp (by omega) hT ci2.2.2.1
  have fo := gO_o G4 v S rest.length (ltl l (lm l))
  have e1 := gO_1 G4 v S rest.length (ltl l (lm l))
  have e2 := gO_2 G4 v S rest.length (ltl l (lm l)) (by omega)
  have e3 := gO_3 G4 v S rest.length (ltl l (lm l))
  have e4 := gO_4 G4 v S rest.length (ltl l (lm l))
  have e7 := gO_7 G4 v S rest.length (ltl l (lm l)) (by omega)
  have e8 := gO_8 G4 v S rest.length (ltl l (lm l)) (by omega)
  have e9 := gO_9 G4 v S rest.length (ltl l (lm l)) (by omega)
  generalize hG : gO G4 v S rest.length (ltl l (lm l)) = G' at *
  have k1 : ∀ y, y < S → (gph G' v).1 y = (gph G4 v).1 y := fun y hy => by
    show ar G' (v + 1) y = ar G4 (v + 1) y
    rw [e1, up_f _ _ (by omega), up_f _ _ (by omega), up_f _ _ (by omega)]
  have k2 : ∀ y, y < S → (gph G' v).2.1 y = if y = ltl l (lm l) then (S : Int) else (gph G4 v).2.1 y := fun y hy => by
    show ar G' (v + 2) y = if y = ltl l (lm l) then (S : Int) else ar G4 (v + 2) y
    rw [e2, up_f _ _ (by omega), up_f _ _ (by omega), up_f _ _ (by omega)]
    by_cases c : y = ltl l (lm l)
    · rw [if_pos c, c, up_t]
    · rw [if_neg c, up_f _ _ c, up_f _ _ (by omega)]
  have k3 : ∀ y, y < S → (gph G' v).2.2 y = (gph G4 v).2.2 y := fun y hy => by
    show ar G' (v + 3) y = ar G4 (v + 3) y
    rw [e3, up_f _ _ (by omega), up_f _ _ (by omega), up_f _ _ (by omega)]
  have n0 : ∀ y, y = S ∨ y = S + 1 ∨ y = S + 2 → (gph G' v).1 y = 0 ∧ (gph G' v).2.2 y = -1 ∧ (y ≠ S → (gph G' v).2.1 y = -1) ∧ (y = S → (gph G' v).2.1 y = ((S + 2 : Nat) : Int)) := fun y hy => by
    refine ⟨?_, ?_, fun hn => ?_, fun hn => ?_⟩
    · show ar G' (v + 1) y = 0
      rw [e1]
      rcases hy with q | q | q <;> subst q
      · rw [up_f _ _ (by omega), up_f _ _ (by omega), up_t]
      · rw [up_f _ _ (by omega), up_t]
      · rw [up_t]
    · show ar G' (v + 3) y = -1
      rw [e3]
      rcases hy with q | q | q <;> subst q
      · rw [up_f _ _ (by omega), up_f _ _ (by omega), up_t]
      · rw [up_f _ _ (by omega), up_t]
      · rw [up_t]
    · show ar G' (v + 2) y = -1
      rw [e2, up_f _ _ hn]
      rcases hy with q | q | q
      · exact absurd q hn
      · rw [up_f _ _ (by omega), q, up_t]
      · rw [q, up_t]
    · show ar G' (v + 2) y = _
      rw [e2, hn, up_t]; rfl
  have a0 := n0 S (Or.inl rfl)
  have a1 := n0 (S + 1) (Or.inr (Or.inl rfl))
  have a2 := n0 (S + 2) (Or.inr (Or.inr rfl))
  have f119 : ar (gI (gI (gI G28 120 (rest.length + 1) (iI 0)) 121 (rest.length + 1) (iI 0)) 91 21 (iI ((p : Int) + 1))) 119 = ar G28 119 := rfl
  have f120 : ar (gI (gI (gI G28 120 (rest.length + 1) (iI 0)) 121 (rest.length + 1) (iI 0)) 91 21 (iI ((p : Int) + 1))) 120 = up (ar G28 120) (rest.length + 1) 0 := by
    rw [ar_oth _ _ _ (by omega), ar_oth _ _ _ (by omega), ar_set _ _ _ (by omega) (by omega)]
  have f121 : ar (gI (gI (gI G28 120 (rest.length + 1) (iI 0)) 121 (rest.length + 1) (iI 0)) 91 21 (iI ((p : Int) + 1))) 121 = up (ar G28 121) (rest.length + 1) 0 := by
    rw [ar_oth _ _ _ (by omega), ar_set _ _ _ (by omega) (by omega), ar_oth _ _ _ (by omega)]
  have fp : prt (gI (gI (gI G28 120 (rest.length + 1) (iI 0)) 121 (rest.length + 1) (iI 0)) 91 21 (iI ((p : Int) + 1))) = prt G28 := rfl
  refine ⟨gI G' v 10 (iI ((p : Int) + 1)), turn, ⟨ci2.step, ?_, ?_, P4, ?_, ?_, ?_, ?_, ⟨by rw [hln]; omega, by omega, by rw [hln]; omega, by rw [hsm]; omega, by rw [hsd]; omega, ?_⟩, ⟨fun _ => rfl, fun _ => rfl⟩, by omega, by omega⟩, ?_, ?_⟩
  · obtain ⟨h1, h2, h3, h4, h5⟩ := P2
    rw [hsd]
    unfold MI
    simp (disch := omega) only [reduceIte, Nat.reduceEqDiff, Nat.reduceAdd, Nat.reduceSub, Nat.reduceMul, Nat.reduceLT, Int.reduceNeg, Int.reduceAdd, Int.reduceSub, Int.reduceMul, Int.reduceLT, Int.reduceLE, Int.reduceEq, Int.reduceToNat, reduceCtorEq, and_self, and_true, true_and, false_and, and_false, or_false, false_or, or_true, true_or, true_implies, false_implies, implies_true, not_true_eq_false, not_false_eq_true, Int.toNat_natCast, Int.cast_ofNat_Int, eq_self, ne_eq, ite_true, ite_false, if_true, if_false, Int.add_sub_cancel, Int.sub_add_cancel, Int.add_zero, Int.zero_add, cast_s, iI_in, iI_lit, iI_le, iI_lt, iI_eq, iI_cl, iI_add, iI_sub, iI_mul, iI_neg, iI_nI, ok_s, ok_ck, ok_bn, ok_ob, ck_iI, bn_eq, ob_s, om_n, om_s, cb_bI, gI_g, gI_2, gJ_1, gJ_g, gJ_2, gR_1, gR_2, gR_g, within_v, in_v, bI_i0, bI_i1, iI_bI0, iI_bI1, bI_T, bI_F, h1, h3, h4, h5]
  · rw [step_gph, fp]
    refine ⟨⟨by show S ≤ S + 1; omega, rfl, fun r hr => absurd hr (Nat.not_lt_zero r), row_none a2.1 (a2.2.2.1 (by omega)) a2.2.1, sem_none (a2.2.2.1 (by omega)) a2.2.1, fun z => (by cases z), a1.2.2.1 (by omega), a1.2.1, fun _ => rfl⟩, ⟨fun z => by rw [hln] at z; omega, fun _ => ⟨rfl, a0.1, a0.2.2.2 rfl, a0.2.1, a1.1⟩⟩, ?_⟩
    exact lvs_out P3 (fun z => by have := z.2; omega) k1 k2 k3
  · rw [f119]
    exact ⟨fun r hr => absurd hr (Nat.not_lt_zero r), fun z => (by cases z), P5⟩
  · rw [f120, f121]
    refine ⟨?_, ?_, P6.to fun j hj => ?_⟩
    · rw [hln, up_t]; rfl
    · rw [hln, up_t]; rfl
    · rw [hln] at hj
      exact ⟨up_f _ _ (by omega), up_f _ _ (by omega)⟩
  · rw [ar_oth _ _ _ (by omega), ar_oth _ _ _ (by omega), ar_oth _ _ _ (by omega), e7, e8, e9]
    refine ⟨fun _ => ?_, ?_, ?_, P7.to fun j hj => ?_⟩
    · rw [hln, up_t]; rfl
    · rw [hln, up_t]; rfl
    · rw [hln, up_t]; rfl
    · rw [hln] at hj
      exact ⟨up_f _ _ (by omega), up_f _ _ (by omega), up_f _ _ (by omega)⟩
  · rw [step_gph]
    intro y z1 z2
    by_cases c1 : y < S
    · rw [k1 y c1]; exact P8 y z1 c1
    · rw [(n0 y (by omega)).1]; omega
  · rw [← Q6]; rfl
  · refine FRC.tr ⟨fo.1, fo.2, e4, fun y z1 z2 => ⟨(k1 y (by omega)).symm, ?_, (k3 y (by omega)).symm⟩⟩ (step_FRC _ _)
    rw [k2 y (by omega), if_neg (by omega)]
  · refine ⟨rfl, fun y j hy => ?_, agp_rf _ _⟩
    rw [gI_g, if_neg (by omega), gI_g, if_neg (by omega), gI_g, if_neg (by omega)]
def nextLv (l : Lv) (S : Nat) : Lv := (l.1, lm l + 1, upN (lrs l) (lm l + 1) S, upN (ltl l) (lm l + 1) S, lpk l, false)
/-- | -/
theorem row_step {l : Lv} {rest : List Lv} {S cnt rz c0 : Nat} {it rp : Int} (H : PS G4 G28 v n p t0 l rest S cnt rz it rp) (ht : TPE G3 G27 n b) (hp : p < n) (hc : b p = 124) (hf : lfu l = true) : ∃ G4', (∀ fu, f_X7_parsePattern_l4 F (fu + 1) G3 G4 v = f_X7_parsePattern_l4 F fu G3 G4' v) ∧ PS G4' (gI (gI (gI G28 121 rest.length (iI ((lm l : Int) + 1))) 120 rest.length (iI 0)) 91 21 (iI ((p : Int) + 1))) v n (p + 1) t0 (nextLv l S) rest (S + 1) cnt rz (-1) rp ∧ FRC v t0 G4 G4' ∧ FRM c0 G28 (gI (gI (gI G28 121 rest.length (iI ((lm l : Int) + 1))) 120 rest.length (iI 0)) 91 21 (iI ((p : Int) + 1))) := by
  obtain ⟨P1, P2, P3, P4, P5, P6, P7, P8, ⟨Q1, Q2, Q3, Q4, Q5, Q6⟩, P9, P10, P11⟩ := id H
  obtain ⟨T1, T2, T3, T4⟩ := id ht
  have hsd := sd_eq l rest
  rw [if_pos hf] at hsd
  have hsd2 : sd (nextLv l S :: rest) = sd rest + (lm l + 1) + 0 := rfl
  have hsm : smr (l :: rest) = smr rest + lm l := rfl
  have hsm2 : smr (nextLv l S :: rest) = smr rest + (lm l + 1) := rfl
  obtain ⟨w1, w2, w3⟩ := lvl_lt P3.1
  have w0 := lvs_t P3
  rw [Q6] at w0
  obtain ⟨y1, y2, y3, y4, y5, y6, y7, y8, y9⟩ := id P3.1
  have rt1 := y4.1
  have rt2 := y4.2.1
  have hit : ¬ it = -1 := fun z => by have := P9.mp z; rw [hf] at this; cases this
  have gv := addRow_v (F := F) P1 (by omega) (by omega) (by omega) P7.2.1 P7.2.2.1 (by omega)
  have hT : f_X7_takeSign F G4 v (iI (b p)) = some (iI 1, rA G4 v S rest.length (ltl l (lm l)) (lge l) (lrs l (lm l))) := by
    obtain ⟨h1, h2, h3, h4, h5, h6, h7, h8⟩ := id P1
    have ai := atom_is_c (F := F) (c := 124) (by omega) (by omega)
    have na : ¬ isAt 124 := by unfold isAt isWd; omega
    have hc' : (b p : Int) = 124 := by omega
    rw [hc']
    simp (disch := omega) only [reduceIte, Nat.reduceEqDiff, Nat.reduceAdd, Nat.reduceSub, Nat.reduceMul, Nat.reduceLT, Int.reduceNeg, Int.reduceAdd, Int.reduceSub, Int.reduceMul, Int.reduceLT, Int.reduceLE, Int.reduceEq, Int.reduceToNat, reduceCtorEq, and_self, and_true, true_and, false_and, and_false, or_false, false_or, or_true, true_or, true_implies, false_implies, implies_true, not_true_eq_false, not_false_eq_true, Int.toNat_natCast, Int.cast_ofNat_Int, eq_self, ne_eq, ite_true, ite_false, if_true, if_false, Int.add_sub_cancel, Int.sub_add_cancel, Int.add_zero, Int.zero_add, cast_s, iI_in, iI_lit, iI_le, iI_lt, iI_eq, iI_cl, iI_add, iI_sub, iI_mul, iI_neg, iI_nI, ok_s, ok_ck, ok_bn, ok_ob, ck_iI, bn_eq, ob_s, om_n, om_s, cb_bI, gI_g, gI_2, gJ_1, gJ_g, gJ_2, gR_1, gR_2, gR_g, within_v, in_v, bI_i0, bI_i1, iI_bI0, iI_bI1, bI_T, bI_F, f_X7_takeSign, ai, na, h6, hit, gv]
  have ci2 := rA_ci P1 (lge l) (lrs l (lm l))
  have turn := turn_c (F := F) P1 ht hp (by omega) hT ci2.2.2.1
  have fo := rA_o G4 v S rest.length (ltl l (lm l)) (lge l) (lrs l (lm l))
  have e1 := rA_1 G4 v S rest.length (ltl l (lm l)) (lge l) (lrs l (lm l))
  have e2 := rA_2 G4 v S rest.length (ltl l (lm l)) (lge l) (lrs l (lm l)) (by omega)
  have e3 := rA_3 G4 v S rest.length (ltl l (lm l)) (lge l) (lrs l (lm l)) (by omega)
  have e9 := rA_9 G4 v S rest.length (ltl l (lm l)) (lge l) (lrs l (lm l)) (by omega)
  have ea := fun y (hy : y = v + 4 ∨ y = v + 7 ∨ y = v + 8) => rA_a G4 v S rest.length (ltl l (lm l)) (lge l) (lrs l (lm l)) (x := y) hy
  generalize hG : rA G4 v S rest.length (ltl l (lm l)) (lge l) (lrs l (lm l)) = G' at *
  have k1 : ∀ y, y < S → (gph G' v).1 y = (gph G4 v).1 y := fun y hy => by
    show ar G' (v + 1) y = ar G4 (v + 1) y
    rw [e1, up_f _ _ (by omega)]
  have k2 : ∀ y, y < S → (gph G' v).2.1 y = if y = ltl l (lm l) then (lge l : Int) else (gph G4 v).2.1 y := fun y hy => by
    show ar G' (v + 2) y = if y = ltl l (lm l) then (lge l : Int) else ar G4 (v + 2) y
    rw [e2, up_f _ _ (by omega)]; rfl
  have k3 : ∀ y, y < S → (gph G' v).2.2 y = if y = lrs l (lm l) then (S : Int) else (gph G4 v).2.2 y := fun y hy => by
    show ar G' (v + 3) y = if y = lrs l (lm l) then (S : Int) else ar G4 (v + 3) y
    rw [e3]
    by_cases c : y = lrs l (lm l)
    · rw [if_pos c, c, up_t]
    · rw [if_neg c, up_f _ _ c, up_f _ _ (by omega)]
  have n1 : (gph G' v).1 S = 0 := by
    show ar G' (v + 1) S = 0
    rw [e1, up_t]
  have n2 : (gph G' v).2.1 S = -1 := by
    show ar G' (v + 2) S = -1
    rw [e2, up_t]
  have n3 : (gph G' v).2.2 S = -1 := by
    show ar G' (v + 3) S = -1
    rw [e3, up_f _ _ (by omega), up_t]
  have sm : ∀ e', e' ≤ lrs l (lm l) → sam (gph G4 v) (gph G' v) 0 e' := fun e' he y a1 a2 => ⟨(k1 y (by omega)).symm, by rw [k2 y (by omega), if_neg (by omega)], by rw [k3 y (by omega), if_neg (by omega)]⟩
  have rr := y4.re (g' := gph G' v) (N' := (lge l : Int)) (O' := (S : Int)) (fun z => by have := z.1; omega) (fun z => by have := z.2; omega) (fun y _ z => k1 y z) (fun y _ z => k2 y z) (fun y _ z => k3 y z)
  have f119 : ar (gI (gI (gI G28 121 rest.length (iI ((lm l : Int) + 1))) 120 rest.length (iI 0)) 91 21 (iI ((p : Int) + 1))) 119 = ar G28 119 := rfl
  have f120 : ar (gI (gI (gI G28 121 rest.length (iI ((lm l : Int) + 1))) 120 rest.length (iI 0)) 91 21 (iI ((p : Int) + 1))) 120 = up (ar G28 120) rest.length 0 := by
    rw [ar_oth _ _ _ (by omega), ar_set _ _ _ (by omega) (by omega), ar_oth _ _ _ (by omega)]
  have f121 : ar (gI (gI (gI G28 121 rest.length (iI ((lm l : Int) + 1))) 120 rest.length (iI 0)) 91 21 (iI ((p : Int) + 1))) 121 = up (ar G28 121) rest.length ((lm l : Int) + 1) := by
    rw [ar_oth _ _ _ (by omega), ar_oth _ _ _ (by omega), ar_set _ _ _ (by omega) (by omega)]
  have fp : prt (gI (gI (gI G28 121 rest.length (iI ((lm l : Int) + 1))) 120 rest.length (iI 0)) 91 21 (iI ((p : Int) + 1))) = prt G28 := rfl
  have x1 : ∀ r, r ≤ lm l → lrs (nextLv l S) r = lrs l r := fun r hr => upN_f _ _ (by omega)
  have x2 : ∀ r, r ≤ lm l → ltl (nextLv l S) r = ltl l r := fun r hr => upN_f _ _ (by omega)
  have x3 : lrs (nextLv l S) (lm (nextLv l S)) = S := upN_t _ _ _
  have x4 : ltl (nextLv l S) (lm (nextLv l S)) = S := upN_t _ _ _
  have x5 : lrs (nextLv l S) (lm l + 1) = S := upN_t _ _ _
  refine ⟨gI G' v 10 (iI ((p : Int) + 1)), turn, ⟨?_, ?_, ?_, P4, ?_, ?_, ?_, ?_, ⟨Q1, by omega, by omega, by rw [hsm2]; omega, by rw [hsd2]; omega, Q6⟩, ⟨fun _ => rfl, fun _ => rfl⟩, by omega, by omega⟩, ?_, ?_⟩
  · rw [x4]; exact ci2.step
  · obtain ⟨h1, h2, h3, h4, h5⟩ := P2
    rw [hsd2, show sd rest + (lm l + 1) + 0 = sd (l :: rest) by omega]
    unfold MI
    simp (disch := omega) only [reduceIte, Nat.reduceEqDiff, Nat.reduceAdd, Nat.reduceSub, Nat.reduceMul, Nat.reduceLT, Int.reduceNeg, Int.reduceAdd, Int.reduceSub, Int.reduceMul, Int.reduceLT, Int.reduceLE, Int.reduceEq, Int.reduceToNat, reduceCtorEq, and_self, and_true, true_and, false_and, and_false, or_false, false_or, or_true, true_or, true_implies, false_implies, implies_true, not_true_eq_false, not_false_eq_true, Int.toNat_natCast, Int.cast_ofNat_Int, eq_self, ne_eq, ite_true, ite_false, if_true, if_false, Int.add_sub_cancel, Int.sub_add_cancel, Int.add_zero, Int.zero_add, cast_s, iI_in, iI_lit, iI_le, iI_lt, iI_eq, iI_cl, iI_add, iI_sub, iI_mul, iI_neg, iI_nI, ok_s, ok_ck, ok_bn, ok_ob, ck_iI, bn_eq, ob_s, om_n, om_s, cb_bI, gI_g, gI_2, gJ_1, gJ_g, gJ_2, gR_1, gR_2, gR_g, within_v, in_v, bI_i0, bI_i1, iI_bI0, iI_bI1, bI_T, bI_F, h1, h3, h4, h5]
  · rw [step_gph, fp]
    refine ⟨⟨y1, ?_, fun r hr => ?_, ?_, ?_, fun z => (by cases z), ?_, ?_, fun _ => by rw [x3, x4]⟩, ⟨fun z => ⟨(P3.2.1.1 z).1, ?_⟩, fun z => ?_⟩, P3.2.2.to (agp_rf _ _) (Nat.le_refl _) (sm _ (by omega))⟩
    · rw [x1 0 (by omega)]; exact y2
    · have hr : r < lm l + 1 := hr
      have e3 : lpk (nextLv l S) r = lpk l r := rfl
      rw [x1 r (by omega), x2 r (by omega), e3]
      by_cases c : r < lm l
      · have := w3 r c
        obtain ⟨a1, a2, a3⟩ := y3 r c
        rw [x1 (r + 1) (by omega)]
        exact ⟨a1.to ((sm _ (by omega)).sub (Nat.zero_le _) (Nat.le_refl _)), a2.to ((sm _ (by omega)).sub (Nat.zero_le _) (Nat.le_refl _)).agr (agp_rf _ _) (Nat.le_refl _), a3⟩
      · have er : r = lm l := by omega
        subst er
        rw [x5]
        refine ⟨rr.1, ?_, y6 hf⟩
        have s := y5.to rr.2 (agp_rf _ _) (Nat.le_refl _)
        unfold cop at s
        rw [if_pos hf] at s
        exact s
    · rw [x3, x4]; exact row_none n1 n2 n3
    · rw [x3, x4]; exact sem_none n2 n3
    · show (gph G' v).2.1 (lge l) = -1
      rw [k2 _ (by omega), if_neg (by omega)]; exact y7
    · show (gph G' v).2.2 (lge l) = -1
      rw [k3 _ (by omega), if_neg (by omega)]; exact y8
    · show (gph G' v).1 (lge l) = 1
      rw [k1 _ (by omega)]; exact (P3.2.1.1 z).2
    · obtain ⟨z1, z2, z3, z4, z5⟩ := P3.2.1.2 z
      refine ⟨z1, ?_, ?_, ?_, ?_⟩
      · show (gph G' v).1 (lgs l) = 0
        rw [k1 _ (by omega)]; exact z2
      · show (gph G' v).2.1 (lgs l) = _
        rw [k2 _ (by omega), if_neg (by omega), x1 0 (by omega)]; exact z3
      · show (gph G' v).2.2 (lgs l) = -1
        rw [k3 _ (by omega), if_neg (by omega)]; exact z4
      · show (gph G' v).1 (lge l) = 0
        rw [k1 _ (by omega)]; exact z5
  · rw [f119]
    refine ⟨fun r hr => ?_, fun z => (by cases z), P5.2.2⟩
    have hr : r < lm l + 1 := hr
    show ar G28 119 (sd rest + r) = lpk l r
    by_cases c : r < lm l
    · exact P5.1 r c
    · rw [show r = lm l by omega]; exact P5.2.1 hf
  · rw [f120, f121]
    refine ⟨?_, ?_, P6.2.2.to fun j hj => ⟨up_f _ _ (by omega), up_f _ _ (by omega)⟩⟩
    · rw [up_t]; rfl
    · rw [up_t]; rfl
  · rw [ar_oth _ _ _ (by omega), ar_oth _ _ _ (by omega), ar_oth _ _ _ (by omega), ea _ (by omega), ea _ (by omega), e9]
    refine ⟨P7.1, P7.2.1, ?_, P7.2.2.2.to fun j hj => ⟨rfl, rfl, up_f _ _ (by omega)⟩⟩
    rw [up_t, x3]
  · rw [step_gph]
    intro y z1 z2
    by_cases c1 : y < S
    · rw [k1 y c1]; exact P8 y z1 c1
    · rw [show y = S by omega, n1]; omega
  · refine FRC.tr ⟨fo.1, fo.2, ea _ (by omega), sm _ (by omega)⟩ (step_FRC _ _)
  · refine ⟨rfl, fun y j hy => ?_, agp_rf _ _⟩
    rw [gI_g, if_neg (by omega), gI_g, if_neg (by omega), gI_g, if_neg (by omega)]
end PR
