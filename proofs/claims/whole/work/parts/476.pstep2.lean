section PR
variable {F v n p t0 : Nat} {G3 G27 G4 G28 : Grp} {b : Nat → Nat}
theorem lvs_out {g g' : Gr} {P : Pr} {cnt : Nat} {l : Lv} {rest : List Lv} {hi : Nat} {N N' : Int} (h : lvs g P cnt (l :: rest) hi N) (hN : ¬ ins N' (lrs l (lm l)) hi) (h1 : ∀ x, x < hi → g'.1 x = g.1 x) (h2 : ∀ x, x < hi → g'.2.1 x = if x = ltl l (lm l) then N' else g.2.1 x) (h3 : ∀ x, x < hi → g'.2.2 x = g.2.2 x) : lvs g' P cnt (l :: rest) hi N' := by
  obtain ⟨w1, w2, w3⟩ := lvl_lt h.1
  have w0 := h.1.1
  have rt := h.1.2.2.2.1.1
  have sm : ∀ e', e' ≤ lrs l (lm l) → sam g g' 0 e' := fun e' he y z1 z2 => ⟨(h1 y (by omega)).symm, by rw [h2 y (by omega), if_neg (by omega)], (h3 y (by omega)).symm⟩
  have a1 := sm (lge l + 1) (by omega) (lgs l) (by omega) (by omega)
  have a2 := sm (lge l + 1) (by omega) (lge l) (by omega) (by omega)
  refine ⟨h.1.out hN h1 h2 h3, ⟨fun z => ⟨(h.2.1.1 z).1, a2.1 ▸ (h.2.1.1 z).2⟩, fun z => ?_⟩, h.2.2.to (agp_rf _ _) (Nat.le_refl _) (sm _ (by omega))⟩
  obtain ⟨z1, z2, z3, z4, z5⟩ := h.2.1.2 z
  exact ⟨z1, a1.1 ▸ z2, a1.2.1 ▸ z3, a1.2.2 ▸ z4, a2.1 ▸ z5⟩
/-- an atom -/
theorem atom_step {l : Lv} {rest : List Lv} {S cnt rz c0 : Nat} {it rp : Int} (H : PS G4 G28 v n p t0 l rest S cnt rz it rp) (ht : TPE G3 G27 n b) (hp : p < n) (ha : isAt (b p)) (hc0 : c0 ≤ cnt) {s2 : Int} (hs2 : s2 = if (b p : Int) = 94 then 1 else 0) : ∃ G4' Ga G28', (∀ fu, f_X7_parsePattern_l4 F (fu + 1) G3 G4 v = f_X7_parsePattern_l4 F fu G3 G4' v) ∧ f_X12_part F (gI G28 91 21 (iI ((p : Int) + 1))) (iI s2) (iI (b p)) (iI (-1)) (iI (-1)) = some (iI cnt, Ga) ∧ f_X12_pushes F Ga (iI cnt) = some G28' ∧ PEND G4' G28' v n (p + 1) t0 l rest S (S + 1) cnt (S + 2) (cnt + 1) rz ∧ FRC v t0 G4 G4' ∧ FRM c0 G28 G28' := by
  obtain ⟨P1, P2, P3, P4, P5, P6, P7, P8, ⟨Q1, Q2, Q3, Q4, Q5, Q6⟩, P9, P10, P11⟩ := id H
  obtain ⟨T1, T2, T3, T4⟩ := id ht
  have hsd := sd_eq l rest
  obtain ⟨w1, w2, w3⟩ := lvl_lt P3.1
  have w0 := lvs_t P3
  rw [Q6] at w0
  have rt := P3.1.2.2.2.1
  have rt1 := rt.1
  have rt2 := rt.2.1
  have hb := T4 p
  have hcb : 35 ≤ (b p : Int) ∧ (b p : Int) ≤ 122 := by unfold isAt isWd at ha; omega
  have n59 : ¬ (b p : Int) = 59 := by unfold isAt isWd at ha; omega
  have hS : S + 1 < 408 := by omega
  have ai := atom_is_c (F := F) (c := (b p : Int)) (by omega) (by omega)
  rw [bI_t ha] at ai
  have av := atom_v (F := F) P1 hS (by omega) ai
  have ci2 := atG_ci P1 (iI (b p))
  have turn := turn_c (F := F) P1 ht hp n59 av ci2.2.2.1
  have fo := atG_o G4 v S (ltl l (lm l)) (iI (b p))
  have e1 := atG_1 G4 v S (ltl l (lm l)) (c := (b p : Int)) (by omega) (by omega)
  have e2 := atG_2 G4 v S (ltl l (lm l)) (iI (b p)) (by omega)
  have e3 := atG_3 G4 v S (ltl l (lm l)) (iI (b p))
  have e4 := atG_a G4 v S (ltl l (lm l)) (iI (b p)) (x := v + 4) (by omega)
  have e7 := atG_a G4 v S (ltl l (lm l)) (iI (b p)) (x := v + 7) (by omega)
  have e8 := atG_a G4 v S (ltl l (lm l)) (iI (b p)) (x := v + 8) (by omega)
  have e9 := atG_a G4 v S (ltl l (lm l)) (iI (b p)) (x := v + 9) (by omega)
  generalize hG : atG G4 v S (ltl l (lm l)) (iI (b p)) = G' at *
  have k1 : ∀ y, y < S → (gph G' v).1 y = (gph G4 v).1 y := fun y hy => by
    show ar G' (v + 1) y = ar G4 (v + 1) y
    rw [e1, up_f _ _ (by omega), up_f _ _ (by omega)]
  have k2 : ∀ y, y < S → (gph G' v).2.1 y = if y = ltl l (lm l) then (S : Int) else (gph G4 v).2.1 y := fun y hy => by
    show ar G' (v + 2) y = if y = ltl l (lm l) then (S : Int) else ar G4 (v + 2) y
    rw [e2, up_f _ _ (by omega)]
    by_cases c : y = ltl l (lm l)
    · rw [if_pos c, c, up_t]
    · rw [if_neg c, up_f _ _ c, up_f _ _ (by omega), up_f _ _ (by omega)]
  have k3 : ∀ y, y < S → (gph G' v).2.2 y = (gph G4 v).2.2 y := fun y hy => by
    show ar G' (v + 3) y = ar G4 (v + 3) y
    rw [e3, up_f _ _ (by omega), up_f _ _ (by omega)]
  have d0 : (gph G' v).1 S = b p := by
    show ar G' (v + 1) S = b p
    rw [e1, up_f _ _ (by omega), up_t]
  have d1 : (gph G' v).1 (S + 1) = 0 := by
    show ar G' (v + 1) (S + 1) = 0
    rw [e1, up_t]
  have d2 : (gph G' v).2.1 S = ((S + 1 : Nat) : Int) := by
    show ar G' (v + 2) S = _
    rw [e2, up_t]; rfl
  have d3 : (gph G' v).2.1 (S + 1) = -1 := by
    show ar G' (v + 2) (S + 1) = _
    rw [e2, up_f _ _ (by omega), up_f _ _ (by omega), up_t]
  have d4 : (gph G' v).2.2 S = -1 := by
    show ar G' (v + 3) S = _
    rw [e3, up_f _ _ (by omega), up_t]
  have d5 : (gph G' v).2.2 (S + 1) = -1 := by
    show ar G' (v + 3) (S + 1) = _
    rw [e3, up_t]
  -- the reference
  have m0 : MI (gI G28 91 21 (iI ((p : Int) + 1))) n (p + 1) cnt rz (sd (l :: rest)) := by
    obtain ⟨h1, h2, h3, h4, h5⟩ := P2
    unfold MI
    simp (disch := omega) only [reduceIte, Nat.reduceEqDiff, Nat.reduceAdd, Nat.reduceSub, Nat.reduceMul, Nat.reduceLT, Int.reduceNeg, Int.reduceAdd, Int.reduceSub, Int.reduceMul, Int.reduceLT, Int.reduceLE, Int.reduceEq, Int.reduceToNat, reduceCtorEq, and_self, and_true, true_and, false_and, and_false, or_false, false_or, or_true, true_or, true_implies, false_implies, implies_true, not_true_eq_false, not_false_eq_true, Int.toNat_natCast, Int.cast_ofNat_Int, eq_self, ne_eq, ite_true, ite_false, if_true, if_false, Int.add_sub_cancel, Int.sub_add_cancel, Int.add_zero, Int.zero_add, cast_s, iI_in, iI_lit, iI_le, iI_lt, iI_eq, iI_cl, iI_add, iI_sub, iI_mul, iI_neg, iI_nI, ok_s, ok_ck, ok_bn, ok_ob, ck_iI, bn_eq, ob_s, om_n, om_s, cb_bI, gI_g, gI_2, gJ_1, gJ_g, gJ_2, gR_1, gR_2, gR_g, within_v, in_v, bI_i0, bI_i1, iI_bI0, iI_bI1, bI_T, bI_F, h1, h3, h4, h5]
  have hs2b : 0 ≤ s2 ∧ s2 ≤ 1 := by rw [hs2]; split <;> omega
  have pv := part_v (F := F) m0.2.2.1 (by omega) (iI s2) (iI (b p)) (iI (-1)) (iI (-1))
  have pm := pT_m m0 (iI s2) (iI (b p)) (iI (-1)) (iI (-1))
  have pp := pT_p (gI G28 91 21 (iI ((p : Int) + 1))) cnt (k := s2) (w := b p) (a := -1) (b := -1) (by omega) (by omega) (by omega) (by omega)
  have po := pT_o (gI G28 91 21 (iI ((p : Int) + 1))) cnt (iI s2) (iI (b p)) (iI (-1)) (iI (-1))
  have ps := pT_s (gI G28 91 21 (iI ((p : Int) + 1))) cnt (iI s2) (iI (b p)) (iI (-1)) (iI (-1))
  have pq : prt (gI G28 91 21 (iI ((p : Int) + 1))) = prt G28 := rfl
  rw [pq] at pp
  generalize hGa : pT (gI G28 91 21 (iI ((p : Int) + 1))) cnt (iI s2) (iI (b p)) (iI (-1)) (iI (-1)) = Ga at *
  have uv := pushes_v (F := F) pm.2.2.2.2 (by omega) (iI cnt)
  obtain ⟨u1, u2, u3, u4⟩ := upP_k (prt G28) cnt s2 (b p) (-1) (-1)
  have fp : prt (gI (gI Ga 119 (sd (l :: rest)) (iI cnt)) 91 41 (iI ((sd (l :: rest) : Int) + 1))) = prt Ga := rfl
  have fs : ar (gI (gI Ga 119 (sd (l :: rest)) (iI cnt)) 91 41 (iI ((sd (l :: rest) : Int) + 1))) 119 = up (ar G28 119) (sd (l :: rest)) cnt := by
    rw [ar_oth _ _ _ (by omega), ar_set _ _ _ (by omega) (by omega), ps]; rfl
  have fi : ∀ y, y ≠ 111 ∧ y ≠ 112 ∧ y ≠ 113 ∧ y ≠ 114 ∧ y ≠ 119 ∧ y ≠ 91 → ar (gI (gI Ga 119 (sd (l :: rest)) (iI cnt)) 91 41 (iI ((sd (l :: rest) : Int) + 1))) y = ar G28 y := fun y hy => by
    rw [ar_oth _ _ _ (by omega), ar_oth _ _ _ (by omega)]
    exact ar_ext fun j => by rw [po.2 y j (by omega), gI_g, if_neg (by omega)]
  have ag : agp (prt G28) (prt Ga) cnt := by rw [pp]; exact agp_up _ _ _ _ _ _
  obtain ⟨i1, i2, i3⟩ := item_atom (p := prt Ga) (cnt := cnt) d0 d2 d4 d1 d3 d5 (by omega) (by
    rw [pp, u1, u2]
    by_cases c : (b p : Int) = 94
    · rw [if_pos c] at hs2; exact Or.inl ⟨c, hs2⟩
    · rw [if_neg c] at hs2; exact Or.inr ⟨c, hs2, rfl⟩)
  refine ⟨gI G' v 10 (iI ((p : Int) + 1)), Ga, _, turn, pv, uv, ⟨ci2.step, ?_, ?_, ?_, ?_, ?_, by omega, ?_, ?_, ?_, ?_, ?_, ?_, Q1, by omega, by omega, ?_, by omega, Q6⟩, ?_, ?_⟩
  · obtain ⟨h1, h2, h3, h4, h5⟩ := pm
    unfold MI
    simp (disch := omega) only [reduceIte, Nat.reduceEqDiff, Nat.reduceAdd, Nat.reduceSub, Nat.reduceMul, Nat.reduceLT, Int.reduceNeg, Int.reduceAdd, Int.reduceSub, Int.reduceMul, Int.reduceLT, Int.reduceLE, Int.reduceEq, Int.reduceToNat, reduceCtorEq, and_self, and_true, true_and, false_and, and_false, or_false, false_or, or_true, true_or, true_implies, false_implies, implies_true, not_true_eq_false, not_false_eq_true, Int.toNat_natCast, Int.cast_ofNat_Int, eq_self, ne_eq, ite_true, ite_false, if_true, if_false, Int.add_sub_cancel, Int.sub_add_cancel, Int.add_zero, Int.zero_add, cast_s, iI_in, iI_lit, iI_le, iI_lt, iI_eq, iI_cl, iI_add, iI_sub, iI_mul, iI_neg, iI_nI, ok_s, ok_ck, ok_bn, ok_ob, ck_iI, bn_eq, ob_s, om_n, om_s, cb_bI, gI_g, gI_2, gJ_1, gJ_g, gJ_2, gR_1, gR_2, gR_g, within_v, in_v, bI_i0, bI_i1, iI_bI0, iI_bI1, bI_T, bI_F, h1, h2, h3, h4]
  · rw [step_gph, fp]
    exact (lvs_out P3 (fun z => by have := z.2; omega) k1 k2 k3).to ag (by omega) (sam.rf _ _ _)
  · rw [step_gph]; exact i1
  · rw [step_gph]; exact i2
  · rw [step_gph, fp]; exact i3
  · rw [fp, pp]; exact wfp_up P4 _ _ _ _ (by omega) (fun z => by omega) (fun z => by omega)
  · rw [fs]; exact P5.to fun j hj => up_f _ _ (by omega)
  · rw [fs, up_t]
  · rw [fi 120 (by omega), fi 121 (by omega)]; exact P6
  · rw [ar_oth _ _ _ (by omega), ar_oth _ _ _ (by omega), ar_oth _ _ _ (by omega), e7, e8, e9]; exact P7
  · rw [step_gph]
    intro y z1 z2
    by_cases c1 : y < S
    · rw [k1 y c1]; exact P8 y z1 c1
    · by_cases c2 : y = S
      · rw [c2, d0]; omega
      · rw [show y = S + 1 by omega, d1]; omega
  · split <;> omega
  · refine FRC.tr ⟨fo.1, fo.2, e4, fun y z1 z2 => ⟨(k1 y (by omega)).symm, ?_, (k3 y (by omega)).symm⟩⟩ (step_FRC _ _)
    rw [k2 y (by omega), if_neg (by omega)]
  · refine ⟨po.1, fun y j hy => ?_, ?_⟩
    · rw [gI_g, if_neg (by omega), gI_g, if_neg (by omega), po.2 y j (by omega), gI_g, if_neg (by omega)]
    · rw [fp]; exact ag.le hc0
end PR
