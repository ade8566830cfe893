section PR
variable {F v n p : Nat} {G3 G27 G4 G28 : Grp} {b : Nat → Nat}
/-- what comes of one rule -/
def RTU (F v n r S cnt : Nat) (b : Nat → Nat) (G3 G27 G4 G28 : Grp) (gl rt : Nat → Nat) (dc : Nat → Int) : Prop :=
  (∃ G4' G28' flt, (∀ fu i : Nat, i ≤ 12 → f_X7_parse_l51 F (fu + 1) G3 G4 v (iI 1) (iI (i : Int)) = f_X7_parse_l51 F fu G3 G4' v (iI 0) (iI ((i : Int) + 1))) ∧ f_X12_readsRule F G27 G28 = some (iI 0, G28') ∧ G4'.1 v 11 = iI flt ∧ G28'.1 91 23 = iI flt ∧ (1000 ≤ flt ∧ flt < 10000) ∧ G4'.2 = G4.2 ∧ ∀ x k, (x < v ∨ v + 9 < x) → G4'.1 x k = G4.1 x k) ∨
  (r < 12 ∧ ∃ G4' G28' p' S' cnt' q d, (∀ fu i : Nat, i ≤ 12 → f_X7_parse_l51 F (fu + 1) G3 G4 v (iI 1) (iI (i : Int)) = f_X7_parse_l51 F fu G3 G4' v (if p' < n then iI 1 else iI 0) (iI ((i : Int) + 1))) ∧ f_X12_readsRule F G27 G28 = some (iI 1, G28') ∧ p' ≤ n ∧ (p' < n → b p' = 59) ∧ G4'.1 v 10 = iI (if p' < n then (p' : Int) + 1 else p') ∧ G28'.1 91 21 = iI p' ∧ RUS G4' G28' v n p' (r + 1) S' cnt' (upN gl (r + 1) S') (upN rt r q) (up dc r d) ∧ G4'.1 v 11 = G4.1 v 11 ∧ G4'.2 = G4.2 ∧ ∀ x k, (x < v ∨ v + 9 < x) → G4'.1 x k = G4.1 x k)
theorem l51_bad {G' : Grp} (h : f_X7_parseHead F G3 G4 v = some (iI 0, G')) (fu i : Nat) (hi : i ≤ 12) : f_X7_parse_l51 F (fu + 1) G3 G4 v (iI 1) (iI (i : Int)) = f_X7_parse_l51 F fu G3 G' v (iI 0) (iI ((i : Int) + 1)) := by
  have e : ¬ (12 : Int) < i := by omega
  show f_X7_parse_l51b F (f_X7_parse_l51 F fu) G3 G4 v _ _ = _
  simp (disch := omega) only [reduceIte, Nat.reduceEqDiff, Nat.reduceAdd, Nat.reduceSub, Nat.reduceMul, Nat.reduceLT, Int.reduceNeg, Int.reduceAdd, Int.reduceSub, Int.reduceMul, Int.reduceLT, Int.reduceLE, Int.reduceEq, Int.reduceToNat, reduceCtorEq, and_self, and_true, true_and, false_and, and_false, or_false, false_or, or_true, true_or, true_implies, false_implies, implies_true, not_true_eq_false, not_false_eq_true, Int.toNat_natCast, Int.cast_ofNat_Int, eq_self, ne_eq, ite_true, ite_false, if_true, if_false, Int.add_sub_cancel, Int.sub_add_cancel, Int.add_zero, Int.zero_add, cast_s, iI_in, iI_lit, iI_le, iI_lt, iI_eq, iI_cl, iI_add, iI_sub, iI_mul, iI_neg, iI_nI, ok_s, ok_ck, ok_bn, ok_ob, ck_iI, bn_eq, ob_s, om_n, om_s, cb_bI, gI_g, gI_2, gJ_1, gJ_g, gJ_2, gR_1, gR_2, gR_g, within_v, in_v, bI_i0, bI_i1, iI_bI0, iI_bI1, bI_T, bI_F, f_X7_parse_l51b, e, h]
theorem l51_go {G1 G' : Grp} {x : Int32} (hx : x = iI 0 ∨ x = iI 1) (h : f_X7_parseHead F G3 G4 v = some (iI 1, G1)) (h2 : f_X7_parsePattern F G3 G1 v = some (x, G')) (fu i : Nat) (hi : i ≤ 12) : f_X7_parse_l51 F (fu + 1) G3 G4 v (iI 1) (iI (i : Int)) = f_X7_parse_l51 F fu G3 G' v x (iI ((i : Int) + 1)) := by
  have e : ¬ (12 : Int) < i := by omega
  show f_X7_parse_l51b F (f_X7_parse_l51 F fu) G3 G4 v _ _ = _
  rcases hx with q | q
  · subst q
    simp (disch := omega) only [reduceIte, Nat.reduceEqDiff, Nat.reduceAdd, Nat.reduceSub, Nat.reduceMul, Nat.reduceLT, Int.reduceNeg, Int.reduceAdd, Int.reduceSub, Int.reduceMul, Int.reduceLT, Int.reduceLE, Int.reduceEq, Int.reduceToNat, reduceCtorEq, and_self, and_true, true_and, false_and, and_false, or_false, false_or, or_true, true_or, true_implies, false_implies, implies_true, not_true_eq_false, not_false_eq_true, Int.toNat_natCast, Int.cast_ofNat_Int, eq_self, ne_eq, ite_true, ite_false, if_true, if_false, Int.add_sub_cancel, Int.sub_add_cancel, Int.add_zero, Int.zero_add, cast_s, iI_in, iI_lit, iI_le, iI_lt, iI_eq, iI_cl, iI_add, iI_sub, iI_mul, iI_neg, iI_nI, ok_s, ok_ck, ok_bn, ok_ob, ck_iI, bn_eq, ob_s, om_n, om_s, cb_bI, gI_g, gI_2, gJ_1, gJ_g, gJ_2, gR_1, gR_2, gR_g, within_v, in_v, bI_i0, bI_i1, iI_bI0, iI_bI1, bI_T, bI_F, f_X7_parse_l51b, e, h, h2]
  · subst q
    simp (disch := omega) only [reduceIte, Nat.reduceEqDiff, Nat.reduceAdd, Nat.reduceSub, Nat.reduceMul, Nat.reduceLT, Int.reduceNeg, Int.reduceAdd, Int.reduceSub, Int.reduceMul, Int.reduceLT, Int.reduceLE, Int.reduceEq, Int.reduceToNat, reduceCtorEq, and_self, and_true, true_and, false_and, and_false, or_false, false_or, or_true, true_or, true_implies, false_implies, implies_true, not_true_eq_false, not_false_eq_true, Int.toNat_natCast, Int.cast_ofNat_Int, eq_self, ne_eq, ite_true, ite_false, if_true, if_false, Int.add_sub_cancel, Int.sub_add_cancel, Int.add_zero, Int.zero_add, cast_s, iI_in, iI_lit, iI_le, iI_lt, iI_eq, iI_cl, iI_add, iI_sub, iI_mul, iI_neg, iI_nI, ok_s, ok_ck, ok_bn, ok_ob, ck_iI, bn_eq, ob_s, om_n, om_s, cb_bI, gI_g, gI_2, gJ_1, gJ_g, gJ_2, gR_1, gR_2, gR_g, within_v, in_v, bI_i0, bI_i1, iI_bI0, iI_bI1, bI_T, bI_F, f_X7_parse_l51b, e, h, h2]
theorem RTU.bad {r S cnt p : Nat} {gl rt : Nat → Nat} {dc : Nat → Int} {k : Int} {G4o G28o : Grp} (hk : k = 1000 ∨ k = 2000) (hp : p ≤ 300) (ho : G4o.2 = G4.2 ∧ ∀ x k, (x < v ∨ v + 9 < x) → G4o.1 x k = G4.1 x k) (h1 : f_X7_parseHead F G3 G4 v = some (iI 0, gI G4o v 11 (iI (k + p)))) (h2 : f_X12_readsRule F G27 G28 = some (iI 0, gI G28o 91 23 (iI (k + p)))) : RTU F v n r S cnt b G3 G27 G4 G28 gl rt dc := by
  refine Or.inl ⟨_, _, k + p, l51_bad h1, h2, ?_, ?_, by omega, ho.1, fun x j hx => by rw [gI_g, if_neg (by omega)]; exact ho.2 x j hx⟩
  · rw [gI_g, if_pos ⟨rfl, rfl⟩]
  · rw [gI_g, if_pos ⟨rfl, rfl⟩]
/-- behind the head, at the colon -/
theorem colon {p0 r S cnt : Nat} {gl rt : Nat → Nat} {dc : Nat → Int} {d : Int} {dd hh : Int32} {Gs Ms : Grp} (ht : TPE G3 G27 n b) (hF : 200000 ≤ F) (H : RUS G4 G28 v n p0 r S cnt gl rt dc) (hD : DOE dd hh d) (hr : r < 12) (hp0 : p0 + 1 ≤ p) (hpn : p ≤ n)
    (hC : f_X7_parseHead F G3 G4 v = f_X7_parseHead_b106 F G3 Gs v dd hh) (hM : f_X12_readsRule F G27 G28 = f_X12_readsRule_b110 F G27 Ms (iI d)) (s1 : ∀ x k, (x ≠ v ∨ k ≠ 10) → Gs.1 x k = G4.1 x k) (s2 : Gs.1 v 10 = iI p) (s3 : Gs.2 = G4.2) (m1 : ∀ x k, (x ≠ 91 ∨ k ≠ 21) → Ms.1 x k = G28.1 x k) (m2 : Ms.1 91 21 = iI p) (m3 : Ms.2 = G28.2) : RTU F v n r S cnt b G3 G27 G4 G28 gl rt dc := by
  obtain ⟨T1, T2, T3, T4⟩ := id ht
  obtain ⟨R1, R2, R3, R4, ⟨R5, R6, R7⟩, R8, R9, R10, R11, R12, R13, R14⟩ := id H
  have bc := b106_v (F := F) ht ((s1 v 9 (by omega)).trans R3) s2 (by rw [s3]; exact R4) ((s1 v 7 (by omega)).trans R2) hr (by omega) dd hh
  by_cases c : p < n ∧ b p = 58
  · rw [if_pos c] at bc
    -- the pattern
    have h3 : (hdC Gs v r p dd hh).1 v 3 = iI S := by
      unfold hdC
      simp (disch := omega) only [reduceIte, Nat.reduceEqDiff, Nat.reduceAdd, Nat.reduceSub, Nat.reduceMul, Nat.reduceLT, Int.reduceNeg, Int.reduceAdd, Int.reduceSub, Int.reduceMul, Int.reduceLT, Int.reduceLE, Int.reduceEq, Int.reduceToNat, reduceCtorEq, and_self, and_true, true_and, false_and, and_false, or_false, false_or, or_true, true_or, true_implies, false_implies, implies_true, not_true_eq_false, not_false_eq_true, Int.toNat_natCast, Int.cast_ofNat_Int, eq_self, ne_eq, ite_true, ite_false, if_true, if_false, Int.add_sub_cancel, Int.sub_add_cancel, Int.add_zero, Int.zero_add, cast_s, iI_in, iI_lit, iI_le, iI_lt, iI_eq, iI_cl, iI_add, iI_sub, iI_mul, iI_neg, iI_nI, ok_s, ok_ck, ok_bn, ok_ob, ck_iI, bn_eq, ob_s, om_n, om_s, cb_bI, gI_g, gI_2, gJ_1, gJ_g, gJ_2, gR_1, gR_2, gR_g, within_v, in_v, bI_i0, bI_i1, iI_bI0, iI_bI1, bI_T, bI_F, va1, va2, va3]
      rw [s1 v 3 (by omega)]; exact R1
    have h7 : (hdC Gs v r p dd hh).1 v 7 = iI r := by
      unfold hdC
      simp (disch := omega) only [reduceIte, Nat.reduceEqDiff, Nat.reduceAdd, Nat.reduceSub, Nat.reduceMul, Nat.reduceLT, Int.reduceNeg, Int.reduceAdd, Int.reduceSub, Int.reduceMul, Int.reduceLT, Int.reduceLE, Int.reduceEq, Int.reduceToNat, reduceCtorEq, and_self, and_true, true_and, false_and, and_false, or_false, false_or, or_true, true_or, true_implies, false_implies, implies_true, not_true_eq_false, not_false_eq_true, Int.toNat_natCast, Int.cast_ofNat_Int, eq_self, ne_eq, ite_true, ite_false, if_true, if_false, Int.add_sub_cancel, Int.sub_add_cancel, Int.add_zero, Int.zero_add, cast_s, iI_in, iI_lit, iI_le, iI_lt, iI_eq, iI_cl, iI_add, iI_sub, iI_mul, iI_neg, iI_nI, ok_s, ok_ck, ok_bn, ok_ob, ck_iI, bn_eq, ob_s, om_n, om_s, cb_bI, gI_g, gI_2, gJ_1, gJ_g, gJ_2, gR_1, gR_2, gR_g, within_v, in_v, bI_i0, bI_i1, iI_bI0, iI_bI1, bI_T, bI_F, va1, va2, va3]
      rw [s1 v 7 (by omega)]; exact R2
    have h9 : (hdC Gs v r p dd hh).1 v 9 = iI n := by
      unfold hdC
      simp (disch := omega) only [reduceIte, Nat.reduceEqDiff, Nat.reduceAdd, Nat.reduceSub, Nat.reduceMul, Nat.reduceLT, Int.reduceNeg, Int.reduceAdd, Int.reduceSub, Int.reduceMul, Int.reduceLT, Int.reduceLE, Int.reduceEq, Int.reduceToNat, reduceCtorEq, and_self, and_true, true_and, false_and, and_false, or_false, false_or, or_true, true_or, true_implies, false_implies, implies_true, not_true_eq_false, not_false_eq_true, Int.toNat_natCast, Int.cast_ofNat_Int, eq_self, ne_eq, ite_true, ite_false, if_true, if_false, Int.add_sub_cancel, Int.sub_add_cancel, Int.add_zero, Int.zero_add, cast_s, iI_in, iI_lit, iI_le, iI_lt, iI_eq, iI_cl, iI_add, iI_sub, iI_mul, iI_neg, iI_nI, ok_s, ok_ck, ok_bn, ok_ob, ck_iI, bn_eq, ob_s, om_n, om_s, cb_bI, gI_g, gI_2, gJ_1, gJ_g, gJ_2, gR_1, gR_2, gR_g, within_v, in_v, bI_i0, bI_i1, iI_bI0, iI_bI1, bI_T, bI_F, va1, va2, va3]
      rw [s1 v 9 (by omega)]; exact R3
    have h10 : (hdC Gs v r p dd hh).1 v 10 = iI ((p + 1 : Nat) : Int) := by
      unfold hdC
      simp (disch := omega) only [reduceIte, Nat.reduceEqDiff, Nat.reduceAdd, Nat.reduceSub, Nat.reduceMul, Nat.reduceLT, Int.reduceNeg, Int.reduceAdd, Int.reduceSub, Int.reduceMul, Int.reduceLT, Int.reduceLE, Int.reduceEq, Int.reduceToNat, reduceCtorEq, and_self, and_true, true_and, false_and, and_false, or_false, false_or, or_true, true_or, true_implies, false_implies, implies_true, not_true_eq_false, not_false_eq_true, Int.toNat_natCast, Int.cast_ofNat_Int, eq_self, ne_eq, ite_true, ite_false, if_true, if_false, Int.add_sub_cancel, Int.sub_add_cancel, Int.add_zero, Int.zero_add, cast_s, iI_in, iI_lit, iI_le, iI_lt, iI_eq, iI_cl, iI_add, iI_sub, iI_mul, iI_neg, iI_nI, ok_s, ok_ck, ok_bn, ok_ob, ck_iI, bn_eq, ob_s, om_n, om_s, cb_bI, gI_g, gI_2, gJ_1, gJ_g, gJ_2, gR_1, gR_2, gR_g, within_v, in_v, bI_i0, bI_i1, iI_bI0, iI_bI1, bI_T, bI_F, va1, va2, va3]
    have h8 : (hdC Gs v r p dd hh).2.2 v 8 = some 1 := by
      show Gs.2.2 v 8 = some 1
      rw [s3]; exact R4
    have hx : ∀ x k, (x < v ∨ v + 9 < x) → (hdC Gs v r p dd hh).1 x k = G4.1 x k := fun x k hx => by
      unfold hdC
      rw [gI_g, if_neg (by omega), gI_g, if_neg (by omega), gI_g, if_neg (by omega)]
      exact s1 x k (by omega)
    have h11 : (hdC Gs v r p dd hh).1 v 11 = G4.1 v 11 := by
      unfold hdC
      rw [gI_g, if_neg (by omega), gI_g, if_neg (by omega), gI_g, if_neg (by omega)]
      exact s1 v 11 (by omega)
    have h5 : ∀ i, (hdC Gs v r p dd hh).1 (v + 5) i = if i = r then dd else G4.1 (v + 5) i := fun i => by
      unfold hdC
      rw [gI_g, if_neg (by omega), gI_g]
      by_cases e : i = r
      · rw [if_pos ⟨rfl, e⟩, if_pos e]
      · rw [if_neg (fun z => e z.2), if_neg e, gI_g, if_neg (by omega)]
        exact s1 _ _ (by omega)
    have h6 : ∀ i, (hdC Gs v r p dd hh).1 (v + 6) i = if i = r then hh else G4.1 (v + 6) i := fun i => by
      unfold hdC
      rw [gI_g]
      by_cases e : i = r
      · rw [if_pos ⟨rfl, e⟩, if_pos e]
      · rw [if_neg (fun z => e z.2), if_neg e, gI_g, if_neg (by omega), gI_g, if_neg (by omega)]
        exact s1 _ _ (by omega)
    have h4 : ar (hdC Gs v r p dd hh) (v + 4) = ar G4 (v + 4) := ar_ext fun k => by
      unfold hdC
      rw [gI_g, if_neg (by omega), gI_g, if_neg (by omega), gI_g, if_neg (by omega)]
      exact s1 _ _ (by omega)
    have hg : gph (hdC Gs v r p dd hh) v = gph G4 v := by
      have e : ∀ j, j = v + 1 ∨ j = v + 2 ∨ j = v + 3 → ar (hdC Gs v r p dd hh) j = ar G4 j := fun j hj => ar_ext fun k => by
        unfold hdC
        rw [gI_g, if_neg (by omega), gI_g, if_neg (by omega), gI_g, if_neg (by omega)]
        exact s1 _ _ (by omega)
      unfold gph
      rw [e _ (Or.inl rfl), e _ (Or.inr (Or.inl rfl)), e _ (Or.inr (Or.inr rfl))]
    have hr2 : (hdC Gs v r p dd hh).2 = G4.2 := s3
    generalize hdC Gs v r p dd hh = Gh at *
    have g1 : ∀ x k, (x ≠ 91 ∨ k ≠ 21) → (gI Ms 91 21 (iI ((p : Int) + 1))).1 x k = G28.1 x k := fun x k hx => by
      rw [gI_g, if_neg (by omega)]; exact m1 x k hx
    have gp : prt (gI Ms 91 21 (iI ((p : Int) + 1))) = prt G28 := by
      have e : ∀ j, j ≠ 91 → ar (gI Ms 91 21 (iI ((p : Int) + 1))) j = ar G28 j := fun j hj => ar_ext fun k => g1 j k (Or.inl hj)
      unfold prt
      rw [e 111 (by omega), e 112 (by omega), e 113 (by omega), e 114 (by omega)]
    have g21 : (gI Ms 91 21 (iI ((p : Int) + 1))).1 91 21 = iI ((p + 1 : Nat) : Int) := by
      rw [gI_g, if_pos ⟨rfl, rfl⟩]; rfl
    obtain ⟨Go, M2, u1, u2, u3, u4, u5, u6⟩ := pat_both (F := F) (cnt := cnt) ht hF h3 h7 h9 h10 h8 ((g1 91 22 (by omega)).trans R5) g21 ((g1 91 39 (by omega)).trans R6) ((g1 91 40 (by omega)).trans R7) (by rw [gp]; exact R8) hr (by omega)
    rcases u6 with ⟨A1, A2, fl, a1, a2, a3, a4, a5, a6, a7⟩ | ⟨A1, A2, p', S', cnt', q, a1, a2, a3, a4, a5, a6, a7, a8, a9⟩
    · have br := b110_no (F := F) ht ((m1 91 22 (by omega)).trans R5) m2 (by omega) c (iI d) a2
      refine Or.inl ⟨A1, A2, fl, l51_go (Or.inl rfl) (hC.trans bc) a1, hM.trans br, a3, a4, a5, ?_, fun x k hx' => ?_⟩
      · rw [a6, u1.1]; exact hr2
      · rw [a7 x k hx', u1.2.1 x k hx']; exact hx x k hx'
    · obtain ⟨p1, p2, p3, p4, p5, p6, p7, p8, p9, ⟨p10, p11, p12⟩, p13⟩ := a6
      obtain ⟨q1, q2, q3, q4, q5⟩ := id p4
      have br := b110_yes (F := F) (r := r) ht ((m1 91 22 (by omega)).trans R5) m2 (by omega) c (iI d) a2 q4 hr p5
      have fr : ∀ x k, (x ≠ 111 ∧ x ≠ 112 ∧ x ≠ 113 ∧ x ≠ 114 ∧ x ≠ 119 ∧ x ≠ 120 ∧ x ≠ 121 ∧ (x ≠ 91 ∨ (k ≠ 21 ∧ k ≠ 39 ∧ k ≠ 41))) → A2.1 x k = G28.1 x k := fun x k hx' => by
        rw [a9.2.1 x k hx', u5.2.1 x k hx']; exact g1 x k (by omega)
      have ag : agp (prt G28) (prt A2) cnt := by
        rw [← gp]
        exact u5.2.2.tr a9.2.2 (Nat.le_refl _)
      have pf : prt (gI (gI (gI A2 117 r (iI d)) 118 r (iI q)) 91 40 (iI ((r : Int) + 1))) = prt A2 := rfl
      refine Or.inr ⟨hr, A1, _, p', S', cnt', q, d, l51_go (by split; exact Or.inr rfl; exact Or.inl rfl) (hC.trans bc) a1, hM.trans br, a3, a4, a5, ?_, ⟨p1, ?_, p2, p3, ⟨?_, ?_, ?_⟩, p7, ?_, upN_t _ _ _, fun i hi => ?_, p10, p11, a3⟩, ?_, ?_, fun x k hx' => ?_⟩
      · simp (disch := omega) only [reduceIte, Nat.reduceEqDiff, Nat.reduceAdd, Nat.reduceSub, Nat.reduceMul, Nat.reduceLT, Int.reduceNeg, Int.reduceAdd, Int.reduceSub, Int.reduceMul, Int.reduceLT, Int.reduceLE, Int.reduceEq, Int.reduceToNat, reduceCtorEq, and_self, and_true, true_and, false_and, and_false, or_false, false_or, or_true, true_or, true_implies, false_implies, implies_true, not_true_eq_false, not_false_eq_true, Int.toNat_natCast, Int.cast_ofNat_Int, eq_self, ne_eq, ite_true, ite_false, if_true, if_false, Int.add_sub_cancel, Int.sub_add_cancel, Int.add_zero, Int.zero_add, cast_s, iI_in, iI_lit, iI_le, iI_lt, iI_eq, iI_cl, iI_add, iI_sub, iI_mul, iI_neg, iI_nI, ok_s, ok_ck, ok_bn, ok_ob, ck_iI, bn_eq, ob_s, om_n, om_s, cb_bI, gI_g, gI_2, gJ_1, gJ_g, gJ_2, gR_1, gR_2, gR_g, within_v, in_v, bI_i0, bI_i1, iI_bI0, iI_bI1, bI_T, bI_F, q2]
      · rw [a8.2.1]; exact u2
      · simp (disch := omega) only [reduceIte, Nat.reduceEqDiff, Nat.reduceAdd, Nat.reduceSub, Nat.reduceMul, Nat.reduceLT, Int.reduceNeg, Int.reduceAdd, Int.reduceSub, Int.reduceMul, Int.reduceLT, Int.reduceLE, Int.reduceEq, Int.reduceToNat, reduceCtorEq, and_self, and_true, true_and, false_and, and_false, or_false, false_or, or_true, true_or, true_implies, false_implies, implies_true, not_true_eq_false, not_false_eq_true, Int.toNat_natCast, Int.cast_ofNat_Int, eq_self, ne_eq, ite_true, ite_false, if_true, if_false, Int.add_sub_cancel, Int.sub_add_cancel, Int.add_zero, Int.zero_add, cast_s, iI_in, iI_lit, iI_le, iI_lt, iI_eq, iI_cl, iI_add, iI_sub, iI_mul, iI_neg, iI_nI, ok_s, ok_ck, ok_bn, ok_ob, ck_iI, bn_eq, ob_s, om_n, om_s, cb_bI, gI_g, gI_2, gJ_1, gJ_g, gJ_2, gR_1, gR_2, gR_g, within_v, in_v, bI_i0, bI_i1, iI_bI0, iI_bI1, bI_T, bI_F, q1]
      · simp (disch := omega) only [reduceIte, Nat.reduceEqDiff, Nat.reduceAdd, Nat.reduceSub, Nat.reduceMul, Nat.reduceLT, Int.reduceNeg, Int.reduceAdd, Int.reduceSub, Int.reduceMul, Int.reduceLT, Int.reduceLE, Int.reduceEq, Int.reduceToNat, reduceCtorEq, and_self, and_true, true_and, false_and, and_false, or_false, false_or, or_true, true_or, true_implies, false_implies, implies_true, not_true_eq_false, not_false_eq_true, Int.toNat_natCast, Int.cast_ofNat_Int, eq_self, ne_eq, ite_true, ite_false, if_true, if_false, Int.add_sub_cancel, Int.sub_add_cancel, Int.add_zero, Int.zero_add, cast_s, iI_in, iI_lit, iI_le, iI_lt, iI_eq, iI_cl, iI_add, iI_sub, iI_mul, iI_neg, iI_nI, ok_s, ok_ck, ok_bn, ok_ob, ck_iI, bn_eq, ob_s, om_n, om_s, cb_bI, gI_g, gI_2, gJ_1, gJ_g, gJ_2, gR_1, gR_2, gR_g, within_v, in_v, bI_i0, bI_i1, iI_bI0, iI_bI1, bI_T, bI_F, q3]
      · simp (disch := omega) only [reduceIte, Nat.reduceEqDiff, Nat.reduceAdd, Nat.reduceSub, Nat.reduceMul, Nat.reduceLT, Int.reduceNeg, Int.reduceAdd, Int.reduceSub, Int.reduceMul, Int.reduceLT, Int.reduceLE, Int.reduceEq, Int.reduceToNat, reduceCtorEq, and_self, and_true, true_and, false_and, and_false, or_false, false_or, or_true, true_or, true_implies, false_implies, implies_true, not_true_eq_false, not_false_eq_true, Int.toNat_natCast, Int.cast_ofNat_Int, eq_self, ne_eq, ite_true, ite_false, if_true, if_false, Int.add_sub_cancel, Int.sub_add_cancel, Int.add_zero, Int.zero_add, cast_s, iI_in, iI_lit, iI_le, iI_lt, iI_eq, iI_cl, iI_add, iI_sub, iI_mul, iI_neg, iI_nI, ok_s, ok_ck, ok_bn, ok_ob, ck_iI, bn_eq, ob_s, om_n, om_s, cb_bI, gI_g, gI_2, gJ_1, gJ_g, gJ_2, gR_1, gR_2, gR_g, within_v, in_v, bI_i0, bI_i1, iI_bI0, iI_bI1, bI_T, bI_F]
      · rw [upN_f _ _ (by omega)]; exact R9
      · have d5 : A1.1 (v + 5) i = Gh.1 (v + 5) i := (a8.1.2.2.1 i).1.trans (u1.2.2.1 i).1
        have d6 : A1.1 (v + 6) i = Gh.1 (v + 6) i := (a8.1.2.2.1 i).2.trans (u1.2.2.1 i).2
        rw [d5, d6, h5, h6, a8.2.2.1, u3, h4, pf]
        by_cases e : i = r
        · rw [e, upN_f _ _ (by omega), upN_t, upN_t, R10, if_pos rfl, if_pos rfl, up_t, up_t]
          refine ⟨⟨p12, p6, p9, p8, p13⟩, rfl, hD, ?_, ?_⟩
          · simp (disch := omega) only [reduceIte, Nat.reduceEqDiff, Nat.reduceAdd, Nat.reduceSub, Nat.reduceMul, Nat.reduceLT, Int.reduceNeg, Int.reduceAdd, Int.reduceSub, Int.reduceMul, Int.reduceLT, Int.reduceLE, Int.reduceEq, Int.reduceToNat, reduceCtorEq, and_self, and_true, true_and, false_and, and_false, or_false, false_or, or_true, true_or, true_implies, false_implies, implies_true, not_true_eq_false, not_false_eq_true, Int.toNat_natCast, Int.cast_ofNat_Int, eq_self, ne_eq, ite_true, ite_false, if_true, if_false, Int.add_sub_cancel, Int.sub_add_cancel, Int.add_zero, Int.zero_add, cast_s, iI_in, iI_lit, iI_le, iI_lt, iI_eq, iI_cl, iI_add, iI_sub, iI_mul, iI_neg, iI_nI, ok_s, ok_ck, ok_bn, ok_ob, ck_iI, bn_eq, ob_s, om_n, om_s, cb_bI, gI_g, gI_2, gJ_1, gJ_g, gJ_2, gR_1, gR_2, gR_g, within_v, in_v, bI_i0, bI_i1, iI_bI0, iI_bI1, bI_T, bI_F]
          · simp (disch := omega) only [reduceIte, Nat.reduceEqDiff, Nat.reduceAdd, Nat.reduceSub, Nat.reduceMul, Nat.reduceLT, Int.reduceNeg, Int.reduceAdd, Int.reduceSub, Int.reduceMul, Int.reduceLT, Int.reduceLE, Int.reduceEq, Int.reduceToNat, reduceCtorEq, and_self, and_true, true_and, false_and, and_false, or_false, false_or, or_true, true_or, true_implies, false_implies, implies_true, not_true_eq_false, not_false_eq_true, Int.toNat_natCast, Int.cast_ofNat_Int, eq_self, ne_eq, ite_true, ite_false, if_true, if_false, Int.add_sub_cancel, Int.sub_add_cancel, Int.add_zero, Int.zero_add, cast_s, iI_in, iI_lit, iI_le, iI_lt, iI_eq, iI_cl, iI_add, iI_sub, iI_mul, iI_neg, iI_nI, ok_s, ok_ck, ok_bn, ok_ob, ck_iI, bn_eq, ob_s, om_n, om_s, cb_bI, gI_g, gI_2, gJ_1, gJ_g, gJ_2, gR_1, gR_2, gR_g, within_v, in_v, bI_i0, bI_i1, iI_bI0, iI_bI1, bI_T, bI_F]
        · have hi : i < r := by omega
          obtain ⟨z1, z2, z3, z4, z5⟩ := R11 i hi
          have gi1 : gl (i + 1) ≤ S := by
            have key : ∀ j, j ≤ r → ∀ k, k ≤ j → gl k ≤ gl j := by
              intro j
              induction j with
              | zero => intro _ k hk; rw [show k = 0 by omega]; exact Nat.le_refl _
              | succ j ihj =>
                intro hj k hk
                by_cases e : k = j + 1
                · rw [e]; exact Nat.le_refl _
                · have := ihj (by omega) k (by omega)
                  have := (R11 j (by omega)).1.1
                  omega
            rw [← R10]; exact key r (Nat.le_refl _) (i + 1) (by omega)
          rw [upN_f _ _ (by omega), upN_f _ _ (by omega), upN_f _ _ e, if_neg e, if_neg e, up_f _ _ e, up_f _ _ e]
          have sm2 : sam (gph G4 v) (gph A1 v) 0 S := by rw [← hg]; exact u4.tr a8.2.2.2
          refine ⟨z1.to (sm2.sub (Nat.zero_le _) gi1) ag a7, z2, z3, ?_, ?_⟩
          · simp (disch := omega) only [reduceIte, Nat.reduceEqDiff, Nat.reduceAdd, Nat.reduceSub, Nat.reduceMul, Nat.reduceLT, Int.reduceNeg, Int.reduceAdd, Int.reduceSub, Int.reduceMul, Int.reduceLT, Int.reduceLE, Int.reduceEq, Int.reduceToNat, reduceCtorEq, and_self, and_true, true_and, false_and, and_false, or_false, false_or, or_true, true_or, true_implies, false_implies, implies_true, not_true_eq_false, not_false_eq_true, Int.toNat_natCast, Int.cast_ofNat_Int, eq_self, ne_eq, ite_true, ite_false, if_true, if_false, Int.add_sub_cancel, Int.sub_add_cancel, Int.add_zero, Int.zero_add, cast_s, iI_in, iI_lit, iI_le, iI_lt, iI_eq, iI_cl, iI_add, iI_sub, iI_mul, iI_neg, iI_nI, ok_s, ok_ck, ok_bn, ok_ob, ck_iI, bn_eq, ob_s, om_n, om_s, cb_bI, gI_g, gI_2, gJ_1, gJ_g, gJ_2, gR_1, gR_2, gR_g, within_v, in_v, bI_i0, bI_i1, iI_bI0, iI_bI1, bI_T, bI_F, e]
            rw [fr 117 i (by omega)]; exact z4
          · simp (disch := omega) only [reduceIte, Nat.reduceEqDiff, Nat.reduceAdd, Nat.reduceSub, Nat.reduceMul, Nat.reduceLT, Int.reduceNeg, Int.reduceAdd, Int.reduceSub, Int.reduceMul, Int.reduceLT, Int.reduceLE, Int.reduceEq, Int.reduceToNat, reduceCtorEq, and_self, and_true, true_and, false_and, and_false, or_false, false_or, or_true, true_or, true_implies, false_implies, implies_true, not_true_eq_false, not_false_eq_true, Int.toNat_natCast, Int.cast_ofNat_Int, eq_self, ne_eq, ite_true, ite_false, if_true, if_false, Int.add_sub_cancel, Int.sub_add_cancel, Int.add_zero, Int.zero_add, cast_s, iI_in, iI_lit, iI_le, iI_lt, iI_eq, iI_cl, iI_add, iI_sub, iI_mul, iI_neg, iI_nI, ok_s, ok_ck, ok_bn, ok_ob, ck_iI, bn_eq, ob_s, om_n, om_s, cb_bI, gI_g, gI_2, gJ_1, gJ_g, gJ_2, gR_1, gR_2, gR_g, within_v, in_v, bI_i0, bI_i1, iI_bI0, iI_bI1, bI_T, bI_F, e]
            rw [fr 118 i (by omega)]; exact z5
      · rw [a8.1.2.2.2, u1.2.2.2]; exact h11
      · rw [a8.1.1, u1.1]; exact hr2
      · rw [a8.1.2.1 x k hx', u1.2.1 x k hx']; exact hx x k hx'
  · rw [if_neg c] at bc
    have br := b110_bad (F := F) ht ((m1 91 22 (by omega)).trans R5) m2 (by omega) c (iI d)
    exact RTU.bad (G4o := Gs) (p := p) (Or.inl rfl) (by omega) ⟨s3, fun x k hx => s1 x k (by omega)⟩ (hC.trans bc) (hM.trans br)
end PR
