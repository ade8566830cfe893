/-! a letter that passes -/
def ctL (L : Nat → Nat → Int) (i : Nat) (a b : Int) : Nat → Nat → Int := fun j k => if j = i then (if k = 6 then a else if k = 7 then b else L j k) else L j k
theorem ctL_6 {L : Nat → Nat → Int} {i : Nat} {a b : Int} : ctL L i a b i 6 = a := by
  unfold ctL
  rw [if_pos rfl, if_pos rfl]
theorem ctL_7 {L : Nat → Nat → Int} {i : Nat} {a b : Int} : ctL L i a b i 7 = b := by
  unfold ctL
  rw [if_pos rfl, if_neg (by decide), if_pos rfl]
theorem ctL_o {L : Nat → Nat → Int} {i j k : Nat} {a b : Int} (h : j ≠ i ∨ (k ≠ 6 ∧ k ≠ 7)) : ctL L i a b j k = L j k := by
  unfold ctL
  by_cases e : j = i
  · rw [if_pos e, if_neg (by omega), if_neg (by omega)]
  · rw [if_neg e]
theorem KP.ct {ln : Nat} {L : Nat → Nat → Int} {i : Nat} {a b : Int} : KP ln L (ctL L i a b) := fun j hj => by
  rw [ctL_o (Or.inr (by omega)), ctL_o (Or.inr (by omega)), ctL_o (Or.inr (by omega)), ctL_o (Or.inr (by omega))]
  exact ⟨rfl, rfl, Iff.rfl, Iff.rfl, fun _ => rfl⟩
theorem RSil.pk {pn d ln : Nat} {P P' L : Nat → Nat → Int} (h : RSil pn d ln P L) (hp : ∀ p, p < pn → P' p 3 = P p 3 ∧ P' p 6 = P p 6 ∧ P' p 8 = P p 8) : RSil pn d ln P' L := fun p hpp => by
  obtain ⟨a1, a2, a3⟩ := hp p hpp
  rw [a1, a2, a3]
  exact h p hpp
theorem RHand.put {G12 G36 : Grp} (h : RHand G12 G36) (x : Nat) (u : Int32) : RHand (gI G12 50 x u) (gI G36 148 x u) := ⟨fun k hk => by
  rw [gI_g, gI_g, if_neg (by omega), if_neg (by omega)]; exact h.1 k hk, fun k hk => by
  rw [gI_g, gI_g]
  by_cases e : k = x
  · rw [if_pos ⟨rfl, e⟩, if_pos ⟨rfl, e⟩]
  · rw [if_neg fun z => e z.2, if_neg fun z => e z.2]; exact h.2 k hk⟩
theorem RHand.one {G12 G36 : Grp} (h : RHand G12 G36) (x : Nat) (u : Int32) : RHand (gI G12 49 x u) (gI G36 147 x u) := ⟨fun k hk => by
  rw [gI_g, gI_g]
  by_cases e : k = x
  · rw [if_pos ⟨rfl, e⟩, if_pos ⟨rfl, e⟩]
  · rw [if_neg fun z => e z.2, if_neg fun z => e z.2]; exact h.1 k hk, fun k hk => by
  rw [gI_g, gI_g, if_neg (by omega), if_neg (by omega)]; exact h.2 k hk⟩
section PR
variable {F : Nat} {G1 G2 G3 G4 G5 G6 G7 G8 G9 G10 G11 G12 G13 G14 G15 G23 G24 G25 G26 G29 G30 G32 G33 G34 G35 G36 G41 : Grp} {vn gn cn d n pn ln tn sn v sp S cnt r m : Nat} {tp tl Ln gl rt : Nat → Nat} {P L T : Nat → Nat → Int} {X : Nat → Nat → Nat} {f : Nat → Int} {dc : Nat → Int} {fd : Fnd}
theorem LC.ct (hc : LC G10 G13 n ln tp tl L) {G13' : Grp} {i : Nat} {a b : Int} (hi : i < ln) (e1 : G13'.2 = G13.2) (e2 : ∀ x k, ¬ (x = tl i ∧ (k = 6 ∨ k = 7)) → G13'.1 x k = G13.1 x k) (e6 : G13'.1 (tl i) 6 = iI a) (e7 : G13'.1 (tl i) 7 = iI b) : LC G10 G13' n ln tp tl (ctL L i a b) := by
  obtain ⟨h0, h1, h2, h3⟩ := id hc
  refine ⟨h0, fun j hj => ?_, h2, fun x hx => ?_⟩
  · obtain ⟨a1, a2, a3, a4⟩ := h1 j hj
    refine ⟨a1, ?_, fun k hk hl => ?_, a4⟩
    · rw [e1, ctL_o (Or.inr (by omega))]; exact a2
    · by_cases e : j = i
      · subst e
        by_cases k6 : k = 6
        · subst k6; rw [ctL_6]; exact e6
        · by_cases k7 : k = 7
          · subst k7; rw [ctL_7]; exact e7
          · rw [e2 _ _ (by omega), ctL_o (Or.inr ⟨k6, k7⟩)]; exact a3 k hk hl
      · have ne : ¬ tl j = tl i := fun z => e (tl_inj hc hj hi z)
        rw [e2 _ _ (fun z => ne z.1), ctL_o (Or.inl e)]; exact a3 k hk hl
  · have := (h1 i hi).2.2.2.2
    rw [e2 _ _ (by omega)]; exact h3 x hx
theorem LM.ct (hm : LM G32 ln L) {G32' : Grp} {i : Nat} {a b : Int} (hi : i < ln) (e2 : ∀ x k, ¬ (x = 140 ∧ k = i) → ¬ (x = 139 ∧ k = i) → ¬ (x = 143 ∧ 160 * i ≤ k ∧ k < 160 * i + 160) → G32'.1 x k = G32.1 x k) (e6 : G32'.1 139 i = iI a) (e7 : G32'.1 140 i = iI b) : LM G32' ln (ctL L i a b) := by
  obtain ⟨h0, h1, h2⟩ := id hm
  refine ⟨?_, fun j hj k hk => ?_, fun j hj => ?_⟩
  · rw [e2 _ _ (by omega) (by omega) (by omega)]; exact h0
  · obtain ⟨w1, w2, w7, w3, w4, w5, w6, w8⟩ := mc_8 hk
    by_cases e : j = i
    · subst e
      by_cases k6 : k = 6
      · subst k6; rw [ctL_6]; exact e6
      · by_cases k7 : k = 7
        · subst k7; rw [ctL_7]; exact e7
        · rw [e2 _ _ (fun z => k7 (w7.mp z.1)) (fun z => k6 (w6.mp z.1)) (fun z => w3 z.1), ctL_o (Or.inr ⟨k6, k7⟩)]
          exact h1 j hj k hk
    · rw [e2 _ _ (fun z => e z.2) (fun z => e z.2) (fun z => w3 z.1), ctL_o (Or.inl e)]
      exact h1 j hj k hk
  · rw [e2 _ _ (by omega) (by omega) (by omega)]; exact h2 j hj
theorem LB.ct (hb : LB pn d ln L) {i : Nat} {a b : Int} (ha : 0 ≤ a ∧ a ≤ 160) : LB pn d ln (ctL L i a b) := by
  refine ⟨hb.1, fun j hj => ?_⟩
  obtain ⟨p1, p2, p3, p4, p5, p6⟩ := hb.2 j hj
  rw [ctL_o (k := 0) (Or.inr (by omega)), ctL_o (k := 1) (Or.inr (by omega)), ctL_o (k := 8) (Or.inr (by omega)), ctL_o (k := 9) (Or.inr (by omega)), ctL_o (k := 10) (Or.inr (by omega))]
  refine ⟨p1, p2, ?_, p4, p5, p6⟩
  by_cases e : j = i
  · subst e; rw [ctL_6]; exact ha
  · rw [ctL_o (Or.inl e)]; exact p3
theorem TXS.ct (h : TXS G3 G32 ln tl Ln L X) (hc : LC G10 G13 n ln tp tl L) (hb : LB pn d ln L) {G3' G32' : Grp} {i K : Nat} {b : Int} {Y : Nat → Nat} (hi : i < ln) (hK : K ≤ (L i 6).toNat) (e1 : G3'.2 = G3.2) (e2 : ∀ c q, c ≠ tl i + 3 → G3'.1 c q = G3.1 c q) (e3 : ∀ q, q < K → G3'.1 (tl i + 3) q = iI (Y q)) (f1 : ∀ q, q < K → G32'.1 143 (160 * i + q) = iI (Y q)) (f2 : ∀ x k, ¬ (x = 140 ∧ k = i) → ¬ (x = 139 ∧ k = i) → ¬ (x = 143 ∧ 160 * i ≤ k ∧ k < 160 * i + 160) → G32'.1 x k = G32.1 x k) (hy : ∀ q, q < K → isSg (Y q : Int)) : TXS G3' G32' ln tl Ln (ctL L i (K : Int) b) (adX X i Y) := fun j hj => by
  obtain ⟨a1, a2, a3, a4⟩ := h j hj
  rw [e1]
  by_cases e : j = i
  · subst e
    rw [ctL_6, adX_n, Int.toNat_natCast]
    exact ⟨a1, by omega, a3, fun q hq => ⟨e3 q hq, f1 q hq, hy q hq⟩⟩
  · have ne : ¬ tl j + 3 = tl i + 3 := fun z => e (tl_inj hc hj hi (by omega))
    have b6 := (hb.2 j hj).2.2.1
    rw [ctL_o (Or.inl e), adX_o e]
    refine ⟨a1, a2, a3, fun q hq => ?_⟩
    rw [e2 _ _ ne, f2 _ _ (by omega) (by omega) (by omega)]
    exact a4 q hq
theorem marks_both (hk : MKS G14 G33 ln tl) {i h : Nat} (hi : i < ln) (hl : ln ≤ 200) (hh32 : h < 32) (hF : 200000 ≤ F) (v2 : Int32) : ∀ G12 G36, RHand G12 G36 → ∃ G12' G36', f_X6_countMarks_l17 F F G9 G12 G13 G14 (tl i) (iI h) (iI 0) = some G12' ∧ f_X12_passes_l47 F F G23 G24 G25 G29 G30 G32 G33 G36 (iI i) v2 (iI h) (iI 0) = ob (f_X12_cutsOut F G29 G30 G32 (iI i)) (fun q_95 => ob (f_X12_tongueOf F G24 G25 v2 (iI 0)) (fun q_103 => ob (f_X12_tongueOf F G24 G25 v2 (iI 1)) (fun q_109 => if q_103 = q_109 then f_X12_passes_b120 F G23 G24 G25 G29 G30 q_95 G33 G36' (iI i) (iI 5) else f_X12_passes_b120 F G23 G24 G25 G29 G30 q_95 G33 G36' (iI i) (iI 4)))) ∧ RHand G12' G36' := by
  have key := up_ind (n := 4) (Q := fun fu k => ∀ G12 G36, RHand G12 G36 → ∃ G12' G36', f_X6_countMarks_l17 F fu G9 G12 G13 G14 (tl i) (iI h) (iI k) = some G12' ∧ f_X12_passes_l47 F fu G23 G24 G25 G29 G30 G32 G33 G36 (iI i) v2 (iI h) (iI k) = ob (f_X12_cutsOut F G29 G30 G32 (iI i)) (fun q_95 => ob (f_X12_tongueOf F G24 G25 v2 (iI 0)) (fun q_103 => ob (f_X12_tongueOf F G24 G25 v2 (iI 1)) (fun q_109 => if q_103 = q_109 then f_X12_passes_b120 F G23 G24 G25 G29 G30 q_95 G33 G36' (iI i) (iI 5) else f_X12_passes_b120 F G23 G24 G25 G29 G30 q_95 G33 G36' (iI i) (iI 4)))) ∧ RHand G12' G36') ?_ ?_
  · exact key 0 F (by omega) (by omega)
  · intro fu G12 G36 hh
    have e : (4 : Int) ≤ ((4 : Nat) : Int) := by omega
    refine ⟨G12, G36, ?_, rfl, hh⟩
    show f_X6_countMarks_l17b F (f_X6_countMarks_l17 F fu) G9 G12 G13 G14 _ _ _ = _
    simp (disch := omega) only [reduceIte, Nat.reduceEqDiff, Nat.reduceAdd, Nat.reduceSub, Nat.reduceMul, Nat.reduceLT, Int.reduceNeg, Int.reduceAdd, Int.reduceSub, Int.reduceMul, Int.reduceLT, Int.reduceLE, Int.reduceEq, Int.reduceToNat, reduceCtorEq, and_self, and_true, true_and, false_and, and_false, or_false, false_or, or_true, true_or, true_implies, false_implies, implies_true, not_true_eq_false, not_false_eq_true, Int.toNat_natCast, Int.cast_ofNat_Int, eq_self, ne_eq, ite_true, ite_false, if_true, if_false, Int.add_sub_cancel, Int.sub_add_cancel, Int.add_zero, Int.zero_add, cast_s, iI_in, iI_lit, iI_le, iI_lt, iI_eq, iI_cl, iI_add, iI_sub, iI_mul, iI_neg, iI_nI, ok_s, ok_ck, ok_bn, ok_ob, ck_iI, bn_eq, ob_s, om_n, om_s, cb_bI, gI_g, gI_2, gJ_1, gJ_g, gJ_2, gR_1, gR_2, gR_g, within_v, in_v, bI_i0, bI_i1, iI_bI0, iI_bI1, bI_T, bI_F, f_X6_countMarks_l17b, e]
  · intro k fu hk4 ih G12 G36 hh
    have e : ¬ (4 : Int) ≤ k := by omega
    have mk := hk i hi k hk4
    have e1 : ((h : Int) * 4 + (k : Int)).toNat = 4 * h + k := by omega
    have e2 : (4 * (h : Int) + (k : Int)).toNat = 4 * h + k := by omega
    have e3 : (4 * (i : Int) + (k : Int)).toNat = 4 * i + k := by omega
    have h50 := hh.2 (4 * h + k) (by omega)
    obtain ⟨G12', G36', r1, r2, r3⟩ := ih _ _ (hh.put (4 * h + k) (G36.1 148 (4 * h + k) + G33.1 141 (4 * i + k)))
    refine ⟨G12', G36', ?_, ?_, r3⟩
    · show f_X6_countMarks_l17b F (f_X6_countMarks_l17 F fu) G9 G12 G13 G14 _ _ _ = _
      simp (disch := omega) only [reduceIte, Nat.reduceEqDiff, Nat.reduceAdd, Nat.reduceSub, Nat.reduceMul, Nat.reduceLT, Int.reduceNeg, Int.reduceAdd, Int.reduceSub, Int.reduceMul, Int.reduceLT, Int.reduceLE, Int.reduceEq, Int.reduceToNat, reduceCtorEq, and_self, and_true, true_and, false_and, and_false, or_false, false_or, or_true, true_or, true_implies, false_implies, implies_true, not_true_eq_false, not_false_eq_true, Int.toNat_natCast, Int.cast_ofNat_Int, eq_self, ne_eq, ite_true, ite_false, if_true, if_false, Int.add_sub_cancel, Int.sub_add_cancel, Int.add_zero, Int.zero_add, cast_s, iI_in, iI_lit, iI_le, iI_lt, iI_eq, iI_cl, iI_add, iI_sub, iI_mul, iI_neg, iI_nI, ok_s, ok_ck, ok_bn, ok_ob, ck_iI, bn_eq, ob_s, om_n, om_s, cb_bI, gI_g, gI_2, gJ_1, gJ_g, gJ_2, gR_1, gR_2, gR_g, within_v, in_v, bI_i0, bI_i1, iI_bI0, iI_bI1, bI_T, bI_F, f_X6_countMarks_l17b, e, e1, mk, h50]
      exact r1
    · rw [← r2]
      show f_X12_passes_l47b F (f_X12_passes_l47 F fu) G23 G24 G25 G29 G30 G32 G33 G36 _ _ _ _ = _
      unfold f_X12_passes_l47b
      rw [if_n (by rw [show (4 : Int32) = iI 4 from rfl, iI_le (by omega) (by omega) (by omega) (by omega)]; exact e)]
      simp (disch := omega) only [reduceIte, Nat.reduceEqDiff, Nat.reduceAdd, Nat.reduceSub, Nat.reduceMul, Nat.reduceLT, Int.reduceNeg, Int.reduceAdd, Int.reduceSub, Int.reduceMul, Int.reduceLT, Int.reduceLE, Int.reduceEq, Int.reduceToNat, reduceCtorEq, and_self, and_true, true_and, false_and, and_false, or_false, false_or, or_true, true_or, true_implies, false_implies, implies_true, not_true_eq_false, not_false_eq_true, Int.toNat_natCast, Int.cast_ofNat_Int, eq_self, ne_eq, ite_true, ite_false, if_true, if_false, Int.add_sub_cancel, Int.sub_add_cancel, Int.add_zero, Int.zero_add, cast_s, iI_in, iI_lit, iI_le, iI_lt, iI_eq, iI_cl, iI_add, iI_sub, iI_mul, iI_neg, iI_nI, ok_s, ok_ck, ok_bn, ok_ob, ck_iI, bn_eq, ob_s, om_n, om_s, cb_bI, gI_g, gI_2, gJ_1, gJ_g, gJ_2, gR_1, gR_2, gR_g, within_v, in_v, bI_i0, bI_i1, iI_bI0, iI_bI1, bI_T, bI_F, e2, e3]
theorem tong_m (hf : RFolk G6 G24 vn gn cn) (hp : RPair G7 G9 G25 gn cn d n pn tp P) {p : Nat} (hpp : p < pn) : f_X12_tongueOf F G24 G25 (iI p) (iI 0) = some (G24.1 94 (P p 1).toNat) ∧ f_X12_tongueOf F G24 G25 (iI p) (iI 1) = some (G24.1 96 (P p 2).toNat) ∧ f_X3_isOneTongue F G6 G9 (tp p) = some (bI (G24.1 94 (P p 1).toNat = G24.1 96 (P p 2).toNat)) := by
  have hpn := hp.1
  have pr := hp.2.2.2.1 p hpp
  have pb := hp.2.2.2.2.1 p hpp
  obtain ⟨-, -, -, -, -, -, -, -, g1, g2⟩ := id hp
  obtain ⟨v1, v2, v3, v4, v5, v6, v7, v8, v9, va, vb, vc⟩ := id hf
  have w1 := (vb (P p 1).toNat (by omega)).1
  have w2 := (vc (P p 2).toNat (by omega)).2.1
  have r1 := pr.2.2.1 1 (by omega)
  have r2 := pr.2.2.1 2 (by omega)
  have r1' := pr.2.2.2.1
  have r2' := pr.2.2.2.2.1
  refine ⟨?_, ?_, ?_⟩
  · skip
    simp (disch := omega) only [reduceIte, Nat.reduceEqDiff, Nat.reduceAdd, Nat.reduceSub, Nat.reduceMul, Nat.reduceLT, Int.reduceNeg, Int.reduceAdd, Int.reduceSub, Int.reduceMul, Int.reduceLT, Int.reduceLE, Int.reduceEq, Int.reduceToNat, reduceCtorEq, and_self, and_true, true_and, false_and, and_false, or_false, false_or, or_true, true_or, true_implies, false_implies, implies_true, not_true_eq_false, not_false_eq_true, Int.toNat_natCast, Int.cast_ofNat_Int, eq_self, ne_eq, ite_true, ite_false, if_true, if_false, Int.add_sub_cancel, Int.sub_add_cancel, Int.add_zero, Int.zero_add, cast_s, iI_in, iI_lit, iI_le, iI_lt, iI_eq, iI_cl, iI_add, iI_sub, iI_mul, iI_neg, iI_nI, ok_s, ok_ck, ok_bn, ok_ob, ck_iI, bn_eq, ob_s, om_n, om_s, cb_bI, gI_g, gI_2, gJ_1, gJ_g, gJ_2, gR_1, gR_2, gR_g, within_v, in_v, bI_i0, bI_i1, iI_bI0, iI_bI1, bI_T, bI_F, f_X12_tongueOf, r1']
  · skip
    simp (disch := omega) only [reduceIte, Nat.reduceEqDiff, Nat.reduceAdd, Nat.reduceSub, Nat.reduceMul, Nat.reduceLT, Int.reduceNeg, Int.reduceAdd, Int.reduceSub, Int.reduceMul, Int.reduceLT, Int.reduceLE, Int.reduceEq, Int.reduceToNat, reduceCtorEq, and_self, and_true, true_and, false_and, and_false, or_false, false_or, or_true, true_or, true_implies, false_implies, implies_true, not_true_eq_false, not_false_eq_true, Int.toNat_natCast, Int.cast_ofNat_Int, eq_self, ne_eq, ite_true, ite_false, if_true, if_false, Int.add_sub_cancel, Int.sub_add_cancel, Int.add_zero, Int.zero_add, cast_s, iI_in, iI_lit, iI_le, iI_lt, iI_eq, iI_cl, iI_add, iI_sub, iI_mul, iI_neg, iI_nI, ok_s, ok_ck, ok_bn, ok_ob, ck_iI, bn_eq, ob_s, om_n, om_s, cb_bI, gI_g, gI_2, gJ_1, gJ_g, gJ_2, gR_1, gR_2, gR_g, within_v, in_v, bI_i0, bI_i1, iI_bI0, iI_bI1, bI_T, bI_F, f_X12_tongueOf, r2']
  · by_cases c : G24.1 94 (P p 1).toNat = G24.1 96 (P p 2).toNat
    · rw [bI_t c]
      simp (disch := omega) only [reduceIte, Nat.reduceEqDiff, Nat.reduceAdd, Nat.reduceSub, Nat.reduceMul, Nat.reduceLT, Int.reduceNeg, Int.reduceAdd, Int.reduceSub, Int.reduceMul, Int.reduceLT, Int.reduceLE, Int.reduceEq, Int.reduceToNat, reduceCtorEq, and_self, and_true, true_and, false_and, and_false, or_false, false_or, or_true, true_or, true_implies, false_implies, implies_true, not_true_eq_false, not_false_eq_true, Int.toNat_natCast, Int.cast_ofNat_Int, eq_self, ne_eq, ite_true, ite_false, if_true, if_false, Int.add_sub_cancel, Int.sub_add_cancel, Int.add_zero, Int.zero_add, cast_s, iI_in, iI_lit, iI_le, iI_lt, iI_eq, iI_cl, iI_add, iI_sub, iI_mul, iI_neg, iI_nI, ok_s, ok_ck, ok_bn, ok_ob, ck_iI, bn_eq, ob_s, om_n, om_s, cb_bI, gI_g, gI_2, gJ_1, gJ_g, gJ_2, gR_1, gR_2, gR_g, within_v, in_v, bI_i0, bI_i1, iI_bI0, iI_bI1, bI_T, bI_F, f_X3_isOneTongue, r1, r2, w1, w2, c]
    · rw [bI_f c]
      simp (disch := omega) only [reduceIte, Nat.reduceEqDiff, Nat.reduceAdd, Nat.reduceSub, Nat.reduceMul, Nat.reduceLT, Int.reduceNeg, Int.reduceAdd, Int.reduceSub, Int.reduceMul, Int.reduceLT, Int.reduceLE, Int.reduceEq, Int.reduceToNat, reduceCtorEq, and_self, and_true, true_and, false_and, and_false, or_false, false_or, or_true, true_or, true_implies, false_implies, implies_true, not_true_eq_false, not_false_eq_true, Int.toNat_natCast, Int.cast_ofNat_Int, eq_self, ne_eq, ite_true, ite_false, if_true, if_false, Int.add_sub_cancel, Int.sub_add_cancel, Int.add_zero, Int.zero_add, cast_s, iI_in, iI_lit, iI_le, iI_lt, iI_eq, iI_cl, iI_add, iI_sub, iI_mul, iI_neg, iI_nI, ok_s, ok_ck, ok_bn, ok_ob, ck_iI, bn_eq, ob_s, om_n, om_s, cb_bI, gI_g, gI_2, gJ_1, gJ_g, gJ_2, gR_1, gR_2, gR_g, within_v, in_v, bI_i0, bI_i1, iI_bI0, iI_bI1, bI_T, bI_F, f_X3_isOneTongue, r1, r2, w1, w2, c]
theorem pass_both (h : RLet G3 G7 G9 G10 G13 G14 G15 G25 G32 G33 G34 gn cn d n pn ln sn tp tl Ln P L X) (hf : RFolk G6 G24 vn gn cn) (hr : RRul G1 G4 G29 v sp S cnt r gl rt dc) (hh : RHand G12 G36) {i : Nat} (hi : i < ln) (h8 : L i 8 = 2 ∨ L i 8 = 3) (hfc : FA G5 51 0 52 m fd) (hfm : FA G30 91 51 124 m fd) (ho : FO m r (L i 6).toNat fd) (ht : TXM G30 (L i 6).toNat (X i)) (hd : d < 3600) (h23 : G23.1 91 0 = iI d) (hF : 200000 ≤ F) : ∃ G3' G9' G12' G13' G25' G32' G36' P' L' X', f_X6_pass F G3 G4 G5 G6 G9 G12 G13 G14 (tl i) v (iI d) = some (G3', G9', G12', G13') ∧ f_X12_passes F G23 G24 G25 G29 G30 G32 G33 G36 (iI i) = some (G25', G32', G36') ∧ RLet G3' G7 G9' G10 G13' G14 G15 G25' G32' G33 G34 gn cn d n pn ln sn tp tl Ln P' L' X' ∧ RHand G12' G36' ∧ G3'.2 = G3.2 ∧ ∀ a k, a < 174 → G3'.1 a k = G3.1 a k := by
  obtain ⟨hp, hc, hm, hb, hk, hg, hx, hs, hwt, hn⟩ := id h
  have hl := hb.1
  have hpn := hp.1
  obtain ⟨p1, p2, p3, p4, p5, p6⟩ := hb.2 i hi
  obtain ⟨q0, q0', q1, q2, q6, q7, q8, q9, q10, q11⟩ := hc.at hi
  obtain ⟨m0, m1, m2, m6, m7, m8, m9, m10, m11⟩ := hm.at hi
  have hpi : (L i 0).toNat < pn := by omega
  have hL0 : L i 0 = ((L i 0).toNat : Nat) := by omega
  generalize hpe : (L i 0).toNat = pi at hpi hL0 q0'
  have pr := hp.2.2.2.1 pi hpi
  have pb := hp.2.2.2.2.1 pi hpi
  obtain ⟨tk, htk⟩ : ∃ tk : Nat, P pi 7 = (tk : Int) := ⟨(P pi 7).toNat, by omega⟩
  have tk8 : tk < 256 := by omega
  have r7 := pr.2.2.1 7 (by omega)
  have r7' := pr.2.2.2.2.2.2.2.1
  rw [htk] at r7 r7'
  have hn8 := hnt_lt hr ho m (Nat.le_refl _)
  have hc1 := hint_c (F := F) hr hfc ho (by omega) hF
  have hc2 := hint_m (F := F) hr hfm ho (by omega) hF
  generalize hnt dc fd m = ht8 at hn8 hc1 hc2
  have or8 : tk ||| ht8 < 256 := Nat.or_lt_two_pow (n := 8) tk8 hn8
  -- told
  have hp' : RPair G7 (gI G9 (tp pi) 7 (iI ((tk ||| ht8 : Nat) : Int))) (gI G25 103 pi (iI ((tk ||| ht8 : Nat) : Int))) gn cn d n pn tp (stP P pi 7 ((tk ||| ht8 : Nat) : Int)) :=
    hp.set hpi (by omega) (fun e => by omega) (fun _ => by omega) (by rw [gI_g, if_neg (by omega)]) (fun j _ => by
      rw [gI_g, gI_g, gI_g, gI_g, if_neg (by omega), if_neg (by omega), if_neg (by omega), if_neg (by omega)]
      exact ⟨rfl, rfl, rfl, rfl⟩) (fun j _ => by
      rw [gI_g]
      by_cases e : j = pi
      · rw [if_pos ⟨rfl, e⟩, if_pos ⟨e, rfl⟩]
      · rw [if_neg (fun y => e y.2), if_neg (fun y => e y.1)]) (fun j _ => by rw [gI_g, if_neg (by omega), if_neg (by omega)])
  have hwe : hw (stP P pi 7 ((tk ||| ht8 : Nat) : Int)) L i = hw P L i := by
    unfold hw
    rw [stP_o (Or.inr (by omega)), stP_o (Or.inr (by omega))]
  have hc3 := hand_c (F := F) hc hb hp' hi
  rw [hwe] at hc3
  have hm3 := hand_m (F := F) hm hb hp hi
  obtain ⟨w32, -, -⟩ := hw_b hb hp hi
  generalize hw P L i = hd32 at w32 hc3 hm3
  have h49 := hh.1 hd32 w32
  obtain ⟨G12', G36', k1, k2, k3⟩ := marks_both (F := F) (G9 := gI G9 (tp pi) 7 (iI ((tk ||| ht8 : Nat) : Int))) (G13 := G13) (G23 := G23) (G24 := G24) (G25 := gI G25 103 pi (iI ((tk ||| ht8 : Nat) : Int))) (G29 := G29) (G30 := G30) (G32 := G32) hk hi hl w32 hF (iI pi) _ _ (hh.one hd32 (G36.1 147 hd32 + iI 1))
  -- the cut
  obtain ⟨x1, x2, x3, x4⟩ := hx i hi
  have hnm : (L i 6).toNat ≤ 160 := by omega
  have ht1 : ∀ j, j < (L i 6).toNat → isSg (X i j : Int) := fun j hj => (x4 j hj).2.2
  have e6 : L i 6 = ((L i 6).toNat : Nat) := by omega
  obtain ⟨G3', G13a, c1, c2, c3, c4, c5, c6, c7, c8⟩ := cut_c (F := F) (tx := X i) (t := tl i) (Le := Ln i) (c0 := L i 7) (G13 := G13) hr hfc ho x2 x1 x3 (fun q hq => ⟨(x4 q hq).1, ht1 q hq⟩) (by rw [q6]; congr 1) q7 hF
  obtain ⟨G32a, d1, d2, d3, d4, d5⟩ := cut_m (F := F) (tx := X i) (l := i) (c0 := L i 7) (G32 := G32) hr hfm ho hnm (by omega) ht.2.1 hF (fun j hj => ⟨(ht.2.2 j hj).1, sg_lt (ht1 j hj)⟩) m7
  have nle := cN_le (dc := dc) ho
  have tsg := cT_sg (dc := dc) (tx := X i) ho ht1
  generalize cN dc fd m (L i 6).toNat = K at c4 c7 d2 d4 nle tsg
  generalize cT dc fd (X i) m = Y at c4 d2 tsg
  generalize L i 7 + (cC dc fd m : Int) = cz at c8 d3
  have lc := hc.ct (a := (K : Int)) (b := cz) hi c5 c6 c7 c8
  have lm := hm.ct (a := (K : Int)) (b := cz) hi d5 d4 d3
  have lb := hb.ct (i := i) (a := (K : Int)) (b := cz) (by omega)
  have lt := hx.ct hc hb (b := cz) hi nle c2 c3 c4 d2 d5 tsg
  -- the tongues
  obtain ⟨t1, t2, t3⟩ := tong_m (F := F) hf hp' hpi
  have s1 : stP P pi 7 ((tk ||| ht8 : Nat) : Int) pi 1 = P pi 1 := stP_o (Or.inr (by omega))
  have s2 : stP P pi 7 ((tk ||| ht8 : Nat) : Int) pi 2 = P pi 2 := stP_o (Or.inr (by omega))
  rw [s1] at t1 t3
  rw [s2] at t2 t3
  have q13 : G13a.2.2 (tl i) 0 = some (tp pi) := by rw [c5]; exact q0'
  have fin : ∀ s : Int, (s = 4 ∨ s = 5) → RLet G3' G7 (gI G9 (tp pi) 7 (iI ((tk ||| ht8 : Nat) : Int))) G10 (gI (gI G13a (tl i) 8 (iI s)) (tl i) 9 (iI d)) G14 G15 (gI G25 103 pi (iI ((tk ||| ht8 : Nat) : Int))) (gI (gI G32a 135 i (iI s)) 136 i (iI d)) G33 G34 gn cn d n pn ln sn tp tl Ln (stP P pi 7 ((tk ||| ht8 : Nat) : Int)) (mv (ctL L i (K : Int) cz) i s d) (adX X i Y) := by
    intro s hs4
    have kp : KP ln L (mv (ctL L i (K : Int) cz) i s d) := KP.ct.tr (KP.mvK (by rw [ctL_o (Or.inr (by omega))]; omega) (by omega))
    refine ⟨hp', mv_c lc hi s d, mv_m lm hi s d, mv_b lb (by omega), hk, hg, lt.fr (fun j _ => mv_o (Or.inr (by omega))) (fun k => by
      rw [gI_g, gI_g, if_neg (by omega), if_neg (by omega)]), (hs.kp kp).pk (fun p _ => ?_), hwt.kp kp, hn⟩
    rw [stP_o (Or.inr (by omega)), stP_o (Or.inr (by omega)), stP_o (Or.inr (by omega))]
    exact ⟨rfl, rfl, rfl⟩
  have fr : ∀ a k, a < 174 → G3'.1 a k = G3.1 a k := fun a k ha => c3 a k (by have := (hc.2.1 i hi).2.2.2.1; omega)
  have cmk : f_X6_countMarks F (gI G9 (tp pi) 7 (iI ((tk ||| ht8 : Nat) : Int))) G12 G13 G14 (tl i) = some G12' := by
    have k1 : f_X6_countMarks_l17 F F (gI G9 (tp pi) 7 (iI ((tk ||| ht8 : Nat) : Int))) (gI G12 49 hd32 (G36.1 147 hd32 + iI 1)) G13 G14 (tl i) (iI hd32) (iI 0) = some G12' := k1
    unfold f_X6_countMarks
    simp only [bn_eq]
    simp (disch := omega) only [reduceIte, Nat.reduceEqDiff, Nat.reduceAdd, Nat.reduceSub, Nat.reduceMul, Nat.reduceLT, Int.reduceNeg, Int.reduceAdd, Int.reduceSub, Int.reduceMul, Int.reduceLT, Int.reduceLE, Int.reduceEq, Int.reduceToNat, reduceCtorEq, and_self, and_true, true_and, false_and, and_false, or_false, false_or, or_true, true_or, true_implies, false_implies, implies_true, not_true_eq_false, not_false_eq_true, Int.toNat_natCast, Int.cast_ofNat_Int, eq_self, ne_eq, ite_true, ite_false, if_true, if_false, Int.add_sub_cancel, Int.sub_add_cancel, Int.add_zero, Int.zero_add, cast_s, iI_in, iI_lit, iI_le, iI_lt, iI_eq, iI_cl, iI_add, iI_sub, iI_mul, iI_neg, iI_nI, ok_s, ok_ck, ok_bn, ok_ob, ck_iI, bn_eq, ob_s, om_n, om_s, cb_bI, gI_g, gI_2, gJ_1, gJ_g, gJ_2, gR_1, gR_2, gR_g, within_v, in_v, bI_i0, bI_i1, iI_bI0, iI_bI1, bI_T, bI_F, hc3, h49]
    exact k1
  have i132 : G32.1 132 i = iI pi := by rw [m0, hL0]
  have mm4 := moves_m (F := F) (G32 := G32a) hl h23 hi 4
  have mm5 := moves_m (F := F) (G32 := G32a) hl h23 hi 5
  have pm : f_X12_passes F G23 G24 G25 G29 G30 G32 G33 G36 (iI i) = f_X12_passes_l47 F F G23 G24 (gI G25 103 pi (iI ((tk ||| ht8 : Nat) : Int))) G29 G30 G32 G33 (gI G36 147 hd32 (G36.1 147 hd32 + iI 1)) (iI i) (iI pi) (iI hd32) (iI 0) := by
    unfold f_X12_passes
    simp only [bn_eq]
    simp (disch := omega) only [reduceIte, Nat.reduceEqDiff, Nat.reduceAdd, Nat.reduceSub, Nat.reduceMul, Nat.reduceLT, Int.reduceNeg, Int.reduceAdd, Int.reduceSub, Int.reduceMul, Int.reduceLT, Int.reduceLE, Int.reduceEq, Int.reduceToNat, reduceCtorEq, and_self, and_true, true_and, false_and, and_false, or_false, false_or, or_true, true_or, true_implies, false_implies, implies_true, not_true_eq_false, not_false_eq_true, Int.toNat_natCast, Int.cast_ofNat_Int, eq_self, ne_eq, ite_true, ite_false, if_true, if_false, Int.add_sub_cancel, Int.sub_add_cancel, Int.add_zero, Int.zero_add, cast_s, iI_in, iI_lit, iI_le, iI_lt, iI_eq, iI_cl, iI_add, iI_sub, iI_mul, iI_neg, iI_nI, ok_s, ok_ck, ok_bn, ok_ob, ck_iI, bn_eq, ob_s, om_n, om_s, cb_bI, gI_g, gI_2, gJ_1, gJ_g, gJ_2, gR_1, gR_2, gR_g, within_v, in_v, bI_i0, bI_i1, iI_bI0, iI_bI1, bI_T, bI_F, i132, hm3, hc2, r7', iI_or]
  by_cases c : G24.1 94 (P pi 1).toNat = G24.1 96 (P pi 2).toNat
  · rw [bI_t c] at t3
    refine ⟨G3', _, G12', _, _, _, G36', _, _, _, ?_, ?_, fin 5 (Or.inr rfl), k3, c2, fr⟩
    · unfold f_X6_pass
      rw [q0', om_s, hc1, ob_s, bn_eq, r7, iI_or, cmk, ob_s, c1, ob_s, q13, om_s, t3, ob_s, if_n (by decide)]
      rfl
    · rw [pm, k2, d1, ob_s, t1, ob_s, t2, ob_s, if_p c]
      unfold f_X12_passes_b120
      rw [mm5]
      rfl
  · rw [bI_f c] at t3
    refine ⟨G3', _, G12', _, _, _, G36', _, _, _, ?_, ?_, fin 4 (Or.inl rfl), k3, c2, fr⟩
    · unfold f_X6_pass
      rw [q0', om_s, hc1, ob_s, bn_eq, r7, iI_or, cmk, ob_s, c1, ob_s, q13, om_s, t3, ob_s, if_p rfl]
      rfl
    · rw [pm, k2, d1, ob_s, t1, ob_s, t2, ob_s, if_n c]
      unfold f_X12_passes_b120
      rw [mm4]
      rfl
end PR
