/-! both finds, side by side -/
section PR
variable {F n : Nat} {G3 G29 : Grp} {f tc : Nat} {tx : Nat → Nat}
/-- the reference writes a find down, and goes on behind it -/
theorem m_rec {G30 : Grp} (ht : TXM G30 n tx) {m i k w : Nat} {fd : Fnd} (ha : FA G30 91 51 124 m fd) (hm : m ≤ i) (hi : i < n) (hw : i < w) (hwn : w ≤ n) (hk : k < 12) (hF : 200000 ≤ F) (k46 : Grp → Grp → Int32 → Int32 → Option Grp) : ∃ G', f_X12_looks_b92 F k46 G29 G30 (iI (lfs tx i)) (iI i) (iI k) (iI ((w : Int) - i)) = k46 G29 G' (iI (lfs tx w)) (iI w) ∧ frM G30 G' ∧ FA G' 91 51 124 (m + 1) (upF fd m (k, i, w - i, lfs tx i)) := by
  have tn := ht.1
  have hl := lfs_le tx i
  have ha0 := ha.1
  have s1 : ((w - i : Nat) : Int) = (w : Int) - i := by omega
  have fr : frM G30 (gI (gI (gI (gI (gI G30 124 m (iI k)) 125 m (iI i)) 126 m (iI ((w : Int) - i))) 127 m (iI (lfs tx i))) 91 51 (iI ((m : Int) + 1))) := ⟨rfl, fun a j h1 h2 => by
    rw [gI_g, if_neg (by omega), gI_g, if_neg (by omega), gI_g, if_neg (by omega), gI_g, if_neg (by omega), gI_g, if_neg (by omega)]⟩
  refine ⟨_, ?_, fr, ha.up ?_ ⟨?_, ?_, ?_, ?_⟩ ?_⟩
  · have ht' : TXM (gI (gI (gI (gI (gI G30 124 m (iI k)) 125 m (iI i)) 126 m (iI ((w : Int) - i))) 127 m (iI (lfs tx i))) 91 51 (iI ((m : Int) + 1))) n tx := ⟨ht.1, by rw [fr.2 91 46 (by omega) (by omega)]; exact ht.2.1, fun j hj => by rw [fr.2 123 j (by omega) (by omega)]; exact ht.2.2 j hj⟩
    have ml := m_line (F := F) (G29 := G29) ht' k46 (w - i) i F (by omega) (by omega)
    rw [show i + (w - i) = w by omega] at ml
    have e1 : ¬ (w : Int) - i ≤ 0 := by omega
    have e2 : (i : Int) + ((w : Int) - i) = w := by omega
    generalize lfs tx i = l at *
    simp (disch := omega) only [reduceIte, Nat.reduceEqDiff, Nat.reduceAdd, Nat.reduceSub, Nat.reduceMul, Nat.reduceLT, Int.reduceNeg, Int.reduceAdd, Int.reduceSub, Int.reduceMul, Int.reduceLT, Int.reduceLE, Int.reduceEq, Int.reduceToNat, reduceCtorEq, and_self, and_true, true_and, false_and, and_false, or_false, false_or, or_true, true_or, true_implies, false_implies, implies_true, not_true_eq_false, not_false_eq_true, Int.toNat_natCast, Int.cast_ofNat_Int, eq_self, ne_eq, ite_true, ite_false, if_true, if_false, Int.add_sub_cancel, Int.sub_add_cancel, Int.add_zero, Int.zero_add, cast_s, iI_in, iI_lit, iI_le, iI_lt, iI_eq, iI_cl, iI_add, iI_sub, iI_mul, iI_neg, iI_nI, ok_s, ok_ck, ok_bn, ok_ob, ck_iI, bn_eq, ob_s, om_n, om_s, cb_bI, gI_g, gI_2, gJ_1, gJ_g, gJ_2, gR_1, gR_2, gR_g, within_v, in_v, bI_i0, bI_i1, iI_bI0, iI_bI1, bI_T, bI_F, f_X12_looks_b92, f_X12_looks_b148, e1, ha0, e2]
    exact ml
  · simp (disch := omega) only [reduceIte, Nat.reduceEqDiff, Nat.reduceAdd, Nat.reduceSub, Nat.reduceMul, Nat.reduceLT, Int.reduceNeg, Int.reduceAdd, Int.reduceSub, Int.reduceMul, Int.reduceLT, Int.reduceLE, Int.reduceEq, Int.reduceToNat, reduceCtorEq, and_self, and_true, true_and, false_and, and_false, or_false, false_or, or_true, true_or, true_implies, false_implies, implies_true, not_true_eq_false, not_false_eq_true, Int.toNat_natCast, Int.cast_ofNat_Int, eq_self, ne_eq, ite_true, ite_false, if_true, if_false, Int.add_sub_cancel, Int.sub_add_cancel, Int.add_zero, Int.zero_add, cast_s, iI_in, iI_lit, iI_le, iI_lt, iI_eq, iI_cl, iI_add, iI_sub, iI_mul, iI_neg, iI_nI, ok_s, ok_ck, ok_bn, ok_ob, ck_iI, bn_eq, ob_s, om_n, om_s, cb_bI, gI_g, gI_2, gJ_1, gJ_g, gJ_2, gR_1, gR_2, gR_g, within_v, in_v, bI_i0, bI_i1, iI_bI0, iI_bI1, bI_T, bI_F]
  · rw [gI_g, if_neg (by omega), gI_g, if_neg (by omega), gI_g, if_neg (by omega), gI_g, if_neg (by omega), gI_g, if_pos (by omega)]
  · rw [gI_g, if_neg (by omega), gI_g, if_neg (by omega), gI_g, if_neg (by omega), gI_g, if_pos (by omega)]
  · rw [gI_g, if_neg (by omega), gI_g, if_neg (by omega), gI_g, if_pos (by omega), ← s1]
  · rw [gI_g, if_neg (by omega), gI_g, if_pos (by omega)]
  · intro b j h1 h2 h3
    rw [gI_g, if_neg (by omega), gI_g, if_neg (by omega), gI_g, if_neg (by omega), gI_g, if_neg (by omega), gI_g, if_neg (by omega)]
/-- nothing there: on by one -/
theorem m_non {G30 : Grp} (ht : TXM G30 n tx) {i : Nat} (hi : i < n) (r : Int32) (hF : 200000 ≤ F) (k46 : Grp → Grp → Int32 → Int32 → Option Grp) : f_X12_looks_b92 F k46 G29 G30 (iI (lfs tx i)) (iI i) r (iI 0) = k46 G29 G30 (iI (lfs tx (i + 1))) (iI ((i + 1 : Nat) : Int)) := by
  have ml := m_line (F := F) (G29 := G29) ht k46 1 i F (by omega) (by omega)
  have tn := ht.1
  simp (disch := omega) only [reduceIte, Nat.reduceEqDiff, Nat.reduceAdd, Nat.reduceSub, Nat.reduceMul, Nat.reduceLT, Int.reduceNeg, Int.reduceAdd, Int.reduceSub, Int.reduceMul, Int.reduceLT, Int.reduceLE, Int.reduceEq, Int.reduceToNat, reduceCtorEq, and_self, and_true, true_and, false_and, and_false, or_false, false_or, or_true, true_or, true_implies, false_implies, implies_true, not_true_eq_false, not_false_eq_true, Int.toNat_natCast, Int.cast_ofNat_Int, eq_self, ne_eq, ite_true, ite_false, if_true, if_false, Int.add_sub_cancel, Int.sub_add_cancel, Int.add_zero, Int.zero_add, cast_s, iI_in, iI_lit, iI_le, iI_lt, iI_eq, iI_cl, iI_add, iI_sub, iI_mul, iI_neg, iI_nI, ok_s, ok_ck, ok_bn, ok_ob, ck_iI, bn_eq, ob_s, om_n, om_s, cb_bI, gI_g, gI_2, gJ_1, gJ_g, gJ_2, gR_1, gR_2, gR_g, within_v, in_v, bI_i0, bI_i1, iI_bI0, iI_bI1, bI_T, bI_F, f_X12_looks_b92, f_X12_looks_b148]
  exact ml
theorem c_non {G5 : Grp} (ht : TXC G3 tc n tx) {i e : Nat} (hi : i < n) (he : e ≤ i) (h5 : G5.1 (f + 5) i = iI (-1)) (fu : Nat) : f_X2_gather_l13 F (fu + 1) G3 G5 f tc (iI n) (iI (lfs tx i)) (iI e) (iI i) = f_X2_gather_l13 F fu G3 G5 f tc (iI n) (iI (lfs tx (i + 1))) (iI e) (iI ((i + 1 : Nat) : Int)) := by
  have tn := ht.1
  have e1 : ¬ (n : Int) ≤ i := by omega
  have e2 : ¬ (i : Int) < e := by omega
  have cl := c_line (F := F) (G5 := G5) (f := f) ht (i := i) hi (iI (e : Int)) (f_X2_gather_l13 F fu)
  show f_X2_gather_l13b F (f_X2_gather_l13 F fu) G3 G5 f tc _ _ _ _ = _
  simp (disch := omega) only [reduceIte, Nat.reduceEqDiff, Nat.reduceAdd, Nat.reduceSub, Nat.reduceMul, Nat.reduceLT, Int.reduceNeg, Int.reduceAdd, Int.reduceSub, Int.reduceMul, Int.reduceLT, Int.reduceLE, Int.reduceEq, Int.reduceToNat, reduceCtorEq, and_self, and_true, true_and, false_and, and_false, or_false, false_or, or_true, true_or, true_implies, false_implies, implies_true, not_true_eq_false, not_false_eq_true, Int.toNat_natCast, Int.cast_ofNat_Int, eq_self, ne_eq, ite_true, ite_false, if_true, if_false, Int.add_sub_cancel, Int.sub_add_cancel, Int.add_zero, Int.zero_add, cast_s, iI_in, iI_lit, iI_le, iI_lt, iI_eq, iI_cl, iI_add, iI_sub, iI_mul, iI_neg, iI_nI, ok_s, ok_ck, ok_bn, ok_ob, ck_iI, bn_eq, ob_s, om_n, om_s, cb_bI, gI_g, gI_2, gJ_1, gJ_g, gJ_2, gR_1, gR_2, gR_g, within_v, in_v, bI_i0, bI_i1, iI_bI0, iI_bI1, bI_T, bI_F, f_X2_gather_l13b, e1, e2, h5]
  exact cl
theorem SE_eq {G G' : Grp} (h : G'.2 = G.2) (k i j : Nat) : SE G' k i j ↔ SE G k i j := by
  unfold SE wd
  rw [h]
/-- the rules' values at each place, known to both -/
def WOK (f n r : Nat) (G29 G5 G30 : Grp) (rt : Nat → Nat) (W : Nat → Nat → Int) : Prop := r ≤ 12 ∧ G29.1 91 38 = iI r ∧ (∀ i, i < n → G5.1 (f + 5) i = iI (frz (fru (fun k => W k i) r i)) ∧ ∀ k, fru (fun k => W k i) r i = some k → G5.1 (f + 6) i = iI (W k i)) ∧ ∀ k, k < r → rt k < 420 ∧ G29.1 116 k = iI (rt k) ∧ ∀ i, i < n → W k i = gst (fun j => SE G30 (rt k) i j) (n + 1)
theorem both_l {r : Nat} {G50 G300 : Grp} {rt : Nat → Nat} {W : Nat → Nat → Int} (hc : TXC G3 tc n tx) (hm : TXM G300 n tx) (hW : WOK f n r G29 G50 G300 rt W) (hF : 200000 ≤ F) : ∀ d i, i + d = n → ∀ e m fd G5 G30 fc fm, e ≤ i → d < fc → d < fm → frC f G50 G5 → frM G300 G30 → FA G5 f 0 (f + 1) m fd → FA G30 91 51 124 m fd → FO m r i fd → ∃ G5' G30' m' fd', f_X2_gather_l13 F fc G3 G5 f tc (iI n) (iI (lfs tx i)) (iI e) (iI i) = some G5' ∧ f_X12_looks_l46 F fm G29 G30 (iI (lfs tx i)) (iI i) = some G30' ∧ frC f G50 G5' ∧ frM G300 G30' ∧ FA G5' f 0 (f + 1) m' fd' ∧ FA G30' 91 51 124 m' fd' ∧ FO m' r n fd' := by
  intro d
  have tn := hc.1
  obtain ⟨w1, w2, w3, w4⟩ := hW
  induction d using Nat.strongRecOn with
  | _ d ih =>
    intro i hd e m fd G5 G30 fc fm he hfc hfm r5 r30 a5 a30 ho
    obtain ⟨fc, rfl⟩ : ∃ f, fc = f + 1 := ⟨fc - 1, by omega⟩
    obtain ⟨fm, rfl⟩ : ∃ f, fm = f + 1 := ⟨fm - 1, by omega⟩
    have hm' : TXM G30 n tx := ⟨hm.1, by rw [r30.2 91 46 (by omega) (by omega)]; exact hm.2.1, fun j hj => by rw [r30.2 123 j (by omega) (by omega)]; exact hm.2.2 j hj⟩
    have t2 := hm'.2.1
    by_cases c : i = n
    · subst c
      refine ⟨G5, G30, m, fd, ?_, ?_, r5, r30, a5, a30, ho⟩
      · show f_X2_gather_l13b F (f_X2_gather_l13 F fc) G3 G5 f tc _ _ _ _ = _
        have e1 : (i : Int) ≤ i := Int.le_refl _
        simp (disch := omega) only [reduceIte, Nat.reduceEqDiff, Nat.reduceAdd, Nat.reduceSub, Nat.reduceMul, Nat.reduceLT, Int.reduceNeg, Int.reduceAdd, Int.reduceSub, Int.reduceMul, Int.reduceLT, Int.reduceLE, Int.reduceEq, Int.reduceToNat, reduceCtorEq, and_self, and_true, true_and, false_and, and_false, or_false, false_or, or_true, true_or, true_implies, false_implies, implies_true, not_true_eq_false, not_false_eq_true, Int.toNat_natCast, Int.cast_ofNat_Int, eq_self, ne_eq, ite_true, ite_false, if_true, if_false, Int.add_sub_cancel, Int.sub_add_cancel, Int.add_zero, Int.zero_add, cast_s, iI_in, iI_lit, iI_le, iI_lt, iI_eq, iI_cl, iI_add, iI_sub, iI_mul, iI_neg, iI_nI, ok_s, ok_ck, ok_bn, ok_ob, ck_iI, bn_eq, ob_s, om_n, om_s, cb_bI, gI_g, gI_2, gJ_1, gJ_g, gJ_2, gR_1, gR_2, gR_g, within_v, in_v, bI_i0, bI_i1, iI_bI0, iI_bI1, bI_T, bI_F, f_X2_gather_l13b, e1]
      · show f_X12_looks_l46b F (f_X12_looks_l46 F fm) G29 G30 _ _ = _
        have e1 : (i : Int) ≤ i := Int.le_refl _
        simp (disch := omega) only [reduceIte, Nat.reduceEqDiff, Nat.reduceAdd, Nat.reduceSub, Nat.reduceMul, Nat.reduceLT, Int.reduceNeg, Int.reduceAdd, Int.reduceSub, Int.reduceMul, Int.reduceLT, Int.reduceLE, Int.reduceEq, Int.reduceToNat, reduceCtorEq, and_self, and_true, true_and, false_and, and_false, or_false, false_or, or_true, true_or, true_implies, false_implies, implies_true, not_true_eq_false, not_false_eq_true, Int.toNat_natCast, Int.cast_ofNat_Int, eq_self, ne_eq, ite_true, ite_false, if_true, if_false, Int.add_sub_cancel, Int.sub_add_cancel, Int.add_zero, Int.zero_add, cast_s, iI_in, iI_lit, iI_le, iI_lt, iI_eq, iI_cl, iI_add, iI_sub, iI_mul, iI_neg, iI_nI, ok_s, ok_ck, ok_bn, ok_ob, ck_iI, bn_eq, ob_s, om_n, om_s, cb_bI, gI_g, gI_2, gJ_1, gJ_g, gJ_2, gR_1, gR_2, gR_g, within_v, in_v, bI_i0, bI_i1, iI_bI0, iI_bI1, bI_T, bI_F, f_X12_looks_l46b, t2, e1]
    · have hi : i < n := by omega
      have fv := first_v (F := F) (G29 := G29) hm' w1 w2 (rt := rt) (W := fun k => W k i) (fun k hk => by
        obtain ⟨z1, z2, z3⟩ := w4 k hk
        exact ⟨z1, z2, by rw [z3 i hi]; exact gst_congr fun j _ => (SE_eq r30.1 _ _ _).symm⟩) hi hF (f_X12_looks_l46 F fm) (iI (lfs tx i))
      have lv : f_X12_looks_l46 F (fm + 1) G29 G30 (iI (lfs tx i)) (iI i) = f_X12_looks_l59 F (f_X12_looks_l46 F fm) F G29 G30 (iI (lfs tx i)) (iI i) (iI 0) (iI 0) := by
        show f_X12_looks_l46b F (f_X12_looks_l46 F fm) G29 G30 _ _ = _
        have e1 : ¬ (n : Int) ≤ i := by omega
        simp (disch := omega) only [reduceIte, Nat.reduceEqDiff, Nat.reduceAdd, Nat.reduceSub, Nat.reduceMul, Nat.reduceLT, Int.reduceNeg, Int.reduceAdd, Int.reduceSub, Int.reduceMul, Int.reduceLT, Int.reduceLE, Int.reduceEq, Int.reduceToNat, reduceCtorEq, and_self, and_true, true_and, false_and, and_false, or_false, false_or, or_true, true_or, true_implies, false_implies, implies_true, not_true_eq_false, not_false_eq_true, Int.toNat_natCast, Int.cast_ofNat_Int, eq_self, ne_eq, ite_true, ite_false, if_true, if_false, Int.add_sub_cancel, Int.sub_add_cancel, Int.add_zero, Int.zero_add, cast_s, iI_in, iI_lit, iI_le, iI_lt, iI_eq, iI_cl, iI_add, iI_sub, iI_mul, iI_neg, iI_nI, ok_s, ok_ck, ok_bn, ok_ob, ck_iI, bn_eq, ob_s, om_n, om_s, cb_bI, gI_g, gI_2, gJ_1, gJ_g, gJ_2, gR_1, gR_2, gR_g, within_v, in_v, bI_i0, bI_i1, iI_bI0, iI_bI1, bI_T, bI_F, f_X12_looks_l46b, t2, e1]
      rw [lv, fv]
      obtain ⟨y1, y2⟩ := w3 i hi
      have g5 : ∀ k, G5.1 (f + 5) k = G50.1 (f + 5) k := fun k => r5.2 _ _ (by omega) (by omega)
      have g6 : ∀ k, G5.1 (f + 6) k = G50.1 (f + 6) k := fun k => r5.2 _ _ (by omega) (by omega)
      rw [← g5] at y1
      simp only [← g6] at y2
      change G5.1 (f + 5) i = iI (frz (fst (fun k => (i : Int) < W k i) r)) at y1
      change ∀ k, fst (fun k => (i : Int) < W k i) r = some k → _ at y2
      cases q : fst (fun k => (i : Int) < W k i) r with
      | none =>
        rw [q] at y1
        have cn := c_non (F := F) (G3 := G3) hc hi he y1 fc
        have mn := m_non (F := F) (G29 := G29) hm' hi (iI r) hF (f_X12_looks_l46 F fm)
        rw [cn]
        show ∃ G5' G30' m' fd', _ ∧ f_X12_looks_b92 F (f_X12_looks_l46 F fm) G29 G30 (iI (lfs tx i)) (iI i) (iI r) (iI 0) = some G30' ∧ _
        rw [mn]
        exact ih (d - 1) (by omega) (i + 1) (by omega) e m fd G5 G30 fc fm (by omega) (by omega) (by omega) r5 r30 a5 a30 (ho.to (Nat.le_succ i))
      | some k =>
        rw [q] at y1
        have y3 := y2 k q
        obtain ⟨k1, k2, _⟩ := fst_some.mp q
        obtain ⟨z1, z2, z3⟩ := w4 k k1
        have wb := gst_b (fun j => SE G300 (rt k) i j) (n + 1)
        rw [← z3 i hi] at wb
        obtain ⟨w, hw⟩ : ∃ w : Nat, W k i = (w : Int) := ⟨(W k i).toNat, by omega⟩
        rw [hw] at k2 wb y3
        obtain ⟨G5', c1, c2, c3⟩ := c_rec (F := F) (fd := fd) (m := m) hc (k := k) (w := w) a5 ho.1 hi (by omega) (by omega) (by omega) e he y1 y3 fc
        obtain ⟨G30', m1, m2, m3⟩ := m_rec (F := F) (G29 := G29) (fd := fd) (m := m) hm' (k := k) (w := w) a30 ho.1 hi (by omega) (by omega) (by omega) hF (f_X12_looks_l46 F fm)
        show ∃ G5' G30' m' fd', _ ∧ f_X12_looks_b92 F (f_X12_looks_l46 F fm) G29 G30 (iI (lfs tx i)) (iI i) (iI k) (iI (W k i - i)) = some G30' ∧ _
        rw [hw, c1, m1]
        have sk := c_skip (F := F) (G5 := G5') (f := f) hc (w - (i + 1)) (i + 1) (fc - (w - (i + 1))) (by omega)
        rw [show fc - (w - (i + 1)) + (w - (i + 1)) = fc by omega, show i + 1 + (w - (i + 1)) = w by omega] at sk
        rw [show (i : Int) + 1 = ((i + 1 : Nat) : Int) from rfl, sk]
        exact ih (n - w) (by omega) w (by omega) w (m + 1) _ G5' G30' _ fm (Nat.le_refl _) (by omega) (by omega) ⟨c2.1.trans r5.1, fun a j h1 h2 => (c2.2 a j h1 h2).trans (r5.2 a j h1 h2)⟩ ⟨m2.1.trans r30.1, fun a j h1 h2 => (m2.2 a j h1 h2).trans (r30.2 a j h1 h2)⟩ c3 m3 (ho.add k1 (by omega) (by have := lfs_le tx i; omega))
end PR
