/-! both walk over the text -/
/-- line feeds below a place -/
def lfs (tx : Nat → Nat) (i : Nat) : Nat := cnt (fun x => tx x = 10) i
theorem lfs_le (tx : Nat → Nat) (i : Nat) : lfs tx i ≤ i := cnt_le _ i
theorem lfs_s (tx : Nat → Nat) (i : Nat) : lfs tx (i + 1) = lfs tx i + if tx i = 10 then 1 else 0 := cnt_s _ i
section PR
variable {F n : Nat} {G3 G5 G29 G30 : Grp} {f tc : Nat} {tx : Nat → Nat}
/-- the class: one sign on -/
theorem c_line (ht : TXC G3 tc n tx) {i : Nat} (hi : i < n) (e : Int32) (k13 : Grp → Grp → Nat → Nat → Int32 → Int32 → Int32 → Int32 → Option Grp) : f_X2_gather_b107 F k13 G3 G5 f tc (iI n) (iI (lfs tx i)) e (iI i) = k13 G3 G5 f tc (iI n) (iI (lfs tx (i + 1))) e (iI ((i : Int) + 1)) := by
  obtain ⟨t1, ⟨L, t2, t4, t5⟩, t3⟩ := ht
  have u := t3 i hi
  have hl := lfs_le tx i
  have ls := lfs_s tx i
  have ub : (tx i : Int) ≤ 200 := by have := u.2; unfold isSg isWd at this; omega
  by_cases c : tx i = 10
  · rw [if_pos c] at ls
    have c' : (tx i : Int) = 10 := by omega
    simp (disch := omega) only [reduceIte, Nat.reduceEqDiff, Nat.reduceAdd, Nat.reduceSub, Nat.reduceMul, Nat.reduceLT, Int.reduceNeg, Int.reduceAdd, Int.reduceSub, Int.reduceMul, Int.reduceLT, Int.reduceLE, Int.reduceEq, Int.reduceToNat, reduceCtorEq, and_self, and_true, true_and, false_and, and_false, or_false, false_or, or_true, true_or, true_implies, false_implies, implies_true, not_true_eq_false, not_false_eq_true, Int.toNat_natCast, Int.cast_ofNat_Int, eq_self, ne_eq, ite_true, ite_false, if_true, if_false, Int.add_sub_cancel, Int.sub_add_cancel, Int.add_zero, Int.zero_add, cast_s, iI_in, iI_lit, iI_le, iI_lt, iI_eq, iI_cl, iI_add, iI_sub, iI_mul, iI_neg, iI_nI, ok_s, ok_ck, ok_bn, ok_ob, ck_iI, bn_eq, ob_s, om_n, om_s, cb_bI, gI_g, gI_2, gJ_1, gJ_g, gJ_2, gR_1, gR_2, gR_g, within_v, in_v, bI_i0, bI_i1, iI_bI0, iI_bI1, bI_T, bI_F, f_X2_gather_b107, t2, Option.getD_some, u.1, ls, eq_true c']
  · rw [if_neg c] at ls
    have c' : ¬ (tx i : Int) = 10 := by omega
    simp (disch := omega) only [reduceIte, Nat.reduceEqDiff, Nat.reduceAdd, Nat.reduceSub, Nat.reduceMul, Nat.reduceLT, Int.reduceNeg, Int.reduceAdd, Int.reduceSub, Int.reduceMul, Int.reduceLT, Int.reduceLE, Int.reduceEq, Int.reduceToNat, reduceCtorEq, and_self, and_true, true_and, false_and, and_false, or_false, false_or, or_true, true_or, true_implies, false_implies, implies_true, not_true_eq_false, not_false_eq_true, Int.toNat_natCast, Int.cast_ofNat_Int, eq_self, ne_eq, ite_true, ite_false, if_true, if_false, Int.add_sub_cancel, Int.sub_add_cancel, Int.add_zero, Int.zero_add, cast_s, iI_in, iI_lit, iI_le, iI_lt, iI_eq, iI_cl, iI_add, iI_sub, iI_mul, iI_neg, iI_nI, ok_s, ok_ck, ok_bn, ok_ob, ck_iI, bn_eq, ob_s, om_n, om_s, cb_bI, gI_g, gI_2, gJ_1, gJ_g, gJ_2, gR_1, gR_2, gR_g, within_v, in_v, bI_i0, bI_i1, iI_bI0, iI_bI1, bI_T, bI_F, f_X2_gather_b107, t2, Option.getD_some, u.1, ls, c', Nat.add_zero]
/-- the class: over the rest of a find -/
theorem c_skip (ht : TXC G3 tc n tx) : ∀ d i fu, i + d ≤ n → f_X2_gather_l13 F (fu + d) G3 G5 f tc (iI n) (iI (lfs tx i)) (iI ((i + d : Nat) : Int)) (iI i) = f_X2_gather_l13 F fu G3 G5 f tc (iI n) (iI (lfs tx (i + d))) (iI ((i + d : Nat) : Int)) (iI ((i + d : Nat) : Int)) := by
  intro d
  induction d with
  | zero => intro i fu _; rfl
  | succ d ih =>
    intro i fu hn
    have tn := ht.1
    have r := ih (i + 1) fu (by omega)
    rw [show i + 1 + d = i + (d + 1) by omega] at r
    rw [← r]
    have e1 : ¬ (n : Int) ≤ i := by omega
    have e2 : (i : Int) < ((i + (d + 1) : Nat) : Int) := by omega
    show f_X2_gather_l13b F (f_X2_gather_l13 F (fu + d)) G3 G5 f tc _ _ _ _ = _
    generalize hx : i + (d + 1) = x at *
    have cl := c_line (F := F) (G5 := G5) (f := f) ht (i := i) (by omega) (iI (x : Int)) (f_X2_gather_l13 F (fu + d))
    unfold f_X2_gather_l13b
    rw [if_n (fun z => e1 ((iI_le (by omega) (by omega) (by omega) (by omega)).mp z)), if_p ((iI_lt (by omega) (by omega) (by omega) (by omega)).mpr e2), cl]
    rfl
/-- the reference: on to the find's end -/
theorem m_line (ht : TXM G30 n tx) (k46 : Grp → Grp → Int32 → Int32 → Option Grp) : ∀ d i fu, i + d ≤ n → d < fu → f_X12_looks_l168 F k46 fu G29 G30 (iI (lfs tx i)) (iI ((i + d : Nat) : Int)) (iI i) = k46 G29 G30 (iI (lfs tx (i + d))) (iI ((i + d : Nat) : Int)) := by
  obtain ⟨t1, t2, t3⟩ := ht
  intro d
  induction d with
  | zero =>
    intro i fu _ hfu
    obtain ⟨fu, rfl⟩ : ∃ f, fu = f + 1 := ⟨fu - 1, by omega⟩
    show f_X12_looks_l168b F k46 (f_X12_looks_l168 F k46 fu) G29 G30 (iI (lfs tx i)) (iI (i : Int)) (iI i) = _
    have e : (i : Int) ≤ i := Int.le_refl _
    simp (disch := omega) only [reduceIte, Nat.reduceEqDiff, Nat.reduceAdd, Nat.reduceSub, Nat.reduceMul, Nat.reduceLT, Int.reduceNeg, Int.reduceAdd, Int.reduceSub, Int.reduceMul, Int.reduceLT, Int.reduceLE, Int.reduceEq, Int.reduceToNat, reduceCtorEq, and_self, and_true, true_and, false_and, and_false, or_false, false_or, or_true, true_or, true_implies, false_implies, implies_true, not_true_eq_false, not_false_eq_true, Int.toNat_natCast, Int.cast_ofNat_Int, eq_self, ne_eq, ite_true, ite_false, if_true, if_false, Int.add_sub_cancel, Int.sub_add_cancel, Int.add_zero, Int.zero_add, cast_s, iI_in, iI_lit, iI_le, iI_lt, iI_eq, iI_cl, iI_add, iI_sub, iI_mul, iI_neg, iI_nI, ok_s, ok_ck, ok_bn, ok_ob, ck_iI, bn_eq, ob_s, om_n, om_s, cb_bI, gI_g, gI_2, gJ_1, gJ_g, gJ_2, gR_1, gR_2, gR_g, within_v, in_v, bI_i0, bI_i1, iI_bI0, iI_bI1, bI_T, bI_F, f_X12_looks_l168b, e]
    rfl
  | succ d ih =>
    intro i fu hn hfu
    obtain ⟨fu, rfl⟩ : ∃ f, fu = f + 1 := ⟨fu - 1, by omega⟩
    have r := ih (i + 1) fu (by omega) (by omega)
    rw [show i + 1 + d = i + (d + 1) by omega] at r
    rw [← r]
    have u := t3 i (by omega)
    have hl := lfs_le tx i
    have ls := lfs_s tx i
    have ub : (tx i : Int) ≤ 200 := by have := u.2; unfold isSg isWd at this; omega
    have e2 : ¬ ((i + (d + 1) : Nat) : Int) ≤ (i : Int) := by omega
    have e3 : ¬ (i : Int) + (d + 1) ≤ i := by omega
    show f_X12_looks_l168b F k46 (f_X12_looks_l168 F k46 fu) G29 G30 _ _ _ = _
    generalize hx : i + (d + 1) = x at *
    by_cases c : tx i = 10
    · rw [if_pos c] at ls
      have c' : (tx i : Int) = 10 := by omega
      simp (disch := omega) only [reduceIte, Nat.reduceEqDiff, Nat.reduceAdd, Nat.reduceSub, Nat.reduceMul, Nat.reduceLT, Int.reduceNeg, Int.reduceAdd, Int.reduceSub, Int.reduceMul, Int.reduceLT, Int.reduceLE, Int.reduceEq, Int.reduceToNat, reduceCtorEq, and_self, and_true, true_and, false_and, and_false, or_false, false_or, or_true, true_or, true_implies, false_implies, implies_true, not_true_eq_false, not_false_eq_true, Int.toNat_natCast, Int.cast_ofNat_Int, eq_self, ne_eq, ite_true, ite_false, if_true, if_false, Int.add_sub_cancel, Int.sub_add_cancel, Int.add_zero, Int.zero_add, cast_s, iI_in, iI_lit, iI_le, iI_lt, iI_eq, iI_cl, iI_add, iI_sub, iI_mul, iI_neg, iI_nI, ok_s, ok_ck, ok_bn, ok_ob, ck_iI, bn_eq, ob_s, om_n, om_s, cb_bI, gI_g, gI_2, gJ_1, gJ_g, gJ_2, gR_1, gR_2, gR_g, within_v, in_v, bI_i0, bI_i1, iI_bI0, iI_bI1, bI_T, bI_F, f_X12_looks_l168b, u.1, ls, e2, eq_true c']
    · rw [if_neg c] at ls
      have c' : ¬ (tx i : Int) = 10 := by omega
      simp (disch := omega) only [reduceIte, Nat.reduceEqDiff, Nat.reduceAdd, Nat.reduceSub, Nat.reduceMul, Nat.reduceLT, Int.reduceNeg, Int.reduceAdd, Int.reduceSub, Int.reduceMul, Int.reduceLT, Int.reduceLE, Int.reduceEq, Int.reduceToNat, reduceCtorEq, and_self, and_true, true_and, false_and, and_false, or_false, false_or, or_true, true_or, true_implies, false_implies, implies_true, not_true_eq_false, not_false_eq_true, Int.toNat_natCast, Int.cast_ofNat_Int, eq_self, ne_eq, ite_true, ite_false, if_true, if_false, Int.add_sub_cancel, Int.sub_add_cancel, Int.add_zero, Int.zero_add, cast_s, iI_in, iI_lit, iI_le, iI_lt, iI_eq, iI_cl, iI_add, iI_sub, iI_mul, iI_neg, iI_nI, ok_s, ok_ck, ok_bn, ok_ob, ck_iI, bn_eq, ob_s, om_n, om_s, cb_bI, gI_g, gI_2, gJ_1, gJ_g, gJ_2, gR_1, gR_2, gR_g, within_v, in_v, bI_i0, bI_i1, iI_bI0, iI_bI1, bI_T, bI_F, f_X12_looks_l168b, u.1, ls, c', e2, Nat.add_zero]
theorem FA.up {G G' : Grp} {c k a m : Nat} {fd : Fnd} (h : FA G c k a m fd) (h1 : G'.1 c k = iI ((m + 1 : Nat) : Int)) {x : Nat × Nat × Nat × Nat} (w : G'.1 a m = iI x.1 ∧ G'.1 (a + 1) m = iI x.2.1 ∧ G'.1 (a + 2) m = iI x.2.2.1 ∧ G'.1 (a + 3) m = iI x.2.2.2) (o : ∀ b j, a ≤ b → b ≤ a + 3 → j < m → G'.1 b j = G.1 b j) : FA G' c k a (m + 1) (upF fd m x) := by
  refine ⟨h1, fun j hj => ?_⟩
  unfold upF
  by_cases e : j = m
  · rw [if_pos e, e]; exact w
  · rw [if_neg e, o a j (by omega) (by omega) (by omega), o (a + 1) j (by omega) (by omega) (by omega), o (a + 2) j (by omega) (by omega) (by omega), o (a + 3) j (by omega) (by omega) (by omega)]
    exact h.2 j (by omega)
def frC (f : Nat) (G0 G : Grp) : Prop := G.2 = G0.2 ∧ ∀ a k, ¬ (a = f ∧ k = 0) → ¬ (f + 1 ≤ a ∧ a ≤ f + 4) → G.1 a k = G0.1 a k
def frM (G0 G : Grp) : Prop := G.2 = G0.2 ∧ ∀ a k, ¬ (a = 91 ∧ k = 51) → ¬ (124 ≤ a ∧ a ≤ 127) → G.1 a k = G0.1 a k
/-- the class writes a find down -/
theorem c_rec (ht : TXC G3 tc n tx) {m i k w : Nat} {fd : Fnd} (ha : FA G5 f 0 (f + 1) m fd) (hm : m ≤ i) (hi : i < n) (hw : i < w) (hwn : w ≤ n) (hk : k < 12) (e : Nat) (he : e ≤ i) (h5 : G5.1 (f + 5) i = iI k) (h6 : G5.1 (f + 6) i = iI w) (fu : Nat) : ∃ G', f_X2_gather_l13 F (fu + 1) G3 G5 f tc (iI n) (iI (lfs tx i)) (iI e) (iI i) = f_X2_gather_l13 F fu G3 G' f tc (iI n) (iI (lfs tx (i + 1))) (iI w) (iI ((i : Int) + 1)) ∧ frC f G5 G' ∧ FA G' f 0 (f + 1) (m + 1) (upF fd m (k, i, w - i, lfs tx i)) := by
  have tn := ht.1
  have hl := lfs_le tx i
  have ha0 := ha.1
  have s1 : ((w - i : Nat) : Int) = (w : Int) - i := by omega
  refine ⟨gI (gI (gI (gI (gI G5 (f + 1) m (iI k)) (f + 2) m (iI i)) (f + 3) m (iI ((w : Int) - i))) (f + 4) m (iI (lfs tx i))) f 0 (iI ((m : Int) + 1)), ?_, ⟨rfl, fun a j h1 h2 => ?_⟩, ha.up ?_ ?_ ?_⟩
  · show f_X2_gather_l13b F (f_X2_gather_l13 F fu) G3 G5 f tc _ _ _ _ = _
    have e1 : ¬ (n : Int) ≤ i := by omega
    have e2 : ¬ (i : Int) < e := by omega
    have e3 : ¬ (k : Int) = -1 := by omega
    have f1 : ¬ f = f + 1 := by omega
    have f2 : ¬ f = f + 2 := by omega
    have f3 : ¬ f = f + 3 := by omega
    have f4 : ¬ f = f + 4 := by omega
    have g1 : ¬ f + 5 = f + 1 := by omega
    have cl := c_line (F := F) (G5 := gI (gI (gI (gI (gI G5 (f + 1) m (iI k)) (f + 2) m (iI i)) (f + 3) m (iI ((w : Int) - i))) (f + 4) m (iI (lfs tx i))) f 0 (iI ((m : Int) + 1))) (f := f) ht (i := i) hi (iI (w : Int)) (f_X2_gather_l13 F fu)
    generalize lfs tx i = l at *
    simp (disch := omega) only [reduceIte, Nat.reduceEqDiff, Nat.reduceAdd, Nat.reduceSub, Nat.reduceMul, Nat.reduceLT, Int.reduceNeg, Int.reduceAdd, Int.reduceSub, Int.reduceMul, Int.reduceLT, Int.reduceLE, Int.reduceEq, Int.reduceToNat, reduceCtorEq, and_self, and_true, true_and, false_and, and_false, or_false, false_or, or_true, true_or, true_implies, false_implies, implies_true, not_true_eq_false, not_false_eq_true, Int.toNat_natCast, Int.cast_ofNat_Int, eq_self, ne_eq, ite_true, ite_false, if_true, if_false, Int.add_sub_cancel, Int.sub_add_cancel, Int.add_zero, Int.zero_add, cast_s, iI_in, iI_lit, iI_le, iI_lt, iI_eq, iI_cl, iI_add, iI_sub, iI_mul, iI_neg, iI_nI, ok_s, ok_ck, ok_bn, ok_ob, ck_iI, bn_eq, ob_s, om_n, om_s, cb_bI, gI_g, gI_2, gJ_1, gJ_g, gJ_2, gR_1, gR_2, gR_g, within_v, in_v, bI_i0, bI_i1, iI_bI0, iI_bI1, bI_T, bI_F, f_X2_gather_l13b, e1, e2, h5, h6, e3, ha0, f1, f2, f3, f4, g1]
    exact cl
  · simp (disch := omega) only [reduceIte, Nat.reduceEqDiff, Nat.reduceAdd, Nat.reduceSub, Nat.reduceMul, Nat.reduceLT, Int.reduceNeg, Int.reduceAdd, Int.reduceSub, Int.reduceMul, Int.reduceLT, Int.reduceLE, Int.reduceEq, Int.reduceToNat, reduceCtorEq, and_self, and_true, true_and, false_and, and_false, or_false, false_or, or_true, true_or, true_implies, false_implies, implies_true, not_true_eq_false, not_false_eq_true, Int.toNat_natCast, Int.cast_ofNat_Int, eq_self, ne_eq, ite_true, ite_false, if_true, if_false, Int.add_sub_cancel, Int.sub_add_cancel, Int.add_zero, Int.zero_add, cast_s, iI_in, iI_lit, iI_le, iI_lt, iI_eq, iI_cl, iI_add, iI_sub, iI_mul, iI_neg, iI_nI, ok_s, ok_ck, ok_bn, ok_ob, ck_iI, bn_eq, ob_s, om_n, om_s, cb_bI, gI_g, gI_2, gJ_1, gJ_g, gJ_2, gR_1, gR_2, gR_g, within_v, in_v, bI_i0, bI_i1, iI_bI0, iI_bI1, bI_T, bI_F, h1]
    rw [if_neg (by omega), if_neg (by omega), if_neg (by omega), if_neg (by omega)]
  · simp (disch := omega) only [reduceIte, Nat.reduceEqDiff, Nat.reduceAdd, Nat.reduceSub, Nat.reduceMul, Nat.reduceLT, Int.reduceNeg, Int.reduceAdd, Int.reduceSub, Int.reduceMul, Int.reduceLT, Int.reduceLE, Int.reduceEq, Int.reduceToNat, reduceCtorEq, and_self, and_true, true_and, false_and, and_false, or_false, false_or, or_true, true_or, true_implies, false_implies, implies_true, not_true_eq_false, not_false_eq_true, Int.toNat_natCast, Int.cast_ofNat_Int, eq_self, ne_eq, ite_true, ite_false, if_true, if_false, Int.add_sub_cancel, Int.sub_add_cancel, Int.add_zero, Int.zero_add, cast_s, iI_in, iI_lit, iI_le, iI_lt, iI_eq, iI_cl, iI_add, iI_sub, iI_mul, iI_neg, iI_nI, ok_s, ok_ck, ok_bn, ok_ob, ck_iI, bn_eq, ob_s, om_n, om_s, cb_bI, gI_g, gI_2, gJ_1, gJ_g, gJ_2, gR_1, gR_2, gR_g, within_v, in_v, bI_i0, bI_i1, iI_bI0, iI_bI1, bI_T, bI_F]
  · refine ⟨?_, ?_, ?_, ?_⟩
    · rw [gI_g, if_neg (by omega), gI_g, if_neg (by omega), gI_g, if_neg (by omega), gI_g, if_neg (by omega), gI_g, if_pos (by omega)]
    · rw [gI_g, if_neg (by omega), gI_g, if_neg (by omega), gI_g, if_neg (by omega), gI_g, if_pos (by omega)]
    · rw [gI_g, if_neg (by omega), gI_g, if_neg (by omega), gI_g, if_pos (by omega), ← s1]
    · rw [gI_g, if_neg (by omega), gI_g, if_pos (by omega)]
  · intro b j h1 h2 h3
    have hj : ¬ j = m := by omega
    simp (disch := omega) only [reduceIte, Nat.reduceEqDiff, Nat.reduceAdd, Nat.reduceSub, Nat.reduceMul, Nat.reduceLT, Int.reduceNeg, Int.reduceAdd, Int.reduceSub, Int.reduceMul, Int.reduceLT, Int.reduceLE, Int.reduceEq, Int.reduceToNat, reduceCtorEq, and_self, and_true, true_and, false_and, and_false, or_false, false_or, or_true, true_or, true_implies, false_implies, implies_true, not_true_eq_false, not_false_eq_true, Int.toNat_natCast, Int.cast_ofNat_Int, eq_self, ne_eq, ite_true, ite_false, if_true, if_false, Int.add_sub_cancel, Int.sub_add_cancel, Int.add_zero, Int.zero_add, cast_s, iI_in, iI_lit, iI_le, iI_lt, iI_eq, iI_cl, iI_add, iI_sub, iI_mul, iI_neg, iI_nI, ok_s, ok_ck, ok_bn, ok_ob, ck_iI, bn_eq, ob_s, om_n, om_s, cb_bI, gI_g, gI_2, gJ_1, gJ_g, gJ_2, gR_1, gR_2, gR_g, within_v, in_v, bI_i0, bI_i1, iI_bI0, iI_bI1, bI_T, bI_F, hj]
    rw [if_neg (by omega)]
end PR
